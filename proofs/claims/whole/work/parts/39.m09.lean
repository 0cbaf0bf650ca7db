def FL_X7_owes_72  : Nat → SI → SJ → Int32 → Int32 → Int32 → Nat → Int32 → Int32 → Int32 → Option (Int32 × SI × SJ)
  | 0, _, _, _, _, _, _, _, _, _ => none
  | n + 1, I, J, w2_72, w4_72, w5_72, w6_72, w8_72, w9_72, w10_72 => (if w5_72 ≤ w10_72 then (some (w8_72, I, J)) else ((F_X7_draw w9_72).bind fun r9 => ((F_X4_drawnBushels w6_72 I J w2_72 r9 w10_72).bind fun r10 => (FL_X7_owes_72 n I J w2_72 w4_72 w5_72 w6_72 (w8_72 + (r10 - w4_72)) r9 (w10_72 + 1)))))
def F_X7_owes (I : SI) (J : SJ) (v1 : Int32) (v2 : Int32) (v3 : Int32) (v4 : Int32) (v5 : Int32) : Option (Int32 × SI × SJ) := ((F_X1_termAt 0 I J v1).bind fun r1 => (match r1 with | none => ((F_X7_refuseAsTold I J (-1 : Int32)).bind fun (r2, I2, J2) => (some (r2, I2, J2))) | some t1 => ((F_X1_hasPains 0 I J v2).bind fun r3 => (if r3 = 0 then ((F_X7_refuseAsTold I J (-1 : Int32)).bind fun (r12, I12, J12) => (some (r12, I12, J12))) else ((F_X7_refusalOfDebts v4 v5).bind fun r5 => (if r5 = 0 then ((F_X4_lay I J (0 : Int32) (0 : Int32) (0 : Int32)).bind fun (I7, J7) => (FL_X7_owes_72 3000 I7 J7 v2 v4 v5 t1 (0 : Int32) v3 (0 : Int32))) else ((F_X7_refuseAsTold I J r5).bind fun (r11, I11, J11) => (some (r11, I11, J11)))))))))
set_option maxHeartbeats 4000000 in
set_option maxRecDepth 100000 in
theorem c_X7_owes (l : Launch) (g : Gx) (ad : Nat → Nat) (I : SI) (J : SJ) (v1 : Int32) (v2 : Int32) (v3 : Int32) (v4 : Int32) (v5 : Int32)  (sz : Nat) {r : Int32} {rI : SI} {rJ : SJ} (h : F_X7_owes I J v1 v2 v3 v4 v5 = some (r, rI, rJ)) : Met l yX7_owes (Cond.code yX7_owes cX7_owes 11 (some .int) :: BG) (k2_rm 4 95) (PcW [.ref (ad 59), .int v1, .int v2, .int v3, .int v4, .int v5] g (xW ad g I J) sz) (QWi r g (xW ad g I J) (xW ad g rI rJ) sz) 0 0 (va_A (xW ad g I J) sz) := by
  refine mkWi (by decide) (Nat.le_of_ble_eq_true rfl) ?_
  intro p e s m args below meth c H locs ls A Q hC hK hP hD hA hS hl hret
  have hx := hC.1
  have hb := hC.2.1
  have hts := hC.2.2.2.2
  have hown := hC.2.2.2.1
  replace hl : lv_has ls 11 [(0, .ref (ad 59)), (1, .int v1), (2, .int v2), (3, .int v3), (4, .int v4), (5, .int v5)] := hl
  have loop_72 : ∀ (n : Nat) (I : SI) (J : SJ) (w2_72 : Int32) (w4_72 : Int32) (w5_72 : Int32) (w6_72 : Nat) (w8_72 : Int32) (w9_72 : Int32) (w10_72 : Int32)  (H : Heap) (locs : List Loc) (ls : Array Slot), isT w6_72 → FL_X7_owes_72 n I J w2_72 w4_72 w5_72 w6_72 w8_72 w9_72 w10_72 = some (r, rI, rJ) → Pg g (xW ad g I J) H → va_D A (xW ad g I J) → va_S A s.heap H locs → lv_has ls 11 [(0, .ref (ad 59)), (2, .int w2_72), (4, .int w4_72), (5, .int w5_72), (6, .ref (ad w6_72)), (8, .int w8_72), (9, .int w9_72), (10, .int w10_72)] → W p l e (k2_rm 4 95) s m args below meth c H locs 0 0 Q (F0 m 72 ls []) := by
    intro n
    induction n with
    | zero =>
      intro I J w2_72 w4_72 w5_72 w6_72 w8_72 w9_72 w10_72 H locs ls hw6_72 h
      exact no h
    | succ n ih =>
      intro I J w2_72 w4_72 w5_72 w6_72 w8_72 w9_72 w10_72 H locs ls hw6_72 h hP hD hS hl
      rw [FL_X7_owes_72] at h
      refine lv_iload hx hb dX7_owes_72 (lv_at hl 7 rfl) ?_
      refine lv_iload hx hb dX7_owes_74 (lv_at hl 3 rfl) ?_
      refine lv_icmp_ge (tgt := 114) hx hb dX7_owes_76 (by decide) (fun c8 => ?_) (fun c8 => ?_)
      · replace h := (if_pos c8).symm.trans h
        refine lv_iload hx hb dX7_owes_114 (lv_at hl 5 rfl) ?_
        obtain ⟨h1, h⟩ := Prod.mk.inj (Option.some.inj h)
        obtain ⟨rfl, rfl⟩ := Prod.mk.inj h
        exact hret _ _ _ _ _ dX7_owes_116 h1 hP hD hS
      · replace h := (if_neg c8).symm.trans h
        refine lv_iload hx hb dX7_owes_79 (lv_at hl 6 rfl) ?_
        obtain ⟨r9, hc9, h⟩ := ob h
        refine callRS (As := [.int w9_72]) (rest := []) hC (c_X7_draw l g (xW ad g I J) w9_72 hc9) lk_X7_266 rfl rfl ⟨Nat.le_of_ble_eq_true rfl, Nat.le_of_ble_eq_true rfl⟩ hP hK rfl rfl hl (Nat.le_of_ble_eq_true rfl) dX7_owes_81 ?_
        refine lv_istore (lv' := [(9, .int r9), (0, .ref (ad 59)), (2, .int w2_72), (4, .int w4_72), (5, .int w5_72), (6, .ref (ad w6_72)), (8, .int w8_72), (10, .int w10_72)]) hx hb dX7_owes_84 hl (by decide) rfl (fun ls hl => ?_)
        refine lv_iload hx hb dX7_owes_86 (lv_at hl 6 rfl) ?_
        refine lv_aload_n hx hb dX7_owes_88 rfl (lv_at hl 1 rfl) ?_
        refine gt_X7_34 hC hK hP dX7_owes_89 ?_
        refine lv_aload hx hb dX7_owes_92 (lv_at hl 5 rfl) ?_
        refine lv_iload_n hx hb dX7_owes_94 rfl (lv_at hl 2 rfl) ?_
        refine lv_iload hx hb dX7_owes_95 (lv_at hl 0 rfl) ?_
        refine lv_iload hx hb dX7_owes_97 (lv_at hl 7 rfl) ?_
        obtain ⟨r10, hc10, h⟩ := ob h
        refine callRV (As := [.ref (ad w6_72), .int w2_72, .int r9, .int w10_72]) (rest := [.int w8_72]) hC (c_X4_drawnBushels l g ad I J w6_72 w2_72 r9 w10_72 hw6_72 hc10) lk_X7_269 rfl rfl ⟨Nat.le_of_ble_eq_true rfl, Nat.le_of_ble_eq_true rfl⟩ hP hK xo_47 rfl rfl rfl hl (Nat.le_of_ble_eq_true rfl) dX7_owes_99 ?_
        refine lv_iload hx hb dX7_owes_102 (lv_at hl 3 rfl) ?_
        refine lv_isub hx hb dX7_owes_104 ?_
        refine lv_iadd hx hb dX7_owes_105 ?_
        refine lv_istore (lv' := [(8, .int (w8_72 + (r10 - w4_72))), (9, .int r9), (0, .ref (ad 59)), (2, .int w2_72), (4, .int w4_72), (5, .int w5_72), (6, .ref (ad w6_72)), (10, .int w10_72)]) hx hb dX7_owes_106 hl (by decide) rfl (fun ls hl => ?_)
        refine lv_iinc (v := (w10_72 + 1)) (lv' := [(10, .int (w10_72 + 1)), (8, .int (w8_72 + (r10 - w4_72))), (9, .int r9), (0, .ref (ad 59)), (2, .int w2_72), (4, .int w4_72), (5, .int w5_72), (6, .ref (ad w6_72))]) hx hb dX7_owes_108 hl (k := 7) rfl rfl (by decide) rfl (fun ls hl => ?_)
        refine lv_goto (tgt := 72) hx hb dX7_owes_111 (by decide) ?_
        exact ih I J w2_72 w4_72 w5_72 w6_72 (w8_72 + (r10 - w4_72)) r9 (w10_72 + 1) _ _ _ hw6_72 h hP hD hS (lv_sub hl [3, 4, 5, 6, 7, 1, 2, 0] rfl)
  unfold F_X7_owes at h
  refine lv_aload_n hx hb dX7_owes_0 rfl (lv_at hl 0 rfl) ?_
  refine gt_X7_10 hC hK hP dX7_owes_1 ?_
  refine lv_iload_n hx hb dX7_owes_4 rfl (lv_at hl 1 rfl) ?_
  obtain ⟨r1, hc1, h⟩ := ob h
  rcases r1 with _ | t1
  · refine callRV (As := [.int v1]) (rest := []) hC (c_X1_termAt l g ad I J 0 v1 (Or.inl rfl) hc1) lk_X7_106 rfl rfl ⟨Nat.le_of_ble_eq_true rfl, Nat.le_of_ble_eq_true rfl⟩ hP hK (xEo (Or.inl rfl)) rfl rfl rfl hl (Nat.le_of_ble_eq_true rfl) dX7_owes_5 ?_
    refine lv_astoreN (lv' := [(6, .null), (0, .ref (ad 59)), (1, .int v1), (2, .int v2), (3, .int v3), (4, .int v4), (5, .int v5)]) hx hb dX7_owes_8 hl (by decide) rfl (fun ls hl => ?_)
    refine lv_aloadN hx hb dX7_owes_10 (lv_at hl 0 rfl) ?_
    refine lv_ifnullN (tgt := 26) hx hb dX7_owes_12 (by decide) ?_
    refine lv_aload_n hx hb dX7_owes_26 rfl (lv_at hl 1 rfl) ?_
    refine lv_iconst (v := -1) hx hb dX7_owes_27 (by decide) ?_
    obtain ⟨⟨r2, I2, J2⟩, hc2, h⟩ := ob h
    dsimp only at h
    refine callWVi (As := [.int (-1 : Int32)]) (rest := []) hC (c_X7_refuseAsTold l g ad I J (-1 : Int32)  H.size hc2) lk_X7_158 rfl rfl ⟨Nat.le_of_ble_eq_true rfl, Nat.le_of_ble_eq_true rfl⟩ hP hK hD hA hS xo_59 rfl rfl rfl hl (Nat.le_of_ble_eq_true rfl) dX7_owes_28 (fun H locs hP hD hS => ?_)
    obtain ⟨h1, h⟩ := Prod.mk.inj (Option.some.inj h)
    obtain ⟨rfl, rfl⟩ := Prod.mk.inj h
    exact hret _ _ _ _ _ dX7_owes_31 h1 hP hD hS
  · have hTt1 : isT t1 := termAt_isT (Or.inl rfl) hc1
    refine callRV (As := [.int v1]) (rest := []) hC (c_X1_termAt l g ad I J 0 v1 (Or.inl rfl) hc1) lk_X7_106 rfl rfl ⟨Nat.le_of_ble_eq_true rfl, Nat.le_of_ble_eq_true rfl⟩ hP hK (xEo (Or.inl rfl)) rfl rfl rfl hl (Nat.le_of_ble_eq_true rfl) dX7_owes_5 ?_
    refine lv_astore (lv' := [(6, .ref (ad t1)), (0, .ref (ad 59)), (1, .int v1), (2, .int v2), (3, .int v3), (4, .int v4), (5, .int v5)]) hx hb dX7_owes_8 hl (by decide) rfl (fun ls hl => ?_)
    refine lv_aload hx hb dX7_owes_10 (lv_at hl 0 rfl) ?_
    refine lv_ifnull hx hb dX7_owes_12 ?_
    refine lv_aload_n hx hb dX7_owes_15 rfl (lv_at hl 1 rfl) ?_
    refine gt_X7_10 hC hK hP dX7_owes_16 ?_
    refine lv_iload_n hx hb dX7_owes_19 rfl (lv_at hl 3 rfl) ?_
    obtain ⟨r3, hc3, h⟩ := ob h
    refine callRV (As := [.int v2]) (rest := []) hC (c_X1_hasPains l g ad I J 0 v2 (Or.inl rfl) hc3) lk_X7_148 rfl rfl ⟨Nat.le_of_ble_eq_true rfl, Nat.le_of_ble_eq_true rfl⟩ hP hK (xEo (Or.inl rfl)) rfl rfl rfl hl (Nat.le_of_ble_eq_true rfl) dX7_owes_20 ?_
    refine lv_if_ne (tgt := 32) hx hb dX7_owes_23 (by decide) (fun c4 => ?_) (fun c4 => ?_)
    · replace h := (if_neg c4).symm.trans h
      refine lv_iload hx hb dX7_owes_32 (lv_at hl 5 rfl) ?_
      refine lv_iload hx hb dX7_owes_34 (lv_at hl 6 rfl) ?_
      obtain ⟨r5, hc5, h⟩ := ob h
      refine callRS (As := [.int v4, .int v5]) (rest := []) hC (c_X7_refusalOfDebts l g (xW ad g I J) v4 v5 hc5) lk_X7_259 rfl rfl ⟨Nat.le_of_ble_eq_true rfl, Nat.le_of_ble_eq_true rfl⟩ hP hK rfl rfl hl (Nat.le_of_ble_eq_true rfl) dX7_owes_36 ?_
      refine lv_istore (lv' := [(7, .int r5), (6, .ref (ad t1)), (0, .ref (ad 59)), (1, .int v1), (2, .int v2), (3, .int v3), (4, .int v4), (5, .int v5)]) hx hb dX7_owes_39 hl (by decide) rfl (fun ls hl => ?_)
      refine lv_iload hx hb dX7_owes_41 (lv_at hl 0 rfl) ?_
      refine lv_if_eq (tgt := 53) hx hb dX7_owes_43 (by decide) (fun c6 => ?_) (fun c6 => ?_)
      · replace h := (if_pos c6).symm.trans h
        refine lv_aload_n hx hb dX7_owes_53 rfl (lv_at hl 2 rfl) ?_
        refine gt_X7_34 hC hK hP dX7_owes_54 ?_
        refine lv_iconst (v := 0) hx hb dX7_owes_57 (by decide) ?_
        refine lv_iconst (v := 0) hx hb dX7_owes_58 (by decide) ?_
        refine lv_iconst (v := 0) hx hb dX7_owes_59 (by decide) ?_
        obtain ⟨⟨I7, J7⟩, hc7, h⟩ := ob h
        dsimp only at h
        refine callWVv (As := [.int (0 : Int32), .int (0 : Int32), .int (0 : Int32)]) (rest := []) hC (c_X4_lay l g ad I J (0 : Int32) (0 : Int32) (0 : Int32)  H.size hc7) lk_X7_135 rfl rfl ⟨Nat.le_of_ble_eq_true rfl, Nat.le_of_ble_eq_true rfl⟩ hP hK hD hA hS xo_47 rfl rfl rfl hl (Nat.le_of_ble_eq_true rfl) dX7_owes_60 (fun H locs hP hD hS => ?_)
        refine lv_iconst (v := 0) hx hb dX7_owes_63 (by decide) ?_
        refine lv_istore (lv' := [(8, .int (0 : Int32)), (7, .int r5), (6, .ref (ad t1)), (0, .ref (ad 59)), (1, .int v1), (2, .int v2), (3, .int v3), (4, .int v4), (5, .int v5)]) hx hb dX7_owes_64 hl (by decide) rfl (fun ls hl => ?_)
        refine lv_iload_n hx hb dX7_owes_66 rfl (lv_at hl 6 rfl) ?_
        refine lv_istore (lv' := [(9, .int v3), (8, .int (0 : Int32)), (7, .int r5), (6, .ref (ad t1)), (0, .ref (ad 59)), (1, .int v1), (2, .int v2), (3, .int v3), (4, .int v4), (5, .int v5)]) hx hb dX7_owes_67 hl (by decide) rfl (fun ls hl => ?_)
        refine lv_iconst (v := 0) hx hb dX7_owes_69 (by decide) ?_
        refine lv_istore (lv' := [(10, .int (0 : Int32)), (9, .int v3), (8, .int (0 : Int32)), (7, .int r5), (6, .ref (ad t1)), (0, .ref (ad 59)), (1, .int v1), (2, .int v2), (3, .int v3), (4, .int v4), (5, .int v5)]) hx hb dX7_owes_70 hl (by decide) rfl (fun ls hl => ?_)
        exact loop_72 3000 I7 J7 v2 v4 v5 t1 (0 : Int32) v3 (0 : Int32) _ _ _ hTt1 h hP hD hS (lv_sub hl [5, 7, 9, 10, 4, 2, 1, 0] rfl)
      · replace h := (if_neg c6).symm.trans h
        refine lv_aload_n hx hb dX7_owes_46 rfl (lv_at hl 2 rfl) ?_
        refine lv_iload hx hb dX7_owes_47 (lv_at hl 0 rfl) ?_
        obtain ⟨⟨r11, I11, J11⟩, hc11, h⟩ := ob h
        dsimp only at h
        refine callWVi (As := [.int r5]) (rest := []) hC (c_X7_refuseAsTold l g ad I J r5  H.size hc11) lk_X7_158 rfl rfl ⟨Nat.le_of_ble_eq_true rfl, Nat.le_of_ble_eq_true rfl⟩ hP hK hD hA hS xo_59 rfl rfl rfl hl (Nat.le_of_ble_eq_true rfl) dX7_owes_49 (fun H locs hP hD hS => ?_)
        obtain ⟨h1, h⟩ := Prod.mk.inj (Option.some.inj h)
        obtain ⟨rfl, rfl⟩ := Prod.mk.inj h
        exact hret _ _ _ _ _ dX7_owes_52 h1 hP hD hS
    · replace h := (if_pos c4).symm.trans h
      refine lv_aload_n hx hb dX7_owes_26 rfl (lv_at hl 1 rfl) ?_
      refine lv_iconst (v := -1) hx hb dX7_owes_27 (by decide) ?_
      obtain ⟨⟨r12, I12, J12⟩, hc12, h⟩ := ob h
      dsimp only at h
      refine callWVi (As := [.int (-1 : Int32)]) (rest := []) hC (c_X7_refuseAsTold l g ad I J (-1 : Int32)  H.size hc12) lk_X7_158 rfl rfl ⟨Nat.le_of_ble_eq_true rfl, Nat.le_of_ble_eq_true rfl⟩ hP hK hD hA hS xo_59 rfl rfl rfl hl (Nat.le_of_ble_eq_true rfl) dX7_owes_28 (fun H locs hP hD hS => ?_)
      obtain ⟨h1, h⟩ := Prod.mk.inj (Option.some.inj h)
      obtain ⟨rfl, rfl⟩ := Prod.mk.inj h
      exact hret _ _ _ _ _ dX7_owes_31 h1 hP hD hS
def FL_X7_ruins_92  : Nat → SI → SJ → Int32 → Int32 → Int32 → Int32 → Int32 → Int32 → Nat → Int32 → Int32 → Option (Int32 × SI × SJ)
  | 0, _, _, _, _, _, _, _, _, _, _, _ => none
  | n + 1, I, J, w2_92, w3_92, w4_92, w5_92, w6_92, w7_92, w8_92, w10_92, w11_92 => (if w7_92 ≤ w11_92 then (some (w10_92, I, J)) else ((F_X7_ruinYear w8_92 I J w2_92 (w3_92 + w11_92) w4_92 w5_92 w6_92).bind fun r13 => (if r13 = (-9 : Int32) then (FL_X7_ruins_92 n I J w2_92 w3_92 w4_92 w5_92 w6_92 w7_92 w8_92 w10_92 (w11_92 + 1)) else (FL_X7_ruins_92 n I J w2_92 w3_92 w4_92 w5_92 w6_92 w7_92 w8_92 (w10_92 + 1) (w11_92 + 1)))))
def F_X7_ruins (I : SI) (J : SJ) (v1 : Int32) (v2 : Int32) (v3 : Int32) (v4 : Int32) (v5 : Int32) (v6 : Int32) (v7 : Int32) : Option (Int32 × SI × SJ) := ((F_X1_termAt 0 I J v1).bind fun r1 => (match r1 with | none => ((F_X7_refuse I J (-1 : Int32)).bind fun (r2, I2, J2) => (some (r2, I2, J2))) | some t1 => ((F_X1_hasPains 0 I J v2).bind fun r3 => (if r3 = 0 then ((F_X7_refuse I J (-1 : Int32)).bind fun (r16, I16, J16) => (some (r16, I16, J16))) else ((F_X7_refusalOfDebts v4 v6).bind fun r5 => ((F_X7_inRange v5 (0 : Int32) (999 : Int32)).bind fun r6 => ((F_X7_inRange v7 (1 : Int32) (50 : Int32)).bind fun r7 => ((F_X7_first r6 r7).bind fun r8 => ((F_X7_first r5 r8).bind fun r9 => (if r9 = 0 then ((F_X4_lay I J (0 : Int32) (0 : Int32) (0 : Int32)).bind fun (I11, J11) => (FL_X7_ruins_92 3000 I11 J11 v2 v3 v4 v5 v6 v7 t1 (0 : Int32) (0 : Int32))) else ((F_X7_refuse I J r9).bind fun (r15, I15, J15) => (some (r15, I15, J15)))))))))))))
set_option maxHeartbeats 4000000 in
set_option maxRecDepth 100000 in
theorem c_X7_ruins (l : Launch) (g : Gx) (ad : Nat → Nat) (I : SI) (J : SJ) (v1 : Int32) (v2 : Int32) (v3 : Int32) (v4 : Int32) (v5 : Int32) (v6 : Int32) (v7 : Int32)  (sz : Nat) {r : Int32} {rI : SI} {rJ : SJ} (h : F_X7_ruins I J v1 v2 v3 v4 v5 v6 v7 = some (r, rI, rJ)) : Met l yX7_ruins (Cond.code yX7_ruins cX7_ruins 12 (some .int) :: BG) (k2_rm 5 124) (PcW [.ref (ad 59), .int v1, .int v2, .int v3, .int v4, .int v5, .int v6, .int v7] g (xW ad g I J) sz) (QWi r g (xW ad g I J) (xW ad g rI rJ) sz) 0 0 (va_A (xW ad g I J) sz) := by
  refine mkWi (by decide) (Nat.le_of_ble_eq_true rfl) ?_
  intro p e s m args below meth c H locs ls A Q hC hK hP hD hA hS hl hret
  have hx := hC.1
  have hb := hC.2.1
  have hts := hC.2.2.2.2
  have hown := hC.2.2.2.1
  replace hl : lv_has ls 12 [(0, .ref (ad 59)), (1, .int v1), (2, .int v2), (3, .int v3), (4, .int v4), (5, .int v5), (6, .int v6), (7, .int v7)] := hl
  have loop_92 : ∀ (n : Nat) (I : SI) (J : SJ) (w2_92 : Int32) (w3_92 : Int32) (w4_92 : Int32) (w5_92 : Int32) (w6_92 : Int32) (w7_92 : Int32) (w8_92 : Nat) (w10_92 : Int32) (w11_92 : Int32)  (H : Heap) (locs : List Loc) (ls : Array Slot), isT w8_92 → FL_X7_ruins_92 n I J w2_92 w3_92 w4_92 w5_92 w6_92 w7_92 w8_92 w10_92 w11_92 = some (r, rI, rJ) → Pg g (xW ad g I J) H → va_D A (xW ad g I J) → va_S A s.heap H locs → lv_has ls 12 [(0, .ref (ad 59)), (2, .int w2_92), (3, .int w3_92), (4, .int w4_92), (5, .int w5_92), (6, .int w6_92), (7, .int w7_92), (8, .ref (ad w8_92)), (10, .int w10_92), (11, .int w11_92)] → W p l e (k2_rm 5 124) s m args below meth c H locs 0 0 Q (F0 m 92 ls []) := by
    intro n
    induction n with
    | zero =>
      intro I J w2_92 w3_92 w4_92 w5_92 w6_92 w7_92 w8_92 w10_92 w11_92 H locs ls hw8_92 h
      exact no h
    | succ n ih =>
      intro I J w2_92 w3_92 w4_92 w5_92 w6_92 w7_92 w8_92 w10_92 w11_92 H locs ls hw8_92 h hP hD hS hl
      rw [FL_X7_ruins_92] at h
      refine lv_iload hx hb dX7_ruins_92 (lv_at hl 9 rfl) ?_
      refine lv_iload hx hb dX7_ruins_94 (lv_at hl 6 rfl) ?_
      refine lv_icmp_ge (tgt := 130) hx hb dX7_ruins_96 (by decide) (fun c12 => ?_) (fun c12 => ?_)
      · replace h := (if_pos c12).symm.trans h
        refine lv_iload hx hb dX7_ruins_130 (lv_at hl 8 rfl) ?_
        obtain ⟨h1, h⟩ := Prod.mk.inj (Option.some.inj h)
        obtain ⟨rfl, rfl⟩ := Prod.mk.inj h
        exact hret _ _ _ _ _ dX7_ruins_132 h1 hP hD hS
      · replace h := (if_neg c12).symm.trans h
        refine lv_aload_n hx hb dX7_ruins_99 rfl (lv_at hl 0 rfl) ?_
        refine lv_aload hx hb dX7_ruins_100 (lv_at hl 7 rfl) ?_
        refine lv_iload_n hx hb dX7_ruins_102 rfl (lv_at hl 1 rfl) ?_
        refine lv_iload_n hx hb dX7_ruins_103 rfl (lv_at hl 2 rfl) ?_
        refine lv_iload hx hb dX7_ruins_104 (lv_at hl 9 rfl) ?_
        refine lv_iadd hx hb dX7_ruins_106 ?_
        refine lv_iload hx hb dX7_ruins_107 (lv_at hl 3 rfl) ?_
        refine lv_iload hx hb dX7_ruins_109 (lv_at hl 4 rfl) ?_
        refine lv_iload hx hb dX7_ruins_111 (lv_at hl 5 rfl) ?_
        obtain ⟨r13, hc13, h⟩ := ob h
        refine callRV (As := [.ref (ad w8_92), .int w2_92, .int (w3_92 + w11_92), .int w4_92, .int w5_92, .int w6_92]) (rest := []) hC (c_X7_ruinYear l g ad I J w8_92 w2_92 (w3_92 + w11_92) w4_92 w5_92 w6_92 hw8_92 hc13) lk_X7_262 rfl rfl ⟨Nat.le_of_ble_eq_true rfl, Nat.le_of_ble_eq_true rfl⟩ hP hK xo_59 rfl rfl rfl hl (Nat.le_of_ble_eq_true rfl) dX7_ruins_113 ?_
        refine lv_bipush (v := -9) hx hb dX7_ruins_116 (by decide) ?_
        refine lv_icmp_eq (tgt := 124) hx hb dX7_ruins_118 (by decide) (fun c14 => ?_) (fun c14 => ?_)
        · replace h := (if_pos c14).symm.trans h
          refine lv_iinc (v := (w11_92 + 1)) (lv' := [(11, .int (w11_92 + 1)), (0, .ref (ad 59)), (2, .int w2_92), (3, .int w3_92), (4, .int w4_92), (5, .int w5_92), (6, .int w6_92), (7, .int w7_92), (8, .ref (ad w8_92)), (10, .int w10_92)]) hx hb dX7_ruins_124 hl (k := 9) rfl rfl (by decide) rfl (fun ls hl => ?_)
          refine lv_goto (tgt := 92) hx hb dX7_ruins_127 (by decide) ?_
          exact ih I J w2_92 w3_92 w4_92 w5_92 w6_92 w7_92 w8_92 w10_92 (w11_92 + 1) _ _ _ hw8_92 h hP hD hS (lv_sub hl [1, 2, 3, 4, 5, 6, 7, 8, 9, 0] rfl)
        · replace h := (if_neg c14).symm.trans h
          refine lv_iinc (v := (w10_92 + 1)) (lv' := [(10, .int (w10_92 + 1)), (0, .ref (ad 59)), (2, .int w2_92), (3, .int w3_92), (4, .int w4_92), (5, .int w5_92), (6, .int w6_92), (7, .int w7_92), (8, .ref (ad w8_92)), (11, .int w11_92)]) hx hb dX7_ruins_121 hl (k := 8) rfl rfl (by decide) rfl (fun ls hl => ?_)
          refine lv_iinc (v := (w11_92 + 1)) (lv' := [(11, .int (w11_92 + 1)), (10, .int (w10_92 + 1)), (0, .ref (ad 59)), (2, .int w2_92), (3, .int w3_92), (4, .int w4_92), (5, .int w5_92), (6, .int w6_92), (7, .int w7_92), (8, .ref (ad w8_92))]) hx hb dX7_ruins_124 hl (k := 9) rfl rfl (by decide) rfl (fun ls hl => ?_)
          refine lv_goto (tgt := 92) hx hb dX7_ruins_127 (by decide) ?_
          exact ih I J w2_92 w3_92 w4_92 w5_92 w6_92 w7_92 w8_92 (w10_92 + 1) (w11_92 + 1) _ _ _ hw8_92 h hP hD hS (lv_sub hl [2, 3, 4, 5, 6, 7, 8, 9, 1, 0] rfl)
  unfold F_X7_ruins at h
  refine lv_aload_n hx hb dX7_ruins_0 rfl (lv_at hl 0 rfl) ?_
  refine gt_X7_10 hC hK hP dX7_ruins_1 ?_
  refine lv_iload_n hx hb dX7_ruins_4 rfl (lv_at hl 1 rfl) ?_
  obtain ⟨r1, hc1, h⟩ := ob h
  rcases r1 with _ | t1
  · refine callRV (As := [.int v1]) (rest := []) hC (c_X1_termAt l g ad I J 0 v1 (Or.inl rfl) hc1) lk_X7_106 rfl rfl ⟨Nat.le_of_ble_eq_true rfl, Nat.le_of_ble_eq_true rfl⟩ hP hK (xEo (Or.inl rfl)) rfl rfl rfl hl (Nat.le_of_ble_eq_true rfl) dX7_ruins_5 ?_
    refine lv_astoreN (lv' := [(8, .null), (0, .ref (ad 59)), (1, .int v1), (2, .int v2), (3, .int v3), (4, .int v4), (5, .int v5), (6, .int v6), (7, .int v7)]) hx hb dX7_ruins_8 hl (by decide) rfl (fun ls hl => ?_)
    refine lv_aloadN hx hb dX7_ruins_10 (lv_at hl 0 rfl) ?_
    refine lv_ifnullN (tgt := 26) hx hb dX7_ruins_12 (by decide) ?_
    refine lv_aload_n hx hb dX7_ruins_26 rfl (lv_at hl 1 rfl) ?_
    refine lv_iconst (v := -1) hx hb dX7_ruins_27 (by decide) ?_
    obtain ⟨⟨r2, I2, J2⟩, hc2, h⟩ := ob h
    dsimp only at h
    refine callWVi (As := [.int (-1 : Int32)]) (rest := []) hC (c_X7_refuse l g ad I J (-1 : Int32)  H.size hc2) lk_X7_74 rfl rfl ⟨Nat.le_of_ble_eq_true rfl, Nat.le_of_ble_eq_true rfl⟩ hP hK hD hA hS xo_59 rfl rfl rfl hl (Nat.le_of_ble_eq_true rfl) dX7_ruins_28 (fun H locs hP hD hS => ?_)
    obtain ⟨h1, h⟩ := Prod.mk.inj (Option.some.inj h)
    obtain ⟨rfl, rfl⟩ := Prod.mk.inj h
    exact hret _ _ _ _ _ dX7_ruins_31 h1 hP hD hS
  · have hTt1 : isT t1 := termAt_isT (Or.inl rfl) hc1
    refine callRV (As := [.int v1]) (rest := []) hC (c_X1_termAt l g ad I J 0 v1 (Or.inl rfl) hc1) lk_X7_106 rfl rfl ⟨Nat.le_of_ble_eq_true rfl, Nat.le_of_ble_eq_true rfl⟩ hP hK (xEo (Or.inl rfl)) rfl rfl rfl hl (Nat.le_of_ble_eq_true rfl) dX7_ruins_5 ?_
    refine lv_astore (lv' := [(8, .ref (ad t1)), (0, .ref (ad 59)), (1, .int v1), (2, .int v2), (3, .int v3), (4, .int v4), (5, .int v5), (6, .int v6), (7, .int v7)]) hx hb dX7_ruins_8 hl (by decide) rfl (fun ls hl => ?_)
    refine lv_aload hx hb dX7_ruins_10 (lv_at hl 0 rfl) ?_
    refine lv_ifnull hx hb dX7_ruins_12 ?_
    refine lv_aload_n hx hb dX7_ruins_15 rfl (lv_at hl 1 rfl) ?_
    refine gt_X7_10 hC hK hP dX7_ruins_16 ?_
    refine lv_iload_n hx hb dX7_ruins_19 rfl (lv_at hl 3 rfl) ?_
    obtain ⟨r3, hc3, h⟩ := ob h
    refine callRV (As := [.int v2]) (rest := []) hC (c_X1_hasPains l g ad I J 0 v2 (Or.inl rfl) hc3) lk_X7_148 rfl rfl ⟨Nat.le_of_ble_eq_true rfl, Nat.le_of_ble_eq_true rfl⟩ hP hK (xEo (Or.inl rfl)) rfl rfl rfl hl (Nat.le_of_ble_eq_true rfl) dX7_ruins_20 ?_
    refine lv_if_ne (tgt := 32) hx hb dX7_ruins_23 (by decide) (fun c4 => ?_) (fun c4 => ?_)
    · replace h := (if_neg c4).symm.trans h
      refine lv_iload hx hb dX7_ruins_32 (lv_at hl 5 rfl) ?_
      refine lv_iload hx hb dX7_ruins_34 (lv_at hl 7 rfl) ?_
      obtain ⟨r5, hc5, h⟩ := ob h
      refine callRS (As := [.int v4, .int v6]) (rest := []) hC (c_X7_refusalOfDebts l g (xW ad g I J) v4 v6 hc5) lk_X7_259 rfl rfl ⟨Nat.le_of_ble_eq_true rfl, Nat.le_of_ble_eq_true rfl⟩ hP hK rfl rfl hl (Nat.le_of_ble_eq_true rfl) dX7_ruins_36 ?_
      refine lv_iload hx hb dX7_ruins_39 (lv_at hl 6 rfl) ?_
      refine lv_iconst (v := 0) hx hb dX7_ruins_41 (by decide) ?_
      refine lv_sipush (v := 999) hx hb dX7_ruins_42 (by decide) ?_
      obtain ⟨r6, hc6, h⟩ := ob h
      refine callRS (As := [.int v5, .int (0 : Int32), .int (999 : Int32)]) (rest := [.int r5]) hC (c_X7_inRange l g (xW ad g I J) v5 (0 : Int32) (999 : Int32) hc6) lk_X7_66 rfl rfl ⟨Nat.le_of_ble_eq_true rfl, Nat.le_of_ble_eq_true rfl⟩ hP hK rfl rfl hl (Nat.le_of_ble_eq_true rfl) dX7_ruins_45 ?_
      refine lv_iload hx hb dX7_ruins_48 (lv_at hl 8 rfl) ?_
      refine lv_iconst (v := 1) hx hb dX7_ruins_50 (by decide) ?_
      refine lv_bipush (v := 50) hx hb dX7_ruins_51 (by decide) ?_
      obtain ⟨r7, hc7, h⟩ := ob h
      refine callRS (As := [.int v7, .int (1 : Int32), .int (50 : Int32)]) (rest := [.int r6, .int r5]) hC (c_X7_inRange l g (xW ad g I J) v7 (1 : Int32) (50 : Int32) hc7) lk_X7_66 rfl rfl ⟨Nat.le_of_ble_eq_true rfl, Nat.le_of_ble_eq_true rfl⟩ hP hK rfl rfl hl (Nat.le_of_ble_eq_true rfl) dX7_ruins_53 ?_
      obtain ⟨r8, hc8, h⟩ := ob h
      refine callRS (As := [.int r6, .int r7]) (rest := [.int r5]) hC (c_X7_first l g (xW ad g I J) r6 r7 hc8) lk_X7_161 rfl rfl ⟨Nat.le_of_ble_eq_true rfl, Nat.le_of_ble_eq_true rfl⟩ hP hK rfl rfl hl (Nat.le_of_ble_eq_true rfl) dX7_ruins_56 ?_
      obtain ⟨r9, hc9, h⟩ := ob h
      refine callRS (As := [.int r5, .int r8]) (rest := []) hC (c_X7_first l g (xW ad g I J) r5 r8 hc9) lk_X7_161 rfl rfl ⟨Nat.le_of_ble_eq_true rfl, Nat.le_of_ble_eq_true rfl⟩ hP hK rfl rfl hl (Nat.le_of_ble_eq_true rfl) dX7_ruins_59 ?_
      refine lv_istore (lv' := [(9, .int r9), (8, .ref (ad t1)), (0, .ref (ad 59)), (1, .int v1), (2, .int v2), (3, .int v3), (4, .int v4), (5, .int v5), (6, .int v6), (7, .int v7)]) hx hb dX7_ruins_62 hl (by decide) rfl (fun ls hl => ?_)
      refine lv_iload hx hb dX7_ruins_64 (lv_at hl 0 rfl) ?_
      refine lv_if_eq (tgt := 76) hx hb dX7_ruins_66 (by decide) (fun c10 => ?_) (fun c10 => ?_)
      · replace h := (if_pos c10).symm.trans h
        refine lv_aload_n hx hb dX7_ruins_76 rfl (lv_at hl 2 rfl) ?_
        refine gt_X7_34 hC hK hP dX7_ruins_77 ?_
        refine lv_iconst (v := 0) hx hb dX7_ruins_80 (by decide) ?_
        refine lv_iconst (v := 0) hx hb dX7_ruins_81 (by decide) ?_
        refine lv_iconst (v := 0) hx hb dX7_ruins_82 (by decide) ?_
        obtain ⟨⟨I11, J11⟩, hc11, h⟩ := ob h
        dsimp only at h
        refine callWVv (As := [.int (0 : Int32), .int (0 : Int32), .int (0 : Int32)]) (rest := []) hC (c_X4_lay l g ad I J (0 : Int32) (0 : Int32) (0 : Int32)  H.size hc11) lk_X7_135 rfl rfl ⟨Nat.le_of_ble_eq_true rfl, Nat.le_of_ble_eq_true rfl⟩ hP hK hD hA hS xo_47 rfl rfl rfl hl (Nat.le_of_ble_eq_true rfl) dX7_ruins_83 (fun H locs hP hD hS => ?_)
        refine lv_iconst (v := 0) hx hb dX7_ruins_86 (by decide) ?_
        refine lv_istore (lv' := [(10, .int (0 : Int32)), (9, .int r9), (8, .ref (ad t1)), (0, .ref (ad 59)), (1, .int v1), (2, .int v2), (3, .int v3), (4, .int v4), (5, .int v5), (6, .int v6), (7, .int v7)]) hx hb dX7_ruins_87 hl (by decide) rfl (fun ls hl => ?_)
        refine lv_iconst (v := 0) hx hb dX7_ruins_89 (by decide) ?_
        refine lv_istore (lv' := [(11, .int (0 : Int32)), (10, .int (0 : Int32)), (9, .int r9), (8, .ref (ad t1)), (0, .ref (ad 59)), (1, .int v1), (2, .int v2), (3, .int v3), (4, .int v4), (5, .int v5), (6, .int v6), (7, .int v7)]) hx hb dX7_ruins_90 hl (by decide) rfl (fun ls hl => ?_)
        exact loop_92 3000 I11 J11 v2 v3 v4 v5 v6 v7 t1 (0 : Int32) (0 : Int32) _ _ _ hTt1 h hP hD hS (lv_sub hl [4, 6, 7, 8, 9, 10, 11, 3, 1, 0] rfl)
      · replace h := (if_neg c10).symm.trans h
        refine lv_aload_n hx hb dX7_ruins_69 rfl (lv_at hl 2 rfl) ?_
        refine lv_iload hx hb dX7_ruins_70 (lv_at hl 0 rfl) ?_
        obtain ⟨⟨r15, I15, J15⟩, hc15, h⟩ := ob h
        dsimp only at h
        refine callWVi (As := [.int r9]) (rest := []) hC (c_X7_refuse l g ad I J r9  H.size hc15) lk_X7_74 rfl rfl ⟨Nat.le_of_ble_eq_true rfl, Nat.le_of_ble_eq_true rfl⟩ hP hK hD hA hS xo_59 rfl rfl rfl hl (Nat.le_of_ble_eq_true rfl) dX7_ruins_72 (fun H locs hP hD hS => ?_)
        obtain ⟨h1, h⟩ := Prod.mk.inj (Option.some.inj h)
        obtain ⟨rfl, rfl⟩ := Prod.mk.inj h
        exact hret _ _ _ _ _ dX7_ruins_75 h1 hP hD hS
    · replace h := (if_pos c4).symm.trans h
      refine lv_aload_n hx hb dX7_ruins_26 rfl (lv_at hl 1 rfl) ?_
      refine lv_iconst (v := -1) hx hb dX7_ruins_27 (by decide) ?_
      obtain ⟨⟨r16, I16, J16⟩, hc16, h⟩ := ob h
      dsimp only at h
      refine callWVi (As := [.int (-1 : Int32)]) (rest := []) hC (c_X7_refuse l g ad I J (-1 : Int32)  H.size hc16) lk_X7_74 rfl rfl ⟨Nat.le_of_ble_eq_true rfl, Nat.le_of_ble_eq_true rfl⟩ hP hK hD hA hS xo_59 rfl rfl rfl hl (Nat.le_of_ble_eq_true rfl) dX7_ruins_28 (fun H locs hP hD hS => ?_)
      obtain ⟨h1, h⟩ := Prod.mk.inj (Option.some.inj h)
      obtain ⟨rfl, rfl⟩ := Prod.mk.inj h
      exact hret _ _ _ _ _ dX7_ruins_31 h1 hP hD hS
def F_X7_row (I : SI) (J : SJ) (v1 : Int32) : Option (Int32 × SI × SJ) := ((F_X7_inRange v1 (0 : Int32) (999 : Int32)).bind fun r1 => (if r1 = 0 then (if (I 59 10) < (16 : Int32) then (if r1 = 0 then ((F_X2_put 16 (I 60) (I 59 10) v1).bind fun f_8 => (some (((u2 (u1 I 60 f_8) 59 10 (((u1 I 60 f_8) 59 10) + (1 : Int32))) 59 10), (u2 (u1 I 60 f_8) 59 10 (((u1 I 60 f_8) 59 10) + (1 : Int32))), J))) else ((F_X7_refuse I J r1).bind fun (r9, I9, J9) => (some (r9, I9, J9)))) else (if (-6 : Int32) = 0 then ((F_X2_put 16 (I 60) (I 59 10) v1).bind fun f_11 => (some (((u2 (u1 I 60 f_11) 59 10 (((u1 I 60 f_11) 59 10) + (1 : Int32))) 59 10), (u2 (u1 I 60 f_11) 59 10 (((u1 I 60 f_11) 59 10) + (1 : Int32))), J))) else ((F_X7_refuse I J (-6 : Int32)).bind fun (r12, I12, J12) => (some (r12, I12, J12))))) else (if r1 = 0 then ((F_X2_put 16 (I 60) (I 59 10) v1).bind fun f_4 => (some (((u2 (u1 I 60 f_4) 59 10 (((u1 I 60 f_4) 59 10) + (1 : Int32))) 59 10), (u2 (u1 I 60 f_4) 59 10 (((u1 I 60 f_4) 59 10) + (1 : Int32))), J))) else ((F_X7_refuse I J r1).bind fun (r5, I5, J5) => (some (r5, I5, J5))))))
set_option maxHeartbeats 4000000 in
set_option maxRecDepth 100000 in
theorem c_X7_row (l : Launch) (g : Gx) (ad : Nat → Nat) (I : SI) (J : SJ) (v1 : Int32)  (sz : Nat) {r : Int32} {rI : SI} {rJ : SJ} (h : F_X7_row I J v1 = some (r, rI, rJ)) : Met l yX7_row (Cond.code yX7_row cX7_row 3 (some .int) :: BG) (k2_rm 2 44) (PcW [.ref (ad 59), .int v1] g (xW ad g I J) sz) (QWi r g (xW ad g I J) (xW ad g rI rJ) sz) 0 0 (va_A (xW ad g I J) sz) := by
  refine mkWi (by decide) (Nat.le_of_ble_eq_true rfl) ?_
  intro p e s m args below meth c H locs ls A Q hC hK hP hD hA hS hl hret
  have hx := hC.1
  have hb := hC.2.1
  have hts := hC.2.2.2.2
  have hown := hC.2.2.2.1
  replace hl : lv_has ls 3 [(0, .ref (ad 59)), (1, .int v1)] := hl
  unfold F_X7_row at h
  refine lv_iload_n hx hb dX7_row_0 rfl (lv_at hl 1 rfl) ?_
  refine lv_iconst (v := 0) hx hb dX7_row_1 (by decide) ?_
  refine lv_sipush (v := 999) hx hb dX7_row_2 (by decide) ?_
  obtain ⟨r1, hc1, h⟩ := ob h
  refine callRS (As := [.int v1, .int (0 : Int32), .int (999 : Int32)]) (rest := []) hC (c_X7_inRange l g (xW ad g I J) v1 (0 : Int32) (999 : Int32) hc1) lk_X7_66 rfl rfl ⟨Nat.le_of_ble_eq_true rfl, Nat.le_of_ble_eq_true rfl⟩ hP hK rfl rfl hl (Nat.le_of_ble_eq_true rfl) dX7_row_5 ?_
  refine lv_istore_n (lv' := [(2, .int r1), (0, .ref (ad 59)), (1, .int v1)]) hx hb dX7_row_8 rfl hl (by decide) rfl (fun ls hl => ?_)
  refine lv_iload_n hx hb dX7_row_9 rfl (lv_at hl 0 rfl) ?_
  refine lv_if_ne (tgt := 25) hx hb dX7_row_10 (by decide) (fun c2 => ?_) (fun c2 => ?_)
  · replace h := (if_neg c2).symm.trans h
    refine lv_iload_n hx hb dX7_row_25 rfl (lv_at hl 0 rfl) ?_
    refine lv_if_eq (tgt := 35) hx hb dX7_row_26 (by decide) (fun c3 => ?_) (fun c3 => ?_)
    · replace h := (if_pos c3).symm.trans h
      refine lv_aload_n hx hb dX7_row_35 rfl (lv_at hl 1 rfl) ?_
      refine gt_X7_59 hC hK hP dX7_row_36 ?_
      refine lv_aload_n hx hb dX7_row_39 rfl (lv_at hl 1 rfl) ?_
      refine gt_X7_272 hC hK hP dX7_row_40 ?_
      refine lv_iload_n hx hb dX7_row_43 rfl (lv_at hl 2 rfl) ?_
      obtain ⟨f_4, hc4, h⟩ := ob h
      refine callWSv (As := [.ref (ad 60), .int (I 59 10), .int v1]) (rest := []) hC (c_X2_put l g (xW ad g I J) (fun f => xW ad g (u1 I 60 f) J) 60 16 (I 60) (ad 60) xc_60.1 xc_60.2.1 xc_60.2.2 (I 59 10) v1 H.size hc4) lk_X7_275 rfl rfl ⟨Nat.le_of_ble_eq_true rfl, Nat.le_of_ble_eq_true rfl⟩ hP hK hD hA hS rfl rfl hl (Nat.le_of_ble_eq_true rfl) dX7_row_44 (fun H locs hP hD hS => ?_)
      refine lv_aload_n hx hb dX7_row_47 rfl (lv_at hl 1 rfl) ?_
      refine lv_dup hx hb dX7_row_48 rfl ?_
      refine gt_X7_272 hC hK hP dX7_row_49 ?_
      refine lv_iconst (v := 1) hx hb dX7_row_52 (by decide) ?_
      refine lv_iadd hx hb dX7_row_53 ?_
      refine pt_X7_272 hC hK hP hD hS dX7_row_54 (fun H locs hP hD hS => ?_)
      refine lv_aload_n hx hb dX7_row_57 rfl (lv_at hl 1 rfl) ?_
      refine gt_X7_272 hC hK hP dX7_row_58 ?_
      obtain ⟨h1, h⟩ := Prod.mk.inj (Option.some.inj h)
      obtain ⟨rfl, rfl⟩ := Prod.mk.inj h
      exact hret _ _ _ _ _ dX7_row_61 h1 hP hD hS
    · replace h := (if_neg c3).symm.trans h
      refine lv_aload_n hx hb dX7_row_29 rfl (lv_at hl 1 rfl) ?_
      refine lv_iload_n hx hb dX7_row_30 rfl (lv_at hl 0 rfl) ?_
      obtain ⟨⟨r5, I5, J5⟩, hc5, h⟩ := ob h
      dsimp only at h
      refine callWVi (As := [.int r1]) (rest := []) hC (c_X7_refuse l g ad I J r1  H.size hc5) lk_X7_74 rfl rfl ⟨Nat.le_of_ble_eq_true rfl, Nat.le_of_ble_eq_true rfl⟩ hP hK hD hA hS xo_59 rfl rfl rfl hl (Nat.le_of_ble_eq_true rfl) dX7_row_31 (fun H locs hP hD hS => ?_)
      obtain ⟨h1, h⟩ := Prod.mk.inj (Option.some.inj h)
      obtain ⟨rfl, rfl⟩ := Prod.mk.inj h
      exact hret _ _ _ _ _ dX7_row_34 h1 hP hD hS
  · replace h := (if_pos c2).symm.trans h
    refine lv_aload_n hx hb dX7_row_13 rfl (lv_at hl 1 rfl) ?_
    refine gt_X7_272 hC hK hP dX7_row_14 ?_
    refine lv_bipush (v := 16) hx hb dX7_row_17 (by decide) ?_
    refine lv_icmp_lt (tgt := 25) hx hb dX7_row_19 (by decide) (fun c6 => ?_) (fun c6 => ?_)
    · replace h := (if_pos c6).symm.trans h
      refine lv_iload_n hx hb dX7_row_25 rfl (lv_at hl 0 rfl) ?_
      refine lv_if_eq (tgt := 35) hx hb dX7_row_26 (by decide) (fun c7 => ?_) (fun c7 => ?_)
      · replace h := (if_pos c7).symm.trans h
        refine lv_aload_n hx hb dX7_row_35 rfl (lv_at hl 1 rfl) ?_
        refine gt_X7_59 hC hK hP dX7_row_36 ?_
        refine lv_aload_n hx hb dX7_row_39 rfl (lv_at hl 1 rfl) ?_
        refine gt_X7_272 hC hK hP dX7_row_40 ?_
        refine lv_iload_n hx hb dX7_row_43 rfl (lv_at hl 2 rfl) ?_
        obtain ⟨f_8, hc8, h⟩ := ob h
        refine callWSv (As := [.ref (ad 60), .int (I 59 10), .int v1]) (rest := []) hC (c_X2_put l g (xW ad g I J) (fun f => xW ad g (u1 I 60 f) J) 60 16 (I 60) (ad 60) xc_60.1 xc_60.2.1 xc_60.2.2 (I 59 10) v1 H.size hc8) lk_X7_275 rfl rfl ⟨Nat.le_of_ble_eq_true rfl, Nat.le_of_ble_eq_true rfl⟩ hP hK hD hA hS rfl rfl hl (Nat.le_of_ble_eq_true rfl) dX7_row_44 (fun H locs hP hD hS => ?_)
        refine lv_aload_n hx hb dX7_row_47 rfl (lv_at hl 1 rfl) ?_
        refine lv_dup hx hb dX7_row_48 rfl ?_
        refine gt_X7_272 hC hK hP dX7_row_49 ?_
        refine lv_iconst (v := 1) hx hb dX7_row_52 (by decide) ?_
        refine lv_iadd hx hb dX7_row_53 ?_
        refine pt_X7_272 hC hK hP hD hS dX7_row_54 (fun H locs hP hD hS => ?_)
        refine lv_aload_n hx hb dX7_row_57 rfl (lv_at hl 1 rfl) ?_
        refine gt_X7_272 hC hK hP dX7_row_58 ?_
        obtain ⟨h1, h⟩ := Prod.mk.inj (Option.some.inj h)
        obtain ⟨rfl, rfl⟩ := Prod.mk.inj h
        exact hret _ _ _ _ _ dX7_row_61 h1 hP hD hS
      · replace h := (if_neg c7).symm.trans h
        refine lv_aload_n hx hb dX7_row_29 rfl (lv_at hl 1 rfl) ?_
        refine lv_iload_n hx hb dX7_row_30 rfl (lv_at hl 0 rfl) ?_
        obtain ⟨⟨r9, I9, J9⟩, hc9, h⟩ := ob h
        dsimp only at h
        refine callWVi (As := [.int r1]) (rest := []) hC (c_X7_refuse l g ad I J r1  H.size hc9) lk_X7_74 rfl rfl ⟨Nat.le_of_ble_eq_true rfl, Nat.le_of_ble_eq_true rfl⟩ hP hK hD hA hS xo_59 rfl rfl rfl hl (Nat.le_of_ble_eq_true rfl) dX7_row_31 (fun H locs hP hD hS => ?_)
        obtain ⟨h1, h⟩ := Prod.mk.inj (Option.some.inj h)
        obtain ⟨rfl, rfl⟩ := Prod.mk.inj h
        exact hret _ _ _ _ _ dX7_row_34 h1 hP hD hS
    · replace h := (if_neg c6).symm.trans h
      refine lv_bipush (v := -6) hx hb dX7_row_22 (by decide) ?_
      refine lv_istore_n (lv' := [(2, .int (-6 : Int32)), (0, .ref (ad 59)), (1, .int v1)]) hx hb dX7_row_24 rfl hl (by decide) rfl (fun ls hl => ?_)
      refine lv_iload_n hx hb dX7_row_25 rfl (lv_at hl 0 rfl) ?_
      refine lv_if_eq (tgt := 35) hx hb dX7_row_26 (by decide) (fun c10 => ?_) (fun c10 => ?_)
      · replace h := (if_pos c10).symm.trans h
        refine lv_aload_n hx hb dX7_row_35 rfl (lv_at hl 1 rfl) ?_
        refine gt_X7_59 hC hK hP dX7_row_36 ?_
        refine lv_aload_n hx hb dX7_row_39 rfl (lv_at hl 1 rfl) ?_
        refine gt_X7_272 hC hK hP dX7_row_40 ?_
        refine lv_iload_n hx hb dX7_row_43 rfl (lv_at hl 2 rfl) ?_
        obtain ⟨f_11, hc11, h⟩ := ob h
        refine callWSv (As := [.ref (ad 60), .int (I 59 10), .int v1]) (rest := []) hC (c_X2_put l g (xW ad g I J) (fun f => xW ad g (u1 I 60 f) J) 60 16 (I 60) (ad 60) xc_60.1 xc_60.2.1 xc_60.2.2 (I 59 10) v1 H.size hc11) lk_X7_275 rfl rfl ⟨Nat.le_of_ble_eq_true rfl, Nat.le_of_ble_eq_true rfl⟩ hP hK hD hA hS rfl rfl hl (Nat.le_of_ble_eq_true rfl) dX7_row_44 (fun H locs hP hD hS => ?_)
        refine lv_aload_n hx hb dX7_row_47 rfl (lv_at hl 1 rfl) ?_
        refine lv_dup hx hb dX7_row_48 rfl ?_
        refine gt_X7_272 hC hK hP dX7_row_49 ?_
        refine lv_iconst (v := 1) hx hb dX7_row_52 (by decide) ?_
        refine lv_iadd hx hb dX7_row_53 ?_
        refine pt_X7_272 hC hK hP hD hS dX7_row_54 (fun H locs hP hD hS => ?_)
        refine lv_aload_n hx hb dX7_row_57 rfl (lv_at hl 1 rfl) ?_
        refine gt_X7_272 hC hK hP dX7_row_58 ?_
        obtain ⟨h1, h⟩ := Prod.mk.inj (Option.some.inj h)
        obtain ⟨rfl, rfl⟩ := Prod.mk.inj h
        exact hret _ _ _ _ _ dX7_row_61 h1 hP hD hS
      · replace h := (if_neg c10).symm.trans h
        refine lv_aload_n hx hb dX7_row_29 rfl (lv_at hl 1 rfl) ?_
        refine lv_iload_n hx hb dX7_row_30 rfl (lv_at hl 0 rfl) ?_
        obtain ⟨⟨r12, I12, J12⟩, hc12, h⟩ := ob h
        dsimp only at h
        refine callWVi (As := [.int (-6 : Int32)]) (rest := []) hC (c_X7_refuse l g ad I J (-6 : Int32)  H.size hc12) lk_X7_74 rfl rfl ⟨Nat.le_of_ble_eq_true rfl, Nat.le_of_ble_eq_true rfl⟩ hP hK hD hA hS xo_59 rfl rfl rfl hl (Nat.le_of_ble_eq_true rfl) dX7_row_31 (fun H locs hP hD hS => ?_)
        obtain ⟨h1, h⟩ := Prod.mk.inj (Option.some.inj h)
        obtain ⟨rfl, rfl⟩ := Prod.mk.inj h
        exact hret _ _ _ _ _ dX7_row_34 h1 hP hD hS
def FL_X7_judge_36  : Nat → SI → SJ → Int32 → Int32 → Int32 → Int32 → Option (Int32 × SI × SJ)
  | 0, _, _, _, _, _, _ => none
  | n + 1, I, J, w1_36, w3_36, w4_36, w5_36 => (if (I 59 10) ≤ w5_36 then (some (w3_36, (u2 I 59 10 (0 : Int32)), J)) else (if w3_36 = (-9 : Int32) then ((F_X7_draw w4_36).bind fun r6 => ((F_X4_weatherBy I J r6).bind fun r7 => ((F_X4_harvestOf I J w1_36 r7).bind fun r8 => ((F_X2_at 16 (I 60) w5_36).bind fun r9 => (if r8 = r9 then (FL_X7_judge_36 n I J w1_36 w3_36 r6 (w5_36 + 1)) else (FL_X7_judge_36 n I J w1_36 w5_36 r6 (w5_36 + 1))))))) else (some (w3_36, (u2 I 59 10 (0 : Int32)), J))))
def F_X7_judge (I : SI) (J : SJ) (v1 : Int32) (v2 : Int32) : Option (Int32 × SI × SJ) := ((F_X1_hasPains 0 I J v1).bind fun r1 => (if r1 = 0 then ((F_X7_refuse I J (-1 : Int32)).bind fun (r11, I11, J11) => (some (r11, I11, J11))) else ((F_X4_lay I J (0 : Int32) (0 : Int32) (0 : Int32)).bind fun (I3, J3) => (FL_X7_judge_36 3000 I3 J3 v1 (-9 : Int32) v2 (0 : Int32)))))
set_option maxHeartbeats 4000000 in
set_option maxRecDepth 100000 in
theorem c_X7_judge (l : Launch) (g : Gx) (ad : Nat → Nat) (I : SI) (J : SJ) (v1 : Int32) (v2 : Int32)  (sz : Nat) {r : Int32} {rI : SI} {rJ : SJ} (h : F_X7_judge I J v1 v2 = some (r, rI, rJ)) : Met l yX7_judge (Cond.code yX7_judge cX7_judge 6 (some .int) :: BG) (k2_rm 4 93) (PcW [.ref (ad 59), .int v1, .int v2] g (xW ad g I J) sz) (QWi r g (xW ad g I J) (xW ad g rI rJ) sz) 0 0 (va_A (xW ad g I J) sz) := by
  refine mkWi (by decide) (Nat.le_of_ble_eq_true rfl) ?_
  intro p e s m args below meth c H locs ls A Q hC hK hP hD hA hS hl hret
  have hx := hC.1
  have hb := hC.2.1
  have hts := hC.2.2.2.2
  have hown := hC.2.2.2.1
  replace hl : lv_has ls 6 [(0, .ref (ad 59)), (1, .int v1), (2, .int v2)] := hl
  have loop_36 : ∀ (n : Nat) (I : SI) (J : SJ) (w1_36 : Int32) (w3_36 : Int32) (w4_36 : Int32) (w5_36 : Int32)  (H : Heap) (locs : List Loc) (ls : Array Slot), FL_X7_judge_36 n I J w1_36 w3_36 w4_36 w5_36 = some (r, rI, rJ) → Pg g (xW ad g I J) H → va_D A (xW ad g I J) → va_S A s.heap H locs → lv_has ls 6 [(0, .ref (ad 59)), (1, .int w1_36), (3, .int w3_36), (4, .int w4_36), (5, .int w5_36)] → W p l e (k2_rm 4 93) s m args below meth c H locs 0 0 Q (F0 m 36 ls []) := by
    intro n
    induction n with
    | zero =>
      intro I J w1_36 w3_36 w4_36 w5_36 H locs ls h
      exact no h
    | succ n ih =>
      intro I J w1_36 w3_36 w4_36 w5_36 H locs ls h hP hD hS hl
      rw [FL_X7_judge_36] at h
      refine lv_iload hx hb dX7_judge_36 (lv_at hl 4 rfl) ?_
      refine lv_aload_n hx hb dX7_judge_38 rfl (lv_at hl 0 rfl) ?_
      refine gt_X7_272 hC hK hP dX7_judge_39 ?_
      refine lv_icmp_ge (tgt := 96) hx hb dX7_judge_42 (by decide) (fun c4 => ?_) (fun c4 => ?_)
      · replace h := (if_pos c4).symm.trans h
        refine lv_aload_n hx hb dX7_judge_96 rfl (lv_at hl 0 rfl) ?_
        refine lv_iconst (v := 0) hx hb dX7_judge_97 (by decide) ?_
        refine pt_X7_272 hC hK hP hD hS dX7_judge_98 (fun H locs hP hD hS => ?_)
        refine lv_iload_n hx hb dX7_judge_101 rfl (lv_at hl 2 rfl) ?_
        obtain ⟨h1, h⟩ := Prod.mk.inj (Option.some.inj h)
        obtain ⟨rfl, rfl⟩ := Prod.mk.inj h
        exact hret _ _ _ _ _ dX7_judge_102 h1 hP hD hS
      · replace h := (if_neg c4).symm.trans h
        refine lv_iload_n hx hb dX7_judge_45 rfl (lv_at hl 2 rfl) ?_
        refine lv_bipush (v := -9) hx hb dX7_judge_46 (by decide) ?_
        refine lv_icmp_ne (tgt := 96) hx hb dX7_judge_48 (by decide) (fun c5 => ?_) (fun c5 => ?_)
        · replace h := (if_neg c5).symm.trans h
          refine lv_aload_n hx hb dX7_judge_96 rfl (lv_at hl 0 rfl) ?_
          refine lv_iconst (v := 0) hx hb dX7_judge_97 (by decide) ?_
          refine pt_X7_272 hC hK hP hD hS dX7_judge_98 (fun H locs hP hD hS => ?_)
          refine lv_iload_n hx hb dX7_judge_101 rfl (lv_at hl 2 rfl) ?_
          obtain ⟨h1, h⟩ := Prod.mk.inj (Option.some.inj h)
          obtain ⟨rfl, rfl⟩ := Prod.mk.inj h
          exact hret _ _ _ _ _ dX7_judge_102 h1 hP hD hS
        · replace h := (if_pos c5).symm.trans h
          refine lv_iload hx hb dX7_judge_51 (lv_at hl 3 rfl) ?_
          obtain ⟨r6, hc6, h⟩ := ob h
          refine callRS (As := [.int w4_36]) (rest := []) hC (c_X7_draw l g (xW ad g I J) w4_36 hc6) lk_X7_266 rfl rfl ⟨Nat.le_of_ble_eq_true rfl, Nat.le_of_ble_eq_true rfl⟩ hP hK rfl rfl hl (Nat.le_of_ble_eq_true rfl) dX7_judge_53 ?_
          refine lv_istore (lv' := [(4, .int r6), (0, .ref (ad 59)), (1, .int w1_36), (3, .int w3_36), (5, .int w5_36)]) hx hb dX7_judge_56 hl (by decide) rfl (fun ls hl => ?_)
          refine lv_aload_n hx hb dX7_judge_58 rfl (lv_at hl 1 rfl) ?_
          refine gt_X7_34 hC hK hP dX7_judge_59 ?_
          refine lv_iload_n hx hb dX7_judge_62 rfl (lv_at hl 2 rfl) ?_
          refine lv_aload_n hx hb dX7_judge_63 rfl (lv_at hl 1 rfl) ?_
          refine gt_X7_34 hC hK hP dX7_judge_64 ?_
          refine lv_iload hx hb dX7_judge_67 (lv_at hl 0 rfl) ?_
          obtain ⟨r7, hc7, h⟩ := ob h
          refine callRV (As := [.int r6]) (rest := [.int w1_36, .ref (ad 47)]) hC (c_X4_weatherBy l g ad I J r6  hc7) lk_X7_279 rfl rfl ⟨Nat.le_of_ble_eq_true rfl, Nat.le_of_ble_eq_true rfl⟩ hP hK xo_47 rfl rfl rfl hl (Nat.le_of_ble_eq_true rfl) dX7_judge_69 ?_
          obtain ⟨r8, hc8, h⟩ := ob h
          refine callRV (As := [.int w1_36, .int r7]) (rest := []) hC (c_X4_harvestOf l g ad I J w1_36 r7  hc8) lk_X7_151 rfl rfl ⟨Nat.le_of_ble_eq_true rfl, Nat.le_of_ble_eq_true rfl⟩ hP hK xo_47 rfl rfl rfl hl (Nat.le_of_ble_eq_true rfl) dX7_judge_72 ?_
          refine lv_aload_n hx hb dX7_judge_75 rfl (lv_at hl 1 rfl) ?_
          refine gt_X7_59 hC hK hP dX7_judge_76 ?_
          refine lv_iload hx hb dX7_judge_79 (lv_at hl 4 rfl) ?_
          obtain ⟨r9, hc9, h⟩ := ob h
          refine callRS (As := [.ref (ad 60), .int w5_36]) (rest := [.int r8]) hC (c_X2_at l g (xW ad g I J) 60 16 (I 60) (ad 60) xo_60 w5_36 hc9) lk_X7_282 rfl rfl ⟨Nat.le_of_ble_eq_true rfl, Nat.le_of_ble_eq_true rfl⟩ hP hK rfl rfl hl (Nat.le_of_ble_eq_true rfl) dX7_judge_81 ?_
          refine lv_icmp_eq (tgt := 90) hx hb dX7_judge_84 (by decide) (fun c10 => ?_) (fun c10 => ?_)
          · replace h := (if_pos c10).symm.trans h
            refine lv_iinc (v := (w5_36 + 1)) (lv' := [(5, .int (w5_36 + 1)), (4, .int r6), (0, .ref (ad 59)), (1, .int w1_36), (3, .int w3_36)]) hx hb dX7_judge_90 hl (k := 4) rfl rfl (by decide) rfl (fun ls hl => ?_)
            refine lv_goto (tgt := 36) hx hb dX7_judge_93 (by decide) ?_
            exact ih I J w1_36 w3_36 r6 (w5_36 + 1) _ _ _ h hP hD hS (lv_sub hl [2, 3, 4, 1, 0] rfl)
          · replace h := (if_neg c10).symm.trans h
            refine lv_iload hx hb dX7_judge_87 (lv_at hl 4 rfl) ?_
            refine lv_istore_n (lv' := [(3, .int w5_36), (4, .int r6), (0, .ref (ad 59)), (1, .int w1_36), (5, .int w5_36)]) hx hb dX7_judge_89 rfl hl (by decide) rfl (fun ls hl => ?_)
            refine lv_iinc (v := (w5_36 + 1)) (lv' := [(5, .int (w5_36 + 1)), (3, .int w5_36), (4, .int r6), (0, .ref (ad 59)), (1, .int w1_36)]) hx hb dX7_judge_90 hl (k := 4) rfl rfl (by decide) rfl (fun ls hl => ?_)
            refine lv_goto (tgt := 36) hx hb dX7_judge_93 (by decide) ?_
            exact ih I J w1_36 w5_36 r6 (w5_36 + 1) _ _ _ h hP hD hS (lv_sub hl [3, 4, 1, 2, 0] rfl)
  unfold F_X7_judge at h
  refine lv_aload_n hx hb dX7_judge_0 rfl (lv_at hl 0 rfl) ?_
  refine gt_X7_10 hC hK hP dX7_judge_1 ?_
  refine lv_iload_n hx hb dX7_judge_4 rfl (lv_at hl 1 rfl) ?_
  obtain ⟨r1, hc1, h⟩ := ob h
  refine callRV (As := [.int v1]) (rest := []) hC (c_X1_hasPains l g ad I J 0 v1 (Or.inl rfl) hc1) lk_X7_148 rfl rfl ⟨Nat.le_of_ble_eq_true rfl, Nat.le_of_ble_eq_true rfl⟩ hP hK (xEo (Or.inl rfl)) rfl rfl rfl hl (Nat.le_of_ble_eq_true rfl) dX7_judge_5 ?_
  refine lv_if_ne (tgt := 17) hx hb dX7_judge_8 (by decide) (fun c2 => ?_) (fun c2 => ?_)
  · replace h := (if_neg c2).symm.trans h
    refine lv_aload_n hx hb dX7_judge_17 rfl (lv_at hl 0 rfl) ?_
    refine gt_X7_34 hC hK hP dX7_judge_18 ?_
    refine lv_iconst (v := 0) hx hb dX7_judge_21 (by decide) ?_
    refine lv_iconst (v := 0) hx hb dX7_judge_22 (by decide) ?_
    refine lv_iconst (v := 0) hx hb dX7_judge_23 (by decide) ?_
    obtain ⟨⟨I3, J3⟩, hc3, h⟩ := ob h
    dsimp only at h
    refine callWVv (As := [.int (0 : Int32), .int (0 : Int32), .int (0 : Int32)]) (rest := []) hC (c_X4_lay l g ad I J (0 : Int32) (0 : Int32) (0 : Int32)  H.size hc3) lk_X7_135 rfl rfl ⟨Nat.le_of_ble_eq_true rfl, Nat.le_of_ble_eq_true rfl⟩ hP hK hD hA hS xo_47 rfl rfl rfl hl (Nat.le_of_ble_eq_true rfl) dX7_judge_24 (fun H locs hP hD hS => ?_)
    refine lv_bipush (v := -9) hx hb dX7_judge_27 (by decide) ?_
    refine lv_istore_n (lv' := [(3, .int (-9 : Int32)), (0, .ref (ad 59)), (1, .int v1), (2, .int v2)]) hx hb dX7_judge_29 rfl hl (by decide) rfl (fun ls hl => ?_)
    refine lv_iload_n hx hb dX7_judge_30 rfl (lv_at hl 3 rfl) ?_
    refine lv_istore (lv' := [(4, .int v2), (3, .int (-9 : Int32)), (0, .ref (ad 59)), (1, .int v1), (2, .int v2)]) hx hb dX7_judge_31 hl (by decide) rfl (fun ls hl => ?_)
    refine lv_iconst (v := 0) hx hb dX7_judge_33 (by decide) ?_
    refine lv_istore (lv' := [(5, .int (0 : Int32)), (4, .int v2), (3, .int (-9 : Int32)), (0, .ref (ad 59)), (1, .int v1), (2, .int v2)]) hx hb dX7_judge_34 hl (by decide) rfl (fun ls hl => ?_)
    exact loop_36 3000 I3 J3 v1 (-9 : Int32) v2 (0 : Int32) _ _ _ h hP hD hS (lv_sub hl [3, 4, 2, 1, 0] rfl)
  · replace h := (if_pos c2).symm.trans h
    refine lv_aload_n hx hb dX7_judge_11 rfl (lv_at hl 0 rfl) ?_
    refine lv_iconst (v := -1) hx hb dX7_judge_12 (by decide) ?_
    obtain ⟨⟨r11, I11, J11⟩, hc11, h⟩ := ob h
    dsimp only at h
    refine callWVi (As := [.int (-1 : Int32)]) (rest := []) hC (c_X7_refuse l g ad I J (-1 : Int32)  H.size hc11) lk_X7_74 rfl rfl ⟨Nat.le_of_ble_eq_true rfl, Nat.le_of_ble_eq_true rfl⟩ hP hK hD hA hS xo_59 rfl rfl rfl hl (Nat.le_of_ble_eq_true rfl) dX7_judge_13 (fun H locs hP hD hS => ?_)
    obtain ⟨h1, h⟩ := Prod.mk.inj (Option.some.inj h)
    obtain ⟨rfl, rfl⟩ := Prod.mk.inj h
    exact hret _ _ _ _ _ dX7_judge_16 h1 hP hD hS
def F_X7_image (I : SI) (J : SJ) : Option (Int32 × SI × SJ) := ((F_X1_copyFrom 15 0 I J).bind fun (I1, J1) => (some (((u2 I1 59 11 (1 : Int32)) 0 8), (u2 I1 59 11 (1 : Int32)), J1)))
set_option maxHeartbeats 4000000 in
set_option maxRecDepth 100000 in
theorem c_X7_image (l : Launch) (g : Gx) (ad : Nat → Nat) (I : SI) (J : SJ)   (sz : Nat) {r : Int32} {rI : SI} {rJ : SJ} (h : F_X7_image I J = some (r, rI, rJ)) : Met l yX7_image (Cond.code yX7_image cX7_image 1 (some .int) :: BG) (k2_rm 3 67) (PcW [.ref (ad 59)] g (xW ad g I J) sz) (QWi r g (xW ad g I J) (xW ad g rI rJ) sz) 0 0 (va_A (xW ad g I J) sz) := by
  refine mkWi (by decide) (Nat.le_of_ble_eq_true rfl) ?_
  intro p e s m args below meth c H locs ls A Q hC hK hP hD hA hS hl hret
  have hx := hC.1
  have hb := hC.2.1
  have hts := hC.2.2.2.2
  have hown := hC.2.2.2.1
  replace hl : lv_has ls 1 [(0, .ref (ad 59))] := hl
  unfold F_X7_image at h
  refine lv_aload_n hx hb dX7_image_0 rfl (lv_at hl 0 rfl) ?_
  refine gt_X7_16 hC hK hP dX7_image_1 ?_
  refine lv_aload_n hx hb dX7_image_4 rfl (lv_at hl 0 rfl) ?_
  refine gt_X7_10 hC hK hP dX7_image_5 ?_
  obtain ⟨⟨I1, J1⟩, hc1, h⟩ := ob h
  dsimp only at h
  refine callWVv (As := [.ref (ad 0)]) (rest := []) hC (c_X1_copyFrom l g ad I J 15 0 (Or.inr (Or.inl rfl)) (Or.inl rfl) (by decide) H.size hc1) lk_X7_86 rfl rfl ⟨Nat.le_of_ble_eq_true rfl, Nat.le_of_ble_eq_true rfl⟩ hP hK hD hA hS (xEo (Or.inr (Or.inl rfl))) rfl rfl rfl hl (Nat.le_of_ble_eq_true rfl) dX7_image_8 (fun H locs hP hD hS => ?_)
  refine lv_aload_n hx hb dX7_image_11 rfl (lv_at hl 0 rfl) ?_
  refine lv_iconst (v := 1) hx hb dX7_image_12 (by decide) ?_
  refine pt_X7_286 (by decide) hC hK hP hD hS dX7_image_13 (fun H locs hP hD hS => ?_)
  refine lv_aload_n hx hb dX7_image_16 rfl (lv_at hl 0 rfl) ?_
  refine gt_X7_10 hC hK hP dX7_image_17 ?_
  refine gt_X7_96 (Or.inl rfl) hC hK hP dX7_image_20 ?_
  obtain ⟨h1, h⟩ := Prod.mk.inj (Option.some.inj h)
  obtain ⟨rfl, rfl⟩ := Prod.mk.inj h
  exact hret _ _ _ _ _ dX7_image_23 h1 hP hD hS
def F_X7_restore (I : SI) (J : SJ) : Option (Int32 × SI × SJ) := (if (I 59 11) = 0 then ((F_X7_refuse I J (-3 : Int32)).bind fun (r3, I3, J3) => (some (r3, I3, J3))) else ((F_X1_copyFrom 0 15 I J).bind fun (I2, J2) => (some ((I2 0 8), I2, J2))))
set_option maxHeartbeats 4000000 in
set_option maxRecDepth 100000 in
theorem c_X7_restore (l : Launch) (g : Gx) (ad : Nat → Nat) (I : SI) (J : SJ)   (sz : Nat) {r : Int32} {rI : SI} {rJ : SJ} (h : F_X7_restore I J = some (r, rI, rJ)) : Met l yX7_restore (Cond.code yX7_restore cX7_restore 1 (some .int) :: BG) (k2_rm 3 67) (PcW [.ref (ad 59)] g (xW ad g I J) sz) (QWi r g (xW ad g I J) (xW ad g rI rJ) sz) 0 0 (va_A (xW ad g I J) sz) := by
  refine mkWi (by decide) (Nat.le_of_ble_eq_true rfl) ?_
  intro p e s m args below meth c H locs ls A Q hC hK hP hD hA hS hl hret
  have hx := hC.1
  have hb := hC.2.1
  have hts := hC.2.2.2.2
  have hown := hC.2.2.2.1
  replace hl : lv_has ls 1 [(0, .ref (ad 59))] := hl
  unfold F_X7_restore at h
  refine lv_aload_n hx hb dX7_restore_0 rfl (lv_at hl 0 rfl) ?_
  refine gt_X7_286 hC hK hP dX7_restore_1 ?_
  refine lv_if_ne (tgt := 14) hx hb dX7_restore_4 (by decide) (fun c1 => ?_) (fun c1 => ?_)
  · replace h := (if_neg c1).symm.trans h
    refine lv_aload_n hx hb dX7_restore_14 rfl (lv_at hl 0 rfl) ?_
    refine gt_X7_10 hC hK hP dX7_restore_15 ?_
    refine lv_aload_n hx hb dX7_restore_18 rfl (lv_at hl 0 rfl) ?_
    refine gt_X7_16 hC hK hP dX7_restore_19 ?_
    obtain ⟨⟨I2, J2⟩, hc2, h⟩ := ob h
    dsimp only at h
    refine callWVv (As := [.ref (ad 15)]) (rest := []) hC (c_X1_copyFrom l g ad I J 0 15 (Or.inl rfl) (Or.inr (Or.inl rfl)) (by decide) H.size hc2) lk_X7_86 rfl rfl ⟨Nat.le_of_ble_eq_true rfl, Nat.le_of_ble_eq_true rfl⟩ hP hK hD hA hS (xEo (Or.inl rfl)) rfl rfl rfl hl (Nat.le_of_ble_eq_true rfl) dX7_restore_22 (fun H locs hP hD hS => ?_)
    refine lv_aload_n hx hb dX7_restore_25 rfl (lv_at hl 0 rfl) ?_
    refine gt_X7_10 hC hK hP dX7_restore_26 ?_
    refine gt_X7_96 (Or.inl rfl) hC hK hP dX7_restore_29 ?_
    obtain ⟨h1, h⟩ := Prod.mk.inj (Option.some.inj h)
    obtain ⟨rfl, rfl⟩ := Prod.mk.inj h
    exact hret _ _ _ _ _ dX7_restore_32 h1 hP hD hS
  · replace h := (if_pos c1).symm.trans h
    refine lv_aload_n hx hb dX7_restore_7 rfl (lv_at hl 0 rfl) ?_
    refine lv_bipush (v := -3) hx hb dX7_restore_8 (by decide) ?_
    obtain ⟨⟨r3, I3, J3⟩, hc3, h⟩ := ob h
    dsimp only at h
    refine callWVi (As := [.int (-3 : Int32)]) (rest := []) hC (c_X7_refuse l g ad I J (-3 : Int32)  H.size hc3) lk_X7_74 rfl rfl ⟨Nat.le_of_ble_eq_true rfl, Nat.le_of_ble_eq_true rfl⟩ hP hK hD hA hS xo_59 rfl rfl rfl hl (Nat.le_of_ble_eq_true rfl) dX7_restore_10 (fun H locs hP hD hS => ?_)
    obtain ⟨h1, h⟩ := Prod.mk.inj (Option.some.inj h)
    obtain ⟨rfl, rfl⟩ := Prod.mk.inj h
    exact hret _ _ _ _ _ dX7_restore_13 h1 hP hD hS
def F_X7_countWeathers (I : SI) (J : SJ) : Option (Int32 × SI × SJ) := ((F_X4_lay I J (0 : Int32) (0 : Int32) (0 : Int32)).bind fun (I1, J1) => (some ((I1 47 6), I1, J1)))
set_option maxHeartbeats 4000000 in
set_option maxRecDepth 100000 in
theorem c_X7_countWeathers (l : Launch) (g : Gx) (ad : Nat → Nat) (I : SI) (J : SJ)   (sz : Nat) {r : Int32} {rI : SI} {rJ : SJ} (h : F_X7_countWeathers I J = some (r, rI, rJ)) : Met l yX7_countWeathers (Cond.code yX7_countWeathers cX7_countWeathers 1 (some .int) :: BG) (k2_rm 4 93) (PcW [.ref (ad 59)] g (xW ad g I J) sz) (QWi r g (xW ad g I J) (xW ad g rI rJ) sz) 0 0 (va_A (xW ad g I J) sz) := by
  refine mkWi (by decide) (Nat.le_of_ble_eq_true rfl) ?_
  intro p e s m args below meth c H locs ls A Q hC hK hP hD hA hS hl hret
  have hx := hC.1
  have hb := hC.2.1
  have hts := hC.2.2.2.2
  have hown := hC.2.2.2.1
  replace hl : lv_has ls 1 [(0, .ref (ad 59))] := hl
  unfold F_X7_countWeathers at h
  refine lv_aload_n hx hb dX7_countWeathers_0 rfl (lv_at hl 0 rfl) ?_
  refine gt_X7_34 hC hK hP dX7_countWeathers_1 ?_
  refine lv_iconst (v := 0) hx hb dX7_countWeathers_4 (by decide) ?_
  refine lv_iconst (v := 0) hx hb dX7_countWeathers_5 (by decide) ?_
  refine lv_iconst (v := 0) hx hb dX7_countWeathers_6 (by decide) ?_
  obtain ⟨⟨I1, J1⟩, hc1, h⟩ := ob h
  dsimp only at h
  refine callWVv (As := [.int (0 : Int32), .int (0 : Int32), .int (0 : Int32)]) (rest := []) hC (c_X4_lay l g ad I J (0 : Int32) (0 : Int32) (0 : Int32)  H.size hc1) lk_X7_135 rfl rfl ⟨Nat.le_of_ble_eq_true rfl, Nat.le_of_ble_eq_true rfl⟩ hP hK hD hA hS xo_47 rfl rfl rfl hl (Nat.le_of_ble_eq_true rfl) dX7_countWeathers_7 (fun H locs hP hD hS => ?_)
  refine lv_aload_n hx hb dX7_countWeathers_10 rfl (lv_at hl 0 rfl) ?_
  refine gt_X7_34 hC hK hP dX7_countWeathers_11 ?_
  refine gt_X7_305 hC hK hP dX7_countWeathers_14 ?_
  obtain ⟨h1, h⟩ := Prod.mk.inj (Option.some.inj h)
  obtain ⟨rfl, rfl⟩ := Prod.mk.inj h
  exact hret _ _ _ _ _ dX7_countWeathers_17 h1 hP hD hS
def F_X7_count (I : SI) (J : SJ) (v1 : Int32) : Option (Int32 × SI × SJ) := (if v1 = 0 then (some ((I 0 8), I, J)) else (if v1 = 1 then (some ((I 0 6), I, J)) else (if v1 = 2 then ((F_X7_countWeathers I J).bind fun (r4, I4, J4) => (some (r4, I4, J4))) else (if v1 = 3 then ((F_X2_sum 8 (I 2) (I 0 6)).bind fun r6 => (some (r6, I, J))) else (if v1 = 4 then ((F_X2_sum 8 (I 3) (I 0 6)).bind fun r8 => (some (r8, I, J))) else (if v1 = 5 then (some ((I 59 10), I, J)) else (if v1 = 6 then (some ((I 45 1), I, J)) else (if v1 < (11 : Int32) then (some ((-9 : Int32), I, J)) else (if (16 : Int32) < v1 then (some ((-9 : Int32), I, J)) else ((F_X2_at 6 (I 61) (v1 - (11 : Int32))).bind fun r13 => (some (r13, I, J))))))))))))
set_option maxHeartbeats 4000000 in
set_option maxRecDepth 100000 in
theorem c_X7_count (l : Launch) (g : Gx) (ad : Nat → Nat) (I : SI) (J : SJ) (v1 : Int32)  (sz : Nat) {r : Int32} {rI : SI} {rJ : SJ} (h : F_X7_count I J v1 = some (r, rI, rJ)) : Met l yX7_count (Cond.code yX7_count cX7_count 2 (some .int) :: BG) (k2_rm 5 113) (PcW [.ref (ad 59), .int v1] g (xW ad g I J) sz) (QWi r g (xW ad g I J) (xW ad g rI rJ) sz) 0 0 (va_A (xW ad g I J) sz) := by
  refine mkWi (by decide) (Nat.le_of_ble_eq_true rfl) ?_
  intro p e s m args below meth c H locs ls A Q hC hK hP hD hA hS hl hret
  have hx := hC.1
  have hb := hC.2.1
  have hts := hC.2.2.2.2
  have hown := hC.2.2.2.1
  replace hl : lv_has ls 2 [(0, .ref (ad 59)), (1, .int v1)] := hl
  unfold F_X7_count at h
  refine lv_iload_n hx hb dX7_count_0 rfl (lv_at hl 1 rfl) ?_
  by_cases c1 : v1 = 0
  · replace h := (if_pos c1).symm.trans h
    refine lv_tableIn (off := 43) (tgt := 44) hx hb dX7_count_1 (by rw [c1]; decide) (by rw [c1]; decide) (by rw [c1]; decide) (by decide) ?_
    refine lv_aload_n hx hb dX7_count_44 rfl (lv_at hl 0 rfl) ?_
    refine gt_X7_10 hC hK hP dX7_count_45 ?_
    refine gt_X7_96 (Or.inl rfl) hC hK hP dX7_count_48 ?_
    obtain ⟨h1, h⟩ := Prod.mk.inj (Option.some.inj h)
    obtain ⟨rfl, rfl⟩ := Prod.mk.inj h
    exact hret _ _ _ _ _ dX7_count_51 h1 hP hD hS
  · replace h := (if_neg c1).symm.trans h
    by_cases c2 : v1 = 1
    · replace h := (if_pos c2).symm.trans h
      refine lv_tableIn (off := 51) (tgt := 52) hx hb dX7_count_1 (by rw [c2]; decide) (by rw [c2]; decide) (by rw [c2]; decide) (by decide) ?_
      refine lv_aload_n hx hb dX7_count_52 rfl (lv_at hl 0 rfl) ?_
      refine gt_X7_10 hC hK hP dX7_count_53 ?_
      refine gt_X7_290 (Or.inl rfl) hC hK hP dX7_count_56 ?_
      obtain ⟨h1, h⟩ := Prod.mk.inj (Option.some.inj h)
      obtain ⟨rfl, rfl⟩ := Prod.mk.inj h
      exact hret _ _ _ _ _ dX7_count_59 h1 hP hD hS
    · replace h := (if_neg c2).symm.trans h
      by_cases c3 : v1 = 2
      · replace h := (if_pos c3).symm.trans h
        refine lv_tableIn (off := 59) (tgt := 60) hx hb dX7_count_1 (by rw [c3]; decide) (by rw [c3]; decide) (by rw [c3]; decide) (by decide) ?_
        refine lv_aload_n hx hb dX7_count_60 rfl (lv_at hl 0 rfl) ?_
        obtain ⟨⟨r4, I4, J4⟩, hc4, h⟩ := ob h
        dsimp only at h
        refine callWVi (As := []) (rest := []) hC (c_X7_countWeathers l g ad I J   H.size hc4) lk_X7_293 rfl rfl ⟨Nat.le_of_ble_eq_true rfl, Nat.le_of_ble_eq_true rfl⟩ hP hK hD hA hS xo_59 rfl rfl rfl hl (Nat.le_of_ble_eq_true rfl) dX7_count_61 (fun H locs hP hD hS => ?_)
        obtain ⟨h1, h⟩ := Prod.mk.inj (Option.some.inj h)
        obtain ⟨rfl, rfl⟩ := Prod.mk.inj h
        exact hret _ _ _ _ _ dX7_count_64 h1 hP hD hS
      · replace h := (if_neg c3).symm.trans h
        by_cases c5 : v1 = 3
        · replace h := (if_pos c5).symm.trans h
          refine lv_tableIn (off := 64) (tgt := 65) hx hb dX7_count_1 (by rw [c5]; decide) (by rw [c5]; decide) (by rw [c5]; decide) (by decide) ?_
          refine lv_aload_n hx hb dX7_count_65 rfl (lv_at hl 0 rfl) ?_
          refine gt_X7_10 hC hK hP dX7_count_66 ?_
          refine gt_X7_296 (Or.inl rfl) hC hK hP dX7_count_69 ?_
          refine lv_aload_n hx hb dX7_count_72 rfl (lv_at hl 0 rfl) ?_
          refine gt_X7_10 hC hK hP dX7_count_73 ?_
          refine gt_X7_290 (Or.inl rfl) hC hK hP dX7_count_76 ?_
          obtain ⟨r6, hc6, h⟩ := ob h
          refine callRS (As := [.ref (ad 2), .int (I 0 6)]) (rest := []) hC (c_X2_sum l g (xW ad g I J) 2 8 (I 2) (ad 2) xo_2 (I 0 6) hc6) lk_X7_299 rfl rfl ⟨Nat.le_of_ble_eq_true rfl, Nat.le_of_ble_eq_true rfl⟩ hP hK rfl rfl hl (Nat.le_of_ble_eq_true rfl) dX7_count_79 ?_
          obtain ⟨h1, h⟩ := Prod.mk.inj (Option.some.inj h)
          obtain ⟨rfl, rfl⟩ := Prod.mk.inj h
          exact hret _ _ _ _ _ dX7_count_82 h1 hP hD hS
        · replace h := (if_neg c5).symm.trans h
          by_cases c7 : v1 = 4
          · replace h := (if_pos c7).symm.trans h
            refine lv_tableIn (off := 82) (tgt := 83) hx hb dX7_count_1 (by rw [c7]; decide) (by rw [c7]; decide) (by rw [c7]; decide) (by decide) ?_
            refine lv_aload_n hx hb dX7_count_83 rfl (lv_at hl 0 rfl) ?_
            refine gt_X7_10 hC hK hP dX7_count_84 ?_
            refine gt_X7_302 (Or.inl rfl) hC hK hP dX7_count_87 ?_
            refine lv_aload_n hx hb dX7_count_90 rfl (lv_at hl 0 rfl) ?_
            refine gt_X7_10 hC hK hP dX7_count_91 ?_
            refine gt_X7_290 (Or.inl rfl) hC hK hP dX7_count_94 ?_
            obtain ⟨r8, hc8, h⟩ := ob h
            refine callRS (As := [.ref (ad 3), .int (I 0 6)]) (rest := []) hC (c_X2_sum l g (xW ad g I J) 3 8 (I 3) (ad 3) xo_3 (I 0 6) hc8) lk_X7_299 rfl rfl ⟨Nat.le_of_ble_eq_true rfl, Nat.le_of_ble_eq_true rfl⟩ hP hK rfl rfl hl (Nat.le_of_ble_eq_true rfl) dX7_count_97 ?_
            obtain ⟨h1, h⟩ := Prod.mk.inj (Option.some.inj h)
            obtain ⟨rfl, rfl⟩ := Prod.mk.inj h
            exact hret _ _ _ _ _ dX7_count_100 h1 hP hD hS
          · replace h := (if_neg c7).symm.trans h
            by_cases c9 : v1 = 5
            · replace h := (if_pos c9).symm.trans h
              refine lv_tableIn (off := 100) (tgt := 101) hx hb dX7_count_1 (by rw [c9]; decide) (by rw [c9]; decide) (by rw [c9]; decide) (by decide) ?_
              refine lv_aload_n hx hb dX7_count_101 rfl (lv_at hl 0 rfl) ?_
              refine gt_X7_272 hC hK hP dX7_count_102 ?_
              obtain ⟨h1, h⟩ := Prod.mk.inj (Option.some.inj h)
              obtain ⟨rfl, rfl⟩ := Prod.mk.inj h
              exact hret _ _ _ _ _ dX7_count_105 h1 hP hD hS
            · replace h := (if_neg c9).symm.trans h
              by_cases c10 : v1 = 6
              · replace h := (if_pos c10).symm.trans h
                refine lv_tableIn (off := 105) (tgt := 106) hx hb dX7_count_1 (by rw [c10]; decide) (by rw [c10]; decide) (by rw [c10]; decide) (by decide) ?_
                refine lv_aload_n hx hb dX7_count_106 rfl (lv_at hl 0 rfl) ?_
                refine gt_X7_25 hC hK hP dX7_count_107 ?_
                refine gt_X7_82 hC hK hP dX7_count_110 ?_
                obtain ⟨h1, h⟩ := Prod.mk.inj (Option.some.inj h)
                obtain ⟨rfl, rfl⟩ := Prod.mk.inj h
                exact hret _ _ _ _ _ dX7_count_113 h1 hP hD hS
              · replace h := (if_neg c10).symm.trans h
                refine lv_tableOut (tgt := 114) hx hb dX7_count_1 (by have ec1 := ti_ne (n := 0) (by decide) c1; have ec2 := ti_ne (n := 1) (by decide) c2; have ec3 := ti_ne (n := 2) (by decide) c3; have ec5 := ti_ne (n := 3) (by decide) c5; have ec7 := ti_ne (n := 4) (by decide) c7; have ec9 := ti_ne (n := 5) (by decide) c9; have ec10 := ti_ne (n := 6) (by decide) c10; omega) (by decide) ?_
                refine lv_iload_n hx hb dX7_count_114 rfl (lv_at hl 1 rfl) ?_
                refine lv_bipush (v := 11) hx hb dX7_count_115 (by decide) ?_
                refine lv_icmp_lt (tgt := 140) hx hb dX7_count_117 (by decide) (fun c11 => ?_) (fun c11 => ?_)
                · replace h := (if_pos c11).symm.trans h
                  refine lv_bipush (v := -9) hx hb dX7_count_140 (by decide) ?_
                  obtain ⟨h1, h⟩ := Prod.mk.inj (Option.some.inj h)
                  obtain ⟨rfl, rfl⟩ := Prod.mk.inj h
                  exact hret _ _ _ _ _ dX7_count_142 h1 hP hD hS
                · replace h := (if_neg c11).symm.trans h
                  refine lv_iload_n hx hb dX7_count_120 rfl (lv_at hl 1 rfl) ?_
                  refine lv_bipush (v := 16) hx hb dX7_count_121 (by decide) ?_
                  refine lv_icmp_gt (tgt := 140) hx hb dX7_count_123 (by decide) (fun c12 => ?_) (fun c12 => ?_)
                  · replace h := (if_pos c12).symm.trans h
                    refine lv_bipush (v := -9) hx hb dX7_count_140 (by decide) ?_
                    obtain ⟨h1, h⟩ := Prod.mk.inj (Option.some.inj h)
                    obtain ⟨rfl, rfl⟩ := Prod.mk.inj h
                    exact hret _ _ _ _ _ dX7_count_142 h1 hP hD hS
                  · replace h := (if_neg c12).symm.trans h
                    refine lv_aload_n hx hb dX7_count_126 rfl (lv_at hl 0 rfl) ?_
                    refine gt_X7_63 hC hK hP dX7_count_127 ?_
                    refine lv_iload_n hx hb dX7_count_130 rfl (lv_at hl 1 rfl) ?_
                    refine lv_bipush (v := 11) hx hb dX7_count_131 (by decide) ?_
                    refine lv_isub hx hb dX7_count_133 ?_
                    obtain ⟨r13, hc13, h⟩ := ob h
                    refine callRS (As := [.ref (ad 61), .int (v1 - (11 : Int32))]) (rest := []) hC (c_X2_at l g (xW ad g I J) 61 6 (I 61) (ad 61) xo_61 (v1 - (11 : Int32)) hc13) lk_X7_282 rfl rfl ⟨Nat.le_of_ble_eq_true rfl, Nat.le_of_ble_eq_true rfl⟩ hP hK rfl rfl hl (Nat.le_of_ble_eq_true rfl) dX7_count_134 ?_
                    refine lv_goto (tgt := 142) hx hb dX7_count_137 (by decide) ?_
                    obtain ⟨h1, h⟩ := Prod.mk.inj (Option.some.inj h)
                    obtain ⟨rfl, rfl⟩ := Prod.mk.inj h
                    exact hret _ _ _ _ _ dX7_count_142 h1 hP hD hS
def F_X8_no (I : SI) (J : SJ) (v1 : Int32) : Option (Int32 × SI × SJ) := (if gin (-v1) 7 = true then (if gin (-v1) 7 = true then (some (v1, (u1 I 1 (upd (I 1) (Int32.toNatClampNeg (-v1)) ((I 1 (Int32.toNatClampNeg (-v1))) + (1 : Int32)))), J)) else none) else none)
set_option maxHeartbeats 4000000 in
set_option maxRecDepth 100000 in
theorem c_X8_no (l : Launch) (g : Gx) (ad : Nat → Nat) (I : SI) (J : SJ) (v1 : Int32)  (sz : Nat) {r : Int32} {rI : SI} {rJ : SJ} (h : F_X8_no I J v1 = some (r, rI, rJ)) : Met l yX8_no (Cond.code yX8_no cX8_no 2 (some .int) :: BG) (k2_rm 0 0) (PcW [.ref (ad 0), .int v1] g (mW ad g I J) sz) (QWi r g (mW ad g I J) (mW ad g rI rJ) sz) 0 0 (va_A (mW ad g I J) sz) := by
  refine mkWi (by decide) (Nat.le_of_ble_eq_true rfl) ?_
  intro p e s m args below meth c H locs ls A Q hC hK hP hD hA hS hl hret
  have hx := hC.1
  have hb := hC.2.1
  have hts := hC.2.2.2.2
  have hown := hC.2.2.2.1
  replace hl : lv_has ls 2 [(0, .ref (ad 0)), (1, .int v1)] := hl
  unfold F_X8_no at h
  refine lv_aload_n hx hb dX8_no_0 rfl (lv_at hl 0 rfl) ?_
  refine gt_X8_7 hC hK hP dX8_no_1 ?_
  refine lv_iload_n hx hb dX8_no_4 rfl (lv_at hl 1 rfl) ?_
  refine lv_ineg hx hb dX8_no_5 ?_
  refine lv_dup2_11 hx hb dX8_no_6 rfl rfl ?_
  obtain ⟨b1, h⟩ := og h
  refine al_m1 hC hK hP (gin_ok b1) dX8_no_7 ?_
  refine lv_iconst (v := 1) hx hb dX8_no_8 (by decide) ?_
  refine lv_iadd hx hb dX8_no_9 ?_
  obtain ⟨b2, h⟩ := og h
  refine as_m1 hC hK hP hD hS (gin_ok b2) dX8_no_10 (fun H locs hP hD hS => ?_)
  refine lv_iload_n hx hb dX8_no_11 rfl (lv_at hl 1 rfl) ?_
  obtain ⟨h1, h⟩ := Prod.mk.inj (Option.some.inj h)
  obtain ⟨rfl, rfl⟩ := Prod.mk.inj h
  exact hret _ _ _ _ _ dX8_no_12 h1 hP hD hS
def F_X8_lower (I : SI) (J : SJ) (v1 : Int32) : Option (Int32 × SI × SJ) := (if gin (-v1) 7 = true then (if gin (-v1) 7 = true then (some (((1000000000 : Int32) - v1), (u1 I 1 (upd (I 1) (Int32.toNatClampNeg (-v1)) ((I 1 (Int32.toNatClampNeg (-v1))) + (1 : Int32)))), J)) else none) else none)
set_option maxHeartbeats 4000000 in
set_option maxRecDepth 100000 in
theorem c_X8_lower (l : Launch) (g : Gx) (ad : Nat → Nat) (I : SI) (J : SJ) (v1 : Int32)  (sz : Nat) {r : Int32} {rI : SI} {rJ : SJ} (h : F_X8_lower I J v1 = some (r, rI, rJ)) : Met l yX8_lower (Cond.code yX8_lower cX8_lower 2 (some .int) :: BG) (k2_rm 0 0) (PcW [.ref (ad 0), .int v1] g (mW ad g I J) sz) (QWi r g (mW ad g I J) (mW ad g rI rJ) sz) 0 0 (va_A (mW ad g I J) sz) := by
  refine mkWi (by decide) (Nat.le_of_ble_eq_true rfl) ?_
  intro p e s m args below meth c H locs ls A Q hC hK hP hD hA hS hl hret
  have hx := hC.1
  have hb := hC.2.1
  have hts := hC.2.2.2.2
  have hown := hC.2.2.2.1
  replace hl : lv_has ls 2 [(0, .ref (ad 0)), (1, .int v1)] := hl
  unfold F_X8_lower at h
  refine lv_aload_n hx hb dX8_lower_0 rfl (lv_at hl 0 rfl) ?_
  refine gt_X8_7 hC hK hP dX8_lower_1 ?_
  refine lv_iload_n hx hb dX8_lower_4 rfl (lv_at hl 1 rfl) ?_
  refine lv_ineg hx hb dX8_lower_5 ?_
  refine lv_dup2_11 hx hb dX8_lower_6 rfl rfl ?_
  obtain ⟨b1, h⟩ := og h
  refine al_m1 hC hK hP (gin_ok b1) dX8_lower_7 ?_
  refine lv_iconst (v := 1) hx hb dX8_lower_8 (by decide) ?_
  refine lv_iadd hx hb dX8_lower_9 ?_
  obtain ⟨b2, h⟩ := og h
  refine as_m1 hC hK hP hD hS (gin_ok b2) dX8_lower_10 (fun H locs hP hD hS => ?_)
  refine lv_ldc hx hb hown (hts _ kc_X8_74) dX8_lower_11 ?_
  refine lv_iload_n hx hb dX8_lower_13 rfl (lv_at hl 1 rfl) ?_
  refine lv_isub hx hb dX8_lower_14 ?_
  obtain ⟨h1, h⟩ := Prod.mk.inj (Option.some.inj h)
  obtain ⟨rfl, rfl⟩ := Prod.mk.inj h
  exact hret _ _ _ _ _ dX8_lower_15 h1 hP hD hS
def F_X8_noLong (I : SI) (J : SJ) (v1 : Int32) : Option (Int64 × SI × SJ) := (if gin (-v1) 7 = true then (if gin (-v1) 7 = true then (some (((4000000000000000000 : Int64) - (Int32.toInt64 v1)), (u1 I 1 (upd (I 1) (Int32.toNatClampNeg (-v1)) ((I 1 (Int32.toNatClampNeg (-v1))) + (1 : Int32)))), J)) else none) else none)
set_option maxHeartbeats 4000000 in
set_option maxRecDepth 100000 in
theorem c_X8_noLong (l : Launch) (g : Gx) (ad : Nat → Nat) (I : SI) (J : SJ) (v1 : Int32)  (sz : Nat) {r : Int64} {rI : SI} {rJ : SJ} (h : F_X8_noLong I J v1 = some (r, rI, rJ)) : Met l yX8_noLong (Cond.code yX8_noLong cX8_noLong 2 (some .long) :: BG) (k2_rm 0 0) (PcW [.ref (ad 0), .int v1] g (mW ad g I J) sz) (QWl r g (mW ad g I J) (mW ad g rI rJ) sz) 0 0 (va_A (mW ad g I J) sz) := by
  refine mkWl (by decide) (Nat.le_of_ble_eq_true rfl) ?_
  intro p e s m args below meth c H locs ls A Q hC hK hP hD hA hS hl hret
  have hx := hC.1
  have hb := hC.2.1
  have hts := hC.2.2.2.2
  have hown := hC.2.2.2.1
  replace hl : lv_has ls 2 [(0, .ref (ad 0)), (1, .int v1)] := hl
  unfold F_X8_noLong at h
  refine lv_aload_n hx hb dX8_noLong_0 rfl (lv_at hl 0 rfl) ?_
  refine gt_X8_7 hC hK hP dX8_noLong_1 ?_
  refine lv_iload_n hx hb dX8_noLong_4 rfl (lv_at hl 1 rfl) ?_
  refine lv_ineg hx hb dX8_noLong_5 ?_
  refine lv_dup2_11 hx hb dX8_noLong_6 rfl rfl ?_
  obtain ⟨b1, h⟩ := og h
  refine al_m1 hC hK hP (gin_ok b1) dX8_noLong_7 ?_
  refine lv_iconst (v := 1) hx hb dX8_noLong_8 (by decide) ?_
  refine lv_iadd hx hb dX8_noLong_9 ?_
  obtain ⟨b2, h⟩ := og h
  refine as_m1 hC hK hP hD hS (gin_ok b2) dX8_noLong_10 (fun H locs hP hD hS => ?_)
  refine lv_ldc2 hx hb hown (hts _ kc_X8_75) dX8_noLong_11 ?_
  refine lv_iload_n hx hb dX8_noLong_14 rfl (lv_at hl 1 rfl) ?_
  refine lv_i2l hx hb dX8_noLong_15 rfl ?_
  refine lv_lsub hx hb dX8_noLong_16 ?_
  obtain ⟨h1, h⟩ := Prod.mk.inj (Option.some.inj h)
  obtain ⟨rfl, rfl⟩ := Prod.mk.inj h
  exact hret _ _ _ _ _ dX8_noLong_17 h1 hP hD hS
def F_X8_isIn (v1 : Int32) (v2 : Int32) (v3 : Int32) : Option (Int32) := (if v1 < v2 then (some (0 : Int32)) else (if v3 < v1 then (some (0 : Int32)) else (some (1 : Int32))))
set_option maxHeartbeats 4000000 in
set_option maxRecDepth 100000 in
theorem c_X8_isIn (l : Launch) (g : Gx) (ws : va_W) (v1 : Int32) (v2 : Int32) (v3 : Int32)  {r : Int32} (h : F_X8_isIn v1 v2 v3 = some r) : Met l yX8_isIn (Cond.code yX8_isIn cX8_isIn 3 (some .boolean) :: BG) (k2_rm 0 0) (va_Pc [.int v1, .int v2, .int v3] (fun U => Pg g ws U.heap ∧ Kg g U)) (k2_QcV (.int r)) 0 0 (fun _ => False) := by
  refine mkRz (by decide) (Nat.le_of_ble_eq_true rfl) ?_
  intro p e s m args below meth c H locs ls Q hC hK hP hl hret
  have hx := hC.1
  have hb := hC.2.1
  have hts := hC.2.2.2.2
  have hown := hC.2.2.2.1
  replace hl : lv_has ls 3 [(0, .int v1), (1, .int v2), (2, .int v3)] := hl
  unfold F_X8_isIn at h
  refine lv_iload_n hx hb dX8_isIn_0 rfl (lv_at hl 0 rfl) ?_
  refine lv_iload_n hx hb dX8_isIn_1 rfl (lv_at hl 1 rfl) ?_
  refine lv_icmp_lt (tgt := 14) hx hb dX8_isIn_2 (by decide) (fun c1 => ?_) (fun c1 => ?_)
  · replace h := (if_pos c1).symm.trans h
    refine lv_iconst (v := 0) hx hb dX8_isIn_14 (by decide) ?_
    exact hret _ _ _ dX8_isIn_15 rfl (Option.some.inj h)
  · replace h := (if_neg c1).symm.trans h
    refine lv_iload_n hx hb dX8_isIn_5 rfl (lv_at hl 0 rfl) ?_
    refine lv_iload_n hx hb dX8_isIn_6 rfl (lv_at hl 2 rfl) ?_
    refine lv_icmp_gt (tgt := 14) hx hb dX8_isIn_7 (by decide) (fun c2 => ?_) (fun c2 => ?_)
    · replace h := (if_pos c2).symm.trans h
      refine lv_iconst (v := 0) hx hb dX8_isIn_14 (by decide) ?_
      exact hret _ _ _ dX8_isIn_15 rfl (Option.some.inj h)
    · replace h := (if_neg c2).symm.trans h
      refine lv_iconst (v := 1) hx hb dX8_isIn_10 (by decide) ?_
      refine lv_goto (tgt := 15) hx hb dX8_isIn_11 (by decide) ?_
      exact hret _ _ _ dX8_isIn_15 rfl (Option.some.inj h)
def F_X8_bound (v1 : Int32) (v2 : Int32) (v3 : Int32) : Option (Int32) := (if v2 ≤ v1 then (some (if v1 ≤ v3 then (0 : Int32) else (-6 : Int32))) else (some (-4 : Int32)))
set_option maxHeartbeats 4000000 in
set_option maxRecDepth 100000 in
theorem c_X8_bound (l : Launch) (g : Gx) (ws : va_W) (v1 : Int32) (v2 : Int32) (v3 : Int32)  {r : Int32} (h : F_X8_bound v1 v2 v3 = some r) : Met l yX8_bound (Cond.code yX8_bound cX8_bound 3 (some .int) :: BG) (k2_rm 0 0) (va_Pc [.int v1, .int v2, .int v3] (fun U => Pg g ws U.heap ∧ Kg g U)) (k2_QcV (.int r)) 0 0 (fun _ => False) := by
  refine mkRi (by decide) (Nat.le_of_ble_eq_true rfl) ?_
  intro p e s m args below meth c H locs ls Q hC hK hP hl hret
  have hx := hC.1
  have hb := hC.2.1
  have hts := hC.2.2.2.2
  have hown := hC.2.2.2.1
  replace hl : lv_has ls 3 [(0, .int v1), (1, .int v2), (2, .int v3)] := hl
  unfold F_X8_bound at h
  refine lv_iload_n hx hb dX8_bound_0 rfl (lv_at hl 0 rfl) ?_
  refine lv_iload_n hx hb dX8_bound_1 rfl (lv_at hl 1 rfl) ?_
  refine lv_icmp_ge (tgt := 10) hx hb dX8_bound_2 (by decide) (fun c1 => ?_) (fun c1 => ?_)
  · replace h := (if_pos c1).symm.trans h
    refine lv_iload_n hx hb dX8_bound_10 rfl (lv_at hl 0 rfl) ?_
    refine lv_iload_n hx hb dX8_bound_11 rfl (lv_at hl 2 rfl) ?_
    refine tern (α := Int32) (cnd := v1 ≤ v3) (a := (0 : Int32)) (b := (-6 : Int32)) (Wj := fun vj => W p l e (k2_rm 0 0) s m args below meth c H locs 0 0 Q (F0 m 21 ls [.int vj])) (fun k3a k3b => ?_) ?_
    · refine lv_icmp_le (tgt := 20) hx hb dX8_bound_12 (by decide) (fun c2 => ?_) (fun c2 => ?_)
      · refine lv_iconst (v := 0) hx hb dX8_bound_20 (by decide) ?_
        exact k3a c2
      · refine lv_bipush (v := -6) hx hb dX8_bound_15 (by decide) ?_
        refine lv_goto (tgt := 21) hx hb dX8_bound_17 (by decide) ?_
        exact k3b c2
    · show W p l e (k2_rm 0 0) s m args below meth c H locs 0 0 Q (F0 m 21 ls [.int (if v1 ≤ v3 then (0 : Int32) else (-6 : Int32))])
      exact hret _ _ _ dX8_bound_21 (Option.some.inj h)
  · replace h := (if_neg c1).symm.trans h
    refine lv_bipush (v := -4) hx hb dX8_bound_5 (by decide) ?_
    refine lv_goto (tgt := 21) hx hb dX8_bound_7 (by decide) ?_
    exact hret _ _ _ dX8_bound_21 (Option.some.inj h)
def FL_X8_allChances_4  : Nat → SI → SJ → Int32 → Int32 → Option (Int32)
  | 0, _, _, _, _ => none
  | n + 1, I, J, w1_4, w2_4 => (if (I 0 8) ≤ w2_4 then (some w1_4) else (if gin w2_4 8 = true then (FL_X8_allChances_4 n I J (w1_4 + (I 6 (Int32.toNatClampNeg w2_4))) (w2_4 + 1)) else none))
def F_X8_allChances (I : SI) (J : SJ) : Option (Int32) := (FL_X8_allChances_4 3000 I J (0 : Int32) (0 : Int32))
set_option maxHeartbeats 4000000 in
set_option maxRecDepth 100000 in
theorem c_X8_allChances (l : Launch) (g : Gx) (ad : Nat → Nat) (I : SI) (J : SJ)   {r : Int32} (h : F_X8_allChances I J = some r) : Met l yX8_allChances (Cond.code yX8_allChances cX8_allChances 3 (some .int) :: BG) (k2_rm 0 0) (va_Pc [.ref (ad 0)] (fun U => Pg g (mW ad g I J) U.heap ∧ Kg g U)) (k2_QcV (.int r)) 0 0 (fun _ => False) := by
  refine mkRi (by decide) (Nat.le_of_ble_eq_true rfl) ?_
  intro p e s m args below meth c H locs ls Q hC hK hP hl hret
  have hx := hC.1
  have hb := hC.2.1
  have hts := hC.2.2.2.2
  have hown := hC.2.2.2.1
  replace hl : lv_has ls 3 [(0, .ref (ad 0))] := hl
  have loop_4 : ∀ (n : Nat) (w1_4 : Int32) (w2_4 : Int32)  (ls : Array Slot), FL_X8_allChances_4 n I J w1_4 w2_4 = some r → lv_has ls 3 [(0, .ref (ad 0)), (1, .int w1_4), (2, .int w2_4)] → W p l e (k2_rm 0 0) s m args below meth c H locs 0 0 Q (F0 m 4 ls []) := by
    intro n
    induction n with
    | zero =>
      intro w1_4 w2_4 ls h
      exact no h
    | succ n ih =>
      intro w1_4 w2_4 ls h hl
      rw [FL_X8_allChances_4] at h
      refine lv_iload_n hx hb dX8_allChances_4 rfl (lv_at hl 2 rfl) ?_
      refine lv_aload_n hx hb dX8_allChances_5 rfl (lv_at hl 0 rfl) ?_
      refine gt_X8_77 hC hK hP dX8_allChances_6 ?_
      refine lv_icmp_ge (tgt := 27) hx hb dX8_allChances_9 (by decide) (fun c1 => ?_) (fun c1 => ?_)
      · replace h := (if_pos c1).symm.trans h
        refine lv_iload_n hx hb dX8_allChances_27 rfl (lv_at hl 1 rfl) ?_
        exact hret _ _ _ dX8_allChances_28 (Option.some.inj h)
      · replace h := (if_neg c1).symm.trans h
        refine lv_iload_n hx hb dX8_allChances_12 rfl (lv_at hl 1 rfl) ?_
        refine lv_aload_n hx hb dX8_allChances_13 rfl (lv_at hl 0 rfl) ?_
        refine gt_X8_25 hC hK hP dX8_allChances_14 ?_
        refine lv_iload_n hx hb dX8_allChances_17 rfl (lv_at hl 2 rfl) ?_
        obtain ⟨b2, h⟩ := og h
        refine al_m6 hC hK hP (gin_ok b2) dX8_allChances_18 ?_
        refine lv_iadd hx hb dX8_allChances_19 ?_
        refine lv_istore_n (lv' := [(1, .int (w1_4 + (I 6 (Int32.toNatClampNeg w2_4)))), (0, .ref (ad 0)), (2, .int w2_4)]) hx hb dX8_allChances_20 rfl hl (by decide) rfl (fun ls hl => ?_)
        refine lv_iinc (v := (w2_4 + 1)) (lv' := [(2, .int (w2_4 + 1)), (1, .int (w1_4 + (I 6 (Int32.toNatClampNeg w2_4)))), (0, .ref (ad 0))]) hx hb dX8_allChances_21 hl (k := 2) rfl rfl (by decide) rfl (fun ls hl => ?_)
        refine lv_goto (tgt := 4) hx hb dX8_allChances_24 (by decide) ?_
        exact ih (w1_4 + (I 6 (Int32.toNatClampNeg w2_4))) (w2_4 + 1) _ h (lv_sub hl [2, 1, 0] rfl)
  unfold F_X8_allChances at h
  refine lv_iconst (v := 0) hx hb dX8_allChances_0 (by decide) ?_
  refine lv_istore_n (lv' := [(1, .int (0 : Int32)), (0, .ref (ad 0))]) hx hb dX8_allChances_1 rfl hl (by decide) rfl (fun ls hl => ?_)
  refine lv_iconst (v := 0) hx hb dX8_allChances_2 (by decide) ?_
  refine lv_istore_n (lv' := [(2, .int (0 : Int32)), (1, .int (0 : Int32)), (0, .ref (ad 0))]) hx hb dX8_allChances_3 rfl hl (by decide) rfl (fun ls hl => ?_)
  exact loop_4 3000 (0 : Int32) (0 : Int32) _ h (lv_sub hl [2, 1, 0] rfl)
def F_X8_allWeathers (I : SI) (J : SJ) : Option (Int32) := ((F_X8_allChances I J).bind fun r1 => (some ((I 0 8) + (if (100 : Int32) ≤ r1 then (0 : Int32) else (1 : Int32)))))
set_option maxHeartbeats 4000000 in
set_option maxRecDepth 100000 in
theorem c_X8_allWeathers (l : Launch) (g : Gx) (ad : Nat → Nat) (I : SI) (J : SJ)   {r : Int32} (h : F_X8_allWeathers I J = some r) : Met l yX8_allWeathers (Cond.code yX8_allWeathers cX8_allWeathers 1 (some .int) :: BG) (k2_rm 1 22) (va_Pc [.ref (ad 0)] (fun U => Pg g (mW ad g I J) U.heap ∧ Kg g U)) (k2_QcV (.int r)) 0 0 (fun _ => False) := by
  refine mkRi (by decide) (Nat.le_of_ble_eq_true rfl) ?_
  intro p e s m args below meth c H locs ls Q hC hK hP hl hret
  have hx := hC.1
  have hb := hC.2.1
  have hts := hC.2.2.2.2
  have hown := hC.2.2.2.1
  replace hl : lv_has ls 1 [(0, .ref (ad 0))] := hl
  unfold F_X8_allWeathers at h
  refine lv_aload_n hx hb dX8_allWeathers_0 rfl (lv_at hl 0 rfl) ?_
  refine gt_X8_77 hC hK hP dX8_allWeathers_1 ?_
  refine lv_aload_n hx hb dX8_allWeathers_4 rfl (lv_at hl 0 rfl) ?_
  obtain ⟨r1, hc1, h⟩ := ob h
  refine callRV (As := []) (rest := [.int (I 0 8)]) hC (c_X8_allChances l g ad I J   hc1) lk_X8_81 rfl rfl ⟨Nat.le_of_ble_eq_true rfl, Nat.le_of_ble_eq_true rfl⟩ hP hK mo_0 rfl rfl rfl hl (Nat.le_of_ble_eq_true rfl) dX8_allWeathers_5 ?_
  refine lv_bipush (v := 100) hx hb dX8_allWeathers_8 (by decide) ?_
  refine tern (α := Int32) (cnd := (100 : Int32) ≤ r1) (a := (0 : Int32)) (b := (1 : Int32)) (Wj := fun vj => W p l e (k2_rm 1 22) s m args below meth c H locs 0 0 Q (F0 m 18 ls [.int vj, .int (I 0 8)])) (fun k3a k3b => ?_) ?_
  · refine lv_icmp_ge (tgt := 17) hx hb dX8_allWeathers_10 (by decide) (fun c2 => ?_) (fun c2 => ?_)
    · refine lv_iconst (v := 0) hx hb dX8_allWeathers_17 (by decide) ?_
      exact k3a c2
    · refine lv_iconst (v := 1) hx hb dX8_allWeathers_13 (by decide) ?_
      refine lv_goto (tgt := 18) hx hb dX8_allWeathers_14 (by decide) ?_
      exact k3b c2
  · show W p l e (k2_rm 1 22) s m args below meth c H locs 0 0 Q (F0 m 18 ls [.int (if (100 : Int32) ≤ r1 then (0 : Int32) else (1 : Int32)), .int (I 0 8)])
    refine lv_iadd hx hb dX8_allWeathers_18 ?_
    exact hret _ _ _ dX8_allWeathers_19 (Option.some.inj h)
def F_X8_chanceOf (I : SI) (J : SJ) (v1 : Int32) : Option (Int32) := (if (I 0 8) ≤ v1 then ((F_X8_allChances I J).bind fun r2 => (some ((100 : Int32) - r2))) else (if gin v1 8 = true then (some (I 6 (Int32.toNatClampNeg v1))) else none))
set_option maxHeartbeats 4000000 in
set_option maxRecDepth 100000 in
theorem c_X8_chanceOf (l : Launch) (g : Gx) (ad : Nat → Nat) (I : SI) (J : SJ) (v1 : Int32)  {r : Int32} (h : F_X8_chanceOf I J v1 = some r) : Met l yX8_chanceOf (Cond.code yX8_chanceOf cX8_chanceOf 2 (some .int) :: BG) (k2_rm 1 22) (va_Pc [.ref (ad 0), .int v1] (fun U => Pg g (mW ad g I J) U.heap ∧ Kg g U)) (k2_QcV (.int r)) 0 0 (fun _ => False) := by
  refine mkRi (by decide) (Nat.le_of_ble_eq_true rfl) ?_
  intro p e s m args below meth c H locs ls Q hC hK hP hl hret
  have hx := hC.1
  have hb := hC.2.1
  have hts := hC.2.2.2.2
  have hown := hC.2.2.2.1
  replace hl : lv_has ls 2 [(0, .ref (ad 0)), (1, .int v1)] := hl
  unfold F_X8_chanceOf at h
  refine lv_iload_n hx hb dX8_chanceOf_0 rfl (lv_at hl 1 rfl) ?_
  refine lv_aload_n hx hb dX8_chanceOf_1 rfl (lv_at hl 0 rfl) ?_
  refine gt_X8_77 hC hK hP dX8_chanceOf_2 ?_
  refine lv_icmp_ge (tgt := 17) hx hb dX8_chanceOf_5 (by decide) (fun c1 => ?_) (fun c1 => ?_)
  · replace h := (if_pos c1).symm.trans h
    refine lv_bipush (v := 100) hx hb dX8_chanceOf_17 (by decide) ?_
    refine lv_aload_n hx hb dX8_chanceOf_19 rfl (lv_at hl 0 rfl) ?_
    obtain ⟨r2, hc2, h⟩ := ob h
    refine callRV (As := []) (rest := [.int (100 : Int32)]) hC (c_X8_allChances l g ad I J   hc2) lk_X8_81 rfl rfl ⟨Nat.le_of_ble_eq_true rfl, Nat.le_of_ble_eq_true rfl⟩ hP hK mo_0 rfl rfl rfl hl (Nat.le_of_ble_eq_true rfl) dX8_chanceOf_20 ?_
    refine lv_isub hx hb dX8_chanceOf_23 ?_
    exact hret _ _ _ dX8_chanceOf_24 (Option.some.inj h)
  · replace h := (if_neg c1).symm.trans h
    refine lv_aload_n hx hb dX8_chanceOf_8 rfl (lv_at hl 0 rfl) ?_
    refine gt_X8_25 hC hK hP dX8_chanceOf_9 ?_
    refine lv_iload_n hx hb dX8_chanceOf_12 rfl (lv_at hl 1 rfl) ?_
    obtain ⟨b3, h⟩ := og h
    refine al_m6 hC hK hP (gin_ok b3) dX8_chanceOf_13 ?_
    refine lv_goto (tgt := 24) hx hb dX8_chanceOf_14 (by decide) ?_
    exact hret _ _ _ dX8_chanceOf_24 (Option.some.inj h)
def F_X8_timesOf (I : SI) (J : SJ) (v1 : Int32) : Option (Int32) := (if (I 0 8) ≤ v1 then (some (100 : Int32)) else (if gin v1 8 = true then (some (I 7 (Int32.toNatClampNeg v1))) else none))
set_option maxHeartbeats 4000000 in
set_option maxRecDepth 100000 in
theorem c_X8_timesOf (l : Launch) (g : Gx) (ad : Nat → Nat) (I : SI) (J : SJ) (v1 : Int32)  {r : Int32} (h : F_X8_timesOf I J v1 = some r) : Met l yX8_timesOf (Cond.code yX8_timesOf cX8_timesOf 2 (some .int) :: BG) (k2_rm 0 0) (va_Pc [.ref (ad 0), .int v1] (fun U => Pg g (mW ad g I J) U.heap ∧ Kg g U)) (k2_QcV (.int r)) 0 0 (fun _ => False) := by
  refine mkRi (by decide) (Nat.le_of_ble_eq_true rfl) ?_
  intro p e s m args below meth c H locs ls Q hC hK hP hl hret
  have hx := hC.1
  have hb := hC.2.1
  have hts := hC.2.2.2.2
  have hown := hC.2.2.2.1
  replace hl : lv_has ls 2 [(0, .ref (ad 0)), (1, .int v1)] := hl
  unfold F_X8_timesOf at h
  refine lv_iload_n hx hb dX8_timesOf_0 rfl (lv_at hl 1 rfl) ?_
  refine lv_aload_n hx hb dX8_timesOf_1 rfl (lv_at hl 0 rfl) ?_
  refine gt_X8_77 hC hK hP dX8_timesOf_2 ?_
  refine lv_icmp_ge (tgt := 17) hx hb dX8_timesOf_5 (by decide) (fun c1 => ?_) (fun c1 => ?_)
  · replace h := (if_pos c1).symm.trans h
    refine lv_bipush (v := 100) hx hb dX8_timesOf_17 (by decide) ?_
    exact hret _ _ _ dX8_timesOf_19 (Option.some.inj h)
  · replace h := (if_neg c1).symm.trans h
    refine lv_aload_n hx hb dX8_timesOf_8 rfl (lv_at hl 0 rfl) ?_
    refine gt_X8_28 hC hK hP dX8_timesOf_9 ?_
    refine lv_iload_n hx hb dX8_timesOf_12 rfl (lv_at hl 1 rfl) ?_
    obtain ⟨b2, h⟩ := og h
    refine al_m7 hC hK hP (gin_ok b2) dX8_timesOf_13 ?_
    refine lv_goto (tgt := 19) hx hb dX8_timesOf_14 (by decide) ?_
    exact hret _ _ _ dX8_timesOf_19 (Option.some.inj h)
