def FL_X7_commonWithHundred_3  : Nat → Int32 → Int32 → Option (Int32)
  | 0, _, _ => none
  | n + 1, w0_3, w1_3 => (if w1_3 ≤ (1 : Int32) then (some (1 : Int32)) else (if w1_3 = 0 then none else (if ((100 : Int32) - (100 : Int32) / w1_3 * w1_3) = 0 then (if w1_3 = 0 then none else (if (w0_3 - w0_3 / w1_3 * w1_3) = 0 then (some w1_3) else (FL_X7_commonWithHundred_3 n w0_3 (w1_3 + (-1))))) else (FL_X7_commonWithHundred_3 n w0_3 (w1_3 + (-1))))))
def F_X7_commonWithHundred (v1 : Int32) : Option (Int32) := (FL_X7_commonWithHundred_3 3000 v1 (100 : Int32))
set_option maxHeartbeats 4000000 in
set_option maxRecDepth 100000 in
theorem c_X7_commonWithHundred (l : Launch) (g : Gx) (ws : va_W) (v1 : Int32)  {r : Int32} (h : F_X7_commonWithHundred v1 = some r) : Met l yX7_commonWithHundred (Cond.code yX7_commonWithHundred cX7_commonWithHundred 2 (some .int) :: BG) (k2_rm 0 0) (va_Pc [.int v1] (fun U => Pg g ws U.heap ∧ Kg g U)) (k2_QcV (.int r)) 0 0 (fun _ => False) := by
  refine mkRi (by decide) (Nat.le_of_ble_eq_true rfl) ?_
  intro p e s m args below meth c H locs ls Q hC hK hP hl hret
  have hx := hC.1
  have hb := hC.2.1
  have hts := hC.2.2.2.2
  have hown := hC.2.2.2.1
  replace hl : lv_has ls 2 [(0, .int v1)] := hl
  have loop_3 : ∀ (n : Nat) (w0_3 : Int32) (w1_3 : Int32)  (ls : Array Slot), FL_X7_commonWithHundred_3 n w0_3 w1_3 = some r → lv_has ls 2 [(0, .int w0_3), (1, .int w1_3)] → W p l e (k2_rm 0 0) s m args below meth c H locs 0 0 Q (F0 m 3 ls []) := by
    intro n
    induction n with
    | zero =>
      intro w0_3 w1_3 ls h
      exact no h
    | succ n ih =>
      intro w0_3 w1_3 ls h hl
      rw [FL_X7_commonWithHundred_3] at h
      refine lv_iload_n hx hb dX7_commonWithHundred_3 rfl (lv_at hl 1 rfl) ?_
      refine lv_iconst (v := 1) hx hb dX7_commonWithHundred_4 (by decide) ?_
      refine lv_icmp_le (tgt := 29) hx hb dX7_commonWithHundred_5 (by decide) (fun c1 => ?_) (fun c1 => ?_)
      · replace h := (if_pos c1).symm.trans h
        refine lv_iconst (v := 1) hx hb dX7_commonWithHundred_29 (by decide) ?_
        exact hret _ _ _ dX7_commonWithHundred_30 (Option.some.inj h)
      · replace h := (if_neg c1).symm.trans h
        refine lv_bipush (v := 100) hx hb dX7_commonWithHundred_8 (by decide) ?_
        refine lv_iload_n hx hb dX7_commonWithHundred_10 rfl (lv_at hl 1 rfl) ?_
        obtain ⟨z2, h⟩ := og0 h
        refine lv_irem hx hb dX7_commonWithHundred_11 z2 ?_
        refine lv_if_ne (tgt := 23) hx hb dX7_commonWithHundred_12 (by decide) (fun c3 => ?_) (fun c3 => ?_)
        · replace h := (if_neg c3).symm.trans h
          refine lv_iinc (v := (w1_3 + (-1))) (lv' := [(1, .int (w1_3 + (-1))), (0, .int w0_3)]) hx hb dX7_commonWithHundred_23 hl (k := 1) rfl rfl (by decide) rfl (fun ls hl => ?_)
          refine lv_goto (tgt := 3) hx hb dX7_commonWithHundred_26 (by decide) ?_
          exact ih w0_3 (w1_3 + (-1)) _ h (lv_sub hl [1, 0] rfl)
        · replace h := (if_pos c3).symm.trans h
          refine lv_iload_n hx hb dX7_commonWithHundred_15 rfl (lv_at hl 0 rfl) ?_
          refine lv_iload_n hx hb dX7_commonWithHundred_16 rfl (lv_at hl 1 rfl) ?_
          obtain ⟨z4, h⟩ := og0 h
          refine lv_irem hx hb dX7_commonWithHundred_17 z4 ?_
          refine lv_if_ne (tgt := 23) hx hb dX7_commonWithHundred_18 (by decide) (fun c5 => ?_) (fun c5 => ?_)
          · replace h := (if_neg c5).symm.trans h
            refine lv_iinc (v := (w1_3 + (-1))) (lv' := [(1, .int (w1_3 + (-1))), (0, .int w0_3)]) hx hb dX7_commonWithHundred_23 hl (k := 1) rfl rfl (by decide) rfl (fun ls hl => ?_)
            refine lv_goto (tgt := 3) hx hb dX7_commonWithHundred_26 (by decide) ?_
            exact ih w0_3 (w1_3 + (-1)) _ h (lv_sub hl [1, 0] rfl)
          · replace h := (if_pos c5).symm.trans h
            refine lv_iload_n hx hb dX7_commonWithHundred_21 rfl (lv_at hl 1 rfl) ?_
            exact hret _ _ _ dX7_commonWithHundred_22 (Option.some.inj h)
  unfold F_X7_commonWithHundred at h
  refine lv_bipush (v := 100) hx hb dX7_commonWithHundred_0 (by decide) ?_
  refine lv_istore_n (lv' := [(1, .int (100 : Int32)), (0, .int v1)]) hx hb dX7_commonWithHundred_2 rfl hl (by decide) rfl (fun ls hl => ?_)
  exact loop_3 3000 v1 (100 : Int32) _ h (lv_sub hl [1, 0] rfl)
def F_X7_mean (I : SI) (J : SJ) (v1 : Int32) (v2 : Int32) (v3 : Int32) : Option (Int32 × SI × SJ) := ((F_X1_termAt 0 I J v1).bind fun r1 => (match r1 with | none => ((F_X7_refuseAsTold I J (-1 : Int32)).bind fun (r2, I2, J2) => (some (r2, I2, J2))) | some t1 => ((F_X7_isWho v2).bind fun r3 => (if r3 = 0 then ((F_X7_refuseAsTold I J (-1 : Int32)).bind fun (r22, I22, J22) => (some (r22, I22, J22))) else (if v3 = 0 then ((F_X4_lay I J (0 : Int32) (0 : Int32) (0 : Int32)).bind fun (I6, J6) => ((F_X4_findBest t1 I6 J6).bind fun (I7, J7) => ((F_X4_hundredBushels t1 I7 J7 (I7 47 8) v2).bind fun r8 => ((F_X7_commonWithHundred r8).bind fun r9 => ((F_X2_cut (if v3 = 0 then r8 else (100 : Int32)) r9).bind fun r12 => (some (r12, I7, J7))))))) else (if v3 = (1 : Int32) then ((F_X4_lay I J (0 : Int32) (0 : Int32) (0 : Int32)).bind fun (I14, J14) => ((F_X4_findBest t1 I14 J14).bind fun (I15, J15) => ((F_X4_hundredBushels t1 I15 J15 (I15 47 8) v2).bind fun r16 => ((F_X7_commonWithHundred r16).bind fun r17 => ((F_X2_cut (if v3 = 0 then r16 else (100 : Int32)) r17).bind fun r20 => (some (r20, I15, J15))))))) else ((F_X7_refuseAsTold I J (-2 : Int32)).bind fun (r21, I21, J21) => (some (r21, I21, J21)))))))))
set_option maxHeartbeats 4000000 in
set_option maxRecDepth 100000 in
theorem c_X7_mean (l : Launch) (g : Gx) (ad : Nat → Nat) (I : SI) (J : SJ) (v1 : Int32) (v2 : Int32) (v3 : Int32)  (sz : Nat) {r : Int32} {rI : SI} {rJ : SJ} (h : F_X7_mean I J v1 v2 v3 = some (r, rI, rJ)) : Met l yX7_mean (Cond.code yX7_mean cX7_mean 7 (some .int) :: BG) (k2_rm 5 121) (PcW [.ref (ad 59), .int v1, .int v2, .int v3] g (xW ad g I J) sz) (QWi r g (xW ad g I J) (xW ad g rI rJ) sz) 0 0 (va_A (xW ad g I J) sz) := by
  refine mkWi (by decide) (Nat.le_of_ble_eq_true rfl) ?_
  intro p e s m args below meth c H locs ls A Q hC hK hP hD hA hS hl hret
  have hx := hC.1
  have hb := hC.2.1
  have hts := hC.2.2.2.2
  have hown := hC.2.2.2.1
  replace hl : lv_has ls 7 [(0, .ref (ad 59)), (1, .int v1), (2, .int v2), (3, .int v3)] := hl
  unfold F_X7_mean at h
  refine lv_aload_n hx hb dX7_mean_0 rfl (lv_at hl 0 rfl) ?_
  refine gt_X7_10 hC hK hP dX7_mean_1 ?_
  refine lv_iload_n hx hb dX7_mean_4 rfl (lv_at hl 1 rfl) ?_
  obtain ⟨r1, hc1, h⟩ := ob h
  rcases r1 with _ | t1
  · refine callRV (As := [.int v1]) (rest := []) hC (c_X1_termAt l g ad I J 0 v1 (Or.inl rfl) hc1) lk_X7_106 rfl rfl ⟨Nat.le_of_ble_eq_true rfl, Nat.le_of_ble_eq_true rfl⟩ hP hK (xEo (Or.inl rfl)) rfl rfl rfl hl (Nat.le_of_ble_eq_true rfl) dX7_mean_5 ?_
    refine lv_astoreN (lv' := [(4, .null), (0, .ref (ad 59)), (1, .int v1), (2, .int v2), (3, .int v3)]) hx hb dX7_mean_8 hl (by decide) rfl (fun ls hl => ?_)
    refine lv_aloadN hx hb dX7_mean_10 (lv_at hl 0 rfl) ?_
    refine lv_ifnullN (tgt := 22) hx hb dX7_mean_12 (by decide) ?_
    refine lv_aload_n hx hb dX7_mean_22 rfl (lv_at hl 1 rfl) ?_
    refine lv_iconst (v := -1) hx hb dX7_mean_23 (by decide) ?_
    obtain ⟨⟨r2, I2, J2⟩, hc2, h⟩ := ob h
    dsimp only at h
    refine callWVi (As := [.int (-1 : Int32)]) (rest := []) hC (c_X7_refuseAsTold l g ad I J (-1 : Int32)  H.size hc2) lk_X7_158 rfl rfl ⟨Nat.le_of_ble_eq_true rfl, Nat.le_of_ble_eq_true rfl⟩ hP hK hD hA hS xo_59 rfl rfl rfl hl (Nat.le_of_ble_eq_true rfl) dX7_mean_24 (fun H locs hP hD hS => ?_)
    obtain ⟨h1, h⟩ := Prod.mk.inj (Option.some.inj h)
    obtain ⟨rfl, rfl⟩ := Prod.mk.inj h
    exact hret _ _ _ _ _ dX7_mean_27 h1 hP hD hS
  · have hTt1 : isT t1 := termAt_isT (Or.inl rfl) hc1
    refine callRV (As := [.int v1]) (rest := []) hC (c_X1_termAt l g ad I J 0 v1 (Or.inl rfl) hc1) lk_X7_106 rfl rfl ⟨Nat.le_of_ble_eq_true rfl, Nat.le_of_ble_eq_true rfl⟩ hP hK (xEo (Or.inl rfl)) rfl rfl rfl hl (Nat.le_of_ble_eq_true rfl) dX7_mean_5 ?_
    refine lv_astore (lv' := [(4, .ref (ad t1)), (0, .ref (ad 59)), (1, .int v1), (2, .int v2), (3, .int v3)]) hx hb dX7_mean_8 hl (by decide) rfl (fun ls hl => ?_)
    refine lv_aload hx hb dX7_mean_10 (lv_at hl 0 rfl) ?_
    refine lv_ifnull hx hb dX7_mean_12 ?_
    refine lv_iload_n hx hb dX7_mean_15 rfl (lv_at hl 3 rfl) ?_
    obtain ⟨r3, hc3, h⟩ := ob h
    refine callRS (As := [.int v2]) (rest := []) hC (c_X7_isWho l g (xW ad g I J) v2 hc3) lk_X7_155 rfl rfl ⟨Nat.le_of_ble_eq_true rfl, Nat.le_of_ble_eq_true rfl⟩ hP hK rfl rfl hl (Nat.le_of_ble_eq_true rfl) dX7_mean_16 ?_
    refine lv_if_ne (tgt := 28) hx hb dX7_mean_19 (by decide) (fun c4 => ?_) (fun c4 => ?_)
    · replace h := (if_neg c4).symm.trans h
      refine lv_iload_n hx hb dX7_mean_28 rfl (lv_at hl 4 rfl) ?_
      refine lv_if_eq (tgt := 44) hx hb dX7_mean_29 (by decide) (fun c5 => ?_) (fun c5 => ?_)
      · replace h := (if_pos c5).symm.trans h
        refine lv_aload_n hx hb dX7_mean_44 rfl (lv_at hl 1 rfl) ?_
        refine gt_X7_34 hC hK hP dX7_mean_45 ?_
        refine lv_iconst (v := 0) hx hb dX7_mean_48 (by decide) ?_
        refine lv_iconst (v := 0) hx hb dX7_mean_49 (by decide) ?_
        refine lv_iconst (v := 0) hx hb dX7_mean_50 (by decide) ?_
        obtain ⟨⟨I6, J6⟩, hc6, h⟩ := ob h
        dsimp only at h
        refine callWVv (As := [.int (0 : Int32), .int (0 : Int32), .int (0 : Int32)]) (rest := []) hC (c_X4_lay l g ad I J (0 : Int32) (0 : Int32) (0 : Int32)  H.size hc6) lk_X7_135 rfl rfl ⟨Nat.le_of_ble_eq_true rfl, Nat.le_of_ble_eq_true rfl⟩ hP hK hD hA hS xo_47 rfl rfl rfl hl (Nat.le_of_ble_eq_true rfl) dX7_mean_51 (fun H locs hP hD hS => ?_)
        refine lv_aload_n hx hb dX7_mean_54 rfl (lv_at hl 1 rfl) ?_
        refine gt_X7_34 hC hK hP dX7_mean_55 ?_
        refine lv_aload hx hb dX7_mean_58 (lv_at hl 0 rfl) ?_
        obtain ⟨⟨I7, J7⟩, hc7, h⟩ := ob h
        dsimp only at h
        refine callWVv (As := [.ref (ad t1)]) (rest := []) hC (c_X4_findBest l g ad I6 J6 t1 hTt1 H.size hc7) lk_X7_179 rfl rfl ⟨Nat.le_of_ble_eq_true rfl, Nat.le_of_ble_eq_true rfl⟩ hP hK hD hA hS xo_47 rfl rfl rfl hl (Nat.le_of_ble_eq_true rfl) dX7_mean_60 (fun H locs hP hD hS => ?_)
        refine lv_aload_n hx hb dX7_mean_63 rfl (lv_at hl 1 rfl) ?_
        refine gt_X7_34 hC hK hP dX7_mean_64 ?_
        refine lv_aload hx hb dX7_mean_67 (lv_at hl 0 rfl) ?_
        refine lv_aload_n hx hb dX7_mean_69 rfl (lv_at hl 1 rfl) ?_
        refine gt_X7_34 hC hK hP dX7_mean_70 ?_
        refine gt_X7_183 hC hK hP dX7_mean_73 ?_
        refine lv_iload_n hx hb dX7_mean_76 rfl (lv_at hl 3 rfl) ?_
        obtain ⟨r8, hc8, h⟩ := ob h
        refine callRV (As := [.ref (ad t1), .int (I7 47 8), .int v2]) (rest := []) hC (c_X4_hundredBushels l g ad I7 J7 t1 (I7 47 8) v2 hTt1 hc8) lk_X7_190 rfl rfl ⟨Nat.le_of_ble_eq_true rfl, Nat.le_of_ble_eq_true rfl⟩ hP hK xo_47 rfl rfl rfl hl (Nat.le_of_ble_eq_true rfl) dX7_mean_77 ?_
        refine lv_istore (lv' := [(5, .int r8), (4, .ref (ad t1)), (0, .ref (ad 59)), (1, .int v1), (2, .int v2), (3, .int v3)]) hx hb dX7_mean_80 hl (by decide) rfl (fun ls hl => ?_)
        refine lv_iload hx hb dX7_mean_82 (lv_at hl 0 rfl) ?_
        obtain ⟨r9, hc9, h⟩ := ob h
        refine callRS (As := [.int r8]) (rest := []) hC (c_X7_commonWithHundred l g (xW ad g I7 J7) r8 hc9) lk_X7_194 rfl rfl ⟨Nat.le_of_ble_eq_true rfl, Nat.le_of_ble_eq_true rfl⟩ hP hK rfl rfl hl (Nat.le_of_ble_eq_true rfl) dX7_mean_84 ?_
        refine lv_istore (lv' := [(6, .int r9), (5, .int r8), (4, .ref (ad t1)), (0, .ref (ad 59)), (1, .int v1), (2, .int v2), (3, .int v3)]) hx hb dX7_mean_87 hl (by decide) rfl (fun ls hl => ?_)
        refine lv_iload_n hx hb dX7_mean_89 rfl (lv_at hl 6 rfl) ?_
        refine tern (α := Int32) (cnd := v3 = 0) (a := r8) (b := (100 : Int32)) (Wj := fun vj => W p l e (k2_rm 5 121) s m args below meth c H locs 0 0 Q (F0 m 100 ls [.int vj])) (fun k11a k11b => ?_) ?_
        · refine lv_if_ne (tgt := 98) hx hb dX7_mean_90 (by decide) (fun c10 => ?_) (fun c10 => ?_)
          · refine lv_bipush (v := 100) hx hb dX7_mean_98 (by decide) ?_
            exact k11b c10
          · refine lv_iload hx hb dX7_mean_93 (lv_at hl 1 rfl) ?_
            refine lv_goto (tgt := 100) hx hb dX7_mean_95 (by decide) ?_
            exact k11a c10
        · show W p l e (k2_rm 5 121) s m args below meth c H locs 0 0 Q (F0 m 100 ls [.int (if v3 = 0 then r8 else (100 : Int32))])
          refine lv_iload hx hb dX7_mean_100 (lv_at hl 0 rfl) ?_
          obtain ⟨r12, hc12, h⟩ := ob h
          refine callRS (As := [.int (if v3 = 0 then r8 else (100 : Int32)), .int r9]) (rest := []) hC (c_X2_cut l g (xW ad g I7 J7) (if v3 = 0 then r8 else (100 : Int32)) r9 hc12) lk_X7_197 rfl rfl ⟨Nat.le_of_ble_eq_true rfl, Nat.le_of_ble_eq_true rfl⟩ hP hK rfl rfl hl (Nat.le_of_ble_eq_true rfl) dX7_mean_102 ?_
          obtain ⟨h1, h⟩ := Prod.mk.inj (Option.some.inj h)
          obtain ⟨rfl, rfl⟩ := Prod.mk.inj h
          exact hret _ _ _ _ _ dX7_mean_105 h1 hP hD hS
      · replace h := (if_neg c5).symm.trans h
        refine lv_iload_n hx hb dX7_mean_32 rfl (lv_at hl 4 rfl) ?_
        refine lv_iconst (v := 1) hx hb dX7_mean_33 (by decide) ?_
        refine lv_icmp_eq (tgt := 44) hx hb dX7_mean_34 (by decide) (fun c13 => ?_) (fun c13 => ?_)
        · replace h := (if_pos c13).symm.trans h
          refine lv_aload_n hx hb dX7_mean_44 rfl (lv_at hl 1 rfl) ?_
          refine gt_X7_34 hC hK hP dX7_mean_45 ?_
          refine lv_iconst (v := 0) hx hb dX7_mean_48 (by decide) ?_
          refine lv_iconst (v := 0) hx hb dX7_mean_49 (by decide) ?_
          refine lv_iconst (v := 0) hx hb dX7_mean_50 (by decide) ?_
          obtain ⟨⟨I14, J14⟩, hc14, h⟩ := ob h
          dsimp only at h
          refine callWVv (As := [.int (0 : Int32), .int (0 : Int32), .int (0 : Int32)]) (rest := []) hC (c_X4_lay l g ad I J (0 : Int32) (0 : Int32) (0 : Int32)  H.size hc14) lk_X7_135 rfl rfl ⟨Nat.le_of_ble_eq_true rfl, Nat.le_of_ble_eq_true rfl⟩ hP hK hD hA hS xo_47 rfl rfl rfl hl (Nat.le_of_ble_eq_true rfl) dX7_mean_51 (fun H locs hP hD hS => ?_)
          refine lv_aload_n hx hb dX7_mean_54 rfl (lv_at hl 1 rfl) ?_
          refine gt_X7_34 hC hK hP dX7_mean_55 ?_
          refine lv_aload hx hb dX7_mean_58 (lv_at hl 0 rfl) ?_
          obtain ⟨⟨I15, J15⟩, hc15, h⟩ := ob h
          dsimp only at h
          refine callWVv (As := [.ref (ad t1)]) (rest := []) hC (c_X4_findBest l g ad I14 J14 t1 hTt1 H.size hc15) lk_X7_179 rfl rfl ⟨Nat.le_of_ble_eq_true rfl, Nat.le_of_ble_eq_true rfl⟩ hP hK hD hA hS xo_47 rfl rfl rfl hl (Nat.le_of_ble_eq_true rfl) dX7_mean_60 (fun H locs hP hD hS => ?_)
          refine lv_aload_n hx hb dX7_mean_63 rfl (lv_at hl 1 rfl) ?_
          refine gt_X7_34 hC hK hP dX7_mean_64 ?_
          refine lv_aload hx hb dX7_mean_67 (lv_at hl 0 rfl) ?_
          refine lv_aload_n hx hb dX7_mean_69 rfl (lv_at hl 1 rfl) ?_
          refine gt_X7_34 hC hK hP dX7_mean_70 ?_
          refine gt_X7_183 hC hK hP dX7_mean_73 ?_
          refine lv_iload_n hx hb dX7_mean_76 rfl (lv_at hl 3 rfl) ?_
          obtain ⟨r16, hc16, h⟩ := ob h
          refine callRV (As := [.ref (ad t1), .int (I15 47 8), .int v2]) (rest := []) hC (c_X4_hundredBushels l g ad I15 J15 t1 (I15 47 8) v2 hTt1 hc16) lk_X7_190 rfl rfl ⟨Nat.le_of_ble_eq_true rfl, Nat.le_of_ble_eq_true rfl⟩ hP hK xo_47 rfl rfl rfl hl (Nat.le_of_ble_eq_true rfl) dX7_mean_77 ?_
          refine lv_istore (lv' := [(5, .int r16), (4, .ref (ad t1)), (0, .ref (ad 59)), (1, .int v1), (2, .int v2), (3, .int v3)]) hx hb dX7_mean_80 hl (by decide) rfl (fun ls hl => ?_)
          refine lv_iload hx hb dX7_mean_82 (lv_at hl 0 rfl) ?_
          obtain ⟨r17, hc17, h⟩ := ob h
          refine callRS (As := [.int r16]) (rest := []) hC (c_X7_commonWithHundred l g (xW ad g I15 J15) r16 hc17) lk_X7_194 rfl rfl ⟨Nat.le_of_ble_eq_true rfl, Nat.le_of_ble_eq_true rfl⟩ hP hK rfl rfl hl (Nat.le_of_ble_eq_true rfl) dX7_mean_84 ?_
          refine lv_istore (lv' := [(6, .int r17), (5, .int r16), (4, .ref (ad t1)), (0, .ref (ad 59)), (1, .int v1), (2, .int v2), (3, .int v3)]) hx hb dX7_mean_87 hl (by decide) rfl (fun ls hl => ?_)
          refine lv_iload_n hx hb dX7_mean_89 rfl (lv_at hl 6 rfl) ?_
          refine tern (α := Int32) (cnd := v3 = 0) (a := r16) (b := (100 : Int32)) (Wj := fun vj => W p l e (k2_rm 5 121) s m args below meth c H locs 0 0 Q (F0 m 100 ls [.int vj])) (fun k19a k19b => ?_) ?_
          · refine lv_if_ne (tgt := 98) hx hb dX7_mean_90 (by decide) (fun c18 => ?_) (fun c18 => ?_)
            · refine lv_bipush (v := 100) hx hb dX7_mean_98 (by decide) ?_
              exact k19b c18
            · refine lv_iload hx hb dX7_mean_93 (lv_at hl 1 rfl) ?_
              refine lv_goto (tgt := 100) hx hb dX7_mean_95 (by decide) ?_
              exact k19a c18
          · show W p l e (k2_rm 5 121) s m args below meth c H locs 0 0 Q (F0 m 100 ls [.int (if v3 = 0 then r16 else (100 : Int32))])
            refine lv_iload hx hb dX7_mean_100 (lv_at hl 0 rfl) ?_
            obtain ⟨r20, hc20, h⟩ := ob h
            refine callRS (As := [.int (if v3 = 0 then r16 else (100 : Int32)), .int r17]) (rest := []) hC (c_X2_cut l g (xW ad g I15 J15) (if v3 = 0 then r16 else (100 : Int32)) r17 hc20) lk_X7_197 rfl rfl ⟨Nat.le_of_ble_eq_true rfl, Nat.le_of_ble_eq_true rfl⟩ hP hK rfl rfl hl (Nat.le_of_ble_eq_true rfl) dX7_mean_102 ?_
            obtain ⟨h1, h⟩ := Prod.mk.inj (Option.some.inj h)
            obtain ⟨rfl, rfl⟩ := Prod.mk.inj h
            exact hret _ _ _ _ _ dX7_mean_105 h1 hP hD hS
        · replace h := (if_neg c13).symm.trans h
          refine lv_aload_n hx hb dX7_mean_37 rfl (lv_at hl 1 rfl) ?_
          refine lv_bipush (v := -2) hx hb dX7_mean_38 (by decide) ?_
          obtain ⟨⟨r21, I21, J21⟩, hc21, h⟩ := ob h
          dsimp only at h
          refine callWVi (As := [.int (-2 : Int32)]) (rest := []) hC (c_X7_refuseAsTold l g ad I J (-2 : Int32)  H.size hc21) lk_X7_158 rfl rfl ⟨Nat.le_of_ble_eq_true rfl, Nat.le_of_ble_eq_true rfl⟩ hP hK hD hA hS xo_59 rfl rfl rfl hl (Nat.le_of_ble_eq_true rfl) dX7_mean_40 (fun H locs hP hD hS => ?_)
          obtain ⟨h1, h⟩ := Prod.mk.inj (Option.some.inj h)
          obtain ⟨rfl, rfl⟩ := Prod.mk.inj h
          exact hret _ _ _ _ _ dX7_mean_43 h1 hP hD hS
    · replace h := (if_pos c4).symm.trans h
      refine lv_aload_n hx hb dX7_mean_22 rfl (lv_at hl 1 rfl) ?_
      refine lv_iconst (v := -1) hx hb dX7_mean_23 (by decide) ?_
      obtain ⟨⟨r22, I22, J22⟩, hc22, h⟩ := ob h
      dsimp only at h
      refine callWVi (As := [.int (-1 : Int32)]) (rest := []) hC (c_X7_refuseAsTold l g ad I J (-1 : Int32)  H.size hc22) lk_X7_158 rfl rfl ⟨Nat.le_of_ble_eq_true rfl, Nat.le_of_ble_eq_true rfl⟩ hP hK hD hA hS xo_59 rfl rfl rfl hl (Nat.le_of_ble_eq_true rfl) dX7_mean_24 (fun H locs hP hD hS => ?_)
      obtain ⟨h1, h⟩ := Prod.mk.inj (Option.some.inj h)
      obtain ⟨rfl, rfl⟩ := Prod.mk.inj h
      exact hret _ _ _ _ _ dX7_mean_27 h1 hP hD hS
def F_X7_layProof (I : SI) (J : SJ) (v1 : Int32) : Option (SI × SJ) := (if (100 : Int32) ≤ v1 then ((F_X5_become 58 I J (1 : Int32) (v1 - (100 : Int32)) (0 : Int32) (0 : Int32)).bind fun (I2, J2) => (some (I2, J2))) else ((F_X5_become 58 I J (0 : Int32) v1 (12 : Int32) (0 : Int32)).bind fun (I3, J3) => (some (I3, J3))))
set_option maxHeartbeats 4000000 in
set_option maxRecDepth 100000 in
theorem c_X7_layProof (l : Launch) (g : Gx) (ad : Nat → Nat) (I : SI) (J : SJ) (v1 : Int32)  (sz : Nat) {rI : SI} {rJ : SJ} (h : F_X7_layProof I J v1 = some (rI, rJ)) : Met l yX7_layProof (Cond.code yX7_layProof cX7_layProof 2 none :: BG) (k2_rm 1 24) (PcW [.ref (ad 59), .int v1] g (xW ad g I J) sz) (QWv g (xW ad g I J) (xW ad g rI rJ) sz) 0 0 (va_A (xW ad g I J) sz) := by
  refine mkWv (by decide) (Nat.le_of_ble_eq_true rfl) ?_
  intro p e s m args below meth c H locs ls A Q hC hK hP hD hA hS hl hret
  have hx := hC.1
  have hb := hC.2.1
  have hts := hC.2.2.2.2
  have hown := hC.2.2.2.1
  replace hl : lv_has ls 2 [(0, .ref (ad 59)), (1, .int v1)] := hl
  unfold F_X7_layProof at h
  refine lv_iload_n hx hb dX7_layProof_0 rfl (lv_at hl 1 rfl) ?_
  refine lv_bipush (v := 100) hx hb dX7_layProof_1 (by decide) ?_
  refine lv_icmp_ge (tgt := 21) hx hb dX7_layProof_3 (by decide) (fun c1 => ?_) (fun c1 => ?_)
  · replace h := (if_pos c1).symm.trans h
    refine lv_aload_n hx hb dX7_layProof_21 rfl (lv_at hl 0 rfl) ?_
    refine gt_X7_55 hC hK hP dX7_layProof_22 ?_
    refine lv_iconst (v := 1) hx hb dX7_layProof_25 (by decide) ?_
    refine lv_iload_n hx hb dX7_layProof_26 rfl (lv_at hl 1 rfl) ?_
    refine lv_bipush (v := 100) hx hb dX7_layProof_27 (by decide) ?_
    refine lv_isub hx hb dX7_layProof_29 ?_
    refine lv_iconst (v := 0) hx hb dX7_layProof_30 (by decide) ?_
    refine lv_iconst (v := 0) hx hb dX7_layProof_31 (by decide) ?_
    obtain ⟨⟨I2, J2⟩, hc2, h⟩ := ob h
    dsimp only at h
    refine callWVv (As := [.int (1 : Int32), .int (v1 - (100 : Int32)), .int (0 : Int32), .int (0 : Int32)]) (rest := []) hC (c_X5_become l g ad I J 58 (1 : Int32) (v1 - (100 : Int32)) (0 : Int32) (0 : Int32) (by unfold isT; omega) H.size hc2) lk_X7_222 rfl rfl ⟨Nat.le_of_ble_eq_true rfl, Nat.le_of_ble_eq_true rfl⟩ hP hK hD hA hS (xTo (by unfold isT; omega)) rfl rfl rfl hl (Nat.le_of_ble_eq_true rfl) dX7_layProof_32 (fun H locs hP hD hS => ?_)
    obtain ⟨rfl, rfl⟩ := Prod.mk.inj (Option.some.inj h)
    exact hret _ _ _ _ dX7_layProof_35 hP hD hS
  · replace h := (if_neg c1).symm.trans h
    refine lv_aload_n hx hb dX7_layProof_6 rfl (lv_at hl 0 rfl) ?_
    refine gt_X7_55 hC hK hP dX7_layProof_7 ?_
    refine lv_iconst (v := 0) hx hb dX7_layProof_10 (by decide) ?_
    refine lv_iload_n hx hb dX7_layProof_11 rfl (lv_at hl 1 rfl) ?_
    refine lv_bipush (v := 12) hx hb dX7_layProof_12 (by decide) ?_
    refine lv_iconst (v := 0) hx hb dX7_layProof_14 (by decide) ?_
    obtain ⟨⟨I3, J3⟩, hc3, h⟩ := ob h
    dsimp only at h
    refine callWVv (As := [.int (0 : Int32), .int v1, .int (12 : Int32), .int (0 : Int32)]) (rest := []) hC (c_X5_become l g ad I J 58 (0 : Int32) v1 (12 : Int32) (0 : Int32) (by unfold isT; omega) H.size hc3) lk_X7_222 rfl rfl ⟨Nat.le_of_ble_eq_true rfl, Nat.le_of_ble_eq_true rfl⟩ hP hK hD hA hS (xTo (by unfold isT; omega)) rfl rfl rfl hl (Nat.le_of_ble_eq_true rfl) dX7_layProof_15 (fun H locs hP hD hS => ?_)
    refine lv_goto (tgt := 35) hx hb dX7_layProof_18 (by decide) ?_
    obtain ⟨rfl, rfl⟩ := Prod.mk.inj (Option.some.inj h)
    exact hret _ _ _ _ dX7_layProof_35 hP hD hS
def FL_X7_findProof_8  : Nat → SI → SJ → Int32 → Int64 → Int32 → Option (Int32 × SI × SJ)
  | 0, _, _, _, _, _ => none
  | n + 1, I, J, w1_8, w2_8, w4_8 => (if (74 : Int32) ≤ w4_8 then (some (w1_8, I, J)) else ((F_X7_layProof I J (if (12 : Int32) < w4_8 then (((100 : Int32) + w4_8) - (13 : Int32)) else w4_8)).bind fun (I4, J4) => ((F_X7_isTaken 58 I4 J4).bind fun (r5, I5, J5) => (if r5 = 0 then (FL_X7_findProof_8 n I5 J5 w1_8 w2_8 (w4_8 + 1)) else ((F_X4_worthOf 58 I5 J5 (I5 47 8) (1 : Int32)).bind fun r7 => (if w1_8 = (-9 : Int32) then (FL_X7_findProof_8 n I5 J5 (if (12 : Int32) < w4_8 then (((100 : Int32) + w4_8) - (13 : Int32)) else w4_8) r7 (w4_8 + 1)) else (if r7 ≤ w2_8 then (FL_X7_findProof_8 n I5 J5 w1_8 w2_8 (w4_8 + 1)) else (FL_X7_findProof_8 n I5 J5 (if (12 : Int32) < w4_8 then (((100 : Int32) + w4_8) - (13 : Int32)) else w4_8) r7 (w4_8 + 1)))))))))
def F_X7_findProof (I : SI) (J : SJ) : Option (Int32 × SI × SJ) := (FL_X7_findProof_8 3000 I J (-9 : Int32) (0 : Int64) (0 : Int32))
set_option maxHeartbeats 4000000 in
set_option maxRecDepth 100000 in
theorem c_X7_findProof (l : Launch) (g : Gx) (ad : Nat → Nat) (I : SI) (J : SJ)   (sz : Nat) {r : Int32} {rI : SI} {rJ : SJ} (h : F_X7_findProof I J = some (r, rI, rJ)) : Met l yX7_findProof (Cond.code yX7_findProof cX7_findProof 8 (some .int) :: BG) (k2_rm 6 142) (PcW [.ref (ad 59)] g (xW ad g I J) sz) (QWi r g (xW ad g I J) (xW ad g rI rJ) sz) 0 0 (va_A (xW ad g I J) sz) := by
  refine mkWi (by decide) (Nat.le_of_ble_eq_true rfl) ?_
  intro p e s m args below meth c H locs ls A Q hC hK hP hD hA hS hl hret
  have hx := hC.1
  have hb := hC.2.1
  have hts := hC.2.2.2.2
  have hown := hC.2.2.2.1
  replace hl : lv_has ls 8 [(0, .ref (ad 59))] := hl
  have loop_8 : ∀ (n : Nat) (I : SI) (J : SJ) (w1_8 : Int32) (w2_8 : Int64) (w4_8 : Int32)  (H : Heap) (locs : List Loc) (ls : Array Slot), FL_X7_findProof_8 n I J w1_8 w2_8 w4_8 = some (r, rI, rJ) → Pg g (xW ad g I J) H → va_D A (xW ad g I J) → va_S A s.heap H locs → lv_has ls 8 [(0, .ref (ad 59)), (1, .int w1_8), (2, .long w2_8), (4, .int w4_8)] → W p l e (k2_rm 6 142) s m args below meth c H locs 0 0 Q (F0 m 8 ls []) := by
    intro n
    induction n with
    | zero =>
      intro I J w1_8 w2_8 w4_8 H locs ls h
      exact no h
    | succ n ih =>
      intro I J w1_8 w2_8 w4_8 H locs ls h hP hD hS hl
      rw [FL_X7_findProof_8] at h
      refine lv_iload hx hb dX7_findProof_8 (lv_at hl 3 rfl) ?_
      refine lv_bipush (v := 74) hx hb dX7_findProof_10 (by decide) ?_
      refine lv_icmp_ge (tgt := 100) hx hb dX7_findProof_12 (by decide) (fun c1 => ?_) (fun c1 => ?_)
      · replace h := (if_pos c1).symm.trans h
        refine lv_iload_n hx hb dX7_findProof_100 rfl (lv_at hl 1 rfl) ?_
        obtain ⟨h1, h⟩ := Prod.mk.inj (Option.some.inj h)
        obtain ⟨rfl, rfl⟩ := Prod.mk.inj h
        exact hret _ _ _ _ _ dX7_findProof_101 h1 hP hD hS
      · replace h := (if_neg c1).symm.trans h
        refine lv_iload hx hb dX7_findProof_15 (lv_at hl 3 rfl) ?_
        refine lv_bipush (v := 12) hx hb dX7_findProof_17 (by decide) ?_
        refine tern (α := Int32) (cnd := (12 : Int32) < w4_8) (a := (((100 : Int32) + w4_8) - (13 : Int32))) (b := w4_8) (Wj := fun vj => W p l e (k2_rm 6 142) s m args below meth c H locs 0 0 Q (F0 m 35 ls [.int vj])) (fun k3a k3b => ?_) ?_
        · refine lv_icmp_gt (tgt := 27) hx hb dX7_findProof_19 (by decide) (fun c2 => ?_) (fun c2 => ?_)
          · refine lv_bipush (v := 100) hx hb dX7_findProof_27 (by decide) ?_
            refine lv_iload hx hb dX7_findProof_29 (lv_at hl 3 rfl) ?_
            refine lv_iadd hx hb dX7_findProof_31 ?_
            refine lv_bipush (v := 13) hx hb dX7_findProof_32 (by decide) ?_
            refine lv_isub hx hb dX7_findProof_34 ?_
            exact k3a c2
          · refine lv_iload hx hb dX7_findProof_22 (lv_at hl 3 rfl) ?_
            refine lv_goto (tgt := 35) hx hb dX7_findProof_24 (by decide) ?_
            exact k3b c2
        · show W p l e (k2_rm 6 142) s m args below meth c H locs 0 0 Q (F0 m 35 ls [.int (if (12 : Int32) < w4_8 then (((100 : Int32) + w4_8) - (13 : Int32)) else w4_8)])
          refine lv_istore (lv' := [(5, .int (if (12 : Int32) < w4_8 then (((100 : Int32) + w4_8) - (13 : Int32)) else w4_8)), (0, .ref (ad 59)), (1, .int w1_8), (2, .long w2_8), (4, .int w4_8)]) hx hb dX7_findProof_35 hl (by decide) rfl (fun ls hl => ?_)
          refine lv_aload_n hx hb dX7_findProof_37 rfl (lv_at hl 1 rfl) ?_
          refine lv_iload hx hb dX7_findProof_38 (lv_at hl 0 rfl) ?_
          obtain ⟨⟨I4, J4⟩, hc4, h⟩ := ob h
          dsimp only at h
          refine callWVv (As := [.int (if (12 : Int32) < w4_8 then (((100 : Int32) + w4_8) - (13 : Int32)) else w4_8)]) (rest := []) hC (c_X7_layProof l g ad I J (if (12 : Int32) < w4_8 then (((100 : Int32) + w4_8) - (13 : Int32)) else w4_8)  H.size hc4) lk_X7_208 rfl rfl ⟨Nat.le_of_ble_eq_true rfl, Nat.le_of_ble_eq_true rfl⟩ hP hK hD hA hS xo_59 rfl rfl rfl hl (Nat.le_of_ble_eq_true rfl) dX7_findProof_40 (fun H locs hP hD hS => ?_)
          refine lv_aload_n hx hb dX7_findProof_43 rfl (lv_at hl 1 rfl) ?_
          refine lv_aload_n hx hb dX7_findProof_44 rfl (lv_at hl 1 rfl) ?_
          refine gt_X7_55 hC hK hP dX7_findProof_45 ?_
          obtain ⟨⟨r5, I5, J5⟩, hc5, h⟩ := ob h
          dsimp only at h
          refine callWVi (As := [.ref (ad 58)]) (rest := []) hC (c_X7_isTaken l g ad I4 J4 58 (by unfold isT; omega) H.size hc5) lk_X7_186 rfl rfl ⟨Nat.le_of_ble_eq_true rfl, Nat.le_of_ble_eq_true rfl⟩ hP hK hD hA hS xo_59 rfl rfl rfl hl (Nat.le_of_ble_eq_true rfl) dX7_findProof_48 (fun H locs hP hD hS => ?_)
          refine lv_if_eq (tgt := 94) hx hb dX7_findProof_51 (by decide) (fun c6 => ?_) (fun c6 => ?_)
          · replace h := (if_pos c6).symm.trans h
            refine lv_iinc (v := (w4_8 + 1)) (lv' := [(4, .int (w4_8 + 1)), (5, .int (if (12 : Int32) < w4_8 then (((100 : Int32) + w4_8) - (13 : Int32)) else w4_8)), (0, .ref (ad 59)), (1, .int w1_8), (2, .long w2_8)]) hx hb dX7_findProof_94 hl (k := 4) rfl rfl (by decide) rfl (fun ls hl => ?_)
            refine lv_goto (tgt := 8) hx hb dX7_findProof_97 (by decide) ?_
            exact ih I5 J5 w1_8 w2_8 (w4_8 + 1) _ _ _ h hP hD hS (lv_sub hl [2, 3, 4, 0] rfl)
          · replace h := (if_neg c6).symm.trans h
            refine lv_aload_n hx hb dX7_findProof_54 rfl (lv_at hl 1 rfl) ?_
            refine gt_X7_34 hC hK hP dX7_findProof_55 ?_
            refine lv_aload_n hx hb dX7_findProof_58 rfl (lv_at hl 1 rfl) ?_
            refine gt_X7_55 hC hK hP dX7_findProof_59 ?_
            refine lv_aload_n hx hb dX7_findProof_62 rfl (lv_at hl 1 rfl) ?_
            refine gt_X7_34 hC hK hP dX7_findProof_63 ?_
            refine gt_X7_183 hC hK hP dX7_findProof_66 ?_
            refine lv_iconst (v := 1) hx hb dX7_findProof_69 (by decide) ?_
            obtain ⟨r7, hc7, h⟩ := ob h
            refine callRV (As := [.ref (ad 58), .int (I5 47 8), .int (1 : Int32)]) (rest := []) hC (c_X4_worthOf l g ad I5 J5 58 (I5 47 8) (1 : Int32) (by unfold isT; omega) hc7) lk_X7_175 rfl rfl ⟨Nat.le_of_ble_eq_true rfl, Nat.le_of_ble_eq_true rfl⟩ hP hK xo_47 rfl rfl rfl hl (Nat.le_of_ble_eq_true rfl) dX7_findProof_70 ?_
            refine lv_lstore (lv' := [(6, .long r7), (5, .int (if (12 : Int32) < w4_8 then (((100 : Int32) + w4_8) - (13 : Int32)) else w4_8)), (0, .ref (ad 59)), (1, .int w1_8), (2, .long w2_8), (4, .int w4_8)]) hx hb dX7_findProof_73 hl (by decide) rfl (fun ls hl => ?_)
            refine lv_iload_n hx hb dX7_findProof_75 rfl (lv_at hl 3 rfl) ?_
            refine lv_bipush (v := -9) hx hb dX7_findProof_76 (by decide) ?_
            refine lv_icmp_eq (tgt := 88) hx hb dX7_findProof_78 (by decide) (fun c8 => ?_) (fun c8 => ?_)
            · replace h := (if_pos c8).symm.trans h
              refine lv_iload hx hb dX7_findProof_88 (lv_at hl 1 rfl) ?_
              refine lv_istore_n (lv' := [(1, .int (if (12 : Int32) < w4_8 then (((100 : Int32) + w4_8) - (13 : Int32)) else w4_8)), (6, .long r7), (5, .int (if (12 : Int32) < w4_8 then (((100 : Int32) + w4_8) - (13 : Int32)) else w4_8)), (0, .ref (ad 59)), (2, .long w2_8), (4, .int w4_8)]) hx hb dX7_findProof_90 rfl hl (by decide) rfl (fun ls hl => ?_)
              refine lv_lload hx hb dX7_findProof_91 (lv_at hl 1 rfl) ?_
              refine lv_lstore_n (lv' := [(2, .long r7), (1, .int (if (12 : Int32) < w4_8 then (((100 : Int32) + w4_8) - (13 : Int32)) else w4_8)), (6, .long r7), (5, .int (if (12 : Int32) < w4_8 then (((100 : Int32) + w4_8) - (13 : Int32)) else w4_8)), (0, .ref (ad 59)), (4, .int w4_8)]) hx hb dX7_findProof_93 rfl hl (by decide) rfl (fun ls hl => ?_)
              refine lv_iinc (v := (w4_8 + 1)) (lv' := [(4, .int (w4_8 + 1)), (2, .long r7), (1, .int (if (12 : Int32) < w4_8 then (((100 : Int32) + w4_8) - (13 : Int32)) else w4_8)), (6, .long r7), (5, .int (if (12 : Int32) < w4_8 then (((100 : Int32) + w4_8) - (13 : Int32)) else w4_8)), (0, .ref (ad 59))]) hx hb dX7_findProof_94 hl (k := 5) rfl rfl (by decide) rfl (fun ls hl => ?_)
              refine lv_goto (tgt := 8) hx hb dX7_findProof_97 (by decide) ?_
              exact ih I5 J5 (if (12 : Int32) < w4_8 then (((100 : Int32) + w4_8) - (13 : Int32)) else w4_8) r7 (w4_8 + 1) _ _ _ h hP hD hS (lv_sub hl [5, 2, 1, 0] rfl)
            · replace h := (if_neg c8).symm.trans h
              refine lv_lload hx hb dX7_findProof_81 (lv_at hl 0 rfl) ?_
              refine lv_lload_n hx hb dX7_findProof_83 rfl (lv_at hl 4 rfl) ?_
              refine W.lcmp hx hb dX7_findProof_84 ?_
              refine lv_if_le (tgt := 94) hx hb dX7_findProof_85 (by decide) (fun c9 => ?_) (fun c9 => ?_)
              · replace h := (if_pos ((lg_cmp_le _ _).mp c9)).symm.trans h
                refine lv_iinc (v := (w4_8 + 1)) (lv' := [(4, .int (w4_8 + 1)), (6, .long r7), (5, .int (if (12 : Int32) < w4_8 then (((100 : Int32) + w4_8) - (13 : Int32)) else w4_8)), (0, .ref (ad 59)), (1, .int w1_8), (2, .long w2_8)]) hx hb dX7_findProof_94 hl (k := 5) rfl rfl (by decide) rfl (fun ls hl => ?_)
                refine lv_goto (tgt := 8) hx hb dX7_findProof_97 (by decide) ?_
                exact ih I5 J5 w1_8 w2_8 (w4_8 + 1) _ _ _ h hP hD hS (lv_sub hl [3, 4, 5, 0] rfl)
              · replace h := (if_neg (fun hh => c9 ((lg_cmp_le _ _).mpr hh))).symm.trans h
                refine lv_iload hx hb dX7_findProof_88 (lv_at hl 1 rfl) ?_
                refine lv_istore_n (lv' := [(1, .int (if (12 : Int32) < w4_8 then (((100 : Int32) + w4_8) - (13 : Int32)) else w4_8)), (6, .long r7), (5, .int (if (12 : Int32) < w4_8 then (((100 : Int32) + w4_8) - (13 : Int32)) else w4_8)), (0, .ref (ad 59)), (2, .long w2_8), (4, .int w4_8)]) hx hb dX7_findProof_90 rfl hl (by decide) rfl (fun ls hl => ?_)
                refine lv_lload hx hb dX7_findProof_91 (lv_at hl 1 rfl) ?_
                refine lv_lstore_n (lv' := [(2, .long r7), (1, .int (if (12 : Int32) < w4_8 then (((100 : Int32) + w4_8) - (13 : Int32)) else w4_8)), (6, .long r7), (5, .int (if (12 : Int32) < w4_8 then (((100 : Int32) + w4_8) - (13 : Int32)) else w4_8)), (0, .ref (ad 59)), (4, .int w4_8)]) hx hb dX7_findProof_93 rfl hl (by decide) rfl (fun ls hl => ?_)
                refine lv_iinc (v := (w4_8 + 1)) (lv' := [(4, .int (w4_8 + 1)), (2, .long r7), (1, .int (if (12 : Int32) < w4_8 then (((100 : Int32) + w4_8) - (13 : Int32)) else w4_8)), (6, .long r7), (5, .int (if (12 : Int32) < w4_8 then (((100 : Int32) + w4_8) - (13 : Int32)) else w4_8)), (0, .ref (ad 59))]) hx hb dX7_findProof_94 hl (k := 5) rfl rfl (by decide) rfl (fun ls hl => ?_)
                refine lv_goto (tgt := 8) hx hb dX7_findProof_97 (by decide) ?_
                exact ih I5 J5 (if (12 : Int32) < w4_8 then (((100 : Int32) + w4_8) - (13 : Int32)) else w4_8) r7 (w4_8 + 1) _ _ _ h hP hD hS (lv_sub hl [5, 2, 1, 0] rfl)
  unfold F_X7_findProof at h
  refine lv_bipush (v := -9) hx hb dX7_findProof_0 (by decide) ?_
  refine lv_istore_n (lv' := [(1, .int (-9 : Int32)), (0, .ref (ad 59))]) hx hb dX7_findProof_2 rfl hl (by decide) rfl (fun ls hl => ?_)
  refine lv_lconst (v := 0) hx hb dX7_findProof_3 (by decide) ?_
  refine lv_lstore_n (lv' := [(2, .long (0 : Int64)), (1, .int (-9 : Int32)), (0, .ref (ad 59))]) hx hb dX7_findProof_4 rfl hl (by decide) rfl (fun ls hl => ?_)
  refine lv_iconst (v := 0) hx hb dX7_findProof_5 (by decide) ?_
  refine lv_istore (lv' := [(4, .int (0 : Int32)), (2, .long (0 : Int64)), (1, .int (-9 : Int32)), (0, .ref (ad 59))]) hx hb dX7_findProof_6 hl (by decide) rfl (fun ls hl => ?_)
  exact loop_8 3000 I J (-9 : Int32) (0 : Int64) (0 : Int32) _ _ _ h hP hD hS (lv_sub hl [3, 2, 1, 0] rfl)
def F_X7_proof (I : SI) (J : SJ) : Option (Int32 × SI × SJ) := ((F_X4_lay I J (0 : Int32) (0 : Int32) (0 : Int32)).bind fun (I1, J1) => ((F_X7_findProof I1 J1).bind fun (r2, I2, J2) => (some (r2, I2, J2))))
set_option maxHeartbeats 4000000 in
set_option maxRecDepth 100000 in
theorem c_X7_proof (l : Launch) (g : Gx) (ad : Nat → Nat) (I : SI) (J : SJ)   (sz : Nat) {r : Int32} {rI : SI} {rJ : SJ} (h : F_X7_proof I J = some (r, rI, rJ)) : Met l yX7_proof (Cond.code yX7_proof cX7_proof 1 (some .int) :: BG) (k2_rm 7 169) (PcW [.ref (ad 59)] g (xW ad g I J) sz) (QWi r g (xW ad g I J) (xW ad g rI rJ) sz) 0 0 (va_A (xW ad g I J) sz) := by
  refine mkWi (by decide) (Nat.le_of_ble_eq_true rfl) ?_
  intro p e s m args below meth c H locs ls A Q hC hK hP hD hA hS hl hret
  have hx := hC.1
  have hb := hC.2.1
  have hts := hC.2.2.2.2
  have hown := hC.2.2.2.1
  replace hl : lv_has ls 1 [(0, .ref (ad 59))] := hl
  unfold F_X7_proof at h
  refine lv_aload_n hx hb dX7_proof_0 rfl (lv_at hl 0 rfl) ?_
  refine gt_X7_34 hC hK hP dX7_proof_1 ?_
  refine lv_iconst (v := 0) hx hb dX7_proof_4 (by decide) ?_
  refine lv_iconst (v := 0) hx hb dX7_proof_5 (by decide) ?_
  refine lv_iconst (v := 0) hx hb dX7_proof_6 (by decide) ?_
  obtain ⟨⟨I1, J1⟩, hc1, h⟩ := ob h
  dsimp only at h
  refine callWVv (As := [.int (0 : Int32), .int (0 : Int32), .int (0 : Int32)]) (rest := []) hC (c_X4_lay l g ad I J (0 : Int32) (0 : Int32) (0 : Int32)  H.size hc1) lk_X7_135 rfl rfl ⟨Nat.le_of_ble_eq_true rfl, Nat.le_of_ble_eq_true rfl⟩ hP hK hD hA hS xo_47 rfl rfl rfl hl (Nat.le_of_ble_eq_true rfl) dX7_proof_7 (fun H locs hP hD hS => ?_)
  refine lv_aload_n hx hb dX7_proof_10 rfl (lv_at hl 0 rfl) ?_
  obtain ⟨⟨r2, I2, J2⟩, hc2, h⟩ := ob h
  dsimp only at h
  refine callWVi (As := []) (rest := []) hC (c_X7_findProof l g ad I1 J1   H.size hc2) lk_X7_202 rfl rfl ⟨Nat.le_of_ble_eq_true rfl, Nat.le_of_ble_eq_true rfl⟩ hP hK hD hA hS xo_59 rfl rfl rfl hl (Nat.le_of_ble_eq_true rfl) dX7_proof_11 (fun H locs hP hD hS => ?_)
  obtain ⟨h1, h⟩ := Prod.mk.inj (Option.some.inj h)
  obtain ⟨rfl, rfl⟩ := Prod.mk.inj h
  exact hret _ _ _ _ _ dX7_proof_14 h1 hP hD hS
def F_X7_ownerWorth (t1 : Nat) (I : SI) (J : SJ) : Option (Int64 × SI × SJ) := ((F_X4_findBest t1 I J).bind fun (I1, J1) => ((F_X4_worthOf t1 I1 J1 (I1 47 8) (1 : Int32)).bind fun r2 => (some (r2, I1, J1))))
set_option maxHeartbeats 4000000 in
set_option maxRecDepth 100000 in
theorem c_X7_ownerWorth (l : Launch) (g : Gx) (ad : Nat → Nat) (I : SI) (J : SJ) (t1 : Nat) (hT1 : isT t1) (sz : Nat) {r : Int64} {rI : SI} {rJ : SJ} (h : F_X7_ownerWorth t1 I J = some (r, rI, rJ)) : Met l yX7_ownerWorth (Cond.code yX7_ownerWorth cX7_ownerWorth 2 (some .long) :: BG) (k2_rm 5 121) (PcW [.ref (ad 59), .ref (ad t1)] g (xW ad g I J) sz) (QWl r g (xW ad g I J) (xW ad g rI rJ) sz) 0 0 (va_A (xW ad g I J) sz) := by
  refine mkWl (by decide) (Nat.le_of_ble_eq_true rfl) ?_
  intro p e s m args below meth c H locs ls A Q hC hK hP hD hA hS hl hret
  have hx := hC.1
  have hb := hC.2.1
  have hts := hC.2.2.2.2
  have hown := hC.2.2.2.1
  replace hl : lv_has ls 2 [(0, .ref (ad 59)), (1, .ref (ad t1))] := hl
  unfold F_X7_ownerWorth at h
  refine lv_aload_n hx hb dX7_ownerWorth_0 rfl (lv_at hl 0 rfl) ?_
  refine gt_X7_34 hC hK hP dX7_ownerWorth_1 ?_
  refine lv_aload_n hx hb dX7_ownerWorth_4 rfl (lv_at hl 1 rfl) ?_
  obtain ⟨⟨I1, J1⟩, hc1, h⟩ := ob h
  dsimp only at h
  refine callWVv (As := [.ref (ad t1)]) (rest := []) hC (c_X4_findBest l g ad I J t1 hT1 H.size hc1) lk_X7_179 rfl rfl ⟨Nat.le_of_ble_eq_true rfl, Nat.le_of_ble_eq_true rfl⟩ hP hK hD hA hS xo_47 rfl rfl rfl hl (Nat.le_of_ble_eq_true rfl) dX7_ownerWorth_5 (fun H locs hP hD hS => ?_)
  refine lv_aload_n hx hb dX7_ownerWorth_8 rfl (lv_at hl 0 rfl) ?_
  refine gt_X7_34 hC hK hP dX7_ownerWorth_9 ?_
  refine lv_aload_n hx hb dX7_ownerWorth_12 rfl (lv_at hl 1 rfl) ?_
  refine lv_aload_n hx hb dX7_ownerWorth_13 rfl (lv_at hl 0 rfl) ?_
  refine gt_X7_34 hC hK hP dX7_ownerWorth_14 ?_
  refine gt_X7_183 hC hK hP dX7_ownerWorth_17 ?_
  refine lv_iconst (v := 1) hx hb dX7_ownerWorth_20 (by decide) ?_
  obtain ⟨r2, hc2, h⟩ := ob h
  refine callRV (As := [.ref (ad t1), .int (I1 47 8), .int (1 : Int32)]) (rest := []) hC (c_X4_worthOf l g ad I1 J1 t1 (I1 47 8) (1 : Int32) hT1 hc2) lk_X7_175 rfl rfl ⟨Nat.le_of_ble_eq_true rfl, Nat.le_of_ble_eq_true rfl⟩ hP hK xo_47 rfl rfl rfl hl (Nat.le_of_ble_eq_true rfl) dX7_ownerWorth_21 ?_
  obtain ⟨h1, h⟩ := Prod.mk.inj (Option.some.inj h)
  obtain ⟨rfl, rfl⟩ := Prod.mk.inj h
  exact hret _ _ _ _ _ dX7_ownerWorth_24 h1 hP hD hS
def FL_X7_leastWage_2  : Nat → SI → SJ → Int32 → Int32 → Option (Int32)
  | 0, _, _, _, _ => none
  | n + 1, I, J, w1_2, w2_2 => (if (99 : Int32) < w2_2 then (some (-9 : Int32)) else ((F_X1_seedOf 0 I J (0 : Int32)).bind fun r2 => ((F_X1_mindOf 0 I J (0 : Int32) (w2_2 - r2)).bind fun r3 => ((F_X4_costWorth I J w1_2).bind fun r4 => ((F_X1_otherWorth 0 I J).bind fun r5 => (if (((100 : Int64) * (Int32.toInt64 r3)) - r4) < r5 then (FL_X7_leastWage_2 n I J w1_2 (w2_2 + 1)) else (some w2_2)))))))
def F_X7_leastWage (I : SI) (J : SJ) (v1 : Int32) : Option (Int32) := (FL_X7_leastWage_2 3000 I J v1 (0 : Int32))
set_option maxHeartbeats 4000000 in
set_option maxRecDepth 100000 in
theorem c_X7_leastWage (l : Launch) (g : Gx) (ad : Nat → Nat) (I : SI) (J : SJ) (v1 : Int32)  {r : Int32} (h : F_X7_leastWage I J v1 = some r) : Met l yX7_leastWage (Cond.code yX7_leastWage cX7_leastWage 4 (some .int) :: BG) (k2_rm 2 45) (va_Pc [.ref (ad 59), .int v1] (fun U => Pg g (xW ad g I J) U.heap ∧ Kg g U)) (k2_QcV (.int r)) 0 0 (fun _ => False) := by
  refine mkRi (by decide) (Nat.le_of_ble_eq_true rfl) ?_
  intro p e s m args below meth c H locs ls Q hC hK hP hl hret
  have hx := hC.1
  have hb := hC.2.1
  have hts := hC.2.2.2.2
  have hown := hC.2.2.2.1
  replace hl : lv_has ls 4 [(0, .ref (ad 59)), (1, .int v1)] := hl
  have loop_2 : ∀ (n : Nat) (w1_2 : Int32) (w2_2 : Int32)  (ls : Array Slot), FL_X7_leastWage_2 n I J w1_2 w2_2 = some r → lv_has ls 4 [(0, .ref (ad 59)), (1, .int w1_2), (2, .int w2_2)] → W p l e (k2_rm 2 45) s m args below meth c H locs 0 0 Q (F0 m 2 ls []) := by
    intro n
    induction n with
    | zero =>
      intro w1_2 w2_2 ls h
      exact no h
    | succ n ih =>
      intro w1_2 w2_2 ls h hl
      rw [FL_X7_leastWage_2] at h
      refine lv_iload_n hx hb dX7_leastWage_2 rfl (lv_at hl 2 rfl) ?_
      refine lv_bipush (v := 99) hx hb dX7_leastWage_3 (by decide) ?_
      refine lv_icmp_gt (tgt := 61) hx hb dX7_leastWage_5 (by decide) (fun c1 => ?_) (fun c1 => ?_)
      · replace h := (if_pos c1).symm.trans h
        refine lv_bipush (v := -9) hx hb dX7_leastWage_61 (by decide) ?_
        exact hret _ _ _ dX7_leastWage_63 (Option.some.inj h)
      · replace h := (if_neg c1).symm.trans h
        refine lv_aload_n hx hb dX7_leastWage_8 rfl (lv_at hl 0 rfl) ?_
        refine gt_X7_10 hC hK hP dX7_leastWage_9 ?_
        refine lv_iconst (v := 0) hx hb dX7_leastWage_12 (by decide) ?_
        refine lv_iload_n hx hb dX7_leastWage_13 rfl (lv_at hl 2 rfl) ?_
        refine lv_aload_n hx hb dX7_leastWage_14 rfl (lv_at hl 0 rfl) ?_
        refine gt_X7_10 hC hK hP dX7_leastWage_15 ?_
        refine lv_iconst (v := 0) hx hb dX7_leastWage_18 (by decide) ?_
        obtain ⟨r2, hc2, h⟩ := ob h
        refine callRV (As := [.int (0 : Int32)]) (rest := [.int w2_2, .int (0 : Int32), .ref (ad 0)]) hC (c_X1_seedOf l g ad I J 0 (0 : Int32) (Or.inl rfl) hc2) lk_X7_323 rfl rfl ⟨Nat.le_of_ble_eq_true rfl, Nat.le_of_ble_eq_true rfl⟩ hP hK (xEo (Or.inl rfl)) rfl rfl rfl hl (Nat.le_of_ble_eq_true rfl) dX7_leastWage_19 ?_
        refine lv_isub hx hb dX7_leastWage_22 ?_
        obtain ⟨r3, hc3, h⟩ := ob h
        refine callRV (As := [.int (0 : Int32), .int (w2_2 - r2)]) (rest := []) hC (c_X1_mindOf l g ad I J 0 (0 : Int32) (w2_2 - r2) (Or.inl rfl) hc3) lk_X7_168 rfl rfl ⟨Nat.le_of_ble_eq_true rfl, Nat.le_of_ble_eq_true rfl⟩ hP hK (xEo (Or.inl rfl)) rfl rfl rfl hl (Nat.le_of_ble_eq_true rfl) dX7_leastWage_23 ?_
        refine lv_istore_n (lv' := [(3, .int r3), (0, .ref (ad 59)), (1, .int w1_2), (2, .int w2_2)]) hx hb dX7_leastWage_26 rfl hl (by decide) rfl (fun ls hl => ?_)
        refine lv_ldc2 hx hb hown (hts _ kc_X7_326) dX7_leastWage_27 ?_
        refine lv_iload_n hx hb dX7_leastWage_30 rfl (lv_at hl 0 rfl) ?_
        refine lv_i2l hx hb dX7_leastWage_31 rfl ?_
        refine lv_lmul hx hb dX7_leastWage_32 ?_
        refine lv_aload_n hx hb dX7_leastWage_33 rfl (lv_at hl 1 rfl) ?_
        refine gt_X7_34 hC hK hP dX7_leastWage_34 ?_
        refine lv_iload_n hx hb dX7_leastWage_37 rfl (lv_at hl 2 rfl) ?_
        obtain ⟨r4, hc4, h⟩ := ob h
        refine callRV (As := [.int w1_2]) (rest := [.long ((100 : Int64) * (Int32.toInt64 r3))]) hC (c_X4_costWorth l g ad I J w1_2  hc4) lk_X7_328 rfl rfl ⟨Nat.le_of_ble_eq_true rfl, Nat.le_of_ble_eq_true rfl⟩ hP hK xo_47 rfl rfl rfl hl (Nat.le_of_ble_eq_true rfl) dX7_leastWage_38 ?_
        refine lv_lsub hx hb dX7_leastWage_41 ?_
        refine lv_aload_n hx hb dX7_leastWage_42 rfl (lv_at hl 1 rfl) ?_
        refine gt_X7_10 hC hK hP dX7_leastWage_43 ?_
        obtain ⟨r5, hc5, h⟩ := ob h
        refine callRV (As := []) (rest := [.long (((100 : Int64) * (Int32.toInt64 r3)) - r4)]) hC (c_X1_otherWorth l g ad I J 0 (Or.inl rfl) hc5) lk_X7_319 rfl rfl ⟨Nat.le_of_ble_eq_true rfl, Nat.le_of_ble_eq_true rfl⟩ hP hK (xEo (Or.inl rfl)) rfl rfl rfl hl (Nat.le_of_ble_eq_true rfl) dX7_leastWage_46 ?_
        refine W.lcmp hx hb dX7_leastWage_49 ?_
        refine lv_if_lt (tgt := 55) hx hb dX7_leastWage_50 (by decide) (fun c6 => ?_) (fun c6 => ?_)
        · replace h := (if_pos ((lg_cmp_lt _ _).mp c6)).symm.trans h
          refine lv_iinc (v := (w2_2 + 1)) (lv' := [(2, .int (w2_2 + 1)), (3, .int r3), (0, .ref (ad 59)), (1, .int w1_2)]) hx hb dX7_leastWage_55 hl (k := 3) rfl rfl (by decide) rfl (fun ls hl => ?_)
          refine lv_goto (tgt := 2) hx hb dX7_leastWage_58 (by decide) ?_
          exact ih w1_2 (w2_2 + 1) _ h (lv_sub hl [2, 3, 0] rfl)
        · replace h := (if_neg (fun hh => c6 ((lg_cmp_lt _ _).mpr hh))).symm.trans h
          refine lv_iload_n hx hb dX7_leastWage_53 rfl (lv_at hl 3 rfl) ?_
          exact hret _ _ _ dX7_leastWage_54 (Option.some.inj h)
  unfold F_X7_leastWage at h
  refine lv_iconst (v := 0) hx hb dX7_leastWage_0 (by decide) ?_
  refine lv_istore_n (lv' := [(2, .int (0 : Int32)), (0, .ref (ad 59)), (1, .int v1)]) hx hb dX7_leastWage_1 rfl hl (by decide) rfl (fun ls hl => ?_)
  exact loop_2 3000 v1 (0 : Int32) _ h (lv_sub hl [1, 2, 0] rfl)
def FL_X7_gap_48  : Nat → SI → SJ → Int64 → Int32 → Int64 → Int32 → Option (Int64 × SI × SJ)
  | 0, _, _, _, _, _, _ => none
  | n + 1, I, J, w2_48, w4_48, w5_48, w7_48 => (if (I 47 5) < w7_48 then (if w4_48 = 0 then (some ((-9 : Int64), I, J)) else (some ((if (w5_48 - w2_48) < (0 : Int64) then (0 : Int64) else (w5_48 - w2_48)), I, J))) else ((F_X7_leastWage I J w7_48).bind fun r8 => (if r8 = (-9 : Int32) then (FL_X7_gap_48 n I J w2_48 w4_48 w5_48 (w7_48 + 1)) else ((F_X5_become 58 I J (2 : Int32) r8 (0 : Int32) (0 : Int32)).bind fun (I10, J10) => ((F_X4_worthOf 58 I10 J10 w7_48 (1 : Int32)).bind fun r11 => (if w4_48 = 0 then (FL_X7_gap_48 n I10 J10 w2_48 (1 : Int32) r11 (w7_48 + 1)) else (FL_X7_gap_48 n I10 J10 w2_48 (1 : Int32) (if r11 < w5_48 then w5_48 else r11) (w7_48 + 1))))))))
def F_X7_gap (I : SI) (J : SJ) : Option (Int64 × SI × SJ) := ((F_X4_lay I J (0 : Int32) (0 : Int32) (0 : Int32)).bind fun (I1, J1) => ((F_X7_findProof I1 J1).bind fun (r2, I2, J2) => (if r2 = (-9 : Int32) then (some ((-9 : Int64), I2, J2)) else ((F_X7_layProof I2 J2 r2).bind fun (I4, J4) => ((F_X7_ownerWorth 58 I4 J4).bind fun (r5, I5, J5) => (FL_X7_gap_48 3000 I5 J5 r5 (0 : Int32) (0 : Int64) (0 : Int32)))))))
set_option maxHeartbeats 4000000 in
set_option maxRecDepth 100000 in
theorem c_X7_gap (l : Launch) (g : Gx) (ad : Nat → Nat) (I : SI) (J : SJ)   (sz : Nat) {r : Int64} {rI : SI} {rJ : SJ} (h : F_X7_gap I J = some (r, rI, rJ)) : Met l yX7_gap (Cond.code yX7_gap cX7_gap 11 (some .long) :: BG) (k2_rm 7 169) (PcW [.ref (ad 59)] g (xW ad g I J) sz) (QWl r g (xW ad g I J) (xW ad g rI rJ) sz) 0 0 (va_A (xW ad g I J) sz) := by
  refine mkWl (by decide) (Nat.le_of_ble_eq_true rfl) ?_
  intro p e s m args below meth c H locs ls A Q hC hK hP hD hA hS hl hret
  have hx := hC.1
  have hb := hC.2.1
  have hts := hC.2.2.2.2
  have hown := hC.2.2.2.1
  replace hl : lv_has ls 11 [(0, .ref (ad 59))] := hl
  have loop_48 : ∀ (n : Nat) (I : SI) (J : SJ) (w2_48 : Int64) (w4_48 : Int32) (w5_48 : Int64) (w7_48 : Int32)  (H : Heap) (locs : List Loc) (ls : Array Slot), FL_X7_gap_48 n I J w2_48 w4_48 w5_48 w7_48 = some (r, rI, rJ) → Pg g (xW ad g I J) H → va_D A (xW ad g I J) → va_S A s.heap H locs → lv_has ls 11 [(0, .ref (ad 59)), (2, .long w2_48), (4, .int w4_48), (5, .long w5_48), (7, .int w7_48)] → W p l e (k2_rm 7 169) s m args below meth c H locs 0 0 Q (F0 m 48 ls []) := by
    intro n
    induction n with
    | zero =>
      intro I J w2_48 w4_48 w5_48 w7_48 H locs ls h
      exact no h
    | succ n ih =>
      intro I J w2_48 w4_48 w5_48 w7_48 H locs ls h hP hD hS hl
      rw [FL_X7_gap_48] at h
      refine lv_iload hx hb dX7_gap_48 (lv_at hl 4 rfl) ?_
      refine lv_aload_n hx hb dX7_gap_50 rfl (lv_at hl 0 rfl) ?_
      refine gt_X7_34 hC hK hP dX7_gap_51 ?_
      refine gt_X7_216 hC hK hP dX7_gap_54 ?_
      refine lv_icmp_gt (tgt := 131) hx hb dX7_gap_57 (by decide) (fun c6 => ?_) (fun c6 => ?_)
      · replace h := (if_pos c6).symm.trans h
        refine lv_iload hx hb dX7_gap_131 (lv_at hl 2 rfl) ?_
        refine lv_if_eq (tgt := 147) hx hb dX7_gap_133 (by decide) (fun c7 => ?_) (fun c7 => ?_)
        · replace h := (if_pos c7).symm.trans h
          refine lv_ldc2 hx hb hown (hts _ kc_X7_206) dX7_gap_147 ?_
          obtain ⟨h1, h⟩ := Prod.mk.inj (Option.some.inj h)
          obtain ⟨rfl, rfl⟩ := Prod.mk.inj h
          exact hret _ _ _ _ _ dX7_gap_150 h1 hP hD hS
        · replace h := (if_neg c7).symm.trans h
          refine lv_lconst (v := 0) hx hb dX7_gap_136 (by decide) ?_
          refine lv_lload hx hb dX7_gap_137 (lv_at hl 3 rfl) ?_
          refine lv_lload_n hx hb dX7_gap_139 rfl (lv_at hl 1 rfl) ?_
          refine lv_lsub hx hb dX7_gap_140 ?_
          refine va_mmax_long hx hb (hC.2.2.1.trans hl.1.symm) hown (hts _ ml_X7_226) (hts _ sm_maxL) (hts _ ini_math) (hts _ cd_maxL) (Nat.le_of_ble_eq_true rfl) (Nat.le_of_ble_eq_true rfl) (Nat.zero_le _) (Nat.zero_le _) dX7_gap_141 ?_
          refine lv_goto (tgt := 150) hx hb dX7_gap_144 (by decide) ?_
          obtain ⟨h1, h⟩ := Prod.mk.inj (Option.some.inj h)
          obtain ⟨rfl, rfl⟩ := Prod.mk.inj h
          exact hret _ _ _ _ _ dX7_gap_150 h1 hP hD hS
      · replace h := (if_neg c6).symm.trans h
        refine lv_aload_n hx hb dX7_gap_60 rfl (lv_at hl 0 rfl) ?_
        refine lv_iload hx hb dX7_gap_61 (lv_at hl 4 rfl) ?_
        obtain ⟨r8, hc8, h⟩ := ob h
        refine callRV (As := [.int w7_48]) (rest := []) hC (c_X7_leastWage l g ad I J w7_48  hc8) lk_X7_219 rfl rfl ⟨Nat.le_of_ble_eq_true rfl, Nat.le_of_ble_eq_true rfl⟩ hP hK xo_59 rfl rfl rfl hl (Nat.le_of_ble_eq_true rfl) dX7_gap_63 ?_
        refine lv_istore (lv' := [(8, .int r8), (0, .ref (ad 59)), (2, .long w2_48), (4, .int w4_48), (5, .long w5_48), (7, .int w7_48)]) hx hb dX7_gap_66 hl (by decide) rfl (fun ls hl => ?_)
        refine lv_iload hx hb dX7_gap_68 (lv_at hl 0 rfl) ?_
        refine lv_bipush (v := -9) hx hb dX7_gap_70 (by decide) ?_
        refine lv_icmp_eq (tgt := 125) hx hb dX7_gap_72 (by decide) (fun c9 => ?_) (fun c9 => ?_)
        · replace h := (if_pos c9).symm.trans h
          refine lv_iinc (v := (w7_48 + 1)) (lv' := [(7, .int (w7_48 + 1)), (8, .int r8), (0, .ref (ad 59)), (2, .long w2_48), (4, .int w4_48), (5, .long w5_48)]) hx hb dX7_gap_125 hl (k := 5) rfl rfl (by decide) rfl (fun ls hl => ?_)
          refine lv_goto (tgt := 48) hx hb dX7_gap_128 (by decide) ?_
          exact ih I J w2_48 w4_48 w5_48 (w7_48 + 1) _ _ _ h hP hD hS (lv_sub hl [2, 3, 4, 5, 0] rfl)
        · replace h := (if_neg c9).symm.trans h
          refine lv_aload_n hx hb dX7_gap_75 rfl (lv_at hl 1 rfl) ?_
          refine gt_X7_55 hC hK hP dX7_gap_76 ?_
          refine lv_iconst (v := 2) hx hb dX7_gap_79 (by decide) ?_
          refine lv_iload hx hb dX7_gap_80 (lv_at hl 0 rfl) ?_
          refine lv_iconst (v := 0) hx hb dX7_gap_82 (by decide) ?_
          refine lv_iconst (v := 0) hx hb dX7_gap_83 (by decide) ?_
          obtain ⟨⟨I10, J10⟩, hc10, h⟩ := ob h
          dsimp only at h
          refine callWVv (As := [.int (2 : Int32), .int r8, .int (0 : Int32), .int (0 : Int32)]) (rest := []) hC (c_X5_become l g ad I J 58 (2 : Int32) r8 (0 : Int32) (0 : Int32) (by unfold isT; omega) H.size hc10) lk_X7_222 rfl rfl ⟨Nat.le_of_ble_eq_true rfl, Nat.le_of_ble_eq_true rfl⟩ hP hK hD hA hS (xTo (by unfold isT; omega)) rfl rfl rfl hl (Nat.le_of_ble_eq_true rfl) dX7_gap_84 (fun H locs hP hD hS => ?_)
          refine lv_aload_n hx hb dX7_gap_87 rfl (lv_at hl 1 rfl) ?_
          refine gt_X7_34 hC hK hP dX7_gap_88 ?_
          refine lv_aload_n hx hb dX7_gap_91 rfl (lv_at hl 1 rfl) ?_
          refine gt_X7_55 hC hK hP dX7_gap_92 ?_
          refine lv_iload hx hb dX7_gap_95 (lv_at hl 5 rfl) ?_
          refine lv_iconst (v := 1) hx hb dX7_gap_97 (by decide) ?_
          obtain ⟨r11, hc11, h⟩ := ob h
          refine callRV (As := [.ref (ad 58), .int w7_48, .int (1 : Int32)]) (rest := []) hC (c_X4_worthOf l g ad I10 J10 58 w7_48 (1 : Int32) (by unfold isT; omega) hc11) lk_X7_175 rfl rfl ⟨Nat.le_of_ble_eq_true rfl, Nat.le_of_ble_eq_true rfl⟩ hP hK xo_47 rfl rfl rfl hl (Nat.le_of_ble_eq_true rfl) dX7_gap_98 ?_
          refine lv_lstore (lv' := [(9, .long r11), (8, .int r8), (0, .ref (ad 59)), (2, .long w2_48), (4, .int w4_48), (5, .long w5_48), (7, .int w7_48)]) hx hb dX7_gap_101 hl (by decide) rfl (fun ls hl => ?_)
          refine lv_iload hx hb dX7_gap_103 (lv_at hl 4 rfl) ?_
          refine lv_if_eq (tgt := 118) hx hb dX7_gap_105 (by decide) (fun c12 => ?_) (fun c12 => ?_)
          · replace h := (if_pos c12).symm.trans h
            refine lv_lload hx hb dX7_gap_118 (lv_at hl 0 rfl) ?_
            refine lv_lstore (lv' := [(5, .long r11), (9, .long r11), (8, .int r8), (0, .ref (ad 59)), (2, .long w2_48), (4, .int w4_48), (7, .int w7_48)]) hx hb dX7_gap_120 hl (by decide) rfl (fun ls hl => ?_)
            refine lv_iconst (v := 1) hx hb dX7_gap_122 (by decide) ?_
            refine lv_istore (lv' := [(4, .int (1 : Int32)), (5, .long r11), (9, .long r11), (8, .int r8), (0, .ref (ad 59)), (2, .long w2_48), (7, .int w7_48)]) hx hb dX7_gap_123 hl (by decide) rfl (fun ls hl => ?_)
            refine lv_iinc (v := (w7_48 + 1)) (lv' := [(7, .int (w7_48 + 1)), (4, .int (1 : Int32)), (5, .long r11), (9, .long r11), (8, .int r8), (0, .ref (ad 59)), (2, .long w2_48)]) hx hb dX7_gap_125 hl (k := 6) rfl rfl (by decide) rfl (fun ls hl => ?_)
            refine lv_goto (tgt := 48) hx hb dX7_gap_128 (by decide) ?_
            exact ih I10 J10 w2_48 (1 : Int32) r11 (w7_48 + 1) _ _ _ h hP hD hS (lv_sub hl [5, 6, 1, 2, 0] rfl)
          · replace h := (if_neg c12).symm.trans h
            refine lv_lload hx hb dX7_gap_108 (lv_at hl 5 rfl) ?_
            refine lv_lload hx hb dX7_gap_110 (lv_at hl 0 rfl) ?_
            refine va_mmax_long hx hb (hC.2.2.1.trans hl.1.symm) hown (hts _ ml_X7_226) (hts _ sm_maxL) (hts _ ini_math) (hts _ cd_maxL) (Nat.le_of_ble_eq_true rfl) (Nat.le_of_ble_eq_true rfl) (Nat.zero_le _) (Nat.zero_le _) dX7_gap_112 ?_
            refine lv_goto (tgt := 120) hx hb dX7_gap_115 (by decide) ?_
            refine lv_lstore (lv' := [(5, .long (if r11 < w5_48 then w5_48 else r11)), (9, .long r11), (8, .int r8), (0, .ref (ad 59)), (2, .long w2_48), (4, .int w4_48), (7, .int w7_48)]) hx hb dX7_gap_120 hl (by decide) rfl (fun ls hl => ?_)
            refine lv_iconst (v := 1) hx hb dX7_gap_122 (by decide) ?_
            refine lv_istore (lv' := [(4, .int (1 : Int32)), (5, .long (if r11 < w5_48 then w5_48 else r11)), (9, .long r11), (8, .int r8), (0, .ref (ad 59)), (2, .long w2_48), (7, .int w7_48)]) hx hb dX7_gap_123 hl (by decide) rfl (fun ls hl => ?_)
            refine lv_iinc (v := (w7_48 + 1)) (lv' := [(7, .int (w7_48 + 1)), (4, .int (1 : Int32)), (5, .long (if r11 < w5_48 then w5_48 else r11)), (9, .long r11), (8, .int r8), (0, .ref (ad 59)), (2, .long w2_48)]) hx hb dX7_gap_125 hl (k := 6) rfl rfl (by decide) rfl (fun ls hl => ?_)
            refine lv_goto (tgt := 48) hx hb dX7_gap_128 (by decide) ?_
            exact ih I10 J10 w2_48 (1 : Int32) (if r11 < w5_48 then w5_48 else r11) (w7_48 + 1) _ _ _ h hP hD hS (lv_sub hl [5, 6, 1, 2, 0] rfl)
  unfold F_X7_gap at h
  refine lv_aload_n hx hb dX7_gap_0 rfl (lv_at hl 0 rfl) ?_
  refine gt_X7_34 hC hK hP dX7_gap_1 ?_
  refine lv_iconst (v := 0) hx hb dX7_gap_4 (by decide) ?_
  refine lv_iconst (v := 0) hx hb dX7_gap_5 (by decide) ?_
  refine lv_iconst (v := 0) hx hb dX7_gap_6 (by decide) ?_
  obtain ⟨⟨I1, J1⟩, hc1, h⟩ := ob h
  dsimp only at h
  refine callWVv (As := [.int (0 : Int32), .int (0 : Int32), .int (0 : Int32)]) (rest := []) hC (c_X4_lay l g ad I J (0 : Int32) (0 : Int32) (0 : Int32)  H.size hc1) lk_X7_135 rfl rfl ⟨Nat.le_of_ble_eq_true rfl, Nat.le_of_ble_eq_true rfl⟩ hP hK hD hA hS xo_47 rfl rfl rfl hl (Nat.le_of_ble_eq_true rfl) dX7_gap_7 (fun H locs hP hD hS => ?_)
  refine lv_aload_n hx hb dX7_gap_10 rfl (lv_at hl 0 rfl) ?_
  obtain ⟨⟨r2, I2, J2⟩, hc2, h⟩ := ob h
  dsimp only at h
  refine callWVi (As := []) (rest := []) hC (c_X7_findProof l g ad I1 J1   H.size hc2) lk_X7_202 rfl rfl ⟨Nat.le_of_ble_eq_true rfl, Nat.le_of_ble_eq_true rfl⟩ hP hK hD hA hS xo_59 rfl rfl rfl hl (Nat.le_of_ble_eq_true rfl) dX7_gap_11 (fun H locs hP hD hS => ?_)
  refine lv_istore_n (lv' := [(1, .int r2), (0, .ref (ad 59))]) hx hb dX7_gap_14 rfl hl (by decide) rfl (fun ls hl => ?_)
  refine lv_iload_n hx hb dX7_gap_15 rfl (lv_at hl 0 rfl) ?_
  refine lv_bipush (v := -9) hx hb dX7_gap_16 (by decide) ?_
  refine lv_icmp_ne (tgt := 25) hx hb dX7_gap_18 (by decide) (fun c3 => ?_) (fun c3 => ?_)
  · replace h := (if_neg c3).symm.trans h
    refine lv_aload_n hx hb dX7_gap_25 rfl (lv_at hl 1 rfl) ?_
    refine lv_iload_n hx hb dX7_gap_26 rfl (lv_at hl 0 rfl) ?_
    obtain ⟨⟨I4, J4⟩, hc4, h⟩ := ob h
    dsimp only at h
    refine callWVv (As := [.int r2]) (rest := []) hC (c_X7_layProof l g ad I2 J2 r2  H.size hc4) lk_X7_208 rfl rfl ⟨Nat.le_of_ble_eq_true rfl, Nat.le_of_ble_eq_true rfl⟩ hP hK hD hA hS xo_59 rfl rfl rfl hl (Nat.le_of_ble_eq_true rfl) dX7_gap_27 (fun H locs hP hD hS => ?_)
    refine lv_aload_n hx hb dX7_gap_30 rfl (lv_at hl 1 rfl) ?_
    refine lv_aload_n hx hb dX7_gap_31 rfl (lv_at hl 1 rfl) ?_
    refine gt_X7_55 hC hK hP dX7_gap_32 ?_
    obtain ⟨⟨r5, I5, J5⟩, hc5, h⟩ := ob h
    dsimp only at h
    refine callWVl (As := [.ref (ad 58)]) (rest := []) hC (c_X7_ownerWorth l g ad I4 J4 58 (by unfold isT; omega) H.size hc5) lk_X7_212 rfl rfl ⟨Nat.le_of_ble_eq_true rfl, Nat.le_of_ble_eq_true rfl⟩ hP hK hD hA hS xo_59 rfl rfl rfl hl (Nat.le_of_ble_eq_true rfl) dX7_gap_35 (fun H locs hP hD hS => ?_)
    refine lv_lstore_n (lv' := [(2, .long r5), (1, .int r2), (0, .ref (ad 59))]) hx hb dX7_gap_38 rfl hl (by decide) rfl (fun ls hl => ?_)
    refine lv_iconst (v := 0) hx hb dX7_gap_39 (by decide) ?_
    refine lv_istore (lv' := [(4, .int (0 : Int32)), (2, .long r5), (1, .int r2), (0, .ref (ad 59))]) hx hb dX7_gap_40 hl (by decide) rfl (fun ls hl => ?_)
    refine lv_lconst (v := 0) hx hb dX7_gap_42 (by decide) ?_
    refine lv_lstore (lv' := [(5, .long (0 : Int64)), (4, .int (0 : Int32)), (2, .long r5), (1, .int r2), (0, .ref (ad 59))]) hx hb dX7_gap_43 hl (by decide) rfl (fun ls hl => ?_)
    refine lv_iconst (v := 0) hx hb dX7_gap_45 (by decide) ?_
    refine lv_istore (lv' := [(7, .int (0 : Int32)), (5, .long (0 : Int64)), (4, .int (0 : Int32)), (2, .long r5), (1, .int r2), (0, .ref (ad 59))]) hx hb dX7_gap_46 hl (by decide) rfl (fun ls hl => ?_)
    exact loop_48 3000 I5 J5 r5 (0 : Int32) (0 : Int64) (0 : Int32) _ _ _ h hP hD hS (lv_sub hl [5, 3, 2, 1, 0] rfl)
  · replace h := (if_pos c3).symm.trans h
    refine lv_ldc2 hx hb hown (hts _ kc_X7_206) dX7_gap_21 ?_
    obtain ⟨h1, h⟩ := Prod.mk.inj (Option.some.inj h)
    obtain ⟨rfl, rfl⟩ := Prod.mk.inj h
    exact hret _ _ _ _ _ dX7_gap_24 h1 hP hD hS
def F_X7_half (I : SI) (J : SJ) : Option (Int64 × SI × SJ) := ((F_X4_lay I J (0 : Int32) (0 : Int32) (0 : Int32)).bind fun (I1, J1) => ((F_X7_findProof I1 J1).bind fun (r2, I2, J2) => (if r2 = (-9 : Int32) then (some ((-9 : Int64), I2, J2)) else ((F_X7_layProof I2 J2 r2).bind fun (I4, J4) => ((F_X7_ownerWorth 58 I4 J4).bind fun (r5, I5, J5) => ((F_X5_become 58 I5 J5 (0 : Int32) (1 : Int32) (2 : Int32) (0 : Int32)).bind fun (I6, J6) => ((F_X7_isTaken 58 I6 J6).bind fun (r7, I7, J7) => (if r7 = 0 then (some ((-9 : Int64), I7, J7)) else ((F_X7_ownerWorth 58 I7 J7).bind fun (r9, I9, J9) => (some ((r5 - r9), I9, J9)))))))))))
set_option maxHeartbeats 4000000 in
set_option maxRecDepth 100000 in
theorem c_X7_half (l : Launch) (g : Gx) (ad : Nat → Nat) (I : SI) (J : SJ)   (sz : Nat) {r : Int64} {rI : SI} {rJ : SJ} (h : F_X7_half I J = some (r, rI, rJ)) : Met l yX7_half (Cond.code yX7_half cX7_half 4 (some .long) :: BG) (k2_rm 7 169) (PcW [.ref (ad 59)] g (xW ad g I J) sz) (QWl r g (xW ad g I J) (xW ad g rI rJ) sz) 0 0 (va_A (xW ad g I J) sz) := by
  refine mkWl (by decide) (Nat.le_of_ble_eq_true rfl) ?_
  intro p e s m args below meth c H locs ls A Q hC hK hP hD hA hS hl hret
  have hx := hC.1
  have hb := hC.2.1
  have hts := hC.2.2.2.2
  have hown := hC.2.2.2.1
  replace hl : lv_has ls 4 [(0, .ref (ad 59))] := hl
  unfold F_X7_half at h
  refine lv_aload_n hx hb dX7_half_0 rfl (lv_at hl 0 rfl) ?_
  refine gt_X7_34 hC hK hP dX7_half_1 ?_
  refine lv_iconst (v := 0) hx hb dX7_half_4 (by decide) ?_
  refine lv_iconst (v := 0) hx hb dX7_half_5 (by decide) ?_
  refine lv_iconst (v := 0) hx hb dX7_half_6 (by decide) ?_
  obtain ⟨⟨I1, J1⟩, hc1, h⟩ := ob h
  dsimp only at h
  refine callWVv (As := [.int (0 : Int32), .int (0 : Int32), .int (0 : Int32)]) (rest := []) hC (c_X4_lay l g ad I J (0 : Int32) (0 : Int32) (0 : Int32)  H.size hc1) lk_X7_135 rfl rfl ⟨Nat.le_of_ble_eq_true rfl, Nat.le_of_ble_eq_true rfl⟩ hP hK hD hA hS xo_47 rfl rfl rfl hl (Nat.le_of_ble_eq_true rfl) dX7_half_7 (fun H locs hP hD hS => ?_)
  refine lv_aload_n hx hb dX7_half_10 rfl (lv_at hl 0 rfl) ?_
  obtain ⟨⟨r2, I2, J2⟩, hc2, h⟩ := ob h
  dsimp only at h
  refine callWVi (As := []) (rest := []) hC (c_X7_findProof l g ad I1 J1   H.size hc2) lk_X7_202 rfl rfl ⟨Nat.le_of_ble_eq_true rfl, Nat.le_of_ble_eq_true rfl⟩ hP hK hD hA hS xo_59 rfl rfl rfl hl (Nat.le_of_ble_eq_true rfl) dX7_half_11 (fun H locs hP hD hS => ?_)
  refine lv_istore_n (lv' := [(1, .int r2), (0, .ref (ad 59))]) hx hb dX7_half_14 rfl hl (by decide) rfl (fun ls hl => ?_)
  refine lv_iload_n hx hb dX7_half_15 rfl (lv_at hl 0 rfl) ?_
  refine lv_bipush (v := -9) hx hb dX7_half_16 (by decide) ?_
  refine lv_icmp_ne (tgt := 25) hx hb dX7_half_18 (by decide) (fun c3 => ?_) (fun c3 => ?_)
  · replace h := (if_neg c3).symm.trans h
    refine lv_aload_n hx hb dX7_half_25 rfl (lv_at hl 1 rfl) ?_
    refine lv_iload_n hx hb dX7_half_26 rfl (lv_at hl 0 rfl) ?_
    obtain ⟨⟨I4, J4⟩, hc4, h⟩ := ob h
    dsimp only at h
    refine callWVv (As := [.int r2]) (rest := []) hC (c_X7_layProof l g ad I2 J2 r2  H.size hc4) lk_X7_208 rfl rfl ⟨Nat.le_of_ble_eq_true rfl, Nat.le_of_ble_eq_true rfl⟩ hP hK hD hA hS xo_59 rfl rfl rfl hl (Nat.le_of_ble_eq_true rfl) dX7_half_27 (fun H locs hP hD hS => ?_)
    refine lv_aload_n hx hb dX7_half_30 rfl (lv_at hl 1 rfl) ?_
    refine lv_aload_n hx hb dX7_half_31 rfl (lv_at hl 1 rfl) ?_
    refine gt_X7_55 hC hK hP dX7_half_32 ?_
    obtain ⟨⟨r5, I5, J5⟩, hc5, h⟩ := ob h
    dsimp only at h
    refine callWVl (As := [.ref (ad 58)]) (rest := []) hC (c_X7_ownerWorth l g ad I4 J4 58 (by unfold isT; omega) H.size hc5) lk_X7_212 rfl rfl ⟨Nat.le_of_ble_eq_true rfl, Nat.le_of_ble_eq_true rfl⟩ hP hK hD hA hS xo_59 rfl rfl rfl hl (Nat.le_of_ble_eq_true rfl) dX7_half_35 (fun H locs hP hD hS => ?_)
    refine lv_lstore_n (lv' := [(2, .long r5), (1, .int r2), (0, .ref (ad 59))]) hx hb dX7_half_38 rfl hl (by decide) rfl (fun ls hl => ?_)
    refine lv_aload_n hx hb dX7_half_39 rfl (lv_at hl 2 rfl) ?_
    refine gt_X7_55 hC hK hP dX7_half_40 ?_
    refine lv_iconst (v := 0) hx hb dX7_half_43 (by decide) ?_
    refine lv_iconst (v := 1) hx hb dX7_half_44 (by decide) ?_
    refine lv_iconst (v := 2) hx hb dX7_half_45 (by decide) ?_
    refine lv_iconst (v := 0) hx hb dX7_half_46 (by decide) ?_
    obtain ⟨⟨I6, J6⟩, hc6, h⟩ := ob h
    dsimp only at h
    refine callWVv (As := [.int (0 : Int32), .int (1 : Int32), .int (2 : Int32), .int (0 : Int32)]) (rest := []) hC (c_X5_become l g ad I5 J5 58 (0 : Int32) (1 : Int32) (2 : Int32) (0 : Int32) (by unfold isT; omega) H.size hc6) lk_X7_222 rfl rfl ⟨Nat.le_of_ble_eq_true rfl, Nat.le_of_ble_eq_true rfl⟩ hP hK hD hA hS (xTo (by unfold isT; omega)) rfl rfl rfl hl (Nat.le_of_ble_eq_true rfl) dX7_half_47 (fun H locs hP hD hS => ?_)
    refine lv_aload_n hx hb dX7_half_50 rfl (lv_at hl 2 rfl) ?_
    refine lv_aload_n hx hb dX7_half_51 rfl (lv_at hl 2 rfl) ?_
    refine gt_X7_55 hC hK hP dX7_half_52 ?_
    obtain ⟨⟨r7, I7, J7⟩, hc7, h⟩ := ob h
    dsimp only at h
    refine callWVi (As := [.ref (ad 58)]) (rest := []) hC (c_X7_isTaken l g ad I6 J6 58 (by unfold isT; omega) H.size hc7) lk_X7_186 rfl rfl ⟨Nat.le_of_ble_eq_true rfl, Nat.le_of_ble_eq_true rfl⟩ hP hK hD hA hS xo_59 rfl rfl rfl hl (Nat.le_of_ble_eq_true rfl) dX7_half_55 (fun H locs hP hD hS => ?_)
    refine lv_if_eq (tgt := 74) hx hb dX7_half_58 (by decide) (fun c8 => ?_) (fun c8 => ?_)
    · replace h := (if_pos c8).symm.trans h
      refine lv_ldc2 hx hb hown (hts _ kc_X7_206) dX7_half_74 ?_
      obtain ⟨h1, h⟩ := Prod.mk.inj (Option.some.inj h)
      obtain ⟨rfl, rfl⟩ := Prod.mk.inj h
      exact hret _ _ _ _ _ dX7_half_77 h1 hP hD hS
    · replace h := (if_neg c8).symm.trans h
      refine lv_lload_n hx hb dX7_half_61 rfl (lv_at hl 0 rfl) ?_
      refine lv_aload_n hx hb dX7_half_62 rfl (lv_at hl 2 rfl) ?_
      refine lv_aload_n hx hb dX7_half_63 rfl (lv_at hl 2 rfl) ?_
      refine gt_X7_55 hC hK hP dX7_half_64 ?_
      obtain ⟨⟨r9, I9, J9⟩, hc9, h⟩ := ob h
      dsimp only at h
      refine callWVl (As := [.ref (ad 58)]) (rest := [.long r5]) hC (c_X7_ownerWorth l g ad I7 J7 58 (by unfold isT; omega) H.size hc9) lk_X7_212 rfl rfl ⟨Nat.le_of_ble_eq_true rfl, Nat.le_of_ble_eq_true rfl⟩ hP hK hD hA hS xo_59 rfl rfl rfl hl (Nat.le_of_ble_eq_true rfl) dX7_half_67 (fun H locs hP hD hS => ?_)
      refine lv_lsub hx hb dX7_half_70 ?_
      refine lv_goto (tgt := 77) hx hb dX7_half_71 (by decide) ?_
      obtain ⟨h1, h⟩ := Prod.mk.inj (Option.some.inj h)
      obtain ⟨rfl, rfl⟩ := Prod.mk.inj h
      exact hret _ _ _ _ _ dX7_half_77 h1 hP hD hS
  · replace h := (if_pos c3).symm.trans h
    refine lv_ldc2 hx hb hown (hts _ kc_X7_206) dX7_half_21 ?_
    obtain ⟨h1, h⟩ := Prod.mk.inj (Option.some.inj h)
    obtain ⟨rfl, rfl⟩ := Prod.mk.inj h
    exact hret _ _ _ _ _ dX7_half_24 h1 hP hD hS
def F_X7_less (I : SI) (J : SJ) (v1 : Int32) (v2 : Int32) (v3 : Int32) (v4 : Int32) : Option (Int32 × SI × SJ) := ((F_X1_termAt 0 I J v1).bind fun r1 => (match r1 with | none => ((F_X7_refuse I J (-1 : Int32)).bind fun (r2, I2, J2) => (some (r2, I2, J2))) | some t1 => ((F_X1_hasPains 0 I J v2).bind fun r3 => (if r3 = 0 then ((F_X7_refuse I J (-1 : Int32)).bind fun (r13, I13, J13) => (some (r13, I13, J13))) else ((F_X7_inRange v3 (0 : Int32) (100 : Int32)).bind fun r5 => ((F_X7_inRange v4 (0 : Int32) (99 : Int32)).bind fun r6 => ((F_X7_first r5 r6).bind fun r7 => (if r7 = 0 then ((F_X4_lay I J (0 : Int32) (0 : Int32) (0 : Int32)).bind fun (I9, J9) => ((F_X3_lay t1 I9 J9 v2 v4).bind fun (I10, J10) => ((F_X3_bestLess I10 J10 v3).bind fun r11 => (some (r11, I10, J10))))) else ((F_X7_refuse I J r7).bind fun (r12, I12, J12) => (some (r12, I12, J12)))))))))))
set_option maxHeartbeats 4000000 in
set_option maxRecDepth 100000 in
theorem c_X7_less (l : Launch) (g : Gx) (ad : Nat → Nat) (I : SI) (J : SJ) (v1 : Int32) (v2 : Int32) (v3 : Int32) (v4 : Int32)  (sz : Nat) {r : Int32} {rI : SI} {rJ : SJ} (h : F_X7_less I J v1 v2 v3 v4 = some (r, rI, rJ)) : Met l yX7_less (Cond.code yX7_less cX7_less 7 (some .int) :: BG) (k2_rm 5 129) (PcW [.ref (ad 59), .int v1, .int v2, .int v3, .int v4] g (xW ad g I J) sz) (QWi r g (xW ad g I J) (xW ad g rI rJ) sz) 0 0 (va_A (xW ad g I J) sz) := by
  refine mkWi (by decide) (Nat.le_of_ble_eq_true rfl) ?_
  intro p e s m args below meth c H locs ls A Q hC hK hP hD hA hS hl hret
  have hx := hC.1
  have hb := hC.2.1
  have hts := hC.2.2.2.2
  have hown := hC.2.2.2.1
  replace hl : lv_has ls 7 [(0, .ref (ad 59)), (1, .int v1), (2, .int v2), (3, .int v3), (4, .int v4)] := hl
  unfold F_X7_less at h
  refine lv_aload_n hx hb dX7_less_0 rfl (lv_at hl 0 rfl) ?_
  refine gt_X7_10 hC hK hP dX7_less_1 ?_
  refine lv_iload_n hx hb dX7_less_4 rfl (lv_at hl 1 rfl) ?_
  obtain ⟨r1, hc1, h⟩ := ob h
  rcases r1 with _ | t1
  · refine callRV (As := [.int v1]) (rest := []) hC (c_X1_termAt l g ad I J 0 v1 (Or.inl rfl) hc1) lk_X7_106 rfl rfl ⟨Nat.le_of_ble_eq_true rfl, Nat.le_of_ble_eq_true rfl⟩ hP hK (xEo (Or.inl rfl)) rfl rfl rfl hl (Nat.le_of_ble_eq_true rfl) dX7_less_5 ?_
    refine lv_astoreN (lv' := [(5, .null), (0, .ref (ad 59)), (1, .int v1), (2, .int v2), (3, .int v3), (4, .int v4)]) hx hb dX7_less_8 hl (by decide) rfl (fun ls hl => ?_)
    refine lv_aloadN hx hb dX7_less_10 (lv_at hl 0 rfl) ?_
    refine lv_ifnullN (tgt := 26) hx hb dX7_less_12 (by decide) ?_
    refine lv_aload_n hx hb dX7_less_26 rfl (lv_at hl 1 rfl) ?_
    refine lv_iconst (v := -1) hx hb dX7_less_27 (by decide) ?_
    obtain ⟨⟨r2, I2, J2⟩, hc2, h⟩ := ob h
    dsimp only at h
    refine callWVi (As := [.int (-1 : Int32)]) (rest := []) hC (c_X7_refuse l g ad I J (-1 : Int32)  H.size hc2) lk_X7_74 rfl rfl ⟨Nat.le_of_ble_eq_true rfl, Nat.le_of_ble_eq_true rfl⟩ hP hK hD hA hS xo_59 rfl rfl rfl hl (Nat.le_of_ble_eq_true rfl) dX7_less_28 (fun H locs hP hD hS => ?_)
    obtain ⟨h1, h⟩ := Prod.mk.inj (Option.some.inj h)
    obtain ⟨rfl, rfl⟩ := Prod.mk.inj h
    exact hret _ _ _ _ _ dX7_less_31 h1 hP hD hS
  · have hTt1 : isT t1 := termAt_isT (Or.inl rfl) hc1
    refine callRV (As := [.int v1]) (rest := []) hC (c_X1_termAt l g ad I J 0 v1 (Or.inl rfl) hc1) lk_X7_106 rfl rfl ⟨Nat.le_of_ble_eq_true rfl, Nat.le_of_ble_eq_true rfl⟩ hP hK (xEo (Or.inl rfl)) rfl rfl rfl hl (Nat.le_of_ble_eq_true rfl) dX7_less_5 ?_
    refine lv_astore (lv' := [(5, .ref (ad t1)), (0, .ref (ad 59)), (1, .int v1), (2, .int v2), (3, .int v3), (4, .int v4)]) hx hb dX7_less_8 hl (by decide) rfl (fun ls hl => ?_)
    refine lv_aload hx hb dX7_less_10 (lv_at hl 0 rfl) ?_
    refine lv_ifnull hx hb dX7_less_12 ?_
    refine lv_aload_n hx hb dX7_less_15 rfl (lv_at hl 1 rfl) ?_
    refine gt_X7_10 hC hK hP dX7_less_16 ?_
    refine lv_iload_n hx hb dX7_less_19 rfl (lv_at hl 3 rfl) ?_
    obtain ⟨r3, hc3, h⟩ := ob h
    refine callRV (As := [.int v2]) (rest := []) hC (c_X1_hasPains l g ad I J 0 v2 (Or.inl rfl) hc3) lk_X7_148 rfl rfl ⟨Nat.le_of_ble_eq_true rfl, Nat.le_of_ble_eq_true rfl⟩ hP hK (xEo (Or.inl rfl)) rfl rfl rfl hl (Nat.le_of_ble_eq_true rfl) dX7_less_20 ?_
    refine lv_if_ne (tgt := 32) hx hb dX7_less_23 (by decide) (fun c4 => ?_) (fun c4 => ?_)
    · replace h := (if_neg c4).symm.trans h
      refine lv_iload_n hx hb dX7_less_32 rfl (lv_at hl 4 rfl) ?_
      refine lv_iconst (v := 0) hx hb dX7_less_33 (by decide) ?_
      refine lv_bipush (v := 100) hx hb dX7_less_34 (by decide) ?_
      obtain ⟨r5, hc5, h⟩ := ob h
      refine callRS (As := [.int v3, .int (0 : Int32), .int (100 : Int32)]) (rest := []) hC (c_X7_inRange l g (xW ad g I J) v3 (0 : Int32) (100 : Int32) hc5) lk_X7_66 rfl rfl ⟨Nat.le_of_ble_eq_true rfl, Nat.le_of_ble_eq_true rfl⟩ hP hK rfl rfl hl (Nat.le_of_ble_eq_true rfl) dX7_less_36 ?_
      refine lv_iload hx hb dX7_less_39 (lv_at hl 5 rfl) ?_
      refine lv_iconst (v := 0) hx hb dX7_less_41 (by decide) ?_
      refine lv_bipush (v := 99) hx hb dX7_less_42 (by decide) ?_
      obtain ⟨r6, hc6, h⟩ := ob h
      refine callRS (As := [.int v4, .int (0 : Int32), .int (99 : Int32)]) (rest := [.int r5]) hC (c_X7_inRange l g (xW ad g I J) v4 (0 : Int32) (99 : Int32) hc6) lk_X7_66 rfl rfl ⟨Nat.le_of_ble_eq_true rfl, Nat.le_of_ble_eq_true rfl⟩ hP hK rfl rfl hl (Nat.le_of_ble_eq_true rfl) dX7_less_44 ?_
      obtain ⟨r7, hc7, h⟩ := ob h
      refine callRS (As := [.int r5, .int r6]) (rest := []) hC (c_X7_first l g (xW ad g I J) r5 r6 hc7) lk_X7_161 rfl rfl ⟨Nat.le_of_ble_eq_true rfl, Nat.le_of_ble_eq_true rfl⟩ hP hK rfl rfl hl (Nat.le_of_ble_eq_true rfl) dX7_less_47 ?_
      refine lv_istore (lv' := [(6, .int r7), (5, .ref (ad t1)), (0, .ref (ad 59)), (1, .int v1), (2, .int v2), (3, .int v3), (4, .int v4)]) hx hb dX7_less_50 hl (by decide) rfl (fun ls hl => ?_)
      refine lv_iload hx hb dX7_less_52 (lv_at hl 0 rfl) ?_
      refine lv_if_eq (tgt := 64) hx hb dX7_less_54 (by decide) (fun c8 => ?_) (fun c8 => ?_)
      · replace h := (if_pos c8).symm.trans h
        refine lv_aload_n hx hb dX7_less_64 rfl (lv_at hl 2 rfl) ?_
        refine gt_X7_34 hC hK hP dX7_less_65 ?_
        refine lv_iconst (v := 0) hx hb dX7_less_68 (by decide) ?_
        refine lv_iconst (v := 0) hx hb dX7_less_69 (by decide) ?_
        refine lv_iconst (v := 0) hx hb dX7_less_70 (by decide) ?_
        obtain ⟨⟨I9, J9⟩, hc9, h⟩ := ob h
        dsimp only at h
        refine callWVv (As := [.int (0 : Int32), .int (0 : Int32), .int (0 : Int32)]) (rest := []) hC (c_X4_lay l g ad I J (0 : Int32) (0 : Int32) (0 : Int32)  H.size hc9) lk_X7_135 rfl rfl ⟨Nat.le_of_ble_eq_true rfl, Nat.le_of_ble_eq_true rfl⟩ hP hK hD hA hS xo_47 rfl rfl rfl hl (Nat.le_of_ble_eq_true rfl) dX7_less_71 (fun H locs hP hD hS => ?_)
        refine lv_aload_n hx hb dX7_less_74 rfl (lv_at hl 2 rfl) ?_
        refine gt_X7_41 hC hK hP dX7_less_75 ?_
        refine lv_aload_n hx hb dX7_less_78 rfl (lv_at hl 2 rfl) ?_
        refine gt_X7_34 hC hK hP dX7_less_79 ?_
        refine lv_aload hx hb dX7_less_82 (lv_at hl 1 rfl) ?_
        refine lv_iload_n hx hb dX7_less_84 rfl (lv_at hl 4 rfl) ?_
        refine lv_iload hx hb dX7_less_85 (lv_at hl 6 rfl) ?_
        obtain ⟨⟨I10, J10⟩, hc10, h⟩ := ob h
        dsimp only at h
        refine callWVv (As := [.ref (ad 47), .ref (ad t1), .int v2, .int v4]) (rest := []) hC (c_X3_lay l g ad I9 J9 t1 v2 v4 hTt1 H.size hc10) lk_X7_232 rfl rfl ⟨Nat.le_of_ble_eq_true rfl, Nat.le_of_ble_eq_true rfl⟩ hP hK hD hA hS xo_52 rfl rfl rfl hl (Nat.le_of_ble_eq_true rfl) dX7_less_87 (fun H locs hP hD hS => ?_)
        refine lv_aload_n hx hb dX7_less_90 rfl (lv_at hl 2 rfl) ?_
        refine gt_X7_41 hC hK hP dX7_less_91 ?_
        refine lv_iload_n hx hb dX7_less_94 rfl (lv_at hl 5 rfl) ?_
        obtain ⟨r11, hc11, h⟩ := ob h
        refine callRV (As := [.int v3]) (rest := []) hC (c_X3_bestLess l g ad I10 J10 v3  hc11) lk_X7_235 rfl rfl ⟨Nat.le_of_ble_eq_true rfl, Nat.le_of_ble_eq_true rfl⟩ hP hK xo_52 rfl rfl rfl hl (Nat.le_of_ble_eq_true rfl) dX7_less_95 ?_
        obtain ⟨h1, h⟩ := Prod.mk.inj (Option.some.inj h)
        obtain ⟨rfl, rfl⟩ := Prod.mk.inj h
        exact hret _ _ _ _ _ dX7_less_98 h1 hP hD hS
      · replace h := (if_neg c8).symm.trans h
        refine lv_aload_n hx hb dX7_less_57 rfl (lv_at hl 2 rfl) ?_
        refine lv_iload hx hb dX7_less_58 (lv_at hl 0 rfl) ?_
        obtain ⟨⟨r12, I12, J12⟩, hc12, h⟩ := ob h
        dsimp only at h
        refine callWVi (As := [.int r7]) (rest := []) hC (c_X7_refuse l g ad I J r7  H.size hc12) lk_X7_74 rfl rfl ⟨Nat.le_of_ble_eq_true rfl, Nat.le_of_ble_eq_true rfl⟩ hP hK hD hA hS xo_59 rfl rfl rfl hl (Nat.le_of_ble_eq_true rfl) dX7_less_60 (fun H locs hP hD hS => ?_)
        obtain ⟨h1, h⟩ := Prod.mk.inj (Option.some.inj h)
        obtain ⟨rfl, rfl⟩ := Prod.mk.inj h
        exact hret _ _ _ _ _ dX7_less_63 h1 hP hD hS
    · replace h := (if_pos c4).symm.trans h
      refine lv_aload_n hx hb dX7_less_26 rfl (lv_at hl 1 rfl) ?_
      refine lv_iconst (v := -1) hx hb dX7_less_27 (by decide) ?_
      obtain ⟨⟨r13, I13, J13⟩, hc13, h⟩ := ob h
      dsimp only at h
      refine callWVi (As := [.int (-1 : Int32)]) (rest := []) hC (c_X7_refuse l g ad I J (-1 : Int32)  H.size hc13) lk_X7_74 rfl rfl ⟨Nat.le_of_ble_eq_true rfl, Nat.le_of_ble_eq_true rfl⟩ hP hK hD hA hS xo_59 rfl rfl rfl hl (Nat.le_of_ble_eq_true rfl) dX7_less_28 (fun H locs hP hD hS => ?_)
      obtain ⟨h1, h⟩ := Prod.mk.inj (Option.some.inj h)
      obtain ⟨rfl, rfl⟩ := Prod.mk.inj h
      exact hret _ _ _ _ _ dX7_less_31 h1 hP hD hS
def FL_X7_looks_81  : Nat → SI → SJ → Int32 → Option (Int32 × SI × SJ)
  | 0, _, _, _ => none
  | n + 1, I, J, w6_81 => (if (100 : Int32) < w6_81 then (some ((-9 : Int32), I, J)) else ((F_X3_bestLess I J w6_81).bind fun r10 => (if r10 = 0 then (some (w6_81, I, J)) else (FL_X7_looks_81 n I J (w6_81 + 1)))))
def F_X7_looks (I : SI) (J : SJ) (v1 : Int32) (v2 : Int32) (v3 : Int32) : Option (Int32 × SI × SJ) := ((F_X1_termAt 0 I J v1).bind fun r1 => (match r1 with | none => ((F_X7_refuse I J (-1 : Int32)).bind fun (r2, I2, J2) => (some (r2, I2, J2))) | some t1 => ((F_X1_hasPains 0 I J v2).bind fun r3 => (if r3 = 0 then ((F_X7_refuse I J (-1 : Int32)).bind fun (r13, I13, J13) => (some (r13, I13, J13))) else ((F_X7_inRange v3 (0 : Int32) (99 : Int32)).bind fun r5 => (if r5 = 0 then ((F_X4_lay I J (0 : Int32) (0 : Int32) (0 : Int32)).bind fun (I7, J7) => ((F_X3_lay t1 I7 J7 v2 v3).bind fun (I8, J8) => (FL_X7_looks_81 3000 I8 J8 (0 : Int32)))) else ((F_X7_refuse I J r5).bind fun (r12, I12, J12) => (some (r12, I12, J12)))))))))
set_option maxHeartbeats 4000000 in
set_option maxRecDepth 100000 in
theorem c_X7_looks (l : Launch) (g : Gx) (ad : Nat → Nat) (I : SI) (J : SJ) (v1 : Int32) (v2 : Int32) (v3 : Int32)  (sz : Nat) {r : Int32} {rI : SI} {rJ : SJ} (h : F_X7_looks I J v1 v2 v3 = some (r, rI, rJ)) : Met l yX7_looks (Cond.code yX7_looks cX7_looks 7 (some .int) :: BG) (k2_rm 5 129) (PcW [.ref (ad 59), .int v1, .int v2, .int v3] g (xW ad g I J) sz) (QWi r g (xW ad g I J) (xW ad g rI rJ) sz) 0 0 (va_A (xW ad g I J) sz) := by
  refine mkWi (by decide) (Nat.le_of_ble_eq_true rfl) ?_
  intro p e s m args below meth c H locs ls A Q hC hK hP hD hA hS hl hret
  have hx := hC.1
  have hb := hC.2.1
  have hts := hC.2.2.2.2
  have hown := hC.2.2.2.1
  replace hl : lv_has ls 7 [(0, .ref (ad 59)), (1, .int v1), (2, .int v2), (3, .int v3)] := hl
  have loop_81 : ∀ (n : Nat) (I : SI) (J : SJ) (w6_81 : Int32)  (H : Heap) (locs : List Loc) (ls : Array Slot), FL_X7_looks_81 n I J w6_81 = some (r, rI, rJ) → Pg g (xW ad g I J) H → va_D A (xW ad g I J) → va_S A s.heap H locs → lv_has ls 7 [(0, .ref (ad 59)), (6, .int w6_81)] → W p l e (k2_rm 5 129) s m args below meth c H locs 0 0 Q (F0 m 81 ls []) := by
    intro n
    induction n with
    | zero =>
      intro I J w6_81 H locs ls h
      exact no h
    | succ n ih =>
      intro I J w6_81 H locs ls h hP hD hS hl
      rw [FL_X7_looks_81] at h
      refine lv_iload hx hb dX7_looks_81 (lv_at hl 1 rfl) ?_
      refine lv_bipush (v := 100) hx hb dX7_looks_83 (by decide) ?_
      refine lv_icmp_gt (tgt := 109) hx hb dX7_looks_85 (by decide) (fun c9 => ?_) (fun c9 => ?_)
      · replace h := (if_pos c9).symm.trans h
        refine lv_bipush (v := -9) hx hb dX7_looks_109 (by decide) ?_
        obtain ⟨h1, h⟩ := Prod.mk.inj (Option.some.inj h)
        obtain ⟨rfl, rfl⟩ := Prod.mk.inj h
        exact hret _ _ _ _ _ dX7_looks_111 h1 hP hD hS
      · replace h := (if_neg c9).symm.trans h
        refine lv_aload_n hx hb dX7_looks_88 rfl (lv_at hl 0 rfl) ?_
        refine gt_X7_41 hC hK hP dX7_looks_89 ?_
        refine lv_iload hx hb dX7_looks_92 (lv_at hl 1 rfl) ?_
        obtain ⟨r10, hc10, h⟩ := ob h
        refine callRV (As := [.int w6_81]) (rest := []) hC (c_X3_bestLess l g ad I J w6_81  hc10) lk_X7_235 rfl rfl ⟨Nat.le_of_ble_eq_true rfl, Nat.le_of_ble_eq_true rfl⟩ hP hK xo_52 rfl rfl rfl hl (Nat.le_of_ble_eq_true rfl) dX7_looks_94 ?_
        refine lv_if_ne (tgt := 103) hx hb dX7_looks_97 (by decide) (fun c11 => ?_) (fun c11 => ?_)
        · replace h := (if_neg c11).symm.trans h
          refine lv_iinc (v := (w6_81 + 1)) (lv' := [(6, .int (w6_81 + 1)), (0, .ref (ad 59))]) hx hb dX7_looks_103 hl (k := 1) rfl rfl (by decide) rfl (fun ls hl => ?_)
          refine lv_goto (tgt := 81) hx hb dX7_looks_106 (by decide) ?_
          exact ih I J (w6_81 + 1) _ _ _ h hP hD hS (lv_sub hl [1, 0] rfl)
        · replace h := (if_pos c11).symm.trans h
          refine lv_iload hx hb dX7_looks_100 (lv_at hl 1 rfl) ?_
          obtain ⟨h1, h⟩ := Prod.mk.inj (Option.some.inj h)
          obtain ⟨rfl, rfl⟩ := Prod.mk.inj h
          exact hret _ _ _ _ _ dX7_looks_102 h1 hP hD hS
  unfold F_X7_looks at h
  refine lv_aload_n hx hb dX7_looks_0 rfl (lv_at hl 0 rfl) ?_
  refine gt_X7_10 hC hK hP dX7_looks_1 ?_
  refine lv_iload_n hx hb dX7_looks_4 rfl (lv_at hl 1 rfl) ?_
  obtain ⟨r1, hc1, h⟩ := ob h
  rcases r1 with _ | t1
  · refine callRV (As := [.int v1]) (rest := []) hC (c_X1_termAt l g ad I J 0 v1 (Or.inl rfl) hc1) lk_X7_106 rfl rfl ⟨Nat.le_of_ble_eq_true rfl, Nat.le_of_ble_eq_true rfl⟩ hP hK (xEo (Or.inl rfl)) rfl rfl rfl hl (Nat.le_of_ble_eq_true rfl) dX7_looks_5 ?_
    refine lv_astoreN (lv' := [(4, .null), (0, .ref (ad 59)), (1, .int v1), (2, .int v2), (3, .int v3)]) hx hb dX7_looks_8 hl (by decide) rfl (fun ls hl => ?_)
    refine lv_aloadN hx hb dX7_looks_10 (lv_at hl 0 rfl) ?_
    refine lv_ifnullN (tgt := 26) hx hb dX7_looks_12 (by decide) ?_
    refine lv_aload_n hx hb dX7_looks_26 rfl (lv_at hl 1 rfl) ?_
    refine lv_iconst (v := -1) hx hb dX7_looks_27 (by decide) ?_
    obtain ⟨⟨r2, I2, J2⟩, hc2, h⟩ := ob h
    dsimp only at h
    refine callWVi (As := [.int (-1 : Int32)]) (rest := []) hC (c_X7_refuse l g ad I J (-1 : Int32)  H.size hc2) lk_X7_74 rfl rfl ⟨Nat.le_of_ble_eq_true rfl, Nat.le_of_ble_eq_true rfl⟩ hP hK hD hA hS xo_59 rfl rfl rfl hl (Nat.le_of_ble_eq_true rfl) dX7_looks_28 (fun H locs hP hD hS => ?_)
    obtain ⟨h1, h⟩ := Prod.mk.inj (Option.some.inj h)
    obtain ⟨rfl, rfl⟩ := Prod.mk.inj h
    exact hret _ _ _ _ _ dX7_looks_31 h1 hP hD hS
  · have hTt1 : isT t1 := termAt_isT (Or.inl rfl) hc1
    refine callRV (As := [.int v1]) (rest := []) hC (c_X1_termAt l g ad I J 0 v1 (Or.inl rfl) hc1) lk_X7_106 rfl rfl ⟨Nat.le_of_ble_eq_true rfl, Nat.le_of_ble_eq_true rfl⟩ hP hK (xEo (Or.inl rfl)) rfl rfl rfl hl (Nat.le_of_ble_eq_true rfl) dX7_looks_5 ?_
    refine lv_astore (lv' := [(4, .ref (ad t1)), (0, .ref (ad 59)), (1, .int v1), (2, .int v2), (3, .int v3)]) hx hb dX7_looks_8 hl (by decide) rfl (fun ls hl => ?_)
    refine lv_aload hx hb dX7_looks_10 (lv_at hl 0 rfl) ?_
    refine lv_ifnull hx hb dX7_looks_12 ?_
    refine lv_aload_n hx hb dX7_looks_15 rfl (lv_at hl 1 rfl) ?_
    refine gt_X7_10 hC hK hP dX7_looks_16 ?_
    refine lv_iload_n hx hb dX7_looks_19 rfl (lv_at hl 3 rfl) ?_
    obtain ⟨r3, hc3, h⟩ := ob h
    refine callRV (As := [.int v2]) (rest := []) hC (c_X1_hasPains l g ad I J 0 v2 (Or.inl rfl) hc3) lk_X7_148 rfl rfl ⟨Nat.le_of_ble_eq_true rfl, Nat.le_of_ble_eq_true rfl⟩ hP hK (xEo (Or.inl rfl)) rfl rfl rfl hl (Nat.le_of_ble_eq_true rfl) dX7_looks_20 ?_
    refine lv_if_ne (tgt := 32) hx hb dX7_looks_23 (by decide) (fun c4 => ?_) (fun c4 => ?_)
    · replace h := (if_neg c4).symm.trans h
      refine lv_iload_n hx hb dX7_looks_32 rfl (lv_at hl 4 rfl) ?_
      refine lv_iconst (v := 0) hx hb dX7_looks_33 (by decide) ?_
      refine lv_bipush (v := 99) hx hb dX7_looks_34 (by decide) ?_
      obtain ⟨r5, hc5, h⟩ := ob h
      refine callRS (As := [.int v3, .int (0 : Int32), .int (99 : Int32)]) (rest := []) hC (c_X7_inRange l g (xW ad g I J) v3 (0 : Int32) (99 : Int32) hc5) lk_X7_66 rfl rfl ⟨Nat.le_of_ble_eq_true rfl, Nat.le_of_ble_eq_true rfl⟩ hP hK rfl rfl hl (Nat.le_of_ble_eq_true rfl) dX7_looks_36 ?_
      refine lv_istore (lv' := [(5, .int r5), (4, .ref (ad t1)), (0, .ref (ad 59)), (1, .int v1), (2, .int v2), (3, .int v3)]) hx hb dX7_looks_39 hl (by decide) rfl (fun ls hl => ?_)
      refine lv_iload hx hb dX7_looks_41 (lv_at hl 0 rfl) ?_
      refine lv_if_eq (tgt := 53) hx hb dX7_looks_43 (by decide) (fun c6 => ?_) (fun c6 => ?_)
      · replace h := (if_pos c6).symm.trans h
        refine lv_aload_n hx hb dX7_looks_53 rfl (lv_at hl 2 rfl) ?_
        refine gt_X7_34 hC hK hP dX7_looks_54 ?_
        refine lv_iconst (v := 0) hx hb dX7_looks_57 (by decide) ?_
        refine lv_iconst (v := 0) hx hb dX7_looks_58 (by decide) ?_
        refine lv_iconst (v := 0) hx hb dX7_looks_59 (by decide) ?_
        obtain ⟨⟨I7, J7⟩, hc7, h⟩ := ob h
        dsimp only at h
        refine callWVv (As := [.int (0 : Int32), .int (0 : Int32), .int (0 : Int32)]) (rest := []) hC (c_X4_lay l g ad I J (0 : Int32) (0 : Int32) (0 : Int32)  H.size hc7) lk_X7_135 rfl rfl ⟨Nat.le_of_ble_eq_true rfl, Nat.le_of_ble_eq_true rfl⟩ hP hK hD hA hS xo_47 rfl rfl rfl hl (Nat.le_of_ble_eq_true rfl) dX7_looks_60 (fun H locs hP hD hS => ?_)
        refine lv_aload_n hx hb dX7_looks_63 rfl (lv_at hl 2 rfl) ?_
        refine gt_X7_41 hC hK hP dX7_looks_64 ?_
        refine lv_aload_n hx hb dX7_looks_67 rfl (lv_at hl 2 rfl) ?_
        refine gt_X7_34 hC hK hP dX7_looks_68 ?_
        refine lv_aload hx hb dX7_looks_71 (lv_at hl 1 rfl) ?_
        refine lv_iload_n hx hb dX7_looks_73 rfl (lv_at hl 4 rfl) ?_
        refine lv_iload_n hx hb dX7_looks_74 rfl (lv_at hl 5 rfl) ?_
        obtain ⟨⟨I8, J8⟩, hc8, h⟩ := ob h
        dsimp only at h
        refine callWVv (As := [.ref (ad 47), .ref (ad t1), .int v2, .int v3]) (rest := []) hC (c_X3_lay l g ad I7 J7 t1 v2 v3 hTt1 H.size hc8) lk_X7_232 rfl rfl ⟨Nat.le_of_ble_eq_true rfl, Nat.le_of_ble_eq_true rfl⟩ hP hK hD hA hS xo_52 rfl rfl rfl hl (Nat.le_of_ble_eq_true rfl) dX7_looks_75 (fun H locs hP hD hS => ?_)
        refine lv_iconst (v := 0) hx hb dX7_looks_78 (by decide) ?_
        refine lv_istore (lv' := [(6, .int (0 : Int32)), (5, .int r5), (4, .ref (ad t1)), (0, .ref (ad 59)), (1, .int v1), (2, .int v2), (3, .int v3)]) hx hb dX7_looks_79 hl (by decide) rfl (fun ls hl => ?_)
        exact loop_81 3000 I8 J8 (0 : Int32) _ _ _ h hP hD hS (lv_sub hl [3, 0] rfl)
      · replace h := (if_neg c6).symm.trans h
        refine lv_aload_n hx hb dX7_looks_46 rfl (lv_at hl 2 rfl) ?_
        refine lv_iload hx hb dX7_looks_47 (lv_at hl 0 rfl) ?_
        obtain ⟨⟨r12, I12, J12⟩, hc12, h⟩ := ob h
        dsimp only at h
        refine callWVi (As := [.int r5]) (rest := []) hC (c_X7_refuse l g ad I J r5  H.size hc12) lk_X7_74 rfl rfl ⟨Nat.le_of_ble_eq_true rfl, Nat.le_of_ble_eq_true rfl⟩ hP hK hD hA hS xo_59 rfl rfl rfl hl (Nat.le_of_ble_eq_true rfl) dX7_looks_49 (fun H locs hP hD hS => ?_)
        obtain ⟨h1, h⟩ := Prod.mk.inj (Option.some.inj h)
        obtain ⟨rfl, rfl⟩ := Prod.mk.inj h
        exact hret _ _ _ _ _ dX7_looks_52 h1 hP hD hS
    · replace h := (if_pos c4).symm.trans h
      refine lv_aload_n hx hb dX7_looks_26 rfl (lv_at hl 1 rfl) ?_
      refine lv_iconst (v := -1) hx hb dX7_looks_27 (by decide) ?_
      obtain ⟨⟨r13, I13, J13⟩, hc13, h⟩ := ob h
      dsimp only at h
      refine callWVi (As := [.int (-1 : Int32)]) (rest := []) hC (c_X7_refuse l g ad I J (-1 : Int32)  H.size hc13) lk_X7_74 rfl rfl ⟨Nat.le_of_ble_eq_true rfl, Nat.le_of_ble_eq_true rfl⟩ hP hK hD hA hS xo_59 rfl rfl rfl hl (Nat.le_of_ble_eq_true rfl) dX7_looks_28 (fun H locs hP hD hS => ?_)
      obtain ⟨h1, h⟩ := Prod.mk.inj (Option.some.inj h)
      obtain ⟨rfl, rfl⟩ := Prod.mk.inj h
      exact hret _ _ _ _ _ dX7_looks_31 h1 hP hD hS
