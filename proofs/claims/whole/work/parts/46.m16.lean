def FL_X8_bestLess_16  : Nat → SI → SJ → Int32 → Int32 → Int32 → Int32 → Int64 → Int32 → Option (Int32)
  | 0, _, _, _, _, _, _, _, _ => none
  | n + 1, I, J, w1_16, w2_16, w3_16, w4_16, w5_16, w7_16 => (if (20 : Int32) < w7_16 then (some w4_16) else ((F_X8_worthSaying I J w1_16 w7_16 w2_16 w3_16).bind fun r3 => (if w5_16 < r3 then (FL_X8_bestLess_16 n I J w1_16 w2_16 w3_16 w7_16 r3 (w7_16 + 1)) else (FL_X8_bestLess_16 n I J w1_16 w2_16 w3_16 w4_16 w5_16 (w7_16 + 1)))))
def F_X8_bestLess (I : SI) (J : SJ) (v1 : Int32) (v2 : Int32) (v3 : Int32) : Option (Int32) := ((F_X8_worthSaying I J v1 (0 : Int32) v2 v3).bind fun r1 => (FL_X8_bestLess_16 3000 I J v1 v2 v3 (0 : Int32) r1 (1 : Int32)))
set_option maxHeartbeats 4000000 in
set_option maxRecDepth 100000 in
theorem c_X8_bestLess (l : Launch) (g : Gx) (ad : Nat → Nat) (I : SI) (J : SJ) (v1 : Int32) (v2 : Int32) (v3 : Int32)  {r : Int32} (h : F_X8_bestLess I J v1 v2 v3 = some r) : Met l yX8_bestLess (Cond.code yX8_bestLess cX8_bestLess 10 (some .int) :: BG) (k2_rm 3 79) (va_Pc [.ref (ad 0), .int v1, .int v2, .int v3] (fun U => Pg g (mW ad g I J) U.heap ∧ Kg g U)) (k2_QcV (.int r)) 0 0 (fun _ => False) := by
  refine mkRi (by decide) (Nat.le_of_ble_eq_true rfl) ?_
  intro p e s m args below meth c H locs ls Q hC hK hP hl hret
  have hx := hC.1
  have hb := hC.2.1
  have hts := hC.2.2.2.2
  have hown := hC.2.2.2.1
  replace hl : lv_has ls 10 [(0, .ref (ad 0)), (1, .int v1), (2, .int v2), (3, .int v3)] := hl
  have loop_16 : ∀ (n : Nat) (w1_16 : Int32) (w2_16 : Int32) (w3_16 : Int32) (w4_16 : Int32) (w5_16 : Int64) (w7_16 : Int32)  (ls : Array Slot), FL_X8_bestLess_16 n I J w1_16 w2_16 w3_16 w4_16 w5_16 w7_16 = some r → lv_has ls 10 [(0, .ref (ad 0)), (1, .int w1_16), (2, .int w2_16), (3, .int w3_16), (4, .int w4_16), (5, .long w5_16), (7, .int w7_16)] → W p l e (k2_rm 3 79) s m args below meth c H locs 0 0 Q (F0 m 16 ls []) := by
    intro n
    induction n with
    | zero =>
      intro w1_16 w2_16 w3_16 w4_16 w5_16 w7_16 ls h
      exact no h
    | succ n ih =>
      intro w1_16 w2_16 w3_16 w4_16 w5_16 w7_16 ls h hl
      rw [FL_X8_bestLess_16] at h
      refine lv_iload hx hb dX8_bestLess_16 (lv_at hl 6 rfl) ?_
      refine lv_bipush (v := 20) hx hb dX8_bestLess_18 (by decide) ?_
      refine lv_icmp_gt (tgt := 59) hx hb dX8_bestLess_20 (by decide) (fun c2 => ?_) (fun c2 => ?_)
      · replace h := (if_pos c2).symm.trans h
        refine lv_iload hx hb dX8_bestLess_59 (lv_at hl 4 rfl) ?_
        exact hret _ _ _ dX8_bestLess_61 (Option.some.inj h)
      · replace h := (if_neg c2).symm.trans h
        refine lv_aload_n hx hb dX8_bestLess_23 rfl (lv_at hl 0 rfl) ?_
        refine lv_iload_n hx hb dX8_bestLess_24 rfl (lv_at hl 1 rfl) ?_
        refine lv_iload hx hb dX8_bestLess_25 (lv_at hl 6 rfl) ?_
        refine lv_iload_n hx hb dX8_bestLess_27 rfl (lv_at hl 2 rfl) ?_
        refine lv_iload_n hx hb dX8_bestLess_28 rfl (lv_at hl 3 rfl) ?_
        obtain ⟨r3, hc3, h⟩ := ob h
        refine callRV (As := [.int w1_16, .int w7_16, .int w2_16, .int w3_16]) (rest := []) hC (c_X8_worthSaying l g ad I J w1_16 w7_16 w2_16 w3_16  hc3) lk_X8_247 rfl rfl ⟨Nat.le_of_ble_eq_true rfl, Nat.le_of_ble_eq_true rfl⟩ hP hK mo_0 rfl rfl rfl hl (Nat.le_of_ble_eq_true rfl) dX8_bestLess_29 ?_
        refine lv_lstore (lv' := [(8, .long r3), (0, .ref (ad 0)), (1, .int w1_16), (2, .int w2_16), (3, .int w3_16), (4, .int w4_16), (5, .long w5_16), (7, .int w7_16)]) hx hb dX8_bestLess_32 hl (by decide) rfl (fun ls hl => ?_)
        refine lv_lload hx hb dX8_bestLess_34 (lv_at hl 0 rfl) ?_
        refine lv_lload hx hb dX8_bestLess_36 (lv_at hl 6 rfl) ?_
        refine W.lcmp hx hb dX8_bestLess_38 ?_
        refine lv_if_gt (tgt := 45) hx hb dX8_bestLess_39 (by decide) (fun c4 => ?_) (fun c4 => ?_)
        · replace h := (if_pos ((lg_cmp_gt _ _).mp c4)).symm.trans h
          refine lv_lload hx hb dX8_bestLess_45 (lv_at hl 0 rfl) ?_
          refine lv_lstore (lv' := [(5, .long r3), (8, .long r3), (0, .ref (ad 0)), (1, .int w1_16), (2, .int w2_16), (3, .int w3_16), (4, .int w4_16), (7, .int w7_16)]) hx hb dX8_bestLess_47 hl (by decide) rfl (fun ls hl => ?_)
          refine lv_iload hx hb dX8_bestLess_49 (lv_at hl 7 rfl) ?_
          refine lv_istore (lv' := [(4, .int w7_16), (5, .long r3), (8, .long r3), (0, .ref (ad 0)), (1, .int w1_16), (2, .int w2_16), (3, .int w3_16), (7, .int w7_16)]) hx hb dX8_bestLess_51 hl (by decide) rfl (fun ls hl => ?_)
          refine lv_iinc (v := (w7_16 + 1)) (lv' := [(7, .int (w7_16 + 1)), (4, .int w7_16), (5, .long r3), (8, .long r3), (0, .ref (ad 0)), (1, .int w1_16), (2, .int w2_16), (3, .int w3_16)]) hx hb dX8_bestLess_53 hl (k := 7) rfl rfl (by decide) rfl (fun ls hl => ?_)
          refine lv_goto (tgt := 16) hx hb dX8_bestLess_56 (by decide) ?_
          exact ih w1_16 w2_16 w3_16 w7_16 r3 (w7_16 + 1) _ h (lv_sub hl [4, 5, 6, 7, 1, 2, 0] rfl)
        · replace h := (if_neg (fun hh => c4 ((lg_cmp_gt _ _).mpr hh))).symm.trans h
          refine lv_goto (tgt := 53) hx hb dX8_bestLess_42 (by decide) ?_
          refine lv_iinc (v := (w7_16 + 1)) (lv' := [(7, .int (w7_16 + 1)), (8, .long r3), (0, .ref (ad 0)), (1, .int w1_16), (2, .int w2_16), (3, .int w3_16), (4, .int w4_16), (5, .long w5_16)]) hx hb dX8_bestLess_53 hl (k := 7) rfl rfl (by decide) rfl (fun ls hl => ?_)
          refine lv_goto (tgt := 16) hx hb dX8_bestLess_56 (by decide) ?_
          exact ih w1_16 w2_16 w3_16 w4_16 w5_16 (w7_16 + 1) _ h (lv_sub hl [2, 3, 4, 5, 6, 7, 0] rfl)
  unfold F_X8_bestLess at h
  refine lv_iconst (v := 0) hx hb dX8_bestLess_0 (by decide) ?_
  refine lv_istore (lv' := [(4, .int (0 : Int32)), (0, .ref (ad 0)), (1, .int v1), (2, .int v2), (3, .int v3)]) hx hb dX8_bestLess_1 hl (by decide) rfl (fun ls hl => ?_)
  refine lv_aload_n hx hb dX8_bestLess_3 rfl (lv_at hl 1 rfl) ?_
  refine lv_iload_n hx hb dX8_bestLess_4 rfl (lv_at hl 2 rfl) ?_
  refine lv_iconst (v := 0) hx hb dX8_bestLess_5 (by decide) ?_
  refine lv_iload_n hx hb dX8_bestLess_6 rfl (lv_at hl 3 rfl) ?_
  refine lv_iload_n hx hb dX8_bestLess_7 rfl (lv_at hl 4 rfl) ?_
  obtain ⟨r1, hc1, h⟩ := ob h
  refine callRV (As := [.int v1, .int (0 : Int32), .int v2, .int v3]) (rest := []) hC (c_X8_worthSaying l g ad I J v1 (0 : Int32) v2 v3  hc1) lk_X8_247 rfl rfl ⟨Nat.le_of_ble_eq_true rfl, Nat.le_of_ble_eq_true rfl⟩ hP hK mo_0 rfl rfl rfl hl (Nat.le_of_ble_eq_true rfl) dX8_bestLess_8 ?_
  refine lv_lstore (lv' := [(5, .long r1), (4, .int (0 : Int32)), (0, .ref (ad 0)), (1, .int v1), (2, .int v2), (3, .int v3)]) hx hb dX8_bestLess_11 hl (by decide) rfl (fun ls hl => ?_)
  refine lv_iconst (v := 1) hx hb dX8_bestLess_13 (by decide) ?_
  refine lv_istore (lv' := [(7, .int (1 : Int32)), (5, .long r1), (4, .int (0 : Int32)), (0, .ref (ad 0)), (1, .int v1), (2, .int v2), (3, .int v3)]) hx hb dX8_bestLess_14 hl (by decide) rfl (fun ls hl => ?_)
  exact loop_16 3000 v1 v2 v3 (0 : Int32) r1 (1 : Int32) _ h (lv_sub hl [3, 4, 5, 6, 2, 1, 0] rfl)
def F_X8_isPains (I : SI) (J : SJ) (v1 : Int32) (v2 : Int32) : Option (Int32) := ((F_X8_isTerm I J v1).bind fun r1 => (if r1 = 0 then (some (0 : Int32)) else ((F_X8_isIn v2 (0 : Int32) (I 0 7)).bind fun r3 => (if r3 = 0 then (some (0 : Int32)) else (some (1 : Int32))))))
set_option maxHeartbeats 4000000 in
set_option maxRecDepth 100000 in
theorem c_X8_isPains (l : Launch) (g : Gx) (ad : Nat → Nat) (I : SI) (J : SJ) (v1 : Int32) (v2 : Int32)  {r : Int32} (h : F_X8_isPains I J v1 v2 = some r) : Met l yX8_isPains (Cond.code yX8_isPains cX8_isPains 3 (some .boolean) :: BG) (k2_rm 1 22) (va_Pc [.ref (ad 0), .int v1, .int v2] (fun U => Pg g (mW ad g I J) U.heap ∧ Kg g U)) (k2_QcV (.int r)) 0 0 (fun _ => False) := by
  refine mkRz (by decide) (Nat.le_of_ble_eq_true rfl) ?_
  intro p e s m args below meth c H locs ls Q hC hK hP hl hret
  have hx := hC.1
  have hb := hC.2.1
  have hts := hC.2.2.2.2
  have hown := hC.2.2.2.1
  replace hl : lv_has ls 3 [(0, .ref (ad 0)), (1, .int v1), (2, .int v2)] := hl
  unfold F_X8_isPains at h
  refine lv_aload_n hx hb dX8_isPains_0 rfl (lv_at hl 0 rfl) ?_
  refine lv_iload_n hx hb dX8_isPains_1 rfl (lv_at hl 1 rfl) ?_
  obtain ⟨r1, hc1, h⟩ := ob h
  refine callRV (As := [.int v1]) (rest := []) hC (c_X8_isTerm l g ad I J v1  hc1) lk_X8_155 rfl rfl ⟨Nat.le_of_ble_eq_true rfl, Nat.le_of_ble_eq_true rfl⟩ hP hK mo_0 rfl rfl rfl hl (Nat.le_of_ble_eq_true rfl) dX8_isPains_2 ?_
  refine lv_if_eq (tgt := 24) hx hb dX8_isPains_5 (by decide) (fun c2 => ?_) (fun c2 => ?_)
  · replace h := (if_pos c2).symm.trans h
    refine lv_iconst (v := 0) hx hb dX8_isPains_24 (by decide) ?_
    exact hret _ _ _ dX8_isPains_25 rfl (Option.some.inj h)
  · replace h := (if_neg c2).symm.trans h
    refine lv_iload_n hx hb dX8_isPains_8 rfl (lv_at hl 2 rfl) ?_
    refine lv_iconst (v := 0) hx hb dX8_isPains_9 (by decide) ?_
    refine lv_aload_n hx hb dX8_isPains_10 rfl (lv_at hl 0 rfl) ?_
    refine gt_X8_125 hC hK hP dX8_isPains_11 ?_
    obtain ⟨r3, hc3, h⟩ := ob h
    refine callRS (As := [.int v2, .int (0 : Int32), .int (I 0 7)]) (rest := []) hC (c_X8_isIn l g (mW ad g I J) v2 (0 : Int32) (I 0 7) hc3) lk_X8_104 rfl rfl ⟨Nat.le_of_ble_eq_true rfl, Nat.le_of_ble_eq_true rfl⟩ hP hK rfl rfl hl (Nat.le_of_ble_eq_true rfl) dX8_isPains_14 ?_
    refine lv_if_eq (tgt := 24) hx hb dX8_isPains_17 (by decide) (fun c4 => ?_) (fun c4 => ?_)
    · replace h := (if_pos c4).symm.trans h
      refine lv_iconst (v := 0) hx hb dX8_isPains_24 (by decide) ?_
      exact hret _ _ _ dX8_isPains_25 rfl (Option.some.inj h)
    · replace h := (if_neg c4).symm.trans h
      refine lv_iconst (v := 1) hx hb dX8_isPains_20 (by decide) ?_
      refine lv_goto (tgt := 25) hx hb dX8_isPains_21 (by decide) ?_
      exact hret _ _ _ dX8_isPains_25 rfl (Option.some.inj h)
def F_X8_less (I : SI) (J : SJ) (v1 : Int32) (v2 : Int32) (v3 : Int32) (v4 : Int32) : Option (Int32 × SI × SJ) := ((F_X8_isPains I J v1 v2).bind fun r1 => (if r1 = 0 then ((F_X8_no I J (-1 : Int32)).bind fun (r24, I24, J24) => (some (r24, I24, J24))) else (if v3 < 0 then (if (-4 : Int32) = 0 then ((F_X8_takesTerm I J v1).bind fun (I5, J5) => ((F_X8_bestLess I5 J5 v2 v3 v4).bind fun r6 => (some (r6, I5, J5)))) else ((F_X8_no I J (-4 : Int32)).bind fun (r7, I7, J7) => (some (r7, I7, J7)))) else (if 0 ≤ v4 then (if (100 : Int32) < v3 then (if (-6 : Int32) = 0 then ((F_X8_takesTerm I J v1).bind fun (I11, J11) => ((F_X8_bestLess I11 J11 v2 v3 v4).bind fun r12 => (some (r12, I11, J11)))) else ((F_X8_no I J (-6 : Int32)).bind fun (r13, I13, J13) => (some (r13, I13, J13)))) else (if (if v4 ≤ (99 : Int32) then (0 : Int32) else (-6 : Int32)) = 0 then ((F_X8_takesTerm I J v1).bind fun (I17, J17) => ((F_X8_bestLess I17 J17 v2 v3 v4).bind fun r18 => (some (r18, I17, J17)))) else ((F_X8_no I J (if v4 ≤ (99 : Int32) then (0 : Int32) else (-6 : Int32))).bind fun (r19, I19, J19) => (some (r19, I19, J19))))) else (if (-4 : Int32) = 0 then ((F_X8_takesTerm I J v1).bind fun (I21, J21) => ((F_X8_bestLess I21 J21 v2 v3 v4).bind fun r22 => (some (r22, I21, J21)))) else ((F_X8_no I J (-4 : Int32)).bind fun (r23, I23, J23) => (some (r23, I23, J23))))))))
set_option maxHeartbeats 4000000 in
set_option maxRecDepth 100000 in
theorem c_X8_less (l : Launch) (g : Gx) (ad : Nat → Nat) (I : SI) (J : SJ) (v1 : Int32) (v2 : Int32) (v3 : Int32) (v4 : Int32)  (sz : Nat) {r : Int32} {rI : SI} {rJ : SJ} (h : F_X8_less I J v1 v2 v3 v4 = some (r, rI, rJ)) : Met l yX8_less (Cond.code yX8_less cX8_less 6 (some .int) :: BG) (k2_rm 4 108) (PcW [.ref (ad 0), .int v1, .int v2, .int v3, .int v4] g (mW ad g I J) sz) (QWi r g (mW ad g I J) (mW ad g rI rJ) sz) 0 0 (va_A (mW ad g I J) sz) := by
  refine mkWi (by decide) (Nat.le_of_ble_eq_true rfl) ?_
  intro p e s m args below meth c H locs ls A Q hC hK hP hD hA hS hl hret
  have hx := hC.1
  have hb := hC.2.1
  have hts := hC.2.2.2.2
  have hown := hC.2.2.2.1
  replace hl : lv_has ls 6 [(0, .ref (ad 0)), (1, .int v1), (2, .int v2), (3, .int v3), (4, .int v4)] := hl
  unfold F_X8_less at h
  refine lv_aload_n hx hb dX8_less_0 rfl (lv_at hl 0 rfl) ?_
  refine lv_iload_n hx hb dX8_less_1 rfl (lv_at hl 1 rfl) ?_
  refine lv_iload_n hx hb dX8_less_2 rfl (lv_at hl 2 rfl) ?_
  obtain ⟨r1, hc1, h⟩ := ob h
  refine callRV (As := [.int v1, .int v2]) (rest := []) hC (c_X8_isPains l g ad I J v1 v2  hc1) lk_X8_251 rfl rfl ⟨Nat.le_of_ble_eq_true rfl, Nat.le_of_ble_eq_true rfl⟩ hP hK mo_0 rfl rfl rfl hl (Nat.le_of_ble_eq_true rfl) dX8_less_3 ?_
  refine lv_if_ne (tgt := 15) hx hb dX8_less_6 (by decide) (fun c2 => ?_) (fun c2 => ?_)
  · replace h := (if_neg c2).symm.trans h
    refine lv_iload_n hx hb dX8_less_15 rfl (lv_at hl 3 rfl) ?_
    refine lv_if_lt (tgt := 24) hx hb dX8_less_16 (by decide) (fun c3 => ?_) (fun c3 => ?_)
    · replace h := (if_pos c3).symm.trans h
      refine lv_bipush (v := -4) hx hb dX8_less_24 (by decide) ?_
      refine lv_goto (tgt := 48) hx hb dX8_less_26 (by decide) ?_
      refine lv_istore (lv' := [(5, .int (-4 : Int32)), (0, .ref (ad 0)), (1, .int v1), (2, .int v2), (3, .int v3), (4, .int v4)]) hx hb dX8_less_48 hl (by decide) rfl (fun ls hl => ?_)
      refine lv_iload hx hb dX8_less_50 (lv_at hl 0 rfl) ?_
      refine lv_if_eq (tgt := 62) hx hb dX8_less_52 (by decide) (fun c4 => ?_) (fun c4 => ?_)
      · replace h := (if_pos c4).symm.trans h
        refine lv_aload_n hx hb dX8_less_62 rfl (lv_at hl 1 rfl) ?_
        refine lv_iload_n hx hb dX8_less_63 rfl (lv_at hl 2 rfl) ?_
        obtain ⟨⟨I5, J5⟩, hc5, h⟩ := ob h
        dsimp only at h
        refine callWVv (As := [.int v1]) (rest := []) hC (c_X8_takesTerm l g ad I J v1  H.size hc5) lk_X8_212 rfl rfl ⟨Nat.le_of_ble_eq_true rfl, Nat.le_of_ble_eq_true rfl⟩ hP hK hD hA hS mo_0 rfl rfl rfl hl (Nat.le_of_ble_eq_true rfl) dX8_less_64 (fun H locs hP hD hS => ?_)
        refine lv_aload_n hx hb dX8_less_67 rfl (lv_at hl 1 rfl) ?_
        refine lv_iload_n hx hb dX8_less_68 rfl (lv_at hl 3 rfl) ?_
        refine lv_iload_n hx hb dX8_less_69 rfl (lv_at hl 4 rfl) ?_
        refine lv_iload hx hb dX8_less_70 (lv_at hl 5 rfl) ?_
        obtain ⟨r6, hc6, h⟩ := ob h
        refine callRV (As := [.int v2, .int v3, .int v4]) (rest := []) hC (c_X8_bestLess l g ad I5 J5 v2 v3 v4  hc6) lk_X8_254 rfl rfl ⟨Nat.le_of_ble_eq_true rfl, Nat.le_of_ble_eq_true rfl⟩ hP hK mo_0 rfl rfl rfl hl (Nat.le_of_ble_eq_true rfl) dX8_less_72 ?_
        obtain ⟨h1, h⟩ := Prod.mk.inj (Option.some.inj h)
        obtain ⟨rfl, rfl⟩ := Prod.mk.inj h
        exact hret _ _ _ _ _ dX8_less_75 h1 hP hD hS
      · replace h := (if_neg c4).symm.trans h
        refine lv_aload_n hx hb dX8_less_55 rfl (lv_at hl 1 rfl) ?_
        refine lv_iload hx hb dX8_less_56 (lv_at hl 0 rfl) ?_
        obtain ⟨⟨r7, I7, J7⟩, hc7, h⟩ := ob h
        dsimp only at h
        refine callWVi (As := [.int (-4 : Int32)]) (rest := []) hC (c_X8_no l g ad I J (-4 : Int32)  H.size hc7) lk_X8_92 rfl rfl ⟨Nat.le_of_ble_eq_true rfl, Nat.le_of_ble_eq_true rfl⟩ hP hK hD hA hS mo_0 rfl rfl rfl hl (Nat.le_of_ble_eq_true rfl) dX8_less_58 (fun H locs hP hD hS => ?_)
        obtain ⟨h1, h⟩ := Prod.mk.inj (Option.some.inj h)
        obtain ⟨rfl, rfl⟩ := Prod.mk.inj h
        exact hret _ _ _ _ _ dX8_less_61 h1 hP hD hS
    · replace h := (if_neg c3).symm.trans h
      refine lv_iload hx hb dX8_less_19 (lv_at hl 4 rfl) ?_
      refine lv_if_ge (tgt := 29) hx hb dX8_less_21 (by decide) (fun c8 => ?_) (fun c8 => ?_)
      · replace h := (if_pos c8).symm.trans h
        refine lv_iload_n hx hb dX8_less_29 rfl (lv_at hl 3 rfl) ?_
        refine lv_bipush (v := 100) hx hb dX8_less_30 (by decide) ?_
        refine lv_icmp_gt (tgt := 42) hx hb dX8_less_32 (by decide) (fun c9 => ?_) (fun c9 => ?_)
        · replace h := (if_pos c9).symm.trans h
          refine lv_bipush (v := -6) hx hb dX8_less_42 (by decide) ?_
          refine lv_goto (tgt := 48) hx hb dX8_less_44 (by decide) ?_
          refine lv_istore (lv' := [(5, .int (-6 : Int32)), (0, .ref (ad 0)), (1, .int v1), (2, .int v2), (3, .int v3), (4, .int v4)]) hx hb dX8_less_48 hl (by decide) rfl (fun ls hl => ?_)
          refine lv_iload hx hb dX8_less_50 (lv_at hl 0 rfl) ?_
          refine lv_if_eq (tgt := 62) hx hb dX8_less_52 (by decide) (fun c10 => ?_) (fun c10 => ?_)
          · replace h := (if_pos c10).symm.trans h
            refine lv_aload_n hx hb dX8_less_62 rfl (lv_at hl 1 rfl) ?_
            refine lv_iload_n hx hb dX8_less_63 rfl (lv_at hl 2 rfl) ?_
            obtain ⟨⟨I11, J11⟩, hc11, h⟩ := ob h
            dsimp only at h
            refine callWVv (As := [.int v1]) (rest := []) hC (c_X8_takesTerm l g ad I J v1  H.size hc11) lk_X8_212 rfl rfl ⟨Nat.le_of_ble_eq_true rfl, Nat.le_of_ble_eq_true rfl⟩ hP hK hD hA hS mo_0 rfl rfl rfl hl (Nat.le_of_ble_eq_true rfl) dX8_less_64 (fun H locs hP hD hS => ?_)
            refine lv_aload_n hx hb dX8_less_67 rfl (lv_at hl 1 rfl) ?_
            refine lv_iload_n hx hb dX8_less_68 rfl (lv_at hl 3 rfl) ?_
            refine lv_iload_n hx hb dX8_less_69 rfl (lv_at hl 4 rfl) ?_
            refine lv_iload hx hb dX8_less_70 (lv_at hl 5 rfl) ?_
            obtain ⟨r12, hc12, h⟩ := ob h
            refine callRV (As := [.int v2, .int v3, .int v4]) (rest := []) hC (c_X8_bestLess l g ad I11 J11 v2 v3 v4  hc12) lk_X8_254 rfl rfl ⟨Nat.le_of_ble_eq_true rfl, Nat.le_of_ble_eq_true rfl⟩ hP hK mo_0 rfl rfl rfl hl (Nat.le_of_ble_eq_true rfl) dX8_less_72 ?_
            obtain ⟨h1, h⟩ := Prod.mk.inj (Option.some.inj h)
            obtain ⟨rfl, rfl⟩ := Prod.mk.inj h
            exact hret _ _ _ _ _ dX8_less_75 h1 hP hD hS
          · replace h := (if_neg c10).symm.trans h
            refine lv_aload_n hx hb dX8_less_55 rfl (lv_at hl 1 rfl) ?_
            refine lv_iload hx hb dX8_less_56 (lv_at hl 0 rfl) ?_
            obtain ⟨⟨r13, I13, J13⟩, hc13, h⟩ := ob h
            dsimp only at h
            refine callWVi (As := [.int (-6 : Int32)]) (rest := []) hC (c_X8_no l g ad I J (-6 : Int32)  H.size hc13) lk_X8_92 rfl rfl ⟨Nat.le_of_ble_eq_true rfl, Nat.le_of_ble_eq_true rfl⟩ hP hK hD hA hS mo_0 rfl rfl rfl hl (Nat.le_of_ble_eq_true rfl) dX8_less_58 (fun H locs hP hD hS => ?_)
            obtain ⟨h1, h⟩ := Prod.mk.inj (Option.some.inj h)
            obtain ⟨rfl, rfl⟩ := Prod.mk.inj h
            exact hret _ _ _ _ _ dX8_less_61 h1 hP hD hS
        · replace h := (if_neg c9).symm.trans h
          refine lv_iload hx hb dX8_less_35 (lv_at hl 4 rfl) ?_
          refine lv_bipush (v := 99) hx hb dX8_less_37 (by decide) ?_
          refine tern (α := Int32) (cnd := v4 ≤ (99 : Int32)) (a := (0 : Int32)) (b := (-6 : Int32)) (Wj := fun vj => W p l e (k2_rm 4 108) s m args below meth c H locs 0 0 Q (F0 m 48 ls [.int vj])) (fun k15a k15b => ?_) ?_
          · refine lv_icmp_le (tgt := 47) hx hb dX8_less_39 (by decide) (fun c14 => ?_) (fun c14 => ?_)
            · refine lv_iconst (v := 0) hx hb dX8_less_47 (by decide) ?_
              exact k15a c14
            · refine lv_bipush (v := -6) hx hb dX8_less_42 (by decide) ?_
              refine lv_goto (tgt := 48) hx hb dX8_less_44 (by decide) ?_
              exact k15b c14
          · show W p l e (k2_rm 4 108) s m args below meth c H locs 0 0 Q (F0 m 48 ls [.int (if v4 ≤ (99 : Int32) then (0 : Int32) else (-6 : Int32))])
            refine lv_istore (lv' := [(5, .int (if v4 ≤ (99 : Int32) then (0 : Int32) else (-6 : Int32))), (0, .ref (ad 0)), (1, .int v1), (2, .int v2), (3, .int v3), (4, .int v4)]) hx hb dX8_less_48 hl (by decide) rfl (fun ls hl => ?_)
            refine lv_iload hx hb dX8_less_50 (lv_at hl 0 rfl) ?_
            refine lv_if_eq (tgt := 62) hx hb dX8_less_52 (by decide) (fun c16 => ?_) (fun c16 => ?_)
            · replace h := (if_pos c16).symm.trans h
              refine lv_aload_n hx hb dX8_less_62 rfl (lv_at hl 1 rfl) ?_
              refine lv_iload_n hx hb dX8_less_63 rfl (lv_at hl 2 rfl) ?_
              obtain ⟨⟨I17, J17⟩, hc17, h⟩ := ob h
              dsimp only at h
              refine callWVv (As := [.int v1]) (rest := []) hC (c_X8_takesTerm l g ad I J v1  H.size hc17) lk_X8_212 rfl rfl ⟨Nat.le_of_ble_eq_true rfl, Nat.le_of_ble_eq_true rfl⟩ hP hK hD hA hS mo_0 rfl rfl rfl hl (Nat.le_of_ble_eq_true rfl) dX8_less_64 (fun H locs hP hD hS => ?_)
              refine lv_aload_n hx hb dX8_less_67 rfl (lv_at hl 1 rfl) ?_
              refine lv_iload_n hx hb dX8_less_68 rfl (lv_at hl 3 rfl) ?_
              refine lv_iload_n hx hb dX8_less_69 rfl (lv_at hl 4 rfl) ?_
              refine lv_iload hx hb dX8_less_70 (lv_at hl 5 rfl) ?_
              obtain ⟨r18, hc18, h⟩ := ob h
              refine callRV (As := [.int v2, .int v3, .int v4]) (rest := []) hC (c_X8_bestLess l g ad I17 J17 v2 v3 v4  hc18) lk_X8_254 rfl rfl ⟨Nat.le_of_ble_eq_true rfl, Nat.le_of_ble_eq_true rfl⟩ hP hK mo_0 rfl rfl rfl hl (Nat.le_of_ble_eq_true rfl) dX8_less_72 ?_
              obtain ⟨h1, h⟩ := Prod.mk.inj (Option.some.inj h)
              obtain ⟨rfl, rfl⟩ := Prod.mk.inj h
              exact hret _ _ _ _ _ dX8_less_75 h1 hP hD hS
            · replace h := (if_neg c16).symm.trans h
              refine lv_aload_n hx hb dX8_less_55 rfl (lv_at hl 1 rfl) ?_
              refine lv_iload hx hb dX8_less_56 (lv_at hl 0 rfl) ?_
              obtain ⟨⟨r19, I19, J19⟩, hc19, h⟩ := ob h
              dsimp only at h
              refine callWVi (As := [.int (if v4 ≤ (99 : Int32) then (0 : Int32) else (-6 : Int32))]) (rest := []) hC (c_X8_no l g ad I J (if v4 ≤ (99 : Int32) then (0 : Int32) else (-6 : Int32))  H.size hc19) lk_X8_92 rfl rfl ⟨Nat.le_of_ble_eq_true rfl, Nat.le_of_ble_eq_true rfl⟩ hP hK hD hA hS mo_0 rfl rfl rfl hl (Nat.le_of_ble_eq_true rfl) dX8_less_58 (fun H locs hP hD hS => ?_)
              obtain ⟨h1, h⟩ := Prod.mk.inj (Option.some.inj h)
              obtain ⟨rfl, rfl⟩ := Prod.mk.inj h
              exact hret _ _ _ _ _ dX8_less_61 h1 hP hD hS
      · replace h := (if_neg c8).symm.trans h
        refine lv_bipush (v := -4) hx hb dX8_less_24 (by decide) ?_
        refine lv_goto (tgt := 48) hx hb dX8_less_26 (by decide) ?_
        refine lv_istore (lv' := [(5, .int (-4 : Int32)), (0, .ref (ad 0)), (1, .int v1), (2, .int v2), (3, .int v3), (4, .int v4)]) hx hb dX8_less_48 hl (by decide) rfl (fun ls hl => ?_)
        refine lv_iload hx hb dX8_less_50 (lv_at hl 0 rfl) ?_
        refine lv_if_eq (tgt := 62) hx hb dX8_less_52 (by decide) (fun c20 => ?_) (fun c20 => ?_)
        · replace h := (if_pos c20).symm.trans h
          refine lv_aload_n hx hb dX8_less_62 rfl (lv_at hl 1 rfl) ?_
          refine lv_iload_n hx hb dX8_less_63 rfl (lv_at hl 2 rfl) ?_
          obtain ⟨⟨I21, J21⟩, hc21, h⟩ := ob h
          dsimp only at h
          refine callWVv (As := [.int v1]) (rest := []) hC (c_X8_takesTerm l g ad I J v1  H.size hc21) lk_X8_212 rfl rfl ⟨Nat.le_of_ble_eq_true rfl, Nat.le_of_ble_eq_true rfl⟩ hP hK hD hA hS mo_0 rfl rfl rfl hl (Nat.le_of_ble_eq_true rfl) dX8_less_64 (fun H locs hP hD hS => ?_)
          refine lv_aload_n hx hb dX8_less_67 rfl (lv_at hl 1 rfl) ?_
          refine lv_iload_n hx hb dX8_less_68 rfl (lv_at hl 3 rfl) ?_
          refine lv_iload_n hx hb dX8_less_69 rfl (lv_at hl 4 rfl) ?_
          refine lv_iload hx hb dX8_less_70 (lv_at hl 5 rfl) ?_
          obtain ⟨r22, hc22, h⟩ := ob h
          refine callRV (As := [.int v2, .int v3, .int v4]) (rest := []) hC (c_X8_bestLess l g ad I21 J21 v2 v3 v4  hc22) lk_X8_254 rfl rfl ⟨Nat.le_of_ble_eq_true rfl, Nat.le_of_ble_eq_true rfl⟩ hP hK mo_0 rfl rfl rfl hl (Nat.le_of_ble_eq_true rfl) dX8_less_72 ?_
          obtain ⟨h1, h⟩ := Prod.mk.inj (Option.some.inj h)
          obtain ⟨rfl, rfl⟩ := Prod.mk.inj h
          exact hret _ _ _ _ _ dX8_less_75 h1 hP hD hS
        · replace h := (if_neg c20).symm.trans h
          refine lv_aload_n hx hb dX8_less_55 rfl (lv_at hl 1 rfl) ?_
          refine lv_iload hx hb dX8_less_56 (lv_at hl 0 rfl) ?_
          obtain ⟨⟨r23, I23, J23⟩, hc23, h⟩ := ob h
          dsimp only at h
          refine callWVi (As := [.int (-4 : Int32)]) (rest := []) hC (c_X8_no l g ad I J (-4 : Int32)  H.size hc23) lk_X8_92 rfl rfl ⟨Nat.le_of_ble_eq_true rfl, Nat.le_of_ble_eq_true rfl⟩ hP hK hD hA hS mo_0 rfl rfl rfl hl (Nat.le_of_ble_eq_true rfl) dX8_less_58 (fun H locs hP hD hS => ?_)
          obtain ⟨h1, h⟩ := Prod.mk.inj (Option.some.inj h)
          obtain ⟨rfl, rfl⟩ := Prod.mk.inj h
          exact hret _ _ _ _ _ dX8_less_61 h1 hP hD hS
  · replace h := (if_pos c2).symm.trans h
    refine lv_aload_n hx hb dX8_less_9 rfl (lv_at hl 0 rfl) ?_
    refine lv_iconst (v := -1) hx hb dX8_less_10 (by decide) ?_
    obtain ⟨⟨r24, I24, J24⟩, hc24, h⟩ := ob h
    dsimp only at h
    refine callWVi (As := [.int (-1 : Int32)]) (rest := []) hC (c_X8_no l g ad I J (-1 : Int32)  H.size hc24) lk_X8_92 rfl rfl ⟨Nat.le_of_ble_eq_true rfl, Nat.le_of_ble_eq_true rfl⟩ hP hK hD hA hS mo_0 rfl rfl rfl hl (Nat.le_of_ble_eq_true rfl) dX8_less_11 (fun H locs hP hD hS => ?_)
    obtain ⟨h1, h⟩ := Prod.mk.inj (Option.some.inj h)
    obtain ⟨rfl, rfl⟩ := Prod.mk.inj h
    exact hret _ _ _ _ _ dX8_less_14 h1 hP hD hS
def FL_X8_looks_44  : Nat → SI → SJ → Int32 → Int32 → Int32 → Option (Int32 × SI × SJ)
  | 0, _, _, _, _, _ => none
  | n + 1, I, J, w2_44, w3_44, w5_44 => (if (100 : Int32) < w5_44 then (some ((-9 : Int32), I, J)) else ((F_X8_bestLess I J w2_44 w5_44 w3_44).bind fun r7 => (if r7 = 0 then (some (w5_44, I, J)) else (FL_X8_looks_44 n I J w2_44 w3_44 (w5_44 + 1)))))
def F_X8_looks (I : SI) (J : SJ) (v1 : Int32) (v2 : Int32) (v3 : Int32) : Option (Int32 × SI × SJ) := ((F_X8_isPains I J v1 v2).bind fun r1 => (if r1 = 0 then ((F_X8_no I J (-1 : Int32)).bind fun (r10, I10, J10) => (some (r10, I10, J10))) else ((F_X8_bound v3 (0 : Int32) (99 : Int32)).bind fun r3 => (if r3 = 0 then ((F_X8_takesTerm I J v1).bind fun (I5, J5) => (FL_X8_looks_44 3000 I5 J5 v2 v3 (0 : Int32))) else ((F_X8_no I J r3).bind fun (r9, I9, J9) => (some (r9, I9, J9)))))))
set_option maxHeartbeats 4000000 in
set_option maxRecDepth 100000 in
theorem c_X8_looks (l : Launch) (g : Gx) (ad : Nat → Nat) (I : SI) (J : SJ) (v1 : Int32) (v2 : Int32) (v3 : Int32)  (sz : Nat) {r : Int32} {rI : SI} {rJ : SJ} (h : F_X8_looks I J v1 v2 v3 = some (r, rI, rJ)) : Met l yX8_looks (Cond.code yX8_looks cX8_looks 6 (some .int) :: BG) (k2_rm 4 108) (PcW [.ref (ad 0), .int v1, .int v2, .int v3] g (mW ad g I J) sz) (QWi r g (mW ad g I J) (mW ad g rI rJ) sz) 0 0 (va_A (mW ad g I J) sz) := by
  refine mkWi (by decide) (Nat.le_of_ble_eq_true rfl) ?_
  intro p e s m args below meth c H locs ls A Q hC hK hP hD hA hS hl hret
  have hx := hC.1
  have hb := hC.2.1
  have hts := hC.2.2.2.2
  have hown := hC.2.2.2.1
  replace hl : lv_has ls 6 [(0, .ref (ad 0)), (1, .int v1), (2, .int v2), (3, .int v3)] := hl
  have loop_44 : ∀ (n : Nat) (I : SI) (J : SJ) (w2_44 : Int32) (w3_44 : Int32) (w5_44 : Int32)  (H : Heap) (locs : List Loc) (ls : Array Slot), FL_X8_looks_44 n I J w2_44 w3_44 w5_44 = some (r, rI, rJ) → Pg g (mW ad g I J) H → va_D A (mW ad g I J) → va_S A s.heap H locs → lv_has ls 6 [(0, .ref (ad 0)), (2, .int w2_44), (3, .int w3_44), (5, .int w5_44)] → W p l e (k2_rm 4 108) s m args below meth c H locs 0 0 Q (F0 m 44 ls []) := by
    intro n
    induction n with
    | zero =>
      intro I J w2_44 w3_44 w5_44 H locs ls h
      exact no h
    | succ n ih =>
      intro I J w2_44 w3_44 w5_44 H locs ls h hP hD hS hl
      rw [FL_X8_looks_44] at h
      refine lv_iload hx hb dX8_looks_44 (lv_at hl 3 rfl) ?_
      refine lv_bipush (v := 100) hx hb dX8_looks_46 (by decide) ?_
      refine lv_icmp_gt (tgt := 71) hx hb dX8_looks_48 (by decide) (fun c6 => ?_) (fun c6 => ?_)
      · replace h := (if_pos c6).symm.trans h
        refine lv_bipush (v := -9) hx hb dX8_looks_71 (by decide) ?_
        obtain ⟨h1, h⟩ := Prod.mk.inj (Option.some.inj h)
        obtain ⟨rfl, rfl⟩ := Prod.mk.inj h
        exact hret _ _ _ _ _ dX8_looks_73 h1 hP hD hS
      · replace h := (if_neg c6).symm.trans h
        refine lv_aload_n hx hb dX8_looks_51 rfl (lv_at hl 0 rfl) ?_
        refine lv_iload_n hx hb dX8_looks_52 rfl (lv_at hl 1 rfl) ?_
        refine lv_iload hx hb dX8_looks_53 (lv_at hl 3 rfl) ?_
        refine lv_iload_n hx hb dX8_looks_55 rfl (lv_at hl 2 rfl) ?_
        obtain ⟨r7, hc7, h⟩ := ob h
        refine callRV (As := [.int w2_44, .int w5_44, .int w3_44]) (rest := []) hC (c_X8_bestLess l g ad I J w2_44 w5_44 w3_44  hc7) lk_X8_254 rfl rfl ⟨Nat.le_of_ble_eq_true rfl, Nat.le_of_ble_eq_true rfl⟩ hP hK mo_0 rfl rfl rfl hl (Nat.le_of_ble_eq_true rfl) dX8_looks_56 ?_
        refine lv_if_ne (tgt := 65) hx hb dX8_looks_59 (by decide) (fun c8 => ?_) (fun c8 => ?_)
        · replace h := (if_neg c8).symm.trans h
          refine lv_iinc (v := (w5_44 + 1)) (lv' := [(5, .int (w5_44 + 1)), (0, .ref (ad 0)), (2, .int w2_44), (3, .int w3_44)]) hx hb dX8_looks_65 hl (k := 3) rfl rfl (by decide) rfl (fun ls hl => ?_)
          refine lv_goto (tgt := 44) hx hb dX8_looks_68 (by decide) ?_
          exact ih I J w2_44 w3_44 (w5_44 + 1) _ _ _ h hP hD hS (lv_sub hl [1, 2, 3, 0] rfl)
        · replace h := (if_pos c8).symm.trans h
          refine lv_iload hx hb dX8_looks_62 (lv_at hl 3 rfl) ?_
          obtain ⟨h1, h⟩ := Prod.mk.inj (Option.some.inj h)
          obtain ⟨rfl, rfl⟩ := Prod.mk.inj h
          exact hret _ _ _ _ _ dX8_looks_64 h1 hP hD hS
  unfold F_X8_looks at h
  refine lv_aload_n hx hb dX8_looks_0 rfl (lv_at hl 0 rfl) ?_
  refine lv_iload_n hx hb dX8_looks_1 rfl (lv_at hl 1 rfl) ?_
  refine lv_iload_n hx hb dX8_looks_2 rfl (lv_at hl 2 rfl) ?_
  obtain ⟨r1, hc1, h⟩ := ob h
  refine callRV (As := [.int v1, .int v2]) (rest := []) hC (c_X8_isPains l g ad I J v1 v2  hc1) lk_X8_251 rfl rfl ⟨Nat.le_of_ble_eq_true rfl, Nat.le_of_ble_eq_true rfl⟩ hP hK mo_0 rfl rfl rfl hl (Nat.le_of_ble_eq_true rfl) dX8_looks_3 ?_
  refine lv_if_ne (tgt := 15) hx hb dX8_looks_6 (by decide) (fun c2 => ?_) (fun c2 => ?_)
  · replace h := (if_neg c2).symm.trans h
    refine lv_iload_n hx hb dX8_looks_15 rfl (lv_at hl 3 rfl) ?_
    refine lv_iconst (v := 0) hx hb dX8_looks_16 (by decide) ?_
    refine lv_bipush (v := 99) hx hb dX8_looks_17 (by decide) ?_
    obtain ⟨r3, hc3, h⟩ := ob h
    refine callRS (As := [.int v3, .int (0 : Int32), .int (99 : Int32)]) (rest := []) hC (c_X8_bound l g (mW ad g I J) v3 (0 : Int32) (99 : Int32) hc3) lk_X8_85 rfl rfl ⟨Nat.le_of_ble_eq_true rfl, Nat.le_of_ble_eq_true rfl⟩ hP hK rfl rfl hl (Nat.le_of_ble_eq_true rfl) dX8_looks_19 ?_
    refine lv_istore (lv' := [(4, .int r3), (0, .ref (ad 0)), (1, .int v1), (2, .int v2), (3, .int v3)]) hx hb dX8_looks_22 hl (by decide) rfl (fun ls hl => ?_)
    refine lv_iload hx hb dX8_looks_24 (lv_at hl 0 rfl) ?_
    refine lv_if_eq (tgt := 36) hx hb dX8_looks_26 (by decide) (fun c4 => ?_) (fun c4 => ?_)
    · replace h := (if_pos c4).symm.trans h
      refine lv_aload_n hx hb dX8_looks_36 rfl (lv_at hl 1 rfl) ?_
      refine lv_iload_n hx hb dX8_looks_37 rfl (lv_at hl 2 rfl) ?_
      obtain ⟨⟨I5, J5⟩, hc5, h⟩ := ob h
      dsimp only at h
      refine callWVv (As := [.int v1]) (rest := []) hC (c_X8_takesTerm l g ad I J v1  H.size hc5) lk_X8_212 rfl rfl ⟨Nat.le_of_ble_eq_true rfl, Nat.le_of_ble_eq_true rfl⟩ hP hK hD hA hS mo_0 rfl rfl rfl hl (Nat.le_of_ble_eq_true rfl) dX8_looks_38 (fun H locs hP hD hS => ?_)
      refine lv_iconst (v := 0) hx hb dX8_looks_41 (by decide) ?_
      refine lv_istore (lv' := [(5, .int (0 : Int32)), (4, .int r3), (0, .ref (ad 0)), (1, .int v1), (2, .int v2), (3, .int v3)]) hx hb dX8_looks_42 hl (by decide) rfl (fun ls hl => ?_)
      exact loop_44 3000 I5 J5 v2 v3 (0 : Int32) _ _ _ h hP hD hS (lv_sub hl [2, 4, 5, 0] rfl)
    · replace h := (if_neg c4).symm.trans h
      refine lv_aload_n hx hb dX8_looks_29 rfl (lv_at hl 1 rfl) ?_
      refine lv_iload hx hb dX8_looks_30 (lv_at hl 0 rfl) ?_
      obtain ⟨⟨r9, I9, J9⟩, hc9, h⟩ := ob h
      dsimp only at h
      refine callWVi (As := [.int r3]) (rest := []) hC (c_X8_no l g ad I J r3  H.size hc9) lk_X8_92 rfl rfl ⟨Nat.le_of_ble_eq_true rfl, Nat.le_of_ble_eq_true rfl⟩ hP hK hD hA hS mo_0 rfl rfl rfl hl (Nat.le_of_ble_eq_true rfl) dX8_looks_32 (fun H locs hP hD hS => ?_)
      obtain ⟨h1, h⟩ := Prod.mk.inj (Option.some.inj h)
      obtain ⟨rfl, rfl⟩ := Prod.mk.inj h
      exact hret _ _ _ _ _ dX8_looks_35 h1 hP hD hS
  · replace h := (if_pos c2).symm.trans h
    refine lv_aload_n hx hb dX8_looks_9 rfl (lv_at hl 0 rfl) ?_
    refine lv_iconst (v := -1) hx hb dX8_looks_10 (by decide) ?_
    obtain ⟨⟨r10, I10, J10⟩, hc10, h⟩ := ob h
    dsimp only at h
    refine callWVi (As := [.int (-1 : Int32)]) (rest := []) hC (c_X8_no l g ad I J (-1 : Int32)  H.size hc10) lk_X8_92 rfl rfl ⟨Nat.le_of_ble_eq_true rfl, Nat.le_of_ble_eq_true rfl⟩ hP hK hD hA hS mo_0 rfl rfl rfl hl (Nat.le_of_ble_eq_true rfl) dX8_looks_11 (fun H locs hP hD hS => ?_)
    obtain ⟨h1, h⟩ := Prod.mk.inj (Option.some.inj h)
    obtain ⟨rfl, rfl⟩ := Prod.mk.inj h
    exact hret _ _ _ _ _ dX8_looks_14 h1 hP hD hS
def F_X8_yearWorth (I : SI) (J : SJ) (v1 : Int32) (v2 : Int32) : Option (Int64 × SI × SJ) := ((F_X8_bestPains (u2 I 0 26 v1) J v2).bind fun r1 => ((F_X8_worthOf (u2 I 0 26 v1) J (0 : Int32) r1 v2).bind fun r2 => (some (r2, (u2 I 0 26 v1), J))))
set_option maxHeartbeats 4000000 in
set_option maxRecDepth 100000 in
theorem c_X8_yearWorth (l : Launch) (g : Gx) (ad : Nat → Nat) (I : SI) (J : SJ) (v1 : Int32) (v2 : Int32)  (sz : Nat) {r : Int64} {rI : SI} {rJ : SJ} (h : F_X8_yearWorth I J v1 v2 = some (r, rI, rJ)) : Met l yX8_yearWorth (Cond.code yX8_yearWorth cX8_yearWorth 3 (some .long) :: BG) (k2_rm 4 100) (PcW [.ref (ad 0), .int v1, .int v2] g (mW ad g I J) sz) (QWl r g (mW ad g I J) (mW ad g rI rJ) sz) 0 0 (va_A (mW ad g I J) sz) := by
  refine mkWl (by decide) (Nat.le_of_ble_eq_true rfl) ?_
  intro p e s m args below meth c H locs ls A Q hC hK hP hD hA hS hl hret
  have hx := hC.1
  have hb := hC.2.1
  have hts := hC.2.2.2.2
  have hown := hC.2.2.2.1
  replace hl : lv_has ls 3 [(0, .ref (ad 0)), (1, .int v1), (2, .int v2)] := hl
  unfold F_X8_yearWorth at h
  refine lv_aload_n hx hb dX8_yearWorth_0 rfl (lv_at hl 0 rfl) ?_
  refine lv_iload_n hx hb dX8_yearWorth_1 rfl (lv_at hl 1 rfl) ?_
  refine pt_X8_179 hC hK hP hD hS dX8_yearWorth_2 (fun H locs hP hD hS => ?_)
  refine lv_aload_n hx hb dX8_yearWorth_5 rfl (lv_at hl 0 rfl) ?_
  refine lv_iconst (v := 0) hx hb dX8_yearWorth_6 (by decide) ?_
  refine lv_aload_n hx hb dX8_yearWorth_7 rfl (lv_at hl 0 rfl) ?_
  refine lv_iload_n hx hb dX8_yearWorth_8 rfl (lv_at hl 2 rfl) ?_
  obtain ⟨r1, hc1, h⟩ := ob h
  refine callRV (As := [.int v2]) (rest := [.int (0 : Int32), .ref (ad 0)]) hC (c_X8_bestPains l g ad (u2 I 0 26 v1) J v2  hc1) lk_X8_206 rfl rfl ⟨Nat.le_of_ble_eq_true rfl, Nat.le_of_ble_eq_true rfl⟩ hP hK mo_0 rfl rfl rfl hl (Nat.le_of_ble_eq_true rfl) dX8_yearWorth_9 ?_
  refine lv_iload_n hx hb dX8_yearWorth_12 rfl (lv_at hl 2 rfl) ?_
  obtain ⟨r2, hc2, h⟩ := ob h
  refine callRV (As := [.int (0 : Int32), .int r1, .int v2]) (rest := []) hC (c_X8_worthOf l g ad (u2 I 0 26 v1) J (0 : Int32) r1 v2  hc2) lk_X8_202 rfl rfl ⟨Nat.le_of_ble_eq_true rfl, Nat.le_of_ble_eq_true rfl⟩ hP hK mo_0 rfl rfl rfl hl (Nat.le_of_ble_eq_true rfl) dX8_yearWorth_13 ?_
  obtain ⟨h1, h⟩ := Prod.mk.inj (Option.some.inj h)
  obtain ⟨rfl, rfl⟩ := Prod.mk.inj h
  exact hret _ _ _ _ _ dX8_yearWorth_16 h1 hP hD hS
def FS_X8_findYears_43  : Nat → SI → SJ → Int32 → Int32 → Option (SI × SJ × Int32 × Int32)
  | 0, _, _, _, _ => none
  | n + 1, I, J, w3_43, w4_43 => (if (4 : Int32) ≤ w4_43 then (some (I, J, w3_43, w4_43)) else ((F_X8_yearWorth I J w4_43 w3_43).bind fun (r4, I4, J4) => (if gin (((4 : Int32) * (w3_43 + (1 : Int32))) + (if w4_43 ≤ 0 then (0 : Int32) else (w4_43 - (1 : Int32)))) 44 = true then (if gin (((4 : Int32) * (w3_43 + (1 : Int32))) + (if (3 : Int32) ≤ w4_43 then (3 : Int32) else (w4_43 + (1 : Int32)))) 44 = true then (if gin (((4 : Int32) * w3_43) + w4_43) 44 = true then (if gin (((4 : Int32) * w3_43) + w4_43) 44 = true then (FS_X8_findYears_43 n (u1 I4 18 (upd (I4 18) (Int32.toNatClampNeg (((4 : Int32) * w3_43) + w4_43)) (if ((r4 - (4000 : Int64)) + (J4 17 (Int32.toNatClampNeg (((4 : Int32) * (w3_43 + (1 : Int32))) + (if (3 : Int32) ≤ w4_43 then (3 : Int32) else (w4_43 + (1 : Int32))))))) ≤ (r4 + (J4 17 (Int32.toNatClampNeg (((4 : Int32) * (w3_43 + (1 : Int32))) + (if w4_43 ≤ 0 then (0 : Int32) else (w4_43 - (1 : Int32))))))) then (0 : Int32) else (1 : Int32)))) (u1 J4 17 (vp_updL (J4 17) (Int32.toNatClampNeg (((4 : Int32) * w3_43) + w4_43)) (if ((r4 - (4000 : Int64)) + (J4 17 (Int32.toNatClampNeg (((4 : Int32) * (w3_43 + (1 : Int32))) + (if (3 : Int32) ≤ w4_43 then (3 : Int32) else (w4_43 + (1 : Int32))))))) ≤ (r4 + (J4 17 (Int32.toNatClampNeg (((4 : Int32) * (w3_43 + (1 : Int32))) + (if w4_43 ≤ 0 then (0 : Int32) else (w4_43 - (1 : Int32))))))) then (r4 + (J4 17 (Int32.toNatClampNeg (((4 : Int32) * (w3_43 + (1 : Int32))) + (if w4_43 ≤ 0 then (0 : Int32) else (w4_43 - (1 : Int32))))))) else ((r4 - (4000 : Int64)) + (J4 17 (Int32.toNatClampNeg (((4 : Int32) * (w3_43 + (1 : Int32))) + (if (3 : Int32) ≤ w4_43 then (3 : Int32) else (w4_43 + (1 : Int32)))))))))) w3_43 (w4_43 + 1)) else none) else none) else none) else none)))
def FL_X8_findYears_36  : Nat → SI → SJ → Int32 → Option (SI × SJ)
  | 0, _, _, _ => none
  | n + 1, I, J, w3_36 => (if w3_36 < 0 then (some (I, J)) else ((FS_X8_findYears_43 3000 I J w3_36 (0 : Int32)).bind fun (I17, J17, u3_17, u4_17) => (FL_X8_findYears_36 n I17 J17 (u3_17 + (-1)))))
def FL_X8_findYears_2  : Nat → SI → SJ → Int32 → Int32 → Int32 → Option (SI × SJ)
  | 0, _, _, _, _, _ => none
  | n + 1, I, J, w1_2, w2_2, w3_2 => (if (4 : Int32) ≤ w3_2 then (FL_X8_findYears_36 3000 I J (w1_2 - (1 : Int32))) else (if gin (((4 : Int32) * w1_2) + w3_2) 44 = true then (FL_X8_findYears_2 n I (u1 J 17 (vp_updL (J 17) (Int32.toNatClampNeg (((4 : Int32) * w1_2) + w3_2)) (((1000 : Int64) * (Int32.toInt64 w2_2)) * (Int32.toInt64 w3_2)))) w1_2 w2_2 (w3_2 + 1)) else none))
def F_X8_findYears (I : SI) (J : SJ) (v1 : Int32) (v2 : Int32) : Option (SI × SJ) := (FL_X8_findYears_2 3000 I J v1 v2 (0 : Int32))
set_option maxHeartbeats 4000000 in
set_option maxRecDepth 100000 in
theorem c_X8_findYears (l : Launch) (g : Gx) (ad : Nat → Nat) (I : SI) (J : SJ) (v1 : Int32) (v2 : Int32)  (sz : Nat) {rI : SI} {rJ : SJ} (h : F_X8_findYears I J v1 v2 = some (rI, rJ)) : Met l yX8_findYears (Cond.code yX8_findYears cX8_findYears 11 none :: BG) (k2_rm 5 122) (PcW [.ref (ad 0), .int v1, .int v2] g (mW ad g I J) sz) (QWv g (mW ad g I J) (mW ad g rI rJ) sz) 0 0 (va_A (mW ad g I J) sz) := by
  refine mkWv (by decide) (Nat.le_of_ble_eq_true rfl) ?_
  intro p e s m args below meth c H locs ls A Q hC hK hP hD hA hS hl hret
  have hx := hC.1
  have hb := hC.2.1
  have hts := hC.2.2.2.2
  have hown := hC.2.2.2.1
  replace hl : lv_has ls 11 [(0, .ref (ad 0)), (1, .int v1), (2, .int v2)] := hl
  have loop_43 : ∀ (n : Nat) (I : SI) (J : SJ) (w3_43 : Int32) (w4_43 : Int32) (o0 : SI) (o1 : SJ) (o2 : Int32) (o3 : Int32) (H : Heap) (locs : List Loc) (ls : Array Slot), FS_X8_findYears_43 n I J w3_43 w4_43 = some (o0, o1, o2, o3) → Pg g (mW ad g I J) H → va_D A (mW ad g I J) → va_S A s.heap H locs → lv_has ls 11 [(0, .ref (ad 0)), (3, .int w3_43), (4, .int w4_43)] → (∀ (H : Heap) (locs : List Loc) (ls : Array Slot), Pg g (mW ad g o0 o1) H → va_D A (mW ad g o0 o1) → va_S A s.heap H locs → lv_has ls 11 [(0, .ref (ad 0)), (3, .int o2), (4, .int o3)] → W p l e (k2_rm 5 122) s m args below meth c H locs 0 0 Q (F0 m 177 ls [])) → W p l e (k2_rm 5 122) s m args below meth c H locs 0 0 Q (F0 m 43 ls []) := by
    intro n
    induction n with
    | zero =>
      intro I J w3_43 w4_43 o0 o1 o2 o3 H locs ls h
      exact no h
    | succ n ih =>
      intro I J w3_43 w4_43 o0 o1 o2 o3 H locs ls h hP hD hS hl hexit
      rw [FS_X8_findYears_43] at h
      refine lv_iload hx hb dX8_findYears_43 (lv_at hl 2 rfl) ?_
      refine lv_iconst (v := 4) hx hb dX8_findYears_45 (by decide) ?_
      refine lv_icmp_ge (tgt := 177) hx hb dX8_findYears_46 (by decide) (fun c3 => ?_) (fun c3 => ?_)
      · replace h := (if_pos c3).symm.trans h
        cases h
        exact hexit _ _ _ hP hD hS (lv_sub hl [0, 1, 2] rfl)
      · replace h := (if_neg c3).symm.trans h
        refine lv_aload_n hx hb dX8_findYears_49 rfl (lv_at hl 0 rfl) ?_
        refine lv_iload hx hb dX8_findYears_50 (lv_at hl 2 rfl) ?_
        refine lv_iload_n hx hb dX8_findYears_52 rfl (lv_at hl 1 rfl) ?_
        obtain ⟨⟨r4, I4, J4⟩, hc4, h⟩ := ob h
        dsimp only at h
        refine callWVl (As := [.int w4_43, .int w3_43]) (rest := []) hC (c_X8_yearWorth l g ad I J w4_43 w3_43  H.size hc4) lk_X8_257 rfl rfl ⟨Nat.le_of_ble_eq_true rfl, Nat.le_of_ble_eq_true rfl⟩ hP hK hD hA hS mo_0 rfl rfl rfl hl (Nat.le_of_ble_eq_true rfl) dX8_findYears_53 (fun H locs hP hD hS => ?_)
        refine lv_lstore (lv' := [(5, .long r4), (0, .ref (ad 0)), (3, .int w3_43), (4, .int w4_43)]) hx hb dX8_findYears_56 hl (by decide) rfl (fun ls hl => ?_)
        refine lv_lload hx hb dX8_findYears_58 (lv_at hl 0 rfl) ?_
        refine lv_aload_n hx hb dX8_findYears_60 rfl (lv_at hl 1 rfl) ?_
        refine gt_X8_58 hC hK hP dX8_findYears_61 ?_
        refine lv_iconst (v := 4) hx hb dX8_findYears_64 (by decide) ?_
        refine lv_iload_n hx hb dX8_findYears_65 rfl (lv_at hl 2 rfl) ?_
        refine lv_iconst (v := 1) hx hb dX8_findYears_66 (by decide) ?_
        refine lv_iadd hx hb dX8_findYears_67 ?_
        refine lv_imul hx hb dX8_findYears_68 ?_
        refine lv_iload hx hb dX8_findYears_69 (lv_at hl 3 rfl) ?_
        refine tern (α := Int32) (cnd := w4_43 ≤ 0) (a := (0 : Int32)) (b := (w4_43 - (1 : Int32))) (Wj := fun vj => W p l e (k2_rm 5 122) s m args below meth c H locs 0 0 Q (F0 m 82 ls [.int vj, .int ((4 : Int32) * (w3_43 + (1 : Int32))), .ref (ad 17), .long r4])) (fun k6a k6b => ?_) ?_
        · refine lv_if_le (tgt := 81) hx hb dX8_findYears_71 (by decide) (fun c5 => ?_) (fun c5 => ?_)
          · refine lv_iconst (v := 0) hx hb dX8_findYears_81 (by decide) ?_
            exact k6a c5
          · refine lv_iload hx hb dX8_findYears_74 (lv_at hl 3 rfl) ?_
            refine lv_iconst (v := 1) hx hb dX8_findYears_76 (by decide) ?_
            refine lv_isub hx hb dX8_findYears_77 ?_
            refine lv_goto (tgt := 82) hx hb dX8_findYears_78 (by decide) ?_
            exact k6b c5
        · show W p l e (k2_rm 5 122) s m args below meth c H locs 0 0 Q (F0 m 82 ls [.int (if w4_43 ≤ 0 then (0 : Int32) else (w4_43 - (1 : Int32))), .int ((4 : Int32) * (w3_43 + (1 : Int32))), .ref (ad 17), .long r4])
          refine lv_iadd hx hb dX8_findYears_82 ?_
          obtain ⟨b7, h⟩ := og h
          refine al_m17 hC hK hP (gin_ok b7) dX8_findYears_83 ?_
          refine lv_ladd hx hb dX8_findYears_84 ?_
          refine lv_lstore (lv' := [(7, .long (r4 + (J4 17 (Int32.toNatClampNeg (((4 : Int32) * (w3_43 + (1 : Int32))) + (if w4_43 ≤ 0 then (0 : Int32) else (w4_43 - (1 : Int32)))))))), (5, .long r4), (0, .ref (ad 0)), (3, .int w3_43), (4, .int w4_43)]) hx hb dX8_findYears_85 hl (by decide) rfl (fun ls hl => ?_)
          refine lv_lload hx hb dX8_findYears_87 (lv_at hl 1 rfl) ?_
          refine lv_ldc2 hx hb hown (hts _ kc_X8_261) dX8_findYears_89 ?_
          refine lv_lsub hx hb dX8_findYears_92 ?_
          refine lv_aload_n hx hb dX8_findYears_93 rfl (lv_at hl 2 rfl) ?_
          refine gt_X8_58 hC hK hP dX8_findYears_94 ?_
          refine lv_iconst (v := 4) hx hb dX8_findYears_97 (by decide) ?_
          refine lv_iload_n hx hb dX8_findYears_98 rfl (lv_at hl 3 rfl) ?_
          refine lv_iconst (v := 1) hx hb dX8_findYears_99 (by decide) ?_
          refine lv_iadd hx hb dX8_findYears_100 ?_
          refine lv_imul hx hb dX8_findYears_101 ?_
          refine lv_iload hx hb dX8_findYears_102 (lv_at hl 4 rfl) ?_
          refine lv_iconst (v := 3) hx hb dX8_findYears_104 (by decide) ?_
          refine tern (α := Int32) (cnd := (3 : Int32) ≤ w4_43) (a := (3 : Int32)) (b := (w4_43 + (1 : Int32))) (Wj := fun vj => W p l e (k2_rm 5 122) s m args below meth c H locs 0 0 Q (F0 m 116 ls [.int vj, .int ((4 : Int32) * (w3_43 + (1 : Int32))), .ref (ad 17), .long (r4 - (4000 : Int64))])) (fun k9a k9b => ?_) ?_
          · refine lv_icmp_ge (tgt := 115) hx hb dX8_findYears_105 (by decide) (fun c8 => ?_) (fun c8 => ?_)
            · refine lv_iconst (v := 3) hx hb dX8_findYears_115 (by decide) ?_
              exact k9a c8
            · refine lv_iload hx hb dX8_findYears_108 (lv_at hl 4 rfl) ?_
              refine lv_iconst (v := 1) hx hb dX8_findYears_110 (by decide) ?_
              refine lv_iadd hx hb dX8_findYears_111 ?_
              refine lv_goto (tgt := 116) hx hb dX8_findYears_112 (by decide) ?_
              exact k9b c8
          · show W p l e (k2_rm 5 122) s m args below meth c H locs 0 0 Q (F0 m 116 ls [.int (if (3 : Int32) ≤ w4_43 then (3 : Int32) else (w4_43 + (1 : Int32))), .int ((4 : Int32) * (w3_43 + (1 : Int32))), .ref (ad 17), .long (r4 - (4000 : Int64))])
            refine lv_iadd hx hb dX8_findYears_116 ?_
            obtain ⟨b10, h⟩ := og h
            refine al_m17 hC hK hP (gin_ok b10) dX8_findYears_117 ?_
            refine lv_ladd hx hb dX8_findYears_118 ?_
            refine lv_lstore (lv' := [(9, .long ((r4 - (4000 : Int64)) + (J4 17 (Int32.toNatClampNeg (((4 : Int32) * (w3_43 + (1 : Int32))) + (if (3 : Int32) ≤ w4_43 then (3 : Int32) else (w4_43 + (1 : Int32)))))))), (7, .long (r4 + (J4 17 (Int32.toNatClampNeg (((4 : Int32) * (w3_43 + (1 : Int32))) + (if w4_43 ≤ 0 then (0 : Int32) else (w4_43 - (1 : Int32)))))))), (5, .long r4), (0, .ref (ad 0)), (3, .int w3_43), (4, .int w4_43)]) hx hb dX8_findYears_119 hl (by decide) rfl (fun ls hl => ?_)
            refine lv_aload_n hx hb dX8_findYears_121 rfl (lv_at hl 3 rfl) ?_
            refine gt_X8_62 hC hK hP dX8_findYears_122 ?_
            refine lv_iconst (v := 4) hx hb dX8_findYears_125 (by decide) ?_
            refine lv_iload_n hx hb dX8_findYears_126 rfl (lv_at hl 4 rfl) ?_
            refine lv_imul hx hb dX8_findYears_127 ?_
            refine lv_iload hx hb dX8_findYears_128 (lv_at hl 5 rfl) ?_
            refine lv_iadd hx hb dX8_findYears_130 ?_
            refine lv_lload hx hb dX8_findYears_131 (lv_at hl 0 rfl) ?_
            refine lv_lload hx hb dX8_findYears_133 (lv_at hl 1 rfl) ?_
            refine tern (α := Int32) (cnd := ((r4 - (4000 : Int64)) + (J4 17 (Int32.toNatClampNeg (((4 : Int32) * (w3_43 + (1 : Int32))) + (if (3 : Int32) ≤ w4_43 then (3 : Int32) else (w4_43 + (1 : Int32))))))) ≤ (r4 + (J4 17 (Int32.toNatClampNeg (((4 : Int32) * (w3_43 + (1 : Int32))) + (if w4_43 ≤ 0 then (0 : Int32) else (w4_43 - (1 : Int32)))))))) (a := (0 : Int32)) (b := (1 : Int32)) (Wj := fun vj => W p l e (k2_rm 5 122) s m args below meth c H locs 0 0 Q (F0 m 144 ls [.int vj, .int (((4 : Int32) * w3_43) + w4_43), .ref (ad 18)])) (fun k12a k12b => ?_) ?_
            · refine W.lcmp hx hb dX8_findYears_135 ?_
              refine lv_if_le (tgt := 143) hx hb dX8_findYears_136 (by decide) (fun c11 => ?_) (fun c11 => ?_)
              · refine lv_iconst (v := 0) hx hb dX8_findYears_143 (by decide) ?_
                exact k12a ((lg_cmp_le _ _).mp c11)
              · refine lv_iconst (v := 1) hx hb dX8_findYears_139 (by decide) ?_
                refine lv_goto (tgt := 144) hx hb dX8_findYears_140 (by decide) ?_
                exact k12b (fun hh => c11 ((lg_cmp_le _ _).mpr hh))
            · show W p l e (k2_rm 5 122) s m args below meth c H locs 0 0 Q (F0 m 144 ls [.int (if ((r4 - (4000 : Int64)) + (J4 17 (Int32.toNatClampNeg (((4 : Int32) * (w3_43 + (1 : Int32))) + (if (3 : Int32) ≤ w4_43 then (3 : Int32) else (w4_43 + (1 : Int32))))))) ≤ (r4 + (J4 17 (Int32.toNatClampNeg (((4 : Int32) * (w3_43 + (1 : Int32))) + (if w4_43 ≤ 0 then (0 : Int32) else (w4_43 - (1 : Int32))))))) then (0 : Int32) else (1 : Int32)), .int (((4 : Int32) * w3_43) + w4_43), .ref (ad 18)])
              obtain ⟨b13, h⟩ := og h
              refine as_m18 hC hK hP hD hS (gin_ok b13) dX8_findYears_144 (fun H locs hP hD hS => ?_)
              refine lv_aload_n hx hb dX8_findYears_145 rfl (lv_at hl 3 rfl) ?_
              refine gt_X8_58 hC hK hP dX8_findYears_146 ?_
              refine lv_iconst (v := 4) hx hb dX8_findYears_149 (by decide) ?_
              refine lv_iload_n hx hb dX8_findYears_150 rfl (lv_at hl 4 rfl) ?_
              refine lv_imul hx hb dX8_findYears_151 ?_
              refine lv_iload hx hb dX8_findYears_152 (lv_at hl 5 rfl) ?_
              refine lv_iadd hx hb dX8_findYears_154 ?_
              refine lv_lload hx hb dX8_findYears_155 (lv_at hl 0 rfl) ?_
              refine lv_lload hx hb dX8_findYears_157 (lv_at hl 1 rfl) ?_
              refine tern (α := Int64) (cnd := ((r4 - (4000 : Int64)) + (J4 17 (Int32.toNatClampNeg (((4 : Int32) * (w3_43 + (1 : Int32))) + (if (3 : Int32) ≤ w4_43 then (3 : Int32) else (w4_43 + (1 : Int32))))))) ≤ (r4 + (J4 17 (Int32.toNatClampNeg (((4 : Int32) * (w3_43 + (1 : Int32))) + (if w4_43 ≤ 0 then (0 : Int32) else (w4_43 - (1 : Int32)))))))) (a := (r4 + (J4 17 (Int32.toNatClampNeg (((4 : Int32) * (w3_43 + (1 : Int32))) + (if w4_43 ≤ 0 then (0 : Int32) else (w4_43 - (1 : Int32)))))))) (b := ((r4 - (4000 : Int64)) + (J4 17 (Int32.toNatClampNeg (((4 : Int32) * (w3_43 + (1 : Int32))) + (if (3 : Int32) ≤ w4_43 then (3 : Int32) else (w4_43 + (1 : Int32)))))))) (Wj := fun vj => W p l e (k2_rm 5 122) s m args below meth c H locs 0 0 Q (F0 m 170 ls [.long vj, .int (((4 : Int32) * w3_43) + w4_43), .ref (ad 17)])) (fun k15a k15b => ?_) ?_
              · refine W.lcmp hx hb dX8_findYears_159 ?_
                refine lv_if_le (tgt := 168) hx hb dX8_findYears_160 (by decide) (fun c14 => ?_) (fun c14 => ?_)
                · refine lv_lload hx hb dX8_findYears_168 (lv_at hl 1 rfl) ?_
                  exact k15a ((lg_cmp_le _ _).mp c14)
                · refine lv_lload hx hb dX8_findYears_163 (lv_at hl 0 rfl) ?_
                  refine lv_goto (tgt := 170) hx hb dX8_findYears_165 (by decide) ?_
                  exact k15b (fun hh => c14 ((lg_cmp_le _ _).mpr hh))
              · show W p l e (k2_rm 5 122) s m args below meth c H locs 0 0 Q (F0 m 170 ls [.long (if ((r4 - (4000 : Int64)) + (J4 17 (Int32.toNatClampNeg (((4 : Int32) * (w3_43 + (1 : Int32))) + (if (3 : Int32) ≤ w4_43 then (3 : Int32) else (w4_43 + (1 : Int32))))))) ≤ (r4 + (J4 17 (Int32.toNatClampNeg (((4 : Int32) * (w3_43 + (1 : Int32))) + (if w4_43 ≤ 0 then (0 : Int32) else (w4_43 - (1 : Int32))))))) then (r4 + (J4 17 (Int32.toNatClampNeg (((4 : Int32) * (w3_43 + (1 : Int32))) + (if w4_43 ≤ 0 then (0 : Int32) else (w4_43 - (1 : Int32))))))) else ((r4 - (4000 : Int64)) + (J4 17 (Int32.toNatClampNeg (((4 : Int32) * (w3_43 + (1 : Int32))) + (if (3 : Int32) ≤ w4_43 then (3 : Int32) else (w4_43 + (1 : Int32)))))))), .int (((4 : Int32) * w3_43) + w4_43), .ref (ad 17)])
                obtain ⟨b16, h⟩ := og h
                refine as_m17 hC hK hP hD hS (gin_ok b16) dX8_findYears_170 (fun H locs hP hD hS => ?_)
                refine lv_iinc (v := (w4_43 + 1)) (lv' := [(4, .int (w4_43 + 1)), (9, .long ((r4 - (4000 : Int64)) + (J4 17 (Int32.toNatClampNeg (((4 : Int32) * (w3_43 + (1 : Int32))) + (if (3 : Int32) ≤ w4_43 then (3 : Int32) else (w4_43 + (1 : Int32)))))))), (7, .long (r4 + (J4 17 (Int32.toNatClampNeg (((4 : Int32) * (w3_43 + (1 : Int32))) + (if w4_43 ≤ 0 then (0 : Int32) else (w4_43 - (1 : Int32)))))))), (5, .long r4), (0, .ref (ad 0)), (3, .int w3_43)]) hx hb dX8_findYears_171 hl (k := 5) rfl rfl (by decide) rfl (fun ls hl => ?_)
                refine lv_goto (tgt := 43) hx hb dX8_findYears_174 (by decide) ?_
                exact ih (u1 I4 18 (upd (I4 18) (Int32.toNatClampNeg (((4 : Int32) * w3_43) + w4_43)) (if ((r4 - (4000 : Int64)) + (J4 17 (Int32.toNatClampNeg (((4 : Int32) * (w3_43 + (1 : Int32))) + (if (3 : Int32) ≤ w4_43 then (3 : Int32) else (w4_43 + (1 : Int32))))))) ≤ (r4 + (J4 17 (Int32.toNatClampNeg (((4 : Int32) * (w3_43 + (1 : Int32))) + (if w4_43 ≤ 0 then (0 : Int32) else (w4_43 - (1 : Int32))))))) then (0 : Int32) else (1 : Int32)))) (u1 J4 17 (vp_updL (J4 17) (Int32.toNatClampNeg (((4 : Int32) * w3_43) + w4_43)) (if ((r4 - (4000 : Int64)) + (J4 17 (Int32.toNatClampNeg (((4 : Int32) * (w3_43 + (1 : Int32))) + (if (3 : Int32) ≤ w4_43 then (3 : Int32) else (w4_43 + (1 : Int32))))))) ≤ (r4 + (J4 17 (Int32.toNatClampNeg (((4 : Int32) * (w3_43 + (1 : Int32))) + (if w4_43 ≤ 0 then (0 : Int32) else (w4_43 - (1 : Int32))))))) then (r4 + (J4 17 (Int32.toNatClampNeg (((4 : Int32) * (w3_43 + (1 : Int32))) + (if w4_43 ≤ 0 then (0 : Int32) else (w4_43 - (1 : Int32))))))) else ((r4 - (4000 : Int64)) + (J4 17 (Int32.toNatClampNeg (((4 : Int32) * (w3_43 + (1 : Int32))) + (if (3 : Int32) ≤ w4_43 then (3 : Int32) else (w4_43 + (1 : Int32)))))))))) w3_43 (w4_43 + 1) _ _ _ _ _ _ _ h hP hD hS (lv_sub hl [4, 5, 0] rfl) hexit
  have loop_36 : ∀ (n : Nat) (I : SI) (J : SJ) (w3_36 : Int32)  (H : Heap) (locs : List Loc) (ls : Array Slot), FL_X8_findYears_36 n I J w3_36 = some (rI, rJ) → Pg g (mW ad g I J) H → va_D A (mW ad g I J) → va_S A s.heap H locs → lv_has ls 11 [(0, .ref (ad 0)), (3, .int w3_36)] → W p l e (k2_rm 5 122) s m args below meth c H locs 0 0 Q (F0 m 36 ls []) := by
    intro n
    induction n with
    | zero =>
      intro I J w3_36 H locs ls h
      exact no h
    | succ n ih =>
      intro I J w3_36 H locs ls h hP hD hS hl
      rw [FL_X8_findYears_36] at h
      refine lv_iload_n hx hb dX8_findYears_36 rfl (lv_at hl 1 rfl) ?_
      refine lv_if_lt (tgt := 183) hx hb dX8_findYears_37 (by decide) (fun c2 => ?_) (fun c2 => ?_)
      · replace h := (if_pos c2).symm.trans h
        obtain ⟨rfl, rfl⟩ := Prod.mk.inj (Option.some.inj h)
        exact hret _ _ _ _ dX8_findYears_183 hP hD hS
      · replace h := (if_neg c2).symm.trans h
        refine lv_iconst (v := 0) hx hb dX8_findYears_40 (by decide) ?_
        refine lv_istore (lv' := [(4, .int (0 : Int32)), (0, .ref (ad 0)), (3, .int w3_36)]) hx hb dX8_findYears_41 hl (by decide) rfl (fun ls hl => ?_)
        obtain ⟨⟨I17, J17, u3_17, u4_17⟩, hc17, h⟩ := ob h
        dsimp only at h
        refine loop_43 3000 I J w3_36 (0 : Int32) I17 J17 u3_17 u4_17 _ _ _ hc17 hP hD hS (lv_sub hl [1, 2, 0] rfl) (fun H locs ls hP hD hS hl => ?_)
        refine lv_iinc (v := (u3_17 + (-1))) (lv' := [(3, .int (u3_17 + (-1))), (0, .ref (ad 0)), (4, .int u4_17)]) hx hb dX8_findYears_177 hl (k := 1) rfl rfl (by decide) rfl (fun ls hl => ?_)
        refine lv_goto (tgt := 36) hx hb dX8_findYears_180 (by decide) ?_
        exact ih I17 J17 (u3_17 + (-1)) _ _ _ h hP hD hS (lv_sub hl [1, 0] rfl)
  have loop_2 : ∀ (n : Nat) (I : SI) (J : SJ) (w1_2 : Int32) (w2_2 : Int32) (w3_2 : Int32)  (H : Heap) (locs : List Loc) (ls : Array Slot), FL_X8_findYears_2 n I J w1_2 w2_2 w3_2 = some (rI, rJ) → Pg g (mW ad g I J) H → va_D A (mW ad g I J) → va_S A s.heap H locs → lv_has ls 11 [(0, .ref (ad 0)), (1, .int w1_2), (2, .int w2_2), (3, .int w3_2)] → W p l e (k2_rm 5 122) s m args below meth c H locs 0 0 Q (F0 m 2 ls []) := by
    intro n
    induction n with
    | zero =>
      intro I J w1_2 w2_2 w3_2 H locs ls h
      exact no h
    | succ n ih =>
      intro I J w1_2 w2_2 w3_2 H locs ls h hP hD hS hl
      rw [FL_X8_findYears_2] at h
      refine lv_iload_n hx hb dX8_findYears_2 rfl (lv_at hl 3 rfl) ?_
      refine lv_iconst (v := 4) hx hb dX8_findYears_3 (by decide) ?_
      refine lv_icmp_ge (tgt := 32) hx hb dX8_findYears_4 (by decide) (fun c1 => ?_) (fun c1 => ?_)
      · replace h := (if_pos c1).symm.trans h
        refine lv_iload_n hx hb dX8_findYears_32 rfl (lv_at hl 1 rfl) ?_
        refine lv_iconst (v := 1) hx hb dX8_findYears_33 (by decide) ?_
        refine lv_isub hx hb dX8_findYears_34 ?_
        refine lv_istore_n (lv' := [(3, .int (w1_2 - (1 : Int32))), (0, .ref (ad 0)), (1, .int w1_2), (2, .int w2_2)]) hx hb dX8_findYears_35 rfl hl (by decide) rfl (fun ls hl => ?_)
        exact loop_36 3000 I J (w1_2 - (1 : Int32)) _ _ _ h hP hD hS (lv_sub hl [1, 0] rfl)
      · replace h := (if_neg c1).symm.trans h
        refine lv_aload_n hx hb dX8_findYears_7 rfl (lv_at hl 0 rfl) ?_
        refine gt_X8_58 hC hK hP dX8_findYears_8 ?_
        refine lv_iconst (v := 4) hx hb dX8_findYears_11 (by decide) ?_
        refine lv_iload_n hx hb dX8_findYears_12 rfl (lv_at hl 1 rfl) ?_
        refine lv_imul hx hb dX8_findYears_13 ?_
        refine lv_iload_n hx hb dX8_findYears_14 rfl (lv_at hl 3 rfl) ?_
        refine lv_iadd hx hb dX8_findYears_15 ?_
        refine lv_ldc2 hx hb hown (hts _ kc_X8_197) dX8_findYears_16 ?_
        refine lv_iload_n hx hb dX8_findYears_19 rfl (lv_at hl 2 rfl) ?_
        refine lv_i2l hx hb dX8_findYears_20 rfl ?_
        refine lv_lmul hx hb dX8_findYears_21 ?_
        refine lv_iload_n hx hb dX8_findYears_22 rfl (lv_at hl 3 rfl) ?_
        refine lv_i2l hx hb dX8_findYears_23 rfl ?_
        refine lv_lmul hx hb dX8_findYears_24 ?_
        obtain ⟨b18, h⟩ := og h
        refine as_m17 hC hK hP hD hS (gin_ok b18) dX8_findYears_25 (fun H locs hP hD hS => ?_)
        refine lv_iinc (v := (w3_2 + 1)) (lv' := [(3, .int (w3_2 + 1)), (0, .ref (ad 0)), (1, .int w1_2), (2, .int w2_2)]) hx hb dX8_findYears_26 hl (k := 3) rfl rfl (by decide) rfl (fun ls hl => ?_)
        refine lv_goto (tgt := 2) hx hb dX8_findYears_29 (by decide) ?_
        exact ih I (u1 J 17 (vp_updL (J 17) (Int32.toNatClampNeg (((4 : Int32) * w1_2) + w3_2)) (((1000 : Int64) * (Int32.toInt64 w2_2)) * (Int32.toInt64 w3_2)))) w1_2 w2_2 (w3_2 + 1) _ _ _ h hP hD hS (lv_sub hl [1, 2, 3, 0] rfl)
  unfold F_X8_findYears at h
  refine lv_iconst (v := 0) hx hb dX8_findYears_0 (by decide) ?_
  refine lv_istore_n (lv' := [(3, .int (0 : Int32)), (0, .ref (ad 0)), (1, .int v1), (2, .int v2)]) hx hb dX8_findYears_1 rfl hl (by decide) rfl (fun ls hl => ?_)
  exact loop_2 3000 I J v1 v2 (0 : Int32) _ _ _ h hP hD hS (lv_sub hl [1, 2, 3, 0] rfl)
def FL_X8_dungedFrom_8  : Nat → SI → SJ → Int32 → Int32 → Int32 → Int32 → Option (Int32)
  | 0, _, _, _, _, _, _ => none
  | n + 1, I, J, w2_8, w3_8, w4_8, w5_8 => (if w2_8 ≤ w5_8 then (some w4_8) else (if gin (((4 : Int32) * w5_8) + w3_8) 44 = true then (if (I 18 (Int32.toNatClampNeg (((4 : Int32) * w5_8) + w3_8))) = (1 : Int32) then (FL_X8_dungedFrom_8 n I J w2_8 (if (3 : Int32) ≤ w3_8 then (3 : Int32) else (w3_8 + (1 : Int32))) (w4_8 ||| ((1 : Int32) <<< (w5_8 &&& 31))) (w5_8 + 1)) else (FL_X8_dungedFrom_8 n I J w2_8 (if w3_8 ≤ 0 then (0 : Int32) else (w3_8 - (1 : Int32))) w4_8 (w5_8 + 1))) else none))
def F_X8_dungedFrom (I : SI) (J : SJ) (v1 : Int32) (v2 : Int32) : Option (Int32) := (FL_X8_dungedFrom_8 3000 I J v2 v1 (0 : Int32) (0 : Int32))
set_option maxHeartbeats 4000000 in
set_option maxRecDepth 100000 in
theorem c_X8_dungedFrom (l : Launch) (g : Gx) (ad : Nat → Nat) (I : SI) (J : SJ) (v1 : Int32) (v2 : Int32)  {r : Int32} (h : F_X8_dungedFrom I J v1 v2 = some r) : Met l yX8_dungedFrom (Cond.code yX8_dungedFrom cX8_dungedFrom 6 (some .int) :: BG) (k2_rm 0 0) (va_Pc [.ref (ad 0), .int v1, .int v2] (fun U => Pg g (mW ad g I J) U.heap ∧ Kg g U)) (k2_QcV (.int r)) 0 0 (fun _ => False) := by
  refine mkRi (by decide) (Nat.le_of_ble_eq_true rfl) ?_
  intro p e s m args below meth c H locs ls Q hC hK hP hl hret
  have hx := hC.1
  have hb := hC.2.1
  have hts := hC.2.2.2.2
  have hown := hC.2.2.2.1
  replace hl : lv_has ls 6 [(0, .ref (ad 0)), (1, .int v1), (2, .int v2)] := hl
  have loop_8 : ∀ (n : Nat) (w2_8 : Int32) (w3_8 : Int32) (w4_8 : Int32) (w5_8 : Int32)  (ls : Array Slot), FL_X8_dungedFrom_8 n I J w2_8 w3_8 w4_8 w5_8 = some r → lv_has ls 6 [(0, .ref (ad 0)), (2, .int w2_8), (3, .int w3_8), (4, .int w4_8), (5, .int w5_8)] → W p l e (k2_rm 0 0) s m args below meth c H locs 0 0 Q (F0 m 8 ls []) := by
    intro n
    induction n with
    | zero =>
      intro w2_8 w3_8 w4_8 w5_8 ls h
      exact no h
    | succ n ih =>
      intro w2_8 w3_8 w4_8 w5_8 ls h hl
      rw [FL_X8_dungedFrom_8] at h
      refine lv_iload hx hb dX8_dungedFrom_8 (lv_at hl 4 rfl) ?_
      refine lv_iload_n hx hb dX8_dungedFrom_10 rfl (lv_at hl 1 rfl) ?_
      refine lv_icmp_ge (tgt := 72) hx hb dX8_dungedFrom_11 (by decide) (fun c1 => ?_) (fun c1 => ?_)
      · replace h := (if_pos c1).symm.trans h
        refine lv_iload hx hb dX8_dungedFrom_72 (lv_at hl 3 rfl) ?_
        exact hret _ _ _ dX8_dungedFrom_74 (Option.some.inj h)
      · replace h := (if_neg c1).symm.trans h
        refine lv_aload_n hx hb dX8_dungedFrom_14 rfl (lv_at hl 0 rfl) ?_
        refine gt_X8_62 hC hK hP dX8_dungedFrom_15 ?_
        refine lv_iconst (v := 4) hx hb dX8_dungedFrom_18 (by decide) ?_
        refine lv_iload hx hb dX8_dungedFrom_19 (lv_at hl 4 rfl) ?_
        refine lv_imul hx hb dX8_dungedFrom_21 ?_
        refine lv_iload_n hx hb dX8_dungedFrom_22 rfl (lv_at hl 2 rfl) ?_
        refine lv_iadd hx hb dX8_dungedFrom_23 ?_
        obtain ⟨b2, h⟩ := og h
        refine al_m18 hC hK hP (gin_ok b2) dX8_dungedFrom_24 ?_
        refine lv_iconst (v := 1) hx hb dX8_dungedFrom_25 (by decide) ?_
        refine lv_icmp_ne (tgt := 54) hx hb dX8_dungedFrom_26 (by decide) (fun c3 => ?_) (fun c3 => ?_)
        · replace h := (if_neg c3).symm.trans h
          refine lv_iload_n hx hb dX8_dungedFrom_54 rfl (lv_at hl 2 rfl) ?_
          refine tern (α := Int32) (cnd := w3_8 ≤ 0) (a := (0 : Int32)) (b := (w3_8 - (1 : Int32))) (Wj := fun vj => W p l e (k2_rm 0 0) s m args below meth c H locs 0 0 Q (F0 m 65 ls [.int vj])) (fun k5a k5b => ?_) ?_
          · refine lv_if_le (tgt := 64) hx hb dX8_dungedFrom_55 (by decide) (fun c4 => ?_) (fun c4 => ?_)
            · refine lv_iconst (v := 0) hx hb dX8_dungedFrom_64 (by decide) ?_
              exact k5a c4
            · refine lv_iload_n hx hb dX8_dungedFrom_58 rfl (lv_at hl 2 rfl) ?_
              refine lv_iconst (v := 1) hx hb dX8_dungedFrom_59 (by decide) ?_
              refine lv_isub hx hb dX8_dungedFrom_60 ?_
              refine lv_goto (tgt := 65) hx hb dX8_dungedFrom_61 (by decide) ?_
              exact k5b c4
          · show W p l e (k2_rm 0 0) s m args below meth c H locs 0 0 Q (F0 m 65 ls [.int (if w3_8 ≤ 0 then (0 : Int32) else (w3_8 - (1 : Int32)))])
            refine lv_istore_n (lv' := [(3, .int (if w3_8 ≤ 0 then (0 : Int32) else (w3_8 - (1 : Int32)))), (0, .ref (ad 0)), (2, .int w2_8), (4, .int w4_8), (5, .int w5_8)]) hx hb dX8_dungedFrom_65 rfl hl (by decide) rfl (fun ls hl => ?_)
            refine lv_iinc (v := (w5_8 + 1)) (lv' := [(5, .int (w5_8 + 1)), (3, .int (if w3_8 ≤ 0 then (0 : Int32) else (w3_8 - (1 : Int32)))), (0, .ref (ad 0)), (2, .int w2_8), (4, .int w4_8)]) hx hb dX8_dungedFrom_66 hl (k := 4) rfl rfl (by decide) rfl (fun ls hl => ?_)
            refine lv_goto (tgt := 8) hx hb dX8_dungedFrom_69 (by decide) ?_
            exact ih w2_8 (if w3_8 ≤ 0 then (0 : Int32) else (w3_8 - (1 : Int32))) w4_8 (w5_8 + 1) _ h (lv_sub hl [2, 3, 1, 4, 0] rfl)
        · replace h := (if_pos c3).symm.trans h
          refine lv_iload hx hb dX8_dungedFrom_29 (lv_at hl 3 rfl) ?_
          refine lv_iconst (v := 1) hx hb dX8_dungedFrom_31 (by decide) ?_
          refine lv_iload hx hb dX8_dungedFrom_32 (lv_at hl 4 rfl) ?_
          refine lv_ishl hx hb dX8_dungedFrom_34 ?_
          refine lv_ior hx hb dX8_dungedFrom_35 ?_
          refine lv_istore (lv' := [(4, .int (w4_8 ||| ((1 : Int32) <<< (w5_8 &&& 31)))), (0, .ref (ad 0)), (2, .int w2_8), (3, .int w3_8), (5, .int w5_8)]) hx hb dX8_dungedFrom_36 hl (by decide) rfl (fun ls hl => ?_)
          refine lv_iload_n hx hb dX8_dungedFrom_38 rfl (lv_at hl 3 rfl) ?_
          refine lv_iconst (v := 3) hx hb dX8_dungedFrom_39 (by decide) ?_
          refine tern (α := Int32) (cnd := (3 : Int32) ≤ w3_8) (a := (3 : Int32)) (b := (w3_8 + (1 : Int32))) (Wj := fun vj => W p l e (k2_rm 0 0) s m args below meth c H locs 0 0 Q (F0 m 50 ls [.int vj])) (fun k7a k7b => ?_) ?_
          · refine lv_icmp_ge (tgt := 49) hx hb dX8_dungedFrom_40 (by decide) (fun c6 => ?_) (fun c6 => ?_)
            · refine lv_iconst (v := 3) hx hb dX8_dungedFrom_49 (by decide) ?_
              exact k7a c6
            · refine lv_iload_n hx hb dX8_dungedFrom_43 rfl (lv_at hl 3 rfl) ?_
              refine lv_iconst (v := 1) hx hb dX8_dungedFrom_44 (by decide) ?_
              refine lv_iadd hx hb dX8_dungedFrom_45 ?_
              refine lv_goto (tgt := 50) hx hb dX8_dungedFrom_46 (by decide) ?_
              exact k7b c6
          · show W p l e (k2_rm 0 0) s m args below meth c H locs 0 0 Q (F0 m 50 ls [.int (if (3 : Int32) ≤ w3_8 then (3 : Int32) else (w3_8 + (1 : Int32)))])
            refine lv_istore_n (lv' := [(3, .int (if (3 : Int32) ≤ w3_8 then (3 : Int32) else (w3_8 + (1 : Int32)))), (4, .int (w4_8 ||| ((1 : Int32) <<< (w5_8 &&& 31)))), (0, .ref (ad 0)), (2, .int w2_8), (5, .int w5_8)]) hx hb dX8_dungedFrom_50 rfl hl (by decide) rfl (fun ls hl => ?_)
            refine lv_goto (tgt := 66) hx hb dX8_dungedFrom_51 (by decide) ?_
            refine lv_iinc (v := (w5_8 + 1)) (lv' := [(5, .int (w5_8 + 1)), (3, .int (if (3 : Int32) ≤ w3_8 then (3 : Int32) else (w3_8 + (1 : Int32)))), (4, .int (w4_8 ||| ((1 : Int32) <<< (w5_8 &&& 31)))), (0, .ref (ad 0)), (2, .int w2_8)]) hx hb dX8_dungedFrom_66 hl (k := 4) rfl rfl (by decide) rfl (fun ls hl => ?_)
            refine lv_goto (tgt := 8) hx hb dX8_dungedFrom_69 (by decide) ?_
            exact ih w2_8 (if (3 : Int32) ≤ w3_8 then (3 : Int32) else (w3_8 + (1 : Int32))) (w4_8 ||| ((1 : Int32) <<< (w5_8 &&& 31))) (w5_8 + 1) _ h (lv_sub hl [3, 4, 1, 2, 0] rfl)
  unfold F_X8_dungedFrom at h
  refine lv_iload_n hx hb dX8_dungedFrom_0 rfl (lv_at hl 1 rfl) ?_
  refine lv_istore_n (lv' := [(3, .int v1), (0, .ref (ad 0)), (1, .int v1), (2, .int v2)]) hx hb dX8_dungedFrom_1 rfl hl (by decide) rfl (fun ls hl => ?_)
  refine lv_iconst (v := 0) hx hb dX8_dungedFrom_2 (by decide) ?_
  refine lv_istore (lv' := [(4, .int (0 : Int32)), (3, .int v1), (0, .ref (ad 0)), (1, .int v1), (2, .int v2)]) hx hb dX8_dungedFrom_3 hl (by decide) rfl (fun ls hl => ?_)
  refine lv_iconst (v := 0) hx hb dX8_dungedFrom_5 (by decide) ?_
  refine lv_istore (lv' := [(5, .int (0 : Int32)), (4, .int (0 : Int32)), (3, .int v1), (0, .ref (ad 0)), (1, .int v1), (2, .int v2)]) hx hb dX8_dungedFrom_6 hl (by decide) rfl (fun ls hl => ?_)
  exact loop_8 3000 v2 v1 (0 : Int32) (0 : Int32) _ h (lv_sub hl [3, 5, 2, 1, 0] rfl)
def F_X8_years (I : SI) (J : SJ) (v1 : Int32) (v2 : Int32) (v3 : Int32) (v4 : Int32) : Option (Int64 × SI × SJ) := ((F_X8_isTerm I J v1).bind fun r1 => (if r1 = 0 then ((F_X8_noLong I J (-1 : Int32)).bind fun (r39, I39, J39) => (some (r39, I39, J39))) else ((F_X8_isIn v4 (0 : Int32) (1 : Int32)).bind fun r3 => (if r3 = 0 then ((F_X8_noLong I J (-2 : Int32)).bind fun (r38, I38, J38) => (some (r38, I38, J38))) else (if v2 < 0 then (if (-4 : Int32) = 0 then ((F_X8_takesTerm I J v1).bind fun (I7, J7) => ((F_X8_findYears I7 J7 v3 (0 : Int32)).bind fun (I8, J8) => (if v4 = 0 then ((F_X8_dungedFrom I8 J8 v2 v3).bind fun r11 => (some ((Int32.toInt64 r11), I8, J8))) else (if gin v2 44 = true then (some ((J8 17 (Int32.toNatClampNeg v2)), I8, J8)) else none)))) else ((F_X8_noLong I J (-4 : Int32)).bind fun (r12, I12, J12) => (some (r12, I12, J12)))) else (if (1 : Int32) ≤ v3 then (if (3 : Int32) < v2 then (if (-6 : Int32) = 0 then ((F_X8_takesTerm I J v1).bind fun (I16, J16) => ((F_X8_findYears I16 J16 v3 (0 : Int32)).bind fun (I17, J17) => (if v4 = 0 then ((F_X8_dungedFrom I17 J17 v2 v3).bind fun r20 => (some ((Int32.toInt64 r20), I17, J17))) else (if gin v2 44 = true then (some ((J17 17 (Int32.toNatClampNeg v2)), I17, J17)) else none)))) else ((F_X8_noLong I J (-6 : Int32)).bind fun (r21, I21, J21) => (some (r21, I21, J21)))) else (if (if v3 ≤ (10 : Int32) then (0 : Int32) else (-6 : Int32)) = 0 then ((F_X8_takesTerm I J v1).bind fun (I25, J25) => ((F_X8_findYears I25 J25 v3 (0 : Int32)).bind fun (I26, J26) => (if v4 = 0 then ((F_X8_dungedFrom I26 J26 v2 v3).bind fun r29 => (some ((Int32.toInt64 r29), I26, J26))) else (if gin v2 44 = true then (some ((J26 17 (Int32.toNatClampNeg v2)), I26, J26)) else none)))) else ((F_X8_noLong I J (if v3 ≤ (10 : Int32) then (0 : Int32) else (-6 : Int32))).bind fun (r30, I30, J30) => (some (r30, I30, J30))))) else (if (-4 : Int32) = 0 then ((F_X8_takesTerm I J v1).bind fun (I32, J32) => ((F_X8_findYears I32 J32 v3 (0 : Int32)).bind fun (I33, J33) => (if v4 = 0 then ((F_X8_dungedFrom I33 J33 v2 v3).bind fun r36 => (some ((Int32.toInt64 r36), I33, J33))) else (if gin v2 44 = true then (some ((J33 17 (Int32.toNatClampNeg v2)), I33, J33)) else none)))) else ((F_X8_noLong I J (-4 : Int32)).bind fun (r37, I37, J37) => (some (r37, I37, J37))))))))))
set_option maxHeartbeats 4000000 in
set_option maxRecDepth 100000 in
theorem c_X8_years (l : Launch) (g : Gx) (ad : Nat → Nat) (I : SI) (J : SJ) (v1 : Int32) (v2 : Int32) (v3 : Int32) (v4 : Int32)  (sz : Nat) {r : Int64} {rI : SI} {rJ : SJ} (h : F_X8_years I J v1 v2 v3 v4 = some (r, rI, rJ)) : Met l yX8_years (Cond.code yX8_years cX8_years 6 (some .long) :: BG) (k2_rm 6 152) (PcW [.ref (ad 0), .int v1, .int v2, .int v3, .int v4] g (mW ad g I J) sz) (QWl r g (mW ad g I J) (mW ad g rI rJ) sz) 0 0 (va_A (mW ad g I J) sz) := by
  refine mkWl (by decide) (Nat.le_of_ble_eq_true rfl) ?_
  intro p e s m args below meth c H locs ls A Q hC hK hP hD hA hS hl hret
  have hx := hC.1
  have hb := hC.2.1
  have hts := hC.2.2.2.2
  have hown := hC.2.2.2.1
  replace hl : lv_has ls 6 [(0, .ref (ad 0)), (1, .int v1), (2, .int v2), (3, .int v3), (4, .int v4)] := hl
  unfold F_X8_years at h
  refine lv_aload_n hx hb dX8_years_0 rfl (lv_at hl 0 rfl) ?_
  refine lv_iload_n hx hb dX8_years_1 rfl (lv_at hl 1 rfl) ?_
  obtain ⟨r1, hc1, h⟩ := ob h
  refine callRV (As := [.int v1]) (rest := []) hC (c_X8_isTerm l g ad I J v1  hc1) lk_X8_155 rfl rfl ⟨Nat.le_of_ble_eq_true rfl, Nat.le_of_ble_eq_true rfl⟩ hP hK mo_0 rfl rfl rfl hl (Nat.le_of_ble_eq_true rfl) dX8_years_2 ?_
  refine lv_if_ne (tgt := 14) hx hb dX8_years_5 (by decide) (fun c2 => ?_) (fun c2 => ?_)
  · replace h := (if_neg c2).symm.trans h
    refine lv_iload hx hb dX8_years_14 (lv_at hl 4 rfl) ?_
    refine lv_iconst (v := 0) hx hb dX8_years_16 (by decide) ?_
    refine lv_iconst (v := 1) hx hb dX8_years_17 (by decide) ?_
    obtain ⟨r3, hc3, h⟩ := ob h
    refine callRS (As := [.int v4, .int (0 : Int32), .int (1 : Int32)]) (rest := []) hC (c_X8_isIn l g (mW ad g I J) v4 (0 : Int32) (1 : Int32) hc3) lk_X8_104 rfl rfl ⟨Nat.le_of_ble_eq_true rfl, Nat.le_of_ble_eq_true rfl⟩ hP hK rfl rfl hl (Nat.le_of_ble_eq_true rfl) dX8_years_18 ?_
    refine lv_if_ne (tgt := 31) hx hb dX8_years_21 (by decide) (fun c4 => ?_) (fun c4 => ?_)
    · replace h := (if_neg c4).symm.trans h
      refine lv_iload_n hx hb dX8_years_31 rfl (lv_at hl 2 rfl) ?_
      refine lv_if_lt (tgt := 40) hx hb dX8_years_32 (by decide) (fun c5 => ?_) (fun c5 => ?_)
      · replace h := (if_pos c5).symm.trans h
        refine lv_bipush (v := -4) hx hb dX8_years_40 (by decide) ?_
        refine lv_goto (tgt := 62) hx hb dX8_years_42 (by decide) ?_
        refine lv_istore (lv' := [(5, .int (-4 : Int32)), (0, .ref (ad 0)), (1, .int v1), (2, .int v2), (3, .int v3), (4, .int v4)]) hx hb dX8_years_62 hl (by decide) rfl (fun ls hl => ?_)
        refine lv_iload hx hb dX8_years_64 (lv_at hl 0 rfl) ?_
        refine lv_if_eq (tgt := 76) hx hb dX8_years_66 (by decide) (fun c6 => ?_) (fun c6 => ?_)
        · replace h := (if_pos c6).symm.trans h
          refine lv_aload_n hx hb dX8_years_76 rfl (lv_at hl 1 rfl) ?_
          refine lv_iload_n hx hb dX8_years_77 rfl (lv_at hl 2 rfl) ?_
          obtain ⟨⟨I7, J7⟩, hc7, h⟩ := ob h
          dsimp only at h
          refine callWVv (As := [.int v1]) (rest := []) hC (c_X8_takesTerm l g ad I J v1  H.size hc7) lk_X8_212 rfl rfl ⟨Nat.le_of_ble_eq_true rfl, Nat.le_of_ble_eq_true rfl⟩ hP hK hD hA hS mo_0 rfl rfl rfl hl (Nat.le_of_ble_eq_true rfl) dX8_years_78 (fun H locs hP hD hS => ?_)
          refine lv_aload_n hx hb dX8_years_81 rfl (lv_at hl 1 rfl) ?_
          refine lv_iload_n hx hb dX8_years_82 rfl (lv_at hl 4 rfl) ?_
          refine lv_iconst (v := 0) hx hb dX8_years_83 (by decide) ?_
          obtain ⟨⟨I8, J8⟩, hc8, h⟩ := ob h
          dsimp only at h
          refine callWVv (As := [.int v3, .int (0 : Int32)]) (rest := []) hC (c_X8_findYears l g ad I7 J7 v3 (0 : Int32)  H.size hc8) lk_X8_263 rfl rfl ⟨Nat.le_of_ble_eq_true rfl, Nat.le_of_ble_eq_true rfl⟩ hP hK hD hA hS mo_0 rfl rfl rfl hl (Nat.le_of_ble_eq_true rfl) dX8_years_84 (fun H locs hP hD hS => ?_)
          refine lv_iload hx hb dX8_years_87 (lv_at hl 5 rfl) ?_
          refine lv_if_ne (tgt := 102) hx hb dX8_years_89 (by decide) (fun c9 => ?_) (fun c9 => ?_)
          · replace h := (if_neg c9).symm.trans h
            refine lv_aload_n hx hb dX8_years_102 rfl (lv_at hl 1 rfl) ?_
            refine gt_X8_58 hC hK hP dX8_years_103 ?_
            refine lv_iload_n hx hb dX8_years_106 rfl (lv_at hl 3 rfl) ?_
            obtain ⟨b10, h⟩ := og h
            refine al_m17 hC hK hP (gin_ok b10) dX8_years_107 ?_
            obtain ⟨h1, h⟩ := Prod.mk.inj (Option.some.inj h)
            obtain ⟨rfl, rfl⟩ := Prod.mk.inj h
            exact hret _ _ _ _ _ dX8_years_108 h1 hP hD hS
          · replace h := (if_pos c9).symm.trans h
            refine lv_aload_n hx hb dX8_years_92 rfl (lv_at hl 1 rfl) ?_
            refine lv_iload_n hx hb dX8_years_93 rfl (lv_at hl 3 rfl) ?_
            refine lv_iload_n hx hb dX8_years_94 rfl (lv_at hl 4 rfl) ?_
            obtain ⟨r11, hc11, h⟩ := ob h
            refine callRV (As := [.int v2, .int v3]) (rest := []) hC (c_X8_dungedFrom l g ad I8 J8 v2 v3  hc11) lk_X8_267 rfl rfl ⟨Nat.le_of_ble_eq_true rfl, Nat.le_of_ble_eq_true rfl⟩ hP hK mo_0 rfl rfl rfl hl (Nat.le_of_ble_eq_true rfl) dX8_years_95 ?_
            refine lv_i2l hx hb dX8_years_98 rfl ?_
            refine lv_goto (tgt := 108) hx hb dX8_years_99 (by decide) ?_
            obtain ⟨h1, h⟩ := Prod.mk.inj (Option.some.inj h)
            obtain ⟨rfl, rfl⟩ := Prod.mk.inj h
            exact hret _ _ _ _ _ dX8_years_108 h1 hP hD hS
        · replace h := (if_neg c6).symm.trans h
          refine lv_aload_n hx hb dX8_years_69 rfl (lv_at hl 1 rfl) ?_
          refine lv_iload hx hb dX8_years_70 (lv_at hl 0 rfl) ?_
          obtain ⟨⟨r12, I12, J12⟩, hc12, h⟩ := ob h
          dsimp only at h
          refine callWVl (As := [.int (-4 : Int32)]) (rest := []) hC (c_X8_noLong l g ad I J (-4 : Int32)  H.size hc12) lk_X8_216 rfl rfl ⟨Nat.le_of_ble_eq_true rfl, Nat.le_of_ble_eq_true rfl⟩ hP hK hD hA hS mo_0 rfl rfl rfl hl (Nat.le_of_ble_eq_true rfl) dX8_years_72 (fun H locs hP hD hS => ?_)
          obtain ⟨h1, h⟩ := Prod.mk.inj (Option.some.inj h)
          obtain ⟨rfl, rfl⟩ := Prod.mk.inj h
          exact hret _ _ _ _ _ dX8_years_75 h1 hP hD hS
      · replace h := (if_neg c5).symm.trans h
        refine lv_iload_n hx hb dX8_years_35 rfl (lv_at hl 3 rfl) ?_
        refine lv_iconst (v := 1) hx hb dX8_years_36 (by decide) ?_
        refine lv_icmp_ge (tgt := 45) hx hb dX8_years_37 (by decide) (fun c13 => ?_) (fun c13 => ?_)
        · replace h := (if_pos c13).symm.trans h
          refine lv_iload_n hx hb dX8_years_45 rfl (lv_at hl 2 rfl) ?_
          refine lv_iconst (v := 3) hx hb dX8_years_46 (by decide) ?_
          refine lv_icmp_gt (tgt := 56) hx hb dX8_years_47 (by decide) (fun c14 => ?_) (fun c14 => ?_)
          · replace h := (if_pos c14).symm.trans h
            refine lv_bipush (v := -6) hx hb dX8_years_56 (by decide) ?_
            refine lv_goto (tgt := 62) hx hb dX8_years_58 (by decide) ?_
            refine lv_istore (lv' := [(5, .int (-6 : Int32)), (0, .ref (ad 0)), (1, .int v1), (2, .int v2), (3, .int v3), (4, .int v4)]) hx hb dX8_years_62 hl (by decide) rfl (fun ls hl => ?_)
            refine lv_iload hx hb dX8_years_64 (lv_at hl 0 rfl) ?_
            refine lv_if_eq (tgt := 76) hx hb dX8_years_66 (by decide) (fun c15 => ?_) (fun c15 => ?_)
            · replace h := (if_pos c15).symm.trans h
              refine lv_aload_n hx hb dX8_years_76 rfl (lv_at hl 1 rfl) ?_
              refine lv_iload_n hx hb dX8_years_77 rfl (lv_at hl 2 rfl) ?_
              obtain ⟨⟨I16, J16⟩, hc16, h⟩ := ob h
              dsimp only at h
              refine callWVv (As := [.int v1]) (rest := []) hC (c_X8_takesTerm l g ad I J v1  H.size hc16) lk_X8_212 rfl rfl ⟨Nat.le_of_ble_eq_true rfl, Nat.le_of_ble_eq_true rfl⟩ hP hK hD hA hS mo_0 rfl rfl rfl hl (Nat.le_of_ble_eq_true rfl) dX8_years_78 (fun H locs hP hD hS => ?_)
              refine lv_aload_n hx hb dX8_years_81 rfl (lv_at hl 1 rfl) ?_
              refine lv_iload_n hx hb dX8_years_82 rfl (lv_at hl 4 rfl) ?_
              refine lv_iconst (v := 0) hx hb dX8_years_83 (by decide) ?_
              obtain ⟨⟨I17, J17⟩, hc17, h⟩ := ob h
              dsimp only at h
              refine callWVv (As := [.int v3, .int (0 : Int32)]) (rest := []) hC (c_X8_findYears l g ad I16 J16 v3 (0 : Int32)  H.size hc17) lk_X8_263 rfl rfl ⟨Nat.le_of_ble_eq_true rfl, Nat.le_of_ble_eq_true rfl⟩ hP hK hD hA hS mo_0 rfl rfl rfl hl (Nat.le_of_ble_eq_true rfl) dX8_years_84 (fun H locs hP hD hS => ?_)
              refine lv_iload hx hb dX8_years_87 (lv_at hl 5 rfl) ?_
              refine lv_if_ne (tgt := 102) hx hb dX8_years_89 (by decide) (fun c18 => ?_) (fun c18 => ?_)
              · replace h := (if_neg c18).symm.trans h
                refine lv_aload_n hx hb dX8_years_102 rfl (lv_at hl 1 rfl) ?_
                refine gt_X8_58 hC hK hP dX8_years_103 ?_
                refine lv_iload_n hx hb dX8_years_106 rfl (lv_at hl 3 rfl) ?_
                obtain ⟨b19, h⟩ := og h
                refine al_m17 hC hK hP (gin_ok b19) dX8_years_107 ?_
                obtain ⟨h1, h⟩ := Prod.mk.inj (Option.some.inj h)
                obtain ⟨rfl, rfl⟩ := Prod.mk.inj h
                exact hret _ _ _ _ _ dX8_years_108 h1 hP hD hS
              · replace h := (if_pos c18).symm.trans h
                refine lv_aload_n hx hb dX8_years_92 rfl (lv_at hl 1 rfl) ?_
                refine lv_iload_n hx hb dX8_years_93 rfl (lv_at hl 3 rfl) ?_
                refine lv_iload_n hx hb dX8_years_94 rfl (lv_at hl 4 rfl) ?_
                obtain ⟨r20, hc20, h⟩ := ob h
                refine callRV (As := [.int v2, .int v3]) (rest := []) hC (c_X8_dungedFrom l g ad I17 J17 v2 v3  hc20) lk_X8_267 rfl rfl ⟨Nat.le_of_ble_eq_true rfl, Nat.le_of_ble_eq_true rfl⟩ hP hK mo_0 rfl rfl rfl hl (Nat.le_of_ble_eq_true rfl) dX8_years_95 ?_
                refine lv_i2l hx hb dX8_years_98 rfl ?_
                refine lv_goto (tgt := 108) hx hb dX8_years_99 (by decide) ?_
                obtain ⟨h1, h⟩ := Prod.mk.inj (Option.some.inj h)
                obtain ⟨rfl, rfl⟩ := Prod.mk.inj h
                exact hret _ _ _ _ _ dX8_years_108 h1 hP hD hS
            · replace h := (if_neg c15).symm.trans h
              refine lv_aload_n hx hb dX8_years_69 rfl (lv_at hl 1 rfl) ?_
              refine lv_iload hx hb dX8_years_70 (lv_at hl 0 rfl) ?_
              obtain ⟨⟨r21, I21, J21⟩, hc21, h⟩ := ob h
              dsimp only at h
              refine callWVl (As := [.int (-6 : Int32)]) (rest := []) hC (c_X8_noLong l g ad I J (-6 : Int32)  H.size hc21) lk_X8_216 rfl rfl ⟨Nat.le_of_ble_eq_true rfl, Nat.le_of_ble_eq_true rfl⟩ hP hK hD hA hS mo_0 rfl rfl rfl hl (Nat.le_of_ble_eq_true rfl) dX8_years_72 (fun H locs hP hD hS => ?_)
              obtain ⟨h1, h⟩ := Prod.mk.inj (Option.some.inj h)
              obtain ⟨rfl, rfl⟩ := Prod.mk.inj h
              exact hret _ _ _ _ _ dX8_years_75 h1 hP hD hS
          · replace h := (if_neg c14).symm.trans h
            refine lv_iload_n hx hb dX8_years_50 rfl (lv_at hl 3 rfl) ?_
            refine lv_bipush (v := 10) hx hb dX8_years_51 (by decide) ?_
            refine tern (α := Int32) (cnd := v3 ≤ (10 : Int32)) (a := (0 : Int32)) (b := (-6 : Int32)) (Wj := fun vj => W p l e (k2_rm 6 152) s m args below meth c H locs 0 0 Q (F0 m 62 ls [.int vj])) (fun k23a k23b => ?_) ?_
            · refine lv_icmp_le (tgt := 61) hx hb dX8_years_53 (by decide) (fun c22 => ?_) (fun c22 => ?_)
              · refine lv_iconst (v := 0) hx hb dX8_years_61 (by decide) ?_
                exact k23a c22
              · refine lv_bipush (v := -6) hx hb dX8_years_56 (by decide) ?_
                refine lv_goto (tgt := 62) hx hb dX8_years_58 (by decide) ?_
                exact k23b c22
            · show W p l e (k2_rm 6 152) s m args below meth c H locs 0 0 Q (F0 m 62 ls [.int (if v3 ≤ (10 : Int32) then (0 : Int32) else (-6 : Int32))])
              refine lv_istore (lv' := [(5, .int (if v3 ≤ (10 : Int32) then (0 : Int32) else (-6 : Int32))), (0, .ref (ad 0)), (1, .int v1), (2, .int v2), (3, .int v3), (4, .int v4)]) hx hb dX8_years_62 hl (by decide) rfl (fun ls hl => ?_)
              refine lv_iload hx hb dX8_years_64 (lv_at hl 0 rfl) ?_
              refine lv_if_eq (tgt := 76) hx hb dX8_years_66 (by decide) (fun c24 => ?_) (fun c24 => ?_)
              · replace h := (if_pos c24).symm.trans h
                refine lv_aload_n hx hb dX8_years_76 rfl (lv_at hl 1 rfl) ?_
                refine lv_iload_n hx hb dX8_years_77 rfl (lv_at hl 2 rfl) ?_
                obtain ⟨⟨I25, J25⟩, hc25, h⟩ := ob h
                dsimp only at h
                refine callWVv (As := [.int v1]) (rest := []) hC (c_X8_takesTerm l g ad I J v1  H.size hc25) lk_X8_212 rfl rfl ⟨Nat.le_of_ble_eq_true rfl, Nat.le_of_ble_eq_true rfl⟩ hP hK hD hA hS mo_0 rfl rfl rfl hl (Nat.le_of_ble_eq_true rfl) dX8_years_78 (fun H locs hP hD hS => ?_)
                refine lv_aload_n hx hb dX8_years_81 rfl (lv_at hl 1 rfl) ?_
                refine lv_iload_n hx hb dX8_years_82 rfl (lv_at hl 4 rfl) ?_
                refine lv_iconst (v := 0) hx hb dX8_years_83 (by decide) ?_
                obtain ⟨⟨I26, J26⟩, hc26, h⟩ := ob h
                dsimp only at h
                refine callWVv (As := [.int v3, .int (0 : Int32)]) (rest := []) hC (c_X8_findYears l g ad I25 J25 v3 (0 : Int32)  H.size hc26) lk_X8_263 rfl rfl ⟨Nat.le_of_ble_eq_true rfl, Nat.le_of_ble_eq_true rfl⟩ hP hK hD hA hS mo_0 rfl rfl rfl hl (Nat.le_of_ble_eq_true rfl) dX8_years_84 (fun H locs hP hD hS => ?_)
                refine lv_iload hx hb dX8_years_87 (lv_at hl 5 rfl) ?_
                refine lv_if_ne (tgt := 102) hx hb dX8_years_89 (by decide) (fun c27 => ?_) (fun c27 => ?_)
                · replace h := (if_neg c27).symm.trans h
                  refine lv_aload_n hx hb dX8_years_102 rfl (lv_at hl 1 rfl) ?_
                  refine gt_X8_58 hC hK hP dX8_years_103 ?_
                  refine lv_iload_n hx hb dX8_years_106 rfl (lv_at hl 3 rfl) ?_
                  obtain ⟨b28, h⟩ := og h
                  refine al_m17 hC hK hP (gin_ok b28) dX8_years_107 ?_
                  obtain ⟨h1, h⟩ := Prod.mk.inj (Option.some.inj h)
                  obtain ⟨rfl, rfl⟩ := Prod.mk.inj h
                  exact hret _ _ _ _ _ dX8_years_108 h1 hP hD hS
                · replace h := (if_pos c27).symm.trans h
                  refine lv_aload_n hx hb dX8_years_92 rfl (lv_at hl 1 rfl) ?_
                  refine lv_iload_n hx hb dX8_years_93 rfl (lv_at hl 3 rfl) ?_
                  refine lv_iload_n hx hb dX8_years_94 rfl (lv_at hl 4 rfl) ?_
                  obtain ⟨r29, hc29, h⟩ := ob h
                  refine callRV (As := [.int v2, .int v3]) (rest := []) hC (c_X8_dungedFrom l g ad I26 J26 v2 v3  hc29) lk_X8_267 rfl rfl ⟨Nat.le_of_ble_eq_true rfl, Nat.le_of_ble_eq_true rfl⟩ hP hK mo_0 rfl rfl rfl hl (Nat.le_of_ble_eq_true rfl) dX8_years_95 ?_
                  refine lv_i2l hx hb dX8_years_98 rfl ?_
                  refine lv_goto (tgt := 108) hx hb dX8_years_99 (by decide) ?_
                  obtain ⟨h1, h⟩ := Prod.mk.inj (Option.some.inj h)
                  obtain ⟨rfl, rfl⟩ := Prod.mk.inj h
                  exact hret _ _ _ _ _ dX8_years_108 h1 hP hD hS
              · replace h := (if_neg c24).symm.trans h
                refine lv_aload_n hx hb dX8_years_69 rfl (lv_at hl 1 rfl) ?_
                refine lv_iload hx hb dX8_years_70 (lv_at hl 0 rfl) ?_
                obtain ⟨⟨r30, I30, J30⟩, hc30, h⟩ := ob h
                dsimp only at h
                refine callWVl (As := [.int (if v3 ≤ (10 : Int32) then (0 : Int32) else (-6 : Int32))]) (rest := []) hC (c_X8_noLong l g ad I J (if v3 ≤ (10 : Int32) then (0 : Int32) else (-6 : Int32))  H.size hc30) lk_X8_216 rfl rfl ⟨Nat.le_of_ble_eq_true rfl, Nat.le_of_ble_eq_true rfl⟩ hP hK hD hA hS mo_0 rfl rfl rfl hl (Nat.le_of_ble_eq_true rfl) dX8_years_72 (fun H locs hP hD hS => ?_)
                obtain ⟨h1, h⟩ := Prod.mk.inj (Option.some.inj h)
                obtain ⟨rfl, rfl⟩ := Prod.mk.inj h
                exact hret _ _ _ _ _ dX8_years_75 h1 hP hD hS
        · replace h := (if_neg c13).symm.trans h
          refine lv_bipush (v := -4) hx hb dX8_years_40 (by decide) ?_
          refine lv_goto (tgt := 62) hx hb dX8_years_42 (by decide) ?_
          refine lv_istore (lv' := [(5, .int (-4 : Int32)), (0, .ref (ad 0)), (1, .int v1), (2, .int v2), (3, .int v3), (4, .int v4)]) hx hb dX8_years_62 hl (by decide) rfl (fun ls hl => ?_)
          refine lv_iload hx hb dX8_years_64 (lv_at hl 0 rfl) ?_
          refine lv_if_eq (tgt := 76) hx hb dX8_years_66 (by decide) (fun c31 => ?_) (fun c31 => ?_)
          · replace h := (if_pos c31).symm.trans h
            refine lv_aload_n hx hb dX8_years_76 rfl (lv_at hl 1 rfl) ?_
            refine lv_iload_n hx hb dX8_years_77 rfl (lv_at hl 2 rfl) ?_
            obtain ⟨⟨I32, J32⟩, hc32, h⟩ := ob h
            dsimp only at h
            refine callWVv (As := [.int v1]) (rest := []) hC (c_X8_takesTerm l g ad I J v1  H.size hc32) lk_X8_212 rfl rfl ⟨Nat.le_of_ble_eq_true rfl, Nat.le_of_ble_eq_true rfl⟩ hP hK hD hA hS mo_0 rfl rfl rfl hl (Nat.le_of_ble_eq_true rfl) dX8_years_78 (fun H locs hP hD hS => ?_)
            refine lv_aload_n hx hb dX8_years_81 rfl (lv_at hl 1 rfl) ?_
            refine lv_iload_n hx hb dX8_years_82 rfl (lv_at hl 4 rfl) ?_
            refine lv_iconst (v := 0) hx hb dX8_years_83 (by decide) ?_
            obtain ⟨⟨I33, J33⟩, hc33, h⟩ := ob h
            dsimp only at h
            refine callWVv (As := [.int v3, .int (0 : Int32)]) (rest := []) hC (c_X8_findYears l g ad I32 J32 v3 (0 : Int32)  H.size hc33) lk_X8_263 rfl rfl ⟨Nat.le_of_ble_eq_true rfl, Nat.le_of_ble_eq_true rfl⟩ hP hK hD hA hS mo_0 rfl rfl rfl hl (Nat.le_of_ble_eq_true rfl) dX8_years_84 (fun H locs hP hD hS => ?_)
            refine lv_iload hx hb dX8_years_87 (lv_at hl 5 rfl) ?_
            refine lv_if_ne (tgt := 102) hx hb dX8_years_89 (by decide) (fun c34 => ?_) (fun c34 => ?_)
            · replace h := (if_neg c34).symm.trans h
              refine lv_aload_n hx hb dX8_years_102 rfl (lv_at hl 1 rfl) ?_
              refine gt_X8_58 hC hK hP dX8_years_103 ?_
              refine lv_iload_n hx hb dX8_years_106 rfl (lv_at hl 3 rfl) ?_
              obtain ⟨b35, h⟩ := og h
              refine al_m17 hC hK hP (gin_ok b35) dX8_years_107 ?_
              obtain ⟨h1, h⟩ := Prod.mk.inj (Option.some.inj h)
              obtain ⟨rfl, rfl⟩ := Prod.mk.inj h
              exact hret _ _ _ _ _ dX8_years_108 h1 hP hD hS
            · replace h := (if_pos c34).symm.trans h
              refine lv_aload_n hx hb dX8_years_92 rfl (lv_at hl 1 rfl) ?_
              refine lv_iload_n hx hb dX8_years_93 rfl (lv_at hl 3 rfl) ?_
              refine lv_iload_n hx hb dX8_years_94 rfl (lv_at hl 4 rfl) ?_
              obtain ⟨r36, hc36, h⟩ := ob h
              refine callRV (As := [.int v2, .int v3]) (rest := []) hC (c_X8_dungedFrom l g ad I33 J33 v2 v3  hc36) lk_X8_267 rfl rfl ⟨Nat.le_of_ble_eq_true rfl, Nat.le_of_ble_eq_true rfl⟩ hP hK mo_0 rfl rfl rfl hl (Nat.le_of_ble_eq_true rfl) dX8_years_95 ?_
              refine lv_i2l hx hb dX8_years_98 rfl ?_
              refine lv_goto (tgt := 108) hx hb dX8_years_99 (by decide) ?_
              obtain ⟨h1, h⟩ := Prod.mk.inj (Option.some.inj h)
              obtain ⟨rfl, rfl⟩ := Prod.mk.inj h
              exact hret _ _ _ _ _ dX8_years_108 h1 hP hD hS
          · replace h := (if_neg c31).symm.trans h
            refine lv_aload_n hx hb dX8_years_69 rfl (lv_at hl 1 rfl) ?_
            refine lv_iload hx hb dX8_years_70 (lv_at hl 0 rfl) ?_
            obtain ⟨⟨r37, I37, J37⟩, hc37, h⟩ := ob h
            dsimp only at h
            refine callWVl (As := [.int (-4 : Int32)]) (rest := []) hC (c_X8_noLong l g ad I J (-4 : Int32)  H.size hc37) lk_X8_216 rfl rfl ⟨Nat.le_of_ble_eq_true rfl, Nat.le_of_ble_eq_true rfl⟩ hP hK hD hA hS mo_0 rfl rfl rfl hl (Nat.le_of_ble_eq_true rfl) dX8_years_72 (fun H locs hP hD hS => ?_)
            obtain ⟨h1, h⟩ := Prod.mk.inj (Option.some.inj h)
            obtain ⟨rfl, rfl⟩ := Prod.mk.inj h
            exact hret _ _ _ _ _ dX8_years_75 h1 hP hD hS
    · replace h := (if_pos c4).symm.trans h
      refine lv_aload_n hx hb dX8_years_24 rfl (lv_at hl 0 rfl) ?_
      refine lv_bipush (v := -2) hx hb dX8_years_25 (by decide) ?_
      obtain ⟨⟨r38, I38, J38⟩, hc38, h⟩ := ob h
      dsimp only at h
      refine callWVl (As := [.int (-2 : Int32)]) (rest := []) hC (c_X8_noLong l g ad I J (-2 : Int32)  H.size hc38) lk_X8_216 rfl rfl ⟨Nat.le_of_ble_eq_true rfl, Nat.le_of_ble_eq_true rfl⟩ hP hK hD hA hS mo_0 rfl rfl rfl hl (Nat.le_of_ble_eq_true rfl) dX8_years_27 (fun H locs hP hD hS => ?_)
      obtain ⟨h1, h⟩ := Prod.mk.inj (Option.some.inj h)
      obtain ⟨rfl, rfl⟩ := Prod.mk.inj h
      exact hret _ _ _ _ _ dX8_years_30 h1 hP hD hS
  · replace h := (if_pos c2).symm.trans h
    refine lv_aload_n hx hb dX8_years_8 rfl (lv_at hl 0 rfl) ?_
    refine lv_iconst (v := -1) hx hb dX8_years_9 (by decide) ?_
    obtain ⟨⟨r39, I39, J39⟩, hc39, h⟩ := ob h
    dsimp only at h
    refine callWVl (As := [.int (-1 : Int32)]) (rest := []) hC (c_X8_noLong l g ad I J (-1 : Int32)  H.size hc39) lk_X8_216 rfl rfl ⟨Nat.le_of_ble_eq_true rfl, Nat.le_of_ble_eq_true rfl⟩ hP hK hD hA hS mo_0 rfl rfl rfl hl (Nat.le_of_ble_eq_true rfl) dX8_years_10 (fun H locs hP hD hS => ?_)
    obtain ⟨h1, h⟩ := Prod.mk.inj (Option.some.inj h)
    obtain ⟨rfl, rfl⟩ := Prod.mk.inj h
    exact hret _ _ _ _ _ dX8_years_13 h1 hP hD hS
