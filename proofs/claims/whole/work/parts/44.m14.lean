def F_X8_takesTerm (I : SI) (J : SJ) (v1 : Int32) : Option (SI × SJ) := (if gin v1 8 = true then (if gin v1 8 = true then (if gin v1 8 = true then (if gin v1 8 = true then (some ((u2 (u2 (u2 (u2 (u2 (u2 I 0 22 (I 13 (Int32.toNatClampNeg v1))) 0 23 ((u2 I 0 22 (I 13 (Int32.toNatClampNeg v1))) 14 (Int32.toNatClampNeg v1))) 0 24 ((u2 (u2 I 0 22 (I 13 (Int32.toNatClampNeg v1))) 0 23 ((u2 I 0 22 (I 13 (Int32.toNatClampNeg v1))) 14 (Int32.toNatClampNeg v1))) 15 (Int32.toNatClampNeg v1))) 0 25 ((u2 (u2 (u2 I 0 22 (I 13 (Int32.toNatClampNeg v1))) 0 23 ((u2 I 0 22 (I 13 (Int32.toNatClampNeg v1))) 14 (Int32.toNatClampNeg v1))) 0 24 ((u2 (u2 I 0 22 (I 13 (Int32.toNatClampNeg v1))) 0 23 ((u2 I 0 22 (I 13 (Int32.toNatClampNeg v1))) 14 (Int32.toNatClampNeg v1))) 15 (Int32.toNatClampNeg v1))) 16 (Int32.toNatClampNeg v1))) 0 26 (0 : Int32)) 0 27 (0 : Int32)), J)) else none) else none) else none) else none)
set_option maxHeartbeats 4000000 in
set_option maxRecDepth 100000 in
theorem c_X8_takesTerm (l : Launch) (g : Gx) (ad : Nat → Nat) (I : SI) (J : SJ) (v1 : Int32)  (sz : Nat) {rI : SI} {rJ : SJ} (h : F_X8_takesTerm I J v1 = some (rI, rJ)) : Met l yX8_takesTerm (Cond.code yX8_takesTerm cX8_takesTerm 2 none :: BG) (k2_rm 0 0) (PcW [.ref (ad 0), .int v1] g (mW ad g I J) sz) (QWv g (mW ad g I J) (mW ad g rI rJ) sz) 0 0 (va_A (mW ad g I J) sz) := by
  refine mkWv (by decide) (Nat.le_of_ble_eq_true rfl) ?_
  intro p e s m args below meth c H locs ls A Q hC hK hP hD hA hS hl hret
  have hx := hC.1
  have hb := hC.2.1
  have hts := hC.2.2.2.2
  have hown := hC.2.2.2.1
  replace hl : lv_has ls 2 [(0, .ref (ad 0)), (1, .int v1)] := hl
  unfold F_X8_takesTerm at h
  refine lv_aload_n hx hb dX8_takesTerm_0 rfl (lv_at hl 0 rfl) ?_
  refine lv_aload_n hx hb dX8_takesTerm_1 rfl (lv_at hl 0 rfl) ?_
  refine gt_X8_46 hC hK hP dX8_takesTerm_2 ?_
  refine lv_iload_n hx hb dX8_takesTerm_5 rfl (lv_at hl 1 rfl) ?_
  obtain ⟨b1, h⟩ := og h
  refine al_m13 hC hK hP (gin_ok b1) dX8_takesTerm_6 ?_
  refine pt_X8_167 hC hK hP hD hS dX8_takesTerm_7 (fun H locs hP hD hS => ?_)
  refine lv_aload_n hx hb dX8_takesTerm_10 rfl (lv_at hl 0 rfl) ?_
  refine lv_aload_n hx hb dX8_takesTerm_11 rfl (lv_at hl 0 rfl) ?_
  refine gt_X8_49 hC hK hP dX8_takesTerm_12 ?_
  refine lv_iload_n hx hb dX8_takesTerm_15 rfl (lv_at hl 1 rfl) ?_
  obtain ⟨b2, h⟩ := og h
  refine al_m14 hC hK hP (gin_ok b2) dX8_takesTerm_16 ?_
  refine pt_X8_170 hC hK hP hD hS dX8_takesTerm_17 (fun H locs hP hD hS => ?_)
  refine lv_aload_n hx hb dX8_takesTerm_20 rfl (lv_at hl 0 rfl) ?_
  refine lv_aload_n hx hb dX8_takesTerm_21 rfl (lv_at hl 0 rfl) ?_
  refine gt_X8_52 hC hK hP dX8_takesTerm_22 ?_
  refine lv_iload_n hx hb dX8_takesTerm_25 rfl (lv_at hl 1 rfl) ?_
  obtain ⟨b3, h⟩ := og h
  refine al_m15 hC hK hP (gin_ok b3) dX8_takesTerm_26 ?_
  refine pt_X8_173 hC hK hP hD hS dX8_takesTerm_27 (fun H locs hP hD hS => ?_)
  refine lv_aload_n hx hb dX8_takesTerm_30 rfl (lv_at hl 0 rfl) ?_
  refine lv_aload_n hx hb dX8_takesTerm_31 rfl (lv_at hl 0 rfl) ?_
  refine gt_X8_55 hC hK hP dX8_takesTerm_32 ?_
  refine lv_iload_n hx hb dX8_takesTerm_35 rfl (lv_at hl 1 rfl) ?_
  obtain ⟨b4, h⟩ := og h
  refine al_m16 hC hK hP (gin_ok b4) dX8_takesTerm_36 ?_
  refine pt_X8_176 hC hK hP hD hS dX8_takesTerm_37 (fun H locs hP hD hS => ?_)
  refine lv_aload_n hx hb dX8_takesTerm_40 rfl (lv_at hl 0 rfl) ?_
  refine lv_iconst (v := 0) hx hb dX8_takesTerm_41 (by decide) ?_
  refine pt_X8_179 hC hK hP hD hS dX8_takesTerm_42 (fun H locs hP hD hS => ?_)
  refine lv_aload_n hx hb dX8_takesTerm_45 rfl (lv_at hl 0 rfl) ?_
  refine lv_iconst (v := 0) hx hb dX8_takesTerm_46 (by decide) ?_
  refine pt_X8_182 hC hK hP hD hS dX8_takesTerm_47 (fun H locs hP hD hS => ?_)
  obtain ⟨rfl, rfl⟩ := Prod.mk.inj (Option.some.inj h)
  exact hret _ _ _ _ dX8_takesTerm_50 hP hD hS
def F_X8_takesMade (I : SI) (J : SJ) (v1 : Int32) (v2 : Int32) (v3 : Int32) : Option (SI × SJ) := (some ((u2 (u2 (u2 (u2 (u2 (u2 I 0 22 v1) 0 23 v2) 0 24 v3) 0 25 (0 : Int32)) 0 26 (0 : Int32)) 0 27 (0 : Int32)), J))
set_option maxHeartbeats 4000000 in
set_option maxRecDepth 100000 in
theorem c_X8_takesMade (l : Launch) (g : Gx) (ad : Nat → Nat) (I : SI) (J : SJ) (v1 : Int32) (v2 : Int32) (v3 : Int32)  (sz : Nat) {rI : SI} {rJ : SJ} (h : F_X8_takesMade I J v1 v2 v3 = some (rI, rJ)) : Met l yX8_takesMade (Cond.code yX8_takesMade cX8_takesMade 4 none :: BG) (k2_rm 0 0) (PcW [.ref (ad 0), .int v1, .int v2, .int v3] g (mW ad g I J) sz) (QWv g (mW ad g I J) (mW ad g rI rJ) sz) 0 0 (va_A (mW ad g I J) sz) := by
  refine mkWv (by decide) (Nat.le_of_ble_eq_true rfl) ?_
  intro p e s m args below meth c H locs ls A Q hC hK hP hD hA hS hl hret
  have hx := hC.1
  have hb := hC.2.1
  have hts := hC.2.2.2.2
  have hown := hC.2.2.2.1
  replace hl : lv_has ls 4 [(0, .ref (ad 0)), (1, .int v1), (2, .int v2), (3, .int v3)] := hl
  unfold F_X8_takesMade at h
  refine lv_aload_n hx hb dX8_takesMade_0 rfl (lv_at hl 0 rfl) ?_
  refine lv_iload_n hx hb dX8_takesMade_1 rfl (lv_at hl 1 rfl) ?_
  refine pt_X8_167 hC hK hP hD hS dX8_takesMade_2 (fun H locs hP hD hS => ?_)
  refine lv_aload_n hx hb dX8_takesMade_5 rfl (lv_at hl 0 rfl) ?_
  refine lv_iload_n hx hb dX8_takesMade_6 rfl (lv_at hl 2 rfl) ?_
  refine pt_X8_170 hC hK hP hD hS dX8_takesMade_7 (fun H locs hP hD hS => ?_)
  refine lv_aload_n hx hb dX8_takesMade_10 rfl (lv_at hl 0 rfl) ?_
  refine lv_iload_n hx hb dX8_takesMade_11 rfl (lv_at hl 3 rfl) ?_
  refine pt_X8_173 hC hK hP hD hS dX8_takesMade_12 (fun H locs hP hD hS => ?_)
  refine lv_aload_n hx hb dX8_takesMade_15 rfl (lv_at hl 0 rfl) ?_
  refine lv_iconst (v := 0) hx hb dX8_takesMade_16 (by decide) ?_
  refine pt_X8_176 hC hK hP hD hS dX8_takesMade_17 (fun H locs hP hD hS => ?_)
  refine lv_aload_n hx hb dX8_takesMade_20 rfl (lv_at hl 0 rfl) ?_
  refine lv_iconst (v := 0) hx hb dX8_takesMade_21 (by decide) ?_
  refine pt_X8_179 hC hK hP hD hS dX8_takesMade_22 (fun H locs hP hD hS => ?_)
  refine lv_aload_n hx hb dX8_takesMade_25 rfl (lv_at hl 0 rfl) ?_
  refine lv_iconst (v := 0) hx hb dX8_takesMade_26 (by decide) ?_
  refine pt_X8_182 hC hK hP hD hS dX8_takesMade_27 (fun H locs hP hD hS => ?_)
  obtain ⟨rfl, rfl⟩ := Prod.mk.inj (Option.some.inj h)
  exact hret _ _ _ _ dX8_takesMade_30 hP hD hS
def FL_X8_reaped_17  : Nat → SI → SJ → Int32 → Int32 → Int32 → Int32 → Option (Int32)
  | 0, _, _, _, _, _, _ => none
  | n + 1, I, J, w1_17, w2_17, w3_17, w4_17 => (if w1_17 ≤ w4_17 then ((F_X8_timesOf I J w2_17).bind fun r3 => (some ((w3_17 * r3) / (100 : Int32)))) else (if gin w4_17 8 = true then (FL_X8_reaped_17 n I J w1_17 w2_17 (w3_17 + (((I 5 (Int32.toNatClampNeg w4_17)) * ((10 : Int32) + (I 0 27))) / (10 : Int32))) (w4_17 + 1)) else none))
def F_X8_reaped (I : SI) (J : SJ) (v1 : Int32) (v2 : Int32) : Option (Int32) := (FL_X8_reaped_17 3000 I J v1 v2 ((I 2 (Int32.toNatClampNeg (0 : Int32))) + ((5 : Int32) * (I 0 26))) (0 : Int32))
set_option maxHeartbeats 4000000 in
set_option maxRecDepth 100000 in
theorem c_X8_reaped (l : Launch) (g : Gx) (ad : Nat → Nat) (I : SI) (J : SJ) (v1 : Int32) (v2 : Int32)  {r : Int32} (h : F_X8_reaped I J v1 v2 = some r) : Met l yX8_reaped (Cond.code yX8_reaped cX8_reaped 5 (some .int) :: BG) (k2_rm 1 21) (va_Pc [.ref (ad 0), .int v1, .int v2] (fun U => Pg g (mW ad g I J) U.heap ∧ Kg g U)) (k2_QcV (.int r)) 0 0 (fun _ => False) := by
  refine mkRi (by decide) (Nat.le_of_ble_eq_true rfl) ?_
  intro p e s m args below meth c H locs ls Q hC hK hP hl hret
  have hx := hC.1
  have hb := hC.2.1
  have hts := hC.2.2.2.2
  have hown := hC.2.2.2.1
  replace hl : lv_has ls 5 [(0, .ref (ad 0)), (1, .int v1), (2, .int v2)] := hl
  have loop_17 : ∀ (n : Nat) (w1_17 : Int32) (w2_17 : Int32) (w3_17 : Int32) (w4_17 : Int32)  (ls : Array Slot), FL_X8_reaped_17 n I J w1_17 w2_17 w3_17 w4_17 = some r → lv_has ls 5 [(0, .ref (ad 0)), (1, .int w1_17), (2, .int w2_17), (3, .int w3_17), (4, .int w4_17)] → W p l e (k2_rm 1 21) s m args below meth c H locs 0 0 Q (F0 m 17 ls []) := by
    intro n
    induction n with
    | zero =>
      intro w1_17 w2_17 w3_17 w4_17 ls h
      exact no h
    | succ n ih =>
      intro w1_17 w2_17 w3_17 w4_17 ls h hl
      rw [FL_X8_reaped_17] at h
      refine lv_iload hx hb dX8_reaped_17 (lv_at hl 4 rfl) ?_
      refine lv_iload_n hx hb dX8_reaped_19 rfl (lv_at hl 1 rfl) ?_
      refine lv_icmp_ge (tgt := 50) hx hb dX8_reaped_20 (by decide) (fun c2 => ?_) (fun c2 => ?_)
      · replace h := (if_pos c2).symm.trans h
        refine lv_iload_n hx hb dX8_reaped_50 rfl (lv_at hl 3 rfl) ?_
        refine lv_aload_n hx hb dX8_reaped_51 rfl (lv_at hl 0 rfl) ?_
        refine lv_iload_n hx hb dX8_reaped_52 rfl (lv_at hl 2 rfl) ?_
        obtain ⟨r3, hc3, h⟩ := ob h
        refine callRV (As := [.int w2_17]) (rest := [.int w3_17]) hC (c_X8_timesOf l g ad I J w2_17  hc3) lk_X8_164 rfl rfl ⟨Nat.le_of_ble_eq_true rfl, Nat.le_of_ble_eq_true rfl⟩ hP hK mo_0 rfl rfl rfl hl (Nat.le_of_ble_eq_true rfl) dX8_reaped_53 ?_
        refine lv_imul hx hb dX8_reaped_56 ?_
        refine lv_bipush (v := 100) hx hb dX8_reaped_57 (by decide) ?_
        refine lv_idiv hx hb dX8_reaped_59 (by decide) ?_
        exact hret _ _ _ dX8_reaped_60 (Option.some.inj h)
      · replace h := (if_neg c2).symm.trans h
        refine lv_iload_n hx hb dX8_reaped_23 rfl (lv_at hl 3 rfl) ?_
        refine lv_aload_n hx hb dX8_reaped_24 rfl (lv_at hl 0 rfl) ?_
        refine gt_X8_22 hC hK hP dX8_reaped_25 ?_
        refine lv_iload hx hb dX8_reaped_28 (lv_at hl 4 rfl) ?_
        obtain ⟨b4, h⟩ := og h
        refine al_m5 hC hK hP (gin_ok b4) dX8_reaped_30 ?_
        refine lv_bipush (v := 10) hx hb dX8_reaped_31 (by decide) ?_
        refine lv_aload_n hx hb dX8_reaped_33 rfl (lv_at hl 0 rfl) ?_
        refine gt_X8_182 hC hK hP dX8_reaped_34 ?_
        refine lv_iadd hx hb dX8_reaped_37 ?_
        refine lv_imul hx hb dX8_reaped_38 ?_
        refine lv_bipush (v := 10) hx hb dX8_reaped_39 (by decide) ?_
        refine lv_idiv hx hb dX8_reaped_41 (by decide) ?_
        refine lv_iadd hx hb dX8_reaped_42 ?_
        refine lv_istore_n (lv' := [(3, .int (w3_17 + (((I 5 (Int32.toNatClampNeg w4_17)) * ((10 : Int32) + (I 0 27))) / (10 : Int32)))), (0, .ref (ad 0)), (1, .int w1_17), (2, .int w2_17), (4, .int w4_17)]) hx hb dX8_reaped_43 rfl hl (by decide) rfl (fun ls hl => ?_)
        refine lv_iinc (v := (w4_17 + 1)) (lv' := [(4, .int (w4_17 + 1)), (3, .int (w3_17 + (((I 5 (Int32.toNatClampNeg w4_17)) * ((10 : Int32) + (I 0 27))) / (10 : Int32)))), (0, .ref (ad 0)), (1, .int w1_17), (2, .int w2_17)]) hx hb dX8_reaped_44 hl (k := 4) rfl rfl (by decide) rfl (fun ls hl => ?_)
        refine lv_goto (tgt := 17) hx hb dX8_reaped_47 (by decide) ?_
        exact ih w1_17 w2_17 (w3_17 + (((I 5 (Int32.toNatClampNeg w4_17)) * ((10 : Int32) + (I 0 27))) / (10 : Int32))) (w4_17 + 1) _ h (lv_sub hl [2, 3, 4, 1, 0] rfl)
  unfold F_X8_reaped at h
  refine lv_aload_n hx hb dX8_reaped_0 rfl (lv_at hl 0 rfl) ?_
  refine gt_X8_13 hC hK hP dX8_reaped_1 ?_
  refine lv_iconst (v := 0) hx hb dX8_reaped_4 (by decide) ?_
  refine al_m2 hC hK hP (gin_ok (by decide)) dX8_reaped_5 ?_
  refine lv_iconst (v := 5) hx hb dX8_reaped_6 (by decide) ?_
  refine lv_aload_n hx hb dX8_reaped_7 rfl (lv_at hl 0 rfl) ?_
  refine gt_X8_179 hC hK hP dX8_reaped_8 ?_
  refine lv_imul hx hb dX8_reaped_11 ?_
  refine lv_iadd hx hb dX8_reaped_12 ?_
  refine lv_istore_n (lv' := [(3, .int ((I 2 (Int32.toNatClampNeg (0 : Int32))) + ((5 : Int32) * (I 0 26)))), (0, .ref (ad 0)), (1, .int v1), (2, .int v2)]) hx hb dX8_reaped_13 rfl hl (by decide) rfl (fun ls hl => ?_)
  refine lv_iconst (v := 0) hx hb dX8_reaped_14 (by decide) ?_
  refine lv_istore (lv' := [(4, .int (0 : Int32)), (3, .int ((I 2 (Int32.toNatClampNeg (0 : Int32))) + ((5 : Int32) * (I 0 26)))), (0, .ref (ad 0)), (1, .int v1), (2, .int v2)]) hx hb dX8_reaped_15 hl (by decide) rfl (fun ls hl => ?_)
  exact loop_17 3000 v1 v2 ((I 2 (Int32.toNatClampNeg (0 : Int32))) + ((5 : Int32) * (I 0 26))) (0 : Int32) _ h (lv_sub hl [2, 3, 4, 1, 0] rfl)
def F_X8_shareOf (I : SI) (J : SJ) (v1 : Int32) (v2 : Int32) : Option (Int32) := (if (I 0 22) = 0 then (if (I 0 24) = 0 then none else (some ((v1 * (I 0 23)) / (I 0 24)))) else (if (I 0 22) = 1 then (some (v1 - (I 0 23))) else (if (I 0 22) = 2 then (some (I 0 23)) else (if (I 0 22) = 3 then (if (I 0 24) = 0 then none else (some (((v1 * (I 0 23)) / (I 0 24)) - (I 0 25)))) else (if (I 0 22) = 4 then (if (I 0 24) = 0 then none else (some ((v1 * (if ((I 0 23) + ((I 0 25) * v2)) ≤ (I 0 24) then ((I 0 23) + ((I 0 25) * v2)) else (I 0 24))) / (I 0 24)))) else (some ((v1 - (I 0 23)) - (if v1 < ((2 : Int32) * (I 0 23)) then (0 : Int32) else (I 0 25)))))))))
set_option maxHeartbeats 4000000 in
set_option maxRecDepth 100000 in
theorem c_X8_shareOf (l : Launch) (g : Gx) (ad : Nat → Nat) (I : SI) (J : SJ) (v1 : Int32) (v2 : Int32)  {r : Int32} (h : F_X8_shareOf I J v1 v2 = some r) : Met l yX8_shareOf (Cond.code yX8_shareOf cX8_shareOf 4 (some .int) :: BG) (k2_rm 0 0) (va_Pc [.ref (ad 0), .int v1, .int v2] (fun U => Pg g (mW ad g I J) U.heap ∧ Kg g U)) (k2_QcV (.int r)) 0 0 (fun _ => False) := by
  refine mkRi (by decide) (Nat.le_of_ble_eq_true rfl) ?_
  intro p e s m args below meth c H locs ls Q hC hK hP hl hret
  have hx := hC.1
  have hb := hC.2.1
  have hts := hC.2.2.2.2
  have hown := hC.2.2.2.1
  replace hl : lv_has ls 4 [(0, .ref (ad 0)), (1, .int v1), (2, .int v2)] := hl
  unfold F_X8_shareOf at h
  refine lv_aload_n hx hb dX8_shareOf_0 rfl (lv_at hl 0 rfl) ?_
  refine gt_X8_167 hC hK hP dX8_shareOf_1 ?_
  by_cases c1 : (I 0 22) = 0
  · replace h := (if_pos c1).symm.trans h
    refine lv_tableIn (off := 36) (tgt := 40) hx hb dX8_shareOf_4 (by rw [c1]; decide) (by rw [c1]; decide) (by rw [c1]; decide) (by decide) ?_
    refine lv_iload_n hx hb dX8_shareOf_40 rfl (lv_at hl 1 rfl) ?_
    refine lv_aload_n hx hb dX8_shareOf_41 rfl (lv_at hl 0 rfl) ?_
    refine gt_X8_170 hC hK hP dX8_shareOf_42 ?_
    refine lv_imul hx hb dX8_shareOf_45 ?_
    refine lv_aload_n hx hb dX8_shareOf_46 rfl (lv_at hl 0 rfl) ?_
    refine gt_X8_173 hC hK hP dX8_shareOf_47 ?_
    obtain ⟨z2, h⟩ := og0 h
    refine lv_idiv hx hb dX8_shareOf_50 z2 ?_
    exact hret _ _ _ dX8_shareOf_51 (Option.some.inj h)
  · replace h := (if_neg c1).symm.trans h
    by_cases c3 : (I 0 22) = 1
    · replace h := (if_pos c3).symm.trans h
      refine lv_tableIn (off := 48) (tgt := 52) hx hb dX8_shareOf_4 (by rw [c3]; decide) (by rw [c3]; decide) (by rw [c3]; decide) (by decide) ?_
      refine lv_iload_n hx hb dX8_shareOf_52 rfl (lv_at hl 1 rfl) ?_
      refine lv_aload_n hx hb dX8_shareOf_53 rfl (lv_at hl 0 rfl) ?_
      refine gt_X8_170 hC hK hP dX8_shareOf_54 ?_
      refine lv_isub hx hb dX8_shareOf_57 ?_
      exact hret _ _ _ dX8_shareOf_58 (Option.some.inj h)
    · replace h := (if_neg c3).symm.trans h
      by_cases c4 : (I 0 22) = 2
      · replace h := (if_pos c4).symm.trans h
        refine lv_tableIn (off := 55) (tgt := 59) hx hb dX8_shareOf_4 (by rw [c4]; decide) (by rw [c4]; decide) (by rw [c4]; decide) (by decide) ?_
        refine lv_aload_n hx hb dX8_shareOf_59 rfl (lv_at hl 0 rfl) ?_
        refine gt_X8_170 hC hK hP dX8_shareOf_60 ?_
        exact hret _ _ _ dX8_shareOf_63 (Option.some.inj h)
      · replace h := (if_neg c4).symm.trans h
        by_cases c5 : (I 0 22) = 3
        · replace h := (if_pos c5).symm.trans h
          refine lv_tableIn (off := 60) (tgt := 64) hx hb dX8_shareOf_4 (by rw [c5]; decide) (by rw [c5]; decide) (by rw [c5]; decide) (by decide) ?_
          refine lv_iload_n hx hb dX8_shareOf_64 rfl (lv_at hl 1 rfl) ?_
          refine lv_aload_n hx hb dX8_shareOf_65 rfl (lv_at hl 0 rfl) ?_
          refine gt_X8_170 hC hK hP dX8_shareOf_66 ?_
          refine lv_imul hx hb dX8_shareOf_69 ?_
          refine lv_aload_n hx hb dX8_shareOf_70 rfl (lv_at hl 0 rfl) ?_
          refine gt_X8_173 hC hK hP dX8_shareOf_71 ?_
          obtain ⟨z6, h⟩ := og0 h
          refine lv_idiv hx hb dX8_shareOf_74 z6 ?_
          refine lv_aload_n hx hb dX8_shareOf_75 rfl (lv_at hl 0 rfl) ?_
          refine gt_X8_176 hC hK hP dX8_shareOf_76 ?_
          refine lv_isub hx hb dX8_shareOf_79 ?_
          exact hret _ _ _ dX8_shareOf_80 (Option.some.inj h)
        · replace h := (if_neg c5).symm.trans h
          by_cases c7 : (I 0 22) = 4
          · replace h := (if_pos c7).symm.trans h
            refine lv_tableIn (off := 77) (tgt := 81) hx hb dX8_shareOf_4 (by rw [c7]; decide) (by rw [c7]; decide) (by rw [c7]; decide) (by decide) ?_
            refine lv_aload_n hx hb dX8_shareOf_81 rfl (lv_at hl 0 rfl) ?_
            refine gt_X8_170 hC hK hP dX8_shareOf_82 ?_
            refine lv_aload_n hx hb dX8_shareOf_85 rfl (lv_at hl 0 rfl) ?_
            refine gt_X8_176 hC hK hP dX8_shareOf_86 ?_
            refine lv_iload_n hx hb dX8_shareOf_89 rfl (lv_at hl 2 rfl) ?_
            refine lv_imul hx hb dX8_shareOf_90 ?_
            refine lv_iadd hx hb dX8_shareOf_91 ?_
            refine lv_istore_n (lv' := [(3, .int ((I 0 23) + ((I 0 25) * v2))), (0, .ref (ad 0)), (1, .int v1), (2, .int v2)]) hx hb dX8_shareOf_92 rfl hl (by decide) rfl (fun ls hl => ?_)
            refine lv_iload_n hx hb dX8_shareOf_93 rfl (lv_at hl 2 rfl) ?_
            refine lv_iload_n hx hb dX8_shareOf_94 rfl (lv_at hl 0 rfl) ?_
            refine lv_aload_n hx hb dX8_shareOf_95 rfl (lv_at hl 1 rfl) ?_
            refine gt_X8_173 hC hK hP dX8_shareOf_96 ?_
            refine tern (α := Int32) (cnd := ((I 0 23) + ((I 0 25) * v2)) ≤ (I 0 24)) (a := ((I 0 23) + ((I 0 25) * v2))) (b := (I 0 24)) (Wj := fun vj => W p l e (k2_rm 0 0) s m args below meth c H locs 0 0 Q (F0 m 110 ls [.int vj, .int v1])) (fun k9a k9b => ?_) ?_
            · refine lv_icmp_le (tgt := 109) hx hb dX8_shareOf_99 (by decide) (fun c8 => ?_) (fun c8 => ?_)
              · refine lv_iload_n hx hb dX8_shareOf_109 rfl (lv_at hl 0 rfl) ?_
                exact k9a c8
              · refine lv_aload_n hx hb dX8_shareOf_102 rfl (lv_at hl 1 rfl) ?_
                refine gt_X8_173 hC hK hP dX8_shareOf_103 ?_
                refine lv_goto (tgt := 110) hx hb dX8_shareOf_106 (by decide) ?_
                exact k9b c8
            · show W p l e (k2_rm 0 0) s m args below meth c H locs 0 0 Q (F0 m 110 ls [.int (if ((I 0 23) + ((I 0 25) * v2)) ≤ (I 0 24) then ((I 0 23) + ((I 0 25) * v2)) else (I 0 24)), .int v1])
              refine lv_imul hx hb dX8_shareOf_110 ?_
              refine lv_aload_n hx hb dX8_shareOf_111 rfl (lv_at hl 1 rfl) ?_
              refine gt_X8_173 hC hK hP dX8_shareOf_112 ?_
              obtain ⟨z10, h⟩ := og0 h
              refine lv_idiv hx hb dX8_shareOf_115 z10 ?_
              exact hret _ _ _ dX8_shareOf_116 (Option.some.inj h)
          · replace h := (if_neg c7).symm.trans h
            refine lv_tableOut (tgt := 117) hx hb dX8_shareOf_4 (by have ec1 := ti_ne (n := 0) (by decide) c1; have ec3 := ti_ne (n := 1) (by decide) c3; have ec4 := ti_ne (n := 2) (by decide) c4; have ec5 := ti_ne (n := 3) (by decide) c5; have ec7 := ti_ne (n := 4) (by decide) c7; omega) (by decide) ?_
            refine lv_iload_n hx hb dX8_shareOf_117 rfl (lv_at hl 1 rfl) ?_
            refine lv_aload_n hx hb dX8_shareOf_118 rfl (lv_at hl 0 rfl) ?_
            refine gt_X8_170 hC hK hP dX8_shareOf_119 ?_
            refine lv_isub hx hb dX8_shareOf_122 ?_
            refine lv_iload_n hx hb dX8_shareOf_123 rfl (lv_at hl 1 rfl) ?_
            refine lv_iconst (v := 2) hx hb dX8_shareOf_124 (by decide) ?_
            refine lv_aload_n hx hb dX8_shareOf_125 rfl (lv_at hl 0 rfl) ?_
            refine gt_X8_170 hC hK hP dX8_shareOf_126 ?_
            refine lv_imul hx hb dX8_shareOf_129 ?_
            refine tern (α := Int32) (cnd := v1 < ((2 : Int32) * (I 0 23))) (a := (0 : Int32)) (b := (I 0 25)) (Wj := fun vj => W p l e (k2_rm 0 0) s m args below meth c H locs 0 0 Q (F0 m 141 ls [.int vj, .int (v1 - (I 0 23))])) (fun k12a k12b => ?_) ?_
            · refine lv_icmp_lt (tgt := 140) hx hb dX8_shareOf_130 (by decide) (fun c11 => ?_) (fun c11 => ?_)
              · refine lv_iconst (v := 0) hx hb dX8_shareOf_140 (by decide) ?_
                exact k12a c11
              · refine lv_aload_n hx hb dX8_shareOf_133 rfl (lv_at hl 0 rfl) ?_
                refine gt_X8_176 hC hK hP dX8_shareOf_134 ?_
                refine lv_goto (tgt := 141) hx hb dX8_shareOf_137 (by decide) ?_
                exact k12b c11
            · show W p l e (k2_rm 0 0) s m args below meth c H locs 0 0 Q (F0 m 141 ls [.int (if v1 < ((2 : Int32) * (I 0 23)) then (0 : Int32) else (I 0 25)), .int (v1 - (I 0 23))])
              refine lv_isub hx hb dX8_shareOf_141 ?_
              exact hret _ _ _ dX8_shareOf_142 (Option.some.inj h)
def F_X8_hasOf (I : SI) (J : SJ) (v1 : Int32) (v2 : Int32) (v3 : Int32) : Option (Int32) := (if (I 2 (Int32.toNatClampNeg (3 : Int32))) = v1 then (if v1 = 0 then ((F_X8_shareOf I J v2 v3).bind fun r9 => (some (r9 - (I 2 (Int32.toNatClampNeg (2 : Int32)))))) else ((F_X8_shareOf I J v2 v3).bind fun r8 => (some ((v2 - r8) - (I 2 (Int32.toNatClampNeg (2 : Int32))))))) else (if v1 = 0 then ((F_X8_shareOf I J v2 v3).bind fun r5 => (some (r5 - (0 : Int32)))) else ((F_X8_shareOf I J v2 v3).bind fun r4 => (some ((v2 - r4) - (0 : Int32))))))
set_option maxHeartbeats 4000000 in
set_option maxRecDepth 100000 in
theorem c_X8_hasOf (l : Launch) (g : Gx) (ad : Nat → Nat) (I : SI) (J : SJ) (v1 : Int32) (v2 : Int32) (v3 : Int32)  {r : Int32} (h : F_X8_hasOf I J v1 v2 v3 = some r) : Met l yX8_hasOf (Cond.code yX8_hasOf cX8_hasOf 5 (some .int) :: BG) (k2_rm 1 23) (va_Pc [.ref (ad 0), .int v1, .int v2, .int v3] (fun U => Pg g (mW ad g I J) U.heap ∧ Kg g U)) (k2_QcV (.int r)) 0 0 (fun _ => False) := by
  refine mkRi (by decide) (Nat.le_of_ble_eq_true rfl) ?_
  intro p e s m args below meth c H locs ls Q hC hK hP hl hret
  have hx := hC.1
  have hb := hC.2.1
  have hts := hC.2.2.2.2
  have hown := hC.2.2.2.1
  replace hl : lv_has ls 5 [(0, .ref (ad 0)), (1, .int v1), (2, .int v2), (3, .int v3)] := hl
  unfold F_X8_hasOf at h
  refine lv_aload_n hx hb dX8_hasOf_0 rfl (lv_at hl 0 rfl) ?_
  refine gt_X8_13 hC hK hP dX8_hasOf_1 ?_
  refine lv_iconst (v := 3) hx hb dX8_hasOf_4 (by decide) ?_
  refine al_m2 hC hK hP (gin_ok (by decide)) dX8_hasOf_5 ?_
  refine lv_iload_n hx hb dX8_hasOf_6 rfl (lv_at hl 1 rfl) ?_
  refine lv_icmp_ne (tgt := 19) hx hb dX8_hasOf_7 (by decide) (fun c2 => ?_) (fun c2 => ?_)
  · replace h := (if_neg c2).symm.trans h
    refine lv_iconst (v := 0) hx hb dX8_hasOf_19 (by decide) ?_
    refine lv_istore (lv' := [(4, .int (0 : Int32)), (0, .ref (ad 0)), (1, .int v1), (2, .int v2), (3, .int v3)]) hx hb dX8_hasOf_20 hl (by decide) rfl (fun ls hl => ?_)
    refine lv_iload_n hx hb dX8_hasOf_22 rfl (lv_at hl 2 rfl) ?_
    refine lv_if_ne (tgt := 35) hx hb dX8_hasOf_23 (by decide) (fun c3 => ?_) (fun c3 => ?_)
    · replace h := (if_neg c3).symm.trans h
      refine lv_iload_n hx hb dX8_hasOf_35 rfl (lv_at hl 3 rfl) ?_
      refine lv_aload_n hx hb dX8_hasOf_36 rfl (lv_at hl 1 rfl) ?_
      refine lv_iload_n hx hb dX8_hasOf_37 rfl (lv_at hl 3 rfl) ?_
      refine lv_iload_n hx hb dX8_hasOf_38 rfl (lv_at hl 4 rfl) ?_
      obtain ⟨r4, hc4, h⟩ := ob h
      refine callRV (As := [.int v2, .int v3]) (rest := [.int v2]) hC (c_X8_shareOf l g ad I J v2 v3  hc4) lk_X8_185 rfl rfl ⟨Nat.le_of_ble_eq_true rfl, Nat.le_of_ble_eq_true rfl⟩ hP hK mo_0 rfl rfl rfl hl (Nat.le_of_ble_eq_true rfl) dX8_hasOf_39 ?_
      refine lv_isub hx hb dX8_hasOf_42 ?_
      refine lv_iload hx hb dX8_hasOf_43 (lv_at hl 0 rfl) ?_
      refine lv_isub hx hb dX8_hasOf_45 ?_
      exact hret _ _ _ dX8_hasOf_46 (Option.some.inj h)
    · replace h := (if_pos c3).symm.trans h
      refine lv_aload_n hx hb dX8_hasOf_26 rfl (lv_at hl 1 rfl) ?_
      refine lv_iload_n hx hb dX8_hasOf_27 rfl (lv_at hl 3 rfl) ?_
      refine lv_iload_n hx hb dX8_hasOf_28 rfl (lv_at hl 4 rfl) ?_
      obtain ⟨r5, hc5, h⟩ := ob h
      refine callRV (As := [.int v2, .int v3]) (rest := []) hC (c_X8_shareOf l g ad I J v2 v3  hc5) lk_X8_185 rfl rfl ⟨Nat.le_of_ble_eq_true rfl, Nat.le_of_ble_eq_true rfl⟩ hP hK mo_0 rfl rfl rfl hl (Nat.le_of_ble_eq_true rfl) dX8_hasOf_29 ?_
      refine lv_goto (tgt := 43) hx hb dX8_hasOf_32 (by decide) ?_
      refine lv_iload hx hb dX8_hasOf_43 (lv_at hl 0 rfl) ?_
      refine lv_isub hx hb dX8_hasOf_45 ?_
      exact hret _ _ _ dX8_hasOf_46 (Option.some.inj h)
  · replace h := (if_pos c2).symm.trans h
    refine lv_aload_n hx hb dX8_hasOf_10 rfl (lv_at hl 0 rfl) ?_
    refine gt_X8_13 hC hK hP dX8_hasOf_11 ?_
    refine lv_iconst (v := 2) hx hb dX8_hasOf_14 (by decide) ?_
    refine al_m2 hC hK hP (gin_ok (by decide)) dX8_hasOf_15 ?_
    refine lv_goto (tgt := 20) hx hb dX8_hasOf_16 (by decide) ?_
    refine lv_istore (lv' := [(4, .int (I 2 (Int32.toNatClampNeg (2 : Int32)))), (0, .ref (ad 0)), (1, .int v1), (2, .int v2), (3, .int v3)]) hx hb dX8_hasOf_20 hl (by decide) rfl (fun ls hl => ?_)
    refine lv_iload_n hx hb dX8_hasOf_22 rfl (lv_at hl 2 rfl) ?_
    refine lv_if_ne (tgt := 35) hx hb dX8_hasOf_23 (by decide) (fun c7 => ?_) (fun c7 => ?_)
    · replace h := (if_neg c7).symm.trans h
      refine lv_iload_n hx hb dX8_hasOf_35 rfl (lv_at hl 3 rfl) ?_
      refine lv_aload_n hx hb dX8_hasOf_36 rfl (lv_at hl 1 rfl) ?_
      refine lv_iload_n hx hb dX8_hasOf_37 rfl (lv_at hl 3 rfl) ?_
      refine lv_iload_n hx hb dX8_hasOf_38 rfl (lv_at hl 4 rfl) ?_
      obtain ⟨r8, hc8, h⟩ := ob h
      refine callRV (As := [.int v2, .int v3]) (rest := [.int v2]) hC (c_X8_shareOf l g ad I J v2 v3  hc8) lk_X8_185 rfl rfl ⟨Nat.le_of_ble_eq_true rfl, Nat.le_of_ble_eq_true rfl⟩ hP hK mo_0 rfl rfl rfl hl (Nat.le_of_ble_eq_true rfl) dX8_hasOf_39 ?_
      refine lv_isub hx hb dX8_hasOf_42 ?_
      refine lv_iload hx hb dX8_hasOf_43 (lv_at hl 0 rfl) ?_
      refine lv_isub hx hb dX8_hasOf_45 ?_
      exact hret _ _ _ dX8_hasOf_46 (Option.some.inj h)
    · replace h := (if_pos c7).symm.trans h
      refine lv_aload_n hx hb dX8_hasOf_26 rfl (lv_at hl 1 rfl) ?_
      refine lv_iload_n hx hb dX8_hasOf_27 rfl (lv_at hl 3 rfl) ?_
      refine lv_iload_n hx hb dX8_hasOf_28 rfl (lv_at hl 4 rfl) ?_
      obtain ⟨r9, hc9, h⟩ := ob h
      refine callRV (As := [.int v2, .int v3]) (rest := []) hC (c_X8_shareOf l g ad I J v2 v3  hc9) lk_X8_185 rfl rfl ⟨Nat.le_of_ble_eq_true rfl, Nat.le_of_ble_eq_true rfl⟩ hP hK mo_0 rfl rfl rfl hl (Nat.le_of_ble_eq_true rfl) dX8_hasOf_29 ?_
      refine lv_goto (tgt := 43) hx hb dX8_hasOf_32 (by decide) ?_
      refine lv_iload hx hb dX8_hasOf_43 (lv_at hl 0 rfl) ?_
      refine lv_isub hx hb dX8_hasOf_45 ?_
      exact hret _ _ _ dX8_hasOf_46 (Option.some.inj h)
def F_X8_mindOf (I : SI) (J : SJ) (v1 : Int32) (v2 : Int32) : Option (Int32) := (if gin ((4 : Int32) + ((2 : Int32) * v1)) 8 = true then (if 0 ≤ v2 then (if (I 2 (Int32.toNatClampNeg ((4 : Int32) + ((2 : Int32) * v1)))) < v2 then (if gin ((5 : Int32) + ((2 : Int32) * v1)) 8 = true then (some (((10 : Int32) * (I 2 (Int32.toNatClampNeg ((4 : Int32) + ((2 : Int32) * v1))))) + ((I 2 (Int32.toNatClampNeg ((5 : Int32) + ((2 : Int32) * v1)))) * (v2 - (I 2 (Int32.toNatClampNeg ((4 : Int32) + ((2 : Int32) * v1)))))))) else none) else (some ((10 : Int32) * v2))) else (some ((20 : Int32) * v2))) else none)
set_option maxHeartbeats 4000000 in
set_option maxRecDepth 100000 in
theorem c_X8_mindOf (l : Launch) (g : Gx) (ad : Nat → Nat) (I : SI) (J : SJ) (v1 : Int32) (v2 : Int32)  {r : Int32} (h : F_X8_mindOf I J v1 v2 = some r) : Met l yX8_mindOf (Cond.code yX8_mindOf cX8_mindOf 4 (some .int) :: BG) (k2_rm 0 0) (va_Pc [.ref (ad 0), .int v1, .int v2] (fun U => Pg g (mW ad g I J) U.heap ∧ Kg g U)) (k2_QcV (.int r)) 0 0 (fun _ => False) := by
  refine mkRi (by decide) (Nat.le_of_ble_eq_true rfl) ?_
  intro p e s m args below meth c H locs ls Q hC hK hP hl hret
  have hx := hC.1
  have hb := hC.2.1
  have hts := hC.2.2.2.2
  have hown := hC.2.2.2.1
  replace hl : lv_has ls 4 [(0, .ref (ad 0)), (1, .int v1), (2, .int v2)] := hl
  unfold F_X8_mindOf at h
  refine lv_aload_n hx hb dX8_mindOf_0 rfl (lv_at hl 0 rfl) ?_
  refine gt_X8_13 hC hK hP dX8_mindOf_1 ?_
  refine lv_iconst (v := 4) hx hb dX8_mindOf_4 (by decide) ?_
  refine lv_iconst (v := 2) hx hb dX8_mindOf_5 (by decide) ?_
  refine lv_iload_n hx hb dX8_mindOf_6 rfl (lv_at hl 1 rfl) ?_
  refine lv_imul hx hb dX8_mindOf_7 ?_
  refine lv_iadd hx hb dX8_mindOf_8 ?_
  obtain ⟨b1, h⟩ := og h
  refine al_m2 hC hK hP (gin_ok b1) dX8_mindOf_9 ?_
  refine lv_istore_n (lv' := [(3, .int (I 2 (Int32.toNatClampNeg ((4 : Int32) + ((2 : Int32) * v1))))), (0, .ref (ad 0)), (1, .int v1), (2, .int v2)]) hx hb dX8_mindOf_10 rfl hl (by decide) rfl (fun ls hl => ?_)
  refine lv_iload_n hx hb dX8_mindOf_11 rfl (lv_at hl 3 rfl) ?_
  refine lv_if_ge (tgt := 20) hx hb dX8_mindOf_12 (by decide) (fun c2 => ?_) (fun c2 => ?_)
  · replace h := (if_pos c2).symm.trans h
    refine lv_iload_n hx hb dX8_mindOf_20 rfl (lv_at hl 3 rfl) ?_
    refine lv_iload_n hx hb dX8_mindOf_21 rfl (lv_at hl 0 rfl) ?_
    refine lv_icmp_gt (tgt := 32) hx hb dX8_mindOf_22 (by decide) (fun c3 => ?_) (fun c3 => ?_)
    · replace h := (if_pos c3).symm.trans h
      refine lv_bipush (v := 10) hx hb dX8_mindOf_32 (by decide) ?_
      refine lv_iload_n hx hb dX8_mindOf_34 rfl (lv_at hl 0 rfl) ?_
      refine lv_imul hx hb dX8_mindOf_35 ?_
      refine lv_aload_n hx hb dX8_mindOf_36 rfl (lv_at hl 1 rfl) ?_
      refine gt_X8_13 hC hK hP dX8_mindOf_37 ?_
      refine lv_iconst (v := 5) hx hb dX8_mindOf_40 (by decide) ?_
      refine lv_iconst (v := 2) hx hb dX8_mindOf_41 (by decide) ?_
      refine lv_iload_n hx hb dX8_mindOf_42 rfl (lv_at hl 2 rfl) ?_
      refine lv_imul hx hb dX8_mindOf_43 ?_
      refine lv_iadd hx hb dX8_mindOf_44 ?_
      obtain ⟨b4, h⟩ := og h
      refine al_m2 hC hK hP (gin_ok b4) dX8_mindOf_45 ?_
      refine lv_iload_n hx hb dX8_mindOf_46 rfl (lv_at hl 3 rfl) ?_
      refine lv_iload_n hx hb dX8_mindOf_47 rfl (lv_at hl 0 rfl) ?_
      refine lv_isub hx hb dX8_mindOf_48 ?_
      refine lv_imul hx hb dX8_mindOf_49 ?_
      refine lv_iadd hx hb dX8_mindOf_50 ?_
      exact hret _ _ _ dX8_mindOf_51 (Option.some.inj h)
    · replace h := (if_neg c3).symm.trans h
      refine lv_bipush (v := 10) hx hb dX8_mindOf_25 (by decide) ?_
      refine lv_iload_n hx hb dX8_mindOf_27 rfl (lv_at hl 3 rfl) ?_
      refine lv_imul hx hb dX8_mindOf_28 ?_
      refine lv_goto (tgt := 51) hx hb dX8_mindOf_29 (by decide) ?_
      exact hret _ _ _ dX8_mindOf_51 (Option.some.inj h)
  · replace h := (if_neg c2).symm.trans h
    refine lv_bipush (v := 20) hx hb dX8_mindOf_15 (by decide) ?_
    refine lv_iload_n hx hb dX8_mindOf_17 rfl (lv_at hl 3 rfl) ?_
    refine lv_imul hx hb dX8_mindOf_18 ?_
    exact hret _ _ _ dX8_mindOf_19 (Option.some.inj h)
def FL_X8_costOf_4  : Nat → SI → SJ → Int32 → Int32 → Int32 → Option (Int32)
  | 0, _, _, _, _, _ => none
  | n + 1, I, J, w1_4, w2_4, w3_4 => (if w1_4 ≤ w3_4 then (some w2_4) else (if gin w3_4 8 = true then (FL_X8_costOf_4 n I J w1_4 (w2_4 + (I 4 (Int32.toNatClampNeg w3_4))) (w3_4 + 1)) else none))
def F_X8_costOf (I : SI) (J : SJ) (v1 : Int32) : Option (Int32) := (FL_X8_costOf_4 3000 I J v1 (0 : Int32) (0 : Int32))
set_option maxHeartbeats 4000000 in
set_option maxRecDepth 100000 in
theorem c_X8_costOf (l : Launch) (g : Gx) (ad : Nat → Nat) (I : SI) (J : SJ) (v1 : Int32)  {r : Int32} (h : F_X8_costOf I J v1 = some r) : Met l yX8_costOf (Cond.code yX8_costOf cX8_costOf 4 (some .int) :: BG) (k2_rm 0 0) (va_Pc [.ref (ad 0), .int v1] (fun U => Pg g (mW ad g I J) U.heap ∧ Kg g U)) (k2_QcV (.int r)) 0 0 (fun _ => False) := by
  refine mkRi (by decide) (Nat.le_of_ble_eq_true rfl) ?_
  intro p e s m args below meth c H locs ls Q hC hK hP hl hret
  have hx := hC.1
  have hb := hC.2.1
  have hts := hC.2.2.2.2
  have hown := hC.2.2.2.1
  replace hl : lv_has ls 4 [(0, .ref (ad 0)), (1, .int v1)] := hl
  have loop_4 : ∀ (n : Nat) (w1_4 : Int32) (w2_4 : Int32) (w3_4 : Int32)  (ls : Array Slot), FL_X8_costOf_4 n I J w1_4 w2_4 w3_4 = some r → lv_has ls 4 [(0, .ref (ad 0)), (1, .int w1_4), (2, .int w2_4), (3, .int w3_4)] → W p l e (k2_rm 0 0) s m args below meth c H locs 0 0 Q (F0 m 4 ls []) := by
    intro n
    induction n with
    | zero =>
      intro w1_4 w2_4 w3_4 ls h
      exact no h
    | succ n ih =>
      intro w1_4 w2_4 w3_4 ls h hl
      rw [FL_X8_costOf_4] at h
      refine lv_iload_n hx hb dX8_costOf_4 rfl (lv_at hl 3 rfl) ?_
      refine lv_iload_n hx hb dX8_costOf_5 rfl (lv_at hl 1 rfl) ?_
      refine lv_icmp_ge (tgt := 24) hx hb dX8_costOf_6 (by decide) (fun c1 => ?_) (fun c1 => ?_)
      · replace h := (if_pos c1).symm.trans h
        refine lv_iload_n hx hb dX8_costOf_24 rfl (lv_at hl 2 rfl) ?_
        exact hret _ _ _ dX8_costOf_25 (Option.some.inj h)
      · replace h := (if_neg c1).symm.trans h
        refine lv_iload_n hx hb dX8_costOf_9 rfl (lv_at hl 2 rfl) ?_
        refine lv_aload_n hx hb dX8_costOf_10 rfl (lv_at hl 0 rfl) ?_
        refine gt_X8_19 hC hK hP dX8_costOf_11 ?_
        refine lv_iload_n hx hb dX8_costOf_14 rfl (lv_at hl 3 rfl) ?_
        obtain ⟨b2, h⟩ := og h
        refine al_m4 hC hK hP (gin_ok b2) dX8_costOf_15 ?_
        refine lv_iadd hx hb dX8_costOf_16 ?_
        refine lv_istore_n (lv' := [(2, .int (w2_4 + (I 4 (Int32.toNatClampNeg w3_4)))), (0, .ref (ad 0)), (1, .int w1_4), (3, .int w3_4)]) hx hb dX8_costOf_17 rfl hl (by decide) rfl (fun ls hl => ?_)
        refine lv_iinc (v := (w3_4 + 1)) (lv' := [(3, .int (w3_4 + 1)), (2, .int (w2_4 + (I 4 (Int32.toNatClampNeg w3_4)))), (0, .ref (ad 0)), (1, .int w1_4)]) hx hb dX8_costOf_18 hl (k := 3) rfl rfl (by decide) rfl (fun ls hl => ?_)
        refine lv_goto (tgt := 4) hx hb dX8_costOf_21 (by decide) ?_
        exact ih w1_4 (w2_4 + (I 4 (Int32.toNatClampNeg w3_4))) (w3_4 + 1) _ h (lv_sub hl [2, 3, 1, 0] rfl)
  unfold F_X8_costOf at h
  refine lv_iconst (v := 0) hx hb dX8_costOf_0 (by decide) ?_
  refine lv_istore_n (lv' := [(2, .int (0 : Int32)), (0, .ref (ad 0)), (1, .int v1)]) hx hb dX8_costOf_1 rfl hl (by decide) rfl (fun ls hl => ?_)
  refine lv_iconst (v := 0) hx hb dX8_costOf_2 (by decide) ?_
  refine lv_istore_n (lv' := [(3, .int (0 : Int32)), (2, .int (0 : Int32)), (0, .ref (ad 0)), (1, .int v1)]) hx hb dX8_costOf_3 rfl hl (by decide) rfl (fun ls hl => ?_)
  exact loop_4 3000 v1 (0 : Int32) (0 : Int32) _ h (lv_sub hl [2, 3, 1, 0] rfl)
def FL_X8_worthOf_6  : Nat → SI → SJ → Int32 → Int32 → Int32 → Int64 → Int32 → Option (Int64)
  | 0, _, _, _, _, _, _, _ => none
  | n + 1, I, J, w1_6, w2_6, w3_6, w4_6, w6_6 => ((F_X8_allWeathers I J).bind fun r1 => (if r1 ≤ w6_6 then (if w1_6 = 0 then ((F_X8_costOf I J w2_6).bind fun r4 => (some (w4_6 - ((1000 : Int64) * (Int32.toInt64 r4))))) else (some w4_6)) else ((F_X8_chanceOf I J w6_6).bind fun r5 => ((F_X8_reaped I J w2_6 w6_6).bind fun r6 => ((F_X8_hasOf I J w1_6 r6 w3_6).bind fun r7 => ((F_X8_mindOf I J w1_6 r7).bind fun r8 => (FL_X8_worthOf_6 n I J w1_6 w2_6 w3_6 (w4_6 + ((Int32.toInt64 r5) * (Int32.toInt64 r8))) (w6_6 + 1))))))))
def F_X8_worthOf (I : SI) (J : SJ) (v1 : Int32) (v2 : Int32) (v3 : Int32) : Option (Int64) := (FL_X8_worthOf_6 3000 I J v1 v2 v3 (0 : Int64) (0 : Int32))
set_option maxHeartbeats 4000000 in
set_option maxRecDepth 100000 in
theorem c_X8_worthOf (l : Launch) (g : Gx) (ad : Nat → Nat) (I : SI) (J : SJ) (v1 : Int32) (v2 : Int32) (v3 : Int32)  {r : Int64} (h : F_X8_worthOf I J v1 v2 v3 = some r) : Met l yX8_worthOf (Cond.code yX8_worthOf cX8_worthOf 7 (some .long) :: BG) (k2_rm 2 47) (va_Pc [.ref (ad 0), .int v1, .int v2, .int v3] (fun U => Pg g (mW ad g I J) U.heap ∧ Kg g U)) (k2_QcV (.long r)) 0 0 (fun _ => False) := by
  refine mkRl (by decide) (Nat.le_of_ble_eq_true rfl) ?_
  intro p e s m args below meth c H locs ls Q hC hK hP hl hret
  have hx := hC.1
  have hb := hC.2.1
  have hts := hC.2.2.2.2
  have hown := hC.2.2.2.1
  replace hl : lv_has ls 7 [(0, .ref (ad 0)), (1, .int v1), (2, .int v2), (3, .int v3)] := hl
  have loop_6 : ∀ (n : Nat) (w1_6 : Int32) (w2_6 : Int32) (w3_6 : Int32) (w4_6 : Int64) (w6_6 : Int32)  (ls : Array Slot), FL_X8_worthOf_6 n I J w1_6 w2_6 w3_6 w4_6 w6_6 = some r → lv_has ls 7 [(0, .ref (ad 0)), (1, .int w1_6), (2, .int w2_6), (3, .int w3_6), (4, .long w4_6), (6, .int w6_6)] → W p l e (k2_rm 2 47) s m args below meth c H locs 0 0 Q (F0 m 6 ls []) := by
    intro n
    induction n with
    | zero =>
      intro w1_6 w2_6 w3_6 w4_6 w6_6 ls h
      exact no h
    | succ n ih =>
      intro w1_6 w2_6 w3_6 w4_6 w6_6 ls h hl
      rw [FL_X8_worthOf_6] at h
      refine lv_iload hx hb dX8_worthOf_6 (lv_at hl 5 rfl) ?_
      refine lv_aload_n hx hb dX8_worthOf_8 rfl (lv_at hl 0 rfl) ?_
      obtain ⟨r1, hc1, h⟩ := ob h
      refine callRV (As := []) (rest := [.int w6_6]) hC (c_X8_allWeathers l g ad I J   hc1) lk_X8_158 rfl rfl ⟨Nat.le_of_ble_eq_true rfl, Nat.le_of_ble_eq_true rfl⟩ hP hK mo_0 rfl rfl rfl hl (Nat.le_of_ble_eq_true rfl) dX8_worthOf_9 ?_
      refine lv_icmp_ge (tgt := 53) hx hb dX8_worthOf_12 (by decide) (fun c2 => ?_) (fun c2 => ?_)
      · replace h := (if_pos c2).symm.trans h
        refine lv_iload_n hx hb dX8_worthOf_53 rfl (lv_at hl 1 rfl) ?_
        refine lv_if_ne (tgt := 73) hx hb dX8_worthOf_54 (by decide) (fun c3 => ?_) (fun c3 => ?_)
        · replace h := (if_neg c3).symm.trans h
          refine lv_lload hx hb dX8_worthOf_73 (lv_at hl 4 rfl) ?_
          exact hret _ _ _ dX8_worthOf_75 (Option.some.inj h)
        · replace h := (if_pos c3).symm.trans h
          refine lv_lload hx hb dX8_worthOf_57 (lv_at hl 4 rfl) ?_
          refine lv_ldc2 hx hb hown (hts _ kc_X8_197) dX8_worthOf_59 ?_
          refine lv_aload_n hx hb dX8_worthOf_62 rfl (lv_at hl 0 rfl) ?_
          refine lv_iload_n hx hb dX8_worthOf_63 rfl (lv_at hl 2 rfl) ?_
          obtain ⟨r4, hc4, h⟩ := ob h
          refine callRV (As := [.int w2_6]) (rest := [.long (1000 : Int64), .long w4_6]) hC (c_X8_costOf l g ad I J w2_6  hc4) lk_X8_199 rfl rfl ⟨Nat.le_of_ble_eq_true rfl, Nat.le_of_ble_eq_true rfl⟩ hP hK mo_0 rfl rfl rfl hl (Nat.le_of_ble_eq_true rfl) dX8_worthOf_64 ?_
          refine lv_i2l hx hb dX8_worthOf_67 rfl ?_
          refine lv_lmul hx hb dX8_worthOf_68 ?_
          refine lv_lsub hx hb dX8_worthOf_69 ?_
          refine lv_goto (tgt := 75) hx hb dX8_worthOf_70 (by decide) ?_
          exact hret _ _ _ dX8_worthOf_75 (Option.some.inj h)
      · replace h := (if_neg c2).symm.trans h
        refine lv_lload hx hb dX8_worthOf_15 (lv_at hl 4 rfl) ?_
        refine lv_aload_n hx hb dX8_worthOf_17 rfl (lv_at hl 0 rfl) ?_
        refine lv_iload hx hb dX8_worthOf_18 (lv_at hl 5 rfl) ?_
        obtain ⟨r5, hc5, h⟩ := ob h
        refine callRV (As := [.int w6_6]) (rest := [.long w4_6]) hC (c_X8_chanceOf l g ad I J w6_6  hc5) lk_X8_161 rfl rfl ⟨Nat.le_of_ble_eq_true rfl, Nat.le_of_ble_eq_true rfl⟩ hP hK mo_0 rfl rfl rfl hl (Nat.le_of_ble_eq_true rfl) dX8_worthOf_20 ?_
        refine lv_i2l hx hb dX8_worthOf_23 rfl ?_
        refine lv_aload_n hx hb dX8_worthOf_24 rfl (lv_at hl 0 rfl) ?_
        refine lv_iload_n hx hb dX8_worthOf_25 rfl (lv_at hl 1 rfl) ?_
        refine lv_aload_n hx hb dX8_worthOf_26 rfl (lv_at hl 0 rfl) ?_
        refine lv_iload_n hx hb dX8_worthOf_27 rfl (lv_at hl 1 rfl) ?_
        refine lv_aload_n hx hb dX8_worthOf_28 rfl (lv_at hl 0 rfl) ?_
        refine lv_iload_n hx hb dX8_worthOf_29 rfl (lv_at hl 2 rfl) ?_
        refine lv_iload hx hb dX8_worthOf_30 (lv_at hl 5 rfl) ?_
        obtain ⟨r6, hc6, h⟩ := ob h
        refine callRV (As := [.int w2_6, .int w6_6]) (rest := [.int w1_6, .ref (ad 0), .int w1_6, .ref (ad 0), .long (Int32.toInt64 r5), .long w4_6]) hC (c_X8_reaped l g ad I J w2_6 w6_6  hc6) lk_X8_188 rfl rfl ⟨Nat.le_of_ble_eq_true rfl, Nat.le_of_ble_eq_true rfl⟩ hP hK mo_0 rfl rfl rfl hl (Nat.le_of_ble_eq_true rfl) dX8_worthOf_32 ?_
        refine lv_iload_n hx hb dX8_worthOf_35 rfl (lv_at hl 3 rfl) ?_
        obtain ⟨r7, hc7, h⟩ := ob h
        refine callRV (As := [.int w1_6, .int r6, .int w3_6]) (rest := [.int w1_6, .ref (ad 0), .long (Int32.toInt64 r5), .long w4_6]) hC (c_X8_hasOf l g ad I J w1_6 r6 w3_6  hc7) lk_X8_191 rfl rfl ⟨Nat.le_of_ble_eq_true rfl, Nat.le_of_ble_eq_true rfl⟩ hP hK mo_0 rfl rfl rfl hl (Nat.le_of_ble_eq_true rfl) dX8_worthOf_36 ?_
        obtain ⟨r8, hc8, h⟩ := ob h
        refine callRV (As := [.int w1_6, .int r7]) (rest := [.long (Int32.toInt64 r5), .long w4_6]) hC (c_X8_mindOf l g ad I J w1_6 r7  hc8) lk_X8_194 rfl rfl ⟨Nat.le_of_ble_eq_true rfl, Nat.le_of_ble_eq_true rfl⟩ hP hK mo_0 rfl rfl rfl hl (Nat.le_of_ble_eq_true rfl) dX8_worthOf_39 ?_
        refine lv_i2l hx hb dX8_worthOf_42 rfl ?_
        refine lv_lmul hx hb dX8_worthOf_43 ?_
        refine lv_ladd hx hb dX8_worthOf_44 ?_
        refine lv_lstore (lv' := [(4, .long (w4_6 + ((Int32.toInt64 r5) * (Int32.toInt64 r8)))), (0, .ref (ad 0)), (1, .int w1_6), (2, .int w2_6), (3, .int w3_6), (6, .int w6_6)]) hx hb dX8_worthOf_45 hl (by decide) rfl (fun ls hl => ?_)
        refine lv_iinc (v := (w6_6 + 1)) (lv' := [(6, .int (w6_6 + 1)), (4, .long (w4_6 + ((Int32.toInt64 r5) * (Int32.toInt64 r8)))), (0, .ref (ad 0)), (1, .int w1_6), (2, .int w2_6), (3, .int w3_6)]) hx hb dX8_worthOf_47 hl (k := 5) rfl rfl (by decide) rfl (fun ls hl => ?_)
        refine lv_goto (tgt := 6) hx hb dX8_worthOf_50 (by decide) ?_
        exact ih w1_6 w2_6 w3_6 (w4_6 + ((Int32.toInt64 r5) * (Int32.toInt64 r8))) (w6_6 + 1) _ h (lv_sub hl [2, 3, 4, 5, 1, 0] rfl)
  unfold F_X8_worthOf at h
  refine lv_lconst (v := 0) hx hb dX8_worthOf_0 (by decide) ?_
  refine lv_lstore (lv' := [(4, .long (0 : Int64)), (0, .ref (ad 0)), (1, .int v1), (2, .int v2), (3, .int v3)]) hx hb dX8_worthOf_1 hl (by decide) rfl (fun ls hl => ?_)
  refine lv_iconst (v := 0) hx hb dX8_worthOf_3 (by decide) ?_
  refine lv_istore (lv' := [(6, .int (0 : Int32)), (4, .long (0 : Int64)), (0, .ref (ad 0)), (1, .int v1), (2, .int v2), (3, .int v3)]) hx hb dX8_worthOf_4 hl (by decide) rfl (fun ls hl => ?_)
  exact loop_6 3000 v1 v2 v3 (0 : Int64) (0 : Int32) _ h (lv_sub hl [2, 3, 4, 5, 1, 0] rfl)
def FL_X8_bestPains_13  : Nat → SI → SJ → Int32 → Int32 → Int64 → Int32 → Option (Int32)
  | 0, _, _, _, _, _, _ => none
  | n + 1, I, J, w1_13, w2_13, w3_13, w5_13 => (if (I 0 7) < w5_13 then (some w2_13) else ((F_X8_worthOf I J (0 : Int32) w5_13 w1_13).bind fun r3 => (if w3_13 < r3 then (FL_X8_bestPains_13 n I J w1_13 w5_13 r3 (w5_13 + 1)) else (FL_X8_bestPains_13 n I J w1_13 w2_13 w3_13 (w5_13 + 1)))))
def F_X8_bestPains (I : SI) (J : SJ) (v1 : Int32) : Option (Int32) := ((F_X8_worthOf I J (0 : Int32) (0 : Int32) v1).bind fun r1 => (FL_X8_bestPains_13 3000 I J v1 (0 : Int32) r1 (1 : Int32)))
set_option maxHeartbeats 4000000 in
set_option maxRecDepth 100000 in
theorem c_X8_bestPains (l : Launch) (g : Gx) (ad : Nat → Nat) (I : SI) (J : SJ) (v1 : Int32)  {r : Int32} (h : F_X8_bestPains I J v1 = some r) : Met l yX8_bestPains (Cond.code yX8_bestPains cX8_bestPains 8 (some .int) :: BG) (k2_rm 3 73) (va_Pc [.ref (ad 0), .int v1] (fun U => Pg g (mW ad g I J) U.heap ∧ Kg g U)) (k2_QcV (.int r)) 0 0 (fun _ => False) := by
  refine mkRi (by decide) (Nat.le_of_ble_eq_true rfl) ?_
  intro p e s m args below meth c H locs ls Q hC hK hP hl hret
  have hx := hC.1
  have hb := hC.2.1
  have hts := hC.2.2.2.2
  have hown := hC.2.2.2.1
  replace hl : lv_has ls 8 [(0, .ref (ad 0)), (1, .int v1)] := hl
  have loop_13 : ∀ (n : Nat) (w1_13 : Int32) (w2_13 : Int32) (w3_13 : Int64) (w5_13 : Int32)  (ls : Array Slot), FL_X8_bestPains_13 n I J w1_13 w2_13 w3_13 w5_13 = some r → lv_has ls 8 [(0, .ref (ad 0)), (1, .int w1_13), (2, .int w2_13), (3, .long w3_13), (5, .int w5_13)] → W p l e (k2_rm 3 73) s m args below meth c H locs 0 0 Q (F0 m 13 ls []) := by
    intro n
    induction n with
    | zero =>
      intro w1_13 w2_13 w3_13 w5_13 ls h
      exact no h
    | succ n ih =>
      intro w1_13 w2_13 w3_13 w5_13 ls h hl
      rw [FL_X8_bestPains_13] at h
      refine lv_iload hx hb dX8_bestPains_13 (lv_at hl 4 rfl) ?_
      refine lv_aload_n hx hb dX8_bestPains_15 rfl (lv_at hl 0 rfl) ?_
      refine gt_X8_125 hC hK hP dX8_bestPains_16 ?_
      refine lv_icmp_gt (tgt := 54) hx hb dX8_bestPains_19 (by decide) (fun c2 => ?_) (fun c2 => ?_)
      · replace h := (if_pos c2).symm.trans h
        refine lv_iload_n hx hb dX8_bestPains_54 rfl (lv_at hl 2 rfl) ?_
        exact hret _ _ _ dX8_bestPains_55 (Option.some.inj h)
      · replace h := (if_neg c2).symm.trans h
        refine lv_aload_n hx hb dX8_bestPains_22 rfl (lv_at hl 0 rfl) ?_
        refine lv_iconst (v := 0) hx hb dX8_bestPains_23 (by decide) ?_
        refine lv_iload hx hb dX8_bestPains_24 (lv_at hl 4 rfl) ?_
        refine lv_iload_n hx hb dX8_bestPains_26 rfl (lv_at hl 1 rfl) ?_
        obtain ⟨r3, hc3, h⟩ := ob h
        refine callRV (As := [.int (0 : Int32), .int w5_13, .int w1_13]) (rest := []) hC (c_X8_worthOf l g ad I J (0 : Int32) w5_13 w1_13  hc3) lk_X8_202 rfl rfl ⟨Nat.le_of_ble_eq_true rfl, Nat.le_of_ble_eq_true rfl⟩ hP hK mo_0 rfl rfl rfl hl (Nat.le_of_ble_eq_true rfl) dX8_bestPains_27 ?_
        refine lv_lstore (lv' := [(6, .long r3), (0, .ref (ad 0)), (1, .int w1_13), (2, .int w2_13), (3, .long w3_13), (5, .int w5_13)]) hx hb dX8_bestPains_30 hl (by decide) rfl (fun ls hl => ?_)
        refine lv_lload hx hb dX8_bestPains_32 (lv_at hl 0 rfl) ?_
        refine lv_lload_n hx hb dX8_bestPains_34 rfl (lv_at hl 4 rfl) ?_
        refine W.lcmp hx hb dX8_bestPains_35 ?_
        refine lv_if_gt (tgt := 42) hx hb dX8_bestPains_36 (by decide) (fun c4 => ?_) (fun c4 => ?_)
        · replace h := (if_pos ((lg_cmp_gt _ _).mp c4)).symm.trans h
          refine lv_lload hx hb dX8_bestPains_42 (lv_at hl 0 rfl) ?_
          refine lv_lstore_n (lv' := [(3, .long r3), (6, .long r3), (0, .ref (ad 0)), (1, .int w1_13), (2, .int w2_13), (5, .int w5_13)]) hx hb dX8_bestPains_44 rfl hl (by decide) rfl (fun ls hl => ?_)
          refine lv_iload hx hb dX8_bestPains_45 (lv_at hl 5 rfl) ?_
          refine lv_istore_n (lv' := [(2, .int w5_13), (3, .long r3), (6, .long r3), (0, .ref (ad 0)), (1, .int w1_13), (5, .int w5_13)]) hx hb dX8_bestPains_47 rfl hl (by decide) rfl (fun ls hl => ?_)
          refine lv_iinc (v := (w5_13 + 1)) (lv' := [(5, .int (w5_13 + 1)), (2, .int w5_13), (3, .long r3), (6, .long r3), (0, .ref (ad 0)), (1, .int w1_13)]) hx hb dX8_bestPains_48 hl (k := 5) rfl rfl (by decide) rfl (fun ls hl => ?_)
          refine lv_goto (tgt := 13) hx hb dX8_bestPains_51 (by decide) ?_
          exact ih w1_13 w5_13 r3 (w5_13 + 1) _ h (lv_sub hl [4, 5, 1, 2, 0] rfl)
        · replace h := (if_neg (fun hh => c4 ((lg_cmp_gt _ _).mpr hh))).symm.trans h
          refine lv_goto (tgt := 48) hx hb dX8_bestPains_39 (by decide) ?_
          refine lv_iinc (v := (w5_13 + 1)) (lv' := [(5, .int (w5_13 + 1)), (6, .long r3), (0, .ref (ad 0)), (1, .int w1_13), (2, .int w2_13), (3, .long w3_13)]) hx hb dX8_bestPains_48 hl (k := 5) rfl rfl (by decide) rfl (fun ls hl => ?_)
          refine lv_goto (tgt := 13) hx hb dX8_bestPains_51 (by decide) ?_
          exact ih w1_13 w2_13 w3_13 (w5_13 + 1) _ h (lv_sub hl [2, 3, 4, 5, 0] rfl)
  unfold F_X8_bestPains at h
  refine lv_iconst (v := 0) hx hb dX8_bestPains_0 (by decide) ?_
  refine lv_istore_n (lv' := [(2, .int (0 : Int32)), (0, .ref (ad 0)), (1, .int v1)]) hx hb dX8_bestPains_1 rfl hl (by decide) rfl (fun ls hl => ?_)
  refine lv_aload_n hx hb dX8_bestPains_2 rfl (lv_at hl 1 rfl) ?_
  refine lv_iconst (v := 0) hx hb dX8_bestPains_3 (by decide) ?_
  refine lv_iconst (v := 0) hx hb dX8_bestPains_4 (by decide) ?_
  refine lv_iload_n hx hb dX8_bestPains_5 rfl (lv_at hl 2 rfl) ?_
  obtain ⟨r1, hc1, h⟩ := ob h
  refine callRV (As := [.int (0 : Int32), .int (0 : Int32), .int v1]) (rest := []) hC (c_X8_worthOf l g ad I J (0 : Int32) (0 : Int32) v1  hc1) lk_X8_202 rfl rfl ⟨Nat.le_of_ble_eq_true rfl, Nat.le_of_ble_eq_true rfl⟩ hP hK mo_0 rfl rfl rfl hl (Nat.le_of_ble_eq_true rfl) dX8_bestPains_6 ?_
  refine lv_lstore_n (lv' := [(3, .long r1), (2, .int (0 : Int32)), (0, .ref (ad 0)), (1, .int v1)]) hx hb dX8_bestPains_9 rfl hl (by decide) rfl (fun ls hl => ?_)
  refine lv_iconst (v := 1) hx hb dX8_bestPains_10 (by decide) ?_
  refine lv_istore (lv' := [(5, .int (1 : Int32)), (3, .long r1), (2, .int (0 : Int32)), (0, .ref (ad 0)), (1, .int v1)]) hx hb dX8_bestPains_11 hl (by decide) rfl (fun ls hl => ?_)
  exact loop_13 3000 v1 (0 : Int32) r1 (1 : Int32) _ h (lv_sub hl [3, 4, 2, 1, 0] rfl)
def F_X8_doesTake (I : SI) (J : SJ) : Option (Int32) := ((F_X8_bestPains I J (0 : Int32)).bind fun r1 => ((F_X8_worthOf I J (0 : Int32) r1 (0 : Int32)).bind fun r2 => (if r2 < ((1000 : Int64) * (Int32.toInt64 (I 2 (Int32.toNatClampNeg (1 : Int32))))) then (some (0 : Int32)) else (some (1 : Int32)))))
set_option maxHeartbeats 4000000 in
set_option maxRecDepth 100000 in
theorem c_X8_doesTake (l : Launch) (g : Gx) (ad : Nat → Nat) (I : SI) (J : SJ)   {r : Int32} (h : F_X8_doesTake I J = some r) : Met l yX8_doesTake (Cond.code yX8_doesTake cX8_doesTake 1 (some .boolean) :: BG) (k2_rm 4 100) (va_Pc [.ref (ad 0)] (fun U => Pg g (mW ad g I J) U.heap ∧ Kg g U)) (k2_QcV (.int r)) 0 0 (fun _ => False) := by
  refine mkRz (by decide) (Nat.le_of_ble_eq_true rfl) ?_
  intro p e s m args below meth c H locs ls Q hC hK hP hl hret
  have hx := hC.1
  have hb := hC.2.1
  have hts := hC.2.2.2.2
  have hown := hC.2.2.2.1
  replace hl : lv_has ls 1 [(0, .ref (ad 0))] := hl
  unfold F_X8_doesTake at h
  refine lv_aload_n hx hb dX8_doesTake_0 rfl (lv_at hl 0 rfl) ?_
  refine lv_iconst (v := 0) hx hb dX8_doesTake_1 (by decide) ?_
  refine lv_aload_n hx hb dX8_doesTake_2 rfl (lv_at hl 0 rfl) ?_
  refine lv_iconst (v := 0) hx hb dX8_doesTake_3 (by decide) ?_
  obtain ⟨r1, hc1, h⟩ := ob h
  refine callRV (As := [.int (0 : Int32)]) (rest := [.int (0 : Int32), .ref (ad 0)]) hC (c_X8_bestPains l g ad I J (0 : Int32)  hc1) lk_X8_206 rfl rfl ⟨Nat.le_of_ble_eq_true rfl, Nat.le_of_ble_eq_true rfl⟩ hP hK mo_0 rfl rfl rfl hl (Nat.le_of_ble_eq_true rfl) dX8_doesTake_4 ?_
  refine lv_iconst (v := 0) hx hb dX8_doesTake_7 (by decide) ?_
  obtain ⟨r2, hc2, h⟩ := ob h
  refine callRV (As := [.int (0 : Int32), .int r1, .int (0 : Int32)]) (rest := []) hC (c_X8_worthOf l g ad I J (0 : Int32) r1 (0 : Int32)  hc2) lk_X8_202 rfl rfl ⟨Nat.le_of_ble_eq_true rfl, Nat.le_of_ble_eq_true rfl⟩ hP hK mo_0 rfl rfl rfl hl (Nat.le_of_ble_eq_true rfl) dX8_doesTake_8 ?_
  refine lv_ldc2 hx hb hown (hts _ kc_X8_197) dX8_doesTake_11 ?_
  refine lv_aload_n hx hb dX8_doesTake_14 rfl (lv_at hl 0 rfl) ?_
  refine gt_X8_13 hC hK hP dX8_doesTake_15 ?_
  refine lv_iconst (v := 1) hx hb dX8_doesTake_18 (by decide) ?_
  refine al_m2 hC hK hP (gin_ok (by decide)) dX8_doesTake_19 ?_
  refine lv_i2l hx hb dX8_doesTake_20 rfl ?_
  refine lv_lmul hx hb dX8_doesTake_21 ?_
  refine W.lcmp hx hb dX8_doesTake_22 ?_
  refine lv_if_lt (tgt := 30) hx hb dX8_doesTake_23 (by decide) (fun c4 => ?_) (fun c4 => ?_)
  · replace h := (if_pos ((lg_cmp_lt _ _).mp c4)).symm.trans h
    refine lv_iconst (v := 0) hx hb dX8_doesTake_30 (by decide) ?_
    exact hret _ _ _ dX8_doesTake_31 rfl (Option.some.inj h)
  · replace h := (if_neg (fun hh => c4 ((lg_cmp_lt _ _).mpr hh))).symm.trans h
    refine lv_iconst (v := 1) hx hb dX8_doesTake_26 (by decide) ?_
    refine lv_goto (tgt := 31) hx hb dX8_doesTake_27 (by decide) ?_
    exact hret _ _ _ dX8_doesTake_31 rfl (Option.some.inj h)
def F_X8_harvest (I : SI) (J : SJ) (v1 : Int32) (v2 : Int32) : Option (Int32 × SI × SJ) := ((F_X8_isIn v1 (0 : Int32) (I 0 7)).bind fun r1 => (if r1 = 0 then ((F_X8_no I J (-1 : Int32)).bind fun (r3, I3, J3) => (some (r3, I3, J3))) else ((F_X8_allWeathers I J).bind fun r4 => ((F_X8_isIn v2 (0 : Int32) (r4 - (1 : Int32))).bind fun r5 => (if r5 = 0 then ((F_X8_no I J (-1 : Int32)).bind fun (r8, I8, J8) => (some (r8, I8, J8))) else ((F_X8_reaped (u2 (u2 I 0 26 (0 : Int32)) 0 27 (0 : Int32)) J v1 v2).bind fun r7 => (some (r7, (u2 (u2 I 0 26 (0 : Int32)) 0 27 (0 : Int32)), J))))))))
set_option maxHeartbeats 4000000 in
set_option maxRecDepth 100000 in
theorem c_X8_harvest (l : Launch) (g : Gx) (ad : Nat → Nat) (I : SI) (J : SJ) (v1 : Int32) (v2 : Int32)  (sz : Nat) {r : Int32} {rI : SI} {rJ : SJ} (h : F_X8_harvest I J v1 v2 = some (r, rI, rJ)) : Met l yX8_harvest (Cond.code yX8_harvest cX8_harvest 3 (some .int) :: BG) (k2_rm 2 45) (PcW [.ref (ad 0), .int v1, .int v2] g (mW ad g I J) sz) (QWi r g (mW ad g I J) (mW ad g rI rJ) sz) 0 0 (va_A (mW ad g I J) sz) := by
  refine mkWi (by decide) (Nat.le_of_ble_eq_true rfl) ?_
  intro p e s m args below meth c H locs ls A Q hC hK hP hD hA hS hl hret
  have hx := hC.1
  have hb := hC.2.1
  have hts := hC.2.2.2.2
  have hown := hC.2.2.2.1
  replace hl : lv_has ls 3 [(0, .ref (ad 0)), (1, .int v1), (2, .int v2)] := hl
  unfold F_X8_harvest at h
  refine lv_iload_n hx hb dX8_harvest_0 rfl (lv_at hl 1 rfl) ?_
  refine lv_iconst (v := 0) hx hb dX8_harvest_1 (by decide) ?_
  refine lv_aload_n hx hb dX8_harvest_2 rfl (lv_at hl 0 rfl) ?_
  refine gt_X8_125 hC hK hP dX8_harvest_3 ?_
  obtain ⟨r1, hc1, h⟩ := ob h
  refine callRS (As := [.int v1, .int (0 : Int32), .int (I 0 7)]) (rest := []) hC (c_X8_isIn l g (mW ad g I J) v1 (0 : Int32) (I 0 7) hc1) lk_X8_104 rfl rfl ⟨Nat.le_of_ble_eq_true rfl, Nat.le_of_ble_eq_true rfl⟩ hP hK rfl rfl hl (Nat.le_of_ble_eq_true rfl) dX8_harvest_6 ?_
  refine lv_if_eq (tgt := 26) hx hb dX8_harvest_9 (by decide) (fun c2 => ?_) (fun c2 => ?_)
  · replace h := (if_pos c2).symm.trans h
    refine lv_aload_n hx hb dX8_harvest_26 rfl (lv_at hl 0 rfl) ?_
    refine lv_iconst (v := -1) hx hb dX8_harvest_27 (by decide) ?_
    obtain ⟨⟨r3, I3, J3⟩, hc3, h⟩ := ob h
    dsimp only at h
    refine callWVi (As := [.int (-1 : Int32)]) (rest := []) hC (c_X8_no l g ad I J (-1 : Int32)  H.size hc3) lk_X8_92 rfl rfl ⟨Nat.le_of_ble_eq_true rfl, Nat.le_of_ble_eq_true rfl⟩ hP hK hD hA hS mo_0 rfl rfl rfl hl (Nat.le_of_ble_eq_true rfl) dX8_harvest_28 (fun H locs hP hD hS => ?_)
    obtain ⟨h1, h⟩ := Prod.mk.inj (Option.some.inj h)
    obtain ⟨rfl, rfl⟩ := Prod.mk.inj h
    exact hret _ _ _ _ _ dX8_harvest_31 h1 hP hD hS
  · replace h := (if_neg c2).symm.trans h
    refine lv_iload_n hx hb dX8_harvest_12 rfl (lv_at hl 2 rfl) ?_
    refine lv_iconst (v := 0) hx hb dX8_harvest_13 (by decide) ?_
    refine lv_aload_n hx hb dX8_harvest_14 rfl (lv_at hl 0 rfl) ?_
    obtain ⟨r4, hc4, h⟩ := ob h
    refine callRV (As := []) (rest := [.int (0 : Int32), .int v2]) hC (c_X8_allWeathers l g ad I J   hc4) lk_X8_158 rfl rfl ⟨Nat.le_of_ble_eq_true rfl, Nat.le_of_ble_eq_true rfl⟩ hP hK mo_0 rfl rfl rfl hl (Nat.le_of_ble_eq_true rfl) dX8_harvest_15 ?_
    refine lv_iconst (v := 1) hx hb dX8_harvest_18 (by decide) ?_
    refine lv_isub hx hb dX8_harvest_19 ?_
    obtain ⟨r5, hc5, h⟩ := ob h
    refine callRS (As := [.int v2, .int (0 : Int32), .int (r4 - (1 : Int32))]) (rest := []) hC (c_X8_isIn l g (mW ad g I J) v2 (0 : Int32) (r4 - (1 : Int32)) hc5) lk_X8_104 rfl rfl ⟨Nat.le_of_ble_eq_true rfl, Nat.le_of_ble_eq_true rfl⟩ hP hK rfl rfl hl (Nat.le_of_ble_eq_true rfl) dX8_harvest_20 ?_
    refine lv_if_ne (tgt := 32) hx hb dX8_harvest_23 (by decide) (fun c6 => ?_) (fun c6 => ?_)
    · replace h := (if_neg c6).symm.trans h
      refine lv_aload_n hx hb dX8_harvest_32 rfl (lv_at hl 0 rfl) ?_
      refine lv_iconst (v := 0) hx hb dX8_harvest_33 (by decide) ?_
      refine pt_X8_179 hC hK hP hD hS dX8_harvest_34 (fun H locs hP hD hS => ?_)
      refine lv_aload_n hx hb dX8_harvest_37 rfl (lv_at hl 0 rfl) ?_
      refine lv_iconst (v := 0) hx hb dX8_harvest_38 (by decide) ?_
      refine pt_X8_182 hC hK hP hD hS dX8_harvest_39 (fun H locs hP hD hS => ?_)
      refine lv_aload_n hx hb dX8_harvest_42 rfl (lv_at hl 0 rfl) ?_
      refine lv_iload_n hx hb dX8_harvest_43 rfl (lv_at hl 1 rfl) ?_
      refine lv_iload_n hx hb dX8_harvest_44 rfl (lv_at hl 2 rfl) ?_
      obtain ⟨r7, hc7, h⟩ := ob h
      refine callRV (As := [.int v1, .int v2]) (rest := []) hC (c_X8_reaped l g ad (u2 (u2 I 0 26 (0 : Int32)) 0 27 (0 : Int32)) J v1 v2  hc7) lk_X8_188 rfl rfl ⟨Nat.le_of_ble_eq_true rfl, Nat.le_of_ble_eq_true rfl⟩ hP hK mo_0 rfl rfl rfl hl (Nat.le_of_ble_eq_true rfl) dX8_harvest_45 ?_
      obtain ⟨h1, h⟩ := Prod.mk.inj (Option.some.inj h)
      obtain ⟨rfl, rfl⟩ := Prod.mk.inj h
      exact hret _ _ _ _ _ dX8_harvest_48 h1 hP hD hS
    · replace h := (if_pos c6).symm.trans h
      refine lv_aload_n hx hb dX8_harvest_26 rfl (lv_at hl 0 rfl) ?_
      refine lv_iconst (v := -1) hx hb dX8_harvest_27 (by decide) ?_
      obtain ⟨⟨r8, I8, J8⟩, hc8, h⟩ := ob h
      dsimp only at h
      refine callWVi (As := [.int (-1 : Int32)]) (rest := []) hC (c_X8_no l g ad I J (-1 : Int32)  H.size hc8) lk_X8_92 rfl rfl ⟨Nat.le_of_ble_eq_true rfl, Nat.le_of_ble_eq_true rfl⟩ hP hK hD hA hS mo_0 rfl rfl rfl hl (Nat.le_of_ble_eq_true rfl) dX8_harvest_28 (fun H locs hP hD hS => ?_)
      obtain ⟨h1, h⟩ := Prod.mk.inj (Option.some.inj h)
      obtain ⟨rfl, rfl⟩ := Prod.mk.inj h
      exact hret _ _ _ _ _ dX8_harvest_31 h1 hP hD hS
def F_X8_whose (I : SI) (J : SJ) (v1 : Int32) (v2 : Int32) (v3 : Int32) (v4 : Int32) : Option (Int32 × SI × SJ) := ((F_X8_isTerm I J v1).bind fun r1 => (if r1 = 0 then ((F_X8_lower I J (-1 : Int32)).bind fun (r3, I3, J3) => (some (r3, I3, J3))) else ((F_X8_isIn v4 (0 : Int32) (1 : Int32)).bind fun r4 => (if r4 = 0 then ((F_X8_lower I J (-1 : Int32)).bind fun (r27, I27, J27) => (some (r27, I27, J27))) else (if v2 < 0 then (if (-4 : Int32) = 0 then ((F_X8_takesTerm I J v1).bind fun (I8, J8) => ((F_X8_hasOf I8 J8 v4 v2 v3).bind fun r9 => (some (r9, I8, J8)))) else ((F_X8_lower I J (-4 : Int32)).bind fun (r10, I10, J10) => (some (r10, I10, J10)))) else (if 0 ≤ v3 then (if (999 : Int32) < v2 then (if (-6 : Int32) = 0 then ((F_X8_takesTerm I J v1).bind fun (I14, J14) => ((F_X8_hasOf I14 J14 v4 v2 v3).bind fun r15 => (some (r15, I14, J14)))) else ((F_X8_lower I J (-6 : Int32)).bind fun (r16, I16, J16) => (some (r16, I16, J16)))) else (if (if v3 ≤ (9 : Int32) then (0 : Int32) else (-6 : Int32)) = 0 then ((F_X8_takesTerm I J v1).bind fun (I20, J20) => ((F_X8_hasOf I20 J20 v4 v2 v3).bind fun r21 => (some (r21, I20, J20)))) else ((F_X8_lower I J (if v3 ≤ (9 : Int32) then (0 : Int32) else (-6 : Int32))).bind fun (r22, I22, J22) => (some (r22, I22, J22))))) else (if (-4 : Int32) = 0 then ((F_X8_takesTerm I J v1).bind fun (I24, J24) => ((F_X8_hasOf I24 J24 v4 v2 v3).bind fun r25 => (some (r25, I24, J24)))) else ((F_X8_lower I J (-4 : Int32)).bind fun (r26, I26, J26) => (some (r26, I26, J26))))))))))
set_option maxHeartbeats 4000000 in
set_option maxRecDepth 100000 in
theorem c_X8_whose (l : Launch) (g : Gx) (ad : Nat → Nat) (I : SI) (J : SJ) (v1 : Int32) (v2 : Int32) (v3 : Int32) (v4 : Int32)  (sz : Nat) {r : Int32} {rI : SI} {rJ : SJ} (h : F_X8_whose I J v1 v2 v3 v4 = some (r, rI, rJ)) : Met l yX8_whose (Cond.code yX8_whose cX8_whose 6 (some .int) :: BG) (k2_rm 2 47) (PcW [.ref (ad 0), .int v1, .int v2, .int v3, .int v4] g (mW ad g I J) sz) (QWi r g (mW ad g I J) (mW ad g rI rJ) sz) 0 0 (va_A (mW ad g I J) sz) := by
  refine mkWi (by decide) (Nat.le_of_ble_eq_true rfl) ?_
  intro p e s m args below meth c H locs ls A Q hC hK hP hD hA hS hl hret
  have hx := hC.1
  have hb := hC.2.1
  have hts := hC.2.2.2.2
  have hown := hC.2.2.2.1
  replace hl : lv_has ls 6 [(0, .ref (ad 0)), (1, .int v1), (2, .int v2), (3, .int v3), (4, .int v4)] := hl
  unfold F_X8_whose at h
  refine lv_aload_n hx hb dX8_whose_0 rfl (lv_at hl 0 rfl) ?_
  refine lv_iload_n hx hb dX8_whose_1 rfl (lv_at hl 1 rfl) ?_
  obtain ⟨r1, hc1, h⟩ := ob h
  refine callRV (As := [.int v1]) (rest := []) hC (c_X8_isTerm l g ad I J v1  hc1) lk_X8_155 rfl rfl ⟨Nat.le_of_ble_eq_true rfl, Nat.le_of_ble_eq_true rfl⟩ hP hK mo_0 rfl rfl rfl hl (Nat.le_of_ble_eq_true rfl) dX8_whose_2 ?_
  refine lv_if_eq (tgt := 18) hx hb dX8_whose_5 (by decide) (fun c2 => ?_) (fun c2 => ?_)
  · replace h := (if_pos c2).symm.trans h
    refine lv_aload_n hx hb dX8_whose_18 rfl (lv_at hl 0 rfl) ?_
    refine lv_iconst (v := -1) hx hb dX8_whose_19 (by decide) ?_
    obtain ⟨⟨r3, I3, J3⟩, hc3, h⟩ := ob h
    dsimp only at h
    refine callWVi (As := [.int (-1 : Int32)]) (rest := []) hC (c_X8_lower l g ad I J (-1 : Int32)  H.size hc3) lk_X8_209 rfl rfl ⟨Nat.le_of_ble_eq_true rfl, Nat.le_of_ble_eq_true rfl⟩ hP hK hD hA hS mo_0 rfl rfl rfl hl (Nat.le_of_ble_eq_true rfl) dX8_whose_20 (fun H locs hP hD hS => ?_)
    obtain ⟨h1, h⟩ := Prod.mk.inj (Option.some.inj h)
    obtain ⟨rfl, rfl⟩ := Prod.mk.inj h
    exact hret _ _ _ _ _ dX8_whose_23 h1 hP hD hS
  · replace h := (if_neg c2).symm.trans h
    refine lv_iload hx hb dX8_whose_8 (lv_at hl 4 rfl) ?_
    refine lv_iconst (v := 0) hx hb dX8_whose_10 (by decide) ?_
    refine lv_iconst (v := 1) hx hb dX8_whose_11 (by decide) ?_
    obtain ⟨r4, hc4, h⟩ := ob h
    refine callRS (As := [.int v4, .int (0 : Int32), .int (1 : Int32)]) (rest := []) hC (c_X8_isIn l g (mW ad g I J) v4 (0 : Int32) (1 : Int32) hc4) lk_X8_104 rfl rfl ⟨Nat.le_of_ble_eq_true rfl, Nat.le_of_ble_eq_true rfl⟩ hP hK rfl rfl hl (Nat.le_of_ble_eq_true rfl) dX8_whose_12 ?_
    refine lv_if_ne (tgt := 24) hx hb dX8_whose_15 (by decide) (fun c5 => ?_) (fun c5 => ?_)
    · replace h := (if_neg c5).symm.trans h
      refine lv_iload_n hx hb dX8_whose_24 rfl (lv_at hl 2 rfl) ?_
      refine lv_if_lt (tgt := 32) hx hb dX8_whose_25 (by decide) (fun c6 => ?_) (fun c6 => ?_)
      · replace h := (if_pos c6).symm.trans h
        refine lv_bipush (v := -4) hx hb dX8_whose_32 (by decide) ?_
        refine lv_goto (tgt := 56) hx hb dX8_whose_34 (by decide) ?_
        refine lv_istore (lv' := [(5, .int (-4 : Int32)), (0, .ref (ad 0)), (1, .int v1), (2, .int v2), (3, .int v3), (4, .int v4)]) hx hb dX8_whose_56 hl (by decide) rfl (fun ls hl => ?_)
        refine lv_iload hx hb dX8_whose_58 (lv_at hl 0 rfl) ?_
        refine lv_if_eq (tgt := 70) hx hb dX8_whose_60 (by decide) (fun c7 => ?_) (fun c7 => ?_)
        · replace h := (if_pos c7).symm.trans h
          refine lv_aload_n hx hb dX8_whose_70 rfl (lv_at hl 1 rfl) ?_
          refine lv_iload_n hx hb dX8_whose_71 rfl (lv_at hl 2 rfl) ?_
          obtain ⟨⟨I8, J8⟩, hc8, h⟩ := ob h
          dsimp only at h
          refine callWVv (As := [.int v1]) (rest := []) hC (c_X8_takesTerm l g ad I J v1  H.size hc8) lk_X8_212 rfl rfl ⟨Nat.le_of_ble_eq_true rfl, Nat.le_of_ble_eq_true rfl⟩ hP hK hD hA hS mo_0 rfl rfl rfl hl (Nat.le_of_ble_eq_true rfl) dX8_whose_72 (fun H locs hP hD hS => ?_)
          refine lv_aload_n hx hb dX8_whose_75 rfl (lv_at hl 1 rfl) ?_
          refine lv_iload hx hb dX8_whose_76 (lv_at hl 5 rfl) ?_
          refine lv_iload_n hx hb dX8_whose_78 rfl (lv_at hl 3 rfl) ?_
          refine lv_iload_n hx hb dX8_whose_79 rfl (lv_at hl 4 rfl) ?_
          obtain ⟨r9, hc9, h⟩ := ob h
          refine callRV (As := [.int v4, .int v2, .int v3]) (rest := []) hC (c_X8_hasOf l g ad I8 J8 v4 v2 v3  hc9) lk_X8_191 rfl rfl ⟨Nat.le_of_ble_eq_true rfl, Nat.le_of_ble_eq_true rfl⟩ hP hK mo_0 rfl rfl rfl hl (Nat.le_of_ble_eq_true rfl) dX8_whose_80 ?_
          obtain ⟨h1, h⟩ := Prod.mk.inj (Option.some.inj h)
          obtain ⟨rfl, rfl⟩ := Prod.mk.inj h
          exact hret _ _ _ _ _ dX8_whose_83 h1 hP hD hS
        · replace h := (if_neg c7).symm.trans h
          refine lv_aload_n hx hb dX8_whose_63 rfl (lv_at hl 1 rfl) ?_
          refine lv_iload hx hb dX8_whose_64 (lv_at hl 0 rfl) ?_
          obtain ⟨⟨r10, I10, J10⟩, hc10, h⟩ := ob h
          dsimp only at h
          refine callWVi (As := [.int (-4 : Int32)]) (rest := []) hC (c_X8_lower l g ad I J (-4 : Int32)  H.size hc10) lk_X8_209 rfl rfl ⟨Nat.le_of_ble_eq_true rfl, Nat.le_of_ble_eq_true rfl⟩ hP hK hD hA hS mo_0 rfl rfl rfl hl (Nat.le_of_ble_eq_true rfl) dX8_whose_66 (fun H locs hP hD hS => ?_)
          obtain ⟨h1, h⟩ := Prod.mk.inj (Option.some.inj h)
          obtain ⟨rfl, rfl⟩ := Prod.mk.inj h
          exact hret _ _ _ _ _ dX8_whose_69 h1 hP hD hS
      · replace h := (if_neg c6).symm.trans h
        refine lv_iload_n hx hb dX8_whose_28 rfl (lv_at hl 3 rfl) ?_
        refine lv_if_ge (tgt := 37) hx hb dX8_whose_29 (by decide) (fun c11 => ?_) (fun c11 => ?_)
        · replace h := (if_pos c11).symm.trans h
          refine lv_iload_n hx hb dX8_whose_37 rfl (lv_at hl 2 rfl) ?_
          refine lv_sipush (v := 999) hx hb dX8_whose_38 (by decide) ?_
          refine lv_icmp_gt (tgt := 50) hx hb dX8_whose_41 (by decide) (fun c12 => ?_) (fun c12 => ?_)
          · replace h := (if_pos c12).symm.trans h
            refine lv_bipush (v := -6) hx hb dX8_whose_50 (by decide) ?_
            refine lv_goto (tgt := 56) hx hb dX8_whose_52 (by decide) ?_
            refine lv_istore (lv' := [(5, .int (-6 : Int32)), (0, .ref (ad 0)), (1, .int v1), (2, .int v2), (3, .int v3), (4, .int v4)]) hx hb dX8_whose_56 hl (by decide) rfl (fun ls hl => ?_)
            refine lv_iload hx hb dX8_whose_58 (lv_at hl 0 rfl) ?_
            refine lv_if_eq (tgt := 70) hx hb dX8_whose_60 (by decide) (fun c13 => ?_) (fun c13 => ?_)
            · replace h := (if_pos c13).symm.trans h
              refine lv_aload_n hx hb dX8_whose_70 rfl (lv_at hl 1 rfl) ?_
              refine lv_iload_n hx hb dX8_whose_71 rfl (lv_at hl 2 rfl) ?_
              obtain ⟨⟨I14, J14⟩, hc14, h⟩ := ob h
              dsimp only at h
              refine callWVv (As := [.int v1]) (rest := []) hC (c_X8_takesTerm l g ad I J v1  H.size hc14) lk_X8_212 rfl rfl ⟨Nat.le_of_ble_eq_true rfl, Nat.le_of_ble_eq_true rfl⟩ hP hK hD hA hS mo_0 rfl rfl rfl hl (Nat.le_of_ble_eq_true rfl) dX8_whose_72 (fun H locs hP hD hS => ?_)
              refine lv_aload_n hx hb dX8_whose_75 rfl (lv_at hl 1 rfl) ?_
              refine lv_iload hx hb dX8_whose_76 (lv_at hl 5 rfl) ?_
              refine lv_iload_n hx hb dX8_whose_78 rfl (lv_at hl 3 rfl) ?_
              refine lv_iload_n hx hb dX8_whose_79 rfl (lv_at hl 4 rfl) ?_
              obtain ⟨r15, hc15, h⟩ := ob h
              refine callRV (As := [.int v4, .int v2, .int v3]) (rest := []) hC (c_X8_hasOf l g ad I14 J14 v4 v2 v3  hc15) lk_X8_191 rfl rfl ⟨Nat.le_of_ble_eq_true rfl, Nat.le_of_ble_eq_true rfl⟩ hP hK mo_0 rfl rfl rfl hl (Nat.le_of_ble_eq_true rfl) dX8_whose_80 ?_
              obtain ⟨h1, h⟩ := Prod.mk.inj (Option.some.inj h)
              obtain ⟨rfl, rfl⟩ := Prod.mk.inj h
              exact hret _ _ _ _ _ dX8_whose_83 h1 hP hD hS
            · replace h := (if_neg c13).symm.trans h
              refine lv_aload_n hx hb dX8_whose_63 rfl (lv_at hl 1 rfl) ?_
              refine lv_iload hx hb dX8_whose_64 (lv_at hl 0 rfl) ?_
              obtain ⟨⟨r16, I16, J16⟩, hc16, h⟩ := ob h
              dsimp only at h
              refine callWVi (As := [.int (-6 : Int32)]) (rest := []) hC (c_X8_lower l g ad I J (-6 : Int32)  H.size hc16) lk_X8_209 rfl rfl ⟨Nat.le_of_ble_eq_true rfl, Nat.le_of_ble_eq_true rfl⟩ hP hK hD hA hS mo_0 rfl rfl rfl hl (Nat.le_of_ble_eq_true rfl) dX8_whose_66 (fun H locs hP hD hS => ?_)
              obtain ⟨h1, h⟩ := Prod.mk.inj (Option.some.inj h)
              obtain ⟨rfl, rfl⟩ := Prod.mk.inj h
              exact hret _ _ _ _ _ dX8_whose_69 h1 hP hD hS
          · replace h := (if_neg c12).symm.trans h
            refine lv_iload_n hx hb dX8_whose_44 rfl (lv_at hl 3 rfl) ?_
            refine lv_bipush (v := 9) hx hb dX8_whose_45 (by decide) ?_
            refine tern (α := Int32) (cnd := v3 ≤ (9 : Int32)) (a := (0 : Int32)) (b := (-6 : Int32)) (Wj := fun vj => W p l e (k2_rm 2 47) s m args below meth c H locs 0 0 Q (F0 m 56 ls [.int vj])) (fun k18a k18b => ?_) ?_
            · refine lv_icmp_le (tgt := 55) hx hb dX8_whose_47 (by decide) (fun c17 => ?_) (fun c17 => ?_)
              · refine lv_iconst (v := 0) hx hb dX8_whose_55 (by decide) ?_
                exact k18a c17
              · refine lv_bipush (v := -6) hx hb dX8_whose_50 (by decide) ?_
                refine lv_goto (tgt := 56) hx hb dX8_whose_52 (by decide) ?_
                exact k18b c17
            · show W p l e (k2_rm 2 47) s m args below meth c H locs 0 0 Q (F0 m 56 ls [.int (if v3 ≤ (9 : Int32) then (0 : Int32) else (-6 : Int32))])
              refine lv_istore (lv' := [(5, .int (if v3 ≤ (9 : Int32) then (0 : Int32) else (-6 : Int32))), (0, .ref (ad 0)), (1, .int v1), (2, .int v2), (3, .int v3), (4, .int v4)]) hx hb dX8_whose_56 hl (by decide) rfl (fun ls hl => ?_)
              refine lv_iload hx hb dX8_whose_58 (lv_at hl 0 rfl) ?_
              refine lv_if_eq (tgt := 70) hx hb dX8_whose_60 (by decide) (fun c19 => ?_) (fun c19 => ?_)
              · replace h := (if_pos c19).symm.trans h
                refine lv_aload_n hx hb dX8_whose_70 rfl (lv_at hl 1 rfl) ?_
                refine lv_iload_n hx hb dX8_whose_71 rfl (lv_at hl 2 rfl) ?_
                obtain ⟨⟨I20, J20⟩, hc20, h⟩ := ob h
                dsimp only at h
                refine callWVv (As := [.int v1]) (rest := []) hC (c_X8_takesTerm l g ad I J v1  H.size hc20) lk_X8_212 rfl rfl ⟨Nat.le_of_ble_eq_true rfl, Nat.le_of_ble_eq_true rfl⟩ hP hK hD hA hS mo_0 rfl rfl rfl hl (Nat.le_of_ble_eq_true rfl) dX8_whose_72 (fun H locs hP hD hS => ?_)
                refine lv_aload_n hx hb dX8_whose_75 rfl (lv_at hl 1 rfl) ?_
                refine lv_iload hx hb dX8_whose_76 (lv_at hl 5 rfl) ?_
                refine lv_iload_n hx hb dX8_whose_78 rfl (lv_at hl 3 rfl) ?_
                refine lv_iload_n hx hb dX8_whose_79 rfl (lv_at hl 4 rfl) ?_
                obtain ⟨r21, hc21, h⟩ := ob h
                refine callRV (As := [.int v4, .int v2, .int v3]) (rest := []) hC (c_X8_hasOf l g ad I20 J20 v4 v2 v3  hc21) lk_X8_191 rfl rfl ⟨Nat.le_of_ble_eq_true rfl, Nat.le_of_ble_eq_true rfl⟩ hP hK mo_0 rfl rfl rfl hl (Nat.le_of_ble_eq_true rfl) dX8_whose_80 ?_
                obtain ⟨h1, h⟩ := Prod.mk.inj (Option.some.inj h)
                obtain ⟨rfl, rfl⟩ := Prod.mk.inj h
                exact hret _ _ _ _ _ dX8_whose_83 h1 hP hD hS
              · replace h := (if_neg c19).symm.trans h
                refine lv_aload_n hx hb dX8_whose_63 rfl (lv_at hl 1 rfl) ?_
                refine lv_iload hx hb dX8_whose_64 (lv_at hl 0 rfl) ?_
                obtain ⟨⟨r22, I22, J22⟩, hc22, h⟩ := ob h
                dsimp only at h
                refine callWVi (As := [.int (if v3 ≤ (9 : Int32) then (0 : Int32) else (-6 : Int32))]) (rest := []) hC (c_X8_lower l g ad I J (if v3 ≤ (9 : Int32) then (0 : Int32) else (-6 : Int32))  H.size hc22) lk_X8_209 rfl rfl ⟨Nat.le_of_ble_eq_true rfl, Nat.le_of_ble_eq_true rfl⟩ hP hK hD hA hS mo_0 rfl rfl rfl hl (Nat.le_of_ble_eq_true rfl) dX8_whose_66 (fun H locs hP hD hS => ?_)
                obtain ⟨h1, h⟩ := Prod.mk.inj (Option.some.inj h)
                obtain ⟨rfl, rfl⟩ := Prod.mk.inj h
                exact hret _ _ _ _ _ dX8_whose_69 h1 hP hD hS
        · replace h := (if_neg c11).symm.trans h
          refine lv_bipush (v := -4) hx hb dX8_whose_32 (by decide) ?_
          refine lv_goto (tgt := 56) hx hb dX8_whose_34 (by decide) ?_
          refine lv_istore (lv' := [(5, .int (-4 : Int32)), (0, .ref (ad 0)), (1, .int v1), (2, .int v2), (3, .int v3), (4, .int v4)]) hx hb dX8_whose_56 hl (by decide) rfl (fun ls hl => ?_)
          refine lv_iload hx hb dX8_whose_58 (lv_at hl 0 rfl) ?_
          refine lv_if_eq (tgt := 70) hx hb dX8_whose_60 (by decide) (fun c23 => ?_) (fun c23 => ?_)
          · replace h := (if_pos c23).symm.trans h
            refine lv_aload_n hx hb dX8_whose_70 rfl (lv_at hl 1 rfl) ?_
            refine lv_iload_n hx hb dX8_whose_71 rfl (lv_at hl 2 rfl) ?_
            obtain ⟨⟨I24, J24⟩, hc24, h⟩ := ob h
            dsimp only at h
            refine callWVv (As := [.int v1]) (rest := []) hC (c_X8_takesTerm l g ad I J v1  H.size hc24) lk_X8_212 rfl rfl ⟨Nat.le_of_ble_eq_true rfl, Nat.le_of_ble_eq_true rfl⟩ hP hK hD hA hS mo_0 rfl rfl rfl hl (Nat.le_of_ble_eq_true rfl) dX8_whose_72 (fun H locs hP hD hS => ?_)
            refine lv_aload_n hx hb dX8_whose_75 rfl (lv_at hl 1 rfl) ?_
            refine lv_iload hx hb dX8_whose_76 (lv_at hl 5 rfl) ?_
            refine lv_iload_n hx hb dX8_whose_78 rfl (lv_at hl 3 rfl) ?_
            refine lv_iload_n hx hb dX8_whose_79 rfl (lv_at hl 4 rfl) ?_
            obtain ⟨r25, hc25, h⟩ := ob h
            refine callRV (As := [.int v4, .int v2, .int v3]) (rest := []) hC (c_X8_hasOf l g ad I24 J24 v4 v2 v3  hc25) lk_X8_191 rfl rfl ⟨Nat.le_of_ble_eq_true rfl, Nat.le_of_ble_eq_true rfl⟩ hP hK mo_0 rfl rfl rfl hl (Nat.le_of_ble_eq_true rfl) dX8_whose_80 ?_
            obtain ⟨h1, h⟩ := Prod.mk.inj (Option.some.inj h)
            obtain ⟨rfl, rfl⟩ := Prod.mk.inj h
            exact hret _ _ _ _ _ dX8_whose_83 h1 hP hD hS
          · replace h := (if_neg c23).symm.trans h
            refine lv_aload_n hx hb dX8_whose_63 rfl (lv_at hl 1 rfl) ?_
            refine lv_iload hx hb dX8_whose_64 (lv_at hl 0 rfl) ?_
            obtain ⟨⟨r26, I26, J26⟩, hc26, h⟩ := ob h
            dsimp only at h
            refine callWVi (As := [.int (-4 : Int32)]) (rest := []) hC (c_X8_lower l g ad I J (-4 : Int32)  H.size hc26) lk_X8_209 rfl rfl ⟨Nat.le_of_ble_eq_true rfl, Nat.le_of_ble_eq_true rfl⟩ hP hK hD hA hS mo_0 rfl rfl rfl hl (Nat.le_of_ble_eq_true rfl) dX8_whose_66 (fun H locs hP hD hS => ?_)
            obtain ⟨h1, h⟩ := Prod.mk.inj (Option.some.inj h)
            obtain ⟨rfl, rfl⟩ := Prod.mk.inj h
            exact hret _ _ _ _ _ dX8_whose_69 h1 hP hD hS
    · replace h := (if_pos c5).symm.trans h
      refine lv_aload_n hx hb dX8_whose_18 rfl (lv_at hl 0 rfl) ?_
      refine lv_iconst (v := -1) hx hb dX8_whose_19 (by decide) ?_
      obtain ⟨⟨r27, I27, J27⟩, hc27, h⟩ := ob h
      dsimp only at h
      refine callWVi (As := [.int (-1 : Int32)]) (rest := []) hC (c_X8_lower l g ad I J (-1 : Int32)  H.size hc27) lk_X8_209 rfl rfl ⟨Nat.le_of_ble_eq_true rfl, Nat.le_of_ble_eq_true rfl⟩ hP hK hD hA hS mo_0 rfl rfl rfl hl (Nat.le_of_ble_eq_true rfl) dX8_whose_20 (fun H locs hP hD hS => ?_)
      obtain ⟨h1, h⟩ := Prod.mk.inj (Option.some.inj h)
      obtain ⟨rfl, rfl⟩ := Prod.mk.inj h
      exact hret _ _ _ _ _ dX8_whose_23 h1 hP hD hS
def F_X8_mind (I : SI) (J : SJ) (v1 : Int32) (v2 : Int32) : Option (Int32 × SI × SJ) := ((F_X8_isIn v1 (0 : Int32) (1 : Int32)).bind fun r1 => (if r1 = 0 then ((F_X8_lower I J (-1 : Int32)).bind fun (r7, I7, J7) => (some (r7, I7, J7))) else ((F_X8_bound v2 (-999 : Int32) (999 : Int32)).bind fun r3 => (if r3 = 0 then ((F_X8_mindOf I J v1 v2).bind fun r5 => (some (r5, I, J))) else ((F_X8_lower I J r3).bind fun (r6, I6, J6) => (some (r6, I6, J6)))))))
set_option maxHeartbeats 4000000 in
set_option maxRecDepth 100000 in
theorem c_X8_mind (l : Launch) (g : Gx) (ad : Nat → Nat) (I : SI) (J : SJ) (v1 : Int32) (v2 : Int32)  (sz : Nat) {r : Int32} {rI : SI} {rJ : SJ} (h : F_X8_mind I J v1 v2 = some (r, rI, rJ)) : Met l yX8_mind (Cond.code yX8_mind cX8_mind 4 (some .int) :: BG) (k2_rm 1 23) (PcW [.ref (ad 0), .int v1, .int v2] g (mW ad g I J) sz) (QWi r g (mW ad g I J) (mW ad g rI rJ) sz) 0 0 (va_A (mW ad g I J) sz) := by
  refine mkWi (by decide) (Nat.le_of_ble_eq_true rfl) ?_
  intro p e s m args below meth c H locs ls A Q hC hK hP hD hA hS hl hret
  have hx := hC.1
  have hb := hC.2.1
  have hts := hC.2.2.2.2
  have hown := hC.2.2.2.1
  replace hl : lv_has ls 4 [(0, .ref (ad 0)), (1, .int v1), (2, .int v2)] := hl
  unfold F_X8_mind at h
  refine lv_iload_n hx hb dX8_mind_0 rfl (lv_at hl 1 rfl) ?_
  refine lv_iconst (v := 0) hx hb dX8_mind_1 (by decide) ?_
  refine lv_iconst (v := 1) hx hb dX8_mind_2 (by decide) ?_
  obtain ⟨r1, hc1, h⟩ := ob h
  refine callRS (As := [.int v1, .int (0 : Int32), .int (1 : Int32)]) (rest := []) hC (c_X8_isIn l g (mW ad g I J) v1 (0 : Int32) (1 : Int32) hc1) lk_X8_104 rfl rfl ⟨Nat.le_of_ble_eq_true rfl, Nat.le_of_ble_eq_true rfl⟩ hP hK rfl rfl hl (Nat.le_of_ble_eq_true rfl) dX8_mind_3 ?_
  refine lv_if_ne (tgt := 15) hx hb dX8_mind_6 (by decide) (fun c2 => ?_) (fun c2 => ?_)
  · replace h := (if_neg c2).symm.trans h
    refine lv_iload_n hx hb dX8_mind_15 rfl (lv_at hl 2 rfl) ?_
    refine lv_sipush (v := -999) hx hb dX8_mind_16 (by decide) ?_
    refine lv_sipush (v := 999) hx hb dX8_mind_19 (by decide) ?_
    obtain ⟨r3, hc3, h⟩ := ob h
    refine callRS (As := [.int v2, .int (-999 : Int32), .int (999 : Int32)]) (rest := []) hC (c_X8_bound l g (mW ad g I J) v2 (-999 : Int32) (999 : Int32) hc3) lk_X8_85 rfl rfl ⟨Nat.le_of_ble_eq_true rfl, Nat.le_of_ble_eq_true rfl⟩ hP hK rfl rfl hl (Nat.le_of_ble_eq_true rfl) dX8_mind_22 ?_
    refine lv_istore_n (lv' := [(3, .int r3), (0, .ref (ad 0)), (1, .int v1), (2, .int v2)]) hx hb dX8_mind_25 rfl hl (by decide) rfl (fun ls hl => ?_)
    refine lv_iload_n hx hb dX8_mind_26 rfl (lv_at hl 0 rfl) ?_
    refine lv_if_eq (tgt := 38) hx hb dX8_mind_27 (by decide) (fun c4 => ?_) (fun c4 => ?_)
    · replace h := (if_pos c4).symm.trans h
      refine lv_aload_n hx hb dX8_mind_38 rfl (lv_at hl 1 rfl) ?_
      refine lv_iload_n hx hb dX8_mind_39 rfl (lv_at hl 2 rfl) ?_
      refine lv_iload_n hx hb dX8_mind_40 rfl (lv_at hl 3 rfl) ?_
      obtain ⟨r5, hc5, h⟩ := ob h
      refine callRV (As := [.int v1, .int v2]) (rest := []) hC (c_X8_mindOf l g ad I J v1 v2  hc5) lk_X8_194 rfl rfl ⟨Nat.le_of_ble_eq_true rfl, Nat.le_of_ble_eq_true rfl⟩ hP hK mo_0 rfl rfl rfl hl (Nat.le_of_ble_eq_true rfl) dX8_mind_41 ?_
      obtain ⟨h1, h⟩ := Prod.mk.inj (Option.some.inj h)
      obtain ⟨rfl, rfl⟩ := Prod.mk.inj h
      exact hret _ _ _ _ _ dX8_mind_44 h1 hP hD hS
    · replace h := (if_neg c4).symm.trans h
      refine lv_aload_n hx hb dX8_mind_30 rfl (lv_at hl 1 rfl) ?_
      refine lv_iload_n hx hb dX8_mind_31 rfl (lv_at hl 0 rfl) ?_
      obtain ⟨⟨r6, I6, J6⟩, hc6, h⟩ := ob h
      dsimp only at h
      refine callWVi (As := [.int r3]) (rest := []) hC (c_X8_lower l g ad I J r3  H.size hc6) lk_X8_209 rfl rfl ⟨Nat.le_of_ble_eq_true rfl, Nat.le_of_ble_eq_true rfl⟩ hP hK hD hA hS mo_0 rfl rfl rfl hl (Nat.le_of_ble_eq_true rfl) dX8_mind_32 (fun H locs hP hD hS => ?_)
      refine lv_goto (tgt := 44) hx hb dX8_mind_35 (by decide) ?_
      obtain ⟨h1, h⟩ := Prod.mk.inj (Option.some.inj h)
      obtain ⟨rfl, rfl⟩ := Prod.mk.inj h
      exact hret _ _ _ _ _ dX8_mind_44 h1 hP hD hS
  · replace h := (if_pos c2).symm.trans h
    refine lv_aload_n hx hb dX8_mind_9 rfl (lv_at hl 0 rfl) ?_
    refine lv_iconst (v := -1) hx hb dX8_mind_10 (by decide) ?_
    obtain ⟨⟨r7, I7, J7⟩, hc7, h⟩ := ob h
    dsimp only at h
    refine callWVi (As := [.int (-1 : Int32)]) (rest := []) hC (c_X8_lower l g ad I J (-1 : Int32)  H.size hc7) lk_X8_209 rfl rfl ⟨Nat.le_of_ble_eq_true rfl, Nat.le_of_ble_eq_true rfl⟩ hP hK hD hA hS mo_0 rfl rfl rfl hl (Nat.le_of_ble_eq_true rfl) dX8_mind_11 (fun H locs hP hD hS => ?_)
    obtain ⟨h1, h⟩ := Prod.mk.inj (Option.some.inj h)
    obtain ⟨rfl, rfl⟩ := Prod.mk.inj h
    exact hret _ _ _ _ _ dX8_mind_14 h1 hP hD hS
def F_X8_worth (I : SI) (J : SJ) (v1 : Int32) (v2 : Int32) (v3 : Int32) : Option (Int64 × SI × SJ) := ((F_X8_isTerm I J v1).bind fun r1 => (if r1 = 0 then ((F_X8_noLong I J (-1 : Int32)).bind fun (r3, I3, J3) => (some (r3, I3, J3))) else ((F_X8_isIn v2 (0 : Int32) (I 0 7)).bind fun r4 => (if r4 = 0 then ((F_X8_noLong I J (-1 : Int32)).bind fun (r6, I6, J6) => (some (r6, I6, J6))) else ((F_X8_isIn v3 (0 : Int32) (1 : Int32)).bind fun r7 => (if r7 = 0 then ((F_X8_noLong I J (-1 : Int32)).bind fun (r11, I11, J11) => (some (r11, I11, J11))) else ((F_X8_takesTerm I J v1).bind fun (I9, J9) => ((F_X8_worthOf I9 J9 v3 v2 (0 : Int32)).bind fun r10 => (some (r10, I9, J9))))))))))
set_option maxHeartbeats 4000000 in
set_option maxRecDepth 100000 in
theorem c_X8_worth (l : Launch) (g : Gx) (ad : Nat → Nat) (I : SI) (J : SJ) (v1 : Int32) (v2 : Int32) (v3 : Int32)  (sz : Nat) {r : Int64} {rI : SI} {rJ : SJ} (h : F_X8_worth I J v1 v2 v3 = some (r, rI, rJ)) : Met l yX8_worth (Cond.code yX8_worth cX8_worth 4 (some .long) :: BG) (k2_rm 3 73) (PcW [.ref (ad 0), .int v1, .int v2, .int v3] g (mW ad g I J) sz) (QWl r g (mW ad g I J) (mW ad g rI rJ) sz) 0 0 (va_A (mW ad g I J) sz) := by
  refine mkWl (by decide) (Nat.le_of_ble_eq_true rfl) ?_
  intro p e s m args below meth c H locs ls A Q hC hK hP hD hA hS hl hret
  have hx := hC.1
  have hb := hC.2.1
  have hts := hC.2.2.2.2
  have hown := hC.2.2.2.1
  replace hl : lv_has ls 4 [(0, .ref (ad 0)), (1, .int v1), (2, .int v2), (3, .int v3)] := hl
  unfold F_X8_worth at h
  refine lv_aload_n hx hb dX8_worth_0 rfl (lv_at hl 0 rfl) ?_
  refine lv_iload_n hx hb dX8_worth_1 rfl (lv_at hl 1 rfl) ?_
  obtain ⟨r1, hc1, h⟩ := ob h
  refine callRV (As := [.int v1]) (rest := []) hC (c_X8_isTerm l g ad I J v1  hc1) lk_X8_155 rfl rfl ⟨Nat.le_of_ble_eq_true rfl, Nat.le_of_ble_eq_true rfl⟩ hP hK mo_0 rfl rfl rfl hl (Nat.le_of_ble_eq_true rfl) dX8_worth_2 ?_
  refine lv_if_eq (tgt := 29) hx hb dX8_worth_5 (by decide) (fun c2 => ?_) (fun c2 => ?_)
  · replace h := (if_pos c2).symm.trans h
    refine lv_aload_n hx hb dX8_worth_29 rfl (lv_at hl 0 rfl) ?_
    refine lv_iconst (v := -1) hx hb dX8_worth_30 (by decide) ?_
    obtain ⟨⟨r3, I3, J3⟩, hc3, h⟩ := ob h
    dsimp only at h
    refine callWVl (As := [.int (-1 : Int32)]) (rest := []) hC (c_X8_noLong l g ad I J (-1 : Int32)  H.size hc3) lk_X8_216 rfl rfl ⟨Nat.le_of_ble_eq_true rfl, Nat.le_of_ble_eq_true rfl⟩ hP hK hD hA hS mo_0 rfl rfl rfl hl (Nat.le_of_ble_eq_true rfl) dX8_worth_31 (fun H locs hP hD hS => ?_)
    obtain ⟨h1, h⟩ := Prod.mk.inj (Option.some.inj h)
    obtain ⟨rfl, rfl⟩ := Prod.mk.inj h
    exact hret _ _ _ _ _ dX8_worth_34 h1 hP hD hS
  · replace h := (if_neg c2).symm.trans h
    refine lv_iload_n hx hb dX8_worth_8 rfl (lv_at hl 2 rfl) ?_
    refine lv_iconst (v := 0) hx hb dX8_worth_9 (by decide) ?_
    refine lv_aload_n hx hb dX8_worth_10 rfl (lv_at hl 0 rfl) ?_
    refine gt_X8_125 hC hK hP dX8_worth_11 ?_
    obtain ⟨r4, hc4, h⟩ := ob h
    refine callRS (As := [.int v2, .int (0 : Int32), .int (I 0 7)]) (rest := []) hC (c_X8_isIn l g (mW ad g I J) v2 (0 : Int32) (I 0 7) hc4) lk_X8_104 rfl rfl ⟨Nat.le_of_ble_eq_true rfl, Nat.le_of_ble_eq_true rfl⟩ hP hK rfl rfl hl (Nat.le_of_ble_eq_true rfl) dX8_worth_14 ?_
    refine lv_if_eq (tgt := 29) hx hb dX8_worth_17 (by decide) (fun c5 => ?_) (fun c5 => ?_)
    · replace h := (if_pos c5).symm.trans h
      refine lv_aload_n hx hb dX8_worth_29 rfl (lv_at hl 0 rfl) ?_
      refine lv_iconst (v := -1) hx hb dX8_worth_30 (by decide) ?_
      obtain ⟨⟨r6, I6, J6⟩, hc6, h⟩ := ob h
      dsimp only at h
      refine callWVl (As := [.int (-1 : Int32)]) (rest := []) hC (c_X8_noLong l g ad I J (-1 : Int32)  H.size hc6) lk_X8_216 rfl rfl ⟨Nat.le_of_ble_eq_true rfl, Nat.le_of_ble_eq_true rfl⟩ hP hK hD hA hS mo_0 rfl rfl rfl hl (Nat.le_of_ble_eq_true rfl) dX8_worth_31 (fun H locs hP hD hS => ?_)
      obtain ⟨h1, h⟩ := Prod.mk.inj (Option.some.inj h)
      obtain ⟨rfl, rfl⟩ := Prod.mk.inj h
      exact hret _ _ _ _ _ dX8_worth_34 h1 hP hD hS
    · replace h := (if_neg c5).symm.trans h
      refine lv_iload_n hx hb dX8_worth_20 rfl (lv_at hl 3 rfl) ?_
      refine lv_iconst (v := 0) hx hb dX8_worth_21 (by decide) ?_
      refine lv_iconst (v := 1) hx hb dX8_worth_22 (by decide) ?_
      obtain ⟨r7, hc7, h⟩ := ob h
      refine callRS (As := [.int v3, .int (0 : Int32), .int (1 : Int32)]) (rest := []) hC (c_X8_isIn l g (mW ad g I J) v3 (0 : Int32) (1 : Int32) hc7) lk_X8_104 rfl rfl ⟨Nat.le_of_ble_eq_true rfl, Nat.le_of_ble_eq_true rfl⟩ hP hK rfl rfl hl (Nat.le_of_ble_eq_true rfl) dX8_worth_23 ?_
      refine lv_if_ne (tgt := 35) hx hb dX8_worth_26 (by decide) (fun c8 => ?_) (fun c8 => ?_)
      · replace h := (if_neg c8).symm.trans h
        refine lv_aload_n hx hb dX8_worth_35 rfl (lv_at hl 0 rfl) ?_
        refine lv_iload_n hx hb dX8_worth_36 rfl (lv_at hl 1 rfl) ?_
        obtain ⟨⟨I9, J9⟩, hc9, h⟩ := ob h
        dsimp only at h
        refine callWVv (As := [.int v1]) (rest := []) hC (c_X8_takesTerm l g ad I J v1  H.size hc9) lk_X8_212 rfl rfl ⟨Nat.le_of_ble_eq_true rfl, Nat.le_of_ble_eq_true rfl⟩ hP hK hD hA hS mo_0 rfl rfl rfl hl (Nat.le_of_ble_eq_true rfl) dX8_worth_37 (fun H locs hP hD hS => ?_)
        refine lv_aload_n hx hb dX8_worth_40 rfl (lv_at hl 0 rfl) ?_
        refine lv_iload_n hx hb dX8_worth_41 rfl (lv_at hl 3 rfl) ?_
        refine lv_iload_n hx hb dX8_worth_42 rfl (lv_at hl 2 rfl) ?_
        refine lv_iconst (v := 0) hx hb dX8_worth_43 (by decide) ?_
        obtain ⟨r10, hc10, h⟩ := ob h
        refine callRV (As := [.int v3, .int v2, .int (0 : Int32)]) (rest := []) hC (c_X8_worthOf l g ad I9 J9 v3 v2 (0 : Int32)  hc10) lk_X8_202 rfl rfl ⟨Nat.le_of_ble_eq_true rfl, Nat.le_of_ble_eq_true rfl⟩ hP hK mo_0 rfl rfl rfl hl (Nat.le_of_ble_eq_true rfl) dX8_worth_44 ?_
        obtain ⟨h1, h⟩ := Prod.mk.inj (Option.some.inj h)
        obtain ⟨rfl, rfl⟩ := Prod.mk.inj h
        exact hret _ _ _ _ _ dX8_worth_47 h1 hP hD hS
      · replace h := (if_pos c8).symm.trans h
        refine lv_aload_n hx hb dX8_worth_29 rfl (lv_at hl 0 rfl) ?_
        refine lv_iconst (v := -1) hx hb dX8_worth_30 (by decide) ?_
        obtain ⟨⟨r11, I11, J11⟩, hc11, h⟩ := ob h
        dsimp only at h
        refine callWVl (As := [.int (-1 : Int32)]) (rest := []) hC (c_X8_noLong l g ad I J (-1 : Int32)  H.size hc11) lk_X8_216 rfl rfl ⟨Nat.le_of_ble_eq_true rfl, Nat.le_of_ble_eq_true rfl⟩ hP hK hD hA hS mo_0 rfl rfl rfl hl (Nat.le_of_ble_eq_true rfl) dX8_worth_31 (fun H locs hP hD hS => ?_)
        obtain ⟨h1, h⟩ := Prod.mk.inj (Option.some.inj h)
        obtain ⟨rfl, rfl⟩ := Prod.mk.inj h
        exact hret _ _ _ _ _ dX8_worth_34 h1 hP hD hS
def F_X8_pains (I : SI) (J : SJ) (v1 : Int32) : Option (Int32 × SI × SJ) := ((F_X8_isTerm I J v1).bind fun r1 => (if r1 = 0 then ((F_X8_no I J (-1 : Int32)).bind fun (r5, I5, J5) => (some (r5, I5, J5))) else ((F_X8_takesTerm I J v1).bind fun (I3, J3) => ((F_X8_bestPains I3 J3 (0 : Int32)).bind fun r4 => (some (r4, I3, J3))))))
set_option maxHeartbeats 4000000 in
set_option maxRecDepth 100000 in
theorem c_X8_pains (l : Launch) (g : Gx) (ad : Nat → Nat) (I : SI) (J : SJ) (v1 : Int32)  (sz : Nat) {r : Int32} {rI : SI} {rJ : SJ} (h : F_X8_pains I J v1 = some (r, rI, rJ)) : Met l yX8_pains (Cond.code yX8_pains cX8_pains 2 (some .int) :: BG) (k2_rm 4 100) (PcW [.ref (ad 0), .int v1] g (mW ad g I J) sz) (QWi r g (mW ad g I J) (mW ad g rI rJ) sz) 0 0 (va_A (mW ad g I J) sz) := by
  refine mkWi (by decide) (Nat.le_of_ble_eq_true rfl) ?_
  intro p e s m args below meth c H locs ls A Q hC hK hP hD hA hS hl hret
  have hx := hC.1
  have hb := hC.2.1
  have hts := hC.2.2.2.2
  have hown := hC.2.2.2.1
  replace hl : lv_has ls 2 [(0, .ref (ad 0)), (1, .int v1)] := hl
  unfold F_X8_pains at h
  refine lv_aload_n hx hb dX8_pains_0 rfl (lv_at hl 0 rfl) ?_
  refine lv_iload_n hx hb dX8_pains_1 rfl (lv_at hl 1 rfl) ?_
  obtain ⟨r1, hc1, h⟩ := ob h
  refine callRV (As := [.int v1]) (rest := []) hC (c_X8_isTerm l g ad I J v1  hc1) lk_X8_155 rfl rfl ⟨Nat.le_of_ble_eq_true rfl, Nat.le_of_ble_eq_true rfl⟩ hP hK mo_0 rfl rfl rfl hl (Nat.le_of_ble_eq_true rfl) dX8_pains_2 ?_
  refine lv_if_ne (tgt := 14) hx hb dX8_pains_5 (by decide) (fun c2 => ?_) (fun c2 => ?_)
  · replace h := (if_neg c2).symm.trans h
    refine lv_aload_n hx hb dX8_pains_14 rfl (lv_at hl 0 rfl) ?_
    refine lv_iload_n hx hb dX8_pains_15 rfl (lv_at hl 1 rfl) ?_
    obtain ⟨⟨I3, J3⟩, hc3, h⟩ := ob h
    dsimp only at h
    refine callWVv (As := [.int v1]) (rest := []) hC (c_X8_takesTerm l g ad I J v1  H.size hc3) lk_X8_212 rfl rfl ⟨Nat.le_of_ble_eq_true rfl, Nat.le_of_ble_eq_true rfl⟩ hP hK hD hA hS mo_0 rfl rfl rfl hl (Nat.le_of_ble_eq_true rfl) dX8_pains_16 (fun H locs hP hD hS => ?_)
    refine lv_aload_n hx hb dX8_pains_19 rfl (lv_at hl 0 rfl) ?_
    refine lv_iconst (v := 0) hx hb dX8_pains_20 (by decide) ?_
    obtain ⟨r4, hc4, h⟩ := ob h
    refine callRV (As := [.int (0 : Int32)]) (rest := []) hC (c_X8_bestPains l g ad I3 J3 (0 : Int32)  hc4) lk_X8_206 rfl rfl ⟨Nat.le_of_ble_eq_true rfl, Nat.le_of_ble_eq_true rfl⟩ hP hK mo_0 rfl rfl rfl hl (Nat.le_of_ble_eq_true rfl) dX8_pains_21 ?_
    obtain ⟨h1, h⟩ := Prod.mk.inj (Option.some.inj h)
    obtain ⟨rfl, rfl⟩ := Prod.mk.inj h
    exact hret _ _ _ _ _ dX8_pains_24 h1 hP hD hS
  · replace h := (if_pos c2).symm.trans h
    refine lv_aload_n hx hb dX8_pains_8 rfl (lv_at hl 0 rfl) ?_
    refine lv_iconst (v := -1) hx hb dX8_pains_9 (by decide) ?_
    obtain ⟨⟨r5, I5, J5⟩, hc5, h⟩ := ob h
    dsimp only at h
    refine callWVi (As := [.int (-1 : Int32)]) (rest := []) hC (c_X8_no l g ad I J (-1 : Int32)  H.size hc5) lk_X8_92 rfl rfl ⟨Nat.le_of_ble_eq_true rfl, Nat.le_of_ble_eq_true rfl⟩ hP hK hD hA hS mo_0 rfl rfl rfl hl (Nat.le_of_ble_eq_true rfl) dX8_pains_10 (fun H locs hP hD hS => ?_)
    obtain ⟨h1, h⟩ := Prod.mk.inj (Option.some.inj h)
    obtain ⟨rfl, rfl⟩ := Prod.mk.inj h
    exact hret _ _ _ _ _ dX8_pains_13 h1 hP hD hS
