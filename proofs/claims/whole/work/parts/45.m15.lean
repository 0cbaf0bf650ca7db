def F_X8_takes (I : SI) (J : SJ) (v1 : Int32) : Option (Int32 × SI × SJ) := ((F_X8_isTerm I J v1).bind fun r1 => (if r1 = 0 then ((F_X8_no I J (-1 : Int32)).bind fun (r7, I7, J7) => (some (r7, I7, J7))) else ((F_X8_takesTerm I J v1).bind fun (I3, J3) => ((F_X8_doesTake I3 J3).bind fun r4 => (some ((if r4 = 0 then (0 : Int32) else (1 : Int32)), I3, J3))))))
set_option maxHeartbeats 4000000 in
set_option maxRecDepth 100000 in
theorem c_X8_takes (l : Launch) (g : Gx) (ad : Nat → Nat) (I : SI) (J : SJ) (v1 : Int32)  (sz : Nat) {r : Int32} {rI : SI} {rJ : SJ} (h : F_X8_takes I J v1 = some (r, rI, rJ)) : Met l yX8_takes (Cond.code yX8_takes cX8_takes 2 (some .int) :: BG) (k2_rm 5 120) (PcW [.ref (ad 0), .int v1] g (mW ad g I J) sz) (QWi r g (mW ad g I J) (mW ad g rI rJ) sz) 0 0 (va_A (mW ad g I J) sz) := by
  refine mkWi (by decide) (Nat.le_of_ble_eq_true rfl) ?_
  intro p e s m args below meth c H locs ls A Q hC hK hP hD hA hS hl hret
  have hx := hC.1
  have hb := hC.2.1
  have hts := hC.2.2.2.2
  have hown := hC.2.2.2.1
  replace hl : lv_has ls 2 [(0, .ref (ad 0)), (1, .int v1)] := hl
  unfold F_X8_takes at h
  refine lv_aload_n hx hb dX8_takes_0 rfl (lv_at hl 0 rfl) ?_
  refine lv_iload_n hx hb dX8_takes_1 rfl (lv_at hl 1 rfl) ?_
  obtain ⟨r1, hc1, h⟩ := ob h
  refine callRV (As := [.int v1]) (rest := []) hC (c_X8_isTerm l g ad I J v1  hc1) lk_X8_155 rfl rfl ⟨Nat.le_of_ble_eq_true rfl, Nat.le_of_ble_eq_true rfl⟩ hP hK mo_0 rfl rfl rfl hl (Nat.le_of_ble_eq_true rfl) dX8_takes_2 ?_
  refine lv_if_ne (tgt := 14) hx hb dX8_takes_5 (by decide) (fun c2 => ?_) (fun c2 => ?_)
  · replace h := (if_neg c2).symm.trans h
    refine lv_aload_n hx hb dX8_takes_14 rfl (lv_at hl 0 rfl) ?_
    refine lv_iload_n hx hb dX8_takes_15 rfl (lv_at hl 1 rfl) ?_
    obtain ⟨⟨I3, J3⟩, hc3, h⟩ := ob h
    dsimp only at h
    refine callWVv (As := [.int v1]) (rest := []) hC (c_X8_takesTerm l g ad I J v1  H.size hc3) lk_X8_212 rfl rfl ⟨Nat.le_of_ble_eq_true rfl, Nat.le_of_ble_eq_true rfl⟩ hP hK hD hA hS mo_0 rfl rfl rfl hl (Nat.le_of_ble_eq_true rfl) dX8_takes_16 (fun H locs hP hD hS => ?_)
    refine lv_aload_n hx hb dX8_takes_19 rfl (lv_at hl 0 rfl) ?_
    obtain ⟨r4, hc4, h⟩ := ob h
    refine callRV (As := []) (rest := []) hC (c_X8_doesTake l g ad I3 J3   hc4) lk_X8_220 rfl rfl ⟨Nat.le_of_ble_eq_true rfl, Nat.le_of_ble_eq_true rfl⟩ hP hK mo_0 rfl rfl rfl hl (Nat.le_of_ble_eq_true rfl) dX8_takes_20 ?_
    refine tern (α := Int32) (cnd := r4 = 0) (a := (0 : Int32)) (b := (1 : Int32)) (Wj := fun vj => W p l e (k2_rm 5 120) s m args below meth c H locs 0 0 Q (F0 m 31 ls [.int vj])) (fun k6a k6b => ?_) ?_
    · refine lv_if_eq (tgt := 30) hx hb dX8_takes_23 (by decide) (fun c5 => ?_) (fun c5 => ?_)
      · refine lv_iconst (v := 0) hx hb dX8_takes_30 (by decide) ?_
        exact k6a c5
      · refine lv_iconst (v := 1) hx hb dX8_takes_26 (by decide) ?_
        refine lv_goto (tgt := 31) hx hb dX8_takes_27 (by decide) ?_
        exact k6b c5
    · show W p l e (k2_rm 5 120) s m args below meth c H locs 0 0 Q (F0 m 31 ls [.int (if r4 = 0 then (0 : Int32) else (1 : Int32))])
      obtain ⟨h1, h⟩ := Prod.mk.inj (Option.some.inj h)
      obtain ⟨rfl, rfl⟩ := Prod.mk.inj h
      exact hret _ _ _ _ _ dX8_takes_31 h1 hP hD hS
  · replace h := (if_pos c2).symm.trans h
    refine lv_aload_n hx hb dX8_takes_8 rfl (lv_at hl 0 rfl) ?_
    refine lv_iconst (v := -1) hx hb dX8_takes_9 (by decide) ?_
    obtain ⟨⟨r7, I7, J7⟩, hc7, h⟩ := ob h
    dsimp only at h
    refine callWVi (As := [.int (-1 : Int32)]) (rest := []) hC (c_X8_no l g ad I J (-1 : Int32)  H.size hc7) lk_X8_92 rfl rfl ⟨Nat.le_of_ble_eq_true rfl, Nat.le_of_ble_eq_true rfl⟩ hP hK hD hA hS mo_0 rfl rfl rfl hl (Nat.le_of_ble_eq_true rfl) dX8_takes_10 (fun H locs hP hD hS => ?_)
    obtain ⟨h1, h⟩ := Prod.mk.inj (Option.some.inj h)
    obtain ⟨rfl, rfl⟩ := Prod.mk.inj h
    exact hret _ _ _ _ _ dX8_takes_13 h1 hP hD hS
def FL_X8_divisor_4  : Nat → Int32 → Int32 → Option (Int32)
  | 0, _, _ => none
  | n + 1, w2_4, w3_4 => (if w3_4 = 0 then (some w2_4) else (if w3_4 = 0 then none else (FL_X8_divisor_4 n w3_4 (w2_4 - w2_4 / w3_4 * w3_4))))
def F_X8_divisor (v1 : Int32) (v2 : Int32) : Option (Int32) := (FL_X8_divisor_4 3000 v1 v2)
set_option maxHeartbeats 4000000 in
set_option maxRecDepth 100000 in
theorem c_X8_divisor (l : Launch) (g : Gx) (ws : va_W) (v1 : Int32) (v2 : Int32)  {r : Int32} (h : F_X8_divisor v1 v2 = some r) : Met l yX8_divisor (Cond.code yX8_divisor cX8_divisor 5 (some .int) :: BG) (k2_rm 0 0) (va_Pc [.int v1, .int v2] (fun U => Pg g ws U.heap ∧ Kg g U)) (k2_QcV (.int r)) 0 0 (fun _ => False) := by
  refine mkRi (by decide) (Nat.le_of_ble_eq_true rfl) ?_
  intro p e s m args below meth c H locs ls Q hC hK hP hl hret
  have hx := hC.1
  have hb := hC.2.1
  have hts := hC.2.2.2.2
  have hown := hC.2.2.2.1
  replace hl : lv_has ls 5 [(0, .int v1), (1, .int v2)] := hl
  have loop_4 : ∀ (n : Nat) (w2_4 : Int32) (w3_4 : Int32)  (ls : Array Slot), FL_X8_divisor_4 n w2_4 w3_4 = some r → lv_has ls 5 [(2, .int w2_4), (3, .int w3_4)] → W p l e (k2_rm 0 0) s m args below meth c H locs 0 0 Q (F0 m 4 ls []) := by
    intro n
    induction n with
    | zero =>
      intro w2_4 w3_4 ls h
      exact no h
    | succ n ih =>
      intro w2_4 w3_4 ls h hl
      rw [FL_X8_divisor_4] at h
      refine lv_iload_n hx hb dX8_divisor_4 rfl (lv_at hl 1 rfl) ?_
      refine lv_if_eq (tgt := 21) hx hb dX8_divisor_5 (by decide) (fun c1 => ?_) (fun c1 => ?_)
      · replace h := (if_pos c1).symm.trans h
        refine lv_iload_n hx hb dX8_divisor_21 rfl (lv_at hl 0 rfl) ?_
        exact hret _ _ _ dX8_divisor_22 (Option.some.inj h)
      · replace h := (if_neg c1).symm.trans h
        refine lv_iload_n hx hb dX8_divisor_8 rfl (lv_at hl 0 rfl) ?_
        refine lv_iload_n hx hb dX8_divisor_9 rfl (lv_at hl 1 rfl) ?_
        obtain ⟨z2, h⟩ := og0 h
        refine lv_irem hx hb dX8_divisor_10 z2 ?_
        refine lv_istore (lv' := [(4, .int (w2_4 - w2_4 / w3_4 * w3_4)), (2, .int w2_4), (3, .int w3_4)]) hx hb dX8_divisor_11 hl (by decide) rfl (fun ls hl => ?_)
        refine lv_iload_n hx hb dX8_divisor_13 rfl (lv_at hl 2 rfl) ?_
        refine lv_istore_n (lv' := [(2, .int w3_4), (4, .int (w2_4 - w2_4 / w3_4 * w3_4)), (3, .int w3_4)]) hx hb dX8_divisor_14 rfl hl (by decide) rfl (fun ls hl => ?_)
        refine lv_iload hx hb dX8_divisor_15 (lv_at hl 1 rfl) ?_
        refine lv_istore_n (lv' := [(3, .int (w2_4 - w2_4 / w3_4 * w3_4)), (2, .int w3_4), (4, .int (w2_4 - w2_4 / w3_4 * w3_4))]) hx hb dX8_divisor_17 rfl hl (by decide) rfl (fun ls hl => ?_)
        refine lv_goto (tgt := 4) hx hb dX8_divisor_18 (by decide) ?_
        exact ih w3_4 (w2_4 - w2_4 / w3_4 * w3_4) _ h (lv_sub hl [1, 0] rfl)
  unfold F_X8_divisor at h
  refine lv_iload_n hx hb dX8_divisor_0 rfl (lv_at hl 0 rfl) ?_
  refine lv_istore_n (lv' := [(2, .int v1), (0, .int v1), (1, .int v2)]) hx hb dX8_divisor_1 rfl hl (by decide) rfl (fun ls hl => ?_)
  refine lv_iload_n hx hb dX8_divisor_2 rfl (lv_at hl 2 rfl) ?_
  refine lv_istore_n (lv' := [(3, .int v2), (2, .int v1), (0, .int v1), (1, .int v2)]) hx hb dX8_divisor_3 rfl hl (by decide) rfl (fun ls hl => ?_)
  exact loop_4 3000 v1 v2 _ h (lv_sub hl [1, 0] rfl)
def FL_X8_mean_57  : Nat → SI → SJ → Int32 → Int32 → Int32 → Int32 → Int32 → Option (Int32 × SI × SJ)
  | 0, _, _, _, _, _, _, _ => none
  | n + 1, I, J, w2_57, w3_57, w4_57, w5_57, w6_57 => ((F_X8_allWeathers I J).bind fun r10 => (if r10 ≤ w6_57 then ((F_X8_divisor (if 0 ≤ w5_57 then w5_57 else (-w5_57)) (100 : Int32)).bind fun r14 => (if w3_57 = 0 then (if r14 = 0 then none else (some ((w5_57 / r14), I, J))) else (if r14 = 0 then none else (some (((100 : Int32) / r14), I, J))))) else ((F_X8_chanceOf I J w6_57).bind fun r18 => ((F_X8_reaped I J w4_57 w6_57).bind fun r19 => ((F_X8_hasOf I J w2_57 r19 (0 : Int32)).bind fun r20 => (FL_X8_mean_57 n I J w2_57 w3_57 w4_57 (w5_57 + (r18 * r20)) (w6_57 + 1)))))))
def F_X8_mean (I : SI) (J : SJ) (v1 : Int32) (v2 : Int32) (v3 : Int32) : Option (Int32 × SI × SJ) := ((F_X8_isTerm I J v1).bind fun r1 => (if r1 = 0 then ((F_X8_lower I J (-1 : Int32)).bind fun (r3, I3, J3) => (some (r3, I3, J3))) else ((F_X8_isIn v2 (0 : Int32) (1 : Int32)).bind fun r4 => (if r4 = 0 then ((F_X8_lower I J (-1 : Int32)).bind fun (r22, I22, J22) => (some (r22, I22, J22))) else ((F_X8_isIn v3 (0 : Int32) (1 : Int32)).bind fun r6 => (if r6 = 0 then ((F_X8_lower I J (-2 : Int32)).bind fun (r21, I21, J21) => (some (r21, I21, J21))) else ((F_X8_takesTerm I J v1).bind fun (I8, J8) => ((F_X8_bestPains I8 J8 (0 : Int32)).bind fun r9 => (FL_X8_mean_57 3000 I8 J8 v2 v3 r9 (0 : Int32) (0 : Int32))))))))))
set_option maxHeartbeats 4000000 in
set_option maxRecDepth 100000 in
theorem c_X8_mean (l : Launch) (g : Gx) (ad : Nat → Nat) (I : SI) (J : SJ) (v1 : Int32) (v2 : Int32) (v3 : Int32)  (sz : Nat) {r : Int32} {rI : SI} {rJ : SJ} (h : F_X8_mean I J v1 v2 v3 = some (r, rI, rJ)) : Met l yX8_mean (Cond.code yX8_mean cX8_mean 7 (some .int) :: BG) (k2_rm 4 100) (PcW [.ref (ad 0), .int v1, .int v2, .int v3] g (mW ad g I J) sz) (QWi r g (mW ad g I J) (mW ad g rI rJ) sz) 0 0 (va_A (mW ad g I J) sz) := by
  refine mkWi (by decide) (Nat.le_of_ble_eq_true rfl) ?_
  intro p e s m args below meth c H locs ls A Q hC hK hP hD hA hS hl hret
  have hx := hC.1
  have hb := hC.2.1
  have hts := hC.2.2.2.2
  have hown := hC.2.2.2.1
  replace hl : lv_has ls 7 [(0, .ref (ad 0)), (1, .int v1), (2, .int v2), (3, .int v3)] := hl
  have loop_57 : ∀ (n : Nat) (I : SI) (J : SJ) (w2_57 : Int32) (w3_57 : Int32) (w4_57 : Int32) (w5_57 : Int32) (w6_57 : Int32)  (H : Heap) (locs : List Loc) (ls : Array Slot), FL_X8_mean_57 n I J w2_57 w3_57 w4_57 w5_57 w6_57 = some (r, rI, rJ) → Pg g (mW ad g I J) H → va_D A (mW ad g I J) → va_S A s.heap H locs → lv_has ls 7 [(0, .ref (ad 0)), (2, .int w2_57), (3, .int w3_57), (4, .int w4_57), (5, .int w5_57), (6, .int w6_57)] → W p l e (k2_rm 4 100) s m args below meth c H locs 0 0 Q (F0 m 57 ls []) := by
    intro n
    induction n with
    | zero =>
      intro I J w2_57 w3_57 w4_57 w5_57 w6_57 H locs ls h
      exact no h
    | succ n ih =>
      intro I J w2_57 w3_57 w4_57 w5_57 w6_57 H locs ls h hP hD hS hl
      rw [FL_X8_mean_57] at h
      refine lv_iload hx hb dX8_mean_57 (lv_at hl 5 rfl) ?_
      refine lv_aload_n hx hb dX8_mean_59 rfl (lv_at hl 0 rfl) ?_
      obtain ⟨r10, hc10, h⟩ := ob h
      refine callRV (As := []) (rest := [.int w6_57]) hC (c_X8_allWeathers l g ad I J   hc10) lk_X8_158 rfl rfl ⟨Nat.le_of_ble_eq_true rfl, Nat.le_of_ble_eq_true rfl⟩ hP hK mo_0 rfl rfl rfl hl (Nat.le_of_ble_eq_true rfl) dX8_mean_60 ?_
      refine lv_icmp_ge (tgt := 98) hx hb dX8_mean_63 (by decide) (fun c11 => ?_) (fun c11 => ?_)
      · replace h := (if_pos c11).symm.trans h
        refine lv_iload hx hb dX8_mean_98 (lv_at hl 4 rfl) ?_
        refine tern (α := Int32) (cnd := 0 ≤ w5_57) (a := w5_57) (b := (-w5_57)) (Wj := fun vj => W p l e (k2_rm 4 100) s m args below meth c H locs 0 0 Q (F0 m 111 ls [.int vj])) (fun k13a k13b => ?_) ?_
        · refine lv_if_ge (tgt := 109) hx hb dX8_mean_100 (by decide) (fun c12 => ?_) (fun c12 => ?_)
          · refine lv_iload hx hb dX8_mean_109 (lv_at hl 4 rfl) ?_
            exact k13a c12
          · refine lv_iload hx hb dX8_mean_103 (lv_at hl 4 rfl) ?_
            refine lv_ineg hx hb dX8_mean_105 ?_
            refine lv_goto (tgt := 111) hx hb dX8_mean_106 (by decide) ?_
            exact k13b c12
        · show W p l e (k2_rm 4 100) s m args below meth c H locs 0 0 Q (F0 m 111 ls [.int (if 0 ≤ w5_57 then w5_57 else (-w5_57))])
          refine lv_bipush (v := 100) hx hb dX8_mean_111 (by decide) ?_
          obtain ⟨r14, hc14, h⟩ := ob h
          refine callRS (As := [.int (if 0 ≤ w5_57 then w5_57 else (-w5_57)), .int (100 : Int32)]) (rest := []) hC (c_X8_divisor l g (mW ad g I J) (if 0 ≤ w5_57 then w5_57 else (-w5_57)) (100 : Int32) hc14) lk_X8_223 rfl rfl ⟨Nat.le_of_ble_eq_true rfl, Nat.le_of_ble_eq_true rfl⟩ hP hK rfl rfl hl (Nat.le_of_ble_eq_true rfl) dX8_mean_113 ?_
          refine lv_istore (lv' := [(6, .int r14), (0, .ref (ad 0)), (2, .int w2_57), (3, .int w3_57), (4, .int w4_57), (5, .int w5_57)]) hx hb dX8_mean_116 hl (by decide) rfl (fun ls hl => ?_)
          refine lv_iload_n hx hb dX8_mean_118 rfl (lv_at hl 3 rfl) ?_
          refine lv_if_ne (tgt := 130) hx hb dX8_mean_119 (by decide) (fun c15 => ?_) (fun c15 => ?_)
          · replace h := (if_neg c15).symm.trans h
            refine lv_bipush (v := 100) hx hb dX8_mean_130 (by decide) ?_
            refine lv_iload hx hb dX8_mean_132 (lv_at hl 0 rfl) ?_
            obtain ⟨z16, h⟩ := og0 h
            refine lv_idiv hx hb dX8_mean_134 z16 ?_
            obtain ⟨h1, h⟩ := Prod.mk.inj (Option.some.inj h)
            obtain ⟨rfl, rfl⟩ := Prod.mk.inj h
            exact hret _ _ _ _ _ dX8_mean_135 h1 hP hD hS
          · replace h := (if_pos c15).symm.trans h
            refine lv_iload hx hb dX8_mean_122 (lv_at hl 5 rfl) ?_
            refine lv_iload hx hb dX8_mean_124 (lv_at hl 0 rfl) ?_
            obtain ⟨z17, h⟩ := og0 h
            refine lv_idiv hx hb dX8_mean_126 z17 ?_
            refine lv_goto (tgt := 135) hx hb dX8_mean_127 (by decide) ?_
            obtain ⟨h1, h⟩ := Prod.mk.inj (Option.some.inj h)
            obtain ⟨rfl, rfl⟩ := Prod.mk.inj h
            exact hret _ _ _ _ _ dX8_mean_135 h1 hP hD hS
      · replace h := (if_neg c11).symm.trans h
        refine lv_iload hx hb dX8_mean_66 (lv_at hl 4 rfl) ?_
        refine lv_aload_n hx hb dX8_mean_68 rfl (lv_at hl 0 rfl) ?_
        refine lv_iload hx hb dX8_mean_69 (lv_at hl 5 rfl) ?_
        obtain ⟨r18, hc18, h⟩ := ob h
        refine callRV (As := [.int w6_57]) (rest := [.int w5_57]) hC (c_X8_chanceOf l g ad I J w6_57  hc18) lk_X8_161 rfl rfl ⟨Nat.le_of_ble_eq_true rfl, Nat.le_of_ble_eq_true rfl⟩ hP hK mo_0 rfl rfl rfl hl (Nat.le_of_ble_eq_true rfl) dX8_mean_71 ?_
        refine lv_aload_n hx hb dX8_mean_74 rfl (lv_at hl 0 rfl) ?_
        refine lv_iload_n hx hb dX8_mean_75 rfl (lv_at hl 1 rfl) ?_
        refine lv_aload_n hx hb dX8_mean_76 rfl (lv_at hl 0 rfl) ?_
        refine lv_iload hx hb dX8_mean_77 (lv_at hl 3 rfl) ?_
        refine lv_iload hx hb dX8_mean_79 (lv_at hl 5 rfl) ?_
        obtain ⟨r19, hc19, h⟩ := ob h
        refine callRV (As := [.int w4_57, .int w6_57]) (rest := [.int w2_57, .ref (ad 0), .int r18, .int w5_57]) hC (c_X8_reaped l g ad I J w4_57 w6_57  hc19) lk_X8_188 rfl rfl ⟨Nat.le_of_ble_eq_true rfl, Nat.le_of_ble_eq_true rfl⟩ hP hK mo_0 rfl rfl rfl hl (Nat.le_of_ble_eq_true rfl) dX8_mean_81 ?_
        refine lv_iconst (v := 0) hx hb dX8_mean_84 (by decide) ?_
        obtain ⟨r20, hc20, h⟩ := ob h
        refine callRV (As := [.int w2_57, .int r19, .int (0 : Int32)]) (rest := [.int r18, .int w5_57]) hC (c_X8_hasOf l g ad I J w2_57 r19 (0 : Int32)  hc20) lk_X8_191 rfl rfl ⟨Nat.le_of_ble_eq_true rfl, Nat.le_of_ble_eq_true rfl⟩ hP hK mo_0 rfl rfl rfl hl (Nat.le_of_ble_eq_true rfl) dX8_mean_85 ?_
        refine lv_imul hx hb dX8_mean_88 ?_
        refine lv_iadd hx hb dX8_mean_89 ?_
        refine lv_istore (lv' := [(5, .int (w5_57 + (r18 * r20))), (0, .ref (ad 0)), (2, .int w2_57), (3, .int w3_57), (4, .int w4_57), (6, .int w6_57)]) hx hb dX8_mean_90 hl (by decide) rfl (fun ls hl => ?_)
        refine lv_iinc (v := (w6_57 + 1)) (lv' := [(6, .int (w6_57 + 1)), (5, .int (w5_57 + (r18 * r20))), (0, .ref (ad 0)), (2, .int w2_57), (3, .int w3_57), (4, .int w4_57)]) hx hb dX8_mean_92 hl (k := 5) rfl rfl (by decide) rfl (fun ls hl => ?_)
        refine lv_goto (tgt := 57) hx hb dX8_mean_95 (by decide) ?_
        exact ih I J w2_57 w3_57 w4_57 (w5_57 + (r18 * r20)) (w6_57 + 1) _ _ _ h hP hD hS (lv_sub hl [2, 3, 4, 5, 1, 0] rfl)
  unfold F_X8_mean at h
  refine lv_aload_n hx hb dX8_mean_0 rfl (lv_at hl 0 rfl) ?_
  refine lv_iload_n hx hb dX8_mean_1 rfl (lv_at hl 1 rfl) ?_
  obtain ⟨r1, hc1, h⟩ := ob h
  refine callRV (As := [.int v1]) (rest := []) hC (c_X8_isTerm l g ad I J v1  hc1) lk_X8_155 rfl rfl ⟨Nat.le_of_ble_eq_true rfl, Nat.le_of_ble_eq_true rfl⟩ hP hK mo_0 rfl rfl rfl hl (Nat.le_of_ble_eq_true rfl) dX8_mean_2 ?_
  refine lv_if_eq (tgt := 17) hx hb dX8_mean_5 (by decide) (fun c2 => ?_) (fun c2 => ?_)
  · replace h := (if_pos c2).symm.trans h
    refine lv_aload_n hx hb dX8_mean_17 rfl (lv_at hl 0 rfl) ?_
    refine lv_iconst (v := -1) hx hb dX8_mean_18 (by decide) ?_
    obtain ⟨⟨r3, I3, J3⟩, hc3, h⟩ := ob h
    dsimp only at h
    refine callWVi (As := [.int (-1 : Int32)]) (rest := []) hC (c_X8_lower l g ad I J (-1 : Int32)  H.size hc3) lk_X8_209 rfl rfl ⟨Nat.le_of_ble_eq_true rfl, Nat.le_of_ble_eq_true rfl⟩ hP hK hD hA hS mo_0 rfl rfl rfl hl (Nat.le_of_ble_eq_true rfl) dX8_mean_19 (fun H locs hP hD hS => ?_)
    obtain ⟨h1, h⟩ := Prod.mk.inj (Option.some.inj h)
    obtain ⟨rfl, rfl⟩ := Prod.mk.inj h
    exact hret _ _ _ _ _ dX8_mean_22 h1 hP hD hS
  · replace h := (if_neg c2).symm.trans h
    refine lv_iload_n hx hb dX8_mean_8 rfl (lv_at hl 2 rfl) ?_
    refine lv_iconst (v := 0) hx hb dX8_mean_9 (by decide) ?_
    refine lv_iconst (v := 1) hx hb dX8_mean_10 (by decide) ?_
    obtain ⟨r4, hc4, h⟩ := ob h
    refine callRS (As := [.int v2, .int (0 : Int32), .int (1 : Int32)]) (rest := []) hC (c_X8_isIn l g (mW ad g I J) v2 (0 : Int32) (1 : Int32) hc4) lk_X8_104 rfl rfl ⟨Nat.le_of_ble_eq_true rfl, Nat.le_of_ble_eq_true rfl⟩ hP hK rfl rfl hl (Nat.le_of_ble_eq_true rfl) dX8_mean_11 ?_
    refine lv_if_ne (tgt := 23) hx hb dX8_mean_14 (by decide) (fun c5 => ?_) (fun c5 => ?_)
    · replace h := (if_neg c5).symm.trans h
      refine lv_iload_n hx hb dX8_mean_23 rfl (lv_at hl 3 rfl) ?_
      refine lv_iconst (v := 0) hx hb dX8_mean_24 (by decide) ?_
      refine lv_iconst (v := 1) hx hb dX8_mean_25 (by decide) ?_
      obtain ⟨r6, hc6, h⟩ := ob h
      refine callRS (As := [.int v3, .int (0 : Int32), .int (1 : Int32)]) (rest := []) hC (c_X8_isIn l g (mW ad g I J) v3 (0 : Int32) (1 : Int32) hc6) lk_X8_104 rfl rfl ⟨Nat.le_of_ble_eq_true rfl, Nat.le_of_ble_eq_true rfl⟩ hP hK rfl rfl hl (Nat.le_of_ble_eq_true rfl) dX8_mean_26 ?_
      refine lv_if_ne (tgt := 39) hx hb dX8_mean_29 (by decide) (fun c7 => ?_) (fun c7 => ?_)
      · replace h := (if_neg c7).symm.trans h
        refine lv_aload_n hx hb dX8_mean_39 rfl (lv_at hl 0 rfl) ?_
        refine lv_iload_n hx hb dX8_mean_40 rfl (lv_at hl 1 rfl) ?_
        obtain ⟨⟨I8, J8⟩, hc8, h⟩ := ob h
        dsimp only at h
        refine callWVv (As := [.int v1]) (rest := []) hC (c_X8_takesTerm l g ad I J v1  H.size hc8) lk_X8_212 rfl rfl ⟨Nat.le_of_ble_eq_true rfl, Nat.le_of_ble_eq_true rfl⟩ hP hK hD hA hS mo_0 rfl rfl rfl hl (Nat.le_of_ble_eq_true rfl) dX8_mean_41 (fun H locs hP hD hS => ?_)
        refine lv_aload_n hx hb dX8_mean_44 rfl (lv_at hl 0 rfl) ?_
        refine lv_iconst (v := 0) hx hb dX8_mean_45 (by decide) ?_
        obtain ⟨r9, hc9, h⟩ := ob h
        refine callRV (As := [.int (0 : Int32)]) (rest := []) hC (c_X8_bestPains l g ad I8 J8 (0 : Int32)  hc9) lk_X8_206 rfl rfl ⟨Nat.le_of_ble_eq_true rfl, Nat.le_of_ble_eq_true rfl⟩ hP hK mo_0 rfl rfl rfl hl (Nat.le_of_ble_eq_true rfl) dX8_mean_46 ?_
        refine lv_istore (lv' := [(4, .int r9), (0, .ref (ad 0)), (1, .int v1), (2, .int v2), (3, .int v3)]) hx hb dX8_mean_49 hl (by decide) rfl (fun ls hl => ?_)
        refine lv_iconst (v := 0) hx hb dX8_mean_51 (by decide) ?_
        refine lv_istore (lv' := [(5, .int (0 : Int32)), (4, .int r9), (0, .ref (ad 0)), (1, .int v1), (2, .int v2), (3, .int v3)]) hx hb dX8_mean_52 hl (by decide) rfl (fun ls hl => ?_)
        refine lv_iconst (v := 0) hx hb dX8_mean_54 (by decide) ?_
        refine lv_istore (lv' := [(6, .int (0 : Int32)), (5, .int (0 : Int32)), (4, .int r9), (0, .ref (ad 0)), (1, .int v1), (2, .int v2), (3, .int v3)]) hx hb dX8_mean_55 hl (by decide) rfl (fun ls hl => ?_)
        exact loop_57 3000 I8 J8 v2 v3 r9 (0 : Int32) (0 : Int32) _ _ _ h hP hD hS (lv_sub hl [3, 5, 6, 2, 1, 0] rfl)
      · replace h := (if_pos c7).symm.trans h
        refine lv_aload_n hx hb dX8_mean_32 rfl (lv_at hl 0 rfl) ?_
        refine lv_bipush (v := -2) hx hb dX8_mean_33 (by decide) ?_
        obtain ⟨⟨r21, I21, J21⟩, hc21, h⟩ := ob h
        dsimp only at h
        refine callWVi (As := [.int (-2 : Int32)]) (rest := []) hC (c_X8_lower l g ad I J (-2 : Int32)  H.size hc21) lk_X8_209 rfl rfl ⟨Nat.le_of_ble_eq_true rfl, Nat.le_of_ble_eq_true rfl⟩ hP hK hD hA hS mo_0 rfl rfl rfl hl (Nat.le_of_ble_eq_true rfl) dX8_mean_35 (fun H locs hP hD hS => ?_)
        obtain ⟨h1, h⟩ := Prod.mk.inj (Option.some.inj h)
        obtain ⟨rfl, rfl⟩ := Prod.mk.inj h
        exact hret _ _ _ _ _ dX8_mean_38 h1 hP hD hS
    · replace h := (if_pos c5).symm.trans h
      refine lv_aload_n hx hb dX8_mean_17 rfl (lv_at hl 0 rfl) ?_
      refine lv_iconst (v := -1) hx hb dX8_mean_18 (by decide) ?_
      obtain ⟨⟨r22, I22, J22⟩, hc22, h⟩ := ob h
      dsimp only at h
      refine callWVi (As := [.int (-1 : Int32)]) (rest := []) hC (c_X8_lower l g ad I J (-1 : Int32)  H.size hc22) lk_X8_209 rfl rfl ⟨Nat.le_of_ble_eq_true rfl, Nat.le_of_ble_eq_true rfl⟩ hP hK hD hA hS mo_0 rfl rfl rfl hl (Nat.le_of_ble_eq_true rfl) dX8_mean_19 (fun H locs hP hD hS => ?_)
      obtain ⟨h1, h⟩ := Prod.mk.inj (Option.some.inj h)
      obtain ⟨rfl, rfl⟩ := Prod.mk.inj h
      exact hret _ _ _ _ _ dX8_mean_22 h1 hP hD hS
def F_X8_ownerBy (I : SI) (J : SJ) (v1 : Int32) (v2 : Int32) (v3 : Int32) : Option (Int64 × SI × SJ) := ((F_X8_takesMade I J v1 v2 v3).bind fun (I1, J1) => ((F_X8_bestPains I1 J1 (0 : Int32)).bind fun r2 => ((F_X8_worthOf I1 J1 (1 : Int32) r2 (0 : Int32)).bind fun r3 => (some (r3, I1, J1)))))
set_option maxHeartbeats 4000000 in
set_option maxRecDepth 100000 in
theorem c_X8_ownerBy (l : Launch) (g : Gx) (ad : Nat → Nat) (I : SI) (J : SJ) (v1 : Int32) (v2 : Int32) (v3 : Int32)  (sz : Nat) {r : Int64} {rI : SI} {rJ : SJ} (h : F_X8_ownerBy I J v1 v2 v3 = some (r, rI, rJ)) : Met l yX8_ownerBy (Cond.code yX8_ownerBy cX8_ownerBy 4 (some .long) :: BG) (k2_rm 4 100) (PcW [.ref (ad 0), .int v1, .int v2, .int v3] g (mW ad g I J) sz) (QWl r g (mW ad g I J) (mW ad g rI rJ) sz) 0 0 (va_A (mW ad g I J) sz) := by
  refine mkWl (by decide) (Nat.le_of_ble_eq_true rfl) ?_
  intro p e s m args below meth c H locs ls A Q hC hK hP hD hA hS hl hret
  have hx := hC.1
  have hb := hC.2.1
  have hts := hC.2.2.2.2
  have hown := hC.2.2.2.1
  replace hl : lv_has ls 4 [(0, .ref (ad 0)), (1, .int v1), (2, .int v2), (3, .int v3)] := hl
  unfold F_X8_ownerBy at h
  refine lv_aload_n hx hb dX8_ownerBy_0 rfl (lv_at hl 0 rfl) ?_
  refine lv_iload_n hx hb dX8_ownerBy_1 rfl (lv_at hl 1 rfl) ?_
  refine lv_iload_n hx hb dX8_ownerBy_2 rfl (lv_at hl 2 rfl) ?_
  refine lv_iload_n hx hb dX8_ownerBy_3 rfl (lv_at hl 3 rfl) ?_
  obtain ⟨⟨I1, J1⟩, hc1, h⟩ := ob h
  dsimp only at h
  refine callWVv (As := [.int v1, .int v2, .int v3]) (rest := []) hC (c_X8_takesMade l g ad I J v1 v2 v3  H.size hc1) lk_X8_226 rfl rfl ⟨Nat.le_of_ble_eq_true rfl, Nat.le_of_ble_eq_true rfl⟩ hP hK hD hA hS mo_0 rfl rfl rfl hl (Nat.le_of_ble_eq_true rfl) dX8_ownerBy_4 (fun H locs hP hD hS => ?_)
  refine lv_aload_n hx hb dX8_ownerBy_7 rfl (lv_at hl 0 rfl) ?_
  refine lv_iconst (v := 1) hx hb dX8_ownerBy_8 (by decide) ?_
  refine lv_aload_n hx hb dX8_ownerBy_9 rfl (lv_at hl 0 rfl) ?_
  refine lv_iconst (v := 0) hx hb dX8_ownerBy_10 (by decide) ?_
  obtain ⟨r2, hc2, h⟩ := ob h
  refine callRV (As := [.int (0 : Int32)]) (rest := [.int (1 : Int32), .ref (ad 0)]) hC (c_X8_bestPains l g ad I1 J1 (0 : Int32)  hc2) lk_X8_206 rfl rfl ⟨Nat.le_of_ble_eq_true rfl, Nat.le_of_ble_eq_true rfl⟩ hP hK mo_0 rfl rfl rfl hl (Nat.le_of_ble_eq_true rfl) dX8_ownerBy_11 ?_
  refine lv_iconst (v := 0) hx hb dX8_ownerBy_14 (by decide) ?_
  obtain ⟨r3, hc3, h⟩ := ob h
  refine callRV (As := [.int (1 : Int32), .int r2, .int (0 : Int32)]) (rest := []) hC (c_X8_worthOf l g ad I1 J1 (1 : Int32) r2 (0 : Int32)  hc3) lk_X8_202 rfl rfl ⟨Nat.le_of_ble_eq_true rfl, Nat.le_of_ble_eq_true rfl⟩ hP hK mo_0 rfl rfl rfl hl (Nat.le_of_ble_eq_true rfl) dX8_ownerBy_15 ?_
  obtain ⟨h1, h⟩ := Prod.mk.inj (Option.some.inj h)
  obtain ⟨rfl, rfl⟩ := Prod.mk.inj h
  exact hret _ _ _ _ _ dX8_ownerBy_18 h1 hP hD hS
def F_X8_isTaken (I : SI) (J : SJ) (v1 : Int32) (v2 : Int32) (v3 : Int32) : Option (Int32 × SI × SJ) := ((F_X8_takesMade I J v1 v2 v3).bind fun (I1, J1) => ((F_X8_doesTake I1 J1).bind fun r2 => (if gbo r2 = true then (some (r2, I1, J1)) else none)))
set_option maxHeartbeats 4000000 in
set_option maxRecDepth 100000 in
theorem c_X8_isTaken (l : Launch) (g : Gx) (ad : Nat → Nat) (I : SI) (J : SJ) (v1 : Int32) (v2 : Int32) (v3 : Int32)  (sz : Nat) {r : Int32} {rI : SI} {rJ : SJ} (h : F_X8_isTaken I J v1 v2 v3 = some (r, rI, rJ)) : Met l yX8_isTaken (Cond.code yX8_isTaken cX8_isTaken 4 (some .boolean) :: BG) (k2_rm 5 120) (PcW [.ref (ad 0), .int v1, .int v2, .int v3] g (mW ad g I J) sz) (QWi r g (mW ad g I J) (mW ad g rI rJ) sz) 0 0 (va_A (mW ad g I J) sz) := by
  refine mkWz (by decide) (Nat.le_of_ble_eq_true rfl) ?_
  intro p e s m args below meth c H locs ls A Q hC hK hP hD hA hS hl hret
  have hx := hC.1
  have hb := hC.2.1
  have hts := hC.2.2.2.2
  have hown := hC.2.2.2.1
  replace hl : lv_has ls 4 [(0, .ref (ad 0)), (1, .int v1), (2, .int v2), (3, .int v3)] := hl
  unfold F_X8_isTaken at h
  refine lv_aload_n hx hb dX8_isTaken_0 rfl (lv_at hl 0 rfl) ?_
  refine lv_iload_n hx hb dX8_isTaken_1 rfl (lv_at hl 1 rfl) ?_
  refine lv_iload_n hx hb dX8_isTaken_2 rfl (lv_at hl 2 rfl) ?_
  refine lv_iload_n hx hb dX8_isTaken_3 rfl (lv_at hl 3 rfl) ?_
  obtain ⟨⟨I1, J1⟩, hc1, h⟩ := ob h
  dsimp only at h
  refine callWVv (As := [.int v1, .int v2, .int v3]) (rest := []) hC (c_X8_takesMade l g ad I J v1 v2 v3  H.size hc1) lk_X8_226 rfl rfl ⟨Nat.le_of_ble_eq_true rfl, Nat.le_of_ble_eq_true rfl⟩ hP hK hD hA hS mo_0 rfl rfl rfl hl (Nat.le_of_ble_eq_true rfl) dX8_isTaken_4 (fun H locs hP hD hS => ?_)
  refine lv_aload_n hx hb dX8_isTaken_7 rfl (lv_at hl 0 rfl) ?_
  obtain ⟨r2, hc2, h⟩ := ob h
  refine callRV (As := []) (rest := []) hC (c_X8_doesTake l g ad I1 J1   hc2) lk_X8_220 rfl rfl ⟨Nat.le_of_ble_eq_true rfl, Nat.le_of_ble_eq_true rfl⟩ hP hK mo_0 rfl rfl rfl hl (Nat.le_of_ble_eq_true rfl) dX8_isTaken_8 ?_
  obtain ⟨z3, h⟩ := og h
  obtain ⟨h1, h⟩ := Prod.mk.inj (Option.some.inj h)
  obtain ⟨rfl, rfl⟩ := Prod.mk.inj h
  exact hret _ _ _ _ _ dX8_isTaken_11 (gbo_ok z3).1 h1 hP hD hS
def FL_X8_findProof_5  : Nat → SI → SJ → Int32 → Int32 → Option (Int32 × SI × SJ)
  | 0, _, _, _, _ => none
  | n + 1, I, J, w1_5, w2_5 => (if (74 : Int32) ≤ w2_5 then (some (w1_5, I, J)) else ((F_X8_isTaken I J (if (13 : Int32) ≤ w2_5 then (1 : Int32) else (0 : Int32)) (if (13 : Int32) ≤ w2_5 then (w2_5 - (13 : Int32)) else w2_5) (12 : Int32)).bind fun (r6, I6, J6) => (if r6 = 0 then (FL_X8_findProof_5 n I6 J6 w1_5 (w2_5 + 1)) else ((F_X8_ownerBy I6 J6 (if (13 : Int32) ≤ w2_5 then (1 : Int32) else (0 : Int32)) (if (13 : Int32) ≤ w2_5 then (w2_5 - (13 : Int32)) else w2_5) (12 : Int32)).bind fun (r8, I8, J8) => (if w1_5 < 0 then (FL_X8_findProof_5 n I8 (u2L J8 0 28 r8) (if (if (13 : Int32) ≤ w2_5 then (1 : Int32) else (0 : Int32)) = 0 then (if (13 : Int32) ≤ w2_5 then (w2_5 - (13 : Int32)) else w2_5) else ((100 : Int32) + (if (13 : Int32) ≤ w2_5 then (w2_5 - (13 : Int32)) else w2_5))) (w2_5 + 1)) else (if (J8 0 28) < r8 then (FL_X8_findProof_5 n I8 (u2L J8 0 28 r8) (if (if (13 : Int32) ≤ w2_5 then (1 : Int32) else (0 : Int32)) = 0 then (if (13 : Int32) ≤ w2_5 then (w2_5 - (13 : Int32)) else w2_5) else ((100 : Int32) + (if (13 : Int32) ≤ w2_5 then (w2_5 - (13 : Int32)) else w2_5))) (w2_5 + 1)) else (FL_X8_findProof_5 n I8 J8 w1_5 (w2_5 + 1))))))))
def F_X8_findProof (I : SI) (J : SJ) : Option (Int32 × SI × SJ) := (FL_X8_findProof_5 3000 I J (-9 : Int32) (0 : Int32))
set_option maxHeartbeats 4000000 in
set_option maxRecDepth 100000 in
theorem c_X8_findProof (l : Launch) (g : Gx) (ad : Nat → Nat) (I : SI) (J : SJ)   (sz : Nat) {r : Int32} {rI : SI} {rJ : SJ} (h : F_X8_findProof I J = some (r, rI, rJ)) : Met l yX8_findProof (Cond.code yX8_findProof cX8_findProof 7 (some .int) :: BG) (k2_rm 6 143) (PcW [.ref (ad 0)] g (mW ad g I J) sz) (QWi r g (mW ad g I J) (mW ad g rI rJ) sz) 0 0 (va_A (mW ad g I J) sz) := by
  refine mkWi (by decide) (Nat.le_of_ble_eq_true rfl) ?_
  intro p e s m args below meth c H locs ls A Q hC hK hP hD hA hS hl hret
  have hx := hC.1
  have hb := hC.2.1
  have hts := hC.2.2.2.2
  have hown := hC.2.2.2.1
  replace hl : lv_has ls 7 [(0, .ref (ad 0))] := hl
  have loop_5 : ∀ (n : Nat) (I : SI) (J : SJ) (w1_5 : Int32) (w2_5 : Int32)  (H : Heap) (locs : List Loc) (ls : Array Slot), FL_X8_findProof_5 n I J w1_5 w2_5 = some (r, rI, rJ) → Pg g (mW ad g I J) H → va_D A (mW ad g I J) → va_S A s.heap H locs → lv_has ls 7 [(0, .ref (ad 0)), (1, .int w1_5), (2, .int w2_5)] → W p l e (k2_rm 6 143) s m args below meth c H locs 0 0 Q (F0 m 5 ls []) := by
    intro n
    induction n with
    | zero =>
      intro I J w1_5 w2_5 H locs ls h
      exact no h
    | succ n ih =>
      intro I J w1_5 w2_5 H locs ls h hP hD hS hl
      rw [FL_X8_findProof_5] at h
      refine lv_iload_n hx hb dX8_findProof_5 rfl (lv_at hl 2 rfl) ?_
      refine lv_bipush (v := 74) hx hb dX8_findProof_6 (by decide) ?_
      refine lv_icmp_ge (tgt := 109) hx hb dX8_findProof_8 (by decide) (fun c1 => ?_) (fun c1 => ?_)
      · replace h := (if_pos c1).symm.trans h
        refine lv_iload_n hx hb dX8_findProof_109 rfl (lv_at hl 1 rfl) ?_
        obtain ⟨h1, h⟩ := Prod.mk.inj (Option.some.inj h)
        obtain ⟨rfl, rfl⟩ := Prod.mk.inj h
        exact hret _ _ _ _ _ dX8_findProof_110 h1 hP hD hS
      · replace h := (if_neg c1).symm.trans h
        refine lv_iload_n hx hb dX8_findProof_11 rfl (lv_at hl 2 rfl) ?_
        refine lv_bipush (v := 13) hx hb dX8_findProof_12 (by decide) ?_
        refine tern (α := Int32) (cnd := (13 : Int32) ≤ w2_5) (a := (1 : Int32)) (b := (0 : Int32)) (Wj := fun vj => W p l e (k2_rm 6 143) s m args below meth c H locs 0 0 Q (F0 m 22 ls [.int vj])) (fun k3a k3b => ?_) ?_
        · refine lv_icmp_ge (tgt := 21) hx hb dX8_findProof_14 (by decide) (fun c2 => ?_) (fun c2 => ?_)
          · refine lv_iconst (v := 1) hx hb dX8_findProof_21 (by decide) ?_
            exact k3a c2
          · refine lv_iconst (v := 0) hx hb dX8_findProof_17 (by decide) ?_
            refine lv_goto (tgt := 22) hx hb dX8_findProof_18 (by decide) ?_
            exact k3b c2
        · show W p l e (k2_rm 6 143) s m args below meth c H locs 0 0 Q (F0 m 22 ls [.int (if (13 : Int32) ≤ w2_5 then (1 : Int32) else (0 : Int32))])
          refine lv_istore_n (lv' := [(3, .int (if (13 : Int32) ≤ w2_5 then (1 : Int32) else (0 : Int32))), (0, .ref (ad 0)), (1, .int w1_5), (2, .int w2_5)]) hx hb dX8_findProof_22 rfl hl (by decide) rfl (fun ls hl => ?_)
          refine lv_iload_n hx hb dX8_findProof_23 rfl (lv_at hl 3 rfl) ?_
          refine lv_bipush (v := 13) hx hb dX8_findProof_24 (by decide) ?_
          refine tern (α := Int32) (cnd := (13 : Int32) ≤ w2_5) (a := (w2_5 - (13 : Int32))) (b := w2_5) (Wj := fun vj => W p l e (k2_rm 6 143) s m args below meth c H locs 0 0 Q (F0 m 37 ls [.int vj])) (fun k5a k5b => ?_) ?_
          · refine lv_icmp_ge (tgt := 33) hx hb dX8_findProof_26 (by decide) (fun c4 => ?_) (fun c4 => ?_)
            · refine lv_iload_n hx hb dX8_findProof_33 rfl (lv_at hl 3 rfl) ?_
              refine lv_bipush (v := 13) hx hb dX8_findProof_34 (by decide) ?_
              refine lv_isub hx hb dX8_findProof_36 ?_
              exact k5a c4
            · refine lv_iload_n hx hb dX8_findProof_29 rfl (lv_at hl 3 rfl) ?_
              refine lv_goto (tgt := 37) hx hb dX8_findProof_30 (by decide) ?_
              exact k5b c4
          · show W p l e (k2_rm 6 143) s m args below meth c H locs 0 0 Q (F0 m 37 ls [.int (if (13 : Int32) ≤ w2_5 then (w2_5 - (13 : Int32)) else w2_5)])
            refine lv_istore (lv' := [(4, .int (if (13 : Int32) ≤ w2_5 then (w2_5 - (13 : Int32)) else w2_5)), (3, .int (if (13 : Int32) ≤ w2_5 then (1 : Int32) else (0 : Int32))), (0, .ref (ad 0)), (1, .int w1_5), (2, .int w2_5)]) hx hb dX8_findProof_37 hl (by decide) rfl (fun ls hl => ?_)
            refine lv_aload_n hx hb dX8_findProof_39 rfl (lv_at hl 2 rfl) ?_
            refine lv_iload_n hx hb dX8_findProof_40 rfl (lv_at hl 1 rfl) ?_
            refine lv_iload hx hb dX8_findProof_41 (lv_at hl 0 rfl) ?_
            refine lv_bipush (v := 12) hx hb dX8_findProof_43 (by decide) ?_
            obtain ⟨⟨r6, I6, J6⟩, hc6, h⟩ := ob h
            dsimp only at h
            refine callWVi (As := [.int (if (13 : Int32) ≤ w2_5 then (1 : Int32) else (0 : Int32)), .int (if (13 : Int32) ≤ w2_5 then (w2_5 - (13 : Int32)) else w2_5), .int (12 : Int32)]) (rest := []) hC (c_X8_isTaken l g ad I J (if (13 : Int32) ≤ w2_5 then (1 : Int32) else (0 : Int32)) (if (13 : Int32) ≤ w2_5 then (w2_5 - (13 : Int32)) else w2_5) (12 : Int32)  H.size hc6) lk_X8_230 rfl rfl ⟨Nat.le_of_ble_eq_true rfl, Nat.le_of_ble_eq_true rfl⟩ hP hK hD hA hS mo_0 rfl rfl rfl hl (Nat.le_of_ble_eq_true rfl) dX8_findProof_45 (fun H locs hP hD hS => ?_)
            refine lv_if_ne (tgt := 54) hx hb dX8_findProof_48 (by decide) (fun c7 => ?_) (fun c7 => ?_)
            · replace h := (if_neg c7).symm.trans h
              refine lv_aload_n hx hb dX8_findProof_54 rfl (lv_at hl 2 rfl) ?_
              refine lv_iload_n hx hb dX8_findProof_55 rfl (lv_at hl 1 rfl) ?_
              refine lv_iload hx hb dX8_findProof_56 (lv_at hl 0 rfl) ?_
              refine lv_bipush (v := 12) hx hb dX8_findProof_58 (by decide) ?_
              obtain ⟨⟨r8, I8, J8⟩, hc8, h⟩ := ob h
              dsimp only at h
              refine callWVl (As := [.int (if (13 : Int32) ≤ w2_5 then (1 : Int32) else (0 : Int32)), .int (if (13 : Int32) ≤ w2_5 then (w2_5 - (13 : Int32)) else w2_5), .int (12 : Int32)]) (rest := []) hC (c_X8_ownerBy l g ad I6 J6 (if (13 : Int32) ≤ w2_5 then (1 : Int32) else (0 : Int32)) (if (13 : Int32) ≤ w2_5 then (w2_5 - (13 : Int32)) else w2_5) (12 : Int32)  H.size hc8) lk_X8_233 rfl rfl ⟨Nat.le_of_ble_eq_true rfl, Nat.le_of_ble_eq_true rfl⟩ hP hK hD hA hS mo_0 rfl rfl rfl hl (Nat.le_of_ble_eq_true rfl) dX8_findProof_60 (fun H locs hP hD hS => ?_)
              refine lv_lstore (lv' := [(5, .long r8), (4, .int (if (13 : Int32) ≤ w2_5 then (w2_5 - (13 : Int32)) else w2_5)), (3, .int (if (13 : Int32) ≤ w2_5 then (1 : Int32) else (0 : Int32))), (0, .ref (ad 0)), (1, .int w1_5), (2, .int w2_5)]) hx hb dX8_findProof_63 hl (by decide) rfl (fun ls hl => ?_)
              refine lv_iload_n hx hb dX8_findProof_65 rfl (lv_at hl 4 rfl) ?_
              refine lv_if_lt (tgt := 82) hx hb dX8_findProof_66 (by decide) (fun c9 => ?_) (fun c9 => ?_)
              · replace h := (if_pos c9).symm.trans h
                refine lv_iload_n hx hb dX8_findProof_82 rfl (lv_at hl 2 rfl) ?_
                refine tern (α := Int32) (cnd := (if (13 : Int32) ≤ w2_5 then (1 : Int32) else (0 : Int32)) = 0) (a := (if (13 : Int32) ≤ w2_5 then (w2_5 - (13 : Int32)) else w2_5)) (b := ((100 : Int32) + (if (13 : Int32) ≤ w2_5 then (w2_5 - (13 : Int32)) else w2_5))) (Wj := fun vj => W p l e (k2_rm 6 143) s m args below meth c H locs 0 0 Q (F0 m 96 ls [.int vj])) (fun k11a k11b => ?_) ?_
                · refine lv_if_ne (tgt := 91) hx hb dX8_findProof_83 (by decide) (fun c10 => ?_) (fun c10 => ?_)
                  · refine lv_bipush (v := 100) hx hb dX8_findProof_91 (by decide) ?_
                    refine lv_iload hx hb dX8_findProof_93 (lv_at hl 1 rfl) ?_
                    refine lv_iadd hx hb dX8_findProof_95 ?_
                    exact k11b c10
                  · refine lv_iload hx hb dX8_findProof_86 (lv_at hl 1 rfl) ?_
                    refine lv_goto (tgt := 96) hx hb dX8_findProof_88 (by decide) ?_
                    exact k11a c10
                · show W p l e (k2_rm 6 143) s m args below meth c H locs 0 0 Q (F0 m 96 ls [.int (if (if (13 : Int32) ≤ w2_5 then (1 : Int32) else (0 : Int32)) = 0 then (if (13 : Int32) ≤ w2_5 then (w2_5 - (13 : Int32)) else w2_5) else ((100 : Int32) + (if (13 : Int32) ≤ w2_5 then (w2_5 - (13 : Int32)) else w2_5)))])
                  refine lv_istore_n (lv' := [(1, .int (if (if (13 : Int32) ≤ w2_5 then (1 : Int32) else (0 : Int32)) = 0 then (if (13 : Int32) ≤ w2_5 then (w2_5 - (13 : Int32)) else w2_5) else ((100 : Int32) + (if (13 : Int32) ≤ w2_5 then (w2_5 - (13 : Int32)) else w2_5)))), (5, .long r8), (4, .int (if (13 : Int32) ≤ w2_5 then (w2_5 - (13 : Int32)) else w2_5)), (3, .int (if (13 : Int32) ≤ w2_5 then (1 : Int32) else (0 : Int32))), (0, .ref (ad 0)), (2, .int w2_5)]) hx hb dX8_findProof_96 rfl hl (by decide) rfl (fun ls hl => ?_)
                  refine lv_aload_n hx hb dX8_findProof_97 rfl (lv_at hl 4 rfl) ?_
                  refine lv_lload hx hb dX8_findProof_98 (lv_at hl 1 rfl) ?_
                  refine pt_X8_236 hC hK hP hD hS dX8_findProof_100 (fun H locs hP hD hS => ?_)
                  refine lv_iinc (v := (w2_5 + 1)) (lv' := [(2, .int (w2_5 + 1)), (1, .int (if (if (13 : Int32) ≤ w2_5 then (1 : Int32) else (0 : Int32)) = 0 then (if (13 : Int32) ≤ w2_5 then (w2_5 - (13 : Int32)) else w2_5) else ((100 : Int32) + (if (13 : Int32) ≤ w2_5 then (w2_5 - (13 : Int32)) else w2_5)))), (5, .long r8), (4, .int (if (13 : Int32) ≤ w2_5 then (w2_5 - (13 : Int32)) else w2_5)), (3, .int (if (13 : Int32) ≤ w2_5 then (1 : Int32) else (0 : Int32))), (0, .ref (ad 0))]) hx hb dX8_findProof_103 hl (k := 5) rfl rfl (by decide) rfl (fun ls hl => ?_)
                  refine lv_goto (tgt := 5) hx hb dX8_findProof_106 (by decide) ?_
                  exact ih I8 (u2L J8 0 28 r8) (if (if (13 : Int32) ≤ w2_5 then (1 : Int32) else (0 : Int32)) = 0 then (if (13 : Int32) ≤ w2_5 then (w2_5 - (13 : Int32)) else w2_5) else ((100 : Int32) + (if (13 : Int32) ≤ w2_5 then (w2_5 - (13 : Int32)) else w2_5))) (w2_5 + 1) _ _ _ h hP hD hS (lv_sub hl [5, 1, 0] rfl)
              · replace h := (if_neg c9).symm.trans h
                refine lv_lload hx hb dX8_findProof_69 (lv_at hl 0 rfl) ?_
                refine lv_aload_n hx hb dX8_findProof_71 rfl (lv_at hl 3 rfl) ?_
                refine gt_X8_236 hC hK hP dX8_findProof_72 ?_
                refine W.lcmp hx hb dX8_findProof_75 ?_
                refine lv_if_gt (tgt := 82) hx hb dX8_findProof_76 (by decide) (fun c12 => ?_) (fun c12 => ?_)
                · replace h := (if_pos ((lg_cmp_gt _ _).mp c12)).symm.trans h
                  refine lv_iload_n hx hb dX8_findProof_82 rfl (lv_at hl 2 rfl) ?_
                  refine tern (α := Int32) (cnd := (if (13 : Int32) ≤ w2_5 then (1 : Int32) else (0 : Int32)) = 0) (a := (if (13 : Int32) ≤ w2_5 then (w2_5 - (13 : Int32)) else w2_5)) (b := ((100 : Int32) + (if (13 : Int32) ≤ w2_5 then (w2_5 - (13 : Int32)) else w2_5))) (Wj := fun vj => W p l e (k2_rm 6 143) s m args below meth c H locs 0 0 Q (F0 m 96 ls [.int vj])) (fun k14a k14b => ?_) ?_
                  · refine lv_if_ne (tgt := 91) hx hb dX8_findProof_83 (by decide) (fun c13 => ?_) (fun c13 => ?_)
                    · refine lv_bipush (v := 100) hx hb dX8_findProof_91 (by decide) ?_
                      refine lv_iload hx hb dX8_findProof_93 (lv_at hl 1 rfl) ?_
                      refine lv_iadd hx hb dX8_findProof_95 ?_
                      exact k14b c13
                    · refine lv_iload hx hb dX8_findProof_86 (lv_at hl 1 rfl) ?_
                      refine lv_goto (tgt := 96) hx hb dX8_findProof_88 (by decide) ?_
                      exact k14a c13
                  · show W p l e (k2_rm 6 143) s m args below meth c H locs 0 0 Q (F0 m 96 ls [.int (if (if (13 : Int32) ≤ w2_5 then (1 : Int32) else (0 : Int32)) = 0 then (if (13 : Int32) ≤ w2_5 then (w2_5 - (13 : Int32)) else w2_5) else ((100 : Int32) + (if (13 : Int32) ≤ w2_5 then (w2_5 - (13 : Int32)) else w2_5)))])
                    refine lv_istore_n (lv' := [(1, .int (if (if (13 : Int32) ≤ w2_5 then (1 : Int32) else (0 : Int32)) = 0 then (if (13 : Int32) ≤ w2_5 then (w2_5 - (13 : Int32)) else w2_5) else ((100 : Int32) + (if (13 : Int32) ≤ w2_5 then (w2_5 - (13 : Int32)) else w2_5)))), (5, .long r8), (4, .int (if (13 : Int32) ≤ w2_5 then (w2_5 - (13 : Int32)) else w2_5)), (3, .int (if (13 : Int32) ≤ w2_5 then (1 : Int32) else (0 : Int32))), (0, .ref (ad 0)), (2, .int w2_5)]) hx hb dX8_findProof_96 rfl hl (by decide) rfl (fun ls hl => ?_)
                    refine lv_aload_n hx hb dX8_findProof_97 rfl (lv_at hl 4 rfl) ?_
                    refine lv_lload hx hb dX8_findProof_98 (lv_at hl 1 rfl) ?_
                    refine pt_X8_236 hC hK hP hD hS dX8_findProof_100 (fun H locs hP hD hS => ?_)
                    refine lv_iinc (v := (w2_5 + 1)) (lv' := [(2, .int (w2_5 + 1)), (1, .int (if (if (13 : Int32) ≤ w2_5 then (1 : Int32) else (0 : Int32)) = 0 then (if (13 : Int32) ≤ w2_5 then (w2_5 - (13 : Int32)) else w2_5) else ((100 : Int32) + (if (13 : Int32) ≤ w2_5 then (w2_5 - (13 : Int32)) else w2_5)))), (5, .long r8), (4, .int (if (13 : Int32) ≤ w2_5 then (w2_5 - (13 : Int32)) else w2_5)), (3, .int (if (13 : Int32) ≤ w2_5 then (1 : Int32) else (0 : Int32))), (0, .ref (ad 0))]) hx hb dX8_findProof_103 hl (k := 5) rfl rfl (by decide) rfl (fun ls hl => ?_)
                    refine lv_goto (tgt := 5) hx hb dX8_findProof_106 (by decide) ?_
                    exact ih I8 (u2L J8 0 28 r8) (if (if (13 : Int32) ≤ w2_5 then (1 : Int32) else (0 : Int32)) = 0 then (if (13 : Int32) ≤ w2_5 then (w2_5 - (13 : Int32)) else w2_5) else ((100 : Int32) + (if (13 : Int32) ≤ w2_5 then (w2_5 - (13 : Int32)) else w2_5))) (w2_5 + 1) _ _ _ h hP hD hS (lv_sub hl [5, 1, 0] rfl)
                · replace h := (if_neg (fun hh => c12 ((lg_cmp_gt _ _).mpr hh))).symm.trans h
                  refine lv_goto (tgt := 103) hx hb dX8_findProof_79 (by decide) ?_
                  refine lv_iinc (v := (w2_5 + 1)) (lv' := [(2, .int (w2_5 + 1)), (5, .long r8), (4, .int (if (13 : Int32) ≤ w2_5 then (w2_5 - (13 : Int32)) else w2_5)), (3, .int (if (13 : Int32) ≤ w2_5 then (1 : Int32) else (0 : Int32))), (0, .ref (ad 0)), (1, .int w1_5)]) hx hb dX8_findProof_103 hl (k := 5) rfl rfl (by decide) rfl (fun ls hl => ?_)
                  refine lv_goto (tgt := 5) hx hb dX8_findProof_106 (by decide) ?_
                  exact ih I8 J8 w1_5 (w2_5 + 1) _ _ _ h hP hD hS (lv_sub hl [4, 5, 0] rfl)
            · replace h := (if_pos c7).symm.trans h
              refine lv_goto (tgt := 103) hx hb dX8_findProof_51 (by decide) ?_
              refine lv_iinc (v := (w2_5 + 1)) (lv' := [(2, .int (w2_5 + 1)), (4, .int (if (13 : Int32) ≤ w2_5 then (w2_5 - (13 : Int32)) else w2_5)), (3, .int (if (13 : Int32) ≤ w2_5 then (1 : Int32) else (0 : Int32))), (0, .ref (ad 0)), (1, .int w1_5)]) hx hb dX8_findProof_103 hl (k := 4) rfl rfl (by decide) rfl (fun ls hl => ?_)
              refine lv_goto (tgt := 5) hx hb dX8_findProof_106 (by decide) ?_
              exact ih I6 J6 w1_5 (w2_5 + 1) _ _ _ h hP hD hS (lv_sub hl [3, 4, 0] rfl)
  unfold F_X8_findProof at h
  refine lv_bipush (v := -9) hx hb dX8_findProof_0 (by decide) ?_
  refine lv_istore_n (lv' := [(1, .int (-9 : Int32)), (0, .ref (ad 0))]) hx hb dX8_findProof_2 rfl hl (by decide) rfl (fun ls hl => ?_)
  refine lv_iconst (v := 0) hx hb dX8_findProof_3 (by decide) ?_
  refine lv_istore_n (lv' := [(2, .int (0 : Int32)), (1, .int (-9 : Int32)), (0, .ref (ad 0))]) hx hb dX8_findProof_4 rfl hl (by decide) rfl (fun ls hl => ?_)
  exact loop_5 3000 I J (-9 : Int32) (0 : Int32) _ _ _ h hP hD hS (lv_sub hl [2, 1, 0] rfl)
def F_X8_proof (I : SI) (J : SJ) : Option (Int32 × SI × SJ) := ((F_X8_findProof I J).bind fun (r1, I1, J1) => (some (r1, I1, J1)))
set_option maxHeartbeats 4000000 in
set_option maxRecDepth 100000 in
theorem c_X8_proof (l : Launch) (g : Gx) (ad : Nat → Nat) (I : SI) (J : SJ)   (sz : Nat) {r : Int32} {rI : SI} {rJ : SJ} (h : F_X8_proof I J = some (r, rI, rJ)) : Met l yX8_proof (Cond.code yX8_proof cX8_proof 1 (some .int) :: BG) (k2_rm 7 169) (PcW [.ref (ad 0)] g (mW ad g I J) sz) (QWi r g (mW ad g I J) (mW ad g rI rJ) sz) 0 0 (va_A (mW ad g I J) sz) := by
  refine mkWi (by decide) (Nat.le_of_ble_eq_true rfl) ?_
  intro p e s m args below meth c H locs ls A Q hC hK hP hD hA hS hl hret
  have hx := hC.1
  have hb := hC.2.1
  have hts := hC.2.2.2.2
  have hown := hC.2.2.2.1
  replace hl : lv_has ls 1 [(0, .ref (ad 0))] := hl
  unfold F_X8_proof at h
  refine lv_aload_n hx hb dX8_proof_0 rfl (lv_at hl 0 rfl) ?_
  obtain ⟨⟨r1, I1, J1⟩, hc1, h⟩ := ob h
  dsimp only at h
  refine callWVi (As := []) (rest := []) hC (c_X8_findProof l g ad I J   H.size hc1) lk_X8_240 rfl rfl ⟨Nat.le_of_ble_eq_true rfl, Nat.le_of_ble_eq_true rfl⟩ hP hK hD hA hS mo_0 rfl rfl rfl hl (Nat.le_of_ble_eq_true rfl) dX8_proof_1 (fun H locs hP hD hS => ?_)
  obtain ⟨h1, h⟩ := Prod.mk.inj (Option.some.inj h)
  obtain ⟨rfl, rfl⟩ := Prod.mk.inj h
  exact hret _ _ _ _ _ dX8_proof_4 h1 hP hD hS
def FS_X8_gap_37  : Nat → SI → SJ → Int32 → Int64 → Int32 → Int32 → Option (SI × SJ × Int32 × Int64 × Int32 × Int32)
  | 0, _, _, _, _, _, _ => none
  | n + 1, I, J, w1_37, w2_37, w4_37, w5_37 => (if (100 : Int32) ≤ w5_37 then (some (I, J, w1_37, w2_37, w4_37, w5_37)) else ((F_X8_worthOf I J (0 : Int32) w4_37 (0 : Int32)).bind fun r9 => (if ((1000 : Int64) * (Int32.toInt64 (I 2 (Int32.toNatClampNeg (1 : Int32))))) ≤ r9 then (some (I, J, w1_37, w2_37, w4_37, w5_37)) else ((F_X8_takesMade I J (2 : Int32) (w5_37 + 1) (1 : Int32)).bind fun (I12, J12) => (FS_X8_gap_37 n I12 J12 w1_37 w2_37 w4_37 (w5_37 + 1))))))
def FL_X8_gap_18  : Nat → SI → SJ → Int32 → Int64 → Int32 → Option (Int64 × SI × SJ)
  | 0, _, _, _, _, _ => none
  | n + 1, I, J, w1_18, w2_18, w4_18 => (if (I 0 7) < w4_18 then (if w1_18 = 0 then (some ((-9 : Int64), I, J)) else (some ((if (J 0 28) ≤ w2_18 then (w2_18 - (J 0 28)) else (0 : Int64)), I, J))) else ((F_X8_takesMade I J (2 : Int32) (0 : Int32) (1 : Int32)).bind fun (I7, J7) => ((FS_X8_gap_37 3000 I7 J7 w1_18 w2_18 w4_18 (0 : Int32)).bind fun (I13, J13, u1_13, u2_13, u4_13, u5_13) => (if u5_13 = (100 : Int32) then (FL_X8_gap_18 n I13 J13 u1_13 u2_13 (u4_13 + 1)) else ((F_X8_worthOf I13 J13 (1 : Int32) u4_13 (0 : Int32)).bind fun r15 => (if u1_13 = 0 then (FL_X8_gap_18 n I13 J13 (1 : Int32) r15 (u4_13 + 1)) else (FL_X8_gap_18 n I13 J13 (1 : Int32) (if r15 ≤ u2_13 then u2_13 else r15) (u4_13 + 1))))))))
def F_X8_gap (I : SI) (J : SJ) : Option (Int64 × SI × SJ) := ((F_X8_findProof I J).bind fun (r1, I1, J1) => (if 0 ≤ r1 then (FL_X8_gap_18 3000 I1 J1 (0 : Int32) (0 : Int64) (0 : Int32)) else (some ((-9 : Int64), I1, J1))))
set_option maxHeartbeats 4000000 in
set_option maxRecDepth 100000 in
theorem c_X8_gap (l : Launch) (g : Gx) (ad : Nat → Nat) (I : SI) (J : SJ)   (sz : Nat) {r : Int64} {rI : SI} {rJ : SJ} (h : F_X8_gap I J = some (r, rI, rJ)) : Met l yX8_gap (Cond.code yX8_gap cX8_gap 8 (some .long) :: BG) (k2_rm 7 169) (PcW [.ref (ad 0)] g (mW ad g I J) sz) (QWl r g (mW ad g I J) (mW ad g rI rJ) sz) 0 0 (va_A (mW ad g I J) sz) := by
  refine mkWl (by decide) (Nat.le_of_ble_eq_true rfl) ?_
  intro p e s m args below meth c H locs ls A Q hC hK hP hD hA hS hl hret
  have hx := hC.1
  have hb := hC.2.1
  have hts := hC.2.2.2.2
  have hown := hC.2.2.2.1
  replace hl : lv_has ls 8 [(0, .ref (ad 0))] := hl
  have loop_37 : ∀ (n : Nat) (I : SI) (J : SJ) (w1_37 : Int32) (w2_37 : Int64) (w4_37 : Int32) (w5_37 : Int32) (o0 : SI) (o1 : SJ) (o2 : Int32) (o3 : Int64) (o4 : Int32) (o5 : Int32) (H : Heap) (locs : List Loc) (ls : Array Slot), FS_X8_gap_37 n I J w1_37 w2_37 w4_37 w5_37 = some (o0, o1, o2, o3, o4, o5) → Pg g (mW ad g I J) H → va_D A (mW ad g I J) → va_S A s.heap H locs → lv_has ls 8 [(0, .ref (ad 0)), (1, .int w1_37), (2, .long w2_37), (4, .int w4_37), (5, .int w5_37)] → (∀ (H : Heap) (locs : List Loc) (ls : Array Slot), Pg g (mW ad g o0 o1) H → va_D A (mW ad g o0 o1) → va_S A s.heap H locs → lv_has ls 8 [(0, .ref (ad 0)), (1, .int o2), (2, .long o3), (4, .int o4), (5, .int o5)] → W p l e (k2_rm 7 169) s m args below meth c H locs 0 0 Q (F0 m 81 ls [])) → W p l e (k2_rm 7 169) s m args below meth c H locs 0 0 Q (F0 m 37 ls []) := by
    intro n
    induction n with
    | zero =>
      intro I J w1_37 w2_37 w4_37 w5_37 o0 o1 o2 o3 o4 o5 H locs ls h
      exact no h
    | succ n ih =>
      intro I J w1_37 w2_37 w4_37 w5_37 o0 o1 o2 o3 o4 o5 H locs ls h hP hD hS hl hexit
      rw [FS_X8_gap_37] at h
      refine lv_iload hx hb dX8_gap_37 (lv_at hl 4 rfl) ?_
      refine lv_bipush (v := 100) hx hb dX8_gap_39 (by decide) ?_
      refine lv_icmp_ge (tgt := 81) hx hb dX8_gap_41 (by decide) (fun c8 => ?_) (fun c8 => ?_)
      · replace h := (if_pos c8).symm.trans h
        cases h
        exact hexit _ _ _ hP hD hS (lv_sub hl [0, 1, 2, 3, 4] rfl)
      · replace h := (if_neg c8).symm.trans h
        refine lv_aload_n hx hb dX8_gap_44 rfl (lv_at hl 0 rfl) ?_
        refine lv_iconst (v := 0) hx hb dX8_gap_45 (by decide) ?_
        refine lv_iload hx hb dX8_gap_46 (lv_at hl 3 rfl) ?_
        refine lv_iconst (v := 0) hx hb dX8_gap_48 (by decide) ?_
        obtain ⟨r9, hc9, h⟩ := ob h
        refine callRV (As := [.int (0 : Int32), .int w4_37, .int (0 : Int32)]) (rest := []) hC (c_X8_worthOf l g ad I J (0 : Int32) w4_37 (0 : Int32)  hc9) lk_X8_202 rfl rfl ⟨Nat.le_of_ble_eq_true rfl, Nat.le_of_ble_eq_true rfl⟩ hP hK mo_0 rfl rfl rfl hl (Nat.le_of_ble_eq_true rfl) dX8_gap_49 ?_
        refine lv_ldc2 hx hb hown (hts _ kc_X8_197) dX8_gap_52 ?_
        refine lv_aload_n hx hb dX8_gap_55 rfl (lv_at hl 0 rfl) ?_
        refine gt_X8_13 hC hK hP dX8_gap_56 ?_
        refine lv_iconst (v := 1) hx hb dX8_gap_59 (by decide) ?_
        refine al_m2 hC hK hP (gin_ok (by decide)) dX8_gap_60 ?_
        refine lv_i2l hx hb dX8_gap_61 rfl ?_
        refine lv_lmul hx hb dX8_gap_62 ?_
        refine W.lcmp hx hb dX8_gap_63 ?_
        refine lv_if_ge (tgt := 81) hx hb dX8_gap_64 (by decide) (fun c11 => ?_) (fun c11 => ?_)
        · replace h := (if_pos ((lg_cmp_ge _ _).mp c11)).symm.trans h
          cases h
          exact hexit _ _ _ hP hD hS (lv_sub hl [0, 1, 2, 3, 4] rfl)
        · replace h := (if_neg (fun hh => c11 ((lg_cmp_ge _ _).mpr hh))).symm.trans h
          refine lv_iinc (v := (w5_37 + 1)) (lv' := [(5, .int (w5_37 + 1)), (0, .ref (ad 0)), (1, .int w1_37), (2, .long w2_37), (4, .int w4_37)]) hx hb dX8_gap_67 hl (k := 4) rfl rfl (by decide) rfl (fun ls hl => ?_)
          refine lv_aload_n hx hb dX8_gap_70 rfl (lv_at hl 1 rfl) ?_
          refine lv_iconst (v := 2) hx hb dX8_gap_71 (by decide) ?_
          refine lv_iload hx hb dX8_gap_72 (lv_at hl 0 rfl) ?_
          refine lv_iconst (v := 1) hx hb dX8_gap_74 (by decide) ?_
          obtain ⟨⟨I12, J12⟩, hc12, h⟩ := ob h
          dsimp only at h
          refine callWVv (As := [.int (2 : Int32), .int (w5_37 + 1), .int (1 : Int32)]) (rest := []) hC (c_X8_takesMade l g ad I J (2 : Int32) (w5_37 + 1) (1 : Int32)  H.size hc12) lk_X8_226 rfl rfl ⟨Nat.le_of_ble_eq_true rfl, Nat.le_of_ble_eq_true rfl⟩ hP hK hD hA hS mo_0 rfl rfl rfl hl (Nat.le_of_ble_eq_true rfl) dX8_gap_75 (fun H locs hP hD hS => ?_)
          refine lv_goto (tgt := 37) hx hb dX8_gap_78 (by decide) ?_
          exact ih I12 J12 w1_37 w2_37 w4_37 (w5_37 + 1) _ _ _ _ _ _ _ _ _ h hP hD hS (lv_sub hl [1, 2, 3, 4, 0] rfl) hexit
  have loop_18 : ∀ (n : Nat) (I : SI) (J : SJ) (w1_18 : Int32) (w2_18 : Int64) (w4_18 : Int32)  (H : Heap) (locs : List Loc) (ls : Array Slot), FL_X8_gap_18 n I J w1_18 w2_18 w4_18 = some (r, rI, rJ) → Pg g (mW ad g I J) H → va_D A (mW ad g I J) → va_S A s.heap H locs → lv_has ls 8 [(0, .ref (ad 0)), (1, .int w1_18), (2, .long w2_18), (4, .int w4_18)] → W p l e (k2_rm 7 169) s m args below meth c H locs 0 0 Q (F0 m 18 ls []) := by
    intro n
    induction n with
    | zero =>
      intro I J w1_18 w2_18 w4_18 H locs ls h
      exact no h
    | succ n ih =>
      intro I J w1_18 w2_18 w4_18 H locs ls h hP hD hS hl
      rw [FL_X8_gap_18] at h
      refine lv_iload hx hb dX8_gap_18 (lv_at hl 3 rfl) ?_
      refine lv_aload_n hx hb dX8_gap_20 rfl (lv_at hl 0 rfl) ?_
      refine gt_X8_125 hC hK hP dX8_gap_21 ?_
      refine lv_icmp_gt (tgt := 127) hx hb dX8_gap_24 (by decide) (fun c3 => ?_) (fun c3 => ?_)
      · replace h := (if_pos c3).symm.trans h
        refine lv_iload_n hx hb dX8_gap_127 rfl (lv_at hl 1 rfl) ?_
        refine lv_if_ne (tgt := 135) hx hb dX8_gap_128 (by decide) (fun c4 => ?_) (fun c4 => ?_)
        · replace h := (if_neg c4).symm.trans h
          refine lv_lload_n hx hb dX8_gap_135 rfl (lv_at hl 2 rfl) ?_
          refine lv_aload_n hx hb dX8_gap_136 rfl (lv_at hl 0 rfl) ?_
          refine gt_X8_236 hC hK hP dX8_gap_137 ?_
          refine tern (α := Int64) (cnd := (J 0 28) ≤ w2_18) (a := (w2_18 - (J 0 28))) (b := (0 : Int64)) (Wj := fun vj => W p l e (k2_rm 7 169) s m args below meth c H locs 0 0 Q (F0 m 154 ls [.long vj])) (fun k6a k6b => ?_) ?_
          · refine W.lcmp hx hb dX8_gap_140 ?_
            refine lv_if_ge (tgt := 148) hx hb dX8_gap_141 (by decide) (fun c5 => ?_) (fun c5 => ?_)
            · refine lv_lload_n hx hb dX8_gap_148 rfl (lv_at hl 2 rfl) ?_
              refine lv_aload_n hx hb dX8_gap_149 rfl (lv_at hl 0 rfl) ?_
              refine gt_X8_236 hC hK hP dX8_gap_150 ?_
              refine lv_lsub hx hb dX8_gap_153 ?_
              exact k6a ((lg_cmp_ge _ _).mp c5)
            · refine lv_lconst (v := 0) hx hb dX8_gap_144 (by decide) ?_
              refine lv_goto (tgt := 154) hx hb dX8_gap_145 (by decide) ?_
              exact k6b (fun hh => c5 ((lg_cmp_ge _ _).mpr hh))
          · show W p l e (k2_rm 7 169) s m args below meth c H locs 0 0 Q (F0 m 154 ls [.long (if (J 0 28) ≤ w2_18 then (w2_18 - (J 0 28)) else (0 : Int64))])
            obtain ⟨h1, h⟩ := Prod.mk.inj (Option.some.inj h)
            obtain ⟨rfl, rfl⟩ := Prod.mk.inj h
            exact hret _ _ _ _ _ dX8_gap_154 h1 hP hD hS
        · replace h := (if_pos c4).symm.trans h
          refine lv_ldc2 hx hb hown (hts _ kc_X8_243) dX8_gap_131 ?_
          obtain ⟨h1, h⟩ := Prod.mk.inj (Option.some.inj h)
          obtain ⟨rfl, rfl⟩ := Prod.mk.inj h
          exact hret _ _ _ _ _ dX8_gap_134 h1 hP hD hS
      · replace h := (if_neg c3).symm.trans h
        refine lv_iconst (v := 0) hx hb dX8_gap_27 (by decide) ?_
        refine lv_istore (lv' := [(5, .int (0 : Int32)), (0, .ref (ad 0)), (1, .int w1_18), (2, .long w2_18), (4, .int w4_18)]) hx hb dX8_gap_28 hl (by decide) rfl (fun ls hl => ?_)
        refine lv_aload_n hx hb dX8_gap_30 rfl (lv_at hl 1 rfl) ?_
        refine lv_iconst (v := 2) hx hb dX8_gap_31 (by decide) ?_
        refine lv_iconst (v := 0) hx hb dX8_gap_32 (by decide) ?_
        refine lv_iconst (v := 1) hx hb dX8_gap_33 (by decide) ?_
        obtain ⟨⟨I7, J7⟩, hc7, h⟩ := ob h
        dsimp only at h
        refine callWVv (As := [.int (2 : Int32), .int (0 : Int32), .int (1 : Int32)]) (rest := []) hC (c_X8_takesMade l g ad I J (2 : Int32) (0 : Int32) (1 : Int32)  H.size hc7) lk_X8_226 rfl rfl ⟨Nat.le_of_ble_eq_true rfl, Nat.le_of_ble_eq_true rfl⟩ hP hK hD hA hS mo_0 rfl rfl rfl hl (Nat.le_of_ble_eq_true rfl) dX8_gap_34 (fun H locs hP hD hS => ?_)
        obtain ⟨⟨I13, J13, u1_13, u2_13, u4_13, u5_13⟩, hc13, h⟩ := ob h
        dsimp only at h
        refine loop_37 3000 I7 J7 w1_18 w2_18 w4_18 (0 : Int32) I13 J13 u1_13 u2_13 u4_13 u5_13 _ _ _ hc13 hP hD hS (lv_sub hl [1, 2, 3, 4, 0] rfl) (fun H locs ls hP hD hS hl => ?_)
        refine lv_iload hx hb dX8_gap_81 (lv_at hl 4 rfl) ?_
        refine lv_bipush (v := 100) hx hb dX8_gap_83 (by decide) ?_
        refine lv_icmp_ne (tgt := 91) hx hb dX8_gap_85 (by decide) (fun c14 => ?_) (fun c14 => ?_)
        · replace h := (if_neg c14).symm.trans h
          refine lv_aload_n hx hb dX8_gap_91 rfl (lv_at hl 0 rfl) ?_
          refine lv_iconst (v := 1) hx hb dX8_gap_92 (by decide) ?_
          refine lv_iload hx hb dX8_gap_93 (lv_at hl 3 rfl) ?_
          refine lv_iconst (v := 0) hx hb dX8_gap_95 (by decide) ?_
          obtain ⟨r15, hc15, h⟩ := ob h
          refine callRV (As := [.int (1 : Int32), .int u4_13, .int (0 : Int32)]) (rest := []) hC (c_X8_worthOf l g ad I13 J13 (1 : Int32) u4_13 (0 : Int32)  hc15) lk_X8_202 rfl rfl ⟨Nat.le_of_ble_eq_true rfl, Nat.le_of_ble_eq_true rfl⟩ hP hK mo_0 rfl rfl rfl hl (Nat.le_of_ble_eq_true rfl) dX8_gap_96 ?_
          refine lv_lstore (lv' := [(6, .long r15), (0, .ref (ad 0)), (1, .int u1_13), (2, .long u2_13), (4, .int u4_13), (5, .int u5_13)]) hx hb dX8_gap_99 hl (by decide) rfl (fun ls hl => ?_)
          refine lv_iload_n hx hb dX8_gap_101 rfl (lv_at hl 2 rfl) ?_
          refine lv_if_eq (tgt := 112) hx hb dX8_gap_102 (by decide) (fun c16 => ?_) (fun c16 => ?_)
          · replace h := (if_pos c16).symm.trans h
            refine lv_lload hx hb dX8_gap_112 (lv_at hl 0 rfl) ?_
            refine lv_goto (tgt := 118) hx hb dX8_gap_114 (by decide) ?_
            refine lv_lstore_n (lv' := [(2, .long r15), (6, .long r15), (0, .ref (ad 0)), (1, .int u1_13), (4, .int u4_13), (5, .int u5_13)]) hx hb dX8_gap_118 rfl hl (by decide) rfl (fun ls hl => ?_)
            refine lv_iconst (v := 1) hx hb dX8_gap_119 (by decide) ?_
            refine lv_istore_n (lv' := [(1, .int (1 : Int32)), (2, .long r15), (6, .long r15), (0, .ref (ad 0)), (4, .int u4_13), (5, .int u5_13)]) hx hb dX8_gap_120 rfl hl (by decide) rfl (fun ls hl => ?_)
            refine lv_iinc (v := (u4_13 + 1)) (lv' := [(4, .int (u4_13 + 1)), (1, .int (1 : Int32)), (2, .long r15), (6, .long r15), (0, .ref (ad 0)), (5, .int u5_13)]) hx hb dX8_gap_121 hl (k := 4) rfl rfl (by decide) rfl (fun ls hl => ?_)
            refine lv_goto (tgt := 18) hx hb dX8_gap_124 (by decide) ?_
            exact ih I13 J13 (1 : Int32) r15 (u4_13 + 1) _ _ _ h hP hD hS (lv_sub hl [4, 1, 2, 0] rfl)
          · replace h := (if_neg c16).symm.trans h
            refine lv_lload hx hb dX8_gap_105 (lv_at hl 0 rfl) ?_
            refine lv_lload_n hx hb dX8_gap_107 rfl (lv_at hl 3 rfl) ?_
            refine tern (α := Int64) (cnd := r15 ≤ u2_13) (a := u2_13) (b := r15) (Wj := fun vj => W p l e (k2_rm 7 169) s m args below meth c H locs 0 0 Q (F0 m 118 ls [.long vj])) (fun k18a k18b => ?_) ?_
            · refine W.lcmp hx hb dX8_gap_108 ?_
              refine lv_if_le (tgt := 117) hx hb dX8_gap_109 (by decide) (fun c17 => ?_) (fun c17 => ?_)
              · refine lv_lload_n hx hb dX8_gap_117 rfl (lv_at hl 3 rfl) ?_
                exact k18a ((lg_cmp_le _ _).mp c17)
              · refine lv_lload hx hb dX8_gap_112 (lv_at hl 0 rfl) ?_
                refine lv_goto (tgt := 118) hx hb dX8_gap_114 (by decide) ?_
                exact k18b (fun hh => c17 ((lg_cmp_le _ _).mpr hh))
            · show W p l e (k2_rm 7 169) s m args below meth c H locs 0 0 Q (F0 m 118 ls [.long (if r15 ≤ u2_13 then u2_13 else r15)])
              refine lv_lstore_n (lv' := [(2, .long (if r15 ≤ u2_13 then u2_13 else r15)), (6, .long r15), (0, .ref (ad 0)), (1, .int u1_13), (4, .int u4_13), (5, .int u5_13)]) hx hb dX8_gap_118 rfl hl (by decide) rfl (fun ls hl => ?_)
              refine lv_iconst (v := 1) hx hb dX8_gap_119 (by decide) ?_
              refine lv_istore_n (lv' := [(1, .int (1 : Int32)), (2, .long (if r15 ≤ u2_13 then u2_13 else r15)), (6, .long r15), (0, .ref (ad 0)), (4, .int u4_13), (5, .int u5_13)]) hx hb dX8_gap_120 rfl hl (by decide) rfl (fun ls hl => ?_)
              refine lv_iinc (v := (u4_13 + 1)) (lv' := [(4, .int (u4_13 + 1)), (1, .int (1 : Int32)), (2, .long (if r15 ≤ u2_13 then u2_13 else r15)), (6, .long r15), (0, .ref (ad 0)), (5, .int u5_13)]) hx hb dX8_gap_121 hl (k := 4) rfl rfl (by decide) rfl (fun ls hl => ?_)
              refine lv_goto (tgt := 18) hx hb dX8_gap_124 (by decide) ?_
              exact ih I13 J13 (1 : Int32) (if r15 ≤ u2_13 then u2_13 else r15) (u4_13 + 1) _ _ _ h hP hD hS (lv_sub hl [4, 1, 2, 0] rfl)
        · replace h := (if_pos c14).symm.trans h
          refine lv_goto (tgt := 121) hx hb dX8_gap_88 (by decide) ?_
          refine lv_iinc (v := (u4_13 + 1)) (lv' := [(4, .int (u4_13 + 1)), (0, .ref (ad 0)), (1, .int u1_13), (2, .long u2_13), (5, .int u5_13)]) hx hb dX8_gap_121 hl (k := 3) rfl rfl (by decide) rfl (fun ls hl => ?_)
          refine lv_goto (tgt := 18) hx hb dX8_gap_124 (by decide) ?_
          exact ih I13 J13 u1_13 u2_13 (u4_13 + 1) _ _ _ h hP hD hS (lv_sub hl [1, 2, 3, 0] rfl)
  unfold F_X8_gap at h
  refine lv_aload_n hx hb dX8_gap_0 rfl (lv_at hl 0 rfl) ?_
  obtain ⟨⟨r1, I1, J1⟩, hc1, h⟩ := ob h
  dsimp only at h
  refine callWVi (As := []) (rest := []) hC (c_X8_findProof l g ad I J   H.size hc1) lk_X8_240 rfl rfl ⟨Nat.le_of_ble_eq_true rfl, Nat.le_of_ble_eq_true rfl⟩ hP hK hD hA hS mo_0 rfl rfl rfl hl (Nat.le_of_ble_eq_true rfl) dX8_gap_1 (fun H locs hP hD hS => ?_)
  refine lv_if_ge (tgt := 11) hx hb dX8_gap_4 (by decide) (fun c2 => ?_) (fun c2 => ?_)
  · replace h := (if_pos c2).symm.trans h
    refine lv_iconst (v := 0) hx hb dX8_gap_11 (by decide) ?_
    refine lv_istore_n (lv' := [(1, .int (0 : Int32)), (0, .ref (ad 0))]) hx hb dX8_gap_12 rfl hl (by decide) rfl (fun ls hl => ?_)
    refine lv_lconst (v := 0) hx hb dX8_gap_13 (by decide) ?_
    refine lv_lstore_n (lv' := [(2, .long (0 : Int64)), (1, .int (0 : Int32)), (0, .ref (ad 0))]) hx hb dX8_gap_14 rfl hl (by decide) rfl (fun ls hl => ?_)
    refine lv_iconst (v := 0) hx hb dX8_gap_15 (by decide) ?_
    refine lv_istore (lv' := [(4, .int (0 : Int32)), (2, .long (0 : Int64)), (1, .int (0 : Int32)), (0, .ref (ad 0))]) hx hb dX8_gap_16 hl (by decide) rfl (fun ls hl => ?_)
    exact loop_18 3000 I1 J1 (0 : Int32) (0 : Int64) (0 : Int32) _ _ _ h hP hD hS (lv_sub hl [3, 2, 1, 0] rfl)
  · replace h := (if_neg c2).symm.trans h
    refine lv_ldc2 hx hb hown (hts _ kc_X8_243) dX8_gap_7 ?_
    obtain ⟨h1, h⟩ := Prod.mk.inj (Option.some.inj h)
    obtain ⟨rfl, rfl⟩ := Prod.mk.inj h
    exact hret _ _ _ _ _ dX8_gap_10 h1 hP hD hS
def F_X8_half (I : SI) (J : SJ) : Option (Int64 × SI × SJ) := ((F_X8_findProof I J).bind fun (r1, I1, J1) => (if r1 < 0 then (some ((-9 : Int64), I1, J1)) else ((F_X8_isTaken I1 J1 (0 : Int32) (1 : Int32) (2 : Int32)).bind fun (r3, I3, J3) => (if r3 = 0 then (some ((-9 : Int64), I3, J3)) else ((F_X8_ownerBy I3 J3 (0 : Int32) (1 : Int32) (2 : Int32)).bind fun (r5, I5, J5) => (some (((J3 0 28) - r5), I5, J5)))))))
set_option maxHeartbeats 4000000 in
set_option maxRecDepth 100000 in
theorem c_X8_half (l : Launch) (g : Gx) (ad : Nat → Nat) (I : SI) (J : SJ)   (sz : Nat) {r : Int64} {rI : SI} {rJ : SJ} (h : F_X8_half I J = some (r, rI, rJ)) : Met l yX8_half (Cond.code yX8_half cX8_half 1 (some .long) :: BG) (k2_rm 7 169) (PcW [.ref (ad 0)] g (mW ad g I J) sz) (QWl r g (mW ad g I J) (mW ad g rI rJ) sz) 0 0 (va_A (mW ad g I J) sz) := by
  refine mkWl (by decide) (Nat.le_of_ble_eq_true rfl) ?_
  intro p e s m args below meth c H locs ls A Q hC hK hP hD hA hS hl hret
  have hx := hC.1
  have hb := hC.2.1
  have hts := hC.2.2.2.2
  have hown := hC.2.2.2.1
  replace hl : lv_has ls 1 [(0, .ref (ad 0))] := hl
  unfold F_X8_half at h
  refine lv_aload_n hx hb dX8_half_0 rfl (lv_at hl 0 rfl) ?_
  obtain ⟨⟨r1, I1, J1⟩, hc1, h⟩ := ob h
  dsimp only at h
  refine callWVi (As := []) (rest := []) hC (c_X8_findProof l g ad I J   H.size hc1) lk_X8_240 rfl rfl ⟨Nat.le_of_ble_eq_true rfl, Nat.le_of_ble_eq_true rfl⟩ hP hK hD hA hS mo_0 rfl rfl rfl hl (Nat.le_of_ble_eq_true rfl) dX8_half_1 (fun H locs hP hD hS => ?_)
  refine lv_if_lt (tgt := 17) hx hb dX8_half_4 (by decide) (fun c2 => ?_) (fun c2 => ?_)
  · replace h := (if_pos c2).symm.trans h
    refine lv_ldc2 hx hb hown (hts _ kc_X8_243) dX8_half_17 ?_
    obtain ⟨h1, h⟩ := Prod.mk.inj (Option.some.inj h)
    obtain ⟨rfl, rfl⟩ := Prod.mk.inj h
    exact hret _ _ _ _ _ dX8_half_20 h1 hP hD hS
  · replace h := (if_neg c2).symm.trans h
    refine lv_aload_n hx hb dX8_half_7 rfl (lv_at hl 0 rfl) ?_
    refine lv_iconst (v := 0) hx hb dX8_half_8 (by decide) ?_
    refine lv_iconst (v := 1) hx hb dX8_half_9 (by decide) ?_
    refine lv_iconst (v := 2) hx hb dX8_half_10 (by decide) ?_
    obtain ⟨⟨r3, I3, J3⟩, hc3, h⟩ := ob h
    dsimp only at h
    refine callWVi (As := [.int (0 : Int32), .int (1 : Int32), .int (2 : Int32)]) (rest := []) hC (c_X8_isTaken l g ad I1 J1 (0 : Int32) (1 : Int32) (2 : Int32)  H.size hc3) lk_X8_230 rfl rfl ⟨Nat.le_of_ble_eq_true rfl, Nat.le_of_ble_eq_true rfl⟩ hP hK hD hA hS mo_0 rfl rfl rfl hl (Nat.le_of_ble_eq_true rfl) dX8_half_11 (fun H locs hP hD hS => ?_)
    refine lv_if_ne (tgt := 21) hx hb dX8_half_14 (by decide) (fun c4 => ?_) (fun c4 => ?_)
    · replace h := (if_neg c4).symm.trans h
      refine lv_aload_n hx hb dX8_half_21 rfl (lv_at hl 0 rfl) ?_
      refine gt_X8_236 hC hK hP dX8_half_22 ?_
      refine lv_aload_n hx hb dX8_half_25 rfl (lv_at hl 0 rfl) ?_
      refine lv_iconst (v := 0) hx hb dX8_half_26 (by decide) ?_
      refine lv_iconst (v := 1) hx hb dX8_half_27 (by decide) ?_
      refine lv_iconst (v := 2) hx hb dX8_half_28 (by decide) ?_
      obtain ⟨⟨r5, I5, J5⟩, hc5, h⟩ := ob h
      dsimp only at h
      refine callWVl (As := [.int (0 : Int32), .int (1 : Int32), .int (2 : Int32)]) (rest := [.long (J3 0 28)]) hC (c_X8_ownerBy l g ad I3 J3 (0 : Int32) (1 : Int32) (2 : Int32)  H.size hc5) lk_X8_233 rfl rfl ⟨Nat.le_of_ble_eq_true rfl, Nat.le_of_ble_eq_true rfl⟩ hP hK hD hA hS mo_0 rfl rfl rfl hl (Nat.le_of_ble_eq_true rfl) dX8_half_29 (fun H locs hP hD hS => ?_)
      refine lv_lsub hx hb dX8_half_32 ?_
      obtain ⟨h1, h⟩ := Prod.mk.inj (Option.some.inj h)
      obtain ⟨rfl, rfl⟩ := Prod.mk.inj h
      exact hret _ _ _ _ _ dX8_half_33 h1 hP hD hS
    · replace h := (if_pos c4).symm.trans h
      refine lv_ldc2 hx hb hown (hts _ kc_X8_243) dX8_half_17 ?_
      obtain ⟨h1, h⟩ := Prod.mk.inj (Option.some.inj h)
      obtain ⟨rfl, rfl⟩ := Prod.mk.inj h
      exact hret _ _ _ _ _ dX8_half_20 h1 hP hD hS
def FL_X8_worthSaying_27  : Nat → SI → SJ → Int32 → Int32 → Int32 → Int32 → Int64 → Int32 → Int32 → Option (Int64)
  | 0, _, _, _, _, _, _, _, _, _ => none
  | n + 1, I, J, w1_27, w2_27, w3_27, w4_27, w5_27, w7_27, w8_27 => ((F_X8_allWeathers I J).bind fun r3 => (if r3 ≤ w8_27 then (some w5_27) else ((F_X8_reaped I J w1_27 w8_27).bind fun r5 => ((F_X8_shareOf I J (if w2_27 ≤ r5 then (r5 - w2_27) else (0 : Int32)) (0 : Int32)).bind fun r8 => ((F_X8_mindOf I J (0 : Int32) (((r8 + r5) - (if w2_27 ≤ r5 then (r5 - w2_27) else (0 : Int32))) - w7_27)).bind fun r9 => (if r5 ≤ (if w2_27 ≤ r5 then (r5 - w2_27) else (0 : Int32)) then ((F_X8_chanceOf I J w8_27).bind fun r11 => (FL_X8_worthSaying_27 n I J w1_27 w2_27 w3_27 w4_27 (w5_27 + ((Int32.toInt64 r11) * ((100 : Int64) * (Int32.toInt64 r9)))) w7_27 (w8_27 + 1))) else ((F_X8_mindOf I J (0 : Int32) ((-w4_27) - w7_27)).bind fun r12 => ((F_X8_chanceOf I J w8_27).bind fun r13 => (FL_X8_worthSaying_27 n I J w1_27 w2_27 w3_27 w4_27 (w5_27 + ((Int32.toInt64 r13) * (((Int32.toInt64 ((100 : Int32) - w3_27)) * (Int32.toInt64 r9)) + ((Int32.toInt64 w3_27) * (Int32.toInt64 r12))))) w7_27 (w8_27 + 1))))))))))
def F_X8_worthSaying (I : SI) (J : SJ) (v1 : Int32) (v2 : Int32) (v3 : Int32) (v4 : Int32) : Option (Int64) := (if (I 2 (Int32.toNatClampNeg (3 : Int32))) = 0 then (FL_X8_worthSaying_27 3000 I J v1 v2 v3 v4 (0 : Int64) (I 2 (Int32.toNatClampNeg (2 : Int32))) (0 : Int32)) else (FL_X8_worthSaying_27 3000 I J v1 v2 v3 v4 (0 : Int64) (0 : Int32) (0 : Int32)))
set_option maxHeartbeats 4000000 in
set_option maxRecDepth 100000 in
theorem c_X8_worthSaying (l : Launch) (g : Gx) (ad : Nat → Nat) (I : SI) (J : SJ) (v1 : Int32) (v2 : Int32) (v3 : Int32) (v4 : Int32)  {r : Int64} (h : F_X8_worthSaying I J v1 v2 v3 v4 = some r) : Met l yX8_worthSaying (Cond.code yX8_worthSaying cX8_worthSaying 15 (some .long) :: BG) (k2_rm 2 45) (va_Pc [.ref (ad 0), .int v1, .int v2, .int v3, .int v4] (fun U => Pg g (mW ad g I J) U.heap ∧ Kg g U)) (k2_QcV (.long r)) 0 0 (fun _ => False) := by
  refine mkRl (by decide) (Nat.le_of_ble_eq_true rfl) ?_
  intro p e s m args below meth c H locs ls Q hC hK hP hl hret
  have hx := hC.1
  have hb := hC.2.1
  have hts := hC.2.2.2.2
  have hown := hC.2.2.2.1
  replace hl : lv_has ls 15 [(0, .ref (ad 0)), (1, .int v1), (2, .int v2), (3, .int v3), (4, .int v4)] := hl
  have loop_27 : ∀ (n : Nat) (w1_27 : Int32) (w2_27 : Int32) (w3_27 : Int32) (w4_27 : Int32) (w5_27 : Int64) (w7_27 : Int32) (w8_27 : Int32)  (ls : Array Slot), FL_X8_worthSaying_27 n I J w1_27 w2_27 w3_27 w4_27 w5_27 w7_27 w8_27 = some r → lv_has ls 15 [(0, .ref (ad 0)), (1, .int w1_27), (2, .int w2_27), (3, .int w3_27), (4, .int w4_27), (5, .long w5_27), (7, .int w7_27), (8, .int w8_27)] → W p l e (k2_rm 2 45) s m args below meth c H locs 0 0 Q (F0 m 27 ls []) := by
    intro n
    induction n with
    | zero =>
      intro w1_27 w2_27 w3_27 w4_27 w5_27 w7_27 w8_27 ls h
      exact no h
    | succ n ih =>
      intro w1_27 w2_27 w3_27 w4_27 w5_27 w7_27 w8_27 ls h hl
      rw [FL_X8_worthSaying_27] at h
      refine lv_iload hx hb dX8_worthSaying_27 (lv_at hl 7 rfl) ?_
      refine lv_aload_n hx hb dX8_worthSaying_29 rfl (lv_at hl 0 rfl) ?_
      obtain ⟨r3, hc3, h⟩ := ob h
      refine callRV (As := []) (rest := [.int w8_27]) hC (c_X8_allWeathers l g ad I J   hc3) lk_X8_158 rfl rfl ⟨Nat.le_of_ble_eq_true rfl, Nat.le_of_ble_eq_true rfl⟩ hP hK mo_0 rfl rfl rfl hl (Nat.le_of_ble_eq_true rfl) dX8_worthSaying_30 ?_
      refine lv_icmp_ge (tgt := 147) hx hb dX8_worthSaying_33 (by decide) (fun c4 => ?_) (fun c4 => ?_)
      · replace h := (if_pos c4).symm.trans h
        refine lv_lload hx hb dX8_worthSaying_147 (lv_at hl 5 rfl) ?_
        exact hret _ _ _ dX8_worthSaying_149 (Option.some.inj h)
      · replace h := (if_neg c4).symm.trans h
        refine lv_aload_n hx hb dX8_worthSaying_36 rfl (lv_at hl 0 rfl) ?_
        refine lv_iload_n hx hb dX8_worthSaying_37 rfl (lv_at hl 1 rfl) ?_
        refine lv_iload hx hb dX8_worthSaying_38 (lv_at hl 7 rfl) ?_
        obtain ⟨r5, hc5, h⟩ := ob h
        refine callRV (As := [.int w1_27, .int w8_27]) (rest := []) hC (c_X8_reaped l g ad I J w1_27 w8_27  hc5) lk_X8_188 rfl rfl ⟨Nat.le_of_ble_eq_true rfl, Nat.le_of_ble_eq_true rfl⟩ hP hK mo_0 rfl rfl rfl hl (Nat.le_of_ble_eq_true rfl) dX8_worthSaying_40 ?_
        refine lv_istore (lv' := [(9, .int r5), (0, .ref (ad 0)), (1, .int w1_27), (2, .int w2_27), (3, .int w3_27), (4, .int w4_27), (5, .long w5_27), (7, .int w7_27), (8, .int w8_27)]) hx hb dX8_worthSaying_43 hl (by decide) rfl (fun ls hl => ?_)
        refine lv_iload hx hb dX8_worthSaying_45 (lv_at hl 0 rfl) ?_
        refine lv_iload_n hx hb dX8_worthSaying_47 rfl (lv_at hl 3 rfl) ?_
        refine tern (α := Int32) (cnd := w2_27 ≤ r5) (a := (r5 - w2_27)) (b := (0 : Int32)) (Wj := fun vj => W p l e (k2_rm 2 45) s m args below meth c H locs 0 0 Q (F0 m 59 ls [.int vj])) (fun k7a k7b => ?_) ?_
        · refine lv_icmp_ge (tgt := 55) hx hb dX8_worthSaying_48 (by decide) (fun c6 => ?_) (fun c6 => ?_)
          · refine lv_iload hx hb dX8_worthSaying_55 (lv_at hl 0 rfl) ?_
            refine lv_iload_n hx hb dX8_worthSaying_57 rfl (lv_at hl 3 rfl) ?_
            refine lv_isub hx hb dX8_worthSaying_58 ?_
            exact k7a c6
          · refine lv_iconst (v := 0) hx hb dX8_worthSaying_51 (by decide) ?_
            refine lv_goto (tgt := 59) hx hb dX8_worthSaying_52 (by decide) ?_
            exact k7b c6
        · show W p l e (k2_rm 2 45) s m args below meth c H locs 0 0 Q (F0 m 59 ls [.int (if w2_27 ≤ r5 then (r5 - w2_27) else (0 : Int32))])
          refine lv_istore (lv' := [(10, .int (if w2_27 ≤ r5 then (r5 - w2_27) else (0 : Int32))), (9, .int r5), (0, .ref (ad 0)), (1, .int w1_27), (2, .int w2_27), (3, .int w3_27), (4, .int w4_27), (5, .long w5_27), (7, .int w7_27), (8, .int w8_27)]) hx hb dX8_worthSaying_59 hl (by decide) rfl (fun ls hl => ?_)
          refine lv_aload_n hx hb dX8_worthSaying_61 rfl (lv_at hl 2 rfl) ?_
          refine lv_iconst (v := 0) hx hb dX8_worthSaying_62 (by decide) ?_
          refine lv_aload_n hx hb dX8_worthSaying_63 rfl (lv_at hl 2 rfl) ?_
          refine lv_iload hx hb dX8_worthSaying_64 (lv_at hl 0 rfl) ?_
          refine lv_iconst (v := 0) hx hb dX8_worthSaying_66 (by decide) ?_
          obtain ⟨r8, hc8, h⟩ := ob h
          refine callRV (As := [.int (if w2_27 ≤ r5 then (r5 - w2_27) else (0 : Int32)), .int (0 : Int32)]) (rest := [.int (0 : Int32), .ref (ad 0)]) hC (c_X8_shareOf l g ad I J (if w2_27 ≤ r5 then (r5 - w2_27) else (0 : Int32)) (0 : Int32)  hc8) lk_X8_185 rfl rfl ⟨Nat.le_of_ble_eq_true rfl, Nat.le_of_ble_eq_true rfl⟩ hP hK mo_0 rfl rfl rfl hl (Nat.le_of_ble_eq_true rfl) dX8_worthSaying_67 ?_
          refine lv_iload hx hb dX8_worthSaying_70 (lv_at hl 1 rfl) ?_
          refine lv_iadd hx hb dX8_worthSaying_72 ?_
          refine lv_iload hx hb dX8_worthSaying_73 (lv_at hl 0 rfl) ?_
          refine lv_isub hx hb dX8_worthSaying_75 ?_
          refine lv_iload hx hb dX8_worthSaying_76 (lv_at hl 8 rfl) ?_
          refine lv_isub hx hb dX8_worthSaying_78 ?_
          obtain ⟨r9, hc9, h⟩ := ob h
          refine callRV (As := [.int (0 : Int32), .int (((r8 + r5) - (if w2_27 ≤ r5 then (r5 - w2_27) else (0 : Int32))) - w7_27)]) (rest := []) hC (c_X8_mindOf l g ad I J (0 : Int32) (((r8 + r5) - (if w2_27 ≤ r5 then (r5 - w2_27) else (0 : Int32))) - w7_27)  hc9) lk_X8_194 rfl rfl ⟨Nat.le_of_ble_eq_true rfl, Nat.le_of_ble_eq_true rfl⟩ hP hK mo_0 rfl rfl rfl hl (Nat.le_of_ble_eq_true rfl) dX8_worthSaying_79 ?_
          refine lv_i2l hx hb dX8_worthSaying_82 rfl ?_
          refine lv_lstore (lv' := [(11, .long (Int32.toInt64 r9)), (10, .int (if w2_27 ≤ r5 then (r5 - w2_27) else (0 : Int32))), (9, .int r5), (0, .ref (ad 0)), (1, .int w1_27), (2, .int w2_27), (3, .int w3_27), (4, .int w4_27), (5, .long w5_27), (7, .int w7_27), (8, .int w8_27)]) hx hb dX8_worthSaying_83 hl (by decide) rfl (fun ls hl => ?_)
          refine lv_ldc2 hx hb hown (hts _ kc_X8_245) dX8_worthSaying_85 ?_
          refine lv_lload hx hb dX8_worthSaying_88 (lv_at hl 0 rfl) ?_
          refine lv_lmul hx hb dX8_worthSaying_90 ?_
          refine lv_lstore (lv' := [(13, .long ((100 : Int64) * (Int32.toInt64 r9))), (11, .long (Int32.toInt64 r9)), (10, .int (if w2_27 ≤ r5 then (r5 - w2_27) else (0 : Int32))), (9, .int r5), (0, .ref (ad 0)), (1, .int w1_27), (2, .int w2_27), (3, .int w3_27), (4, .int w4_27), (5, .long w5_27), (7, .int w7_27), (8, .int w8_27)]) hx hb dX8_worthSaying_91 hl (by decide) rfl (fun ls hl => ?_)
          refine lv_iload hx hb dX8_worthSaying_93 (lv_at hl 2 rfl) ?_
          refine lv_iload hx hb dX8_worthSaying_95 (lv_at hl 3 rfl) ?_
          refine lv_icmp_ge (tgt := 126) hx hb dX8_worthSaying_97 (by decide) (fun c10 => ?_) (fun c10 => ?_)
          · replace h := (if_pos c10).symm.trans h
            refine lv_lload hx hb dX8_worthSaying_126 (lv_at hl 9 rfl) ?_
            refine lv_aload_n hx hb dX8_worthSaying_128 rfl (lv_at hl 4 rfl) ?_
            refine lv_iload hx hb dX8_worthSaying_129 (lv_at hl 11 rfl) ?_
            obtain ⟨r11, hc11, h⟩ := ob h
            refine callRV (As := [.int w8_27]) (rest := [.long w5_27]) hC (c_X8_chanceOf l g ad I J w8_27  hc11) lk_X8_161 rfl rfl ⟨Nat.le_of_ble_eq_true rfl, Nat.le_of_ble_eq_true rfl⟩ hP hK mo_0 rfl rfl rfl hl (Nat.le_of_ble_eq_true rfl) dX8_worthSaying_131 ?_
            refine lv_i2l hx hb dX8_worthSaying_134 rfl ?_
            refine lv_lload hx hb dX8_worthSaying_135 (lv_at hl 0 rfl) ?_
            refine lv_lmul hx hb dX8_worthSaying_137 ?_
            refine lv_ladd hx hb dX8_worthSaying_138 ?_
            refine lv_lstore (lv' := [(5, .long (w5_27 + ((Int32.toInt64 r11) * ((100 : Int64) * (Int32.toInt64 r9))))), (13, .long ((100 : Int64) * (Int32.toInt64 r9))), (11, .long (Int32.toInt64 r9)), (10, .int (if w2_27 ≤ r5 then (r5 - w2_27) else (0 : Int32))), (9, .int r5), (0, .ref (ad 0)), (1, .int w1_27), (2, .int w2_27), (3, .int w3_27), (4, .int w4_27), (7, .int w7_27), (8, .int w8_27)]) hx hb dX8_worthSaying_139 hl (by decide) rfl (fun ls hl => ?_)
            refine lv_iinc (v := (w8_27 + 1)) (lv' := [(8, .int (w8_27 + 1)), (5, .long (w5_27 + ((Int32.toInt64 r11) * ((100 : Int64) * (Int32.toInt64 r9))))), (13, .long ((100 : Int64) * (Int32.toInt64 r9))), (11, .long (Int32.toInt64 r9)), (10, .int (if w2_27 ≤ r5 then (r5 - w2_27) else (0 : Int32))), (9, .int r5), (0, .ref (ad 0)), (1, .int w1_27), (2, .int w2_27), (3, .int w3_27), (4, .int w4_27), (7, .int w7_27)]) hx hb dX8_worthSaying_141 hl (k := 11) rfl rfl (by decide) rfl (fun ls hl => ?_)
            refine lv_goto (tgt := 27) hx hb dX8_worthSaying_144 (by decide) ?_
            exact ih w1_27 w2_27 w3_27 w4_27 (w5_27 + ((Int32.toInt64 r11) * ((100 : Int64) * (Int32.toInt64 r9)))) w7_27 (w8_27 + 1) _ h (lv_sub hl [6, 7, 8, 9, 10, 1, 11, 0] rfl)
          · replace h := (if_neg c10).symm.trans h
            refine lv_bipush (v := 100) hx hb dX8_worthSaying_100 (by decide) ?_
            refine lv_iload_n hx hb dX8_worthSaying_102 rfl (lv_at hl 7 rfl) ?_
            refine lv_isub hx hb dX8_worthSaying_103 ?_
            refine lv_i2l hx hb dX8_worthSaying_104 rfl ?_
            refine lv_lload hx hb dX8_worthSaying_105 (lv_at hl 1 rfl) ?_
            refine lv_lmul hx hb dX8_worthSaying_107 ?_
            refine lv_iload_n hx hb dX8_worthSaying_108 rfl (lv_at hl 7 rfl) ?_
            refine lv_i2l hx hb dX8_worthSaying_109 rfl ?_
            refine lv_aload_n hx hb dX8_worthSaying_110 rfl (lv_at hl 4 rfl) ?_
            refine lv_iconst (v := 0) hx hb dX8_worthSaying_111 (by decide) ?_
            refine lv_iload hx hb dX8_worthSaying_112 (lv_at hl 8 rfl) ?_
            refine lv_ineg hx hb dX8_worthSaying_114 ?_
            refine lv_iload hx hb dX8_worthSaying_115 (lv_at hl 10 rfl) ?_
            refine lv_isub hx hb dX8_worthSaying_117 ?_
            obtain ⟨r12, hc12, h⟩ := ob h
            refine callRV (As := [.int (0 : Int32), .int ((-w4_27) - w7_27)]) (rest := [.long (Int32.toInt64 w3_27), .long ((Int32.toInt64 ((100 : Int32) - w3_27)) * (Int32.toInt64 r9))]) hC (c_X8_mindOf l g ad I J (0 : Int32) ((-w4_27) - w7_27)  hc12) lk_X8_194 rfl rfl ⟨Nat.le_of_ble_eq_true rfl, Nat.le_of_ble_eq_true rfl⟩ hP hK mo_0 rfl rfl rfl hl (Nat.le_of_ble_eq_true rfl) dX8_worthSaying_118 ?_
            refine lv_i2l hx hb dX8_worthSaying_121 rfl ?_
            refine lv_lmul hx hb dX8_worthSaying_122 ?_
            refine lv_ladd hx hb dX8_worthSaying_123 ?_
            refine lv_lstore (lv' := [(13, .long (((Int32.toInt64 ((100 : Int32) - w3_27)) * (Int32.toInt64 r9)) + ((Int32.toInt64 w3_27) * (Int32.toInt64 r12)))), (11, .long (Int32.toInt64 r9)), (10, .int (if w2_27 ≤ r5 then (r5 - w2_27) else (0 : Int32))), (9, .int r5), (0, .ref (ad 0)), (1, .int w1_27), (2, .int w2_27), (3, .int w3_27), (4, .int w4_27), (5, .long w5_27), (7, .int w7_27), (8, .int w8_27)]) hx hb dX8_worthSaying_124 hl (by decide) rfl (fun ls hl => ?_)
            refine lv_lload hx hb dX8_worthSaying_126 (lv_at hl 9 rfl) ?_
            refine lv_aload_n hx hb dX8_worthSaying_128 rfl (lv_at hl 4 rfl) ?_
            refine lv_iload hx hb dX8_worthSaying_129 (lv_at hl 11 rfl) ?_
            obtain ⟨r13, hc13, h⟩ := ob h
            refine callRV (As := [.int w8_27]) (rest := [.long w5_27]) hC (c_X8_chanceOf l g ad I J w8_27  hc13) lk_X8_161 rfl rfl ⟨Nat.le_of_ble_eq_true rfl, Nat.le_of_ble_eq_true rfl⟩ hP hK mo_0 rfl rfl rfl hl (Nat.le_of_ble_eq_true rfl) dX8_worthSaying_131 ?_
            refine lv_i2l hx hb dX8_worthSaying_134 rfl ?_
            refine lv_lload hx hb dX8_worthSaying_135 (lv_at hl 0 rfl) ?_
            refine lv_lmul hx hb dX8_worthSaying_137 ?_
            refine lv_ladd hx hb dX8_worthSaying_138 ?_
            refine lv_lstore (lv' := [(5, .long (w5_27 + ((Int32.toInt64 r13) * (((Int32.toInt64 ((100 : Int32) - w3_27)) * (Int32.toInt64 r9)) + ((Int32.toInt64 w3_27) * (Int32.toInt64 r12)))))), (13, .long (((Int32.toInt64 ((100 : Int32) - w3_27)) * (Int32.toInt64 r9)) + ((Int32.toInt64 w3_27) * (Int32.toInt64 r12)))), (11, .long (Int32.toInt64 r9)), (10, .int (if w2_27 ≤ r5 then (r5 - w2_27) else (0 : Int32))), (9, .int r5), (0, .ref (ad 0)), (1, .int w1_27), (2, .int w2_27), (3, .int w3_27), (4, .int w4_27), (7, .int w7_27), (8, .int w8_27)]) hx hb dX8_worthSaying_139 hl (by decide) rfl (fun ls hl => ?_)
            refine lv_iinc (v := (w8_27 + 1)) (lv' := [(8, .int (w8_27 + 1)), (5, .long (w5_27 + ((Int32.toInt64 r13) * (((Int32.toInt64 ((100 : Int32) - w3_27)) * (Int32.toInt64 r9)) + ((Int32.toInt64 w3_27) * (Int32.toInt64 r12)))))), (13, .long (((Int32.toInt64 ((100 : Int32) - w3_27)) * (Int32.toInt64 r9)) + ((Int32.toInt64 w3_27) * (Int32.toInt64 r12)))), (11, .long (Int32.toInt64 r9)), (10, .int (if w2_27 ≤ r5 then (r5 - w2_27) else (0 : Int32))), (9, .int r5), (0, .ref (ad 0)), (1, .int w1_27), (2, .int w2_27), (3, .int w3_27), (4, .int w4_27), (7, .int w7_27)]) hx hb dX8_worthSaying_141 hl (k := 11) rfl rfl (by decide) rfl (fun ls hl => ?_)
            refine lv_goto (tgt := 27) hx hb dX8_worthSaying_144 (by decide) ?_
            exact ih w1_27 w2_27 w3_27 w4_27 (w5_27 + ((Int32.toInt64 r13) * (((Int32.toInt64 ((100 : Int32) - w3_27)) * (Int32.toInt64 r9)) + ((Int32.toInt64 w3_27) * (Int32.toInt64 r12))))) w7_27 (w8_27 + 1) _ h (lv_sub hl [6, 7, 8, 9, 10, 1, 11, 0] rfl)
  unfold F_X8_worthSaying at h
  refine lv_lconst (v := 0) hx hb dX8_worthSaying_0 (by decide) ?_
  refine lv_lstore (lv' := [(5, .long (0 : Int64)), (0, .ref (ad 0)), (1, .int v1), (2, .int v2), (3, .int v3), (4, .int v4)]) hx hb dX8_worthSaying_1 hl (by decide) rfl (fun ls hl => ?_)
  refine lv_aload_n hx hb dX8_worthSaying_3 rfl (lv_at hl 1 rfl) ?_
  refine gt_X8_13 hC hK hP dX8_worthSaying_4 ?_
  refine lv_iconst (v := 3) hx hb dX8_worthSaying_7 (by decide) ?_
  refine al_m2 hC hK hP (gin_ok (by decide)) dX8_worthSaying_8 ?_
  refine lv_if_ne (tgt := 21) hx hb dX8_worthSaying_9 (by decide) (fun c2 => ?_) (fun c2 => ?_)
  · replace h := (if_neg c2).symm.trans h
    refine lv_iconst (v := 0) hx hb dX8_worthSaying_21 (by decide) ?_
    refine lv_istore (lv' := [(7, .int (0 : Int32)), (5, .long (0 : Int64)), (0, .ref (ad 0)), (1, .int v1), (2, .int v2), (3, .int v3), (4, .int v4)]) hx hb dX8_worthSaying_22 hl (by decide) rfl (fun ls hl => ?_)
    refine lv_iconst (v := 0) hx hb dX8_worthSaying_24 (by decide) ?_
    refine lv_istore (lv' := [(8, .int (0 : Int32)), (7, .int (0 : Int32)), (5, .long (0 : Int64)), (0, .ref (ad 0)), (1, .int v1), (2, .int v2), (3, .int v3), (4, .int v4)]) hx hb dX8_worthSaying_25 hl (by decide) rfl (fun ls hl => ?_)
    exact loop_27 3000 v1 v2 v3 v4 (0 : Int64) (0 : Int32) (0 : Int32) _ h (lv_sub hl [3, 4, 5, 6, 7, 2, 1, 0] rfl)
  · replace h := (if_pos c2).symm.trans h
    refine lv_aload_n hx hb dX8_worthSaying_12 rfl (lv_at hl 1 rfl) ?_
    refine gt_X8_13 hC hK hP dX8_worthSaying_13 ?_
    refine lv_iconst (v := 2) hx hb dX8_worthSaying_16 (by decide) ?_
    refine al_m2 hC hK hP (gin_ok (by decide)) dX8_worthSaying_17 ?_
    refine lv_goto (tgt := 22) hx hb dX8_worthSaying_18 (by decide) ?_
    refine lv_istore (lv' := [(7, .int (I 2 (Int32.toNatClampNeg (2 : Int32)))), (5, .long (0 : Int64)), (0, .ref (ad 0)), (1, .int v1), (2, .int v2), (3, .int v3), (4, .int v4)]) hx hb dX8_worthSaying_22 hl (by decide) rfl (fun ls hl => ?_)
    refine lv_iconst (v := 0) hx hb dX8_worthSaying_24 (by decide) ?_
    refine lv_istore (lv' := [(8, .int (0 : Int32)), (7, .int (I 2 (Int32.toNatClampNeg (2 : Int32)))), (5, .long (0 : Int64)), (0, .ref (ad 0)), (1, .int v1), (2, .int v2), (3, .int v3), (4, .int v4)]) hx hb dX8_worthSaying_25 hl (by decide) rfl (fun ls hl => ?_)
    exact loop_27 3000 v1 v2 v3 v4 (0 : Int64) (I 2 (Int32.toNatClampNeg (2 : Int32))) (0 : Int32) _ h (lv_sub hl [3, 4, 5, 6, 7, 2, 1, 0] rfl)
