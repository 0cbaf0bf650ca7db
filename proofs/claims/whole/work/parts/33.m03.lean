def FL_X6_number_4  : Nat → SI → SJ → Int32 → Int32 → Option (Int32 × SI × SJ)
  | 0, _, _, _, _ => none
  | n + 1, I, J, w1_4, w2_4 => (if (3 : Int32) ≤ w2_4 then (some (w1_4, I, J)) else (if w1_4 = 0 then (some (w1_4, I, J)) else ((F_X6_here I J).bind fun r3 => (if r3 < (48 : Int32) then (some (w1_4, I, J)) else ((F_X6_here I J).bind fun r5 => (if (57 : Int32) < r5 then (some (w1_4, I, J)) else ((F_X6_here I J).bind fun r7 => (FL_X6_number_4 n (u2 I 45 2 ((I 45 2) + (1 : Int32))) J ((((10 : Int32) * (if w1_4 < (0 : Int32) then (0 : Int32) else w1_4)) + r7) - (48 : Int32)) (w2_4 + 1)))))))))
def F_X6_number (I : SI) (J : SJ) : Option (Int32 × SI × SJ) := (FL_X6_number_4 3000 I J (-1 : Int32) (0 : Int32))
set_option maxHeartbeats 4000000 in
set_option maxRecDepth 100000 in
theorem c_X6_number (l : Launch) (g : Gx) (ad : Nat → Nat) (I : SI) (J : SJ)   (sz : Nat) {r : Int32} {rI : SI} {rJ : SJ} (h : F_X6_number I J = some (r, rI, rJ)) : Met l yX6_number (Cond.code yX6_number cX6_number 3 (some .int) :: BG) (k2_rm 2 41) (PcW [.ref (ad 45)] g (xW ad g I J) sz) (QWi r g (xW ad g I J) (xW ad g rI rJ) sz) 0 0 (va_A (xW ad g I J) sz) := by
  refine mkWi (by decide) (Nat.le_of_ble_eq_true rfl) ?_
  intro p e s m args below meth c H locs ls A Q hC hK hP hD hA hS hl hret
  have hx := hC.1
  have hb := hC.2.1
  have hts := hC.2.2.2.2
  have hown := hC.2.2.2.1
  replace hl : lv_has ls 3 [(0, .ref (ad 45))] := hl
  have loop_4 : ∀ (n : Nat) (I : SI) (J : SJ) (w1_4 : Int32) (w2_4 : Int32)  (H : Heap) (locs : List Loc) (ls : Array Slot), FL_X6_number_4 n I J w1_4 w2_4 = some (r, rI, rJ) → Pg g (xW ad g I J) H → va_D A (xW ad g I J) → va_S A s.heap H locs → lv_has ls 3 [(0, .ref (ad 45)), (1, .int w1_4), (2, .int w2_4)] → W p l e (k2_rm 2 41) s m args below meth c H locs 0 0 Q (F0 m 4 ls []) := by
    intro n
    induction n with
    | zero =>
      intro I J w1_4 w2_4 H locs ls h
      exact no h
    | succ n ih =>
      intro I J w1_4 w2_4 H locs ls h hP hD hS hl
      rw [FL_X6_number_4] at h
      refine lv_iload_n hx hb dX6_number_4 rfl (lv_at hl 2 rfl) ?_
      refine lv_iconst (v := 3) hx hb dX6_number_5 (by decide) ?_
      refine lv_icmp_ge (tgt := 64) hx hb dX6_number_6 (by decide) (fun c1 => ?_) (fun c1 => ?_)
      · replace h := (if_pos c1).symm.trans h
        refine lv_iload_n hx hb dX6_number_64 rfl (lv_at hl 1 rfl) ?_
        obtain ⟨h1, h⟩ := Prod.mk.inj (Option.some.inj h)
        obtain ⟨rfl, rfl⟩ := Prod.mk.inj h
        exact hret _ _ _ _ _ dX6_number_65 h1 hP hD hS
      · replace h := (if_neg c1).symm.trans h
        refine lv_iload_n hx hb dX6_number_9 rfl (lv_at hl 1 rfl) ?_
        refine lv_if_eq (tgt := 64) hx hb dX6_number_10 (by decide) (fun c2 => ?_) (fun c2 => ?_)
        · replace h := (if_pos c2).symm.trans h
          refine lv_iload_n hx hb dX6_number_64 rfl (lv_at hl 1 rfl) ?_
          obtain ⟨h1, h⟩ := Prod.mk.inj (Option.some.inj h)
          obtain ⟨rfl, rfl⟩ := Prod.mk.inj h
          exact hret _ _ _ _ _ dX6_number_65 h1 hP hD hS
        · replace h := (if_neg c2).symm.trans h
          refine lv_aload_n hx hb dX6_number_13 rfl (lv_at hl 0 rfl) ?_
          obtain ⟨r3, hc3, h⟩ := ob h
          refine callRV (As := []) (rest := []) hC (c_X6_here l g ad I J   hc3) lk_X6_32 rfl rfl ⟨Nat.le_of_ble_eq_true rfl, Nat.le_of_ble_eq_true rfl⟩ hP hK xo_45 rfl rfl rfl hl (Nat.le_of_ble_eq_true rfl) dX6_number_14 ?_
          refine lv_bipush (v := 48) hx hb dX6_number_17 (by decide) ?_
          refine lv_icmp_lt (tgt := 64) hx hb dX6_number_19 (by decide) (fun c4 => ?_) (fun c4 => ?_)
          · replace h := (if_pos c4).symm.trans h
            refine lv_iload_n hx hb dX6_number_64 rfl (lv_at hl 1 rfl) ?_
            obtain ⟨h1, h⟩ := Prod.mk.inj (Option.some.inj h)
            obtain ⟨rfl, rfl⟩ := Prod.mk.inj h
            exact hret _ _ _ _ _ dX6_number_65 h1 hP hD hS
          · replace h := (if_neg c4).symm.trans h
            refine lv_aload_n hx hb dX6_number_22 rfl (lv_at hl 0 rfl) ?_
            obtain ⟨r5, hc5, h⟩ := ob h
            refine callRV (As := []) (rest := []) hC (c_X6_here l g ad I J   hc5) lk_X6_32 rfl rfl ⟨Nat.le_of_ble_eq_true rfl, Nat.le_of_ble_eq_true rfl⟩ hP hK xo_45 rfl rfl rfl hl (Nat.le_of_ble_eq_true rfl) dX6_number_23 ?_
            refine lv_bipush (v := 57) hx hb dX6_number_26 (by decide) ?_
            refine lv_icmp_gt (tgt := 64) hx hb dX6_number_28 (by decide) (fun c6 => ?_) (fun c6 => ?_)
            · replace h := (if_pos c6).symm.trans h
              refine lv_iload_n hx hb dX6_number_64 rfl (lv_at hl 1 rfl) ?_
              obtain ⟨h1, h⟩ := Prod.mk.inj (Option.some.inj h)
              obtain ⟨rfl, rfl⟩ := Prod.mk.inj h
              exact hret _ _ _ _ _ dX6_number_65 h1 hP hD hS
            · replace h := (if_neg c6).symm.trans h
              refine lv_bipush (v := 10) hx hb dX6_number_31 (by decide) ?_
              refine lv_iload_n hx hb dX6_number_33 rfl (lv_at hl 1 rfl) ?_
              refine lv_iconst (v := 0) hx hb dX6_number_34 (by decide) ?_
              refine va_mmax hx hb (hC.2.2.1.trans hl.1.symm) hown (hts _ ml_X6_36) (hts _ sm_maxI) (hts _ ini_math) (hts _ cd_maxI) (Nat.le_of_ble_eq_true rfl) (Nat.le_of_ble_eq_true rfl) (Nat.zero_le _) (Nat.zero_le _) dX6_number_35 ?_
              refine lv_imul hx hb dX6_number_38 ?_
              refine lv_aload_n hx hb dX6_number_39 rfl (lv_at hl 0 rfl) ?_
              obtain ⟨r7, hc7, h⟩ := ob h
              refine callRV (As := []) (rest := [.int ((10 : Int32) * (if w1_4 < (0 : Int32) then (0 : Int32) else w1_4))]) hC (c_X6_here l g ad I J   hc7) lk_X6_32 rfl rfl ⟨Nat.le_of_ble_eq_true rfl, Nat.le_of_ble_eq_true rfl⟩ hP hK xo_45 rfl rfl rfl hl (Nat.le_of_ble_eq_true rfl) dX6_number_40 ?_
              refine lv_iadd hx hb dX6_number_43 ?_
              refine lv_bipush (v := 48) hx hb dX6_number_44 (by decide) ?_
              refine lv_isub hx hb dX6_number_46 ?_
              refine lv_istore_n (lv' := [(1, .int ((((10 : Int32) * (if w1_4 < (0 : Int32) then (0 : Int32) else w1_4)) + r7) - (48 : Int32))), (0, .ref (ad 45)), (2, .int w2_4)]) hx hb dX6_number_47 rfl hl (by decide) rfl (fun ls hl => ?_)
              refine lv_aload_n hx hb dX6_number_48 rfl (lv_at hl 1 rfl) ?_
              refine lv_dup hx hb dX6_number_49 rfl ?_
              refine gt_X6_25 hC hK hP dX6_number_50 ?_
              refine lv_iconst (v := 1) hx hb dX6_number_53 (by decide) ?_
              refine lv_iadd hx hb dX6_number_54 ?_
              refine pt_X6_25 hC hK hP hD hS dX6_number_55 (fun H locs hP hD hS => ?_)
              refine lv_iinc (v := (w2_4 + 1)) (lv' := [(2, .int (w2_4 + 1)), (1, .int ((((10 : Int32) * (if w1_4 < (0 : Int32) then (0 : Int32) else w1_4)) + r7) - (48 : Int32))), (0, .ref (ad 45))]) hx hb dX6_number_58 hl (k := 2) rfl rfl (by decide) rfl (fun ls hl => ?_)
              refine lv_goto (tgt := 4) hx hb dX6_number_61 (by decide) ?_
              exact ih (u2 I 45 2 ((I 45 2) + (1 : Int32))) J ((((10 : Int32) * (if w1_4 < (0 : Int32) then (0 : Int32) else w1_4)) + r7) - (48 : Int32)) (w2_4 + 1) _ _ _ h hP hD hS (lv_sub hl [2, 1, 0] rfl)
  unfold F_X6_number at h
  refine lv_iconst (v := -1) hx hb dX6_number_0 (by decide) ?_
  refine lv_istore_n (lv' := [(1, .int (-1 : Int32)), (0, .ref (ad 45))]) hx hb dX6_number_1 rfl hl (by decide) rfl (fun ls hl => ?_)
  refine lv_iconst (v := 0) hx hb dX6_number_2 (by decide) ?_
  refine lv_istore_n (lv' := [(2, .int (0 : Int32)), (1, .int (-1 : Int32)), (0, .ref (ad 45))]) hx hb dX6_number_3 rfl hl (by decide) rfl (fun ls hl => ?_)
  exact loop_4 3000 I J (-1 : Int32) (0 : Int32) _ _ _ h hP hD hS (lv_sub hl [2, 1, 0] rfl)
def F_X6_numberOf (I : SI) (J : SJ) (v1 : Int32) (v2 : Int32) : Option (Int32 × SI × SJ) := ((F_X6_number I J).bind fun (r1, I1, J1) => (if r1 < v1 then (some ((-1 : Int32), (u2 I1 45 2 (I 45 2)), J1)) else (if r1 ≤ v2 then (some (r1, I1, J1)) else (some ((-1 : Int32), (u2 I1 45 2 (I 45 2)), J1)))))
set_option maxHeartbeats 4000000 in
set_option maxRecDepth 100000 in
theorem c_X6_numberOf (l : Launch) (g : Gx) (ad : Nat → Nat) (I : SI) (J : SJ) (v1 : Int32) (v2 : Int32)  (sz : Nat) {r : Int32} {rI : SI} {rJ : SJ} (h : F_X6_numberOf I J v1 v2 = some (r, rI, rJ)) : Met l yX6_numberOf (Cond.code yX6_numberOf cX6_numberOf 5 (some .int) :: BG) (k2_rm 3 63) (PcW [.ref (ad 45), .int v1, .int v2] g (xW ad g I J) sz) (QWi r g (xW ad g I J) (xW ad g rI rJ) sz) 0 0 (va_A (xW ad g I J) sz) := by
  refine mkWi (by decide) (Nat.le_of_ble_eq_true rfl) ?_
  intro p e s m args below meth c H locs ls A Q hC hK hP hD hA hS hl hret
  have hx := hC.1
  have hb := hC.2.1
  have hts := hC.2.2.2.2
  have hown := hC.2.2.2.1
  replace hl : lv_has ls 5 [(0, .ref (ad 45)), (1, .int v1), (2, .int v2)] := hl
  unfold F_X6_numberOf at h
  refine lv_aload_n hx hb dX6_numberOf_0 rfl (lv_at hl 0 rfl) ?_
  refine gt_X6_25 hC hK hP dX6_numberOf_1 ?_
  refine lv_istore_n (lv' := [(3, .int (I 45 2)), (0, .ref (ad 45)), (1, .int v1), (2, .int v2)]) hx hb dX6_numberOf_4 rfl hl (by decide) rfl (fun ls hl => ?_)
  refine lv_aload_n hx hb dX6_numberOf_5 rfl (lv_at hl 1 rfl) ?_
  obtain ⟨⟨r1, I1, J1⟩, hc1, h⟩ := ob h
  dsimp only at h
  refine callWVi (As := []) (rest := []) hC (c_X6_number l g ad I J   H.size hc1) lk_X6_42 rfl rfl ⟨Nat.le_of_ble_eq_true rfl, Nat.le_of_ble_eq_true rfl⟩ hP hK hD hA hS xo_45 rfl rfl rfl hl (Nat.le_of_ble_eq_true rfl) dX6_numberOf_6 (fun H locs hP hD hS => ?_)
  refine lv_istore (lv' := [(4, .int r1), (3, .int (I 45 2)), (0, .ref (ad 45)), (1, .int v1), (2, .int v2)]) hx hb dX6_numberOf_9 hl (by decide) rfl (fun ls hl => ?_)
  refine lv_iload hx hb dX6_numberOf_11 (lv_at hl 0 rfl) ?_
  refine lv_iload_n hx hb dX6_numberOf_13 rfl (lv_at hl 3 rfl) ?_
  refine lv_icmp_lt (tgt := 23) hx hb dX6_numberOf_14 (by decide) (fun c2 => ?_) (fun c2 => ?_)
  · replace h := (if_pos c2).symm.trans h
    refine lv_aload_n hx hb dX6_numberOf_23 rfl (lv_at hl 2 rfl) ?_
    refine lv_iload_n hx hb dX6_numberOf_24 rfl (lv_at hl 1 rfl) ?_
    refine pt_X6_25 hC hK hP hD hS dX6_numberOf_25 (fun H locs hP hD hS => ?_)
    refine lv_iconst (v := -1) hx hb dX6_numberOf_28 (by decide) ?_
    obtain ⟨h1, h⟩ := Prod.mk.inj (Option.some.inj h)
    obtain ⟨rfl, rfl⟩ := Prod.mk.inj h
    exact hret _ _ _ _ _ dX6_numberOf_29 h1 hP hD hS
  · replace h := (if_neg c2).symm.trans h
    refine lv_iload hx hb dX6_numberOf_17 (lv_at hl 0 rfl) ?_
    refine lv_iload_n hx hb dX6_numberOf_19 rfl (lv_at hl 4 rfl) ?_
    refine lv_icmp_le (tgt := 30) hx hb dX6_numberOf_20 (by decide) (fun c3 => ?_) (fun c3 => ?_)
    · replace h := (if_pos c3).symm.trans h
      refine lv_iload hx hb dX6_numberOf_30 (lv_at hl 0 rfl) ?_
      obtain ⟨h1, h⟩ := Prod.mk.inj (Option.some.inj h)
      obtain ⟨rfl, rfl⟩ := Prod.mk.inj h
      exact hret _ _ _ _ _ dX6_numberOf_32 h1 hP hD hS
    · replace h := (if_neg c3).symm.trans h
      refine lv_aload_n hx hb dX6_numberOf_23 rfl (lv_at hl 2 rfl) ?_
      refine lv_iload_n hx hb dX6_numberOf_24 rfl (lv_at hl 1 rfl) ?_
      refine pt_X6_25 hC hK hP hD hS dX6_numberOf_25 (fun H locs hP hD hS => ?_)
      refine lv_iconst (v := -1) hx hb dX6_numberOf_28 (by decide) ?_
      obtain ⟨h1, h⟩ := Prod.mk.inj (Option.some.inj h)
      obtain ⟨rfl, rfl⟩ := Prod.mk.inj h
      exact hret _ _ _ _ _ dX6_numberOf_29 h1 hP hD hS
def F_X6_numbersBehind (v1 : Int32) : Option (Int32) := (if v1 = 101 then (some (2 : Int32)) else (if v1 = 102 then (some (0 : Int32)) else (if v1 = 103 then (some (1 : Int32)) else (if v1 = 104 then (some (0 : Int32)) else (if v1 = 105 then (some (0 : Int32)) else (if v1 = 106 then (some (0 : Int32)) else (if v1 = 107 then (some (0 : Int32)) else (if v1 = 108 then (some (0 : Int32)) else (if v1 = 109 then (some (2 : Int32)) else (if v1 = 110 then (some (0 : Int32)) else (if v1 = 111 then (some (1 : Int32)) else (if v1 = 112 then (some (2 : Int32)) else (if v1 = 113 then (some (0 : Int32)) else (if v1 = 114 then (some (0 : Int32)) else (if v1 = 115 then (some (2 : Int32)) else (if v1 = 116 then (some (0 : Int32)) else (if v1 = 117 then (some (0 : Int32)) else (if v1 = 118 then (some (0 : Int32)) else (if v1 = 119 then (some (2 : Int32)) else (some (0 : Int32)))))))))))))))))))))
set_option maxHeartbeats 4000000 in
set_option maxRecDepth 100000 in
theorem c_X6_numbersBehind (l : Launch) (g : Gx) (ws : va_W) (v1 : Int32)  {r : Int32} (h : F_X6_numbersBehind v1 = some r) : Met l yX6_numbersBehind (Cond.code yX6_numbersBehind cX6_numbersBehind 1 (some .int) :: BG) (k2_rm 0 0) (va_Pc [.int v1] (fun U => Pg g ws U.heap ∧ Kg g U)) (k2_QcV (.int r)) 0 0 (fun _ => False) := by
  refine mkRi (by decide) (Nat.le_of_ble_eq_true rfl) ?_
  intro p e s m args below meth c H locs ls Q hC hK hP hl hret
  have hx := hC.1
  have hb := hC.2.1
  have hts := hC.2.2.2.2
  have hown := hC.2.2.2.1
  replace hl : lv_has ls 1 [(0, .int v1)] := hl
  unfold F_X6_numbersBehind at h
  refine lv_iload_n hx hb dX6_numbersBehind_0 rfl (lv_at hl 0 rfl) ?_
  by_cases c1 : v1 = 101
  · replace h := (if_pos c1).symm.trans h
    refine lv_tableIn (off := 93) (tgt := 94) hx hb dX6_numbersBehind_1 (by rw [c1]; decide) (by rw [c1]; decide) (by rw [c1]; decide) (by decide) ?_
    refine lv_iconst (v := 2) hx hb dX6_numbersBehind_94 (by decide) ?_
    exact hret _ _ _ dX6_numbersBehind_95 (Option.some.inj h)
  · replace h := (if_neg c1).symm.trans h
    by_cases c2 : v1 = 102
    · replace h := (if_pos c2).symm.trans h
      refine lv_tableIn (off := 95) (tgt := 96) hx hb dX6_numbersBehind_1 (by rw [c2]; decide) (by rw [c2]; decide) (by rw [c2]; decide) (by decide) ?_
      refine lv_iconst (v := 0) hx hb dX6_numbersBehind_96 (by decide) ?_
      exact hret _ _ _ dX6_numbersBehind_97 (Option.some.inj h)
    · replace h := (if_neg c2).symm.trans h
      by_cases c3 : v1 = 103
      · replace h := (if_pos c3).symm.trans h
        refine lv_tableIn (off := 91) (tgt := 92) hx hb dX6_numbersBehind_1 (by rw [c3]; decide) (by rw [c3]; decide) (by rw [c3]; decide) (by decide) ?_
        refine lv_iconst (v := 1) hx hb dX6_numbersBehind_92 (by decide) ?_
        exact hret _ _ _ dX6_numbersBehind_93 (Option.some.inj h)
      · replace h := (if_neg c3).symm.trans h
        by_cases c4 : v1 = 104
        · replace h := (if_pos c4).symm.trans h
          refine lv_tableIn (off := 95) (tgt := 96) hx hb dX6_numbersBehind_1 (by rw [c4]; decide) (by rw [c4]; decide) (by rw [c4]; decide) (by decide) ?_
          refine lv_iconst (v := 0) hx hb dX6_numbersBehind_96 (by decide) ?_
          exact hret _ _ _ dX6_numbersBehind_97 (Option.some.inj h)
        · replace h := (if_neg c4).symm.trans h
          by_cases c5 : v1 = 105
          · replace h := (if_pos c5).symm.trans h
            refine lv_tableIn (off := 95) (tgt := 96) hx hb dX6_numbersBehind_1 (by rw [c5]; decide) (by rw [c5]; decide) (by rw [c5]; decide) (by decide) ?_
            refine lv_iconst (v := 0) hx hb dX6_numbersBehind_96 (by decide) ?_
            exact hret _ _ _ dX6_numbersBehind_97 (Option.some.inj h)
          · replace h := (if_neg c5).symm.trans h
            by_cases c6 : v1 = 106
            · replace h := (if_pos c6).symm.trans h
              refine lv_tableIn (off := 95) (tgt := 96) hx hb dX6_numbersBehind_1 (by rw [c6]; decide) (by rw [c6]; decide) (by rw [c6]; decide) (by decide) ?_
              refine lv_iconst (v := 0) hx hb dX6_numbersBehind_96 (by decide) ?_
              exact hret _ _ _ dX6_numbersBehind_97 (Option.some.inj h)
            · replace h := (if_neg c6).symm.trans h
              by_cases c7 : v1 = 107
              · replace h := (if_pos c7).symm.trans h
                refine lv_tableIn (off := 95) (tgt := 96) hx hb dX6_numbersBehind_1 (by rw [c7]; decide) (by rw [c7]; decide) (by rw [c7]; decide) (by decide) ?_
                refine lv_iconst (v := 0) hx hb dX6_numbersBehind_96 (by decide) ?_
                exact hret _ _ _ dX6_numbersBehind_97 (Option.some.inj h)
              · replace h := (if_neg c7).symm.trans h
                by_cases c8 : v1 = 108
                · replace h := (if_pos c8).symm.trans h
                  refine lv_tableIn (off := 95) (tgt := 96) hx hb dX6_numbersBehind_1 (by rw [c8]; decide) (by rw [c8]; decide) (by rw [c8]; decide) (by decide) ?_
                  refine lv_iconst (v := 0) hx hb dX6_numbersBehind_96 (by decide) ?_
                  exact hret _ _ _ dX6_numbersBehind_97 (Option.some.inj h)
                · replace h := (if_neg c8).symm.trans h
                  by_cases c9 : v1 = 109
                  · replace h := (if_pos c9).symm.trans h
                    refine lv_tableIn (off := 93) (tgt := 94) hx hb dX6_numbersBehind_1 (by rw [c9]; decide) (by rw [c9]; decide) (by rw [c9]; decide) (by decide) ?_
                    refine lv_iconst (v := 2) hx hb dX6_numbersBehind_94 (by decide) ?_
                    exact hret _ _ _ dX6_numbersBehind_95 (Option.some.inj h)
                  · replace h := (if_neg c9).symm.trans h
                    by_cases c10 : v1 = 110
                    · replace h := (if_pos c10).symm.trans h
                      refine lv_tableIn (off := 95) (tgt := 96) hx hb dX6_numbersBehind_1 (by rw [c10]; decide) (by rw [c10]; decide) (by rw [c10]; decide) (by decide) ?_
                      refine lv_iconst (v := 0) hx hb dX6_numbersBehind_96 (by decide) ?_
                      exact hret _ _ _ dX6_numbersBehind_97 (Option.some.inj h)
                    · replace h := (if_neg c10).symm.trans h
                      by_cases c11 : v1 = 111
                      · replace h := (if_pos c11).symm.trans h
                        refine lv_tableIn (off := 91) (tgt := 92) hx hb dX6_numbersBehind_1 (by rw [c11]; decide) (by rw [c11]; decide) (by rw [c11]; decide) (by decide) ?_
                        refine lv_iconst (v := 1) hx hb dX6_numbersBehind_92 (by decide) ?_
                        exact hret _ _ _ dX6_numbersBehind_93 (Option.some.inj h)
                      · replace h := (if_neg c11).symm.trans h
                        by_cases c12 : v1 = 112
                        · replace h := (if_pos c12).symm.trans h
                          refine lv_tableIn (off := 93) (tgt := 94) hx hb dX6_numbersBehind_1 (by rw [c12]; decide) (by rw [c12]; decide) (by rw [c12]; decide) (by decide) ?_
                          refine lv_iconst (v := 2) hx hb dX6_numbersBehind_94 (by decide) ?_
                          exact hret _ _ _ dX6_numbersBehind_95 (Option.some.inj h)
                        · replace h := (if_neg c12).symm.trans h
                          by_cases c13 : v1 = 113
                          · replace h := (if_pos c13).symm.trans h
                            refine lv_tableIn (off := 95) (tgt := 96) hx hb dX6_numbersBehind_1 (by rw [c13]; decide) (by rw [c13]; decide) (by rw [c13]; decide) (by decide) ?_
                            refine lv_iconst (v := 0) hx hb dX6_numbersBehind_96 (by decide) ?_
                            exact hret _ _ _ dX6_numbersBehind_97 (Option.some.inj h)
                          · replace h := (if_neg c13).symm.trans h
                            by_cases c14 : v1 = 114
                            · replace h := (if_pos c14).symm.trans h
                              refine lv_tableIn (off := 95) (tgt := 96) hx hb dX6_numbersBehind_1 (by rw [c14]; decide) (by rw [c14]; decide) (by rw [c14]; decide) (by decide) ?_
                              refine lv_iconst (v := 0) hx hb dX6_numbersBehind_96 (by decide) ?_
                              exact hret _ _ _ dX6_numbersBehind_97 (Option.some.inj h)
                            · replace h := (if_neg c14).symm.trans h
                              by_cases c15 : v1 = 115
                              · replace h := (if_pos c15).symm.trans h
                                refine lv_tableIn (off := 93) (tgt := 94) hx hb dX6_numbersBehind_1 (by rw [c15]; decide) (by rw [c15]; decide) (by rw [c15]; decide) (by decide) ?_
                                refine lv_iconst (v := 2) hx hb dX6_numbersBehind_94 (by decide) ?_
                                exact hret _ _ _ dX6_numbersBehind_95 (Option.some.inj h)
                              · replace h := (if_neg c15).symm.trans h
                                by_cases c16 : v1 = 116
                                · replace h := (if_pos c16).symm.trans h
                                  refine lv_tableIn (off := 95) (tgt := 96) hx hb dX6_numbersBehind_1 (by rw [c16]; decide) (by rw [c16]; decide) (by rw [c16]; decide) (by decide) ?_
                                  refine lv_iconst (v := 0) hx hb dX6_numbersBehind_96 (by decide) ?_
                                  exact hret _ _ _ dX6_numbersBehind_97 (Option.some.inj h)
                                · replace h := (if_neg c16).symm.trans h
                                  by_cases c17 : v1 = 117
                                  · replace h := (if_pos c17).symm.trans h
                                    refine lv_tableIn (off := 95) (tgt := 96) hx hb dX6_numbersBehind_1 (by rw [c17]; decide) (by rw [c17]; decide) (by rw [c17]; decide) (by decide) ?_
                                    refine lv_iconst (v := 0) hx hb dX6_numbersBehind_96 (by decide) ?_
                                    exact hret _ _ _ dX6_numbersBehind_97 (Option.some.inj h)
                                  · replace h := (if_neg c17).symm.trans h
                                    by_cases c18 : v1 = 118
                                    · replace h := (if_pos c18).symm.trans h
                                      refine lv_tableIn (off := 95) (tgt := 96) hx hb dX6_numbersBehind_1 (by rw [c18]; decide) (by rw [c18]; decide) (by rw [c18]; decide) (by decide) ?_
                                      refine lv_iconst (v := 0) hx hb dX6_numbersBehind_96 (by decide) ?_
                                      exact hret _ _ _ dX6_numbersBehind_97 (Option.some.inj h)
                                    · replace h := (if_neg c18).symm.trans h
                                      by_cases c19 : v1 = 119
                                      · replace h := (if_pos c19).symm.trans h
                                        refine lv_tableIn (off := 93) (tgt := 94) hx hb dX6_numbersBehind_1 (by rw [c19]; decide) (by rw [c19]; decide) (by rw [c19]; decide) (by decide) ?_
                                        refine lv_iconst (v := 2) hx hb dX6_numbersBehind_94 (by decide) ?_
                                        exact hret _ _ _ dX6_numbersBehind_95 (Option.some.inj h)
                                      · replace h := (if_neg c19).symm.trans h
                                        refine lv_tableOut (tgt := 96) hx hb dX6_numbersBehind_1 (by have ec1 := ti_ne (n := 101) (by decide) c1; have ec2 := ti_ne (n := 102) (by decide) c2; have ec3 := ti_ne (n := 103) (by decide) c3; have ec4 := ti_ne (n := 104) (by decide) c4; have ec5 := ti_ne (n := 105) (by decide) c5; have ec6 := ti_ne (n := 106) (by decide) c6; have ec7 := ti_ne (n := 107) (by decide) c7; have ec8 := ti_ne (n := 108) (by decide) c8; have ec9 := ti_ne (n := 109) (by decide) c9; have ec10 := ti_ne (n := 110) (by decide) c10; have ec11 := ti_ne (n := 111) (by decide) c11; have ec12 := ti_ne (n := 112) (by decide) c12; have ec13 := ti_ne (n := 113) (by decide) c13; have ec14 := ti_ne (n := 114) (by decide) c14; have ec15 := ti_ne (n := 115) (by decide) c15; have ec16 := ti_ne (n := 116) (by decide) c16; have ec17 := ti_ne (n := 117) (by decide) c17; have ec18 := ti_ne (n := 118) (by decide) c18; have ec19 := ti_ne (n := 119) (by decide) c19; omega) (by decide) ?_
                                        refine lv_iconst (v := 0) hx hb dX6_numbersBehind_96 (by decide) ?_
                                        exact hret _ _ _ dX6_numbersBehind_97 (Option.some.inj h)
def F_X6_passStatement (I : SI) (J : SJ) : Option (Int32 × SI × SJ) := ((F_X6_here I J).bind fun r1 => ((F_X6_numbersBehind r1).bind fun r2 => (if r2 = 0 then (some ((0 : Int32), I, J)) else (if r2 = (2 : Int32) then ((F_X6_number (u2 I 45 2 ((I 45 2) + (1 : Int32))) J).bind fun (r9, I9, J9) => (if r9 < 0 then (some ((0 : Int32), I9, J9)) else ((F_X6_skip I9 J9 (44 : Int32)).bind fun (r11, I11, J11) => (if r11 = 0 then (some ((0 : Int32), I11, J11)) else ((F_X6_number I11 J11).bind fun (r13, I13, J13) => (if r13 < 0 then (some ((0 : Int32), I13, J13)) else ((F_X6_skip I13 J13 (59 : Int32)).bind fun (r15, I15, J15) => (if r15 = 0 then (some ((0 : Int32), I15, J15)) else (some ((1 : Int32), I15, J15)))))))))) else ((F_X6_number (u2 I 45 2 ((I 45 2) + (1 : Int32))) J).bind fun (r5, I5, J5) => (if r5 < 0 then (some ((0 : Int32), I5, J5)) else ((F_X6_skip I5 J5 (59 : Int32)).bind fun (r7, I7, J7) => (if r7 = 0 then (some ((0 : Int32), I7, J7)) else (some ((1 : Int32), I7, J7))))))))))
set_option maxHeartbeats 4000000 in
set_option maxRecDepth 100000 in
theorem c_X6_passStatement (l : Launch) (g : Gx) (ad : Nat → Nat) (I : SI) (J : SJ)   (sz : Nat) {r : Int32} {rI : SI} {rJ : SJ} (h : F_X6_passStatement I J = some (r, rI, rJ)) : Met l yX6_passStatement (Cond.code yX6_passStatement cX6_passStatement 2 (some .boolean) :: BG) (k2_rm 3 63) (PcW [.ref (ad 45)] g (xW ad g I J) sz) (QWi r g (xW ad g I J) (xW ad g rI rJ) sz) 0 0 (va_A (xW ad g I J) sz) := by
  refine mkWz (by decide) (Nat.le_of_ble_eq_true rfl) ?_
  intro p e s m args below meth c H locs ls A Q hC hK hP hD hA hS hl hret
  have hx := hC.1
  have hb := hC.2.1
  have hts := hC.2.2.2.2
  have hown := hC.2.2.2.1
  replace hl : lv_has ls 2 [(0, .ref (ad 45))] := hl
  unfold F_X6_passStatement at h
  refine lv_aload_n hx hb dX6_passStatement_0 rfl (lv_at hl 0 rfl) ?_
  obtain ⟨r1, hc1, h⟩ := ob h
  refine callRV (As := []) (rest := []) hC (c_X6_here l g ad I J   hc1) lk_X6_32 rfl rfl ⟨Nat.le_of_ble_eq_true rfl, Nat.le_of_ble_eq_true rfl⟩ hP hK xo_45 rfl rfl rfl hl (Nat.le_of_ble_eq_true rfl) dX6_passStatement_1 ?_
  obtain ⟨r2, hc2, h⟩ := ob h
  refine callRS (As := [.int r1]) (rest := []) hC (c_X6_numbersBehind l g (xW ad g I J) r1 hc2) lk_X6_56 rfl rfl ⟨Nat.le_of_ble_eq_true rfl, Nat.le_of_ble_eq_true rfl⟩ hP hK rfl rfl hl (Nat.le_of_ble_eq_true rfl) dX6_passStatement_4 ?_
  refine lv_istore_n (lv' := [(1, .int r2), (0, .ref (ad 45))]) hx hb dX6_passStatement_7 rfl hl (by decide) rfl (fun ls hl => ?_)
  refine lv_iload_n hx hb dX6_passStatement_8 rfl (lv_at hl 0 rfl) ?_
  refine lv_if_ne (tgt := 14) hx hb dX6_passStatement_9 (by decide) (fun c3 => ?_) (fun c3 => ?_)
  · replace h := (if_neg c3).symm.trans h
    refine lv_aload_n hx hb dX6_passStatement_14 rfl (lv_at hl 1 rfl) ?_
    refine lv_dup hx hb dX6_passStatement_15 rfl ?_
    refine gt_X6_25 hC hK hP dX6_passStatement_16 ?_
    refine lv_iconst (v := 1) hx hb dX6_passStatement_19 (by decide) ?_
    refine lv_iadd hx hb dX6_passStatement_20 ?_
    refine pt_X6_25 hC hK hP hD hS dX6_passStatement_21 (fun H locs hP hD hS => ?_)
    refine lv_iload_n hx hb dX6_passStatement_24 rfl (lv_at hl 0 rfl) ?_
    refine lv_iconst (v := 2) hx hb dX6_passStatement_25 (by decide) ?_
    refine lv_icmp_ne (tgt := 47) hx hb dX6_passStatement_26 (by decide) (fun c4 => ?_) (fun c4 => ?_)
    · replace h := (if_neg c4).symm.trans h
      refine lv_aload_n hx hb dX6_passStatement_47 rfl (lv_at hl 1 rfl) ?_
      obtain ⟨⟨r5, I5, J5⟩, hc5, h⟩ := ob h
      dsimp only at h
      refine callWVi (As := []) (rest := []) hC (c_X6_number l g ad (u2 I 45 2 ((I 45 2) + (1 : Int32))) J   H.size hc5) lk_X6_42 rfl rfl ⟨Nat.le_of_ble_eq_true rfl, Nat.le_of_ble_eq_true rfl⟩ hP hK hD hA hS xo_45 rfl rfl rfl hl (Nat.le_of_ble_eq_true rfl) dX6_passStatement_48 (fun H locs hP hD hS => ?_)
      refine lv_if_lt (tgt := 67) hx hb dX6_passStatement_51 (by decide) (fun c6 => ?_) (fun c6 => ?_)
      · replace h := (if_pos c6).symm.trans h
        refine lv_iconst (v := 0) hx hb dX6_passStatement_67 (by decide) ?_
        obtain ⟨h1, h⟩ := Prod.mk.inj (Option.some.inj h)
        obtain ⟨rfl, rfl⟩ := Prod.mk.inj h
        exact hret _ _ _ _ _ dX6_passStatement_68 rfl h1 hP hD hS
      · replace h := (if_neg c6).symm.trans h
        refine lv_aload_n hx hb dX6_passStatement_54 rfl (lv_at hl 1 rfl) ?_
        refine lv_bipush (v := 59) hx hb dX6_passStatement_55 (by decide) ?_
        obtain ⟨⟨r7, I7, J7⟩, hc7, h⟩ := ob h
        dsimp only at h
        refine callWVi (As := [.int (59 : Int32)]) (rest := []) hC (c_X6_skip l g ad I5 J5 (59 : Int32)  H.size hc7) lk_X6_60 rfl rfl ⟨Nat.le_of_ble_eq_true rfl, Nat.le_of_ble_eq_true rfl⟩ hP hK hD hA hS xo_45 rfl rfl rfl hl (Nat.le_of_ble_eq_true rfl) dX6_passStatement_57 (fun H locs hP hD hS => ?_)
        refine lv_if_eq (tgt := 67) hx hb dX6_passStatement_60 (by decide) (fun c8 => ?_) (fun c8 => ?_)
        · replace h := (if_pos c8).symm.trans h
          refine lv_iconst (v := 0) hx hb dX6_passStatement_67 (by decide) ?_
          obtain ⟨h1, h⟩ := Prod.mk.inj (Option.some.inj h)
          obtain ⟨rfl, rfl⟩ := Prod.mk.inj h
          exact hret _ _ _ _ _ dX6_passStatement_68 rfl h1 hP hD hS
        · replace h := (if_neg c8).symm.trans h
          refine lv_iconst (v := 1) hx hb dX6_passStatement_63 (by decide) ?_
          refine lv_goto (tgt := 68) hx hb dX6_passStatement_64 (by decide) ?_
          obtain ⟨h1, h⟩ := Prod.mk.inj (Option.some.inj h)
          obtain ⟨rfl, rfl⟩ := Prod.mk.inj h
          exact hret _ _ _ _ _ dX6_passStatement_68 rfl h1 hP hD hS
    · replace h := (if_pos c4).symm.trans h
      refine lv_aload_n hx hb dX6_passStatement_29 rfl (lv_at hl 1 rfl) ?_
      obtain ⟨⟨r9, I9, J9⟩, hc9, h⟩ := ob h
      dsimp only at h
      refine callWVi (As := []) (rest := []) hC (c_X6_number l g ad (u2 I 45 2 ((I 45 2) + (1 : Int32))) J   H.size hc9) lk_X6_42 rfl rfl ⟨Nat.le_of_ble_eq_true rfl, Nat.le_of_ble_eq_true rfl⟩ hP hK hD hA hS xo_45 rfl rfl rfl hl (Nat.le_of_ble_eq_true rfl) dX6_passStatement_30 (fun H locs hP hD hS => ?_)
      refine lv_if_lt (tgt := 45) hx hb dX6_passStatement_33 (by decide) (fun c10 => ?_) (fun c10 => ?_)
      · replace h := (if_pos c10).symm.trans h
        refine lv_iconst (v := 0) hx hb dX6_passStatement_45 (by decide) ?_
        obtain ⟨h1, h⟩ := Prod.mk.inj (Option.some.inj h)
        obtain ⟨rfl, rfl⟩ := Prod.mk.inj h
        exact hret _ _ _ _ _ dX6_passStatement_46 rfl h1 hP hD hS
      · replace h := (if_neg c10).symm.trans h
        refine lv_aload_n hx hb dX6_passStatement_36 rfl (lv_at hl 1 rfl) ?_
        refine lv_bipush (v := 44) hx hb dX6_passStatement_37 (by decide) ?_
        obtain ⟨⟨r11, I11, J11⟩, hc11, h⟩ := ob h
        dsimp only at h
        refine callWVi (As := [.int (44 : Int32)]) (rest := []) hC (c_X6_skip l g ad I9 J9 (44 : Int32)  H.size hc11) lk_X6_60 rfl rfl ⟨Nat.le_of_ble_eq_true rfl, Nat.le_of_ble_eq_true rfl⟩ hP hK hD hA hS xo_45 rfl rfl rfl hl (Nat.le_of_ble_eq_true rfl) dX6_passStatement_39 (fun H locs hP hD hS => ?_)
        refine lv_if_ne (tgt := 47) hx hb dX6_passStatement_42 (by decide) (fun c12 => ?_) (fun c12 => ?_)
        · replace h := (if_neg c12).symm.trans h
          refine lv_aload_n hx hb dX6_passStatement_47 rfl (lv_at hl 1 rfl) ?_
          obtain ⟨⟨r13, I13, J13⟩, hc13, h⟩ := ob h
          dsimp only at h
          refine callWVi (As := []) (rest := []) hC (c_X6_number l g ad I11 J11   H.size hc13) lk_X6_42 rfl rfl ⟨Nat.le_of_ble_eq_true rfl, Nat.le_of_ble_eq_true rfl⟩ hP hK hD hA hS xo_45 rfl rfl rfl hl (Nat.le_of_ble_eq_true rfl) dX6_passStatement_48 (fun H locs hP hD hS => ?_)
          refine lv_if_lt (tgt := 67) hx hb dX6_passStatement_51 (by decide) (fun c14 => ?_) (fun c14 => ?_)
          · replace h := (if_pos c14).symm.trans h
            refine lv_iconst (v := 0) hx hb dX6_passStatement_67 (by decide) ?_
            obtain ⟨h1, h⟩ := Prod.mk.inj (Option.some.inj h)
            obtain ⟨rfl, rfl⟩ := Prod.mk.inj h
            exact hret _ _ _ _ _ dX6_passStatement_68 rfl h1 hP hD hS
          · replace h := (if_neg c14).symm.trans h
            refine lv_aload_n hx hb dX6_passStatement_54 rfl (lv_at hl 1 rfl) ?_
            refine lv_bipush (v := 59) hx hb dX6_passStatement_55 (by decide) ?_
            obtain ⟨⟨r15, I15, J15⟩, hc15, h⟩ := ob h
            dsimp only at h
            refine callWVi (As := [.int (59 : Int32)]) (rest := []) hC (c_X6_skip l g ad I13 J13 (59 : Int32)  H.size hc15) lk_X6_60 rfl rfl ⟨Nat.le_of_ble_eq_true rfl, Nat.le_of_ble_eq_true rfl⟩ hP hK hD hA hS xo_45 rfl rfl rfl hl (Nat.le_of_ble_eq_true rfl) dX6_passStatement_57 (fun H locs hP hD hS => ?_)
            refine lv_if_eq (tgt := 67) hx hb dX6_passStatement_60 (by decide) (fun c16 => ?_) (fun c16 => ?_)
            · replace h := (if_pos c16).symm.trans h
              refine lv_iconst (v := 0) hx hb dX6_passStatement_67 (by decide) ?_
              obtain ⟨h1, h⟩ := Prod.mk.inj (Option.some.inj h)
              obtain ⟨rfl, rfl⟩ := Prod.mk.inj h
              exact hret _ _ _ _ _ dX6_passStatement_68 rfl h1 hP hD hS
            · replace h := (if_neg c16).symm.trans h
              refine lv_iconst (v := 1) hx hb dX6_passStatement_63 (by decide) ?_
              refine lv_goto (tgt := 68) hx hb dX6_passStatement_64 (by decide) ?_
              obtain ⟨h1, h⟩ := Prod.mk.inj (Option.some.inj h)
              obtain ⟨rfl, rfl⟩ := Prod.mk.inj h
              exact hret _ _ _ _ _ dX6_passStatement_68 rfl h1 hP hD hS
        · replace h := (if_pos c12).symm.trans h
          refine lv_iconst (v := 0) hx hb dX6_passStatement_45 (by decide) ?_
          obtain ⟨h1, h⟩ := Prod.mk.inj (Option.some.inj h)
          obtain ⟨rfl, rfl⟩ := Prod.mk.inj h
          exact hret _ _ _ _ _ dX6_passStatement_46 rfl h1 hP hD hS
  · replace h := (if_pos c3).symm.trans h
    refine lv_iconst (v := 0) hx hb dX6_passStatement_12 (by decide) ?_
    obtain ⟨h1, h⟩ := Prod.mk.inj (Option.some.inj h)
    obtain ⟨rfl, rfl⟩ := Prod.mk.inj h
    exact hret _ _ _ _ _ dX6_passStatement_13 rfl h1 hP hD hS
def FL_X6_fieldFault_16  : Nat → SI → SJ → Int32 → Option (Int32 × SI × SJ)
  | 0, _, _, _ => none
  | n + 1, I, J, w1_16 => (if (64 : Int32) ≤ w1_16 then (some ((-1 : Int32), I, J)) else (if (I 45 1) ≤ (I 45 2) then (some ((-1 : Int32), I, J)) else ((F_X6_passStatement I J).bind fun (r4, I4, J4) => (if r4 = 0 then (some ((I4 45 2), I4, J4)) else (FL_X6_fieldFault_16 n I4 J4 (w1_16 + 1))))))
def F_X6_fieldFault (I : SI) (J : SJ) : Option (Int32 × SI × SJ) := (if ((u2 I 45 2 (0 : Int32)) 45 1) = 0 then (some ((0 : Int32), (u2 I 45 2 (0 : Int32)), J)) else (FL_X6_fieldFault_16 3000 (u2 I 45 2 (0 : Int32)) J (0 : Int32)))
set_option maxHeartbeats 4000000 in
set_option maxRecDepth 100000 in
theorem c_X6_fieldFault (l : Launch) (g : Gx) (ad : Nat → Nat) (I : SI) (J : SJ)   (sz : Nat) {r : Int32} {rI : SI} {rJ : SJ} (h : F_X6_fieldFault I J = some (r, rI, rJ)) : Met l yX6_fieldFault (Cond.code yX6_fieldFault cX6_fieldFault 2 (some .int) :: BG) (k2_rm 4 84) (PcW [.ref (ad 45)] g (xW ad g I J) sz) (QWi r g (xW ad g I J) (xW ad g rI rJ) sz) 0 0 (va_A (xW ad g I J) sz) := by
  refine mkWi (by decide) (Nat.le_of_ble_eq_true rfl) ?_
  intro p e s m args below meth c H locs ls A Q hC hK hP hD hA hS hl hret
  have hx := hC.1
  have hb := hC.2.1
  have hts := hC.2.2.2.2
  have hown := hC.2.2.2.1
  replace hl : lv_has ls 2 [(0, .ref (ad 45))] := hl
  have loop_16 : ∀ (n : Nat) (I : SI) (J : SJ) (w1_16 : Int32)  (H : Heap) (locs : List Loc) (ls : Array Slot), FL_X6_fieldFault_16 n I J w1_16 = some (r, rI, rJ) → Pg g (xW ad g I J) H → va_D A (xW ad g I J) → va_S A s.heap H locs → lv_has ls 2 [(0, .ref (ad 45)), (1, .int w1_16)] → W p l e (k2_rm 4 84) s m args below meth c H locs 0 0 Q (F0 m 16 ls []) := by
    intro n
    induction n with
    | zero =>
      intro I J w1_16 H locs ls h
      exact no h
    | succ n ih =>
      intro I J w1_16 H locs ls h hP hD hS hl
      rw [FL_X6_fieldFault_16] at h
      refine lv_iload_n hx hb dX6_fieldFault_16 rfl (lv_at hl 1 rfl) ?_
      refine lv_bipush (v := 64) hx hb dX6_fieldFault_17 (by decide) ?_
      refine lv_icmp_ge (tgt := 51) hx hb dX6_fieldFault_19 (by decide) (fun c2 => ?_) (fun c2 => ?_)
      · replace h := (if_pos c2).symm.trans h
        refine lv_iconst (v := -1) hx hb dX6_fieldFault_51 (by decide) ?_
        obtain ⟨h1, h⟩ := Prod.mk.inj (Option.some.inj h)
        obtain ⟨rfl, rfl⟩ := Prod.mk.inj h
        exact hret _ _ _ _ _ dX6_fieldFault_52 h1 hP hD hS
      · replace h := (if_neg c2).symm.trans h
        refine lv_aload_n hx hb dX6_fieldFault_22 rfl (lv_at hl 0 rfl) ?_
        refine gt_X6_25 hC hK hP dX6_fieldFault_23 ?_
        refine lv_aload_n hx hb dX6_fieldFault_26 rfl (lv_at hl 0 rfl) ?_
        refine gt_X6_13 hC hK hP dX6_fieldFault_27 ?_
        refine lv_icmp_ge (tgt := 51) hx hb dX6_fieldFault_30 (by decide) (fun c3 => ?_) (fun c3 => ?_)
        · replace h := (if_pos c3).symm.trans h
          refine lv_iconst (v := -1) hx hb dX6_fieldFault_51 (by decide) ?_
          obtain ⟨h1, h⟩ := Prod.mk.inj (Option.some.inj h)
          obtain ⟨rfl, rfl⟩ := Prod.mk.inj h
          exact hret _ _ _ _ _ dX6_fieldFault_52 h1 hP hD hS
        · replace h := (if_neg c3).symm.trans h
          refine lv_aload_n hx hb dX6_fieldFault_33 rfl (lv_at hl 0 rfl) ?_
          obtain ⟨⟨r4, I4, J4⟩, hc4, h⟩ := ob h
          dsimp only at h
          refine callWVi (As := []) (rest := []) hC (c_X6_passStatement l g ad I J   H.size hc4) lk_X6_52 rfl rfl ⟨Nat.le_of_ble_eq_true rfl, Nat.le_of_ble_eq_true rfl⟩ hP hK hD hA hS xo_45 rfl rfl rfl hl (Nat.le_of_ble_eq_true rfl) dX6_fieldFault_34 (fun H locs hP hD hS => ?_)
          refine lv_if_ne (tgt := 45) hx hb dX6_fieldFault_37 (by decide) (fun c5 => ?_) (fun c5 => ?_)
          · replace h := (if_neg c5).symm.trans h
            refine lv_iinc (v := (w1_16 + 1)) (lv' := [(1, .int (w1_16 + 1)), (0, .ref (ad 45))]) hx hb dX6_fieldFault_45 hl (k := 1) rfl rfl (by decide) rfl (fun ls hl => ?_)
            refine lv_goto (tgt := 16) hx hb dX6_fieldFault_48 (by decide) ?_
            exact ih I4 J4 (w1_16 + 1) _ _ _ h hP hD hS (lv_sub hl [1, 0] rfl)
          · replace h := (if_pos c5).symm.trans h
            refine lv_aload_n hx hb dX6_fieldFault_40 rfl (lv_at hl 0 rfl) ?_
            refine gt_X6_25 hC hK hP dX6_fieldFault_41 ?_
            obtain ⟨h1, h⟩ := Prod.mk.inj (Option.some.inj h)
            obtain ⟨rfl, rfl⟩ := Prod.mk.inj h
            exact hret _ _ _ _ _ dX6_fieldFault_44 h1 hP hD hS
  unfold F_X6_fieldFault at h
  refine lv_aload_n hx hb dX6_fieldFault_0 rfl (lv_at hl 0 rfl) ?_
  refine lv_iconst (v := 0) hx hb dX6_fieldFault_1 (by decide) ?_
  refine pt_X6_25 hC hK hP hD hS dX6_fieldFault_2 (fun H locs hP hD hS => ?_)
  refine lv_aload_n hx hb dX6_fieldFault_5 rfl (lv_at hl 0 rfl) ?_
  refine gt_X6_13 hC hK hP dX6_fieldFault_6 ?_
  refine lv_if_ne (tgt := 14) hx hb dX6_fieldFault_9 (by decide) (fun c1 => ?_) (fun c1 => ?_)
  · replace h := (if_neg c1).symm.trans h
    refine lv_iconst (v := 0) hx hb dX6_fieldFault_14 (by decide) ?_
    refine lv_istore_n (lv' := [(1, .int (0 : Int32)), (0, .ref (ad 45))]) hx hb dX6_fieldFault_15 rfl hl (by decide) rfl (fun ls hl => ?_)
    exact loop_16 3000 (u2 I 45 2 (0 : Int32)) J (0 : Int32) _ _ _ h hP hD hS (lv_sub hl [1, 0] rfl)
  · replace h := (if_pos c1).symm.trans h
    refine lv_iconst (v := 0) hx hb dX6_fieldFault_12 (by decide) ?_
    obtain ⟨h1, h⟩ := Prod.mk.inj (Option.some.inj h)
    obtain ⟨rfl, rfl⟩ := Prod.mk.inj h
    exact hret _ _ _ _ _ dX6_fieldFault_13 h1 hP hD hS
def F_X6_tell (q1 : Nat) (I : SI) (J : SJ) (v2 : Int32) (v3 : Int32) (v4 : Int32) : Option (Int32 × SI × SJ) := (if v2 = 101 then ((F_X1_tellPair q1 I J (6 : Int32) v3 v4).bind fun (r2, I2, J2) => (if gbo r2 = true then (some (r2, I2, J2)) else none)) else (if v2 = 102 then ((F_X1_tellPair q1 I J (2 : Int32) v3 v4).bind fun (r5, I5, J5) => (if gbo r5 = true then (some (r5, I5, J5)) else none)) else (if v2 = 103 then ((F_X1_tellSetting q1 I J (0 : Int32) v3).bind fun (r8, I8, J8) => (if gbo r8 = true then (some (r8, I8, J8)) else none)) else (if v2 = 104 then ((F_X1_tellPair q1 I J (2 : Int32) v3 v4).bind fun (r11, I11, J11) => (if gbo r11 = true then (some (r11, I11, J11)) else none)) else (if v2 = 105 then ((F_X1_tellPair q1 I J (2 : Int32) v3 v4).bind fun (r14, I14, J14) => (if gbo r14 = true then (some (r14, I14, J14)) else none)) else (if v2 = 106 then ((F_X1_tellPair q1 I J (2 : Int32) v3 v4).bind fun (r17, I17, J17) => (if gbo r17 = true then (some (r17, I17, J17)) else none)) else (if v2 = 107 then ((F_X1_tellPair q1 I J (2 : Int32) v3 v4).bind fun (r20, I20, J20) => (if gbo r20 = true then (some (r20, I20, J20)) else none)) else (if v2 = 108 then ((F_X1_tellPair q1 I J (2 : Int32) v3 v4).bind fun (r23, I23, J23) => (if gbo r23 = true then (some (r23, I23, J23)) else none)) else (if v2 = 109 then ((F_X1_tellPair q1 I J (4 : Int32) v3 v4).bind fun (r26, I26, J26) => (if gbo r26 = true then (some (r26, I26, J26)) else none)) else (if v2 = 110 then ((F_X1_tellPair q1 I J (2 : Int32) v3 v4).bind fun (r29, I29, J29) => (if gbo r29 = true then (some (r29, I29, J29)) else none)) else (if v2 = 111 then ((F_X1_tellSetting q1 I J (1 : Int32) v3).bind fun (r32, I32, J32) => (if gbo r32 = true then (some (r32, I32, J32)) else none)) else (if v2 = 112 then ((F_X1_addStep q1 I J v3 v4).bind fun (r35, I35, J35) => (if gbo r35 = true then (some (r35, I35, J35)) else none)) else (if v2 = 113 then ((F_X1_tellPair q1 I J (2 : Int32) v3 v4).bind fun (r38, I38, J38) => (if gbo r38 = true then (some (r38, I38, J38)) else none)) else (if v2 = 114 then ((F_X1_tellPair q1 I J (2 : Int32) v3 v4).bind fun (r41, I41, J41) => (if gbo r41 = true then (some (r41, I41, J41)) else none)) else (if v2 = 115 then ((F_X1_tellPair q1 I J (2 : Int32) v3 v4).bind fun (r44, I44, J44) => (if gbo r44 = true then (some (r44, I44, J44)) else none)) else (if v2 = 116 then ((F_X1_tellPair q1 I J (2 : Int32) v3 v4).bind fun (r47, I47, J47) => (if gbo r47 = true then (some (r47, I47, J47)) else none)) else (if v2 = 117 then ((F_X1_tellPair q1 I J (2 : Int32) v3 v4).bind fun (r50, I50, J50) => (if gbo r50 = true then (some (r50, I50, J50)) else none)) else (if v2 = 118 then ((F_X1_tellPair q1 I J (2 : Int32) v3 v4).bind fun (r53, I53, J53) => (if gbo r53 = true then (some (r53, I53, J53)) else none)) else (if v2 = 119 then ((F_X1_addWeather q1 I J v3 v4).bind fun (r56, I56, J56) => (if gbo r56 = true then (some (r56, I56, J56)) else none)) else ((F_X1_tellPair q1 I J (2 : Int32) v3 v4).bind fun (r58, I58, J58) => (if gbo r58 = true then (some (r58, I58, J58)) else none)))))))))))))))))))))
set_option maxHeartbeats 4000000 in
set_option maxRecDepth 100000 in
theorem c_X6_tell (l : Launch) (g : Gx) (ad : Nat → Nat) (I : SI) (J : SJ) (qm : Nat) (q1 : Nat) (v2 : Int32) (v3 : Int32) (v4 : Int32) (hE1 : isE q1) (sz : Nat) {r : Int32} {rI : SI} {rJ : SJ} (h : F_X6_tell q1 I J v2 v3 v4 = some (r, rI, rJ)) : Met l yX6_tell (Cond.code yX6_tell cX6_tell 4 (some .boolean) :: BG) (k2_rm 3 67) (PcWM [.ref (ad q1), .int v2, .int v3, .int v4] g (xW ad g I J) sz qm) (QWi r g (xW ad g I J) (xW ad g rI rJ) sz) 0 0 (va_A (xW ad g I J) sz) := by
  refine mkWMz (by decide) (Nat.le_of_ble_eq_true rfl) ?_
  intro p e s m args below meth c H locs ls A Q hC hK hP hD hA hS hZ hl hret
  have hx := hC.1
  have hb := hC.2.1
  have hts := hC.2.2.2.2
  have hown := hC.2.2.2.1
  replace hl : lv_has ls 4 [(0, .ref (ad q1)), (1, .int v2), (2, .int v3), (3, .int v4)] := hl
  unfold F_X6_tell at h
  refine lv_iload_n hx hb dX6_tell_0 rfl (lv_at hl 1 rfl) ?_
  by_cases c1 : v2 = 101
  · replace h := (if_pos c1).symm.trans h
    refine lv_tableIn (off := 127) (tgt := 128) hx hb dX6_tell_1 (by rw [c1]; decide) (by rw [c1]; decide) (by rw [c1]; decide) (by decide) ?_
    refine lv_aload_n hx hb dX6_tell_128 rfl (lv_at hl 0 rfl) ?_
    refine lv_bipush (v := 6) hx hb dX6_tell_129 (by decide) ?_
    refine lv_iload_n hx hb dX6_tell_131 rfl (lv_at hl 2 rfl) ?_
    refine lv_iload_n hx hb dX6_tell_132 rfl (lv_at hl 3 rfl) ?_
    obtain ⟨⟨r2, I2, J2⟩, hc2, h⟩ := ob h
    dsimp only at h
    refine callWVMi (As := [.int (6 : Int32), .int v3, .int v4]) (rest := []) hC (c_X1_tellPair l g ad I J qm q1 (6 : Int32) v3 v4 hE1 H.size hc2) lk_X6_80 rfl rfl ⟨Nat.le_of_ble_eq_true rfl, Nat.le_of_ble_eq_true rfl⟩ hP hK hD hA hS hZ (xEo hE1) rfl rfl rfl hl (Nat.le_of_ble_eq_true rfl) dX6_tell_133 (fun H locs hP hD hS => ?_)
    obtain ⟨z3, h⟩ := og h
    obtain ⟨h1, h⟩ := Prod.mk.inj (Option.some.inj h)
    obtain ⟨rfl, rfl⟩ := Prod.mk.inj h
    exact hret _ _ _ _ _ dX6_tell_136 (gbo_ok z3).1 h1 hP hD hS
  · replace h := (if_neg c1).symm.trans h
    by_cases c4 : v2 = 102
    · replace h := (if_pos c4).symm.trans h
      refine lv_tableIn (off := 136) (tgt := 137) hx hb dX6_tell_1 (by rw [c4]; decide) (by rw [c4]; decide) (by rw [c4]; decide) (by decide) ?_
      refine lv_aload_n hx hb dX6_tell_137 rfl (lv_at hl 0 rfl) ?_
      refine lv_iconst (v := 2) hx hb dX6_tell_138 (by decide) ?_
      refine lv_iload_n hx hb dX6_tell_139 rfl (lv_at hl 2 rfl) ?_
      refine lv_iload_n hx hb dX6_tell_140 rfl (lv_at hl 3 rfl) ?_
      obtain ⟨⟨r5, I5, J5⟩, hc5, h⟩ := ob h
      dsimp only at h
      refine callWVMi (As := [.int (2 : Int32), .int v3, .int v4]) (rest := []) hC (c_X1_tellPair l g ad I J qm q1 (2 : Int32) v3 v4 hE1 H.size hc5) lk_X6_80 rfl rfl ⟨Nat.le_of_ble_eq_true rfl, Nat.le_of_ble_eq_true rfl⟩ hP hK hD hA hS hZ (xEo hE1) rfl rfl rfl hl (Nat.le_of_ble_eq_true rfl) dX6_tell_141 (fun H locs hP hD hS => ?_)
      obtain ⟨z6, h⟩ := og h
      obtain ⟨h1, h⟩ := Prod.mk.inj (Option.some.inj h)
      obtain ⟨rfl, rfl⟩ := Prod.mk.inj h
      exact hret _ _ _ _ _ dX6_tell_144 (gbo_ok z6).1 h1 hP hD hS
    · replace h := (if_neg c4).symm.trans h
      by_cases c7 : v2 = 103
      · replace h := (if_pos c7).symm.trans h
        refine lv_tableIn (off := 91) (tgt := 92) hx hb dX6_tell_1 (by rw [c7]; decide) (by rw [c7]; decide) (by rw [c7]; decide) (by decide) ?_
        refine lv_aload_n hx hb dX6_tell_92 rfl (lv_at hl 0 rfl) ?_
        refine lv_iconst (v := 0) hx hb dX6_tell_93 (by decide) ?_
        refine lv_iload_n hx hb dX6_tell_94 rfl (lv_at hl 2 rfl) ?_
        obtain ⟨⟨r8, I8, J8⟩, hc8, h⟩ := ob h
        dsimp only at h
        refine callWVMi (As := [.int (0 : Int32), .int v3]) (rest := []) hC (c_X1_tellSetting l g ad I J qm q1 (0 : Int32) v3 hE1 H.size hc8) lk_X6_70 rfl rfl ⟨Nat.le_of_ble_eq_true rfl, Nat.le_of_ble_eq_true rfl⟩ hP hK hD hA hS hZ (xEo hE1) rfl rfl rfl hl (Nat.le_of_ble_eq_true rfl) dX6_tell_95 (fun H locs hP hD hS => ?_)
        obtain ⟨z9, h⟩ := og h
        obtain ⟨h1, h⟩ := Prod.mk.inj (Option.some.inj h)
        obtain ⟨rfl, rfl⟩ := Prod.mk.inj h
        exact hret _ _ _ _ _ dX6_tell_98 (gbo_ok z9).1 h1 hP hD hS
      · replace h := (if_neg c7).symm.trans h
        by_cases c10 : v2 = 104
        · replace h := (if_pos c10).symm.trans h
          refine lv_tableIn (off := 136) (tgt := 137) hx hb dX6_tell_1 (by rw [c10]; decide) (by rw [c10]; decide) (by rw [c10]; decide) (by decide) ?_
          refine lv_aload_n hx hb dX6_tell_137 rfl (lv_at hl 0 rfl) ?_
          refine lv_iconst (v := 2) hx hb dX6_tell_138 (by decide) ?_
          refine lv_iload_n hx hb dX6_tell_139 rfl (lv_at hl 2 rfl) ?_
          refine lv_iload_n hx hb dX6_tell_140 rfl (lv_at hl 3 rfl) ?_
          obtain ⟨⟨r11, I11, J11⟩, hc11, h⟩ := ob h
          dsimp only at h
          refine callWVMi (As := [.int (2 : Int32), .int v3, .int v4]) (rest := []) hC (c_X1_tellPair l g ad I J qm q1 (2 : Int32) v3 v4 hE1 H.size hc11) lk_X6_80 rfl rfl ⟨Nat.le_of_ble_eq_true rfl, Nat.le_of_ble_eq_true rfl⟩ hP hK hD hA hS hZ (xEo hE1) rfl rfl rfl hl (Nat.le_of_ble_eq_true rfl) dX6_tell_141 (fun H locs hP hD hS => ?_)
          obtain ⟨z12, h⟩ := og h
          obtain ⟨h1, h⟩ := Prod.mk.inj (Option.some.inj h)
          obtain ⟨rfl, rfl⟩ := Prod.mk.inj h
          exact hret _ _ _ _ _ dX6_tell_144 (gbo_ok z12).1 h1 hP hD hS
        · replace h := (if_neg c10).symm.trans h
          by_cases c13 : v2 = 105
          · replace h := (if_pos c13).symm.trans h
            refine lv_tableIn (off := 136) (tgt := 137) hx hb dX6_tell_1 (by rw [c13]; decide) (by rw [c13]; decide) (by rw [c13]; decide) (by decide) ?_
            refine lv_aload_n hx hb dX6_tell_137 rfl (lv_at hl 0 rfl) ?_
            refine lv_iconst (v := 2) hx hb dX6_tell_138 (by decide) ?_
            refine lv_iload_n hx hb dX6_tell_139 rfl (lv_at hl 2 rfl) ?_
            refine lv_iload_n hx hb dX6_tell_140 rfl (lv_at hl 3 rfl) ?_
            obtain ⟨⟨r14, I14, J14⟩, hc14, h⟩ := ob h
            dsimp only at h
            refine callWVMi (As := [.int (2 : Int32), .int v3, .int v4]) (rest := []) hC (c_X1_tellPair l g ad I J qm q1 (2 : Int32) v3 v4 hE1 H.size hc14) lk_X6_80 rfl rfl ⟨Nat.le_of_ble_eq_true rfl, Nat.le_of_ble_eq_true rfl⟩ hP hK hD hA hS hZ (xEo hE1) rfl rfl rfl hl (Nat.le_of_ble_eq_true rfl) dX6_tell_141 (fun H locs hP hD hS => ?_)
            obtain ⟨z15, h⟩ := og h
            obtain ⟨h1, h⟩ := Prod.mk.inj (Option.some.inj h)
            obtain ⟨rfl, rfl⟩ := Prod.mk.inj h
            exact hret _ _ _ _ _ dX6_tell_144 (gbo_ok z15).1 h1 hP hD hS
          · replace h := (if_neg c13).symm.trans h
            by_cases c16 : v2 = 106
            · replace h := (if_pos c16).symm.trans h
              refine lv_tableIn (off := 136) (tgt := 137) hx hb dX6_tell_1 (by rw [c16]; decide) (by rw [c16]; decide) (by rw [c16]; decide) (by decide) ?_
              refine lv_aload_n hx hb dX6_tell_137 rfl (lv_at hl 0 rfl) ?_
              refine lv_iconst (v := 2) hx hb dX6_tell_138 (by decide) ?_
              refine lv_iload_n hx hb dX6_tell_139 rfl (lv_at hl 2 rfl) ?_
              refine lv_iload_n hx hb dX6_tell_140 rfl (lv_at hl 3 rfl) ?_
              obtain ⟨⟨r17, I17, J17⟩, hc17, h⟩ := ob h
              dsimp only at h
              refine callWVMi (As := [.int (2 : Int32), .int v3, .int v4]) (rest := []) hC (c_X1_tellPair l g ad I J qm q1 (2 : Int32) v3 v4 hE1 H.size hc17) lk_X6_80 rfl rfl ⟨Nat.le_of_ble_eq_true rfl, Nat.le_of_ble_eq_true rfl⟩ hP hK hD hA hS hZ (xEo hE1) rfl rfl rfl hl (Nat.le_of_ble_eq_true rfl) dX6_tell_141 (fun H locs hP hD hS => ?_)
              obtain ⟨z18, h⟩ := og h
              obtain ⟨h1, h⟩ := Prod.mk.inj (Option.some.inj h)
              obtain ⟨rfl, rfl⟩ := Prod.mk.inj h
              exact hret _ _ _ _ _ dX6_tell_144 (gbo_ok z18).1 h1 hP hD hS
            · replace h := (if_neg c16).symm.trans h
              by_cases c19 : v2 = 107
              · replace h := (if_pos c19).symm.trans h
                refine lv_tableIn (off := 136) (tgt := 137) hx hb dX6_tell_1 (by rw [c19]; decide) (by rw [c19]; decide) (by rw [c19]; decide) (by decide) ?_
                refine lv_aload_n hx hb dX6_tell_137 rfl (lv_at hl 0 rfl) ?_
                refine lv_iconst (v := 2) hx hb dX6_tell_138 (by decide) ?_
                refine lv_iload_n hx hb dX6_tell_139 rfl (lv_at hl 2 rfl) ?_
                refine lv_iload_n hx hb dX6_tell_140 rfl (lv_at hl 3 rfl) ?_
                obtain ⟨⟨r20, I20, J20⟩, hc20, h⟩ := ob h
                dsimp only at h
                refine callWVMi (As := [.int (2 : Int32), .int v3, .int v4]) (rest := []) hC (c_X1_tellPair l g ad I J qm q1 (2 : Int32) v3 v4 hE1 H.size hc20) lk_X6_80 rfl rfl ⟨Nat.le_of_ble_eq_true rfl, Nat.le_of_ble_eq_true rfl⟩ hP hK hD hA hS hZ (xEo hE1) rfl rfl rfl hl (Nat.le_of_ble_eq_true rfl) dX6_tell_141 (fun H locs hP hD hS => ?_)
                obtain ⟨z21, h⟩ := og h
                obtain ⟨h1, h⟩ := Prod.mk.inj (Option.some.inj h)
                obtain ⟨rfl, rfl⟩ := Prod.mk.inj h
                exact hret _ _ _ _ _ dX6_tell_144 (gbo_ok z21).1 h1 hP hD hS
              · replace h := (if_neg c19).symm.trans h
                by_cases c22 : v2 = 108
                · replace h := (if_pos c22).symm.trans h
                  refine lv_tableIn (off := 136) (tgt := 137) hx hb dX6_tell_1 (by rw [c22]; decide) (by rw [c22]; decide) (by rw [c22]; decide) (by decide) ?_
                  refine lv_aload_n hx hb dX6_tell_137 rfl (lv_at hl 0 rfl) ?_
                  refine lv_iconst (v := 2) hx hb dX6_tell_138 (by decide) ?_
                  refine lv_iload_n hx hb dX6_tell_139 rfl (lv_at hl 2 rfl) ?_
                  refine lv_iload_n hx hb dX6_tell_140 rfl (lv_at hl 3 rfl) ?_
                  obtain ⟨⟨r23, I23, J23⟩, hc23, h⟩ := ob h
                  dsimp only at h
                  refine callWVMi (As := [.int (2 : Int32), .int v3, .int v4]) (rest := []) hC (c_X1_tellPair l g ad I J qm q1 (2 : Int32) v3 v4 hE1 H.size hc23) lk_X6_80 rfl rfl ⟨Nat.le_of_ble_eq_true rfl, Nat.le_of_ble_eq_true rfl⟩ hP hK hD hA hS hZ (xEo hE1) rfl rfl rfl hl (Nat.le_of_ble_eq_true rfl) dX6_tell_141 (fun H locs hP hD hS => ?_)
                  obtain ⟨z24, h⟩ := og h
                  obtain ⟨h1, h⟩ := Prod.mk.inj (Option.some.inj h)
                  obtain ⟨rfl, rfl⟩ := Prod.mk.inj h
                  exact hret _ _ _ _ _ dX6_tell_144 (gbo_ok z24).1 h1 hP hD hS
                · replace h := (if_neg c22).symm.trans h
                  by_cases c25 : v2 = 109
                  · replace h := (if_pos c25).symm.trans h
                    refine lv_tableIn (off := 119) (tgt := 120) hx hb dX6_tell_1 (by rw [c25]; decide) (by rw [c25]; decide) (by rw [c25]; decide) (by decide) ?_
                    refine lv_aload_n hx hb dX6_tell_120 rfl (lv_at hl 0 rfl) ?_
                    refine lv_iconst (v := 4) hx hb dX6_tell_121 (by decide) ?_
                    refine lv_iload_n hx hb dX6_tell_122 rfl (lv_at hl 2 rfl) ?_
                    refine lv_iload_n hx hb dX6_tell_123 rfl (lv_at hl 3 rfl) ?_
                    obtain ⟨⟨r26, I26, J26⟩, hc26, h⟩ := ob h
                    dsimp only at h
                    refine callWVMi (As := [.int (4 : Int32), .int v3, .int v4]) (rest := []) hC (c_X1_tellPair l g ad I J qm q1 (4 : Int32) v3 v4 hE1 H.size hc26) lk_X6_80 rfl rfl ⟨Nat.le_of_ble_eq_true rfl, Nat.le_of_ble_eq_true rfl⟩ hP hK hD hA hS hZ (xEo hE1) rfl rfl rfl hl (Nat.le_of_ble_eq_true rfl) dX6_tell_124 (fun H locs hP hD hS => ?_)
                    obtain ⟨z27, h⟩ := og h
                    obtain ⟨h1, h⟩ := Prod.mk.inj (Option.some.inj h)
                    obtain ⟨rfl, rfl⟩ := Prod.mk.inj h
                    exact hret _ _ _ _ _ dX6_tell_127 (gbo_ok z27).1 h1 hP hD hS
                  · replace h := (if_neg c25).symm.trans h
                    by_cases c28 : v2 = 110
                    · replace h := (if_pos c28).symm.trans h
                      refine lv_tableIn (off := 136) (tgt := 137) hx hb dX6_tell_1 (by rw [c28]; decide) (by rw [c28]; decide) (by rw [c28]; decide) (by decide) ?_
                      refine lv_aload_n hx hb dX6_tell_137 rfl (lv_at hl 0 rfl) ?_
                      refine lv_iconst (v := 2) hx hb dX6_tell_138 (by decide) ?_
                      refine lv_iload_n hx hb dX6_tell_139 rfl (lv_at hl 2 rfl) ?_
                      refine lv_iload_n hx hb dX6_tell_140 rfl (lv_at hl 3 rfl) ?_
                      obtain ⟨⟨r29, I29, J29⟩, hc29, h⟩ := ob h
                      dsimp only at h
                      refine callWVMi (As := [.int (2 : Int32), .int v3, .int v4]) (rest := []) hC (c_X1_tellPair l g ad I J qm q1 (2 : Int32) v3 v4 hE1 H.size hc29) lk_X6_80 rfl rfl ⟨Nat.le_of_ble_eq_true rfl, Nat.le_of_ble_eq_true rfl⟩ hP hK hD hA hS hZ (xEo hE1) rfl rfl rfl hl (Nat.le_of_ble_eq_true rfl) dX6_tell_141 (fun H locs hP hD hS => ?_)
                      obtain ⟨z30, h⟩ := og h
                      obtain ⟨h1, h⟩ := Prod.mk.inj (Option.some.inj h)
                      obtain ⟨rfl, rfl⟩ := Prod.mk.inj h
                      exact hret _ _ _ _ _ dX6_tell_144 (gbo_ok z30).1 h1 hP hD hS
                    · replace h := (if_neg c28).symm.trans h
                      by_cases c31 : v2 = 111
                      · replace h := (if_pos c31).symm.trans h
                        refine lv_tableIn (off := 98) (tgt := 99) hx hb dX6_tell_1 (by rw [c31]; decide) (by rw [c31]; decide) (by rw [c31]; decide) (by decide) ?_
                        refine lv_aload_n hx hb dX6_tell_99 rfl (lv_at hl 0 rfl) ?_
                        refine lv_iconst (v := 1) hx hb dX6_tell_100 (by decide) ?_
                        refine lv_iload_n hx hb dX6_tell_101 rfl (lv_at hl 2 rfl) ?_
                        obtain ⟨⟨r32, I32, J32⟩, hc32, h⟩ := ob h
                        dsimp only at h
                        refine callWVMi (As := [.int (1 : Int32), .int v3]) (rest := []) hC (c_X1_tellSetting l g ad I J qm q1 (1 : Int32) v3 hE1 H.size hc32) lk_X6_70 rfl rfl ⟨Nat.le_of_ble_eq_true rfl, Nat.le_of_ble_eq_true rfl⟩ hP hK hD hA hS hZ (xEo hE1) rfl rfl rfl hl (Nat.le_of_ble_eq_true rfl) dX6_tell_102 (fun H locs hP hD hS => ?_)
                        obtain ⟨z33, h⟩ := og h
                        obtain ⟨h1, h⟩ := Prod.mk.inj (Option.some.inj h)
                        obtain ⟨rfl, rfl⟩ := Prod.mk.inj h
                        exact hret _ _ _ _ _ dX6_tell_105 (gbo_ok z33).1 h1 hP hD hS
                      · replace h := (if_neg c31).symm.trans h
                        by_cases c34 : v2 = 112
                        · replace h := (if_pos c34).symm.trans h
                          refine lv_tableIn (off := 105) (tgt := 106) hx hb dX6_tell_1 (by rw [c34]; decide) (by rw [c34]; decide) (by rw [c34]; decide) (by decide) ?_
                          refine lv_aload_n hx hb dX6_tell_106 rfl (lv_at hl 0 rfl) ?_
                          refine lv_iload_n hx hb dX6_tell_107 rfl (lv_at hl 2 rfl) ?_
                          refine lv_iload_n hx hb dX6_tell_108 rfl (lv_at hl 3 rfl) ?_
                          obtain ⟨⟨r35, I35, J35⟩, hc35, h⟩ := ob h
                          dsimp only at h
                          refine callWVi (As := [.int v3, .int v4]) (rest := []) hC (c_X1_addStep l g ad I J q1 v3 v4 hE1 H.size hc35) lk_X6_74 rfl rfl ⟨Nat.le_of_ble_eq_true rfl, Nat.le_of_ble_eq_true rfl⟩ hP hK hD hA hS (xEo hE1) rfl rfl rfl hl (Nat.le_of_ble_eq_true rfl) dX6_tell_109 (fun H locs hP hD hS => ?_)
                          obtain ⟨z36, h⟩ := og h
                          obtain ⟨h1, h⟩ := Prod.mk.inj (Option.some.inj h)
                          obtain ⟨rfl, rfl⟩ := Prod.mk.inj h
                          exact hret _ _ _ _ _ dX6_tell_112 (gbo_ok z36).1 h1 hP hD hS
                        · replace h := (if_neg c34).symm.trans h
                          by_cases c37 : v2 = 113
                          · replace h := (if_pos c37).symm.trans h
                            refine lv_tableIn (off := 136) (tgt := 137) hx hb dX6_tell_1 (by rw [c37]; decide) (by rw [c37]; decide) (by rw [c37]; decide) (by decide) ?_
                            refine lv_aload_n hx hb dX6_tell_137 rfl (lv_at hl 0 rfl) ?_
                            refine lv_iconst (v := 2) hx hb dX6_tell_138 (by decide) ?_
                            refine lv_iload_n hx hb dX6_tell_139 rfl (lv_at hl 2 rfl) ?_
                            refine lv_iload_n hx hb dX6_tell_140 rfl (lv_at hl 3 rfl) ?_
                            obtain ⟨⟨r38, I38, J38⟩, hc38, h⟩ := ob h
                            dsimp only at h
                            refine callWVMi (As := [.int (2 : Int32), .int v3, .int v4]) (rest := []) hC (c_X1_tellPair l g ad I J qm q1 (2 : Int32) v3 v4 hE1 H.size hc38) lk_X6_80 rfl rfl ⟨Nat.le_of_ble_eq_true rfl, Nat.le_of_ble_eq_true rfl⟩ hP hK hD hA hS hZ (xEo hE1) rfl rfl rfl hl (Nat.le_of_ble_eq_true rfl) dX6_tell_141 (fun H locs hP hD hS => ?_)
                            obtain ⟨z39, h⟩ := og h
                            obtain ⟨h1, h⟩ := Prod.mk.inj (Option.some.inj h)
                            obtain ⟨rfl, rfl⟩ := Prod.mk.inj h
                            exact hret _ _ _ _ _ dX6_tell_144 (gbo_ok z39).1 h1 hP hD hS
                          · replace h := (if_neg c37).symm.trans h
                            by_cases c40 : v2 = 114
                            · replace h := (if_pos c40).symm.trans h
                              refine lv_tableIn (off := 136) (tgt := 137) hx hb dX6_tell_1 (by rw [c40]; decide) (by rw [c40]; decide) (by rw [c40]; decide) (by decide) ?_
                              refine lv_aload_n hx hb dX6_tell_137 rfl (lv_at hl 0 rfl) ?_
                              refine lv_iconst (v := 2) hx hb dX6_tell_138 (by decide) ?_
                              refine lv_iload_n hx hb dX6_tell_139 rfl (lv_at hl 2 rfl) ?_
                              refine lv_iload_n hx hb dX6_tell_140 rfl (lv_at hl 3 rfl) ?_
                              obtain ⟨⟨r41, I41, J41⟩, hc41, h⟩ := ob h
                              dsimp only at h
                              refine callWVMi (As := [.int (2 : Int32), .int v3, .int v4]) (rest := []) hC (c_X1_tellPair l g ad I J qm q1 (2 : Int32) v3 v4 hE1 H.size hc41) lk_X6_80 rfl rfl ⟨Nat.le_of_ble_eq_true rfl, Nat.le_of_ble_eq_true rfl⟩ hP hK hD hA hS hZ (xEo hE1) rfl rfl rfl hl (Nat.le_of_ble_eq_true rfl) dX6_tell_141 (fun H locs hP hD hS => ?_)
                              obtain ⟨z42, h⟩ := og h
                              obtain ⟨h1, h⟩ := Prod.mk.inj (Option.some.inj h)
                              obtain ⟨rfl, rfl⟩ := Prod.mk.inj h
                              exact hret _ _ _ _ _ dX6_tell_144 (gbo_ok z42).1 h1 hP hD hS
                            · replace h := (if_neg c40).symm.trans h
                              by_cases c43 : v2 = 115
                              · replace h := (if_pos c43).symm.trans h
                                refine lv_tableIn (off := 136) (tgt := 137) hx hb dX6_tell_1 (by rw [c43]; decide) (by rw [c43]; decide) (by rw [c43]; decide) (by decide) ?_
                                refine lv_aload_n hx hb dX6_tell_137 rfl (lv_at hl 0 rfl) ?_
                                refine lv_iconst (v := 2) hx hb dX6_tell_138 (by decide) ?_
                                refine lv_iload_n hx hb dX6_tell_139 rfl (lv_at hl 2 rfl) ?_
                                refine lv_iload_n hx hb dX6_tell_140 rfl (lv_at hl 3 rfl) ?_
                                obtain ⟨⟨r44, I44, J44⟩, hc44, h⟩ := ob h
                                dsimp only at h
                                refine callWVMi (As := [.int (2 : Int32), .int v3, .int v4]) (rest := []) hC (c_X1_tellPair l g ad I J qm q1 (2 : Int32) v3 v4 hE1 H.size hc44) lk_X6_80 rfl rfl ⟨Nat.le_of_ble_eq_true rfl, Nat.le_of_ble_eq_true rfl⟩ hP hK hD hA hS hZ (xEo hE1) rfl rfl rfl hl (Nat.le_of_ble_eq_true rfl) dX6_tell_141 (fun H locs hP hD hS => ?_)
                                obtain ⟨z45, h⟩ := og h
                                obtain ⟨h1, h⟩ := Prod.mk.inj (Option.some.inj h)
                                obtain ⟨rfl, rfl⟩ := Prod.mk.inj h
                                exact hret _ _ _ _ _ dX6_tell_144 (gbo_ok z45).1 h1 hP hD hS
                              · replace h := (if_neg c43).symm.trans h
                                by_cases c46 : v2 = 116
                                · replace h := (if_pos c46).symm.trans h
                                  refine lv_tableIn (off := 136) (tgt := 137) hx hb dX6_tell_1 (by rw [c46]; decide) (by rw [c46]; decide) (by rw [c46]; decide) (by decide) ?_
                                  refine lv_aload_n hx hb dX6_tell_137 rfl (lv_at hl 0 rfl) ?_
                                  refine lv_iconst (v := 2) hx hb dX6_tell_138 (by decide) ?_
                                  refine lv_iload_n hx hb dX6_tell_139 rfl (lv_at hl 2 rfl) ?_
                                  refine lv_iload_n hx hb dX6_tell_140 rfl (lv_at hl 3 rfl) ?_
                                  obtain ⟨⟨r47, I47, J47⟩, hc47, h⟩ := ob h
                                  dsimp only at h
                                  refine callWVMi (As := [.int (2 : Int32), .int v3, .int v4]) (rest := []) hC (c_X1_tellPair l g ad I J qm q1 (2 : Int32) v3 v4 hE1 H.size hc47) lk_X6_80 rfl rfl ⟨Nat.le_of_ble_eq_true rfl, Nat.le_of_ble_eq_true rfl⟩ hP hK hD hA hS hZ (xEo hE1) rfl rfl rfl hl (Nat.le_of_ble_eq_true rfl) dX6_tell_141 (fun H locs hP hD hS => ?_)
                                  obtain ⟨z48, h⟩ := og h
                                  obtain ⟨h1, h⟩ := Prod.mk.inj (Option.some.inj h)
                                  obtain ⟨rfl, rfl⟩ := Prod.mk.inj h
                                  exact hret _ _ _ _ _ dX6_tell_144 (gbo_ok z48).1 h1 hP hD hS
                                · replace h := (if_neg c46).symm.trans h
                                  by_cases c49 : v2 = 117
                                  · replace h := (if_pos c49).symm.trans h
                                    refine lv_tableIn (off := 136) (tgt := 137) hx hb dX6_tell_1 (by rw [c49]; decide) (by rw [c49]; decide) (by rw [c49]; decide) (by decide) ?_
                                    refine lv_aload_n hx hb dX6_tell_137 rfl (lv_at hl 0 rfl) ?_
                                    refine lv_iconst (v := 2) hx hb dX6_tell_138 (by decide) ?_
                                    refine lv_iload_n hx hb dX6_tell_139 rfl (lv_at hl 2 rfl) ?_
                                    refine lv_iload_n hx hb dX6_tell_140 rfl (lv_at hl 3 rfl) ?_
                                    obtain ⟨⟨r50, I50, J50⟩, hc50, h⟩ := ob h
                                    dsimp only at h
                                    refine callWVMi (As := [.int (2 : Int32), .int v3, .int v4]) (rest := []) hC (c_X1_tellPair l g ad I J qm q1 (2 : Int32) v3 v4 hE1 H.size hc50) lk_X6_80 rfl rfl ⟨Nat.le_of_ble_eq_true rfl, Nat.le_of_ble_eq_true rfl⟩ hP hK hD hA hS hZ (xEo hE1) rfl rfl rfl hl (Nat.le_of_ble_eq_true rfl) dX6_tell_141 (fun H locs hP hD hS => ?_)
                                    obtain ⟨z51, h⟩ := og h
                                    obtain ⟨h1, h⟩ := Prod.mk.inj (Option.some.inj h)
                                    obtain ⟨rfl, rfl⟩ := Prod.mk.inj h
                                    exact hret _ _ _ _ _ dX6_tell_144 (gbo_ok z51).1 h1 hP hD hS
                                  · replace h := (if_neg c49).symm.trans h
                                    by_cases c52 : v2 = 118
                                    · replace h := (if_pos c52).symm.trans h
                                      refine lv_tableIn (off := 136) (tgt := 137) hx hb dX6_tell_1 (by rw [c52]; decide) (by rw [c52]; decide) (by rw [c52]; decide) (by decide) ?_
                                      refine lv_aload_n hx hb dX6_tell_137 rfl (lv_at hl 0 rfl) ?_
                                      refine lv_iconst (v := 2) hx hb dX6_tell_138 (by decide) ?_
                                      refine lv_iload_n hx hb dX6_tell_139 rfl (lv_at hl 2 rfl) ?_
                                      refine lv_iload_n hx hb dX6_tell_140 rfl (lv_at hl 3 rfl) ?_
                                      obtain ⟨⟨r53, I53, J53⟩, hc53, h⟩ := ob h
                                      dsimp only at h
                                      refine callWVMi (As := [.int (2 : Int32), .int v3, .int v4]) (rest := []) hC (c_X1_tellPair l g ad I J qm q1 (2 : Int32) v3 v4 hE1 H.size hc53) lk_X6_80 rfl rfl ⟨Nat.le_of_ble_eq_true rfl, Nat.le_of_ble_eq_true rfl⟩ hP hK hD hA hS hZ (xEo hE1) rfl rfl rfl hl (Nat.le_of_ble_eq_true rfl) dX6_tell_141 (fun H locs hP hD hS => ?_)
                                      obtain ⟨z54, h⟩ := og h
                                      obtain ⟨h1, h⟩ := Prod.mk.inj (Option.some.inj h)
                                      obtain ⟨rfl, rfl⟩ := Prod.mk.inj h
                                      exact hret _ _ _ _ _ dX6_tell_144 (gbo_ok z54).1 h1 hP hD hS
                                    · replace h := (if_neg c52).symm.trans h
                                      by_cases c55 : v2 = 119
                                      · replace h := (if_pos c55).symm.trans h
                                        refine lv_tableIn (off := 112) (tgt := 113) hx hb dX6_tell_1 (by rw [c55]; decide) (by rw [c55]; decide) (by rw [c55]; decide) (by decide) ?_
                                        refine lv_aload_n hx hb dX6_tell_113 rfl (lv_at hl 0 rfl) ?_
                                        refine lv_iload_n hx hb dX6_tell_114 rfl (lv_at hl 2 rfl) ?_
                                        refine lv_iload_n hx hb dX6_tell_115 rfl (lv_at hl 3 rfl) ?_
                                        obtain ⟨⟨r56, I56, J56⟩, hc56, h⟩ := ob h
                                        dsimp only at h
                                        refine callWVi (As := [.int v3, .int v4]) (rest := []) hC (c_X1_addWeather l g ad I J q1 v3 v4 hE1 H.size hc56) lk_X6_77 rfl rfl ⟨Nat.le_of_ble_eq_true rfl, Nat.le_of_ble_eq_true rfl⟩ hP hK hD hA hS (xEo hE1) rfl rfl rfl hl (Nat.le_of_ble_eq_true rfl) dX6_tell_116 (fun H locs hP hD hS => ?_)
                                        obtain ⟨z57, h⟩ := og h
                                        obtain ⟨h1, h⟩ := Prod.mk.inj (Option.some.inj h)
                                        obtain ⟨rfl, rfl⟩ := Prod.mk.inj h
                                        exact hret _ _ _ _ _ dX6_tell_119 (gbo_ok z57).1 h1 hP hD hS
                                      · replace h := (if_neg c55).symm.trans h
                                        refine lv_tableOut (tgt := 137) hx hb dX6_tell_1 (by have ec1 := ti_ne (n := 101) (by decide) c1; have ec4 := ti_ne (n := 102) (by decide) c4; have ec7 := ti_ne (n := 103) (by decide) c7; have ec10 := ti_ne (n := 104) (by decide) c10; have ec13 := ti_ne (n := 105) (by decide) c13; have ec16 := ti_ne (n := 106) (by decide) c16; have ec19 := ti_ne (n := 107) (by decide) c19; have ec22 := ti_ne (n := 108) (by decide) c22; have ec25 := ti_ne (n := 109) (by decide) c25; have ec28 := ti_ne (n := 110) (by decide) c28; have ec31 := ti_ne (n := 111) (by decide) c31; have ec34 := ti_ne (n := 112) (by decide) c34; have ec37 := ti_ne (n := 113) (by decide) c37; have ec40 := ti_ne (n := 114) (by decide) c40; have ec43 := ti_ne (n := 115) (by decide) c43; have ec46 := ti_ne (n := 116) (by decide) c46; have ec49 := ti_ne (n := 117) (by decide) c49; have ec52 := ti_ne (n := 118) (by decide) c52; have ec55 := ti_ne (n := 119) (by decide) c55; omega) (by decide) ?_
                                        refine lv_aload_n hx hb dX6_tell_137 rfl (lv_at hl 0 rfl) ?_
                                        refine lv_iconst (v := 2) hx hb dX6_tell_138 (by decide) ?_
                                        refine lv_iload_n hx hb dX6_tell_139 rfl (lv_at hl 2 rfl) ?_
                                        refine lv_iload_n hx hb dX6_tell_140 rfl (lv_at hl 3 rfl) ?_
                                        obtain ⟨⟨r58, I58, J58⟩, hc58, h⟩ := ob h
                                        dsimp only at h
                                        refine callWVMi (As := [.int (2 : Int32), .int v3, .int v4]) (rest := []) hC (c_X1_tellPair l g ad I J qm q1 (2 : Int32) v3 v4 hE1 H.size hc58) lk_X6_80 rfl rfl ⟨Nat.le_of_ble_eq_true rfl, Nat.le_of_ble_eq_true rfl⟩ hP hK hD hA hS hZ (xEo hE1) rfl rfl rfl hl (Nat.le_of_ble_eq_true rfl) dX6_tell_141 (fun H locs hP hD hS => ?_)
                                        obtain ⟨z59, h⟩ := og h
                                        obtain ⟨h1, h⟩ := Prod.mk.inj (Option.some.inj h)
                                        obtain ⟨rfl, rfl⟩ := Prod.mk.inj h
                                        exact hret _ _ _ _ _ dX6_tell_144 (gbo_ok z59).1 h1 hP hD hS
def F_X6_readStatement (q1 : Nat) (I : SI) (J : SJ) : Option (Int32 × SI × SJ) := ((F_X6_here I J).bind fun r1 => ((F_X6_number (u2 I 45 2 ((I 45 2) + (1 : Int32))) J).bind fun (r2, I2, J2) => ((F_X6_skip I2 J2 (44 : Int32)).bind fun (r3, I3, J3) => (if r3 = 0 then ((F_X6_tell q1 (u2 I3 45 2 ((I3 45 2) + (1 : Int32))) J3 r1 r2 (0 : Int32)).bind fun (r5, I5, J5) => (if r5 = 0 then (some ((0 : Int32), I5, J5)) else (some ((1 : Int32), I5, J5)))) else ((F_X6_number I3 J3).bind fun (r7, I7, J7) => ((F_X6_tell q1 (u2 I7 45 2 ((I7 45 2) + (1 : Int32))) J7 r1 r2 r7).bind fun (r8, I8, J8) => (if r8 = 0 then (some ((0 : Int32), I8, J8)) else (some ((1 : Int32), I8, J8)))))))))
set_option maxHeartbeats 4000000 in
set_option maxRecDepth 100000 in
theorem c_X6_readStatement (l : Launch) (g : Gx) (ad : Nat → Nat) (I : SI) (J : SJ) (qm : Nat) (q1 : Nat) (hE1 : isE q1) (sz : Nat) {r : Int32} {rI : SI} {rJ : SJ} (h : F_X6_readStatement q1 I J = some (r, rI, rJ)) : Met l yX6_readStatement (Cond.code yX6_readStatement cX6_readStatement 5 (some .boolean) :: BG) (k2_rm 4 90) (PcWM [.ref (ad 45), .ref (ad q1)] g (xW ad g I J) sz qm) (QWi r g (xW ad g I J) (xW ad g rI rJ) sz) 0 0 (va_A (xW ad g I J) sz) := by
  refine mkWMz (by decide) (Nat.le_of_ble_eq_true rfl) ?_
  intro p e s m args below meth c H locs ls A Q hC hK hP hD hA hS hZ hl hret
  have hx := hC.1
  have hb := hC.2.1
  have hts := hC.2.2.2.2
  have hown := hC.2.2.2.1
  replace hl : lv_has ls 5 [(0, .ref (ad 45)), (1, .ref (ad q1))] := hl
  unfold F_X6_readStatement at h
  refine lv_aload_n hx hb dX6_readStatement_0 rfl (lv_at hl 0 rfl) ?_
  obtain ⟨r1, hc1, h⟩ := ob h
  refine callRV (As := []) (rest := []) hC (c_X6_here l g ad I J   hc1) lk_X6_32 rfl rfl ⟨Nat.le_of_ble_eq_true rfl, Nat.le_of_ble_eq_true rfl⟩ hP hK xo_45 rfl rfl rfl hl (Nat.le_of_ble_eq_true rfl) dX6_readStatement_1 ?_
  refine lv_istore_n (lv' := [(2, .int r1), (0, .ref (ad 45)), (1, .ref (ad q1))]) hx hb dX6_readStatement_4 rfl hl (by decide) rfl (fun ls hl => ?_)
  refine lv_aload_n hx hb dX6_readStatement_5 rfl (lv_at hl 1 rfl) ?_
  refine lv_dup hx hb dX6_readStatement_6 rfl ?_
  refine gt_X6_25 hC hK hP dX6_readStatement_7 ?_
  refine lv_iconst (v := 1) hx hb dX6_readStatement_10 (by decide) ?_
  refine lv_iadd hx hb dX6_readStatement_11 ?_
  refine pt_X6_25 hC hK hP hD hS dX6_readStatement_12 (fun H locs hP hD hS => ?_)
  refine lv_aload_n hx hb dX6_readStatement_15 rfl (lv_at hl 1 rfl) ?_
  obtain ⟨⟨r2, I2, J2⟩, hc2, h⟩ := ob h
  dsimp only at h
  refine callWVi (As := []) (rest := []) hC (c_X6_number l g ad (u2 I 45 2 ((I 45 2) + (1 : Int32))) J   H.size hc2) lk_X6_42 rfl rfl ⟨Nat.le_of_ble_eq_true rfl, Nat.le_of_ble_eq_true rfl⟩ hP hK hD hA hS xo_45 rfl rfl rfl hl (Nat.le_of_ble_eq_true rfl) dX6_readStatement_16 (fun H locs hP hD hS => ?_)
  refine lv_istore_n (lv' := [(3, .int r2), (2, .int r1), (0, .ref (ad 45)), (1, .ref (ad q1))]) hx hb dX6_readStatement_19 rfl hl (by decide) rfl (fun ls hl => ?_)
  refine lv_iconst (v := 0) hx hb dX6_readStatement_20 (by decide) ?_
  refine lv_istore (lv' := [(4, .int (0 : Int32)), (3, .int r2), (2, .int r1), (0, .ref (ad 45)), (1, .ref (ad q1))]) hx hb dX6_readStatement_21 hl (by decide) rfl (fun ls hl => ?_)
  refine lv_aload_n hx hb dX6_readStatement_23 rfl (lv_at hl 3 rfl) ?_
  refine lv_bipush (v := 44) hx hb dX6_readStatement_24 (by decide) ?_
  obtain ⟨⟨r3, I3, J3⟩, hc3, h⟩ := ob h
  dsimp only at h
  refine callWVi (As := [.int (44 : Int32)]) (rest := []) hC (c_X6_skip l g ad I2 J2 (44 : Int32)  H.size hc3) lk_X6_60 rfl rfl ⟨Nat.le_of_ble_eq_true rfl, Nat.le_of_ble_eq_true rfl⟩ hP hK hD hA hS xo_45 rfl rfl rfl hl (Nat.le_of_ble_eq_true rfl) dX6_readStatement_26 (fun H locs hP hD hS => ?_)
  refine lv_if_eq (tgt := 38) hx hb dX6_readStatement_29 (by decide) (fun c4 => ?_) (fun c4 => ?_)
  · replace h := (if_pos c4).symm.trans h
    refine lv_aload_n hx hb dX6_readStatement_38 rfl (lv_at hl 3 rfl) ?_
    refine lv_dup hx hb dX6_readStatement_39 rfl ?_
    refine gt_X6_25 hC hK hP dX6_readStatement_40 ?_
    refine lv_iconst (v := 1) hx hb dX6_readStatement_43 (by decide) ?_
    refine lv_iadd hx hb dX6_readStatement_44 ?_
    refine pt_X6_25 hC hK hP hD hS dX6_readStatement_45 (fun H locs hP hD hS => ?_)
    refine lv_aload_n hx hb dX6_readStatement_48 rfl (lv_at hl 4 rfl) ?_
    refine lv_ifnull hx hb dX6_readStatement_49 ?_
    refine lv_aload_n hx hb dX6_readStatement_52 rfl (lv_at hl 4 rfl) ?_
    refine lv_iload_n hx hb dX6_readStatement_53 rfl (lv_at hl 2 rfl) ?_
    refine lv_iload_n hx hb dX6_readStatement_54 rfl (lv_at hl 1 rfl) ?_
    refine lv_iload hx hb dX6_readStatement_55 (lv_at hl 0 rfl) ?_
    obtain ⟨⟨r5, I5, J5⟩, hc5, h⟩ := ob h
    dsimp only at h
    refine callWSMi (As := [.ref (ad q1), .int r1, .int r2, .int (0 : Int32)]) (rest := []) hC (c_X6_tell l g ad (u2 I3 45 2 ((I3 45 2) + (1 : Int32))) J3 qm q1 r1 r2 (0 : Int32) hE1 H.size hc5) lk_X6_64 rfl rfl ⟨Nat.le_of_ble_eq_true rfl, Nat.le_of_ble_eq_true rfl⟩ hP hK hD hA hS hZ rfl rfl hl (Nat.le_of_ble_eq_true rfl) dX6_readStatement_57 (fun H locs hP hD hS => ?_)
    refine lv_if_eq (tgt := 67) hx hb dX6_readStatement_60 (by decide) (fun c6 => ?_) (fun c6 => ?_)
    · replace h := (if_pos c6).symm.trans h
      refine lv_iconst (v := 0) hx hb dX6_readStatement_67 (by decide) ?_
      obtain ⟨h1, h⟩ := Prod.mk.inj (Option.some.inj h)
      obtain ⟨rfl, rfl⟩ := Prod.mk.inj h
      exact hret _ _ _ _ _ dX6_readStatement_68 rfl h1 hP hD hS
    · replace h := (if_neg c6).symm.trans h
      refine lv_iconst (v := 1) hx hb dX6_readStatement_63 (by decide) ?_
      refine lv_goto (tgt := 68) hx hb dX6_readStatement_64 (by decide) ?_
      obtain ⟨h1, h⟩ := Prod.mk.inj (Option.some.inj h)
      obtain ⟨rfl, rfl⟩ := Prod.mk.inj h
      exact hret _ _ _ _ _ dX6_readStatement_68 rfl h1 hP hD hS
  · replace h := (if_neg c4).symm.trans h
    refine lv_aload_n hx hb dX6_readStatement_32 rfl (lv_at hl 3 rfl) ?_
    obtain ⟨⟨r7, I7, J7⟩, hc7, h⟩ := ob h
    dsimp only at h
    refine callWVi (As := []) (rest := []) hC (c_X6_number l g ad I3 J3   H.size hc7) lk_X6_42 rfl rfl ⟨Nat.le_of_ble_eq_true rfl, Nat.le_of_ble_eq_true rfl⟩ hP hK hD hA hS xo_45 rfl rfl rfl hl (Nat.le_of_ble_eq_true rfl) dX6_readStatement_33 (fun H locs hP hD hS => ?_)
    refine lv_istore (lv' := [(4, .int r7), (3, .int r2), (2, .int r1), (0, .ref (ad 45)), (1, .ref (ad q1))]) hx hb dX6_readStatement_36 hl (by decide) rfl (fun ls hl => ?_)
    refine lv_aload_n hx hb dX6_readStatement_38 rfl (lv_at hl 3 rfl) ?_
    refine lv_dup hx hb dX6_readStatement_39 rfl ?_
    refine gt_X6_25 hC hK hP dX6_readStatement_40 ?_
    refine lv_iconst (v := 1) hx hb dX6_readStatement_43 (by decide) ?_
    refine lv_iadd hx hb dX6_readStatement_44 ?_
    refine pt_X6_25 hC hK hP hD hS dX6_readStatement_45 (fun H locs hP hD hS => ?_)
    refine lv_aload_n hx hb dX6_readStatement_48 rfl (lv_at hl 4 rfl) ?_
    refine lv_ifnull hx hb dX6_readStatement_49 ?_
    refine lv_aload_n hx hb dX6_readStatement_52 rfl (lv_at hl 4 rfl) ?_
    refine lv_iload_n hx hb dX6_readStatement_53 rfl (lv_at hl 2 rfl) ?_
    refine lv_iload_n hx hb dX6_readStatement_54 rfl (lv_at hl 1 rfl) ?_
    refine lv_iload hx hb dX6_readStatement_55 (lv_at hl 0 rfl) ?_
    obtain ⟨⟨r8, I8, J8⟩, hc8, h⟩ := ob h
    dsimp only at h
    refine callWSMi (As := [.ref (ad q1), .int r1, .int r2, .int r7]) (rest := []) hC (c_X6_tell l g ad (u2 I7 45 2 ((I7 45 2) + (1 : Int32))) J7 qm q1 r1 r2 r7 hE1 H.size hc8) lk_X6_64 rfl rfl ⟨Nat.le_of_ble_eq_true rfl, Nat.le_of_ble_eq_true rfl⟩ hP hK hD hA hS hZ rfl rfl hl (Nat.le_of_ble_eq_true rfl) dX6_readStatement_57 (fun H locs hP hD hS => ?_)
    refine lv_if_eq (tgt := 67) hx hb dX6_readStatement_60 (by decide) (fun c9 => ?_) (fun c9 => ?_)
    · replace h := (if_pos c9).symm.trans h
      refine lv_iconst (v := 0) hx hb dX6_readStatement_67 (by decide) ?_
      obtain ⟨h1, h⟩ := Prod.mk.inj (Option.some.inj h)
      obtain ⟨rfl, rfl⟩ := Prod.mk.inj h
      exact hret _ _ _ _ _ dX6_readStatement_68 rfl h1 hP hD hS
    · replace h := (if_neg c9).symm.trans h
      refine lv_iconst (v := 1) hx hb dX6_readStatement_63 (by decide) ?_
      refine lv_goto (tgt := 68) hx hb dX6_readStatement_64 (by decide) ?_
      obtain ⟨h1, h⟩ := Prod.mk.inj (Option.some.inj h)
      obtain ⟨rfl, rfl⟩ := Prod.mk.inj h
      exact hret _ _ _ _ _ dX6_readStatement_68 rfl h1 hP hD hS
def FL_X6_readField_26  : Nat → SI → SJ → Nat → Int32 → Int32 → Option (Int32 × SI × SJ)
  | 0, _, _, _, _, _ => none
  | n + 1, I, J, w1_26, w3_26, w4_26 => (if (64 : Int32) ≤ w4_26 then (some (w3_26, I, J)) else (if (I 45 1) ≤ (I 45 2) then (some (w3_26, I, J)) else ((F_X6_readStatement w1_26 I J).bind fun (r5, I5, J5) => (if r5 = 0 then (some (((-2000 : Int32) - (I 45 2)), I5, J5)) else (FL_X6_readField_26 n I5 J5 w1_26 (w3_26 + 1) (w4_26 + 1))))))
def F_X6_readField (q1 : Nat) (I : SI) (J : SJ) : Option (Int32 × SI × SJ) := ((F_X6_fieldFault I J).bind fun (r1, I1, J1) => (if r1 = (-1 : Int32) then (FL_X6_readField_26 3000 (u2 I1 45 2 (0 : Int32)) J1 q1 (0 : Int32) (0 : Int32)) else (some (((-1000 : Int32) - r1), I1, J1))))
set_option maxHeartbeats 4000000 in
set_option maxRecDepth 100000 in
theorem c_X6_readField (l : Launch) (g : Gx) (ad : Nat → Nat) (I : SI) (J : SJ) (qm : Nat) (q1 : Nat) (hE1 : isE q1) (sz : Nat) {r : Int32} {rI : SI} {rJ : SJ} (h : F_X6_readField q1 I J = some (r, rI, rJ)) : Met l yX6_readField (Cond.code yX6_readField cX6_readField 6 (some .int) :: BG) (k2_rm 5 114) (PcWM [.ref (ad 45), .ref (ad q1)] g (xW ad g I J) sz qm) (QWi r g (xW ad g I J) (xW ad g rI rJ) sz) 0 0 (va_A (xW ad g I J) sz) := by
  refine mkWMi (by decide) (Nat.le_of_ble_eq_true rfl) ?_
  intro p e s m args below meth c H locs ls A Q hC hK hP hD hA hS hZ hl hret
  have hx := hC.1
  have hb := hC.2.1
  have hts := hC.2.2.2.2
  have hown := hC.2.2.2.1
  replace hl : lv_has ls 6 [(0, .ref (ad 45)), (1, .ref (ad q1))] := hl
  have loop_26 : ∀ (n : Nat) (I : SI) (J : SJ) (w1_26 : Nat) (w3_26 : Int32) (w4_26 : Int32)  (H : Heap) (locs : List Loc) (ls : Array Slot), isE w1_26 → FL_X6_readField_26 n I J w1_26 w3_26 w4_26 = some (r, rI, rJ) → Pg g (xW ad g I J) H → va_D A (xW ad g I J) → va_S A s.heap H locs → lv_has ls 6 [(0, .ref (ad 45)), (1, .ref (ad w1_26)), (3, .int w3_26), (4, .int w4_26)] → W p l e (k2_rm 5 114) s m args below meth c H locs 0 0 Q (F0 m 26 ls []) := by
    intro n
    induction n with
    | zero =>
      intro I J w1_26 w3_26 w4_26 H locs ls hw1_26 h
      exact no h
    | succ n ih =>
      intro I J w1_26 w3_26 w4_26 H locs ls hw1_26 h hP hD hS hl
      rw [FL_X6_readField_26] at h
      refine lv_iload hx hb dX6_readField_26 (lv_at hl 3 rfl) ?_
      refine lv_bipush (v := 64) hx hb dX6_readField_28 (by decide) ?_
      refine lv_icmp_ge (tgt := 74) hx hb dX6_readField_30 (by decide) (fun c3 => ?_) (fun c3 => ?_)
      · replace h := (if_pos c3).symm.trans h
        refine lv_iload_n hx hb dX6_readField_74 rfl (lv_at hl 2 rfl) ?_
        obtain ⟨h1, h⟩ := Prod.mk.inj (Option.some.inj h)
        obtain ⟨rfl, rfl⟩ := Prod.mk.inj h
        exact hret _ _ _ _ _ dX6_readField_75 h1 hP hD hS
      · replace h := (if_neg c3).symm.trans h
        refine lv_aload_n hx hb dX6_readField_33 rfl (lv_at hl 0 rfl) ?_
        refine gt_X6_25 hC hK hP dX6_readField_34 ?_
        refine lv_aload_n hx hb dX6_readField_37 rfl (lv_at hl 0 rfl) ?_
        refine gt_X6_13 hC hK hP dX6_readField_38 ?_
        refine lv_icmp_ge (tgt := 74) hx hb dX6_readField_41 (by decide) (fun c4 => ?_) (fun c4 => ?_)
        · replace h := (if_pos c4).symm.trans h
          refine lv_iload_n hx hb dX6_readField_74 rfl (lv_at hl 2 rfl) ?_
          obtain ⟨h1, h⟩ := Prod.mk.inj (Option.some.inj h)
          obtain ⟨rfl, rfl⟩ := Prod.mk.inj h
          exact hret _ _ _ _ _ dX6_readField_75 h1 hP hD hS
        · replace h := (if_neg c4).symm.trans h
          refine lv_aload_n hx hb dX6_readField_44 rfl (lv_at hl 0 rfl) ?_
          refine gt_X6_25 hC hK hP dX6_readField_45 ?_
          refine lv_istore (lv' := [(5, .int (I 45 2)), (0, .ref (ad 45)), (1, .ref (ad w1_26)), (3, .int w3_26), (4, .int w4_26)]) hx hb dX6_readField_48 hl (by decide) rfl (fun ls hl => ?_)
          refine lv_aload_n hx hb dX6_readField_50 rfl (lv_at hl 1 rfl) ?_
          refine lv_aload_n hx hb dX6_readField_51 rfl (lv_at hl 2 rfl) ?_
          obtain ⟨⟨r5, I5, J5⟩, hc5, h⟩ := ob h
          dsimp only at h
          refine callWVMi (As := [.ref (ad w1_26)]) (rest := []) hC (c_X6_readStatement l g ad I J qm w1_26 hw1_26 H.size hc5) lk_X6_48 rfl rfl ⟨Nat.le_of_ble_eq_true rfl, Nat.le_of_ble_eq_true rfl⟩ hP hK hD hA hS hZ xo_45 rfl rfl rfl hl (Nat.le_of_ble_eq_true rfl) dX6_readField_52 (fun H locs hP hD hS => ?_)
          refine lv_if_ne (tgt := 65) hx hb dX6_readField_55 (by decide) (fun c6 => ?_) (fun c6 => ?_)
          · replace h := (if_neg c6).symm.trans h
            refine lv_iinc (v := (w3_26 + 1)) (lv' := [(3, .int (w3_26 + 1)), (5, .int (I 45 2)), (0, .ref (ad 45)), (1, .ref (ad w1_26)), (4, .int w4_26)]) hx hb dX6_readField_65 hl (k := 3) rfl rfl (by decide) rfl (fun ls hl => ?_)
            refine lv_iinc (v := (w4_26 + 1)) (lv' := [(4, .int (w4_26 + 1)), (3, .int (w3_26 + 1)), (5, .int (I 45 2)), (0, .ref (ad 45)), (1, .ref (ad w1_26))]) hx hb dX6_readField_68 hl (k := 4) rfl rfl (by decide) rfl (fun ls hl => ?_)
            refine lv_goto (tgt := 26) hx hb dX6_readField_71 (by decide) ?_
            exact ih I5 J5 w1_26 (w3_26 + 1) (w4_26 + 1) _ _ _ hw1_26 h hP hD hS (lv_sub hl [3, 4, 1, 0] rfl)
          · replace h := (if_pos c6).symm.trans h
            refine lv_sipush (v := -2000) hx hb dX6_readField_58 (by decide) ?_
            refine lv_iload hx hb dX6_readField_61 (lv_at hl 0 rfl) ?_
            refine lv_isub hx hb dX6_readField_63 ?_
            obtain ⟨h1, h⟩ := Prod.mk.inj (Option.some.inj h)
            obtain ⟨rfl, rfl⟩ := Prod.mk.inj h
            exact hret _ _ _ _ _ dX6_readField_64 h1 hP hD hS
  unfold F_X6_readField at h
  refine lv_aload_n hx hb dX6_readField_0 rfl (lv_at hl 0 rfl) ?_
  obtain ⟨⟨r1, I1, J1⟩, hc1, h⟩ := ob h
  dsimp only at h
  refine callWVi (As := []) (rest := []) hC (c_X6_fieldFault l g ad I J   H.size hc1) lk_X6_45 rfl rfl ⟨Nat.le_of_ble_eq_true rfl, Nat.le_of_ble_eq_true rfl⟩ hP hK hD hA hS xo_45 rfl rfl rfl hl (Nat.le_of_ble_eq_true rfl) dX6_readField_1 (fun H locs hP hD hS => ?_)
  refine lv_istore_n (lv' := [(2, .int r1), (0, .ref (ad 45)), (1, .ref (ad q1))]) hx hb dX6_readField_4 rfl hl (by decide) rfl (fun ls hl => ?_)
  refine lv_iload_n hx hb dX6_readField_5 rfl (lv_at hl 0 rfl) ?_
  refine lv_iconst (v := -1) hx hb dX6_readField_6 (by decide) ?_
  refine lv_icmp_eq (tgt := 16) hx hb dX6_readField_7 (by decide) (fun c2 => ?_) (fun c2 => ?_)
  · replace h := (if_pos c2).symm.trans h
    refine lv_iconst (v := 0) hx hb dX6_readField_16 (by decide) ?_
    refine lv_istore_n (lv' := [(3, .int (0 : Int32)), (2, .int r1), (0, .ref (ad 45)), (1, .ref (ad q1))]) hx hb dX6_readField_17 rfl hl (by decide) rfl (fun ls hl => ?_)
    refine lv_aload_n hx hb dX6_readField_18 rfl (lv_at hl 2 rfl) ?_
    refine lv_iconst (v := 0) hx hb dX6_readField_19 (by decide) ?_
    refine pt_X6_25 hC hK hP hD hS dX6_readField_20 (fun H locs hP hD hS => ?_)
    refine lv_iconst (v := 0) hx hb dX6_readField_23 (by decide) ?_
    refine lv_istore (lv' := [(4, .int (0 : Int32)), (3, .int (0 : Int32)), (2, .int r1), (0, .ref (ad 45)), (1, .ref (ad q1))]) hx hb dX6_readField_24 hl (by decide) rfl (fun ls hl => ?_)
    exact loop_26 3000 (u2 I1 45 2 (0 : Int32)) J1 q1 (0 : Int32) (0 : Int32) _ _ _ hE1 h hP hD hS (lv_sub hl [3, 4, 1, 0] rfl)
  · replace h := (if_neg c2).symm.trans h
    refine lv_sipush (v := -1000) hx hb dX6_readField_10 (by decide) ?_
    refine lv_iload_n hx hb dX6_readField_13 rfl (lv_at hl 0 rfl) ?_
    refine lv_isub hx hb dX6_readField_14 ?_
    obtain ⟨h1, h⟩ := Prod.mk.inj (Option.some.inj h)
    obtain ⟨rfl, rfl⟩ := Prod.mk.inj h
    exact hret _ _ _ _ _ dX6_readField_15 h1 hP hD hS
