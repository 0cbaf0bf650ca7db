def F_X8_notYears (v1 : Int32) (v2 : Int32) (v3 : Int32) : Option (Int32) := (if v1 < 0 then (some (-4 : Int32)) else (if v2 < 0 then (some (-4 : Int32)) else (if (1 : Int32) ≤ v3 then (if (99 : Int32) < v1 then (some (-6 : Int32)) else (if (999 : Int32) < v2 then (some (-6 : Int32)) else (some (if v3 ≤ (30 : Int32) then (0 : Int32) else (-6 : Int32))))) else (some (-4 : Int32)))))
set_option maxHeartbeats 4000000 in
set_option maxRecDepth 100000 in
theorem c_X8_notYears (l : Launch) (g : Gx) (ws : va_W) (v1 : Int32) (v2 : Int32) (v3 : Int32)  {r : Int32} (h : F_X8_notYears v1 v2 v3 = some r) : Met l yX8_notYears (Cond.code yX8_notYears cX8_notYears 3 (some .int) :: BG) (k2_rm 0 0) (va_Pc [.int v1, .int v2, .int v3] (fun U => Pg g ws U.heap ∧ Kg g U)) (k2_QcV (.int r)) 0 0 (fun _ => False) := by
  refine mkRi (by decide) (Nat.le_of_ble_eq_true rfl) ?_
  intro p e s m args below meth c H locs ls Q hC hK hP hl hret
  have hx := hC.1
  have hb := hC.2.1
  have hts := hC.2.2.2.2
  have hown := hC.2.2.2.1
  replace hl : lv_has ls 3 [(0, .int v1), (1, .int v2), (2, .int v3)] := hl
  unfold F_X8_notYears at h
  refine lv_iload_n hx hb dX8_notYears_0 rfl (lv_at hl 0 rfl) ?_
  refine lv_if_lt (tgt := 13) hx hb dX8_notYears_1 (by decide) (fun c1 => ?_) (fun c1 => ?_)
  · replace h := (if_pos c1).symm.trans h
    refine lv_bipush (v := -4) hx hb dX8_notYears_13 (by decide) ?_
    refine lv_goto (tgt := 43) hx hb dX8_notYears_15 (by decide) ?_
    exact hret _ _ _ dX8_notYears_43 (Option.some.inj h)
  · replace h := (if_neg c1).symm.trans h
    refine lv_iload_n hx hb dX8_notYears_4 rfl (lv_at hl 1 rfl) ?_
    refine lv_if_lt (tgt := 13) hx hb dX8_notYears_5 (by decide) (fun c2 => ?_) (fun c2 => ?_)
    · replace h := (if_pos c2).symm.trans h
      refine lv_bipush (v := -4) hx hb dX8_notYears_13 (by decide) ?_
      refine lv_goto (tgt := 43) hx hb dX8_notYears_15 (by decide) ?_
      exact hret _ _ _ dX8_notYears_43 (Option.some.inj h)
    · replace h := (if_neg c2).symm.trans h
      refine lv_iload_n hx hb dX8_notYears_8 rfl (lv_at hl 2 rfl) ?_
      refine lv_iconst (v := 1) hx hb dX8_notYears_9 (by decide) ?_
      refine lv_icmp_ge (tgt := 18) hx hb dX8_notYears_10 (by decide) (fun c3 => ?_) (fun c3 => ?_)
      · replace h := (if_pos c3).symm.trans h
        refine lv_iload_n hx hb dX8_notYears_18 rfl (lv_at hl 0 rfl) ?_
        refine lv_bipush (v := 99) hx hb dX8_notYears_19 (by decide) ?_
        refine lv_icmp_gt (tgt := 37) hx hb dX8_notYears_21 (by decide) (fun c4 => ?_) (fun c4 => ?_)
        · replace h := (if_pos c4).symm.trans h
          refine lv_bipush (v := -6) hx hb dX8_notYears_37 (by decide) ?_
          refine lv_goto (tgt := 43) hx hb dX8_notYears_39 (by decide) ?_
          exact hret _ _ _ dX8_notYears_43 (Option.some.inj h)
        · replace h := (if_neg c4).symm.trans h
          refine lv_iload_n hx hb dX8_notYears_24 rfl (lv_at hl 1 rfl) ?_
          refine lv_sipush (v := 999) hx hb dX8_notYears_25 (by decide) ?_
          refine lv_icmp_gt (tgt := 37) hx hb dX8_notYears_28 (by decide) (fun c5 => ?_) (fun c5 => ?_)
          · replace h := (if_pos c5).symm.trans h
            refine lv_bipush (v := -6) hx hb dX8_notYears_37 (by decide) ?_
            refine lv_goto (tgt := 43) hx hb dX8_notYears_39 (by decide) ?_
            exact hret _ _ _ dX8_notYears_43 (Option.some.inj h)
          · replace h := (if_neg c5).symm.trans h
            refine lv_iload_n hx hb dX8_notYears_31 rfl (lv_at hl 2 rfl) ?_
            refine lv_bipush (v := 30) hx hb dX8_notYears_32 (by decide) ?_
            refine tern (α := Int32) (cnd := v3 ≤ (30 : Int32)) (a := (0 : Int32)) (b := (-6 : Int32)) (Wj := fun vj => W p l e (k2_rm 0 0) s m args below meth c H locs 0 0 Q (F0 m 43 ls [.int vj])) (fun k7a k7b => ?_) ?_
            · refine lv_icmp_le (tgt := 42) hx hb dX8_notYears_34 (by decide) (fun c6 => ?_) (fun c6 => ?_)
              · refine lv_iconst (v := 0) hx hb dX8_notYears_42 (by decide) ?_
                exact k7a c6
              · refine lv_bipush (v := -6) hx hb dX8_notYears_37 (by decide) ?_
                refine lv_goto (tgt := 43) hx hb dX8_notYears_39 (by decide) ?_
                exact k7b c6
            · show W p l e (k2_rm 0 0) s m args below meth c H locs 0 0 Q (F0 m 43 ls [.int (if v3 ≤ (30 : Int32) then (0 : Int32) else (-6 : Int32))])
              exact hret _ _ _ dX8_notYears_43 (Option.some.inj h)
      · replace h := (if_neg c3).symm.trans h
        refine lv_bipush (v := -4) hx hb dX8_notYears_13 (by decide) ?_
        refine lv_goto (tgt := 43) hx hb dX8_notYears_15 (by decide) ?_
        exact hret _ _ _ dX8_notYears_43 (Option.some.inj h)
def F_X8_ruin (I : SI) (J : SJ) (v1 : Int32) (v2 : Int32) (v3 : Int32) (v4 : Int32) (v5 : Int32) (v6 : Int32) : Option (Int32 × SI × SJ) := ((F_X8_isPains I J v1 v2).bind fun r1 => (if r1 = 0 then ((F_X8_no I J (-1 : Int32)).bind fun (r8, I8, J8) => (some (r8, I8, J8))) else ((F_X8_notYears v4 v5 v6).bind fun r3 => (if r3 = 0 then ((F_X8_takesTerm I J v1).bind fun (I5, J5) => ((F_X8_goesYears I5 J5 v2 v3 v4 v5 v6).bind fun (I6, J6) => (some ((I6 0 34), I6, J6)))) else ((F_X8_no I J r3).bind fun (r7, I7, J7) => (some (r7, I7, J7)))))))
set_option maxHeartbeats 4000000 in
set_option maxRecDepth 100000 in
theorem c_X8_ruin (l : Launch) (g : Gx) (ad : Nat → Nat) (I : SI) (J : SJ) (v1 : Int32) (v2 : Int32) (v3 : Int32) (v4 : Int32) (v5 : Int32) (v6 : Int32)  (sz : Nat) {r : Int32} {rI : SI} {rJ : SJ} (h : F_X8_ruin I J v1 v2 v3 v4 v5 v6 = some (r, rI, rJ)) : Met l yX8_ruin (Cond.code yX8_ruin cX8_ruin 8 (some .int) :: BG) (k2_rm 4 91) (PcW [.ref (ad 0), .int v1, .int v2, .int v3, .int v4, .int v5, .int v6] g (mW ad g I J) sz) (QWi r g (mW ad g I J) (mW ad g rI rJ) sz) 0 0 (va_A (mW ad g I J) sz) := by
  refine mkWi (by decide) (Nat.le_of_ble_eq_true rfl) ?_
  intro p e s m args below meth c H locs ls A Q hC hK hP hD hA hS hl hret
  have hx := hC.1
  have hb := hC.2.1
  have hts := hC.2.2.2.2
  have hown := hC.2.2.2.1
  replace hl : lv_has ls 8 [(0, .ref (ad 0)), (1, .int v1), (2, .int v2), (3, .int v3), (4, .int v4), (5, .int v5), (6, .int v6)] := hl
  unfold F_X8_ruin at h
  refine lv_aload_n hx hb dX8_ruin_0 rfl (lv_at hl 0 rfl) ?_
  refine lv_iload_n hx hb dX8_ruin_1 rfl (lv_at hl 1 rfl) ?_
  refine lv_iload_n hx hb dX8_ruin_2 rfl (lv_at hl 2 rfl) ?_
  obtain ⟨r1, hc1, h⟩ := ob h
  refine callRV (As := [.int v1, .int v2]) (rest := []) hC (c_X8_isPains l g ad I J v1 v2  hc1) lk_X8_251 rfl rfl ⟨Nat.le_of_ble_eq_true rfl, Nat.le_of_ble_eq_true rfl⟩ hP hK mo_0 rfl rfl rfl hl (Nat.le_of_ble_eq_true rfl) dX8_ruin_3 ?_
  refine lv_if_ne (tgt := 15) hx hb dX8_ruin_6 (by decide) (fun c2 => ?_) (fun c2 => ?_)
  · replace h := (if_neg c2).symm.trans h
    refine lv_iload hx hb dX8_ruin_15 (lv_at hl 4 rfl) ?_
    refine lv_iload hx hb dX8_ruin_17 (lv_at hl 5 rfl) ?_
    refine lv_iload hx hb dX8_ruin_19 (lv_at hl 6 rfl) ?_
    obtain ⟨r3, hc3, h⟩ := ob h
    refine callRS (As := [.int v4, .int v5, .int v6]) (rest := []) hC (c_X8_notYears l g (mW ad g I J) v4 v5 v6 hc3) lk_X8_293 rfl rfl ⟨Nat.le_of_ble_eq_true rfl, Nat.le_of_ble_eq_true rfl⟩ hP hK rfl rfl hl (Nat.le_of_ble_eq_true rfl) dX8_ruin_21 ?_
    refine lv_istore (lv' := [(7, .int r3), (0, .ref (ad 0)), (1, .int v1), (2, .int v2), (3, .int v3), (4, .int v4), (5, .int v5), (6, .int v6)]) hx hb dX8_ruin_24 hl (by decide) rfl (fun ls hl => ?_)
    refine lv_iload hx hb dX8_ruin_26 (lv_at hl 0 rfl) ?_
    refine lv_if_eq (tgt := 38) hx hb dX8_ruin_28 (by decide) (fun c4 => ?_) (fun c4 => ?_)
    · replace h := (if_pos c4).symm.trans h
      refine lv_aload_n hx hb dX8_ruin_38 rfl (lv_at hl 1 rfl) ?_
      refine lv_iload_n hx hb dX8_ruin_39 rfl (lv_at hl 2 rfl) ?_
      obtain ⟨⟨I5, J5⟩, hc5, h⟩ := ob h
      dsimp only at h
      refine callWVv (As := [.int v1]) (rest := []) hC (c_X8_takesTerm l g ad I J v1  H.size hc5) lk_X8_212 rfl rfl ⟨Nat.le_of_ble_eq_true rfl, Nat.le_of_ble_eq_true rfl⟩ hP hK hD hA hS mo_0 rfl rfl rfl hl (Nat.le_of_ble_eq_true rfl) dX8_ruin_40 (fun H locs hP hD hS => ?_)
      refine lv_aload_n hx hb dX8_ruin_43 rfl (lv_at hl 1 rfl) ?_
      refine lv_iload_n hx hb dX8_ruin_44 rfl (lv_at hl 3 rfl) ?_
      refine lv_iload_n hx hb dX8_ruin_45 rfl (lv_at hl 4 rfl) ?_
      refine lv_iload hx hb dX8_ruin_46 (lv_at hl 5 rfl) ?_
      refine lv_iload hx hb dX8_ruin_48 (lv_at hl 6 rfl) ?_
      refine lv_iload hx hb dX8_ruin_50 (lv_at hl 7 rfl) ?_
      obtain ⟨⟨I6, J6⟩, hc6, h⟩ := ob h
      dsimp only at h
      refine callWVv (As := [.int v2, .int v3, .int v4, .int v5, .int v6]) (rest := []) hC (c_X8_goesYears l g ad I5 J5 v2 v3 v4 v5 v6  H.size hc6) lk_X8_296 rfl rfl ⟨Nat.le_of_ble_eq_true rfl, Nat.le_of_ble_eq_true rfl⟩ hP hK hD hA hS mo_0 rfl rfl rfl hl (Nat.le_of_ble_eq_true rfl) dX8_ruin_52 (fun H locs hP hD hS => ?_)
      refine lv_aload_n hx hb dX8_ruin_55 rfl (lv_at hl 1 rfl) ?_
      refine gt_X8_287 hC hK hP dX8_ruin_56 ?_
      obtain ⟨h1, h⟩ := Prod.mk.inj (Option.some.inj h)
      obtain ⟨rfl, rfl⟩ := Prod.mk.inj h
      exact hret _ _ _ _ _ dX8_ruin_59 h1 hP hD hS
    · replace h := (if_neg c4).symm.trans h
      refine lv_aload_n hx hb dX8_ruin_31 rfl (lv_at hl 1 rfl) ?_
      refine lv_iload hx hb dX8_ruin_32 (lv_at hl 0 rfl) ?_
      obtain ⟨⟨r7, I7, J7⟩, hc7, h⟩ := ob h
      dsimp only at h
      refine callWVi (As := [.int r3]) (rest := []) hC (c_X8_no l g ad I J r3  H.size hc7) lk_X8_92 rfl rfl ⟨Nat.le_of_ble_eq_true rfl, Nat.le_of_ble_eq_true rfl⟩ hP hK hD hA hS mo_0 rfl rfl rfl hl (Nat.le_of_ble_eq_true rfl) dX8_ruin_34 (fun H locs hP hD hS => ?_)
      obtain ⟨h1, h⟩ := Prod.mk.inj (Option.some.inj h)
      obtain ⟨rfl, rfl⟩ := Prod.mk.inj h
      exact hret _ _ _ _ _ dX8_ruin_37 h1 hP hD hS
  · replace h := (if_pos c2).symm.trans h
    refine lv_aload_n hx hb dX8_ruin_9 rfl (lv_at hl 0 rfl) ?_
    refine lv_iconst (v := -1) hx hb dX8_ruin_10 (by decide) ?_
    obtain ⟨⟨r8, I8, J8⟩, hc8, h⟩ := ob h
    dsimp only at h
    refine callWVi (As := [.int (-1 : Int32)]) (rest := []) hC (c_X8_no l g ad I J (-1 : Int32)  H.size hc8) lk_X8_92 rfl rfl ⟨Nat.le_of_ble_eq_true rfl, Nat.le_of_ble_eq_true rfl⟩ hP hK hD hA hS mo_0 rfl rfl rfl hl (Nat.le_of_ble_eq_true rfl) dX8_ruin_11 (fun H locs hP hD hS => ?_)
    obtain ⟨h1, h⟩ := Prod.mk.inj (Option.some.inj h)
    obtain ⟨rfl, rfl⟩ := Prod.mk.inj h
    exact hret _ _ _ _ _ dX8_ruin_14 h1 hP hD hS
def F_X8_owes (I : SI) (J : SJ) (v1 : Int32) (v2 : Int32) (v3 : Int32) (v4 : Int32) (v5 : Int32) : Option (Int32 × SI × SJ) := ((F_X8_isPains I J v1 v2).bind fun r1 => (if r1 = 0 then ((F_X8_lower I J (-1 : Int32)).bind fun (r8, I8, J8) => (some (r8, I8, J8))) else ((F_X8_notYears v4 (0 : Int32) v5).bind fun r3 => (if r3 = 0 then ((F_X8_takesTerm I J v1).bind fun (I5, J5) => ((F_X8_goesYears I5 J5 v2 v3 v4 (0 : Int32) v5).bind fun (I6, J6) => (some ((I6 0 33), I6, J6)))) else ((F_X8_lower I J r3).bind fun (r7, I7, J7) => (some (r7, I7, J7)))))))
set_option maxHeartbeats 4000000 in
set_option maxRecDepth 100000 in
theorem c_X8_owes (l : Launch) (g : Gx) (ad : Nat → Nat) (I : SI) (J : SJ) (v1 : Int32) (v2 : Int32) (v3 : Int32) (v4 : Int32) (v5 : Int32)  (sz : Nat) {r : Int32} {rI : SI} {rJ : SJ} (h : F_X8_owes I J v1 v2 v3 v4 v5 = some (r, rI, rJ)) : Met l yX8_owes (Cond.code yX8_owes cX8_owes 7 (some .int) :: BG) (k2_rm 4 91) (PcW [.ref (ad 0), .int v1, .int v2, .int v3, .int v4, .int v5] g (mW ad g I J) sz) (QWi r g (mW ad g I J) (mW ad g rI rJ) sz) 0 0 (va_A (mW ad g I J) sz) := by
  refine mkWi (by decide) (Nat.le_of_ble_eq_true rfl) ?_
  intro p e s m args below meth c H locs ls A Q hC hK hP hD hA hS hl hret
  have hx := hC.1
  have hb := hC.2.1
  have hts := hC.2.2.2.2
  have hown := hC.2.2.2.1
  replace hl : lv_has ls 7 [(0, .ref (ad 0)), (1, .int v1), (2, .int v2), (3, .int v3), (4, .int v4), (5, .int v5)] := hl
  unfold F_X8_owes at h
  refine lv_aload_n hx hb dX8_owes_0 rfl (lv_at hl 0 rfl) ?_
  refine lv_iload_n hx hb dX8_owes_1 rfl (lv_at hl 1 rfl) ?_
  refine lv_iload_n hx hb dX8_owes_2 rfl (lv_at hl 2 rfl) ?_
  obtain ⟨r1, hc1, h⟩ := ob h
  refine callRV (As := [.int v1, .int v2]) (rest := []) hC (c_X8_isPains l g ad I J v1 v2  hc1) lk_X8_251 rfl rfl ⟨Nat.le_of_ble_eq_true rfl, Nat.le_of_ble_eq_true rfl⟩ hP hK mo_0 rfl rfl rfl hl (Nat.le_of_ble_eq_true rfl) dX8_owes_3 ?_
  refine lv_if_ne (tgt := 15) hx hb dX8_owes_6 (by decide) (fun c2 => ?_) (fun c2 => ?_)
  · replace h := (if_neg c2).symm.trans h
    refine lv_iload hx hb dX8_owes_15 (lv_at hl 4 rfl) ?_
    refine lv_iconst (v := 0) hx hb dX8_owes_17 (by decide) ?_
    refine lv_iload hx hb dX8_owes_18 (lv_at hl 5 rfl) ?_
    obtain ⟨r3, hc3, h⟩ := ob h
    refine callRS (As := [.int v4, .int (0 : Int32), .int v5]) (rest := []) hC (c_X8_notYears l g (mW ad g I J) v4 (0 : Int32) v5 hc3) lk_X8_293 rfl rfl ⟨Nat.le_of_ble_eq_true rfl, Nat.le_of_ble_eq_true rfl⟩ hP hK rfl rfl hl (Nat.le_of_ble_eq_true rfl) dX8_owes_20 ?_
    refine lv_istore (lv' := [(6, .int r3), (0, .ref (ad 0)), (1, .int v1), (2, .int v2), (3, .int v3), (4, .int v4), (5, .int v5)]) hx hb dX8_owes_23 hl (by decide) rfl (fun ls hl => ?_)
    refine lv_iload hx hb dX8_owes_25 (lv_at hl 0 rfl) ?_
    refine lv_if_eq (tgt := 37) hx hb dX8_owes_27 (by decide) (fun c4 => ?_) (fun c4 => ?_)
    · replace h := (if_pos c4).symm.trans h
      refine lv_aload_n hx hb dX8_owes_37 rfl (lv_at hl 1 rfl) ?_
      refine lv_iload_n hx hb dX8_owes_38 rfl (lv_at hl 2 rfl) ?_
      obtain ⟨⟨I5, J5⟩, hc5, h⟩ := ob h
      dsimp only at h
      refine callWVv (As := [.int v1]) (rest := []) hC (c_X8_takesTerm l g ad I J v1  H.size hc5) lk_X8_212 rfl rfl ⟨Nat.le_of_ble_eq_true rfl, Nat.le_of_ble_eq_true rfl⟩ hP hK hD hA hS mo_0 rfl rfl rfl hl (Nat.le_of_ble_eq_true rfl) dX8_owes_39 (fun H locs hP hD hS => ?_)
      refine lv_aload_n hx hb dX8_owes_42 rfl (lv_at hl 1 rfl) ?_
      refine lv_iload_n hx hb dX8_owes_43 rfl (lv_at hl 3 rfl) ?_
      refine lv_iload_n hx hb dX8_owes_44 rfl (lv_at hl 4 rfl) ?_
      refine lv_iload hx hb dX8_owes_45 (lv_at hl 5 rfl) ?_
      refine lv_iconst (v := 0) hx hb dX8_owes_47 (by decide) ?_
      refine lv_iload hx hb dX8_owes_48 (lv_at hl 6 rfl) ?_
      obtain ⟨⟨I6, J6⟩, hc6, h⟩ := ob h
      dsimp only at h
      refine callWVv (As := [.int v2, .int v3, .int v4, .int (0 : Int32), .int v5]) (rest := []) hC (c_X8_goesYears l g ad I5 J5 v2 v3 v4 (0 : Int32) v5  H.size hc6) lk_X8_296 rfl rfl ⟨Nat.le_of_ble_eq_true rfl, Nat.le_of_ble_eq_true rfl⟩ hP hK hD hA hS mo_0 rfl rfl rfl hl (Nat.le_of_ble_eq_true rfl) dX8_owes_50 (fun H locs hP hD hS => ?_)
      refine lv_aload_n hx hb dX8_owes_53 rfl (lv_at hl 1 rfl) ?_
      refine gt_X8_284 hC hK hP dX8_owes_54 ?_
      obtain ⟨h1, h⟩ := Prod.mk.inj (Option.some.inj h)
      obtain ⟨rfl, rfl⟩ := Prod.mk.inj h
      exact hret _ _ _ _ _ dX8_owes_57 h1 hP hD hS
    · replace h := (if_neg c4).symm.trans h
      refine lv_aload_n hx hb dX8_owes_30 rfl (lv_at hl 1 rfl) ?_
      refine lv_iload hx hb dX8_owes_31 (lv_at hl 0 rfl) ?_
      obtain ⟨⟨r7, I7, J7⟩, hc7, h⟩ := ob h
      dsimp only at h
      refine callWVi (As := [.int r3]) (rest := []) hC (c_X8_lower l g ad I J r3  H.size hc7) lk_X8_209 rfl rfl ⟨Nat.le_of_ble_eq_true rfl, Nat.le_of_ble_eq_true rfl⟩ hP hK hD hA hS mo_0 rfl rfl rfl hl (Nat.le_of_ble_eq_true rfl) dX8_owes_33 (fun H locs hP hD hS => ?_)
      obtain ⟨h1, h⟩ := Prod.mk.inj (Option.some.inj h)
      obtain ⟨rfl, rfl⟩ := Prod.mk.inj h
      exact hret _ _ _ _ _ dX8_owes_36 h1 hP hD hS
  · replace h := (if_pos c2).symm.trans h
    refine lv_aload_n hx hb dX8_owes_9 rfl (lv_at hl 0 rfl) ?_
    refine lv_iconst (v := -1) hx hb dX8_owes_10 (by decide) ?_
    obtain ⟨⟨r8, I8, J8⟩, hc8, h⟩ := ob h
    dsimp only at h
    refine callWVi (As := [.int (-1 : Int32)]) (rest := []) hC (c_X8_lower l g ad I J (-1 : Int32)  H.size hc8) lk_X8_209 rfl rfl ⟨Nat.le_of_ble_eq_true rfl, Nat.le_of_ble_eq_true rfl⟩ hP hK hD hA hS mo_0 rfl rfl rfl hl (Nat.le_of_ble_eq_true rfl) dX8_owes_11 (fun H locs hP hD hS => ?_)
    obtain ⟨h1, h⟩ := Prod.mk.inj (Option.some.inj h)
    obtain ⟨rfl, rfl⟩ := Prod.mk.inj h
    exact hret _ _ _ _ _ dX8_owes_14 h1 hP hD hS
def FL_X8_ruins_102  : Nat → SI → SJ → Int32 → Int32 → Int32 → Int32 → Int32 → Int32 → Int32 → Int32 → Option (Int32 × SI × SJ)
  | 0, _, _, _, _, _, _, _, _, _, _ => none
  | n + 1, I, J, w2_102, w3_102, w4_102, w5_102, w6_102, w7_102, w9_102, w10_102 => (if w7_102 ≤ w10_102 then (some (w9_102, I, J)) else ((F_X8_goesYears I J w2_102 (w3_102 + w10_102) w4_102 w5_102 w6_102).bind fun (I7, J7) => (FL_X8_ruins_102 n I7 J7 w2_102 w3_102 w4_102 w5_102 w6_102 w7_102 (w9_102 + (if (I7 0 34) < 0 then (0 : Int32) else (1 : Int32))) (w10_102 + 1))))
def F_X8_ruins (I : SI) (J : SJ) (v1 : Int32) (v2 : Int32) (v3 : Int32) (v4 : Int32) (v5 : Int32) (v6 : Int32) (v7 : Int32) : Option (Int32 × SI × SJ) := ((F_X8_isPains I J v1 v2).bind fun r1 => (if r1 = 0 then ((F_X8_no I J (-1 : Int32)).bind fun (r40, I40, J40) => (some (r40, I40, J40))) else (if v4 < 0 then (if (-4 : Int32) = 0 then ((F_X8_takesTerm I J v1).bind fun (I5, J5) => (FL_X8_ruins_102 3000 I5 J5 v2 v3 v4 v5 v6 v7 (0 : Int32) (0 : Int32))) else ((F_X8_no I J (-4 : Int32)).bind fun (r10, I10, J10) => (some (r10, I10, J10)))) else (if v5 < 0 then (if (-4 : Int32) = 0 then ((F_X8_takesTerm I J v1).bind fun (I13, J13) => (FL_X8_ruins_102 3000 I13 J13 v2 v3 v4 v5 v6 v7 (0 : Int32) (0 : Int32))) else ((F_X8_no I J (-4 : Int32)).bind fun (r14, I14, J14) => (some (r14, I14, J14)))) else (if v6 < (1 : Int32) then (if (-4 : Int32) = 0 then ((F_X8_takesTerm I J v1).bind fun (I17, J17) => (FL_X8_ruins_102 3000 I17 J17 v2 v3 v4 v5 v6 v7 (0 : Int32) (0 : Int32))) else ((F_X8_no I J (-4 : Int32)).bind fun (r18, I18, J18) => (some (r18, I18, J18)))) else (if (1 : Int32) ≤ v7 then (if (99 : Int32) < v4 then (if (-6 : Int32) = 0 then ((F_X8_takesTerm I J v1).bind fun (I22, J22) => (FL_X8_ruins_102 3000 I22 J22 v2 v3 v4 v5 v6 v7 (0 : Int32) (0 : Int32))) else ((F_X8_no I J (-6 : Int32)).bind fun (r23, I23, J23) => (some (r23, I23, J23)))) else (if (999 : Int32) < v5 then (if (-6 : Int32) = 0 then ((F_X8_takesTerm I J v1).bind fun (I26, J26) => (FL_X8_ruins_102 3000 I26 J26 v2 v3 v4 v5 v6 v7 (0 : Int32) (0 : Int32))) else ((F_X8_no I J (-6 : Int32)).bind fun (r27, I27, J27) => (some (r27, I27, J27)))) else (if (30 : Int32) < v6 then (if (-6 : Int32) = 0 then ((F_X8_takesTerm I J v1).bind fun (I30, J30) => (FL_X8_ruins_102 3000 I30 J30 v2 v3 v4 v5 v6 v7 (0 : Int32) (0 : Int32))) else ((F_X8_no I J (-6 : Int32)).bind fun (r31, I31, J31) => (some (r31, I31, J31)))) else (if (if v7 ≤ (50 : Int32) then (0 : Int32) else (-6 : Int32)) = 0 then ((F_X8_takesTerm I J v1).bind fun (I35, J35) => (FL_X8_ruins_102 3000 I35 J35 v2 v3 v4 v5 v6 v7 (0 : Int32) (0 : Int32))) else ((F_X8_no I J (if v7 ≤ (50 : Int32) then (0 : Int32) else (-6 : Int32))).bind fun (r36, I36, J36) => (some (r36, I36, J36))))))) else (if (-4 : Int32) = 0 then ((F_X8_takesTerm I J v1).bind fun (I38, J38) => (FL_X8_ruins_102 3000 I38 J38 v2 v3 v4 v5 v6 v7 (0 : Int32) (0 : Int32))) else ((F_X8_no I J (-4 : Int32)).bind fun (r39, I39, J39) => (some (r39, I39, J39))))))))))
set_option maxHeartbeats 4000000 in
set_option maxRecDepth 100000 in
theorem c_X8_ruins (l : Launch) (g : Gx) (ad : Nat → Nat) (I : SI) (J : SJ) (v1 : Int32) (v2 : Int32) (v3 : Int32) (v4 : Int32) (v5 : Int32) (v6 : Int32) (v7 : Int32)  (sz : Nat) {r : Int32} {rI : SI} {rJ : SJ} (h : F_X8_ruins I J v1 v2 v3 v4 v5 v6 v7 = some (r, rI, rJ)) : Met l yX8_ruins (Cond.code yX8_ruins cX8_ruins 11 (some .int) :: BG) (k2_rm 4 91) (PcW [.ref (ad 0), .int v1, .int v2, .int v3, .int v4, .int v5, .int v6, .int v7] g (mW ad g I J) sz) (QWi r g (mW ad g I J) (mW ad g rI rJ) sz) 0 0 (va_A (mW ad g I J) sz) := by
  refine mkWi (by decide) (Nat.le_of_ble_eq_true rfl) ?_
  intro p e s m args below meth c H locs ls A Q hC hK hP hD hA hS hl hret
  have hx := hC.1
  have hb := hC.2.1
  have hts := hC.2.2.2.2
  have hown := hC.2.2.2.1
  replace hl : lv_has ls 11 [(0, .ref (ad 0)), (1, .int v1), (2, .int v2), (3, .int v3), (4, .int v4), (5, .int v5), (6, .int v6), (7, .int v7)] := hl
  have loop_102 : ∀ (n : Nat) (I : SI) (J : SJ) (w2_102 : Int32) (w3_102 : Int32) (w4_102 : Int32) (w5_102 : Int32) (w6_102 : Int32) (w7_102 : Int32) (w9_102 : Int32) (w10_102 : Int32)  (H : Heap) (locs : List Loc) (ls : Array Slot), FL_X8_ruins_102 n I J w2_102 w3_102 w4_102 w5_102 w6_102 w7_102 w9_102 w10_102 = some (r, rI, rJ) → Pg g (mW ad g I J) H → va_D A (mW ad g I J) → va_S A s.heap H locs → lv_has ls 11 [(0, .ref (ad 0)), (2, .int w2_102), (3, .int w3_102), (4, .int w4_102), (5, .int w5_102), (6, .int w6_102), (7, .int w7_102), (9, .int w9_102), (10, .int w10_102)] → W p l e (k2_rm 4 91) s m args below meth c H locs 0 0 Q (F0 m 102 ls []) := by
    intro n
    induction n with
    | zero =>
      intro I J w2_102 w3_102 w4_102 w5_102 w6_102 w7_102 w9_102 w10_102 H locs ls h
      exact no h
    | succ n ih =>
      intro I J w2_102 w3_102 w4_102 w5_102 w6_102 w7_102 w9_102 w10_102 H locs ls h hP hD hS hl
      rw [FL_X8_ruins_102] at h
      refine lv_iload hx hb dX8_ruins_102 (lv_at hl 8 rfl) ?_
      refine lv_iload hx hb dX8_ruins_104 (lv_at hl 6 rfl) ?_
      refine lv_icmp_ge (tgt := 147) hx hb dX8_ruins_106 (by decide) (fun c6 => ?_) (fun c6 => ?_)
      · replace h := (if_pos c6).symm.trans h
        refine lv_iload hx hb dX8_ruins_147 (lv_at hl 7 rfl) ?_
        obtain ⟨h1, h⟩ := Prod.mk.inj (Option.some.inj h)
        obtain ⟨rfl, rfl⟩ := Prod.mk.inj h
        exact hret _ _ _ _ _ dX8_ruins_149 h1 hP hD hS
      · replace h := (if_neg c6).symm.trans h
        refine lv_aload_n hx hb dX8_ruins_109 rfl (lv_at hl 0 rfl) ?_
        refine lv_iload_n hx hb dX8_ruins_110 rfl (lv_at hl 1 rfl) ?_
        refine lv_iload_n hx hb dX8_ruins_111 rfl (lv_at hl 2 rfl) ?_
        refine lv_iload hx hb dX8_ruins_112 (lv_at hl 8 rfl) ?_
        refine lv_iadd hx hb dX8_ruins_114 ?_
        refine lv_iload hx hb dX8_ruins_115 (lv_at hl 3 rfl) ?_
        refine lv_iload hx hb dX8_ruins_117 (lv_at hl 4 rfl) ?_
        refine lv_iload hx hb dX8_ruins_119 (lv_at hl 5 rfl) ?_
        obtain ⟨⟨I7, J7⟩, hc7, h⟩ := ob h
        dsimp only at h
        refine callWVv (As := [.int w2_102, .int (w3_102 + w10_102), .int w4_102, .int w5_102, .int w6_102]) (rest := []) hC (c_X8_goesYears l g ad I J w2_102 (w3_102 + w10_102) w4_102 w5_102 w6_102  H.size hc7) lk_X8_296 rfl rfl ⟨Nat.le_of_ble_eq_true rfl, Nat.le_of_ble_eq_true rfl⟩ hP hK hD hA hS mo_0 rfl rfl rfl hl (Nat.le_of_ble_eq_true rfl) dX8_ruins_121 (fun H locs hP hD hS => ?_)
        refine lv_iload hx hb dX8_ruins_124 (lv_at hl 7 rfl) ?_
        refine lv_aload_n hx hb dX8_ruins_126 rfl (lv_at hl 0 rfl) ?_
        refine gt_X8_287 hC hK hP dX8_ruins_127 ?_
        refine tern (α := Int32) (cnd := (I7 0 34) < 0) (a := (0 : Int32)) (b := (1 : Int32)) (Wj := fun vj => W p l e (k2_rm 4 91) s m args below meth c H locs 0 0 Q (F0 m 138 ls [.int vj, .int w9_102])) (fun k9a k9b => ?_) ?_
        · refine lv_if_lt (tgt := 137) hx hb dX8_ruins_130 (by decide) (fun c8 => ?_) (fun c8 => ?_)
          · refine lv_iconst (v := 0) hx hb dX8_ruins_137 (by decide) ?_
            exact k9a c8
          · refine lv_iconst (v := 1) hx hb dX8_ruins_133 (by decide) ?_
            refine lv_goto (tgt := 138) hx hb dX8_ruins_134 (by decide) ?_
            exact k9b c8
        · show W p l e (k2_rm 4 91) s m args below meth c H locs 0 0 Q (F0 m 138 ls [.int (if (I7 0 34) < 0 then (0 : Int32) else (1 : Int32)), .int w9_102])
          refine lv_iadd hx hb dX8_ruins_138 ?_
          refine lv_istore (lv' := [(9, .int (w9_102 + (if (I7 0 34) < 0 then (0 : Int32) else (1 : Int32)))), (0, .ref (ad 0)), (2, .int w2_102), (3, .int w3_102), (4, .int w4_102), (5, .int w5_102), (6, .int w6_102), (7, .int w7_102), (10, .int w10_102)]) hx hb dX8_ruins_139 hl (by decide) rfl (fun ls hl => ?_)
          refine lv_iinc (v := (w10_102 + 1)) (lv' := [(10, .int (w10_102 + 1)), (9, .int (w9_102 + (if (I7 0 34) < 0 then (0 : Int32) else (1 : Int32)))), (0, .ref (ad 0)), (2, .int w2_102), (3, .int w3_102), (4, .int w4_102), (5, .int w5_102), (6, .int w6_102), (7, .int w7_102)]) hx hb dX8_ruins_141 hl (k := 8) rfl rfl (by decide) rfl (fun ls hl => ?_)
          refine lv_goto (tgt := 102) hx hb dX8_ruins_144 (by decide) ?_
          exact ih I7 J7 w2_102 w3_102 w4_102 w5_102 w6_102 w7_102 (w9_102 + (if (I7 0 34) < 0 then (0 : Int32) else (1 : Int32))) (w10_102 + 1) _ _ _ h hP hD hS (lv_sub hl [2, 3, 4, 5, 6, 7, 8, 1, 0] rfl)
  unfold F_X8_ruins at h
  refine lv_aload_n hx hb dX8_ruins_0 rfl (lv_at hl 0 rfl) ?_
  refine lv_iload_n hx hb dX8_ruins_1 rfl (lv_at hl 1 rfl) ?_
  refine lv_iload_n hx hb dX8_ruins_2 rfl (lv_at hl 2 rfl) ?_
  obtain ⟨r1, hc1, h⟩ := ob h
  refine callRV (As := [.int v1, .int v2]) (rest := []) hC (c_X8_isPains l g ad I J v1 v2  hc1) lk_X8_251 rfl rfl ⟨Nat.le_of_ble_eq_true rfl, Nat.le_of_ble_eq_true rfl⟩ hP hK mo_0 rfl rfl rfl hl (Nat.le_of_ble_eq_true rfl) dX8_ruins_3 ?_
  refine lv_if_ne (tgt := 15) hx hb dX8_ruins_6 (by decide) (fun c2 => ?_) (fun c2 => ?_)
  · replace h := (if_neg c2).symm.trans h
    refine lv_iload hx hb dX8_ruins_15 (lv_at hl 4 rfl) ?_
    refine lv_if_lt (tgt := 37) hx hb dX8_ruins_17 (by decide) (fun c3 => ?_) (fun c3 => ?_)
    · replace h := (if_pos c3).symm.trans h
      refine lv_bipush (v := -4) hx hb dX8_ruins_37 (by decide) ?_
      refine lv_goto (tgt := 77) hx hb dX8_ruins_39 (by decide) ?_
      refine lv_istore (lv' := [(8, .int (-4 : Int32)), (0, .ref (ad 0)), (1, .int v1), (2, .int v2), (3, .int v3), (4, .int v4), (5, .int v5), (6, .int v6), (7, .int v7)]) hx hb dX8_ruins_77 hl (by decide) rfl (fun ls hl => ?_)
      refine lv_iload hx hb dX8_ruins_79 (lv_at hl 0 rfl) ?_
      refine lv_if_eq (tgt := 91) hx hb dX8_ruins_81 (by decide) (fun c4 => ?_) (fun c4 => ?_)
      · replace h := (if_pos c4).symm.trans h
        refine lv_aload_n hx hb dX8_ruins_91 rfl (lv_at hl 1 rfl) ?_
        refine lv_iload_n hx hb dX8_ruins_92 rfl (lv_at hl 2 rfl) ?_
        obtain ⟨⟨I5, J5⟩, hc5, h⟩ := ob h
        dsimp only at h
        refine callWVv (As := [.int v1]) (rest := []) hC (c_X8_takesTerm l g ad I J v1  H.size hc5) lk_X8_212 rfl rfl ⟨Nat.le_of_ble_eq_true rfl, Nat.le_of_ble_eq_true rfl⟩ hP hK hD hA hS mo_0 rfl rfl rfl hl (Nat.le_of_ble_eq_true rfl) dX8_ruins_93 (fun H locs hP hD hS => ?_)
        refine lv_iconst (v := 0) hx hb dX8_ruins_96 (by decide) ?_
        refine lv_istore (lv' := [(9, .int (0 : Int32)), (8, .int (-4 : Int32)), (0, .ref (ad 0)), (1, .int v1), (2, .int v2), (3, .int v3), (4, .int v4), (5, .int v5), (6, .int v6), (7, .int v7)]) hx hb dX8_ruins_97 hl (by decide) rfl (fun ls hl => ?_)
        refine lv_iconst (v := 0) hx hb dX8_ruins_99 (by decide) ?_
        refine lv_istore (lv' := [(10, .int (0 : Int32)), (9, .int (0 : Int32)), (8, .int (-4 : Int32)), (0, .ref (ad 0)), (1, .int v1), (2, .int v2), (3, .int v3), (4, .int v4), (5, .int v5), (6, .int v6), (7, .int v7)]) hx hb dX8_ruins_100 hl (by decide) rfl (fun ls hl => ?_)
        exact loop_102 3000 I5 J5 v2 v3 v4 v5 v6 v7 (0 : Int32) (0 : Int32) _ _ _ h hP hD hS (lv_sub hl [3, 5, 6, 7, 8, 9, 10, 1, 0] rfl)
      · replace h := (if_neg c4).symm.trans h
        refine lv_aload_n hx hb dX8_ruins_84 rfl (lv_at hl 1 rfl) ?_
        refine lv_iload hx hb dX8_ruins_85 (lv_at hl 0 rfl) ?_
        obtain ⟨⟨r10, I10, J10⟩, hc10, h⟩ := ob h
        dsimp only at h
        refine callWVi (As := [.int (-4 : Int32)]) (rest := []) hC (c_X8_no l g ad I J (-4 : Int32)  H.size hc10) lk_X8_92 rfl rfl ⟨Nat.le_of_ble_eq_true rfl, Nat.le_of_ble_eq_true rfl⟩ hP hK hD hA hS mo_0 rfl rfl rfl hl (Nat.le_of_ble_eq_true rfl) dX8_ruins_87 (fun H locs hP hD hS => ?_)
        obtain ⟨h1, h⟩ := Prod.mk.inj (Option.some.inj h)
        obtain ⟨rfl, rfl⟩ := Prod.mk.inj h
        exact hret _ _ _ _ _ dX8_ruins_90 h1 hP hD hS
    · replace h := (if_neg c3).symm.trans h
      refine lv_iload hx hb dX8_ruins_20 (lv_at hl 5 rfl) ?_
      refine lv_if_lt (tgt := 37) hx hb dX8_ruins_22 (by decide) (fun c11 => ?_) (fun c11 => ?_)
      · replace h := (if_pos c11).symm.trans h
        refine lv_bipush (v := -4) hx hb dX8_ruins_37 (by decide) ?_
        refine lv_goto (tgt := 77) hx hb dX8_ruins_39 (by decide) ?_
        refine lv_istore (lv' := [(8, .int (-4 : Int32)), (0, .ref (ad 0)), (1, .int v1), (2, .int v2), (3, .int v3), (4, .int v4), (5, .int v5), (6, .int v6), (7, .int v7)]) hx hb dX8_ruins_77 hl (by decide) rfl (fun ls hl => ?_)
        refine lv_iload hx hb dX8_ruins_79 (lv_at hl 0 rfl) ?_
        refine lv_if_eq (tgt := 91) hx hb dX8_ruins_81 (by decide) (fun c12 => ?_) (fun c12 => ?_)
        · replace h := (if_pos c12).symm.trans h
          refine lv_aload_n hx hb dX8_ruins_91 rfl (lv_at hl 1 rfl) ?_
          refine lv_iload_n hx hb dX8_ruins_92 rfl (lv_at hl 2 rfl) ?_
          obtain ⟨⟨I13, J13⟩, hc13, h⟩ := ob h
          dsimp only at h
          refine callWVv (As := [.int v1]) (rest := []) hC (c_X8_takesTerm l g ad I J v1  H.size hc13) lk_X8_212 rfl rfl ⟨Nat.le_of_ble_eq_true rfl, Nat.le_of_ble_eq_true rfl⟩ hP hK hD hA hS mo_0 rfl rfl rfl hl (Nat.le_of_ble_eq_true rfl) dX8_ruins_93 (fun H locs hP hD hS => ?_)
          refine lv_iconst (v := 0) hx hb dX8_ruins_96 (by decide) ?_
          refine lv_istore (lv' := [(9, .int (0 : Int32)), (8, .int (-4 : Int32)), (0, .ref (ad 0)), (1, .int v1), (2, .int v2), (3, .int v3), (4, .int v4), (5, .int v5), (6, .int v6), (7, .int v7)]) hx hb dX8_ruins_97 hl (by decide) rfl (fun ls hl => ?_)
          refine lv_iconst (v := 0) hx hb dX8_ruins_99 (by decide) ?_
          refine lv_istore (lv' := [(10, .int (0 : Int32)), (9, .int (0 : Int32)), (8, .int (-4 : Int32)), (0, .ref (ad 0)), (1, .int v1), (2, .int v2), (3, .int v3), (4, .int v4), (5, .int v5), (6, .int v6), (7, .int v7)]) hx hb dX8_ruins_100 hl (by decide) rfl (fun ls hl => ?_)
          exact loop_102 3000 I13 J13 v2 v3 v4 v5 v6 v7 (0 : Int32) (0 : Int32) _ _ _ h hP hD hS (lv_sub hl [3, 5, 6, 7, 8, 9, 10, 1, 0] rfl)
        · replace h := (if_neg c12).symm.trans h
          refine lv_aload_n hx hb dX8_ruins_84 rfl (lv_at hl 1 rfl) ?_
          refine lv_iload hx hb dX8_ruins_85 (lv_at hl 0 rfl) ?_
          obtain ⟨⟨r14, I14, J14⟩, hc14, h⟩ := ob h
          dsimp only at h
          refine callWVi (As := [.int (-4 : Int32)]) (rest := []) hC (c_X8_no l g ad I J (-4 : Int32)  H.size hc14) lk_X8_92 rfl rfl ⟨Nat.le_of_ble_eq_true rfl, Nat.le_of_ble_eq_true rfl⟩ hP hK hD hA hS mo_0 rfl rfl rfl hl (Nat.le_of_ble_eq_true rfl) dX8_ruins_87 (fun H locs hP hD hS => ?_)
          obtain ⟨h1, h⟩ := Prod.mk.inj (Option.some.inj h)
          obtain ⟨rfl, rfl⟩ := Prod.mk.inj h
          exact hret _ _ _ _ _ dX8_ruins_90 h1 hP hD hS
      · replace h := (if_neg c11).symm.trans h
        refine lv_iload hx hb dX8_ruins_25 (lv_at hl 6 rfl) ?_
        refine lv_iconst (v := 1) hx hb dX8_ruins_27 (by decide) ?_
        refine lv_icmp_lt (tgt := 37) hx hb dX8_ruins_28 (by decide) (fun c15 => ?_) (fun c15 => ?_)
        · replace h := (if_pos c15).symm.trans h
          refine lv_bipush (v := -4) hx hb dX8_ruins_37 (by decide) ?_
          refine lv_goto (tgt := 77) hx hb dX8_ruins_39 (by decide) ?_
          refine lv_istore (lv' := [(8, .int (-4 : Int32)), (0, .ref (ad 0)), (1, .int v1), (2, .int v2), (3, .int v3), (4, .int v4), (5, .int v5), (6, .int v6), (7, .int v7)]) hx hb dX8_ruins_77 hl (by decide) rfl (fun ls hl => ?_)
          refine lv_iload hx hb dX8_ruins_79 (lv_at hl 0 rfl) ?_
          refine lv_if_eq (tgt := 91) hx hb dX8_ruins_81 (by decide) (fun c16 => ?_) (fun c16 => ?_)
          · replace h := (if_pos c16).symm.trans h
            refine lv_aload_n hx hb dX8_ruins_91 rfl (lv_at hl 1 rfl) ?_
            refine lv_iload_n hx hb dX8_ruins_92 rfl (lv_at hl 2 rfl) ?_
            obtain ⟨⟨I17, J17⟩, hc17, h⟩ := ob h
            dsimp only at h
            refine callWVv (As := [.int v1]) (rest := []) hC (c_X8_takesTerm l g ad I J v1  H.size hc17) lk_X8_212 rfl rfl ⟨Nat.le_of_ble_eq_true rfl, Nat.le_of_ble_eq_true rfl⟩ hP hK hD hA hS mo_0 rfl rfl rfl hl (Nat.le_of_ble_eq_true rfl) dX8_ruins_93 (fun H locs hP hD hS => ?_)
            refine lv_iconst (v := 0) hx hb dX8_ruins_96 (by decide) ?_
            refine lv_istore (lv' := [(9, .int (0 : Int32)), (8, .int (-4 : Int32)), (0, .ref (ad 0)), (1, .int v1), (2, .int v2), (3, .int v3), (4, .int v4), (5, .int v5), (6, .int v6), (7, .int v7)]) hx hb dX8_ruins_97 hl (by decide) rfl (fun ls hl => ?_)
            refine lv_iconst (v := 0) hx hb dX8_ruins_99 (by decide) ?_
            refine lv_istore (lv' := [(10, .int (0 : Int32)), (9, .int (0 : Int32)), (8, .int (-4 : Int32)), (0, .ref (ad 0)), (1, .int v1), (2, .int v2), (3, .int v3), (4, .int v4), (5, .int v5), (6, .int v6), (7, .int v7)]) hx hb dX8_ruins_100 hl (by decide) rfl (fun ls hl => ?_)
            exact loop_102 3000 I17 J17 v2 v3 v4 v5 v6 v7 (0 : Int32) (0 : Int32) _ _ _ h hP hD hS (lv_sub hl [3, 5, 6, 7, 8, 9, 10, 1, 0] rfl)
          · replace h := (if_neg c16).symm.trans h
            refine lv_aload_n hx hb dX8_ruins_84 rfl (lv_at hl 1 rfl) ?_
            refine lv_iload hx hb dX8_ruins_85 (lv_at hl 0 rfl) ?_
            obtain ⟨⟨r18, I18, J18⟩, hc18, h⟩ := ob h
            dsimp only at h
            refine callWVi (As := [.int (-4 : Int32)]) (rest := []) hC (c_X8_no l g ad I J (-4 : Int32)  H.size hc18) lk_X8_92 rfl rfl ⟨Nat.le_of_ble_eq_true rfl, Nat.le_of_ble_eq_true rfl⟩ hP hK hD hA hS mo_0 rfl rfl rfl hl (Nat.le_of_ble_eq_true rfl) dX8_ruins_87 (fun H locs hP hD hS => ?_)
            obtain ⟨h1, h⟩ := Prod.mk.inj (Option.some.inj h)
            obtain ⟨rfl, rfl⟩ := Prod.mk.inj h
            exact hret _ _ _ _ _ dX8_ruins_90 h1 hP hD hS
        · replace h := (if_neg c15).symm.trans h
          refine lv_iload hx hb dX8_ruins_31 (lv_at hl 7 rfl) ?_
          refine lv_iconst (v := 1) hx hb dX8_ruins_33 (by decide) ?_
          refine lv_icmp_ge (tgt := 42) hx hb dX8_ruins_34 (by decide) (fun c19 => ?_) (fun c19 => ?_)
          · replace h := (if_pos c19).symm.trans h
            refine lv_iload hx hb dX8_ruins_42 (lv_at hl 4 rfl) ?_
            refine lv_bipush (v := 99) hx hb dX8_ruins_44 (by decide) ?_
            refine lv_icmp_gt (tgt := 71) hx hb dX8_ruins_46 (by decide) (fun c20 => ?_) (fun c20 => ?_)
            · replace h := (if_pos c20).symm.trans h
              refine lv_bipush (v := -6) hx hb dX8_ruins_71 (by decide) ?_
              refine lv_goto (tgt := 77) hx hb dX8_ruins_73 (by decide) ?_
              refine lv_istore (lv' := [(8, .int (-6 : Int32)), (0, .ref (ad 0)), (1, .int v1), (2, .int v2), (3, .int v3), (4, .int v4), (5, .int v5), (6, .int v6), (7, .int v7)]) hx hb dX8_ruins_77 hl (by decide) rfl (fun ls hl => ?_)
              refine lv_iload hx hb dX8_ruins_79 (lv_at hl 0 rfl) ?_
              refine lv_if_eq (tgt := 91) hx hb dX8_ruins_81 (by decide) (fun c21 => ?_) (fun c21 => ?_)
              · replace h := (if_pos c21).symm.trans h
                refine lv_aload_n hx hb dX8_ruins_91 rfl (lv_at hl 1 rfl) ?_
                refine lv_iload_n hx hb dX8_ruins_92 rfl (lv_at hl 2 rfl) ?_
                obtain ⟨⟨I22, J22⟩, hc22, h⟩ := ob h
                dsimp only at h
                refine callWVv (As := [.int v1]) (rest := []) hC (c_X8_takesTerm l g ad I J v1  H.size hc22) lk_X8_212 rfl rfl ⟨Nat.le_of_ble_eq_true rfl, Nat.le_of_ble_eq_true rfl⟩ hP hK hD hA hS mo_0 rfl rfl rfl hl (Nat.le_of_ble_eq_true rfl) dX8_ruins_93 (fun H locs hP hD hS => ?_)
                refine lv_iconst (v := 0) hx hb dX8_ruins_96 (by decide) ?_
                refine lv_istore (lv' := [(9, .int (0 : Int32)), (8, .int (-6 : Int32)), (0, .ref (ad 0)), (1, .int v1), (2, .int v2), (3, .int v3), (4, .int v4), (5, .int v5), (6, .int v6), (7, .int v7)]) hx hb dX8_ruins_97 hl (by decide) rfl (fun ls hl => ?_)
                refine lv_iconst (v := 0) hx hb dX8_ruins_99 (by decide) ?_
                refine lv_istore (lv' := [(10, .int (0 : Int32)), (9, .int (0 : Int32)), (8, .int (-6 : Int32)), (0, .ref (ad 0)), (1, .int v1), (2, .int v2), (3, .int v3), (4, .int v4), (5, .int v5), (6, .int v6), (7, .int v7)]) hx hb dX8_ruins_100 hl (by decide) rfl (fun ls hl => ?_)
                exact loop_102 3000 I22 J22 v2 v3 v4 v5 v6 v7 (0 : Int32) (0 : Int32) _ _ _ h hP hD hS (lv_sub hl [3, 5, 6, 7, 8, 9, 10, 1, 0] rfl)
              · replace h := (if_neg c21).symm.trans h
                refine lv_aload_n hx hb dX8_ruins_84 rfl (lv_at hl 1 rfl) ?_
                refine lv_iload hx hb dX8_ruins_85 (lv_at hl 0 rfl) ?_
                obtain ⟨⟨r23, I23, J23⟩, hc23, h⟩ := ob h
                dsimp only at h
                refine callWVi (As := [.int (-6 : Int32)]) (rest := []) hC (c_X8_no l g ad I J (-6 : Int32)  H.size hc23) lk_X8_92 rfl rfl ⟨Nat.le_of_ble_eq_true rfl, Nat.le_of_ble_eq_true rfl⟩ hP hK hD hA hS mo_0 rfl rfl rfl hl (Nat.le_of_ble_eq_true rfl) dX8_ruins_87 (fun H locs hP hD hS => ?_)
                obtain ⟨h1, h⟩ := Prod.mk.inj (Option.some.inj h)
                obtain ⟨rfl, rfl⟩ := Prod.mk.inj h
                exact hret _ _ _ _ _ dX8_ruins_90 h1 hP hD hS
            · replace h := (if_neg c20).symm.trans h
              refine lv_iload hx hb dX8_ruins_49 (lv_at hl 5 rfl) ?_
              refine lv_sipush (v := 999) hx hb dX8_ruins_51 (by decide) ?_
              refine lv_icmp_gt (tgt := 71) hx hb dX8_ruins_54 (by decide) (fun c24 => ?_) (fun c24 => ?_)
              · replace h := (if_pos c24).symm.trans h
                refine lv_bipush (v := -6) hx hb dX8_ruins_71 (by decide) ?_
                refine lv_goto (tgt := 77) hx hb dX8_ruins_73 (by decide) ?_
                refine lv_istore (lv' := [(8, .int (-6 : Int32)), (0, .ref (ad 0)), (1, .int v1), (2, .int v2), (3, .int v3), (4, .int v4), (5, .int v5), (6, .int v6), (7, .int v7)]) hx hb dX8_ruins_77 hl (by decide) rfl (fun ls hl => ?_)
                refine lv_iload hx hb dX8_ruins_79 (lv_at hl 0 rfl) ?_
                refine lv_if_eq (tgt := 91) hx hb dX8_ruins_81 (by decide) (fun c25 => ?_) (fun c25 => ?_)
                · replace h := (if_pos c25).symm.trans h
                  refine lv_aload_n hx hb dX8_ruins_91 rfl (lv_at hl 1 rfl) ?_
                  refine lv_iload_n hx hb dX8_ruins_92 rfl (lv_at hl 2 rfl) ?_
                  obtain ⟨⟨I26, J26⟩, hc26, h⟩ := ob h
                  dsimp only at h
                  refine callWVv (As := [.int v1]) (rest := []) hC (c_X8_takesTerm l g ad I J v1  H.size hc26) lk_X8_212 rfl rfl ⟨Nat.le_of_ble_eq_true rfl, Nat.le_of_ble_eq_true rfl⟩ hP hK hD hA hS mo_0 rfl rfl rfl hl (Nat.le_of_ble_eq_true rfl) dX8_ruins_93 (fun H locs hP hD hS => ?_)
                  refine lv_iconst (v := 0) hx hb dX8_ruins_96 (by decide) ?_
                  refine lv_istore (lv' := [(9, .int (0 : Int32)), (8, .int (-6 : Int32)), (0, .ref (ad 0)), (1, .int v1), (2, .int v2), (3, .int v3), (4, .int v4), (5, .int v5), (6, .int v6), (7, .int v7)]) hx hb dX8_ruins_97 hl (by decide) rfl (fun ls hl => ?_)
                  refine lv_iconst (v := 0) hx hb dX8_ruins_99 (by decide) ?_
                  refine lv_istore (lv' := [(10, .int (0 : Int32)), (9, .int (0 : Int32)), (8, .int (-6 : Int32)), (0, .ref (ad 0)), (1, .int v1), (2, .int v2), (3, .int v3), (4, .int v4), (5, .int v5), (6, .int v6), (7, .int v7)]) hx hb dX8_ruins_100 hl (by decide) rfl (fun ls hl => ?_)
                  exact loop_102 3000 I26 J26 v2 v3 v4 v5 v6 v7 (0 : Int32) (0 : Int32) _ _ _ h hP hD hS (lv_sub hl [3, 5, 6, 7, 8, 9, 10, 1, 0] rfl)
                · replace h := (if_neg c25).symm.trans h
                  refine lv_aload_n hx hb dX8_ruins_84 rfl (lv_at hl 1 rfl) ?_
                  refine lv_iload hx hb dX8_ruins_85 (lv_at hl 0 rfl) ?_
                  obtain ⟨⟨r27, I27, J27⟩, hc27, h⟩ := ob h
                  dsimp only at h
                  refine callWVi (As := [.int (-6 : Int32)]) (rest := []) hC (c_X8_no l g ad I J (-6 : Int32)  H.size hc27) lk_X8_92 rfl rfl ⟨Nat.le_of_ble_eq_true rfl, Nat.le_of_ble_eq_true rfl⟩ hP hK hD hA hS mo_0 rfl rfl rfl hl (Nat.le_of_ble_eq_true rfl) dX8_ruins_87 (fun H locs hP hD hS => ?_)
                  obtain ⟨h1, h⟩ := Prod.mk.inj (Option.some.inj h)
                  obtain ⟨rfl, rfl⟩ := Prod.mk.inj h
                  exact hret _ _ _ _ _ dX8_ruins_90 h1 hP hD hS
              · replace h := (if_neg c24).symm.trans h
                refine lv_iload hx hb dX8_ruins_57 (lv_at hl 6 rfl) ?_
                refine lv_bipush (v := 30) hx hb dX8_ruins_59 (by decide) ?_
                refine lv_icmp_gt (tgt := 71) hx hb dX8_ruins_61 (by decide) (fun c28 => ?_) (fun c28 => ?_)
                · replace h := (if_pos c28).symm.trans h
                  refine lv_bipush (v := -6) hx hb dX8_ruins_71 (by decide) ?_
                  refine lv_goto (tgt := 77) hx hb dX8_ruins_73 (by decide) ?_
                  refine lv_istore (lv' := [(8, .int (-6 : Int32)), (0, .ref (ad 0)), (1, .int v1), (2, .int v2), (3, .int v3), (4, .int v4), (5, .int v5), (6, .int v6), (7, .int v7)]) hx hb dX8_ruins_77 hl (by decide) rfl (fun ls hl => ?_)
                  refine lv_iload hx hb dX8_ruins_79 (lv_at hl 0 rfl) ?_
                  refine lv_if_eq (tgt := 91) hx hb dX8_ruins_81 (by decide) (fun c29 => ?_) (fun c29 => ?_)
                  · replace h := (if_pos c29).symm.trans h
                    refine lv_aload_n hx hb dX8_ruins_91 rfl (lv_at hl 1 rfl) ?_
                    refine lv_iload_n hx hb dX8_ruins_92 rfl (lv_at hl 2 rfl) ?_
                    obtain ⟨⟨I30, J30⟩, hc30, h⟩ := ob h
                    dsimp only at h
                    refine callWVv (As := [.int v1]) (rest := []) hC (c_X8_takesTerm l g ad I J v1  H.size hc30) lk_X8_212 rfl rfl ⟨Nat.le_of_ble_eq_true rfl, Nat.le_of_ble_eq_true rfl⟩ hP hK hD hA hS mo_0 rfl rfl rfl hl (Nat.le_of_ble_eq_true rfl) dX8_ruins_93 (fun H locs hP hD hS => ?_)
                    refine lv_iconst (v := 0) hx hb dX8_ruins_96 (by decide) ?_
                    refine lv_istore (lv' := [(9, .int (0 : Int32)), (8, .int (-6 : Int32)), (0, .ref (ad 0)), (1, .int v1), (2, .int v2), (3, .int v3), (4, .int v4), (5, .int v5), (6, .int v6), (7, .int v7)]) hx hb dX8_ruins_97 hl (by decide) rfl (fun ls hl => ?_)
                    refine lv_iconst (v := 0) hx hb dX8_ruins_99 (by decide) ?_
                    refine lv_istore (lv' := [(10, .int (0 : Int32)), (9, .int (0 : Int32)), (8, .int (-6 : Int32)), (0, .ref (ad 0)), (1, .int v1), (2, .int v2), (3, .int v3), (4, .int v4), (5, .int v5), (6, .int v6), (7, .int v7)]) hx hb dX8_ruins_100 hl (by decide) rfl (fun ls hl => ?_)
                    exact loop_102 3000 I30 J30 v2 v3 v4 v5 v6 v7 (0 : Int32) (0 : Int32) _ _ _ h hP hD hS (lv_sub hl [3, 5, 6, 7, 8, 9, 10, 1, 0] rfl)
                  · replace h := (if_neg c29).symm.trans h
                    refine lv_aload_n hx hb dX8_ruins_84 rfl (lv_at hl 1 rfl) ?_
                    refine lv_iload hx hb dX8_ruins_85 (lv_at hl 0 rfl) ?_
                    obtain ⟨⟨r31, I31, J31⟩, hc31, h⟩ := ob h
                    dsimp only at h
                    refine callWVi (As := [.int (-6 : Int32)]) (rest := []) hC (c_X8_no l g ad I J (-6 : Int32)  H.size hc31) lk_X8_92 rfl rfl ⟨Nat.le_of_ble_eq_true rfl, Nat.le_of_ble_eq_true rfl⟩ hP hK hD hA hS mo_0 rfl rfl rfl hl (Nat.le_of_ble_eq_true rfl) dX8_ruins_87 (fun H locs hP hD hS => ?_)
                    obtain ⟨h1, h⟩ := Prod.mk.inj (Option.some.inj h)
                    obtain ⟨rfl, rfl⟩ := Prod.mk.inj h
                    exact hret _ _ _ _ _ dX8_ruins_90 h1 hP hD hS
                · replace h := (if_neg c28).symm.trans h
                  refine lv_iload hx hb dX8_ruins_64 (lv_at hl 7 rfl) ?_
                  refine lv_bipush (v := 50) hx hb dX8_ruins_66 (by decide) ?_
                  refine tern (α := Int32) (cnd := v7 ≤ (50 : Int32)) (a := (0 : Int32)) (b := (-6 : Int32)) (Wj := fun vj => W p l e (k2_rm 4 91) s m args below meth c H locs 0 0 Q (F0 m 77 ls [.int vj])) (fun k33a k33b => ?_) ?_
                  · refine lv_icmp_le (tgt := 76) hx hb dX8_ruins_68 (by decide) (fun c32 => ?_) (fun c32 => ?_)
                    · refine lv_iconst (v := 0) hx hb dX8_ruins_76 (by decide) ?_
                      exact k33a c32
                    · refine lv_bipush (v := -6) hx hb dX8_ruins_71 (by decide) ?_
                      refine lv_goto (tgt := 77) hx hb dX8_ruins_73 (by decide) ?_
                      exact k33b c32
                  · show W p l e (k2_rm 4 91) s m args below meth c H locs 0 0 Q (F0 m 77 ls [.int (if v7 ≤ (50 : Int32) then (0 : Int32) else (-6 : Int32))])
                    refine lv_istore (lv' := [(8, .int (if v7 ≤ (50 : Int32) then (0 : Int32) else (-6 : Int32))), (0, .ref (ad 0)), (1, .int v1), (2, .int v2), (3, .int v3), (4, .int v4), (5, .int v5), (6, .int v6), (7, .int v7)]) hx hb dX8_ruins_77 hl (by decide) rfl (fun ls hl => ?_)
                    refine lv_iload hx hb dX8_ruins_79 (lv_at hl 0 rfl) ?_
                    refine lv_if_eq (tgt := 91) hx hb dX8_ruins_81 (by decide) (fun c34 => ?_) (fun c34 => ?_)
                    · replace h := (if_pos c34).symm.trans h
                      refine lv_aload_n hx hb dX8_ruins_91 rfl (lv_at hl 1 rfl) ?_
                      refine lv_iload_n hx hb dX8_ruins_92 rfl (lv_at hl 2 rfl) ?_
                      obtain ⟨⟨I35, J35⟩, hc35, h⟩ := ob h
                      dsimp only at h
                      refine callWVv (As := [.int v1]) (rest := []) hC (c_X8_takesTerm l g ad I J v1  H.size hc35) lk_X8_212 rfl rfl ⟨Nat.le_of_ble_eq_true rfl, Nat.le_of_ble_eq_true rfl⟩ hP hK hD hA hS mo_0 rfl rfl rfl hl (Nat.le_of_ble_eq_true rfl) dX8_ruins_93 (fun H locs hP hD hS => ?_)
                      refine lv_iconst (v := 0) hx hb dX8_ruins_96 (by decide) ?_
                      refine lv_istore (lv' := [(9, .int (0 : Int32)), (8, .int (if v7 ≤ (50 : Int32) then (0 : Int32) else (-6 : Int32))), (0, .ref (ad 0)), (1, .int v1), (2, .int v2), (3, .int v3), (4, .int v4), (5, .int v5), (6, .int v6), (7, .int v7)]) hx hb dX8_ruins_97 hl (by decide) rfl (fun ls hl => ?_)
                      refine lv_iconst (v := 0) hx hb dX8_ruins_99 (by decide) ?_
                      refine lv_istore (lv' := [(10, .int (0 : Int32)), (9, .int (0 : Int32)), (8, .int (if v7 ≤ (50 : Int32) then (0 : Int32) else (-6 : Int32))), (0, .ref (ad 0)), (1, .int v1), (2, .int v2), (3, .int v3), (4, .int v4), (5, .int v5), (6, .int v6), (7, .int v7)]) hx hb dX8_ruins_100 hl (by decide) rfl (fun ls hl => ?_)
                      exact loop_102 3000 I35 J35 v2 v3 v4 v5 v6 v7 (0 : Int32) (0 : Int32) _ _ _ h hP hD hS (lv_sub hl [3, 5, 6, 7, 8, 9, 10, 1, 0] rfl)
                    · replace h := (if_neg c34).symm.trans h
                      refine lv_aload_n hx hb dX8_ruins_84 rfl (lv_at hl 1 rfl) ?_
                      refine lv_iload hx hb dX8_ruins_85 (lv_at hl 0 rfl) ?_
                      obtain ⟨⟨r36, I36, J36⟩, hc36, h⟩ := ob h
                      dsimp only at h
                      refine callWVi (As := [.int (if v7 ≤ (50 : Int32) then (0 : Int32) else (-6 : Int32))]) (rest := []) hC (c_X8_no l g ad I J (if v7 ≤ (50 : Int32) then (0 : Int32) else (-6 : Int32))  H.size hc36) lk_X8_92 rfl rfl ⟨Nat.le_of_ble_eq_true rfl, Nat.le_of_ble_eq_true rfl⟩ hP hK hD hA hS mo_0 rfl rfl rfl hl (Nat.le_of_ble_eq_true rfl) dX8_ruins_87 (fun H locs hP hD hS => ?_)
                      obtain ⟨h1, h⟩ := Prod.mk.inj (Option.some.inj h)
                      obtain ⟨rfl, rfl⟩ := Prod.mk.inj h
                      exact hret _ _ _ _ _ dX8_ruins_90 h1 hP hD hS
          · replace h := (if_neg c19).symm.trans h
            refine lv_bipush (v := -4) hx hb dX8_ruins_37 (by decide) ?_
            refine lv_goto (tgt := 77) hx hb dX8_ruins_39 (by decide) ?_
            refine lv_istore (lv' := [(8, .int (-4 : Int32)), (0, .ref (ad 0)), (1, .int v1), (2, .int v2), (3, .int v3), (4, .int v4), (5, .int v5), (6, .int v6), (7, .int v7)]) hx hb dX8_ruins_77 hl (by decide) rfl (fun ls hl => ?_)
            refine lv_iload hx hb dX8_ruins_79 (lv_at hl 0 rfl) ?_
            refine lv_if_eq (tgt := 91) hx hb dX8_ruins_81 (by decide) (fun c37 => ?_) (fun c37 => ?_)
            · replace h := (if_pos c37).symm.trans h
              refine lv_aload_n hx hb dX8_ruins_91 rfl (lv_at hl 1 rfl) ?_
              refine lv_iload_n hx hb dX8_ruins_92 rfl (lv_at hl 2 rfl) ?_
              obtain ⟨⟨I38, J38⟩, hc38, h⟩ := ob h
              dsimp only at h
              refine callWVv (As := [.int v1]) (rest := []) hC (c_X8_takesTerm l g ad I J v1  H.size hc38) lk_X8_212 rfl rfl ⟨Nat.le_of_ble_eq_true rfl, Nat.le_of_ble_eq_true rfl⟩ hP hK hD hA hS mo_0 rfl rfl rfl hl (Nat.le_of_ble_eq_true rfl) dX8_ruins_93 (fun H locs hP hD hS => ?_)
              refine lv_iconst (v := 0) hx hb dX8_ruins_96 (by decide) ?_
              refine lv_istore (lv' := [(9, .int (0 : Int32)), (8, .int (-4 : Int32)), (0, .ref (ad 0)), (1, .int v1), (2, .int v2), (3, .int v3), (4, .int v4), (5, .int v5), (6, .int v6), (7, .int v7)]) hx hb dX8_ruins_97 hl (by decide) rfl (fun ls hl => ?_)
              refine lv_iconst (v := 0) hx hb dX8_ruins_99 (by decide) ?_
              refine lv_istore (lv' := [(10, .int (0 : Int32)), (9, .int (0 : Int32)), (8, .int (-4 : Int32)), (0, .ref (ad 0)), (1, .int v1), (2, .int v2), (3, .int v3), (4, .int v4), (5, .int v5), (6, .int v6), (7, .int v7)]) hx hb dX8_ruins_100 hl (by decide) rfl (fun ls hl => ?_)
              exact loop_102 3000 I38 J38 v2 v3 v4 v5 v6 v7 (0 : Int32) (0 : Int32) _ _ _ h hP hD hS (lv_sub hl [3, 5, 6, 7, 8, 9, 10, 1, 0] rfl)
            · replace h := (if_neg c37).symm.trans h
              refine lv_aload_n hx hb dX8_ruins_84 rfl (lv_at hl 1 rfl) ?_
              refine lv_iload hx hb dX8_ruins_85 (lv_at hl 0 rfl) ?_
              obtain ⟨⟨r39, I39, J39⟩, hc39, h⟩ := ob h
              dsimp only at h
              refine callWVi (As := [.int (-4 : Int32)]) (rest := []) hC (c_X8_no l g ad I J (-4 : Int32)  H.size hc39) lk_X8_92 rfl rfl ⟨Nat.le_of_ble_eq_true rfl, Nat.le_of_ble_eq_true rfl⟩ hP hK hD hA hS mo_0 rfl rfl rfl hl (Nat.le_of_ble_eq_true rfl) dX8_ruins_87 (fun H locs hP hD hS => ?_)
              obtain ⟨h1, h⟩ := Prod.mk.inj (Option.some.inj h)
              obtain ⟨rfl, rfl⟩ := Prod.mk.inj h
              exact hret _ _ _ _ _ dX8_ruins_90 h1 hP hD hS
  · replace h := (if_pos c2).symm.trans h
    refine lv_aload_n hx hb dX8_ruins_9 rfl (lv_at hl 0 rfl) ?_
    refine lv_iconst (v := -1) hx hb dX8_ruins_10 (by decide) ?_
    obtain ⟨⟨r40, I40, J40⟩, hc40, h⟩ := ob h
    dsimp only at h
    refine callWVi (As := [.int (-1 : Int32)]) (rest := []) hC (c_X8_no l g ad I J (-1 : Int32)  H.size hc40) lk_X8_92 rfl rfl ⟨Nat.le_of_ble_eq_true rfl, Nat.le_of_ble_eq_true rfl⟩ hP hK hD hA hS mo_0 rfl rfl rfl hl (Nat.le_of_ble_eq_true rfl) dX8_ruins_11 (fun H locs hP hD hS => ?_)
    obtain ⟨h1, h⟩ := Prod.mk.inj (Option.some.inj h)
    obtain ⟨rfl, rfl⟩ := Prod.mk.inj h
    exact hret _ _ _ _ _ dX8_ruins_14 h1 hP hD hS
def F_X8_row (I : SI) (J : SJ) (v1 : Int32) : Option (Int32 × SI × SJ) := ((F_X8_bound v1 (0 : Int32) (999 : Int32)).bind fun r1 => (if r1 = 0 then (if (I 0 36) = (16 : Int32) then (if (-6 : Int32) = 0 then (if gin (I 0 36) 16 = true then (some (((u2 (u1 I 20 (upd (I 20) (Int32.toNatClampNeg (I 0 36)) v1)) 0 36 (((u1 I 20 (upd (I 20) (Int32.toNatClampNeg (I 0 36)) v1)) 0 36) + (1 : Int32))) 0 36), (u2 (u1 I 20 (upd (I 20) (Int32.toNatClampNeg (I 0 36)) v1)) 0 36 (((u1 I 20 (upd (I 20) (Int32.toNatClampNeg (I 0 36)) v1)) 0 36) + (1 : Int32))), J)) else none) else ((F_X8_no I J (-6 : Int32)).bind fun (r12, I12, J12) => (some (r12, I12, J12)))) else (if r1 = 0 then (if gin (I 0 36) 16 = true then (some (((u2 (u1 I 20 (upd (I 20) (Int32.toNatClampNeg (I 0 36)) v1)) 0 36 (((u1 I 20 (upd (I 20) (Int32.toNatClampNeg (I 0 36)) v1)) 0 36) + (1 : Int32))) 0 36), (u2 (u1 I 20 (upd (I 20) (Int32.toNatClampNeg (I 0 36)) v1)) 0 36 (((u1 I 20 (upd (I 20) (Int32.toNatClampNeg (I 0 36)) v1)) 0 36) + (1 : Int32))), J)) else none) else ((F_X8_no I J r1).bind fun (r9, I9, J9) => (some (r9, I9, J9))))) else (if r1 = 0 then (if gin (I 0 36) 16 = true then (some (((u2 (u1 I 20 (upd (I 20) (Int32.toNatClampNeg (I 0 36)) v1)) 0 36 (((u1 I 20 (upd (I 20) (Int32.toNatClampNeg (I 0 36)) v1)) 0 36) + (1 : Int32))) 0 36), (u2 (u1 I 20 (upd (I 20) (Int32.toNatClampNeg (I 0 36)) v1)) 0 36 (((u1 I 20 (upd (I 20) (Int32.toNatClampNeg (I 0 36)) v1)) 0 36) + (1 : Int32))), J)) else none) else ((F_X8_no I J r1).bind fun (r5, I5, J5) => (some (r5, I5, J5))))))
set_option maxHeartbeats 4000000 in
set_option maxRecDepth 100000 in
theorem c_X8_row (l : Launch) (g : Gx) (ad : Nat → Nat) (I : SI) (J : SJ) (v1 : Int32)  (sz : Nat) {r : Int32} {rI : SI} {rJ : SJ} (h : F_X8_row I J v1 = some (r, rI, rJ)) : Met l yX8_row (Cond.code yX8_row cX8_row 3 (some .int) :: BG) (k2_rm 1 22) (PcW [.ref (ad 0), .int v1] g (mW ad g I J) sz) (QWi r g (mW ad g I J) (mW ad g rI rJ) sz) 0 0 (va_A (mW ad g I J) sz) := by
  refine mkWi (by decide) (Nat.le_of_ble_eq_true rfl) ?_
  intro p e s m args below meth c H locs ls A Q hC hK hP hD hA hS hl hret
  have hx := hC.1
  have hb := hC.2.1
  have hts := hC.2.2.2.2
  have hown := hC.2.2.2.1
  replace hl : lv_has ls 3 [(0, .ref (ad 0)), (1, .int v1)] := hl
  unfold F_X8_row at h
  refine lv_iload_n hx hb dX8_row_0 rfl (lv_at hl 1 rfl) ?_
  refine lv_iconst (v := 0) hx hb dX8_row_1 (by decide) ?_
  refine lv_sipush (v := 999) hx hb dX8_row_2 (by decide) ?_
  obtain ⟨r1, hc1, h⟩ := ob h
  refine callRS (As := [.int v1, .int (0 : Int32), .int (999 : Int32)]) (rest := []) hC (c_X8_bound l g (mW ad g I J) v1 (0 : Int32) (999 : Int32) hc1) lk_X8_85 rfl rfl ⟨Nat.le_of_ble_eq_true rfl, Nat.le_of_ble_eq_true rfl⟩ hP hK rfl rfl hl (Nat.le_of_ble_eq_true rfl) dX8_row_5 ?_
  refine lv_istore_n (lv' := [(2, .int r1), (0, .ref (ad 0)), (1, .int v1)]) hx hb dX8_row_8 rfl hl (by decide) rfl (fun ls hl => ?_)
  refine lv_iload_n hx hb dX8_row_9 rfl (lv_at hl 0 rfl) ?_
  refine lv_if_ne (tgt := 25) hx hb dX8_row_10 (by decide) (fun c2 => ?_) (fun c2 => ?_)
  · replace h := (if_neg c2).symm.trans h
    refine lv_iload_n hx hb dX8_row_25 rfl (lv_at hl 0 rfl) ?_
    refine lv_if_eq (tgt := 35) hx hb dX8_row_26 (by decide) (fun c3 => ?_) (fun c3 => ?_)
    · replace h := (if_pos c3).symm.trans h
      refine lv_aload_n hx hb dX8_row_35 rfl (lv_at hl 1 rfl) ?_
      refine gt_X8_68 hC hK hP dX8_row_36 ?_
      refine lv_aload_n hx hb dX8_row_39 rfl (lv_at hl 1 rfl) ?_
      refine gt_X8_300 hC hK hP dX8_row_40 ?_
      refine lv_iload_n hx hb dX8_row_43 rfl (lv_at hl 2 rfl) ?_
      obtain ⟨b4, h⟩ := og h
      refine as_m20 hC hK hP hD hS (gin_ok b4) dX8_row_44 (fun H locs hP hD hS => ?_)
      refine lv_aload_n hx hb dX8_row_45 rfl (lv_at hl 1 rfl) ?_
      refine lv_dup hx hb dX8_row_46 rfl ?_
      refine gt_X8_300 hC hK hP dX8_row_47 ?_
      refine lv_iconst (v := 1) hx hb dX8_row_50 (by decide) ?_
      refine lv_iadd hx hb dX8_row_51 ?_
      refine pt_X8_300 hC hK hP hD hS dX8_row_52 (fun H locs hP hD hS => ?_)
      refine lv_aload_n hx hb dX8_row_55 rfl (lv_at hl 1 rfl) ?_
      refine gt_X8_300 hC hK hP dX8_row_56 ?_
      obtain ⟨h1, h⟩ := Prod.mk.inj (Option.some.inj h)
      obtain ⟨rfl, rfl⟩ := Prod.mk.inj h
      exact hret _ _ _ _ _ dX8_row_59 h1 hP hD hS
    · replace h := (if_neg c3).symm.trans h
      refine lv_aload_n hx hb dX8_row_29 rfl (lv_at hl 1 rfl) ?_
      refine lv_iload_n hx hb dX8_row_30 rfl (lv_at hl 0 rfl) ?_
      obtain ⟨⟨r5, I5, J5⟩, hc5, h⟩ := ob h
      dsimp only at h
      refine callWVi (As := [.int r1]) (rest := []) hC (c_X8_no l g ad I J r1  H.size hc5) lk_X8_92 rfl rfl ⟨Nat.le_of_ble_eq_true rfl, Nat.le_of_ble_eq_true rfl⟩ hP hK hD hA hS mo_0 rfl rfl rfl hl (Nat.le_of_ble_eq_true rfl) dX8_row_31 (fun H locs hP hD hS => ?_)
      obtain ⟨h1, h⟩ := Prod.mk.inj (Option.some.inj h)
      obtain ⟨rfl, rfl⟩ := Prod.mk.inj h
      exact hret _ _ _ _ _ dX8_row_34 h1 hP hD hS
  · replace h := (if_pos c2).symm.trans h
    refine lv_aload_n hx hb dX8_row_13 rfl (lv_at hl 1 rfl) ?_
    refine gt_X8_300 hC hK hP dX8_row_14 ?_
    refine lv_bipush (v := 16) hx hb dX8_row_17 (by decide) ?_
    refine lv_icmp_ne (tgt := 25) hx hb dX8_row_19 (by decide) (fun c6 => ?_) (fun c6 => ?_)
    · replace h := (if_neg c6).symm.trans h
      refine lv_iload_n hx hb dX8_row_25 rfl (lv_at hl 0 rfl) ?_
      refine lv_if_eq (tgt := 35) hx hb dX8_row_26 (by decide) (fun c7 => ?_) (fun c7 => ?_)
      · replace h := (if_pos c7).symm.trans h
        refine lv_aload_n hx hb dX8_row_35 rfl (lv_at hl 1 rfl) ?_
        refine gt_X8_68 hC hK hP dX8_row_36 ?_
        refine lv_aload_n hx hb dX8_row_39 rfl (lv_at hl 1 rfl) ?_
        refine gt_X8_300 hC hK hP dX8_row_40 ?_
        refine lv_iload_n hx hb dX8_row_43 rfl (lv_at hl 2 rfl) ?_
        obtain ⟨b8, h⟩ := og h
        refine as_m20 hC hK hP hD hS (gin_ok b8) dX8_row_44 (fun H locs hP hD hS => ?_)
        refine lv_aload_n hx hb dX8_row_45 rfl (lv_at hl 1 rfl) ?_
        refine lv_dup hx hb dX8_row_46 rfl ?_
        refine gt_X8_300 hC hK hP dX8_row_47 ?_
        refine lv_iconst (v := 1) hx hb dX8_row_50 (by decide) ?_
        refine lv_iadd hx hb dX8_row_51 ?_
        refine pt_X8_300 hC hK hP hD hS dX8_row_52 (fun H locs hP hD hS => ?_)
        refine lv_aload_n hx hb dX8_row_55 rfl (lv_at hl 1 rfl) ?_
        refine gt_X8_300 hC hK hP dX8_row_56 ?_
        obtain ⟨h1, h⟩ := Prod.mk.inj (Option.some.inj h)
        obtain ⟨rfl, rfl⟩ := Prod.mk.inj h
        exact hret _ _ _ _ _ dX8_row_59 h1 hP hD hS
      · replace h := (if_neg c7).symm.trans h
        refine lv_aload_n hx hb dX8_row_29 rfl (lv_at hl 1 rfl) ?_
        refine lv_iload_n hx hb dX8_row_30 rfl (lv_at hl 0 rfl) ?_
        obtain ⟨⟨r9, I9, J9⟩, hc9, h⟩ := ob h
        dsimp only at h
        refine callWVi (As := [.int r1]) (rest := []) hC (c_X8_no l g ad I J r1  H.size hc9) lk_X8_92 rfl rfl ⟨Nat.le_of_ble_eq_true rfl, Nat.le_of_ble_eq_true rfl⟩ hP hK hD hA hS mo_0 rfl rfl rfl hl (Nat.le_of_ble_eq_true rfl) dX8_row_31 (fun H locs hP hD hS => ?_)
        obtain ⟨h1, h⟩ := Prod.mk.inj (Option.some.inj h)
        obtain ⟨rfl, rfl⟩ := Prod.mk.inj h
        exact hret _ _ _ _ _ dX8_row_34 h1 hP hD hS
    · replace h := (if_pos c6).symm.trans h
      refine lv_bipush (v := -6) hx hb dX8_row_22 (by decide) ?_
      refine lv_istore_n (lv' := [(2, .int (-6 : Int32)), (0, .ref (ad 0)), (1, .int v1)]) hx hb dX8_row_24 rfl hl (by decide) rfl (fun ls hl => ?_)
      refine lv_iload_n hx hb dX8_row_25 rfl (lv_at hl 0 rfl) ?_
      refine lv_if_eq (tgt := 35) hx hb dX8_row_26 (by decide) (fun c10 => ?_) (fun c10 => ?_)
      · replace h := (if_pos c10).symm.trans h
        refine lv_aload_n hx hb dX8_row_35 rfl (lv_at hl 1 rfl) ?_
        refine gt_X8_68 hC hK hP dX8_row_36 ?_
        refine lv_aload_n hx hb dX8_row_39 rfl (lv_at hl 1 rfl) ?_
        refine gt_X8_300 hC hK hP dX8_row_40 ?_
        refine lv_iload_n hx hb dX8_row_43 rfl (lv_at hl 2 rfl) ?_
        obtain ⟨b11, h⟩ := og h
        refine as_m20 hC hK hP hD hS (gin_ok b11) dX8_row_44 (fun H locs hP hD hS => ?_)
        refine lv_aload_n hx hb dX8_row_45 rfl (lv_at hl 1 rfl) ?_
        refine lv_dup hx hb dX8_row_46 rfl ?_
        refine gt_X8_300 hC hK hP dX8_row_47 ?_
        refine lv_iconst (v := 1) hx hb dX8_row_50 (by decide) ?_
        refine lv_iadd hx hb dX8_row_51 ?_
        refine pt_X8_300 hC hK hP hD hS dX8_row_52 (fun H locs hP hD hS => ?_)
        refine lv_aload_n hx hb dX8_row_55 rfl (lv_at hl 1 rfl) ?_
        refine gt_X8_300 hC hK hP dX8_row_56 ?_
        obtain ⟨h1, h⟩ := Prod.mk.inj (Option.some.inj h)
        obtain ⟨rfl, rfl⟩ := Prod.mk.inj h
        exact hret _ _ _ _ _ dX8_row_59 h1 hP hD hS
      · replace h := (if_neg c10).symm.trans h
        refine lv_aload_n hx hb dX8_row_29 rfl (lv_at hl 1 rfl) ?_
        refine lv_iload_n hx hb dX8_row_30 rfl (lv_at hl 0 rfl) ?_
        obtain ⟨⟨r12, I12, J12⟩, hc12, h⟩ := ob h
        dsimp only at h
        refine callWVi (As := [.int (-6 : Int32)]) (rest := []) hC (c_X8_no l g ad I J (-6 : Int32)  H.size hc12) lk_X8_92 rfl rfl ⟨Nat.le_of_ble_eq_true rfl, Nat.le_of_ble_eq_true rfl⟩ hP hK hD hA hS mo_0 rfl rfl rfl hl (Nat.le_of_ble_eq_true rfl) dX8_row_31 (fun H locs hP hD hS => ?_)
        obtain ⟨h1, h⟩ := Prod.mk.inj (Option.some.inj h)
        obtain ⟨rfl, rfl⟩ := Prod.mk.inj h
        exact hret _ _ _ _ _ dX8_row_34 h1 hP hD hS
def FL_X8_judge_46  : Nat → SI → SJ → Int32 → Int32 → Int32 → Option (Int32 × SI × SJ)
  | 0, _, _, _, _, _ => none
  | n + 1, I, J, w1_46, w3_46, w4_46 => (if w3_46 ≤ w4_46 then (some ((-9 : Int32), I, J)) else ((F_X8_drawn I J).bind fun (r4, I4, J4) => ((F_X8_reaped I4 J4 w1_46 r4).bind fun r5 => (if gin w4_46 16 = true then (if r5 = (I4 20 (Int32.toNatClampNeg w4_46)) then (FL_X8_judge_46 n I4 J4 w1_46 w3_46 (w4_46 + 1)) else (some (w4_46, I4, J4))) else none))))
def F_X8_judge (I : SI) (J : SJ) (v1 : Int32) (v2 : Int32) : Option (Int32 × SI × SJ) := ((F_X8_isIn v1 (0 : Int32) (I 0 7)).bind fun r1 => (if r1 = 0 then ((F_X8_no I J (-1 : Int32)).bind fun (r8, I8, J8) => (some (r8, I8, J8))) else (FL_X8_judge_46 3000 (u2 (u2 (u2 (u2 I 0 36 (0 : Int32)) 0 26 (0 : Int32)) 0 27 (0 : Int32)) 0 32 v2) J v1 (I 0 36) (0 : Int32))))
set_option maxHeartbeats 4000000 in
set_option maxRecDepth 100000 in
theorem c_X8_judge (l : Launch) (g : Gx) (ad : Nat → Nat) (I : SI) (J : SJ) (v1 : Int32) (v2 : Int32)  (sz : Nat) {r : Int32} {rI : SI} {rJ : SJ} (h : F_X8_judge I J v1 v2 = some (r, rI, rJ)) : Met l yX8_judge (Cond.code yX8_judge cX8_judge 5 (some .int) :: BG) (k2_rm 3 65) (PcW [.ref (ad 0), .int v1, .int v2] g (mW ad g I J) sz) (QWi r g (mW ad g I J) (mW ad g rI rJ) sz) 0 0 (va_A (mW ad g I J) sz) := by
  refine mkWi (by decide) (Nat.le_of_ble_eq_true rfl) ?_
  intro p e s m args below meth c H locs ls A Q hC hK hP hD hA hS hl hret
  have hx := hC.1
  have hb := hC.2.1
  have hts := hC.2.2.2.2
  have hown := hC.2.2.2.1
  replace hl : lv_has ls 5 [(0, .ref (ad 0)), (1, .int v1), (2, .int v2)] := hl
  have loop_46 : ∀ (n : Nat) (I : SI) (J : SJ) (w1_46 : Int32) (w3_46 : Int32) (w4_46 : Int32)  (H : Heap) (locs : List Loc) (ls : Array Slot), FL_X8_judge_46 n I J w1_46 w3_46 w4_46 = some (r, rI, rJ) → Pg g (mW ad g I J) H → va_D A (mW ad g I J) → va_S A s.heap H locs → lv_has ls 5 [(0, .ref (ad 0)), (1, .int w1_46), (3, .int w3_46), (4, .int w4_46)] → W p l e (k2_rm 3 65) s m args below meth c H locs 0 0 Q (F0 m 46 ls []) := by
    intro n
    induction n with
    | zero =>
      intro I J w1_46 w3_46 w4_46 H locs ls h
      exact no h
    | succ n ih =>
      intro I J w1_46 w3_46 w4_46 H locs ls h hP hD hS hl
      rw [FL_X8_judge_46] at h
      refine lv_iload hx hb dX8_judge_46 (lv_at hl 3 rfl) ?_
      refine lv_iload_n hx hb dX8_judge_48 rfl (lv_at hl 2 rfl) ?_
      refine lv_icmp_ge (tgt := 80) hx hb dX8_judge_49 (by decide) (fun c3 => ?_) (fun c3 => ?_)
      · replace h := (if_pos c3).symm.trans h
        refine lv_bipush (v := -9) hx hb dX8_judge_80 (by decide) ?_
        obtain ⟨h1, h⟩ := Prod.mk.inj (Option.some.inj h)
        obtain ⟨rfl, rfl⟩ := Prod.mk.inj h
        exact hret _ _ _ _ _ dX8_judge_82 h1 hP hD hS
      · replace h := (if_neg c3).symm.trans h
        refine lv_aload_n hx hb dX8_judge_52 rfl (lv_at hl 0 rfl) ?_
        refine lv_iload_n hx hb dX8_judge_53 rfl (lv_at hl 1 rfl) ?_
        refine lv_aload_n hx hb dX8_judge_54 rfl (lv_at hl 0 rfl) ?_
        obtain ⟨⟨r4, I4, J4⟩, hc4, h⟩ := ob h
        dsimp only at h
        refine callWVi (As := []) (rest := [.int w1_46, .ref (ad 0)]) hC (c_X8_drawn l g ad I J   H.size hc4) lk_X8_290 rfl rfl ⟨Nat.le_of_ble_eq_true rfl, Nat.le_of_ble_eq_true rfl⟩ hP hK hD hA hS mo_0 rfl rfl rfl hl (Nat.le_of_ble_eq_true rfl) dX8_judge_55 (fun H locs hP hD hS => ?_)
        obtain ⟨r5, hc5, h⟩ := ob h
        refine callRV (As := [.int w1_46, .int r4]) (rest := []) hC (c_X8_reaped l g ad I4 J4 w1_46 r4  hc5) lk_X8_188 rfl rfl ⟨Nat.le_of_ble_eq_true rfl, Nat.le_of_ble_eq_true rfl⟩ hP hK mo_0 rfl rfl rfl hl (Nat.le_of_ble_eq_true rfl) dX8_judge_58 ?_
        refine lv_aload_n hx hb dX8_judge_61 rfl (lv_at hl 0 rfl) ?_
        refine gt_X8_68 hC hK hP dX8_judge_62 ?_
        refine lv_iload hx hb dX8_judge_65 (lv_at hl 3 rfl) ?_
        obtain ⟨b6, h⟩ := og h
        refine al_m20 hC hK hP (gin_ok b6) dX8_judge_67 ?_
        refine lv_icmp_eq (tgt := 74) hx hb dX8_judge_68 (by decide) (fun c7 => ?_) (fun c7 => ?_)
        · replace h := (if_pos c7).symm.trans h
          refine lv_iinc (v := (w4_46 + 1)) (lv' := [(4, .int (w4_46 + 1)), (0, .ref (ad 0)), (1, .int w1_46), (3, .int w3_46)]) hx hb dX8_judge_74 hl (k := 3) rfl rfl (by decide) rfl (fun ls hl => ?_)
          refine lv_goto (tgt := 46) hx hb dX8_judge_77 (by decide) ?_
          exact ih I4 J4 w1_46 w3_46 (w4_46 + 1) _ _ _ h hP hD hS (lv_sub hl [1, 2, 3, 0] rfl)
        · replace h := (if_neg c7).symm.trans h
          refine lv_iload hx hb dX8_judge_71 (lv_at hl 3 rfl) ?_
          obtain ⟨h1, h⟩ := Prod.mk.inj (Option.some.inj h)
          obtain ⟨rfl, rfl⟩ := Prod.mk.inj h
          exact hret _ _ _ _ _ dX8_judge_73 h1 hP hD hS
  unfold F_X8_judge at h
  refine lv_iload_n hx hb dX8_judge_0 rfl (lv_at hl 1 rfl) ?_
  refine lv_iconst (v := 0) hx hb dX8_judge_1 (by decide) ?_
  refine lv_aload_n hx hb dX8_judge_2 rfl (lv_at hl 0 rfl) ?_
  refine gt_X8_125 hC hK hP dX8_judge_3 ?_
  obtain ⟨r1, hc1, h⟩ := ob h
  refine callRS (As := [.int v1, .int (0 : Int32), .int (I 0 7)]) (rest := []) hC (c_X8_isIn l g (mW ad g I J) v1 (0 : Int32) (I 0 7) hc1) lk_X8_104 rfl rfl ⟨Nat.le_of_ble_eq_true rfl, Nat.le_of_ble_eq_true rfl⟩ hP hK rfl rfl hl (Nat.le_of_ble_eq_true rfl) dX8_judge_6 ?_
  refine lv_if_ne (tgt := 18) hx hb dX8_judge_9 (by decide) (fun c2 => ?_) (fun c2 => ?_)
  · replace h := (if_neg c2).symm.trans h
    refine lv_aload_n hx hb dX8_judge_18 rfl (lv_at hl 0 rfl) ?_
    refine gt_X8_300 hC hK hP dX8_judge_19 ?_
    refine lv_istore_n (lv' := [(3, .int (I 0 36)), (0, .ref (ad 0)), (1, .int v1), (2, .int v2)]) hx hb dX8_judge_22 rfl hl (by decide) rfl (fun ls hl => ?_)
    refine lv_aload_n hx hb dX8_judge_23 rfl (lv_at hl 1 rfl) ?_
    refine lv_iconst (v := 0) hx hb dX8_judge_24 (by decide) ?_
    refine pt_X8_300 hC hK hP hD hS dX8_judge_25 (fun H locs hP hD hS => ?_)
    refine lv_aload_n hx hb dX8_judge_28 rfl (lv_at hl 1 rfl) ?_
    refine lv_iconst (v := 0) hx hb dX8_judge_29 (by decide) ?_
    refine pt_X8_179 hC hK hP hD hS dX8_judge_30 (fun H locs hP hD hS => ?_)
    refine lv_aload_n hx hb dX8_judge_33 rfl (lv_at hl 1 rfl) ?_
    refine lv_iconst (v := 0) hx hb dX8_judge_34 (by decide) ?_
    refine pt_X8_182 hC hK hP hD hS dX8_judge_35 (fun H locs hP hD hS => ?_)
    refine lv_aload_n hx hb dX8_judge_38 rfl (lv_at hl 1 rfl) ?_
    refine lv_iload_n hx hb dX8_judge_39 rfl (lv_at hl 3 rfl) ?_
    refine pt_X8_278 hC hK hP hD hS dX8_judge_40 (fun H locs hP hD hS => ?_)
    refine lv_iconst (v := 0) hx hb dX8_judge_43 (by decide) ?_
    refine lv_istore (lv' := [(4, .int (0 : Int32)), (3, .int (I 0 36)), (0, .ref (ad 0)), (1, .int v1), (2, .int v2)]) hx hb dX8_judge_44 hl (by decide) rfl (fun ls hl => ?_)
    exact loop_46 3000 (u2 (u2 (u2 (u2 I 0 36 (0 : Int32)) 0 26 (0 : Int32)) 0 27 (0 : Int32)) 0 32 v2) J v1 (I 0 36) (0 : Int32) _ _ _ h hP hD hS (lv_sub hl [2, 3, 1, 0] rfl)
  · replace h := (if_pos c2).symm.trans h
    refine lv_aload_n hx hb dX8_judge_12 rfl (lv_at hl 0 rfl) ?_
    refine lv_iconst (v := -1) hx hb dX8_judge_13 (by decide) ?_
    obtain ⟨⟨r8, I8, J8⟩, hc8, h⟩ := ob h
    dsimp only at h
    refine callWVi (As := [.int (-1 : Int32)]) (rest := []) hC (c_X8_no l g ad I J (-1 : Int32)  H.size hc8) lk_X8_92 rfl rfl ⟨Nat.le_of_ble_eq_true rfl, Nat.le_of_ble_eq_true rfl⟩ hP hK hD hA hS mo_0 rfl rfl rfl hl (Nat.le_of_ble_eq_true rfl) dX8_judge_14 (fun H locs hP hD hS => ?_)
    obtain ⟨h1, h⟩ := Prod.mk.inj (Option.some.inj h)
    obtain ⟨rfl, rfl⟩ := Prod.mk.inj h
    exact hret _ _ _ _ _ dX8_judge_17 h1 hP hD hS
def F_X8_image (I : SI) (J : SJ) : Option (Int32 × SI × SJ) := ((F_X8_passesAll (u2 I 0 38 (1 : Int32)) J (0 : Int32) (1 : Int32)).bind fun (I1, J1) => (some ((I1 0 21), I1, J1)))
set_option maxHeartbeats 4000000 in
set_option maxRecDepth 100000 in
theorem c_X8_image (l : Launch) (g : Gx) (ad : Nat → Nat) (I : SI) (J : SJ)   (sz : Nat) {r : Int32} {rI : SI} {rJ : SJ} (h : F_X8_image I J = some (r, rI, rJ)) : Met l yX8_image (Cond.code yX8_image cX8_image 1 (some .int) :: BG) (k2_rm 2 44) (PcW [.ref (ad 0)] g (mW ad g I J) sz) (QWi r g (mW ad g I J) (mW ad g rI rJ) sz) 0 0 (va_A (mW ad g I J) sz) := by
  refine mkWi (by decide) (Nat.le_of_ble_eq_true rfl) ?_
  intro p e s m args below meth c H locs ls A Q hC hK hP hD hA hS hl hret
  have hx := hC.1
  have hb := hC.2.1
  have hts := hC.2.2.2.2
  have hown := hC.2.2.2.1
  replace hl : lv_has ls 1 [(0, .ref (ad 0))] := hl
  unfold F_X8_image at h
  refine lv_aload_n hx hb dX8_image_0 rfl (lv_at hl 0 rfl) ?_
  refine lv_iconst (v := 1) hx hb dX8_image_1 (by decide) ?_
  refine pt_X8_317 (by decide) hC hK hP hD hS dX8_image_2 (fun H locs hP hD hS => ?_)
  refine lv_aload_n hx hb dX8_image_5 rfl (lv_at hl 0 rfl) ?_
  refine lv_iconst (v := 0) hx hb dX8_image_6 (by decide) ?_
  refine lv_iconst (v := 1) hx hb dX8_image_7 (by decide) ?_
  obtain ⟨⟨I1, J1⟩, hc1, h⟩ := ob h
  dsimp only at h
  refine callWVv (As := [.int (0 : Int32), .int (1 : Int32)]) (rest := []) hC (c_X8_passesAll l g ad (u2 I 0 38 (1 : Int32)) J (0 : Int32) (1 : Int32)  H.size hc1) lk_X8_132 rfl rfl ⟨Nat.le_of_ble_eq_true rfl, Nat.le_of_ble_eq_true rfl⟩ hP hK hD hA hS mo_0 rfl rfl rfl hl (Nat.le_of_ble_eq_true rfl) dX8_image_8 (fun H locs hP hD hS => ?_)
  refine lv_aload_n hx hb dX8_image_11 rfl (lv_at hl 0 rfl) ?_
  refine gt_X8_149 hC hK hP dX8_image_12 ?_
  obtain ⟨h1, h⟩ := Prod.mk.inj (Option.some.inj h)
  obtain ⟨rfl, rfl⟩ := Prod.mk.inj h
  exact hret _ _ _ _ _ dX8_image_15 h1 hP hD hS
def F_X8_restore (I : SI) (J : SJ) : Option (Int32 × SI × SJ) := (if (I 0 38) = 0 then ((F_X8_no I J (-3 : Int32)).bind fun (r3, I3, J3) => (some (r3, I3, J3))) else ((F_X8_passesAll I J (0 : Int32) (0 : Int32)).bind fun (I2, J2) => (some ((I2 0 21), I2, J2))))
set_option maxHeartbeats 4000000 in
set_option maxRecDepth 100000 in
theorem c_X8_restore (l : Launch) (g : Gx) (ad : Nat → Nat) (I : SI) (J : SJ)   (sz : Nat) {r : Int32} {rI : SI} {rJ : SJ} (h : F_X8_restore I J = some (r, rI, rJ)) : Met l yX8_restore (Cond.code yX8_restore cX8_restore 1 (some .int) :: BG) (k2_rm 2 44) (PcW [.ref (ad 0)] g (mW ad g I J) sz) (QWi r g (mW ad g I J) (mW ad g rI rJ) sz) 0 0 (va_A (mW ad g I J) sz) := by
  refine mkWi (by decide) (Nat.le_of_ble_eq_true rfl) ?_
  intro p e s m args below meth c H locs ls A Q hC hK hP hD hA hS hl hret
  have hx := hC.1
  have hb := hC.2.1
  have hts := hC.2.2.2.2
  have hown := hC.2.2.2.1
  replace hl : lv_has ls 1 [(0, .ref (ad 0))] := hl
  unfold F_X8_restore at h
  refine lv_aload_n hx hb dX8_restore_0 rfl (lv_at hl 0 rfl) ?_
  refine gt_X8_317 hC hK hP dX8_restore_1 ?_
  refine lv_if_ne (tgt := 14) hx hb dX8_restore_4 (by decide) (fun c1 => ?_) (fun c1 => ?_)
  · replace h := (if_neg c1).symm.trans h
    refine lv_aload_n hx hb dX8_restore_14 rfl (lv_at hl 0 rfl) ?_
    refine lv_iconst (v := 0) hx hb dX8_restore_15 (by decide) ?_
    refine lv_iconst (v := 0) hx hb dX8_restore_16 (by decide) ?_
    obtain ⟨⟨I2, J2⟩, hc2, h⟩ := ob h
    dsimp only at h
    refine callWVv (As := [.int (0 : Int32), .int (0 : Int32)]) (rest := []) hC (c_X8_passesAll l g ad I J (0 : Int32) (0 : Int32)  H.size hc2) lk_X8_132 rfl rfl ⟨Nat.le_of_ble_eq_true rfl, Nat.le_of_ble_eq_true rfl⟩ hP hK hD hA hS mo_0 rfl rfl rfl hl (Nat.le_of_ble_eq_true rfl) dX8_restore_17 (fun H locs hP hD hS => ?_)
    refine lv_aload_n hx hb dX8_restore_20 rfl (lv_at hl 0 rfl) ?_
    refine gt_X8_149 hC hK hP dX8_restore_21 ?_
    obtain ⟨h1, h⟩ := Prod.mk.inj (Option.some.inj h)
    obtain ⟨rfl, rfl⟩ := Prod.mk.inj h
    exact hret _ _ _ _ _ dX8_restore_24 h1 hP hD hS
  · replace h := (if_pos c1).symm.trans h
    refine lv_aload_n hx hb dX8_restore_7 rfl (lv_at hl 0 rfl) ?_
    refine lv_bipush (v := -3) hx hb dX8_restore_8 (by decide) ?_
    obtain ⟨⟨r3, I3, J3⟩, hc3, h⟩ := ob h
    dsimp only at h
    refine callWVi (As := [.int (-3 : Int32)]) (rest := []) hC (c_X8_no l g ad I J (-3 : Int32)  H.size hc3) lk_X8_92 rfl rfl ⟨Nat.le_of_ble_eq_true rfl, Nat.le_of_ble_eq_true rfl⟩ hP hK hD hA hS mo_0 rfl rfl rfl hl (Nat.le_of_ble_eq_true rfl) dX8_restore_10 (fun H locs hP hD hS => ?_)
    obtain ⟨h1, h⟩ := Prod.mk.inj (Option.some.inj h)
    obtain ⟨rfl, rfl⟩ := Prod.mk.inj h
    exact hret _ _ _ _ _ dX8_restore_13 h1 hP hD hS
def FL_X8_count_94  : Nat → SI → SJ → Int32 → Int32 → Option (Int32)
  | 0, _, _, _, _ => none
  | n + 1, I, J, w2_94, w3_94 => (if (I 0 7) ≤ w3_94 then (some w2_94) else (if gin w3_94 8 = true then (FL_X8_count_94 n I J (w2_94 + (I 5 (Int32.toNatClampNeg w3_94))) (w3_94 + 1)) else none))
def F_X8_count (I : SI) (J : SJ) (v1 : Int32) : Option (Int32) := ((F_X8_isIn v1 (11 : Int32) (16 : Int32)).bind fun r1 => (if r1 = 0 then (if v1 = 0 then (some (I 0 21)) else (if v1 = 1 then (some (I 0 7)) else (if v1 = 2 then ((F_X8_allWeathers I J).bind fun r6 => (some r6)) else (if v1 = 3 then ((F_X8_costOf I J (I 0 7)).bind fun r8 => (some r8)) else (if v1 = 4 then (FL_X8_count_94 3000 I J (0 : Int32) (0 : Int32)) else (if v1 = 5 then (some (I 0 36)) else (if v1 = 6 then (some (I 0 14)) else (some (-9 : Int32))))))))) else (if gin (v1 - (10 : Int32)) 7 = true then (some (I 1 (Int32.toNatClampNeg (v1 - (10 : Int32))))) else none)))
set_option maxHeartbeats 4000000 in
set_option maxRecDepth 100000 in
theorem c_X8_count (l : Launch) (g : Gx) (ad : Nat → Nat) (I : SI) (J : SJ) (v1 : Int32)  {r : Int32} (h : F_X8_count I J v1 = some r) : Met l yX8_count (Cond.code yX8_count cX8_count 4 (some .int) :: BG) (k2_rm 2 42) (va_Pc [.ref (ad 0), .int v1] (fun U => Pg g (mW ad g I J) U.heap ∧ Kg g U)) (k2_QcV (.int r)) 0 0 (fun _ => False) := by
  refine mkRi (by decide) (Nat.le_of_ble_eq_true rfl) ?_
  intro p e s m args below meth c H locs ls Q hC hK hP hl hret
  have hx := hC.1
  have hb := hC.2.1
  have hts := hC.2.2.2.2
  have hown := hC.2.2.2.1
  replace hl : lv_has ls 4 [(0, .ref (ad 0)), (1, .int v1)] := hl
  have loop_94 : ∀ (n : Nat) (w2_94 : Int32) (w3_94 : Int32)  (ls : Array Slot), FL_X8_count_94 n I J w2_94 w3_94 = some r → lv_has ls 4 [(0, .ref (ad 0)), (2, .int w2_94), (3, .int w3_94)] → W p l e (k2_rm 2 42) s m args below meth c H locs 0 0 Q (F0 m 94 ls []) := by
    intro n
    induction n with
    | zero =>
      intro w2_94 w3_94 ls h
      exact no h
    | succ n ih =>
      intro w2_94 w3_94 ls h hl
      rw [FL_X8_count_94] at h
      refine lv_iload_n hx hb dX8_count_94 rfl (lv_at hl 2 rfl) ?_
      refine lv_aload_n hx hb dX8_count_95 rfl (lv_at hl 0 rfl) ?_
      refine gt_X8_125 hC hK hP dX8_count_96 ?_
      refine lv_icmp_ge (tgt := 117) hx hb dX8_count_99 (by decide) (fun c10 => ?_) (fun c10 => ?_)
      · replace h := (if_pos c10).symm.trans h
        refine lv_iload_n hx hb dX8_count_117 rfl (lv_at hl 1 rfl) ?_
        exact hret _ _ _ dX8_count_118 (Option.some.inj h)
      · replace h := (if_neg c10).symm.trans h
        refine lv_iload_n hx hb dX8_count_102 rfl (lv_at hl 1 rfl) ?_
        refine lv_aload_n hx hb dX8_count_103 rfl (lv_at hl 0 rfl) ?_
        refine gt_X8_22 hC hK hP dX8_count_104 ?_
        refine lv_iload_n hx hb dX8_count_107 rfl (lv_at hl 2 rfl) ?_
        obtain ⟨b11, h⟩ := og h
        refine al_m5 hC hK hP (gin_ok b11) dX8_count_108 ?_
        refine lv_iadd hx hb dX8_count_109 ?_
        refine lv_istore_n (lv' := [(2, .int (w2_94 + (I 5 (Int32.toNatClampNeg w3_94)))), (0, .ref (ad 0)), (3, .int w3_94)]) hx hb dX8_count_110 rfl hl (by decide) rfl (fun ls hl => ?_)
        refine lv_iinc (v := (w3_94 + 1)) (lv' := [(3, .int (w3_94 + 1)), (2, .int (w2_94 + (I 5 (Int32.toNatClampNeg w3_94)))), (0, .ref (ad 0))]) hx hb dX8_count_111 hl (k := 2) rfl rfl (by decide) rfl (fun ls hl => ?_)
        refine lv_goto (tgt := 94) hx hb dX8_count_114 (by decide) ?_
        exact ih (w2_94 + (I 5 (Int32.toNatClampNeg w3_94))) (w3_94 + 1) _ h (lv_sub hl [2, 1, 0] rfl)
  unfold F_X8_count at h
  refine lv_iload_n hx hb dX8_count_0 rfl (lv_at hl 1 rfl) ?_
  refine lv_bipush (v := 11) hx hb dX8_count_1 (by decide) ?_
  refine lv_bipush (v := 16) hx hb dX8_count_3 (by decide) ?_
  obtain ⟨r1, hc1, h⟩ := ob h
  refine callRS (As := [.int v1, .int (11 : Int32), .int (16 : Int32)]) (rest := []) hC (c_X8_isIn l g (mW ad g I J) v1 (11 : Int32) (16 : Int32) hc1) lk_X8_104 rfl rfl ⟨Nat.le_of_ble_eq_true rfl, Nat.le_of_ble_eq_true rfl⟩ hP hK rfl rfl hl (Nat.le_of_ble_eq_true rfl) dX8_count_5 ?_
  refine lv_if_eq (tgt := 21) hx hb dX8_count_8 (by decide) (fun c2 => ?_) (fun c2 => ?_)
  · replace h := (if_pos c2).symm.trans h
    refine lv_iconst (v := 0) hx hb dX8_count_21 (by decide) ?_
    refine lv_istore_n (lv' := [(2, .int (0 : Int32)), (0, .ref (ad 0)), (1, .int v1)]) hx hb dX8_count_22 rfl hl (by decide) rfl (fun ls hl => ?_)
    refine lv_iload_n hx hb dX8_count_23 rfl (lv_at hl 2 rfl) ?_
    by_cases c3 : v1 = 0
    · replace h := (if_pos c3).symm.trans h
      refine lv_tableIn (off := 44) (tgt := 68) hx hb dX8_count_24 (by rw [c3]; decide) (by rw [c3]; decide) (by rw [c3]; decide) (by decide) ?_
      refine lv_aload_n hx hb dX8_count_68 rfl (lv_at hl 1 rfl) ?_
      refine gt_X8_149 hC hK hP dX8_count_69 ?_
      exact hret _ _ _ dX8_count_72 (Option.some.inj h)
    · replace h := (if_neg c3).symm.trans h
      by_cases c4 : v1 = 1
      · replace h := (if_pos c4).symm.trans h
        refine lv_tableIn (off := 49) (tgt := 73) hx hb dX8_count_24 (by rw [c4]; decide) (by rw [c4]; decide) (by rw [c4]; decide) (by decide) ?_
        refine lv_aload_n hx hb dX8_count_73 rfl (lv_at hl 1 rfl) ?_
        refine gt_X8_125 hC hK hP dX8_count_74 ?_
        exact hret _ _ _ dX8_count_77 (Option.some.inj h)
      · replace h := (if_neg c4).symm.trans h
        by_cases c5 : v1 = 2
        · replace h := (if_pos c5).symm.trans h
          refine lv_tableIn (off := 54) (tgt := 78) hx hb dX8_count_24 (by rw [c5]; decide) (by rw [c5]; decide) (by rw [c5]; decide) (by decide) ?_
          refine lv_aload_n hx hb dX8_count_78 rfl (lv_at hl 1 rfl) ?_
          obtain ⟨r6, hc6, h⟩ := ob h
          refine callRV (As := []) (rest := []) hC (c_X8_allWeathers l g ad I J   hc6) lk_X8_158 rfl rfl ⟨Nat.le_of_ble_eq_true rfl, Nat.le_of_ble_eq_true rfl⟩ hP hK mo_0 rfl rfl rfl hl (Nat.le_of_ble_eq_true rfl) dX8_count_79 ?_
          exact hret _ _ _ dX8_count_82 (Option.some.inj h)
        · replace h := (if_neg c5).symm.trans h
          by_cases c7 : v1 = 3
          · replace h := (if_pos c7).symm.trans h
            refine lv_tableIn (off := 59) (tgt := 83) hx hb dX8_count_24 (by rw [c7]; decide) (by rw [c7]; decide) (by rw [c7]; decide) (by decide) ?_
            refine lv_aload_n hx hb dX8_count_83 rfl (lv_at hl 1 rfl) ?_
            refine lv_aload_n hx hb dX8_count_84 rfl (lv_at hl 1 rfl) ?_
            refine gt_X8_125 hC hK hP dX8_count_85 ?_
            obtain ⟨r8, hc8, h⟩ := ob h
            refine callRV (As := [.int (I 0 7)]) (rest := []) hC (c_X8_costOf l g ad I J (I 0 7)  hc8) lk_X8_199 rfl rfl ⟨Nat.le_of_ble_eq_true rfl, Nat.le_of_ble_eq_true rfl⟩ hP hK mo_0 rfl rfl rfl hl (Nat.le_of_ble_eq_true rfl) dX8_count_88 ?_
            exact hret _ _ _ dX8_count_91 (Option.some.inj h)
          · replace h := (if_neg c7).symm.trans h
            by_cases c9 : v1 = 4
            · replace h := (if_pos c9).symm.trans h
              refine lv_tableIn (off := 68) (tgt := 92) hx hb dX8_count_24 (by rw [c9]; decide) (by rw [c9]; decide) (by rw [c9]; decide) (by decide) ?_
              refine lv_iconst (v := 0) hx hb dX8_count_92 (by decide) ?_
              refine lv_istore_n (lv' := [(3, .int (0 : Int32)), (2, .int (0 : Int32)), (0, .ref (ad 0)), (1, .int v1)]) hx hb dX8_count_93 rfl hl (by decide) rfl (fun ls hl => ?_)
              exact loop_94 3000 (0 : Int32) (0 : Int32) _ h (lv_sub hl [2, 1, 0] rfl)
            · replace h := (if_neg c9).symm.trans h
              by_cases c12 : v1 = 5
              · replace h := (if_pos c12).symm.trans h
                refine lv_tableIn (off := 95) (tgt := 119) hx hb dX8_count_24 (by rw [c12]; decide) (by rw [c12]; decide) (by rw [c12]; decide) (by decide) ?_
                refine lv_aload_n hx hb dX8_count_119 rfl (lv_at hl 1 rfl) ?_
                refine gt_X8_300 hC hK hP dX8_count_120 ?_
                exact hret _ _ _ dX8_count_123 (Option.some.inj h)
              · replace h := (if_neg c12).symm.trans h
                by_cases c13 : v1 = 6
                · replace h := (if_pos c13).symm.trans h
                  refine lv_tableIn (off := 100) (tgt := 124) hx hb dX8_count_24 (by rw [c13]; decide) (by rw [c13]; decide) (by rw [c13]; decide) (by decide) ?_
                  refine lv_aload_n hx hb dX8_count_124 rfl (lv_at hl 1 rfl) ?_
                  refine gt_X8_89 hC hK hP dX8_count_125 ?_
                  exact hret _ _ _ dX8_count_128 (Option.some.inj h)
                · replace h := (if_neg c13).symm.trans h
                  refine lv_tableOut (tgt := 129) hx hb dX8_count_24 (by have ec3 := ti_ne (n := 0) (by decide) c3; have ec4 := ti_ne (n := 1) (by decide) c4; have ec5 := ti_ne (n := 2) (by decide) c5; have ec7 := ti_ne (n := 3) (by decide) c7; have ec9 := ti_ne (n := 4) (by decide) c9; have ec12 := ti_ne (n := 5) (by decide) c12; have ec13 := ti_ne (n := 6) (by decide) c13; omega) (by decide) ?_
                  refine lv_bipush (v := -9) hx hb dX8_count_129 (by decide) ?_
                  exact hret _ _ _ dX8_count_131 (Option.some.inj h)
  · replace h := (if_neg c2).symm.trans h
    refine lv_aload_n hx hb dX8_count_11 rfl (lv_at hl 0 rfl) ?_
    refine gt_X8_7 hC hK hP dX8_count_12 ?_
    refine lv_iload_n hx hb dX8_count_15 rfl (lv_at hl 1 rfl) ?_
    refine lv_bipush (v := 10) hx hb dX8_count_16 (by decide) ?_
    refine lv_isub hx hb dX8_count_18 ?_
    obtain ⟨b14, h⟩ := og h
    refine al_m1 hC hK hP (gin_ok b14) dX8_count_19 ?_
    exact hret _ _ _ dX8_count_20 (Option.some.inj h)
