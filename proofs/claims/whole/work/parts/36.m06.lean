def F_X7_inRange (v1 : Int32) (v2 : Int32) (v3 : Int32) : Option (Int32) := (if v2 ≤ v1 then (some (if v1 ≤ v3 then (0 : Int32) else (-6 : Int32))) else (some (-4 : Int32)))
set_option maxHeartbeats 4000000 in
set_option maxRecDepth 100000 in
theorem c_X7_inRange (l : Launch) (g : Gx) (ws : va_W) (v1 : Int32) (v2 : Int32) (v3 : Int32)  {r : Int32} (h : F_X7_inRange v1 v2 v3 = some r) : Met l yX7_inRange (Cond.code yX7_inRange cX7_inRange 3 (some .int) :: BG) (k2_rm 0 0) (va_Pc [.int v1, .int v2, .int v3] (fun U => Pg g ws U.heap ∧ Kg g U)) (k2_QcV (.int r)) 0 0 (fun _ => False) := by
  refine mkRi (by decide) (Nat.le_of_ble_eq_true rfl) ?_
  intro p e s m args below meth c H locs ls Q hC hK hP hl hret
  have hx := hC.1
  have hb := hC.2.1
  have hts := hC.2.2.2.2
  have hown := hC.2.2.2.1
  replace hl : lv_has ls 3 [(0, .int v1), (1, .int v2), (2, .int v3)] := hl
  unfold F_X7_inRange at h
  refine lv_iload_n hx hb dX7_inRange_0 rfl (lv_at hl 0 rfl) ?_
  refine lv_iload_n hx hb dX7_inRange_1 rfl (lv_at hl 1 rfl) ?_
  refine lv_icmp_ge (tgt := 8) hx hb dX7_inRange_2 (by decide) (fun c1 => ?_) (fun c1 => ?_)
  · replace h := (if_pos c1).symm.trans h
    refine lv_iload_n hx hb dX7_inRange_8 rfl (lv_at hl 0 rfl) ?_
    refine lv_iload_n hx hb dX7_inRange_9 rfl (lv_at hl 2 rfl) ?_
    refine tern (α := Int32) (cnd := v1 ≤ v3) (a := (0 : Int32)) (b := (-6 : Int32)) (Wj := fun vj => W p l e (k2_rm 0 0) s m args below meth c H locs 0 0 Q (F0 m 19 ls [.int vj])) (fun k3a k3b => ?_) ?_
    · refine lv_icmp_le (tgt := 18) hx hb dX7_inRange_10 (by decide) (fun c2 => ?_) (fun c2 => ?_)
      · refine lv_iconst (v := 0) hx hb dX7_inRange_18 (by decide) ?_
        exact k3a c2
      · refine lv_bipush (v := -6) hx hb dX7_inRange_13 (by decide) ?_
        refine lv_goto (tgt := 19) hx hb dX7_inRange_15 (by decide) ?_
        exact k3b c2
    · show W p l e (k2_rm 0 0) s m args below meth c H locs 0 0 Q (F0 m 19 ls [.int (if v1 ≤ v3 then (0 : Int32) else (-6 : Int32))])
      exact hret _ _ _ dX7_inRange_19 (Option.some.inj h)
  · replace h := (if_neg c1).symm.trans h
    refine lv_bipush (v := -4) hx hb dX7_inRange_5 (by decide) ?_
    exact hret _ _ _ dX7_inRange_7 (Option.some.inj h)
def F_X7_refuse (I : SI) (J : SJ) (v1 : Int32) : Option (Int32 × SI × SJ) := ((F_X2_at 6 (I 61) ((-v1) - (1 : Int32))).bind fun r1 => ((F_X2_put 6 (I 61) ((-v1) - (1 : Int32)) (r1 + (1 : Int32))).bind fun f_2 => (some (v1, (u1 I 61 f_2), J))))
set_option maxHeartbeats 4000000 in
set_option maxRecDepth 100000 in
theorem c_X7_refuse (l : Launch) (g : Gx) (ad : Nat → Nat) (I : SI) (J : SJ) (v1 : Int32)  (sz : Nat) {r : Int32} {rI : SI} {rJ : SJ} (h : F_X7_refuse I J v1 = some (r, rI, rJ)) : Met l yX7_refuse (Cond.code yX7_refuse cX7_refuse 3 (some .int) :: BG) (k2_rm 1 22) (PcW [.ref (ad 59), .int v1] g (xW ad g I J) sz) (QWi r g (xW ad g I J) (xW ad g rI rJ) sz) 0 0 (va_A (xW ad g I J) sz) := by
  refine mkWi (by decide) (Nat.le_of_ble_eq_true rfl) ?_
  intro p e s m args below meth c H locs ls A Q hC hK hP hD hA hS hl hret
  have hx := hC.1
  have hb := hC.2.1
  have hts := hC.2.2.2.2
  have hown := hC.2.2.2.1
  replace hl : lv_has ls 3 [(0, .ref (ad 59)), (1, .int v1)] := hl
  unfold F_X7_refuse at h
  refine lv_iload_n hx hb dX7_refuse_0 rfl (lv_at hl 1 rfl) ?_
  refine lv_ineg hx hb dX7_refuse_1 ?_
  refine lv_iconst (v := 1) hx hb dX7_refuse_2 (by decide) ?_
  refine lv_isub hx hb dX7_refuse_3 ?_
  refine lv_istore_n (lv' := [(2, .int ((-v1) - (1 : Int32))), (0, .ref (ad 59)), (1, .int v1)]) hx hb dX7_refuse_4 rfl hl (by decide) rfl (fun ls hl => ?_)
  refine lv_aload_n hx hb dX7_refuse_5 rfl (lv_at hl 1 rfl) ?_
  refine gt_X7_63 hC hK hP dX7_refuse_6 ?_
  refine lv_iload_n hx hb dX7_refuse_9 rfl (lv_at hl 0 rfl) ?_
  refine lv_aload_n hx hb dX7_refuse_10 rfl (lv_at hl 1 rfl) ?_
  refine gt_X7_63 hC hK hP dX7_refuse_11 ?_
  refine lv_iload_n hx hb dX7_refuse_14 rfl (lv_at hl 0 rfl) ?_
  obtain ⟨r1, hc1, h⟩ := ob h
  refine callRS (As := [.ref (ad 61), .int ((-v1) - (1 : Int32))]) (rest := [.int ((-v1) - (1 : Int32)), .ref (ad 61)]) hC (c_X2_at l g (xW ad g I J) 61 6 (I 61) (ad 61) xo_61 ((-v1) - (1 : Int32)) hc1) lk_X7_282 rfl rfl ⟨Nat.le_of_ble_eq_true rfl, Nat.le_of_ble_eq_true rfl⟩ hP hK rfl rfl hl (Nat.le_of_ble_eq_true rfl) dX7_refuse_15 ?_
  refine lv_iconst (v := 1) hx hb dX7_refuse_18 (by decide) ?_
  refine lv_iadd hx hb dX7_refuse_19 ?_
  obtain ⟨f_2, hc2, h⟩ := ob h
  refine callWSv (As := [.ref (ad 61), .int ((-v1) - (1 : Int32)), .int (r1 + (1 : Int32))]) (rest := []) hC (c_X2_put l g (xW ad g I J) (fun f => xW ad g (u1 I 61 f) J) 61 6 (I 61) (ad 61) xc_61.1 xc_61.2.1 xc_61.2.2 ((-v1) - (1 : Int32)) (r1 + (1 : Int32)) H.size hc2) lk_X7_275 rfl rfl ⟨Nat.le_of_ble_eq_true rfl, Nat.le_of_ble_eq_true rfl⟩ hP hK hD hA hS rfl rfl hl (Nat.le_of_ble_eq_true rfl) dX7_refuse_20 (fun H locs hP hD hS => ?_)
  refine lv_iload_n hx hb dX7_refuse_23 rfl (lv_at hl 2 rfl) ?_
  obtain ⟨h1, h⟩ := Prod.mk.inj (Option.some.inj h)
  obtain ⟨rfl, rfl⟩ := Prod.mk.inj h
  exact hret _ _ _ _ _ dX7_refuse_24 h1 hP hD hS
def F_X7_feed (I : SI) (J : SJ) (v1 : Int32) (v2 : Int64) : Option (Int32 × SI × SJ) := ((F_X7_inRange v1 (1 : Int32) (8 : Int32)).bind fun r1 => (if r1 = 0 then ((F_X6_hasRoom I J v1).bind fun r6 => (if r6 = 0 then (if (-6 : Int32) = 0 then ((F_X6_append I J v1 v2).bind fun (I12, J12) => (some ((I12 45 1), I12, J12))) else ((F_X7_refuse I J (-6 : Int32)).bind fun (r13, I13, J13) => (some (r13, I13, J13)))) else (if r1 = 0 then ((F_X6_append I J v1 v2).bind fun (I9, J9) => (some ((I9 45 1), I9, J9))) else ((F_X7_refuse I J r1).bind fun (r10, I10, J10) => (some (r10, I10, J10)))))) else (if r1 = 0 then ((F_X6_append I J v1 v2).bind fun (I4, J4) => (some ((I4 45 1), I4, J4))) else ((F_X7_refuse I J r1).bind fun (r5, I5, J5) => (some (r5, I5, J5))))))
set_option maxHeartbeats 4000000 in
set_option maxRecDepth 100000 in
theorem c_X7_feed (l : Launch) (g : Gx) (ad : Nat → Nat) (I : SI) (J : SJ) (v1 : Int32) (v2 : Int64)  (sz : Nat) {r : Int32} {rI : SI} {rJ : SJ} (h : F_X7_feed I J v1 v2 = some (r, rI, rJ)) : Met l yX7_feed (Cond.code yX7_feed cX7_feed 5 (some .int) :: BG) (k2_rm 2 46) (PcW [.ref (ad 59), .int v1, .long v2] g (xW ad g I J) sz) (QWi r g (xW ad g I J) (xW ad g rI rJ) sz) 0 0 (va_A (xW ad g I J) sz) := by
  refine mkWi (by decide) (Nat.le_of_ble_eq_true rfl) ?_
  intro p e s m args below meth c H locs ls A Q hC hK hP hD hA hS hl hret
  have hx := hC.1
  have hb := hC.2.1
  have hts := hC.2.2.2.2
  have hown := hC.2.2.2.1
  replace hl : lv_has ls 5 [(0, .ref (ad 59)), (1, .int v1), (2, .long v2)] := hl
  unfold F_X7_feed at h
  refine lv_iload_n hx hb dX7_feed_0 rfl (lv_at hl 1 rfl) ?_
  refine lv_iconst (v := 1) hx hb dX7_feed_1 (by decide) ?_
  refine lv_bipush (v := 8) hx hb dX7_feed_2 (by decide) ?_
  obtain ⟨r1, hc1, h⟩ := ob h
  refine callRS (As := [.int v1, .int (1 : Int32), .int (8 : Int32)]) (rest := []) hC (c_X7_inRange l g (xW ad g I J) v1 (1 : Int32) (8 : Int32) hc1) lk_X7_66 rfl rfl ⟨Nat.le_of_ble_eq_true rfl, Nat.le_of_ble_eq_true rfl⟩ hP hK rfl rfl hl (Nat.le_of_ble_eq_true rfl) dX7_feed_4 ?_
  refine lv_istore (lv' := [(4, .int r1), (0, .ref (ad 59)), (1, .int v1), (2, .long v2)]) hx hb dX7_feed_7 hl (by decide) rfl (fun ls hl => ?_)
  refine lv_iload hx hb dX7_feed_9 (lv_at hl 0 rfl) ?_
  refine lv_if_ne (tgt := 29) hx hb dX7_feed_11 (by decide) (fun c2 => ?_) (fun c2 => ?_)
  · replace h := (if_neg c2).symm.trans h
    refine lv_iload hx hb dX7_feed_29 (lv_at hl 0 rfl) ?_
    refine lv_if_eq (tgt := 41) hx hb dX7_feed_31 (by decide) (fun c3 => ?_) (fun c3 => ?_)
    · replace h := (if_pos c3).symm.trans h
      refine lv_aload_n hx hb dX7_feed_41 rfl (lv_at hl 1 rfl) ?_
      refine gt_X7_25 hC hK hP dX7_feed_42 ?_
      refine lv_iload_n hx hb dX7_feed_45 rfl (lv_at hl 2 rfl) ?_
      refine lv_lload_n hx hb dX7_feed_46 rfl (lv_at hl 3 rfl) ?_
      obtain ⟨⟨I4, J4⟩, hc4, h⟩ := ob h
      dsimp only at h
      refine callWVv (As := [.int v1, .long v2]) (rest := []) hC (c_X6_append l g ad I J v1 v2  H.size hc4) lk_X7_78 rfl rfl ⟨Nat.le_of_ble_eq_true rfl, Nat.le_of_ble_eq_true rfl⟩ hP hK hD hA hS xo_45 rfl rfl rfl hl (Nat.le_of_ble_eq_true rfl) dX7_feed_47 (fun H locs hP hD hS => ?_)
      refine lv_aload_n hx hb dX7_feed_50 rfl (lv_at hl 1 rfl) ?_
      refine gt_X7_25 hC hK hP dX7_feed_51 ?_
      refine gt_X7_82 hC hK hP dX7_feed_54 ?_
      obtain ⟨h1, h⟩ := Prod.mk.inj (Option.some.inj h)
      obtain ⟨rfl, rfl⟩ := Prod.mk.inj h
      exact hret _ _ _ _ _ dX7_feed_57 h1 hP hD hS
    · replace h := (if_neg c3).symm.trans h
      refine lv_aload_n hx hb dX7_feed_34 rfl (lv_at hl 1 rfl) ?_
      refine lv_iload hx hb dX7_feed_35 (lv_at hl 0 rfl) ?_
      obtain ⟨⟨r5, I5, J5⟩, hc5, h⟩ := ob h
      dsimp only at h
      refine callWVi (As := [.int r1]) (rest := []) hC (c_X7_refuse l g ad I J r1  H.size hc5) lk_X7_74 rfl rfl ⟨Nat.le_of_ble_eq_true rfl, Nat.le_of_ble_eq_true rfl⟩ hP hK hD hA hS xo_59 rfl rfl rfl hl (Nat.le_of_ble_eq_true rfl) dX7_feed_37 (fun H locs hP hD hS => ?_)
      obtain ⟨h1, h⟩ := Prod.mk.inj (Option.some.inj h)
      obtain ⟨rfl, rfl⟩ := Prod.mk.inj h
      exact hret _ _ _ _ _ dX7_feed_40 h1 hP hD hS
  · replace h := (if_pos c2).symm.trans h
    refine lv_aload_n hx hb dX7_feed_14 rfl (lv_at hl 1 rfl) ?_
    refine gt_X7_25 hC hK hP dX7_feed_15 ?_
    refine lv_iload_n hx hb dX7_feed_18 rfl (lv_at hl 2 rfl) ?_
    obtain ⟨r6, hc6, h⟩ := ob h
    refine callRV (As := [.int v1]) (rest := []) hC (c_X6_hasRoom l g ad I J v1  hc6) lk_X7_70 rfl rfl ⟨Nat.le_of_ble_eq_true rfl, Nat.le_of_ble_eq_true rfl⟩ hP hK xo_45 rfl rfl rfl hl (Nat.le_of_ble_eq_true rfl) dX7_feed_19 ?_
    refine lv_if_ne (tgt := 29) hx hb dX7_feed_22 (by decide) (fun c7 => ?_) (fun c7 => ?_)
    · replace h := (if_neg c7).symm.trans h
      refine lv_iload hx hb dX7_feed_29 (lv_at hl 0 rfl) ?_
      refine lv_if_eq (tgt := 41) hx hb dX7_feed_31 (by decide) (fun c8 => ?_) (fun c8 => ?_)
      · replace h := (if_pos c8).symm.trans h
        refine lv_aload_n hx hb dX7_feed_41 rfl (lv_at hl 1 rfl) ?_
        refine gt_X7_25 hC hK hP dX7_feed_42 ?_
        refine lv_iload_n hx hb dX7_feed_45 rfl (lv_at hl 2 rfl) ?_
        refine lv_lload_n hx hb dX7_feed_46 rfl (lv_at hl 3 rfl) ?_
        obtain ⟨⟨I9, J9⟩, hc9, h⟩ := ob h
        dsimp only at h
        refine callWVv (As := [.int v1, .long v2]) (rest := []) hC (c_X6_append l g ad I J v1 v2  H.size hc9) lk_X7_78 rfl rfl ⟨Nat.le_of_ble_eq_true rfl, Nat.le_of_ble_eq_true rfl⟩ hP hK hD hA hS xo_45 rfl rfl rfl hl (Nat.le_of_ble_eq_true rfl) dX7_feed_47 (fun H locs hP hD hS => ?_)
        refine lv_aload_n hx hb dX7_feed_50 rfl (lv_at hl 1 rfl) ?_
        refine gt_X7_25 hC hK hP dX7_feed_51 ?_
        refine gt_X7_82 hC hK hP dX7_feed_54 ?_
        obtain ⟨h1, h⟩ := Prod.mk.inj (Option.some.inj h)
        obtain ⟨rfl, rfl⟩ := Prod.mk.inj h
        exact hret _ _ _ _ _ dX7_feed_57 h1 hP hD hS
      · replace h := (if_neg c8).symm.trans h
        refine lv_aload_n hx hb dX7_feed_34 rfl (lv_at hl 1 rfl) ?_
        refine lv_iload hx hb dX7_feed_35 (lv_at hl 0 rfl) ?_
        obtain ⟨⟨r10, I10, J10⟩, hc10, h⟩ := ob h
        dsimp only at h
        refine callWVi (As := [.int r1]) (rest := []) hC (c_X7_refuse l g ad I J r1  H.size hc10) lk_X7_74 rfl rfl ⟨Nat.le_of_ble_eq_true rfl, Nat.le_of_ble_eq_true rfl⟩ hP hK hD hA hS xo_59 rfl rfl rfl hl (Nat.le_of_ble_eq_true rfl) dX7_feed_37 (fun H locs hP hD hS => ?_)
        obtain ⟨h1, h⟩ := Prod.mk.inj (Option.some.inj h)
        obtain ⟨rfl, rfl⟩ := Prod.mk.inj h
        exact hret _ _ _ _ _ dX7_feed_40 h1 hP hD hS
    · replace h := (if_pos c7).symm.trans h
      refine lv_bipush (v := -6) hx hb dX7_feed_25 (by decide) ?_
      refine lv_istore (lv' := [(4, .int (-6 : Int32)), (0, .ref (ad 59)), (1, .int v1), (2, .long v2)]) hx hb dX7_feed_27 hl (by decide) rfl (fun ls hl => ?_)
      refine lv_iload hx hb dX7_feed_29 (lv_at hl 0 rfl) ?_
      refine lv_if_eq (tgt := 41) hx hb dX7_feed_31 (by decide) (fun c11 => ?_) (fun c11 => ?_)
      · replace h := (if_pos c11).symm.trans h
        refine lv_aload_n hx hb dX7_feed_41 rfl (lv_at hl 1 rfl) ?_
        refine gt_X7_25 hC hK hP dX7_feed_42 ?_
        refine lv_iload_n hx hb dX7_feed_45 rfl (lv_at hl 2 rfl) ?_
        refine lv_lload_n hx hb dX7_feed_46 rfl (lv_at hl 3 rfl) ?_
        obtain ⟨⟨I12, J12⟩, hc12, h⟩ := ob h
        dsimp only at h
        refine callWVv (As := [.int v1, .long v2]) (rest := []) hC (c_X6_append l g ad I J v1 v2  H.size hc12) lk_X7_78 rfl rfl ⟨Nat.le_of_ble_eq_true rfl, Nat.le_of_ble_eq_true rfl⟩ hP hK hD hA hS xo_45 rfl rfl rfl hl (Nat.le_of_ble_eq_true rfl) dX7_feed_47 (fun H locs hP hD hS => ?_)
        refine lv_aload_n hx hb dX7_feed_50 rfl (lv_at hl 1 rfl) ?_
        refine gt_X7_25 hC hK hP dX7_feed_51 ?_
        refine gt_X7_82 hC hK hP dX7_feed_54 ?_
        obtain ⟨h1, h⟩ := Prod.mk.inj (Option.some.inj h)
        obtain ⟨rfl, rfl⟩ := Prod.mk.inj h
        exact hret _ _ _ _ _ dX7_feed_57 h1 hP hD hS
      · replace h := (if_neg c11).symm.trans h
        refine lv_aload_n hx hb dX7_feed_34 rfl (lv_at hl 1 rfl) ?_
        refine lv_iload hx hb dX7_feed_35 (lv_at hl 0 rfl) ?_
        obtain ⟨⟨r13, I13, J13⟩, hc13, h⟩ := ob h
        dsimp only at h
        refine callWVi (As := [.int (-6 : Int32)]) (rest := []) hC (c_X7_refuse l g ad I J (-6 : Int32)  H.size hc13) lk_X7_74 rfl rfl ⟨Nat.le_of_ble_eq_true rfl, Nat.le_of_ble_eq_true rfl⟩ hP hK hD hA hS xo_59 rfl rfl rfl hl (Nat.le_of_ble_eq_true rfl) dX7_feed_37 (fun H locs hP hD hS => ?_)
        obtain ⟨h1, h⟩ := Prod.mk.inj (Option.some.inj h)
        obtain ⟨rfl, rfl⟩ := Prod.mk.inj h
        exact hret _ _ _ _ _ dX7_feed_40 h1 hP hD hS
def F_X7_field (I : SI) (J : SJ) : Option (Int32 × SI × SJ) := ((F_X1_copyFrom 30 0 I J).bind fun (I1, J1) => ((F_X6_readField 30 I1 J1).bind fun (r2, I2, J2) => (if r2 < 0 then ((F_X6_empty I2 J2).bind fun (I4, J4) => (some (r2, I4, J4))) else ((F_X1_copyFrom 0 30 I2 J2).bind fun (I5, J5) => ((F_X6_empty I5 J5).bind fun (I6, J6) => (some (r2, I6, J6)))))))
set_option maxHeartbeats 4000000 in
set_option maxRecDepth 100000 in
theorem c_X7_field (l : Launch) (g : Gx) (ad : Nat → Nat) (I : SI) (J : SJ) (qm : Nat)   (sz : Nat) {r : Int32} {rI : SI} {rJ : SJ} (h : F_X7_field I J = some (r, rI, rJ)) : Met l yX7_field (Cond.code yX7_field cX7_field 2 (some .int) :: BG) (k2_rm 6 139) (PcWM [.ref (ad 59)] g (xW ad g I J) sz qm) (QWi r g (xW ad g I J) (xW ad g rI rJ) sz) 0 0 (va_A (xW ad g I J) sz) := by
  refine mkWMi (by decide) (Nat.le_of_ble_eq_true rfl) ?_
  intro p e s m args below meth c H locs ls A Q hC hK hP hD hA hS hZ hl hret
  have hx := hC.1
  have hb := hC.2.1
  have hts := hC.2.2.2.2
  have hown := hC.2.2.2.1
  replace hl : lv_has ls 2 [(0, .ref (ad 59))] := hl
  unfold F_X7_field at h
  refine lv_aload_n hx hb dX7_field_0 rfl (lv_at hl 0 rfl) ?_
  refine gt_X7_19 hC hK hP dX7_field_1 ?_
  refine lv_aload_n hx hb dX7_field_4 rfl (lv_at hl 0 rfl) ?_
  refine gt_X7_10 hC hK hP dX7_field_5 ?_
  obtain ⟨⟨I1, J1⟩, hc1, h⟩ := ob h
  dsimp only at h
  refine callWVv (As := [.ref (ad 0)]) (rest := []) hC (c_X1_copyFrom l g ad I J 30 0 (Or.inr (Or.inr rfl)) (Or.inl rfl) (by decide) H.size hc1) lk_X7_86 rfl rfl ⟨Nat.le_of_ble_eq_true rfl, Nat.le_of_ble_eq_true rfl⟩ hP hK hD hA hS (xEo (Or.inr (Or.inr rfl))) rfl rfl rfl hl (Nat.le_of_ble_eq_true rfl) dX7_field_8 (fun H locs hP hD hS => ?_)
  refine lv_aload_n hx hb dX7_field_11 rfl (lv_at hl 0 rfl) ?_
  refine gt_X7_25 hC hK hP dX7_field_12 ?_
  refine lv_aload_n hx hb dX7_field_15 rfl (lv_at hl 0 rfl) ?_
  refine gt_X7_19 hC hK hP dX7_field_16 ?_
  obtain ⟨⟨r2, I2, J2⟩, hc2, h⟩ := ob h
  dsimp only at h
  refine callWVMi (As := [.ref (ad 30)]) (rest := []) hC (c_X6_readField l g ad I1 J1 qm 30 (Or.inr (Or.inr rfl)) H.size hc2) lk_X7_89 rfl rfl ⟨Nat.le_of_ble_eq_true rfl, Nat.le_of_ble_eq_true rfl⟩ hP hK hD hA hS hZ xo_45 rfl rfl rfl hl (Nat.le_of_ble_eq_true rfl) dX7_field_19 (fun H locs hP hD hS => ?_)
  refine lv_istore_n (lv' := [(1, .int r2), (0, .ref (ad 59))]) hx hb dX7_field_22 rfl hl (by decide) rfl (fun ls hl => ?_)
  refine lv_iload_n hx hb dX7_field_23 rfl (lv_at hl 0 rfl) ?_
  refine lv_if_lt (tgt := 38) hx hb dX7_field_24 (by decide) (fun c3 => ?_) (fun c3 => ?_)
  · replace h := (if_pos c3).symm.trans h
    refine lv_aload_n hx hb dX7_field_38 rfl (lv_at hl 1 rfl) ?_
    refine gt_X7_25 hC hK hP dX7_field_39 ?_
    obtain ⟨⟨I4, J4⟩, hc4, h⟩ := ob h
    dsimp only at h
    refine callWVv (As := []) (rest := []) hC (c_X6_empty l g ad I2 J2   H.size hc4) lk_X7_93 rfl rfl ⟨Nat.le_of_ble_eq_true rfl, Nat.le_of_ble_eq_true rfl⟩ hP hK hD hA hS xo_45 rfl rfl rfl hl (Nat.le_of_ble_eq_true rfl) dX7_field_42 (fun H locs hP hD hS => ?_)
    refine lv_iload_n hx hb dX7_field_45 rfl (lv_at hl 0 rfl) ?_
    obtain ⟨h1, h⟩ := Prod.mk.inj (Option.some.inj h)
    obtain ⟨rfl, rfl⟩ := Prod.mk.inj h
    exact hret _ _ _ _ _ dX7_field_46 h1 hP hD hS
  · replace h := (if_neg c3).symm.trans h
    refine lv_aload_n hx hb dX7_field_27 rfl (lv_at hl 1 rfl) ?_
    refine gt_X7_10 hC hK hP dX7_field_28 ?_
    refine lv_aload_n hx hb dX7_field_31 rfl (lv_at hl 1 rfl) ?_
    refine gt_X7_19 hC hK hP dX7_field_32 ?_
    obtain ⟨⟨I5, J5⟩, hc5, h⟩ := ob h
    dsimp only at h
    refine callWVv (As := [.ref (ad 30)]) (rest := []) hC (c_X1_copyFrom l g ad I2 J2 0 30 (Or.inl rfl) (Or.inr (Or.inr rfl)) (by decide) H.size hc5) lk_X7_86 rfl rfl ⟨Nat.le_of_ble_eq_true rfl, Nat.le_of_ble_eq_true rfl⟩ hP hK hD hA hS (xEo (Or.inl rfl)) rfl rfl rfl hl (Nat.le_of_ble_eq_true rfl) dX7_field_35 (fun H locs hP hD hS => ?_)
    refine lv_aload_n hx hb dX7_field_38 rfl (lv_at hl 1 rfl) ?_
    refine gt_X7_25 hC hK hP dX7_field_39 ?_
    obtain ⟨⟨I6, J6⟩, hc6, h⟩ := ob h
    dsimp only at h
    refine callWVv (As := []) (rest := []) hC (c_X6_empty l g ad I5 J5   H.size hc6) lk_X7_93 rfl rfl ⟨Nat.le_of_ble_eq_true rfl, Nat.le_of_ble_eq_true rfl⟩ hP hK hD hA hS xo_45 rfl rfl rfl hl (Nat.le_of_ble_eq_true rfl) dX7_field_42 (fun H locs hP hD hS => ?_)
    refine lv_iload_n hx hb dX7_field_45 rfl (lv_at hl 0 rfl) ?_
    obtain ⟨h1, h⟩ := Prod.mk.inj (Option.some.inj h)
    obtain ⟨rfl, rfl⟩ := Prod.mk.inj h
    exact hret _ _ _ _ _ dX7_field_46 h1 hP hD hS
def F_X7_term (I : SI) (J : SJ) : Option (Int32 × SI × SJ) := (if (I 0 8) < (8 : Int32) then ((F_X6_readTerm 58 I J).bind fun (r2, I2, J2) => ((F_X6_empty I2 J2).bind fun (I3, J3) => (if r2 < 0 then ((F_X1_addTerm 0 58 I3 J3).bind fun (r5, I5, J5) => (some (r5, I5, J5))) else (some (((-20 : Int32) - r2), I3, J3))))) else ((F_X7_refuse I J (-6 : Int32)).bind fun (r6, I6, J6) => (some (r6, I6, J6))))
set_option maxHeartbeats 4000000 in
set_option maxRecDepth 100000 in
theorem c_X7_term (l : Launch) (g : Gx) (ad : Nat → Nat) (I : SI) (J : SJ)   (sz : Nat) {r : Int32} {rI : SI} {rJ : SJ} (h : F_X7_term I J = some (r, rI, rJ)) : Met l yX7_term (Cond.code yX7_term cX7_term 2 (some .int) :: BG) (k2_rm 5 113) (PcW [.ref (ad 59)] g (xW ad g I J) sz) (QWi r g (xW ad g I J) (xW ad g rI rJ) sz) 0 0 (va_A (xW ad g I J) sz) := by
  refine mkWi (by decide) (Nat.le_of_ble_eq_true rfl) ?_
  intro p e s m args below meth c H locs ls A Q hC hK hP hD hA hS hl hret
  have hx := hC.1
  have hb := hC.2.1
  have hts := hC.2.2.2.2
  have hown := hC.2.2.2.1
  replace hl : lv_has ls 2 [(0, .ref (ad 59))] := hl
  unfold F_X7_term at h
  refine lv_aload_n hx hb dX7_term_0 rfl (lv_at hl 0 rfl) ?_
  refine gt_X7_10 hC hK hP dX7_term_1 ?_
  refine gt_X7_96 (Or.inl rfl) hC hK hP dX7_term_4 ?_
  refine lv_bipush (v := 8) hx hb dX7_term_7 (by decide) ?_
  refine lv_icmp_lt (tgt := 19) hx hb dX7_term_9 (by decide) (fun c1 => ?_) (fun c1 => ?_)
  · replace h := (if_pos c1).symm.trans h
    refine lv_aload_n hx hb dX7_term_19 rfl (lv_at hl 0 rfl) ?_
    refine gt_X7_25 hC hK hP dX7_term_20 ?_
    refine lv_aload_n hx hb dX7_term_23 rfl (lv_at hl 0 rfl) ?_
    refine gt_X7_55 hC hK hP dX7_term_24 ?_
    obtain ⟨⟨r2, I2, J2⟩, hc2, h⟩ := ob h
    dsimp only at h
    refine callWVi (As := [.ref (ad 58)]) (rest := []) hC (c_X6_readTerm l g ad I J 58 (by unfold isT; omega) H.size hc2) lk_X7_99 rfl rfl ⟨Nat.le_of_ble_eq_true rfl, Nat.le_of_ble_eq_true rfl⟩ hP hK hD hA hS xo_45 rfl rfl rfl hl (Nat.le_of_ble_eq_true rfl) dX7_term_27 (fun H locs hP hD hS => ?_)
    refine lv_istore_n (lv' := [(1, .int r2), (0, .ref (ad 59))]) hx hb dX7_term_30 rfl hl (by decide) rfl (fun ls hl => ?_)
    refine lv_aload_n hx hb dX7_term_31 rfl (lv_at hl 1 rfl) ?_
    refine gt_X7_25 hC hK hP dX7_term_32 ?_
    obtain ⟨⟨I3, J3⟩, hc3, h⟩ := ob h
    dsimp only at h
    refine callWVv (As := []) (rest := []) hC (c_X6_empty l g ad I2 J2   H.size hc3) lk_X7_93 rfl rfl ⟨Nat.le_of_ble_eq_true rfl, Nat.le_of_ble_eq_true rfl⟩ hP hK hD hA hS xo_45 rfl rfl rfl hl (Nat.le_of_ble_eq_true rfl) dX7_term_35 (fun H locs hP hD hS => ?_)
    refine lv_iload_n hx hb dX7_term_38 rfl (lv_at hl 0 rfl) ?_
    refine lv_if_lt (tgt := 47) hx hb dX7_term_39 (by decide) (fun c4 => ?_) (fun c4 => ?_)
    · replace h := (if_pos c4).symm.trans h
      refine lv_aload_n hx hb dX7_term_47 rfl (lv_at hl 1 rfl) ?_
      refine gt_X7_10 hC hK hP dX7_term_48 ?_
      refine lv_aload_n hx hb dX7_term_51 rfl (lv_at hl 1 rfl) ?_
      refine gt_X7_55 hC hK hP dX7_term_52 ?_
      obtain ⟨⟨r5, I5, J5⟩, hc5, h⟩ := ob h
      dsimp only at h
      refine callWVi (As := [.ref (ad 58)]) (rest := []) hC (c_X1_addTerm l g ad I3 J3 0 58 (Or.inl rfl) (by unfold isT; omega) H.size hc5) lk_X7_103 rfl rfl ⟨Nat.le_of_ble_eq_true rfl, Nat.le_of_ble_eq_true rfl⟩ hP hK hD hA hS (xEo (Or.inl rfl)) rfl rfl rfl hl (Nat.le_of_ble_eq_true rfl) dX7_term_55 (fun H locs hP hD hS => ?_)
      obtain ⟨h1, h⟩ := Prod.mk.inj (Option.some.inj h)
      obtain ⟨rfl, rfl⟩ := Prod.mk.inj h
      exact hret _ _ _ _ _ dX7_term_58 h1 hP hD hS
    · replace h := (if_neg c4).symm.trans h
      refine lv_bipush (v := -20) hx hb dX7_term_42 (by decide) ?_
      refine lv_iload_n hx hb dX7_term_44 rfl (lv_at hl 0 rfl) ?_
      refine lv_isub hx hb dX7_term_45 ?_
      obtain ⟨h1, h⟩ := Prod.mk.inj (Option.some.inj h)
      obtain ⟨rfl, rfl⟩ := Prod.mk.inj h
      exact hret _ _ _ _ _ dX7_term_46 h1 hP hD hS
  · replace h := (if_neg c1).symm.trans h
    refine lv_aload_n hx hb dX7_term_12 rfl (lv_at hl 0 rfl) ?_
    refine lv_bipush (v := -6) hx hb dX7_term_13 (by decide) ?_
    obtain ⟨⟨r6, I6, J6⟩, hc6, h⟩ := ob h
    dsimp only at h
    refine callWVi (As := [.int (-6 : Int32)]) (rest := []) hC (c_X7_refuse l g ad I J (-6 : Int32)  H.size hc6) lk_X7_74 rfl rfl ⟨Nat.le_of_ble_eq_true rfl, Nat.le_of_ble_eq_true rfl⟩ hP hK hD hA hS xo_59 rfl rfl rfl hl (Nat.le_of_ble_eq_true rfl) dX7_term_15 (fun H locs hP hD hS => ?_)
    obtain ⟨h1, h⟩ := Prod.mk.inj (Option.some.inj h)
    obtain ⟨rfl, rfl⟩ := Prod.mk.inj h
    exact hret _ _ _ _ _ dX7_term_18 h1 hP hD hS
def F_X7_termOf (I : SI) (J : SJ) (v1 : Int32) (v2 : Int32) : Option (Int32 × SI × SJ) := ((F_X1_termAt 0 I J v1).bind fun r1 => (match r1 with | none => ((F_X7_refuse I J (-1 : Int32)).bind fun (r2, I2, J2) => (some (r2, I2, J2))) | some t1 => (if v2 = 0 then (some ((I t1 0), I, J)) else (if v2 = 1 then (some ((I t1 1), I, J)) else (if v2 = 2 then (some ((I t1 2), I, J)) else (if v2 = 3 then (some ((I t1 3), I, J)) else ((F_X7_refuse I J (-2 : Int32)).bind fun (r7, I7, J7) => (some (r7, I7, J7)))))))))
set_option maxHeartbeats 4000000 in
set_option maxRecDepth 100000 in
theorem c_X7_termOf (l : Launch) (g : Gx) (ad : Nat → Nat) (I : SI) (J : SJ) (v1 : Int32) (v2 : Int32)  (sz : Nat) {r : Int32} {rI : SI} {rJ : SJ} (h : F_X7_termOf I J v1 v2 = some (r, rI, rJ)) : Met l yX7_termOf (Cond.code yX7_termOf cX7_termOf 4 (some .int) :: BG) (k2_rm 2 44) (PcW [.ref (ad 59), .int v1, .int v2] g (xW ad g I J) sz) (QWi r g (xW ad g I J) (xW ad g rI rJ) sz) 0 0 (va_A (xW ad g I J) sz) := by
  refine mkWi (by decide) (Nat.le_of_ble_eq_true rfl) ?_
  intro p e s m args below meth c H locs ls A Q hC hK hP hD hA hS hl hret
  have hx := hC.1
  have hb := hC.2.1
  have hts := hC.2.2.2.2
  have hown := hC.2.2.2.1
  replace hl : lv_has ls 4 [(0, .ref (ad 59)), (1, .int v1), (2, .int v2)] := hl
  unfold F_X7_termOf at h
  refine lv_aload_n hx hb dX7_termOf_0 rfl (lv_at hl 0 rfl) ?_
  refine gt_X7_10 hC hK hP dX7_termOf_1 ?_
  refine lv_iload_n hx hb dX7_termOf_4 rfl (lv_at hl 1 rfl) ?_
  obtain ⟨r1, hc1, h⟩ := ob h
  rcases r1 with _ | t1
  · refine callRV (As := [.int v1]) (rest := []) hC (c_X1_termAt l g ad I J 0 v1 (Or.inl rfl) hc1) lk_X7_106 rfl rfl ⟨Nat.le_of_ble_eq_true rfl, Nat.le_of_ble_eq_true rfl⟩ hP hK (xEo (Or.inl rfl)) rfl rfl rfl hl (Nat.le_of_ble_eq_true rfl) dX7_termOf_5 ?_
    refine lv_astore_nN (lv' := [(3, .null), (0, .ref (ad 59)), (1, .int v1), (2, .int v2)]) hx hb dX7_termOf_8 rfl hl (by decide) rfl (fun ls hl => ?_)
    refine lv_aload_nN hx hb dX7_termOf_9 rfl (lv_at hl 0 rfl) ?_
    refine lv_ifnonnullN hx hb dX7_termOf_10 ?_
    refine lv_aload_n hx hb dX7_termOf_13 rfl (lv_at hl 1 rfl) ?_
    refine lv_iconst (v := -1) hx hb dX7_termOf_14 (by decide) ?_
    obtain ⟨⟨r2, I2, J2⟩, hc2, h⟩ := ob h
    dsimp only at h
    refine callWVi (As := [.int (-1 : Int32)]) (rest := []) hC (c_X7_refuse l g ad I J (-1 : Int32)  H.size hc2) lk_X7_74 rfl rfl ⟨Nat.le_of_ble_eq_true rfl, Nat.le_of_ble_eq_true rfl⟩ hP hK hD hA hS xo_59 rfl rfl rfl hl (Nat.le_of_ble_eq_true rfl) dX7_termOf_15 (fun H locs hP hD hS => ?_)
    obtain ⟨h1, h⟩ := Prod.mk.inj (Option.some.inj h)
    obtain ⟨rfl, rfl⟩ := Prod.mk.inj h
    exact hret _ _ _ _ _ dX7_termOf_18 h1 hP hD hS
  · have hTt1 : isT t1 := termAt_isT (Or.inl rfl) hc1
    refine callRV (As := [.int v1]) (rest := []) hC (c_X1_termAt l g ad I J 0 v1 (Or.inl rfl) hc1) lk_X7_106 rfl rfl ⟨Nat.le_of_ble_eq_true rfl, Nat.le_of_ble_eq_true rfl⟩ hP hK (xEo (Or.inl rfl)) rfl rfl rfl hl (Nat.le_of_ble_eq_true rfl) dX7_termOf_5 ?_
    refine lv_astore_n (lv' := [(3, .ref (ad t1)), (0, .ref (ad 59)), (1, .int v1), (2, .int v2)]) hx hb dX7_termOf_8 rfl hl (by decide) rfl (fun ls hl => ?_)
    refine lv_aload_n hx hb dX7_termOf_9 rfl (lv_at hl 0 rfl) ?_
    refine lv_ifnonnull (tgt := 19) hx hb dX7_termOf_10 (by decide) ?_
    refine lv_iload_n hx hb dX7_termOf_19 rfl (lv_at hl 3 rfl) ?_
    by_cases c3 : v2 = 0
    · replace h := (if_pos c3).symm.trans h
      refine lv_tableIn (off := 32) (tgt := 52) hx hb dX7_termOf_20 (by rw [c3]; decide) (by rw [c3]; decide) (by rw [c3]; decide) (by decide) ?_
      refine lv_aload_n hx hb dX7_termOf_52 rfl (lv_at hl 0 rfl) ?_
      refine gt_X7_110 hTt1 hC hK hP dX7_termOf_53 ?_
      obtain ⟨h1, h⟩ := Prod.mk.inj (Option.some.inj h)
      obtain ⟨rfl, rfl⟩ := Prod.mk.inj h
      exact hret _ _ _ _ _ dX7_termOf_56 h1 hP hD hS
    · replace h := (if_neg c3).symm.trans h
      by_cases c4 : v2 = 1
      · replace h := (if_pos c4).symm.trans h
        refine lv_tableIn (off := 37) (tgt := 57) hx hb dX7_termOf_20 (by rw [c4]; decide) (by rw [c4]; decide) (by rw [c4]; decide) (by decide) ?_
        refine lv_aload_n hx hb dX7_termOf_57 rfl (lv_at hl 0 rfl) ?_
        refine gt_X7_113 hTt1 hC hK hP dX7_termOf_58 ?_
        obtain ⟨h1, h⟩ := Prod.mk.inj (Option.some.inj h)
        obtain ⟨rfl, rfl⟩ := Prod.mk.inj h
        exact hret _ _ _ _ _ dX7_termOf_61 h1 hP hD hS
      · replace h := (if_neg c4).symm.trans h
        by_cases c5 : v2 = 2
        · replace h := (if_pos c5).symm.trans h
          refine lv_tableIn (off := 42) (tgt := 62) hx hb dX7_termOf_20 (by rw [c5]; decide) (by rw [c5]; decide) (by rw [c5]; decide) (by decide) ?_
          refine lv_aload_n hx hb dX7_termOf_62 rfl (lv_at hl 0 rfl) ?_
          refine gt_X7_116 hTt1 hC hK hP dX7_termOf_63 ?_
          obtain ⟨h1, h⟩ := Prod.mk.inj (Option.some.inj h)
          obtain ⟨rfl, rfl⟩ := Prod.mk.inj h
          exact hret _ _ _ _ _ dX7_termOf_66 h1 hP hD hS
        · replace h := (if_neg c5).symm.trans h
          by_cases c6 : v2 = 3
          · replace h := (if_pos c6).symm.trans h
            refine lv_tableIn (off := 47) (tgt := 67) hx hb dX7_termOf_20 (by rw [c6]; decide) (by rw [c6]; decide) (by rw [c6]; decide) (by decide) ?_
            refine lv_aload_n hx hb dX7_termOf_67 rfl (lv_at hl 0 rfl) ?_
            refine gt_X7_119 hTt1 hC hK hP dX7_termOf_68 ?_
            obtain ⟨h1, h⟩ := Prod.mk.inj (Option.some.inj h)
            obtain ⟨rfl, rfl⟩ := Prod.mk.inj h
            exact hret _ _ _ _ _ dX7_termOf_71 h1 hP hD hS
          · replace h := (if_neg c6).symm.trans h
            refine lv_tableOut (tgt := 72) hx hb dX7_termOf_20 (by have ec3 := ti_ne (n := 0) (by decide) c3; have ec4 := ti_ne (n := 1) (by decide) c4; have ec5 := ti_ne (n := 2) (by decide) c5; have ec6 := ti_ne (n := 3) (by decide) c6; omega) (by decide) ?_
            refine lv_aload_n hx hb dX7_termOf_72 rfl (lv_at hl 1 rfl) ?_
            refine lv_bipush (v := -2) hx hb dX7_termOf_73 (by decide) ?_
            obtain ⟨⟨r7, I7, J7⟩, hc7, h⟩ := ob h
            dsimp only at h
            refine callWVi (As := [.int (-2 : Int32)]) (rest := []) hC (c_X7_refuse l g ad I J (-2 : Int32)  H.size hc7) lk_X7_74 rfl rfl ⟨Nat.le_of_ble_eq_true rfl, Nat.le_of_ble_eq_true rfl⟩ hP hK hD hA hS xo_59 rfl rfl rfl hl (Nat.le_of_ble_eq_true rfl) dX7_termOf_75 (fun H locs hP hD hS => ?_)
            obtain ⟨h1, h⟩ := Prod.mk.inj (Option.some.inj h)
            obtain ⟨rfl, rfl⟩ := Prod.mk.inj h
            exact hret _ _ _ _ _ dX7_termOf_78 h1 hP hD hS
def F_X7_set (I : SI) (J : SJ) (v1 : Int32) (v2 : Int32) : Option (Int32 × SI × SJ) := ((F_X1_isSetting v1).bind fun r1 => (if r1 = 0 then ((F_X7_refuse I J (-2 : Int32)).bind fun (r9, I9, J9) => (some (r9, I9, J9))) else ((F_X1_mostOf v1).bind fun r3 => ((F_X7_inRange v2 (0 : Int32) r3).bind fun r4 => (if r4 = 0 then ((F_X1_setting 0 I J v1).bind fun r6 => ((F_X1_putSetting 0 I J v1 v2).bind fun (I7, J7) => (some (r6, I7, J7)))) else ((F_X7_refuse I J r4).bind fun (r8, I8, J8) => (some (r8, I8, J8))))))))
set_option maxHeartbeats 4000000 in
set_option maxRecDepth 100000 in
theorem c_X7_set (l : Launch) (g : Gx) (ad : Nat → Nat) (I : SI) (J : SJ) (qm : Nat) (v1 : Int32) (v2 : Int32)  (sz : Nat) {r : Int32} {rI : SI} {rJ : SJ} (h : F_X7_set I J v1 v2 = some (r, rI, rJ)) : Met l yX7_set (Cond.code yX7_set cX7_set 5 (some .int) :: BG) (k2_rm 2 44) (PcWM [.ref (ad 59), .int v1, .int v2] g (xW ad g I J) sz qm) (QWi r g (xW ad g I J) (xW ad g rI rJ) sz) 0 0 (va_A (xW ad g I J) sz) := by
  refine mkWMi (by decide) (Nat.le_of_ble_eq_true rfl) ?_
  intro p e s m args below meth c H locs ls A Q hC hK hP hD hA hS hZ hl hret
  have hx := hC.1
  have hb := hC.2.1
  have hts := hC.2.2.2.2
  have hown := hC.2.2.2.1
  replace hl : lv_has ls 5 [(0, .ref (ad 59)), (1, .int v1), (2, .int v2)] := hl
  unfold F_X7_set at h
  refine lv_iload_n hx hb dX7_set_0 rfl (lv_at hl 1 rfl) ?_
  obtain ⟨r1, hc1, h⟩ := ob h
  refine callRSM (As := [.int v1]) (rest := []) hC (c_X1_isSetting l g (xW ad g I J) qm v1 hc1) lk_X7_122 rfl rfl ⟨Nat.le_of_ble_eq_true rfl, Nat.le_of_ble_eq_true rfl⟩ hP hK hD hA hS hZ rfl rfl hl (Nat.le_of_ble_eq_true rfl) dX7_set_1 ?_
  refine lv_if_ne (tgt := 14) hx hb dX7_set_4 (by decide) (fun c2 => ?_) (fun c2 => ?_)
  · replace h := (if_neg c2).symm.trans h
    refine lv_iload_n hx hb dX7_set_14 rfl (lv_at hl 2 rfl) ?_
    refine lv_iconst (v := 0) hx hb dX7_set_15 (by decide) ?_
    refine lv_iload_n hx hb dX7_set_16 rfl (lv_at hl 1 rfl) ?_
    obtain ⟨r3, hc3, h⟩ := ob h
    refine callRSM (As := [.int v1]) (rest := [.int (0 : Int32), .int v2]) hC (c_X1_mostOf l g (xW ad g I J) qm v1 hc3) lk_X7_125 rfl rfl ⟨Nat.le_of_ble_eq_true rfl, Nat.le_of_ble_eq_true rfl⟩ hP hK hD hA hS hZ rfl rfl hl (Nat.le_of_ble_eq_true rfl) dX7_set_17 ?_
    obtain ⟨r4, hc4, h⟩ := ob h
    refine callRS (As := [.int v2, .int (0 : Int32), .int r3]) (rest := []) hC (c_X7_inRange l g (xW ad g I J) v2 (0 : Int32) r3 hc4) lk_X7_66 rfl rfl ⟨Nat.le_of_ble_eq_true rfl, Nat.le_of_ble_eq_true rfl⟩ hP hK rfl rfl hl (Nat.le_of_ble_eq_true rfl) dX7_set_20 ?_
    refine lv_istore_n (lv' := [(3, .int r4), (0, .ref (ad 59)), (1, .int v1), (2, .int v2)]) hx hb dX7_set_23 rfl hl (by decide) rfl (fun ls hl => ?_)
    refine lv_iload_n hx hb dX7_set_24 rfl (lv_at hl 0 rfl) ?_
    refine lv_if_eq (tgt := 34) hx hb dX7_set_25 (by decide) (fun c5 => ?_) (fun c5 => ?_)
    · replace h := (if_pos c5).symm.trans h
      refine lv_aload_n hx hb dX7_set_34 rfl (lv_at hl 1 rfl) ?_
      refine gt_X7_10 hC hK hP dX7_set_35 ?_
      refine lv_iload_n hx hb dX7_set_38 rfl (lv_at hl 2 rfl) ?_
      obtain ⟨r6, hc6, h⟩ := ob h
      refine callRV (As := [.int v1]) (rest := []) hC (c_X1_setting l g ad I J 0 v1 (Or.inl rfl) hc6) lk_X7_128 rfl rfl ⟨Nat.le_of_ble_eq_true rfl, Nat.le_of_ble_eq_true rfl⟩ hP hK (xEo (Or.inl rfl)) rfl rfl rfl hl (Nat.le_of_ble_eq_true rfl) dX7_set_39 ?_
      refine lv_istore (lv' := [(4, .int r6), (3, .int r4), (0, .ref (ad 59)), (1, .int v1), (2, .int v2)]) hx hb dX7_set_42 hl (by decide) rfl (fun ls hl => ?_)
      refine lv_aload_n hx hb dX7_set_44 rfl (lv_at hl 2 rfl) ?_
      refine gt_X7_10 hC hK hP dX7_set_45 ?_
      refine lv_iload_n hx hb dX7_set_48 rfl (lv_at hl 3 rfl) ?_
      refine lv_iload_n hx hb dX7_set_49 rfl (lv_at hl 4 rfl) ?_
      obtain ⟨⟨I7, J7⟩, hc7, h⟩ := ob h
      dsimp only at h
      refine callWVv (As := [.int v1, .int v2]) (rest := []) hC (c_X1_putSetting l g ad I J 0 v1 v2 (Or.inl rfl) H.size hc7) lk_X7_131 rfl rfl ⟨Nat.le_of_ble_eq_true rfl, Nat.le_of_ble_eq_true rfl⟩ hP hK hD hA hS (xEo (Or.inl rfl)) rfl rfl rfl hl (Nat.le_of_ble_eq_true rfl) dX7_set_50 (fun H locs hP hD hS => ?_)
      refine lv_iload hx hb dX7_set_53 (lv_at hl 0 rfl) ?_
      obtain ⟨h1, h⟩ := Prod.mk.inj (Option.some.inj h)
      obtain ⟨rfl, rfl⟩ := Prod.mk.inj h
      exact hret _ _ _ _ _ dX7_set_55 h1 hP hD hS
    · replace h := (if_neg c5).symm.trans h
      refine lv_aload_n hx hb dX7_set_28 rfl (lv_at hl 1 rfl) ?_
      refine lv_iload_n hx hb dX7_set_29 rfl (lv_at hl 0 rfl) ?_
      obtain ⟨⟨r8, I8, J8⟩, hc8, h⟩ := ob h
      dsimp only at h
      refine callWVi (As := [.int r4]) (rest := []) hC (c_X7_refuse l g ad I J r4  H.size hc8) lk_X7_74 rfl rfl ⟨Nat.le_of_ble_eq_true rfl, Nat.le_of_ble_eq_true rfl⟩ hP hK hD hA hS xo_59 rfl rfl rfl hl (Nat.le_of_ble_eq_true rfl) dX7_set_30 (fun H locs hP hD hS => ?_)
      obtain ⟨h1, h⟩ := Prod.mk.inj (Option.some.inj h)
      obtain ⟨rfl, rfl⟩ := Prod.mk.inj h
      exact hret _ _ _ _ _ dX7_set_33 h1 hP hD hS
  · replace h := (if_pos c2).symm.trans h
    refine lv_aload_n hx hb dX7_set_7 rfl (lv_at hl 0 rfl) ?_
    refine lv_bipush (v := -2) hx hb dX7_set_8 (by decide) ?_
    obtain ⟨⟨r9, I9, J9⟩, hc9, h⟩ := ob h
    dsimp only at h
    refine callWVi (As := [.int (-2 : Int32)]) (rest := []) hC (c_X7_refuse l g ad I J (-2 : Int32)  H.size hc9) lk_X7_74 rfl rfl ⟨Nat.le_of_ble_eq_true rfl, Nat.le_of_ble_eq_true rfl⟩ hP hK hD hA hS xo_59 rfl rfl rfl hl (Nat.le_of_ble_eq_true rfl) dX7_set_10 (fun H locs hP hD hS => ?_)
    obtain ⟨h1, h⟩ := Prod.mk.inj (Option.some.inj h)
    obtain ⟨rfl, rfl⟩ := Prod.mk.inj h
    exact hret _ _ _ _ _ dX7_set_13 h1 hP hD hS
def F_X7_weather (I : SI) (J : SJ) (v1 : Int32) (v2 : Int32) : Option (Int32 × SI × SJ) := ((F_X4_lay I J (0 : Int32) (0 : Int32) (0 : Int32)).bind fun (I1, J1) => ((F_X4_hasWeather I1 J1 v1).bind fun r2 => (if r2 = 0 then ((F_X7_refuse I1 J1 (-1 : Int32)).bind fun (r9, I9, J9) => (some (r9, I9, J9))) else (if v2 = 0 then ((F_X4_chanceOf I1 J1 v1).bind fun r5 => (some (r5, I1, J1))) else (if v2 = 1 then ((F_X4_timesOf I1 J1 v1).bind fun r7 => (some (r7, I1, J1))) else ((F_X7_refuse I1 J1 (-2 : Int32)).bind fun (r8, I8, J8) => (some (r8, I8, J8))))))))
set_option maxHeartbeats 4000000 in
set_option maxRecDepth 100000 in
theorem c_X7_weather (l : Launch) (g : Gx) (ad : Nat → Nat) (I : SI) (J : SJ) (v1 : Int32) (v2 : Int32)  (sz : Nat) {r : Int32} {rI : SI} {rJ : SJ} (h : F_X7_weather I J v1 v2 = some (r, rI, rJ)) : Met l yX7_weather (Cond.code yX7_weather cX7_weather 3 (some .int) :: BG) (k2_rm 4 93) (PcW [.ref (ad 59), .int v1, .int v2] g (xW ad g I J) sz) (QWi r g (xW ad g I J) (xW ad g rI rJ) sz) 0 0 (va_A (xW ad g I J) sz) := by
  refine mkWi (by decide) (Nat.le_of_ble_eq_true rfl) ?_
  intro p e s m args below meth c H locs ls A Q hC hK hP hD hA hS hl hret
  have hx := hC.1
  have hb := hC.2.1
  have hts := hC.2.2.2.2
  have hown := hC.2.2.2.1
  replace hl : lv_has ls 3 [(0, .ref (ad 59)), (1, .int v1), (2, .int v2)] := hl
  unfold F_X7_weather at h
  refine lv_aload_n hx hb dX7_weather_0 rfl (lv_at hl 0 rfl) ?_
  refine gt_X7_34 hC hK hP dX7_weather_1 ?_
  refine lv_iconst (v := 0) hx hb dX7_weather_4 (by decide) ?_
  refine lv_iconst (v := 0) hx hb dX7_weather_5 (by decide) ?_
  refine lv_iconst (v := 0) hx hb dX7_weather_6 (by decide) ?_
  obtain ⟨⟨I1, J1⟩, hc1, h⟩ := ob h
  dsimp only at h
  refine callWVv (As := [.int (0 : Int32), .int (0 : Int32), .int (0 : Int32)]) (rest := []) hC (c_X4_lay l g ad I J (0 : Int32) (0 : Int32) (0 : Int32)  H.size hc1) lk_X7_135 rfl rfl ⟨Nat.le_of_ble_eq_true rfl, Nat.le_of_ble_eq_true rfl⟩ hP hK hD hA hS xo_47 rfl rfl rfl hl (Nat.le_of_ble_eq_true rfl) dX7_weather_7 (fun H locs hP hD hS => ?_)
  refine lv_aload_n hx hb dX7_weather_10 rfl (lv_at hl 0 rfl) ?_
  refine gt_X7_34 hC hK hP dX7_weather_11 ?_
  refine lv_iload_n hx hb dX7_weather_14 rfl (lv_at hl 1 rfl) ?_
  obtain ⟨r2, hc2, h⟩ := ob h
  refine callRV (As := [.int v1]) (rest := []) hC (c_X4_hasWeather l g ad I1 J1 v1  hc2) lk_X7_139 rfl rfl ⟨Nat.le_of_ble_eq_true rfl, Nat.le_of_ble_eq_true rfl⟩ hP hK xo_47 rfl rfl rfl hl (Nat.le_of_ble_eq_true rfl) dX7_weather_15 ?_
  refine lv_if_ne (tgt := 27) hx hb dX7_weather_18 (by decide) (fun c3 => ?_) (fun c3 => ?_)
  · replace h := (if_neg c3).symm.trans h
    refine lv_iload_n hx hb dX7_weather_27 rfl (lv_at hl 2 rfl) ?_
    by_cases c4 : v2 = 0
    · replace h := (if_pos c4).symm.trans h
      refine lv_lookup (off := 28) (tgt := 56) hx hb dX7_weather_28 (by decide) (by rw [c4]; decide) (by decide) ?_
      refine lv_aload_n hx hb dX7_weather_56 rfl (lv_at hl 0 rfl) ?_
      refine gt_X7_34 hC hK hP dX7_weather_57 ?_
      refine lv_iload_n hx hb dX7_weather_60 rfl (lv_at hl 1 rfl) ?_
      obtain ⟨r5, hc5, h⟩ := ob h
      refine callRV (As := [.int v1]) (rest := []) hC (c_X4_chanceOf l g ad I1 J1 v1  hc5) lk_X7_142 rfl rfl ⟨Nat.le_of_ble_eq_true rfl, Nat.le_of_ble_eq_true rfl⟩ hP hK xo_47 rfl rfl rfl hl (Nat.le_of_ble_eq_true rfl) dX7_weather_61 ?_
      obtain ⟨h1, h⟩ := Prod.mk.inj (Option.some.inj h)
      obtain ⟨rfl, rfl⟩ := Prod.mk.inj h
      exact hret _ _ _ _ _ dX7_weather_64 h1 hP hD hS
    · replace h := (if_neg c4).symm.trans h
      by_cases c6 : v2 = 1
      · replace h := (if_pos c6).symm.trans h
        refine lv_lookup (off := 37) (tgt := 65) hx hb dX7_weather_28 (by decide) (by rw [c6]; decide) (by decide) ?_
        refine lv_aload_n hx hb dX7_weather_65 rfl (lv_at hl 0 rfl) ?_
        refine gt_X7_34 hC hK hP dX7_weather_66 ?_
        refine lv_iload_n hx hb dX7_weather_69 rfl (lv_at hl 1 rfl) ?_
        obtain ⟨r7, hc7, h⟩ := ob h
        refine callRV (As := [.int v1]) (rest := []) hC (c_X4_timesOf l g ad I1 J1 v1  hc7) lk_X7_145 rfl rfl ⟨Nat.le_of_ble_eq_true rfl, Nat.le_of_ble_eq_true rfl⟩ hP hK xo_47 rfl rfl rfl hl (Nat.le_of_ble_eq_true rfl) dX7_weather_70 ?_
        obtain ⟨h1, h⟩ := Prod.mk.inj (Option.some.inj h)
        obtain ⟨rfl, rfl⟩ := Prod.mk.inj h
        exact hret _ _ _ _ _ dX7_weather_73 h1 hP hD hS
      · replace h := (if_neg c6).symm.trans h
        refine lv_lookup (off := 46) (tgt := 74) hx hb dX7_weather_28 (by decide) (by have ec4 := ti_ne (n := 0) (by decide) c4; have ec6 := ti_ne (n := 1) (by decide) c6; simp [Op.lookupswitch.offset, ec4, Ne.symm ec4, ec6, Ne.symm ec6]) (by decide) ?_
        refine lv_aload_n hx hb dX7_weather_74 rfl (lv_at hl 0 rfl) ?_
        refine lv_bipush (v := -2) hx hb dX7_weather_75 (by decide) ?_
        obtain ⟨⟨r8, I8, J8⟩, hc8, h⟩ := ob h
        dsimp only at h
        refine callWVi (As := [.int (-2 : Int32)]) (rest := []) hC (c_X7_refuse l g ad I1 J1 (-2 : Int32)  H.size hc8) lk_X7_74 rfl rfl ⟨Nat.le_of_ble_eq_true rfl, Nat.le_of_ble_eq_true rfl⟩ hP hK hD hA hS xo_59 rfl rfl rfl hl (Nat.le_of_ble_eq_true rfl) dX7_weather_77 (fun H locs hP hD hS => ?_)
        obtain ⟨h1, h⟩ := Prod.mk.inj (Option.some.inj h)
        obtain ⟨rfl, rfl⟩ := Prod.mk.inj h
        exact hret _ _ _ _ _ dX7_weather_80 h1 hP hD hS
  · replace h := (if_pos c3).symm.trans h
    refine lv_aload_n hx hb dX7_weather_21 rfl (lv_at hl 0 rfl) ?_
    refine lv_iconst (v := -1) hx hb dX7_weather_22 (by decide) ?_
    obtain ⟨⟨r9, I9, J9⟩, hc9, h⟩ := ob h
    dsimp only at h
    refine callWVi (As := [.int (-1 : Int32)]) (rest := []) hC (c_X7_refuse l g ad I1 J1 (-1 : Int32)  H.size hc9) lk_X7_74 rfl rfl ⟨Nat.le_of_ble_eq_true rfl, Nat.le_of_ble_eq_true rfl⟩ hP hK hD hA hS xo_59 rfl rfl rfl hl (Nat.le_of_ble_eq_true rfl) dX7_weather_23 (fun H locs hP hD hS => ?_)
    obtain ⟨h1, h⟩ := Prod.mk.inj (Option.some.inj h)
    obtain ⟨rfl, rfl⟩ := Prod.mk.inj h
    exact hret _ _ _ _ _ dX7_weather_26 h1 hP hD hS
def F_X7_harvest (I : SI) (J : SJ) (v1 : Int32) (v2 : Int32) : Option (Int32 × SI × SJ) := ((F_X4_lay I J (0 : Int32) (0 : Int32) (0 : Int32)).bind fun (I1, J1) => ((F_X1_hasPains 0 I1 J1 v1).bind fun r2 => (if r2 = 0 then ((F_X7_refuse I1 J1 (-1 : Int32)).bind fun (r4, I4, J4) => (some (r4, I4, J4))) else ((F_X4_hasWeather I1 J1 v2).bind fun r5 => (if r5 = 0 then ((F_X7_refuse I1 J1 (-1 : Int32)).bind fun (r8, I8, J8) => (some (r8, I8, J8))) else ((F_X4_harvestOf I1 J1 v1 v2).bind fun r7 => (some (r7, I1, J1))))))))
set_option maxHeartbeats 4000000 in
set_option maxRecDepth 100000 in
theorem c_X7_harvest (l : Launch) (g : Gx) (ad : Nat → Nat) (I : SI) (J : SJ) (v1 : Int32) (v2 : Int32)  (sz : Nat) {r : Int32} {rI : SI} {rJ : SJ} (h : F_X7_harvest I J v1 v2 = some (r, rI, rJ)) : Met l yX7_harvest (Cond.code yX7_harvest cX7_harvest 3 (some .int) :: BG) (k2_rm 4 93) (PcW [.ref (ad 59), .int v1, .int v2] g (xW ad g I J) sz) (QWi r g (xW ad g I J) (xW ad g rI rJ) sz) 0 0 (va_A (xW ad g I J) sz) := by
  refine mkWi (by decide) (Nat.le_of_ble_eq_true rfl) ?_
  intro p e s m args below meth c H locs ls A Q hC hK hP hD hA hS hl hret
  have hx := hC.1
  have hb := hC.2.1
  have hts := hC.2.2.2.2
  have hown := hC.2.2.2.1
  replace hl : lv_has ls 3 [(0, .ref (ad 59)), (1, .int v1), (2, .int v2)] := hl
  unfold F_X7_harvest at h
  refine lv_aload_n hx hb dX7_harvest_0 rfl (lv_at hl 0 rfl) ?_
  refine gt_X7_34 hC hK hP dX7_harvest_1 ?_
  refine lv_iconst (v := 0) hx hb dX7_harvest_4 (by decide) ?_
  refine lv_iconst (v := 0) hx hb dX7_harvest_5 (by decide) ?_
  refine lv_iconst (v := 0) hx hb dX7_harvest_6 (by decide) ?_
  obtain ⟨⟨I1, J1⟩, hc1, h⟩ := ob h
  dsimp only at h
  refine callWVv (As := [.int (0 : Int32), .int (0 : Int32), .int (0 : Int32)]) (rest := []) hC (c_X4_lay l g ad I J (0 : Int32) (0 : Int32) (0 : Int32)  H.size hc1) lk_X7_135 rfl rfl ⟨Nat.le_of_ble_eq_true rfl, Nat.le_of_ble_eq_true rfl⟩ hP hK hD hA hS xo_47 rfl rfl rfl hl (Nat.le_of_ble_eq_true rfl) dX7_harvest_7 (fun H locs hP hD hS => ?_)
  refine lv_aload_n hx hb dX7_harvest_10 rfl (lv_at hl 0 rfl) ?_
  refine gt_X7_10 hC hK hP dX7_harvest_11 ?_
  refine lv_iload_n hx hb dX7_harvest_14 rfl (lv_at hl 1 rfl) ?_
  obtain ⟨r2, hc2, h⟩ := ob h
  refine callRV (As := [.int v1]) (rest := []) hC (c_X1_hasPains l g ad I1 J1 0 v1 (Or.inl rfl) hc2) lk_X7_148 rfl rfl ⟨Nat.le_of_ble_eq_true rfl, Nat.le_of_ble_eq_true rfl⟩ hP hK (xEo (Or.inl rfl)) rfl rfl rfl hl (Nat.le_of_ble_eq_true rfl) dX7_harvest_15 ?_
  refine lv_if_eq (tgt := 32) hx hb dX7_harvest_18 (by decide) (fun c3 => ?_) (fun c3 => ?_)
  · replace h := (if_pos c3).symm.trans h
    refine lv_aload_n hx hb dX7_harvest_32 rfl (lv_at hl 0 rfl) ?_
    refine lv_iconst (v := -1) hx hb dX7_harvest_33 (by decide) ?_
    obtain ⟨⟨r4, I4, J4⟩, hc4, h⟩ := ob h
    dsimp only at h
    refine callWVi (As := [.int (-1 : Int32)]) (rest := []) hC (c_X7_refuse l g ad I1 J1 (-1 : Int32)  H.size hc4) lk_X7_74 rfl rfl ⟨Nat.le_of_ble_eq_true rfl, Nat.le_of_ble_eq_true rfl⟩ hP hK hD hA hS xo_59 rfl rfl rfl hl (Nat.le_of_ble_eq_true rfl) dX7_harvest_34 (fun H locs hP hD hS => ?_)
    obtain ⟨h1, h⟩ := Prod.mk.inj (Option.some.inj h)
    obtain ⟨rfl, rfl⟩ := Prod.mk.inj h
    exact hret _ _ _ _ _ dX7_harvest_37 h1 hP hD hS
  · replace h := (if_neg c3).symm.trans h
    refine lv_aload_n hx hb dX7_harvest_21 rfl (lv_at hl 0 rfl) ?_
    refine gt_X7_34 hC hK hP dX7_harvest_22 ?_
    refine lv_iload_n hx hb dX7_harvest_25 rfl (lv_at hl 2 rfl) ?_
    obtain ⟨r5, hc5, h⟩ := ob h
    refine callRV (As := [.int v2]) (rest := []) hC (c_X4_hasWeather l g ad I1 J1 v2  hc5) lk_X7_139 rfl rfl ⟨Nat.le_of_ble_eq_true rfl, Nat.le_of_ble_eq_true rfl⟩ hP hK xo_47 rfl rfl rfl hl (Nat.le_of_ble_eq_true rfl) dX7_harvest_26 ?_
    refine lv_if_ne (tgt := 38) hx hb dX7_harvest_29 (by decide) (fun c6 => ?_) (fun c6 => ?_)
    · replace h := (if_neg c6).symm.trans h
      refine lv_aload_n hx hb dX7_harvest_38 rfl (lv_at hl 0 rfl) ?_
      refine gt_X7_34 hC hK hP dX7_harvest_39 ?_
      refine lv_iload_n hx hb dX7_harvest_42 rfl (lv_at hl 1 rfl) ?_
      refine lv_iload_n hx hb dX7_harvest_43 rfl (lv_at hl 2 rfl) ?_
      obtain ⟨r7, hc7, h⟩ := ob h
      refine callRV (As := [.int v1, .int v2]) (rest := []) hC (c_X4_harvestOf l g ad I1 J1 v1 v2  hc7) lk_X7_151 rfl rfl ⟨Nat.le_of_ble_eq_true rfl, Nat.le_of_ble_eq_true rfl⟩ hP hK xo_47 rfl rfl rfl hl (Nat.le_of_ble_eq_true rfl) dX7_harvest_44 ?_
      obtain ⟨h1, h⟩ := Prod.mk.inj (Option.some.inj h)
      obtain ⟨rfl, rfl⟩ := Prod.mk.inj h
      exact hret _ _ _ _ _ dX7_harvest_47 h1 hP hD hS
    · replace h := (if_pos c6).symm.trans h
      refine lv_aload_n hx hb dX7_harvest_32 rfl (lv_at hl 0 rfl) ?_
      refine lv_iconst (v := -1) hx hb dX7_harvest_33 (by decide) ?_
      obtain ⟨⟨r8, I8, J8⟩, hc8, h⟩ := ob h
      dsimp only at h
      refine callWVi (As := [.int (-1 : Int32)]) (rest := []) hC (c_X7_refuse l g ad I1 J1 (-1 : Int32)  H.size hc8) lk_X7_74 rfl rfl ⟨Nat.le_of_ble_eq_true rfl, Nat.le_of_ble_eq_true rfl⟩ hP hK hD hA hS xo_59 rfl rfl rfl hl (Nat.le_of_ble_eq_true rfl) dX7_harvest_34 (fun H locs hP hD hS => ?_)
      obtain ⟨h1, h⟩ := Prod.mk.inj (Option.some.inj h)
      obtain ⟨rfl, rfl⟩ := Prod.mk.inj h
      exact hret _ _ _ _ _ dX7_harvest_37 h1 hP hD hS
def F_X7_refuseAsTold (I : SI) (J : SJ) (v1 : Int32) : Option (Int32 × SI × SJ) := ((F_X7_refuse I J v1).bind fun (r1, I1, J1) => (some (((1000000000 : Int32) - r1), I1, J1)))
set_option maxHeartbeats 4000000 in
set_option maxRecDepth 100000 in
theorem c_X7_refuseAsTold (l : Launch) (g : Gx) (ad : Nat → Nat) (I : SI) (J : SJ) (v1 : Int32)  (sz : Nat) {r : Int32} {rI : SI} {rJ : SJ} (h : F_X7_refuseAsTold I J v1 = some (r, rI, rJ)) : Met l yX7_refuseAsTold (Cond.code yX7_refuseAsTold cX7_refuseAsTold 2 (some .int) :: BG) (k2_rm 2 44) (PcW [.ref (ad 59), .int v1] g (xW ad g I J) sz) (QWi r g (xW ad g I J) (xW ad g rI rJ) sz) 0 0 (va_A (xW ad g I J) sz) := by
  refine mkWi (by decide) (Nat.le_of_ble_eq_true rfl) ?_
  intro p e s m args below meth c H locs ls A Q hC hK hP hD hA hS hl hret
  have hx := hC.1
  have hb := hC.2.1
  have hts := hC.2.2.2.2
  have hown := hC.2.2.2.1
  replace hl : lv_has ls 2 [(0, .ref (ad 59)), (1, .int v1)] := hl
  unfold F_X7_refuseAsTold at h
  refine lv_ldcw hx hb hown (hts _ kc_X7_308) dX7_refuseAsTold_0 ?_
  refine lv_aload_n hx hb dX7_refuseAsTold_3 rfl (lv_at hl 0 rfl) ?_
  refine lv_iload_n hx hb dX7_refuseAsTold_4 rfl (lv_at hl 1 rfl) ?_
  obtain ⟨⟨r1, I1, J1⟩, hc1, h⟩ := ob h
  dsimp only at h
  refine callWVi (As := [.int v1]) (rest := [.int (1000000000 : Int32)]) hC (c_X7_refuse l g ad I J v1  H.size hc1) lk_X7_74 rfl rfl ⟨Nat.le_of_ble_eq_true rfl, Nat.le_of_ble_eq_true rfl⟩ hP hK hD hA hS xo_59 rfl rfl rfl hl (Nat.le_of_ble_eq_true rfl) dX7_refuseAsTold_5 (fun H locs hP hD hS => ?_)
  refine lv_isub hx hb dX7_refuseAsTold_8 ?_
  obtain ⟨h1, h⟩ := Prod.mk.inj (Option.some.inj h)
  obtain ⟨rfl, rfl⟩ := Prod.mk.inj h
  exact hret _ _ _ _ _ dX7_refuseAsTold_9 h1 hP hD hS
def F_X7_isWho (v1 : Int32) : Option (Int32) := (if v1 = 0 then (some (1 : Int32)) else (if v1 = (1 : Int32) then (some (1 : Int32)) else (some (0 : Int32))))
set_option maxHeartbeats 4000000 in
set_option maxRecDepth 100000 in
theorem c_X7_isWho (l : Launch) (g : Gx) (ws : va_W) (v1 : Int32)  {r : Int32} (h : F_X7_isWho v1 = some r) : Met l yX7_isWho (Cond.code yX7_isWho cX7_isWho 1 (some .boolean) :: BG) (k2_rm 0 0) (va_Pc [.int v1] (fun U => Pg g ws U.heap ∧ Kg g U)) (k2_QcV (.int r)) 0 0 (fun _ => False) := by
  refine mkRz (by decide) (Nat.le_of_ble_eq_true rfl) ?_
  intro p e s m args below meth c H locs ls Q hC hK hP hl hret
  have hx := hC.1
  have hb := hC.2.1
  have hts := hC.2.2.2.2
  have hown := hC.2.2.2.1
  replace hl : lv_has ls 1 [(0, .int v1)] := hl
  unfold F_X7_isWho at h
  refine lv_iload_n hx hb dX7_isWho_0 rfl (lv_at hl 0 rfl) ?_
  refine lv_if_eq (tgt := 9) hx hb dX7_isWho_1 (by decide) (fun c1 => ?_) (fun c1 => ?_)
  · replace h := (if_pos c1).symm.trans h
    refine lv_iconst (v := 1) hx hb dX7_isWho_9 (by decide) ?_
    refine lv_goto (tgt := 14) hx hb dX7_isWho_10 (by decide) ?_
    exact hret _ _ _ dX7_isWho_14 rfl (Option.some.inj h)
  · replace h := (if_neg c1).symm.trans h
    refine lv_iload_n hx hb dX7_isWho_4 rfl (lv_at hl 0 rfl) ?_
    refine lv_iconst (v := 1) hx hb dX7_isWho_5 (by decide) ?_
    refine lv_icmp_ne (tgt := 13) hx hb dX7_isWho_6 (by decide) (fun c2 => ?_) (fun c2 => ?_)
    · replace h := (if_neg c2).symm.trans h
      refine lv_iconst (v := 0) hx hb dX7_isWho_13 (by decide) ?_
      exact hret _ _ _ dX7_isWho_14 rfl (Option.some.inj h)
    · replace h := (if_pos c2).symm.trans h
      refine lv_iconst (v := 1) hx hb dX7_isWho_9 (by decide) ?_
      refine lv_goto (tgt := 14) hx hb dX7_isWho_10 (by decide) ?_
      exact hret _ _ _ dX7_isWho_14 rfl (Option.some.inj h)
def F_X7_first (v1 : Int32) (v2 : Int32) : Option (Int32) := (if v1 = (-4 : Int32) then (some (-4 : Int32)) else (if v2 = (-4 : Int32) then (some (-4 : Int32)) else (some (if v2 < v1 then v2 else v1))))
set_option maxHeartbeats 4000000 in
set_option maxRecDepth 100000 in
theorem c_X7_first (l : Launch) (g : Gx) (ws : va_W) (v1 : Int32) (v2 : Int32)  {r : Int32} (h : F_X7_first v1 v2 = some r) : Met l yX7_first (Cond.code yX7_first cX7_first 2 (some .int) :: BG) (k2_rm 1 23) (va_Pc [.int v1, .int v2] (fun U => Pg g ws U.heap ∧ Kg g U)) (k2_QcV (.int r)) 0 0 (fun _ => False) := by
  refine mkRi (by decide) (Nat.le_of_ble_eq_true rfl) ?_
  intro p e s m args below meth c H locs ls Q hC hK hP hl hret
  have hx := hC.1
  have hb := hC.2.1
  have hts := hC.2.2.2.2
  have hown := hC.2.2.2.1
  replace hl : lv_has ls 2 [(0, .int v1), (1, .int v2)] := hl
  unfold F_X7_first at h
  refine lv_iload_n hx hb dX7_first_0 rfl (lv_at hl 0 rfl) ?_
  refine lv_bipush (v := -4) hx hb dX7_first_1 (by decide) ?_
  refine lv_icmp_eq (tgt := 12) hx hb dX7_first_3 (by decide) (fun c1 => ?_) (fun c1 => ?_)
  · replace h := (if_pos c1).symm.trans h
    refine lv_bipush (v := -4) hx hb dX7_first_12 (by decide) ?_
    exact hret _ _ _ dX7_first_14 (Option.some.inj h)
  · replace h := (if_neg c1).symm.trans h
    refine lv_iload_n hx hb dX7_first_6 rfl (lv_at hl 1 rfl) ?_
    refine lv_bipush (v := -4) hx hb dX7_first_7 (by decide) ?_
    refine lv_icmp_ne (tgt := 15) hx hb dX7_first_9 (by decide) (fun c2 => ?_) (fun c2 => ?_)
    · replace h := (if_neg c2).symm.trans h
      refine lv_iload_n hx hb dX7_first_15 rfl (lv_at hl 0 rfl) ?_
      refine lv_iload_n hx hb dX7_first_16 rfl (lv_at hl 1 rfl) ?_
      refine va_mmin hx hb (hC.2.2.1.trans hl.1.symm) hown (hts _ ml_X7_311) (hts _ sm_minI) (hts _ ini_math) (hts _ cd_minI) (Nat.le_of_ble_eq_true rfl) (Nat.le_of_ble_eq_true rfl) (Nat.zero_le _) (Nat.zero_le _) dX7_first_17 ?_
      exact hret _ _ _ dX7_first_20 (Option.some.inj h)
    · replace h := (if_pos c2).symm.trans h
      refine lv_bipush (v := -4) hx hb dX7_first_12 (by decide) ?_
      exact hret _ _ _ dX7_first_14 (Option.some.inj h)
def F_X7_whose (I : SI) (J : SJ) (v1 : Int32) (v2 : Int32) (v3 : Int32) (v4 : Int32) : Option (Int32 × SI × SJ) := ((F_X1_termAt 0 I J v1).bind fun r1 => (match r1 with | none => ((F_X7_refuseAsTold I J (-1 : Int32)).bind fun (r2, I2, J2) => (some (r2, I2, J2))) | some t1 => ((F_X7_isWho v4).bind fun r3 => (if r3 = 0 then ((F_X7_refuseAsTold I J (-1 : Int32)).bind fun (r11, I11, J11) => (some (r11, I11, J11))) else ((F_X7_inRange v2 (0 : Int32) (999 : Int32)).bind fun r5 => ((F_X7_inRange v3 (0 : Int32) (9 : Int32)).bind fun r6 => ((F_X7_first r5 r6).bind fun r7 => (if r7 = 0 then ((F_X1_bushelsOf 0 t1 I J v2 v3 v4).bind fun r9 => (some (r9, I, J))) else ((F_X7_refuseAsTold I J r7).bind fun (r10, I10, J10) => (some (r10, I10, J10)))))))))))
set_option maxHeartbeats 4000000 in
set_option maxRecDepth 100000 in
theorem c_X7_whose (l : Launch) (g : Gx) (ad : Nat → Nat) (I : SI) (J : SJ) (v1 : Int32) (v2 : Int32) (v3 : Int32) (v4 : Int32)  (sz : Nat) {r : Int32} {rI : SI} {rJ : SJ} (h : F_X7_whose I J v1 v2 v3 v4 = some (r, rI, rJ)) : Met l yX7_whose (Cond.code yX7_whose cX7_whose 7 (some .int) :: BG) (k2_rm 3 70) (PcW [.ref (ad 59), .int v1, .int v2, .int v3, .int v4] g (xW ad g I J) sz) (QWi r g (xW ad g I J) (xW ad g rI rJ) sz) 0 0 (va_A (xW ad g I J) sz) := by
  refine mkWi (by decide) (Nat.le_of_ble_eq_true rfl) ?_
  intro p e s m args below meth c H locs ls A Q hC hK hP hD hA hS hl hret
  have hx := hC.1
  have hb := hC.2.1
  have hts := hC.2.2.2.2
  have hown := hC.2.2.2.1
  replace hl : lv_has ls 7 [(0, .ref (ad 59)), (1, .int v1), (2, .int v2), (3, .int v3), (4, .int v4)] := hl
  unfold F_X7_whose at h
  refine lv_aload_n hx hb dX7_whose_0 rfl (lv_at hl 0 rfl) ?_
  refine gt_X7_10 hC hK hP dX7_whose_1 ?_
  refine lv_iload_n hx hb dX7_whose_4 rfl (lv_at hl 1 rfl) ?_
  obtain ⟨r1, hc1, h⟩ := ob h
  rcases r1 with _ | t1
  · refine callRV (As := [.int v1]) (rest := []) hC (c_X1_termAt l g ad I J 0 v1 (Or.inl rfl) hc1) lk_X7_106 rfl rfl ⟨Nat.le_of_ble_eq_true rfl, Nat.le_of_ble_eq_true rfl⟩ hP hK (xEo (Or.inl rfl)) rfl rfl rfl hl (Nat.le_of_ble_eq_true rfl) dX7_whose_5 ?_
    refine lv_astoreN (lv' := [(5, .null), (0, .ref (ad 59)), (1, .int v1), (2, .int v2), (3, .int v3), (4, .int v4)]) hx hb dX7_whose_8 hl (by decide) rfl (fun ls hl => ?_)
    refine lv_aloadN hx hb dX7_whose_10 (lv_at hl 0 rfl) ?_
    refine lv_ifnullN (tgt := 23) hx hb dX7_whose_12 (by decide) ?_
    refine lv_aload_n hx hb dX7_whose_23 rfl (lv_at hl 1 rfl) ?_
    refine lv_iconst (v := -1) hx hb dX7_whose_24 (by decide) ?_
    obtain ⟨⟨r2, I2, J2⟩, hc2, h⟩ := ob h
    dsimp only at h
    refine callWVi (As := [.int (-1 : Int32)]) (rest := []) hC (c_X7_refuseAsTold l g ad I J (-1 : Int32)  H.size hc2) lk_X7_158 rfl rfl ⟨Nat.le_of_ble_eq_true rfl, Nat.le_of_ble_eq_true rfl⟩ hP hK hD hA hS xo_59 rfl rfl rfl hl (Nat.le_of_ble_eq_true rfl) dX7_whose_25 (fun H locs hP hD hS => ?_)
    obtain ⟨h1, h⟩ := Prod.mk.inj (Option.some.inj h)
    obtain ⟨rfl, rfl⟩ := Prod.mk.inj h
    exact hret _ _ _ _ _ dX7_whose_28 h1 hP hD hS
  · have hTt1 : isT t1 := termAt_isT (Or.inl rfl) hc1
    refine callRV (As := [.int v1]) (rest := []) hC (c_X1_termAt l g ad I J 0 v1 (Or.inl rfl) hc1) lk_X7_106 rfl rfl ⟨Nat.le_of_ble_eq_true rfl, Nat.le_of_ble_eq_true rfl⟩ hP hK (xEo (Or.inl rfl)) rfl rfl rfl hl (Nat.le_of_ble_eq_true rfl) dX7_whose_5 ?_
    refine lv_astore (lv' := [(5, .ref (ad t1)), (0, .ref (ad 59)), (1, .int v1), (2, .int v2), (3, .int v3), (4, .int v4)]) hx hb dX7_whose_8 hl (by decide) rfl (fun ls hl => ?_)
    refine lv_aload hx hb dX7_whose_10 (lv_at hl 0 rfl) ?_
    refine lv_ifnull hx hb dX7_whose_12 ?_
    refine lv_iload hx hb dX7_whose_15 (lv_at hl 5 rfl) ?_
    obtain ⟨r3, hc3, h⟩ := ob h
    refine callRS (As := [.int v4]) (rest := []) hC (c_X7_isWho l g (xW ad g I J) v4 hc3) lk_X7_155 rfl rfl ⟨Nat.le_of_ble_eq_true rfl, Nat.le_of_ble_eq_true rfl⟩ hP hK rfl rfl hl (Nat.le_of_ble_eq_true rfl) dX7_whose_17 ?_
    refine lv_if_ne (tgt := 29) hx hb dX7_whose_20 (by decide) (fun c4 => ?_) (fun c4 => ?_)
    · replace h := (if_neg c4).symm.trans h
      refine lv_iload_n hx hb dX7_whose_29 rfl (lv_at hl 3 rfl) ?_
      refine lv_iconst (v := 0) hx hb dX7_whose_30 (by decide) ?_
      refine lv_sipush (v := 999) hx hb dX7_whose_31 (by decide) ?_
      obtain ⟨r5, hc5, h⟩ := ob h
      refine callRS (As := [.int v2, .int (0 : Int32), .int (999 : Int32)]) (rest := []) hC (c_X7_inRange l g (xW ad g I J) v2 (0 : Int32) (999 : Int32) hc5) lk_X7_66 rfl rfl ⟨Nat.le_of_ble_eq_true rfl, Nat.le_of_ble_eq_true rfl⟩ hP hK rfl rfl hl (Nat.le_of_ble_eq_true rfl) dX7_whose_34 ?_
      refine lv_iload_n hx hb dX7_whose_37 rfl (lv_at hl 4 rfl) ?_
      refine lv_iconst (v := 0) hx hb dX7_whose_38 (by decide) ?_
      refine lv_bipush (v := 9) hx hb dX7_whose_39 (by decide) ?_
      obtain ⟨r6, hc6, h⟩ := ob h
      refine callRS (As := [.int v3, .int (0 : Int32), .int (9 : Int32)]) (rest := [.int r5]) hC (c_X7_inRange l g (xW ad g I J) v3 (0 : Int32) (9 : Int32) hc6) lk_X7_66 rfl rfl ⟨Nat.le_of_ble_eq_true rfl, Nat.le_of_ble_eq_true rfl⟩ hP hK rfl rfl hl (Nat.le_of_ble_eq_true rfl) dX7_whose_41 ?_
      obtain ⟨r7, hc7, h⟩ := ob h
      refine callRS (As := [.int r5, .int r6]) (rest := []) hC (c_X7_first l g (xW ad g I J) r5 r6 hc7) lk_X7_161 rfl rfl ⟨Nat.le_of_ble_eq_true rfl, Nat.le_of_ble_eq_true rfl⟩ hP hK rfl rfl hl (Nat.le_of_ble_eq_true rfl) dX7_whose_44 ?_
      refine lv_istore (lv' := [(6, .int r7), (5, .ref (ad t1)), (0, .ref (ad 59)), (1, .int v1), (2, .int v2), (3, .int v3), (4, .int v4)]) hx hb dX7_whose_47 hl (by decide) rfl (fun ls hl => ?_)
      refine lv_iload hx hb dX7_whose_49 (lv_at hl 0 rfl) ?_
      refine lv_if_eq (tgt := 61) hx hb dX7_whose_51 (by decide) (fun c8 => ?_) (fun c8 => ?_)
      · replace h := (if_pos c8).symm.trans h
        refine lv_aload_n hx hb dX7_whose_61 rfl (lv_at hl 2 rfl) ?_
        refine gt_X7_10 hC hK hP dX7_whose_62 ?_
        refine lv_aload hx hb dX7_whose_65 (lv_at hl 1 rfl) ?_
        refine lv_iload_n hx hb dX7_whose_67 rfl (lv_at hl 4 rfl) ?_
        refine lv_iload_n hx hb dX7_whose_68 rfl (lv_at hl 5 rfl) ?_
        refine lv_iload hx hb dX7_whose_69 (lv_at hl 6 rfl) ?_
        obtain ⟨r9, hc9, h⟩ := ob h
        refine callRV (As := [.ref (ad t1), .int v2, .int v3, .int v4]) (rest := []) hC (c_X1_bushelsOf l g ad I J 0 t1 v2 v3 v4 (Or.inl rfl) hTt1 hc9) lk_X7_164 rfl rfl ⟨Nat.le_of_ble_eq_true rfl, Nat.le_of_ble_eq_true rfl⟩ hP hK (xEo (Or.inl rfl)) rfl rfl rfl hl (Nat.le_of_ble_eq_true rfl) dX7_whose_71 ?_
        obtain ⟨h1, h⟩ := Prod.mk.inj (Option.some.inj h)
        obtain ⟨rfl, rfl⟩ := Prod.mk.inj h
        exact hret _ _ _ _ _ dX7_whose_74 h1 hP hD hS
      · replace h := (if_neg c8).symm.trans h
        refine lv_aload_n hx hb dX7_whose_54 rfl (lv_at hl 2 rfl) ?_
        refine lv_iload hx hb dX7_whose_55 (lv_at hl 0 rfl) ?_
        obtain ⟨⟨r10, I10, J10⟩, hc10, h⟩ := ob h
        dsimp only at h
        refine callWVi (As := [.int r7]) (rest := []) hC (c_X7_refuseAsTold l g ad I J r7  H.size hc10) lk_X7_158 rfl rfl ⟨Nat.le_of_ble_eq_true rfl, Nat.le_of_ble_eq_true rfl⟩ hP hK hD hA hS xo_59 rfl rfl rfl hl (Nat.le_of_ble_eq_true rfl) dX7_whose_57 (fun H locs hP hD hS => ?_)
        obtain ⟨h1, h⟩ := Prod.mk.inj (Option.some.inj h)
        obtain ⟨rfl, rfl⟩ := Prod.mk.inj h
        exact hret _ _ _ _ _ dX7_whose_60 h1 hP hD hS
    · replace h := (if_pos c4).symm.trans h
      refine lv_aload_n hx hb dX7_whose_23 rfl (lv_at hl 1 rfl) ?_
      refine lv_iconst (v := -1) hx hb dX7_whose_24 (by decide) ?_
      obtain ⟨⟨r11, I11, J11⟩, hc11, h⟩ := ob h
      dsimp only at h
      refine callWVi (As := [.int (-1 : Int32)]) (rest := []) hC (c_X7_refuseAsTold l g ad I J (-1 : Int32)  H.size hc11) lk_X7_158 rfl rfl ⟨Nat.le_of_ble_eq_true rfl, Nat.le_of_ble_eq_true rfl⟩ hP hK hD hA hS xo_59 rfl rfl rfl hl (Nat.le_of_ble_eq_true rfl) dX7_whose_25 (fun H locs hP hD hS => ?_)
      obtain ⟨h1, h⟩ := Prod.mk.inj (Option.some.inj h)
      obtain ⟨rfl, rfl⟩ := Prod.mk.inj h
      exact hret _ _ _ _ _ dX7_whose_28 h1 hP hD hS
def F_X7_mind (I : SI) (J : SJ) (v1 : Int32) (v2 : Int32) : Option (Int32 × SI × SJ) := ((F_X7_isWho v1).bind fun r1 => (if r1 = 0 then ((F_X7_refuseAsTold I J (-1 : Int32)).bind fun (r7, I7, J7) => (some (r7, I7, J7))) else ((F_X7_inRange v2 (-999 : Int32) (999 : Int32)).bind fun r3 => (if r3 = 0 then ((F_X1_mindOf 0 I J v1 v2).bind fun r5 => (some (r5, I, J))) else ((F_X7_refuseAsTold I J r3).bind fun (r6, I6, J6) => (some (r6, I6, J6)))))))
set_option maxHeartbeats 4000000 in
set_option maxRecDepth 100000 in
theorem c_X7_mind (l : Launch) (g : Gx) (ad : Nat → Nat) (I : SI) (J : SJ) (v1 : Int32) (v2 : Int32)  (sz : Nat) {r : Int32} {rI : SI} {rJ : SJ} (h : F_X7_mind I J v1 v2 = some (r, rI, rJ)) : Met l yX7_mind (Cond.code yX7_mind cX7_mind 4 (some .int) :: BG) (k2_rm 3 65) (PcW [.ref (ad 59), .int v1, .int v2] g (xW ad g I J) sz) (QWi r g (xW ad g I J) (xW ad g rI rJ) sz) 0 0 (va_A (xW ad g I J) sz) := by
  refine mkWi (by decide) (Nat.le_of_ble_eq_true rfl) ?_
  intro p e s m args below meth c H locs ls A Q hC hK hP hD hA hS hl hret
  have hx := hC.1
  have hb := hC.2.1
  have hts := hC.2.2.2.2
  have hown := hC.2.2.2.1
  replace hl : lv_has ls 4 [(0, .ref (ad 59)), (1, .int v1), (2, .int v2)] := hl
  unfold F_X7_mind at h
  refine lv_iload_n hx hb dX7_mind_0 rfl (lv_at hl 1 rfl) ?_
  obtain ⟨r1, hc1, h⟩ := ob h
  refine callRS (As := [.int v1]) (rest := []) hC (c_X7_isWho l g (xW ad g I J) v1 hc1) lk_X7_155 rfl rfl ⟨Nat.le_of_ble_eq_true rfl, Nat.le_of_ble_eq_true rfl⟩ hP hK rfl rfl hl (Nat.le_of_ble_eq_true rfl) dX7_mind_1 ?_
  refine lv_if_ne (tgt := 13) hx hb dX7_mind_4 (by decide) (fun c2 => ?_) (fun c2 => ?_)
  · replace h := (if_neg c2).symm.trans h
    refine lv_iload_n hx hb dX7_mind_13 rfl (lv_at hl 2 rfl) ?_
    refine lv_sipush (v := -999) hx hb dX7_mind_14 (by decide) ?_
    refine lv_sipush (v := 999) hx hb dX7_mind_17 (by decide) ?_
    obtain ⟨r3, hc3, h⟩ := ob h
    refine callRS (As := [.int v2, .int (-999 : Int32), .int (999 : Int32)]) (rest := []) hC (c_X7_inRange l g (xW ad g I J) v2 (-999 : Int32) (999 : Int32) hc3) lk_X7_66 rfl rfl ⟨Nat.le_of_ble_eq_true rfl, Nat.le_of_ble_eq_true rfl⟩ hP hK rfl rfl hl (Nat.le_of_ble_eq_true rfl) dX7_mind_20 ?_
    refine lv_istore_n (lv' := [(3, .int r3), (0, .ref (ad 59)), (1, .int v1), (2, .int v2)]) hx hb dX7_mind_23 rfl hl (by decide) rfl (fun ls hl => ?_)
    refine lv_iload_n hx hb dX7_mind_24 rfl (lv_at hl 0 rfl) ?_
    refine lv_if_eq (tgt := 34) hx hb dX7_mind_25 (by decide) (fun c4 => ?_) (fun c4 => ?_)
    · replace h := (if_pos c4).symm.trans h
      refine lv_aload_n hx hb dX7_mind_34 rfl (lv_at hl 1 rfl) ?_
      refine gt_X7_10 hC hK hP dX7_mind_35 ?_
      refine lv_iload_n hx hb dX7_mind_38 rfl (lv_at hl 2 rfl) ?_
      refine lv_iload_n hx hb dX7_mind_39 rfl (lv_at hl 3 rfl) ?_
      obtain ⟨r5, hc5, h⟩ := ob h
      refine callRV (As := [.int v1, .int v2]) (rest := []) hC (c_X1_mindOf l g ad I J 0 v1 v2 (Or.inl rfl) hc5) lk_X7_168 rfl rfl ⟨Nat.le_of_ble_eq_true rfl, Nat.le_of_ble_eq_true rfl⟩ hP hK (xEo (Or.inl rfl)) rfl rfl rfl hl (Nat.le_of_ble_eq_true rfl) dX7_mind_40 ?_
      obtain ⟨h1, h⟩ := Prod.mk.inj (Option.some.inj h)
      obtain ⟨rfl, rfl⟩ := Prod.mk.inj h
      exact hret _ _ _ _ _ dX7_mind_43 h1 hP hD hS
    · replace h := (if_neg c4).symm.trans h
      refine lv_aload_n hx hb dX7_mind_28 rfl (lv_at hl 1 rfl) ?_
      refine lv_iload_n hx hb dX7_mind_29 rfl (lv_at hl 0 rfl) ?_
      obtain ⟨⟨r6, I6, J6⟩, hc6, h⟩ := ob h
      dsimp only at h
      refine callWVi (As := [.int r3]) (rest := []) hC (c_X7_refuseAsTold l g ad I J r3  H.size hc6) lk_X7_158 rfl rfl ⟨Nat.le_of_ble_eq_true rfl, Nat.le_of_ble_eq_true rfl⟩ hP hK hD hA hS xo_59 rfl rfl rfl hl (Nat.le_of_ble_eq_true rfl) dX7_mind_30 (fun H locs hP hD hS => ?_)
      obtain ⟨h1, h⟩ := Prod.mk.inj (Option.some.inj h)
      obtain ⟨rfl, rfl⟩ := Prod.mk.inj h
      exact hret _ _ _ _ _ dX7_mind_33 h1 hP hD hS
  · replace h := (if_pos c2).symm.trans h
    refine lv_aload_n hx hb dX7_mind_7 rfl (lv_at hl 0 rfl) ?_
    refine lv_iconst (v := -1) hx hb dX7_mind_8 (by decide) ?_
    obtain ⟨⟨r7, I7, J7⟩, hc7, h⟩ := ob h
    dsimp only at h
    refine callWVi (As := [.int (-1 : Int32)]) (rest := []) hC (c_X7_refuseAsTold l g ad I J (-1 : Int32)  H.size hc7) lk_X7_158 rfl rfl ⟨Nat.le_of_ble_eq_true rfl, Nat.le_of_ble_eq_true rfl⟩ hP hK hD hA hS xo_59 rfl rfl rfl hl (Nat.le_of_ble_eq_true rfl) dX7_mind_9 (fun H locs hP hD hS => ?_)
    obtain ⟨h1, h⟩ := Prod.mk.inj (Option.some.inj h)
    obtain ⟨rfl, rfl⟩ := Prod.mk.inj h
    exact hret _ _ _ _ _ dX7_mind_12 h1 hP hD hS
def F_X7_refuseAsToldLong (I : SI) (J : SJ) (v1 : Int32) : Option (Int64 × SI × SJ) := ((F_X7_refuse I J v1).bind fun (r1, I1, J1) => (some (((4000000000000000000 : Int64) - (Int32.toInt64 r1)), I1, J1)))
set_option maxHeartbeats 4000000 in
set_option maxRecDepth 100000 in
theorem c_X7_refuseAsToldLong (l : Launch) (g : Gx) (ad : Nat → Nat) (I : SI) (J : SJ) (v1 : Int32)  (sz : Nat) {r : Int64} {rI : SI} {rJ : SJ} (h : F_X7_refuseAsToldLong I J v1 = some (r, rI, rJ)) : Met l yX7_refuseAsToldLong (Cond.code yX7_refuseAsToldLong cX7_refuseAsToldLong 2 (some .long) :: BG) (k2_rm 2 44) (PcW [.ref (ad 59), .int v1] g (xW ad g I J) sz) (QWl r g (xW ad g I J) (xW ad g rI rJ) sz) 0 0 (va_A (xW ad g I J) sz) := by
  refine mkWl (by decide) (Nat.le_of_ble_eq_true rfl) ?_
  intro p e s m args below meth c H locs ls A Q hC hK hP hD hA hS hl hret
  have hx := hC.1
  have hb := hC.2.1
  have hts := hC.2.2.2.2
  have hown := hC.2.2.2.1
  replace hl : lv_has ls 2 [(0, .ref (ad 59)), (1, .int v1)] := hl
  unfold F_X7_refuseAsToldLong at h
  refine lv_ldc2 hx hb hown (hts _ kc_X7_309) dX7_refuseAsToldLong_0 ?_
  refine lv_aload_n hx hb dX7_refuseAsToldLong_3 rfl (lv_at hl 0 rfl) ?_
  refine lv_iload_n hx hb dX7_refuseAsToldLong_4 rfl (lv_at hl 1 rfl) ?_
  obtain ⟨⟨r1, I1, J1⟩, hc1, h⟩ := ob h
  dsimp only at h
  refine callWVi (As := [.int v1]) (rest := [.long (4000000000000000000 : Int64)]) hC (c_X7_refuse l g ad I J v1  H.size hc1) lk_X7_74 rfl rfl ⟨Nat.le_of_ble_eq_true rfl, Nat.le_of_ble_eq_true rfl⟩ hP hK hD hA hS xo_59 rfl rfl rfl hl (Nat.le_of_ble_eq_true rfl) dX7_refuseAsToldLong_5 (fun H locs hP hD hS => ?_)
  refine lv_i2l hx hb dX7_refuseAsToldLong_8 rfl ?_
  refine lv_lsub hx hb dX7_refuseAsToldLong_9 ?_
  obtain ⟨h1, h⟩ := Prod.mk.inj (Option.some.inj h)
  obtain ⟨rfl, rfl⟩ := Prod.mk.inj h
  exact hret _ _ _ _ _ dX7_refuseAsToldLong_10 h1 hP hD hS
def F_X7_worth (I : SI) (J : SJ) (v1 : Int32) (v2 : Int32) (v3 : Int32) : Option (Int64 × SI × SJ) := ((F_X1_termAt 0 I J v1).bind fun r1 => (match r1 with | none => ((F_X7_refuseAsToldLong I J (-1 : Int32)).bind fun (r2, I2, J2) => (some (r2, I2, J2))) | some t1 => ((F_X1_hasPains 0 I J v2).bind fun r3 => (if r3 = 0 then ((F_X7_refuseAsToldLong I J (-1 : Int32)).bind fun (r5, I5, J5) => (some (r5, I5, J5))) else ((F_X7_isWho v3).bind fun r6 => (if r6 = 0 then ((F_X7_refuseAsToldLong I J (-1 : Int32)).bind fun (r10, I10, J10) => (some (r10, I10, J10))) else ((F_X4_lay I J (0 : Int32) (0 : Int32) (0 : Int32)).bind fun (I8, J8) => ((F_X4_worthOf t1 I8 J8 v2 v3).bind fun r9 => (some (r9, I8, J8))))))))))
set_option maxHeartbeats 4000000 in
set_option maxRecDepth 100000 in
theorem c_X7_worth (l : Launch) (g : Gx) (ad : Nat → Nat) (I : SI) (J : SJ) (v1 : Int32) (v2 : Int32) (v3 : Int32)  (sz : Nat) {r : Int64} {rI : SI} {rJ : SJ} (h : F_X7_worth I J v1 v2 v3 = some (r, rI, rJ)) : Met l yX7_worth (Cond.code yX7_worth cX7_worth 5 (some .long) :: BG) (k2_rm 4 97) (PcW [.ref (ad 59), .int v1, .int v2, .int v3] g (xW ad g I J) sz) (QWl r g (xW ad g I J) (xW ad g rI rJ) sz) 0 0 (va_A (xW ad g I J) sz) := by
  refine mkWl (by decide) (Nat.le_of_ble_eq_true rfl) ?_
  intro p e s m args below meth c H locs ls A Q hC hK hP hD hA hS hl hret
  have hx := hC.1
  have hb := hC.2.1
  have hts := hC.2.2.2.2
  have hown := hC.2.2.2.1
  replace hl : lv_has ls 5 [(0, .ref (ad 59)), (1, .int v1), (2, .int v2), (3, .int v3)] := hl
  unfold F_X7_worth at h
  refine lv_aload_n hx hb dX7_worth_0 rfl (lv_at hl 0 rfl) ?_
  refine gt_X7_10 hC hK hP dX7_worth_1 ?_
  refine lv_iload_n hx hb dX7_worth_4 rfl (lv_at hl 1 rfl) ?_
  obtain ⟨r1, hc1, h⟩ := ob h
  rcases r1 with _ | t1
  · refine callRV (As := [.int v1]) (rest := []) hC (c_X1_termAt l g ad I J 0 v1 (Or.inl rfl) hc1) lk_X7_106 rfl rfl ⟨Nat.le_of_ble_eq_true rfl, Nat.le_of_ble_eq_true rfl⟩ hP hK (xEo (Or.inl rfl)) rfl rfl rfl hl (Nat.le_of_ble_eq_true rfl) dX7_worth_5 ?_
    refine lv_astoreN (lv' := [(4, .null), (0, .ref (ad 59)), (1, .int v1), (2, .int v2), (3, .int v3)]) hx hb dX7_worth_8 hl (by decide) rfl (fun ls hl => ?_)
    refine lv_aloadN hx hb dX7_worth_10 (lv_at hl 0 rfl) ?_
    refine lv_ifnullN (tgt := 33) hx hb dX7_worth_12 (by decide) ?_
    refine lv_aload_n hx hb dX7_worth_33 rfl (lv_at hl 1 rfl) ?_
    refine lv_iconst (v := -1) hx hb dX7_worth_34 (by decide) ?_
    obtain ⟨⟨r2, I2, J2⟩, hc2, h⟩ := ob h
    dsimp only at h
    refine callWVl (As := [.int (-1 : Int32)]) (rest := []) hC (c_X7_refuseAsToldLong l g ad I J (-1 : Int32)  H.size hc2) lk_X7_171 rfl rfl ⟨Nat.le_of_ble_eq_true rfl, Nat.le_of_ble_eq_true rfl⟩ hP hK hD hA hS xo_59 rfl rfl rfl hl (Nat.le_of_ble_eq_true rfl) dX7_worth_35 (fun H locs hP hD hS => ?_)
    obtain ⟨h1, h⟩ := Prod.mk.inj (Option.some.inj h)
    obtain ⟨rfl, rfl⟩ := Prod.mk.inj h
    exact hret _ _ _ _ _ dX7_worth_38 h1 hP hD hS
  · have hTt1 : isT t1 := termAt_isT (Or.inl rfl) hc1
    refine callRV (As := [.int v1]) (rest := []) hC (c_X1_termAt l g ad I J 0 v1 (Or.inl rfl) hc1) lk_X7_106 rfl rfl ⟨Nat.le_of_ble_eq_true rfl, Nat.le_of_ble_eq_true rfl⟩ hP hK (xEo (Or.inl rfl)) rfl rfl rfl hl (Nat.le_of_ble_eq_true rfl) dX7_worth_5 ?_
    refine lv_astore (lv' := [(4, .ref (ad t1)), (0, .ref (ad 59)), (1, .int v1), (2, .int v2), (3, .int v3)]) hx hb dX7_worth_8 hl (by decide) rfl (fun ls hl => ?_)
    refine lv_aload hx hb dX7_worth_10 (lv_at hl 0 rfl) ?_
    refine lv_ifnull hx hb dX7_worth_12 ?_
    refine lv_aload_n hx hb dX7_worth_15 rfl (lv_at hl 1 rfl) ?_
    refine gt_X7_10 hC hK hP dX7_worth_16 ?_
    refine lv_iload_n hx hb dX7_worth_19 rfl (lv_at hl 3 rfl) ?_
    obtain ⟨r3, hc3, h⟩ := ob h
    refine callRV (As := [.int v2]) (rest := []) hC (c_X1_hasPains l g ad I J 0 v2 (Or.inl rfl) hc3) lk_X7_148 rfl rfl ⟨Nat.le_of_ble_eq_true rfl, Nat.le_of_ble_eq_true rfl⟩ hP hK (xEo (Or.inl rfl)) rfl rfl rfl hl (Nat.le_of_ble_eq_true rfl) dX7_worth_20 ?_
    refine lv_if_eq (tgt := 33) hx hb dX7_worth_23 (by decide) (fun c4 => ?_) (fun c4 => ?_)
    · replace h := (if_pos c4).symm.trans h
      refine lv_aload_n hx hb dX7_worth_33 rfl (lv_at hl 1 rfl) ?_
      refine lv_iconst (v := -1) hx hb dX7_worth_34 (by decide) ?_
      obtain ⟨⟨r5, I5, J5⟩, hc5, h⟩ := ob h
      dsimp only at h
      refine callWVl (As := [.int (-1 : Int32)]) (rest := []) hC (c_X7_refuseAsToldLong l g ad I J (-1 : Int32)  H.size hc5) lk_X7_171 rfl rfl ⟨Nat.le_of_ble_eq_true rfl, Nat.le_of_ble_eq_true rfl⟩ hP hK hD hA hS xo_59 rfl rfl rfl hl (Nat.le_of_ble_eq_true rfl) dX7_worth_35 (fun H locs hP hD hS => ?_)
      obtain ⟨h1, h⟩ := Prod.mk.inj (Option.some.inj h)
      obtain ⟨rfl, rfl⟩ := Prod.mk.inj h
      exact hret _ _ _ _ _ dX7_worth_38 h1 hP hD hS
    · replace h := (if_neg c4).symm.trans h
      refine lv_iload_n hx hb dX7_worth_26 rfl (lv_at hl 4 rfl) ?_
      obtain ⟨r6, hc6, h⟩ := ob h
      refine callRS (As := [.int v3]) (rest := []) hC (c_X7_isWho l g (xW ad g I J) v3 hc6) lk_X7_155 rfl rfl ⟨Nat.le_of_ble_eq_true rfl, Nat.le_of_ble_eq_true rfl⟩ hP hK rfl rfl hl (Nat.le_of_ble_eq_true rfl) dX7_worth_27 ?_
      refine lv_if_ne (tgt := 39) hx hb dX7_worth_30 (by decide) (fun c7 => ?_) (fun c7 => ?_)
      · replace h := (if_neg c7).symm.trans h
        refine lv_aload_n hx hb dX7_worth_39 rfl (lv_at hl 1 rfl) ?_
        refine gt_X7_34 hC hK hP dX7_worth_40 ?_
        refine lv_iconst (v := 0) hx hb dX7_worth_43 (by decide) ?_
        refine lv_iconst (v := 0) hx hb dX7_worth_44 (by decide) ?_
        refine lv_iconst (v := 0) hx hb dX7_worth_45 (by decide) ?_
        obtain ⟨⟨I8, J8⟩, hc8, h⟩ := ob h
        dsimp only at h
        refine callWVv (As := [.int (0 : Int32), .int (0 : Int32), .int (0 : Int32)]) (rest := []) hC (c_X4_lay l g ad I J (0 : Int32) (0 : Int32) (0 : Int32)  H.size hc8) lk_X7_135 rfl rfl ⟨Nat.le_of_ble_eq_true rfl, Nat.le_of_ble_eq_true rfl⟩ hP hK hD hA hS xo_47 rfl rfl rfl hl (Nat.le_of_ble_eq_true rfl) dX7_worth_46 (fun H locs hP hD hS => ?_)
        refine lv_aload_n hx hb dX7_worth_49 rfl (lv_at hl 1 rfl) ?_
        refine gt_X7_34 hC hK hP dX7_worth_50 ?_
        refine lv_aload hx hb dX7_worth_53 (lv_at hl 0 rfl) ?_
        refine lv_iload_n hx hb dX7_worth_55 rfl (lv_at hl 3 rfl) ?_
        refine lv_iload_n hx hb dX7_worth_56 rfl (lv_at hl 4 rfl) ?_
        obtain ⟨r9, hc9, h⟩ := ob h
        refine callRV (As := [.ref (ad t1), .int v2, .int v3]) (rest := []) hC (c_X4_worthOf l g ad I8 J8 t1 v2 v3 hTt1 hc9) lk_X7_175 rfl rfl ⟨Nat.le_of_ble_eq_true rfl, Nat.le_of_ble_eq_true rfl⟩ hP hK xo_47 rfl rfl rfl hl (Nat.le_of_ble_eq_true rfl) dX7_worth_57 ?_
        obtain ⟨h1, h⟩ := Prod.mk.inj (Option.some.inj h)
        obtain ⟨rfl, rfl⟩ := Prod.mk.inj h
        exact hret _ _ _ _ _ dX7_worth_60 h1 hP hD hS
      · replace h := (if_pos c7).symm.trans h
        refine lv_aload_n hx hb dX7_worth_33 rfl (lv_at hl 1 rfl) ?_
        refine lv_iconst (v := -1) hx hb dX7_worth_34 (by decide) ?_
        obtain ⟨⟨r10, I10, J10⟩, hc10, h⟩ := ob h
        dsimp only at h
        refine callWVl (As := [.int (-1 : Int32)]) (rest := []) hC (c_X7_refuseAsToldLong l g ad I J (-1 : Int32)  H.size hc10) lk_X7_171 rfl rfl ⟨Nat.le_of_ble_eq_true rfl, Nat.le_of_ble_eq_true rfl⟩ hP hK hD hA hS xo_59 rfl rfl rfl hl (Nat.le_of_ble_eq_true rfl) dX7_worth_35 (fun H locs hP hD hS => ?_)
        obtain ⟨h1, h⟩ := Prod.mk.inj (Option.some.inj h)
        obtain ⟨rfl, rfl⟩ := Prod.mk.inj h
        exact hret _ _ _ _ _ dX7_worth_38 h1 hP hD hS
def F_X7_pains (I : SI) (J : SJ) (v1 : Int32) : Option (Int32 × SI × SJ) := ((F_X1_termAt 0 I J v1).bind fun r1 => (match r1 with | none => ((F_X7_refuse I J (-1 : Int32)).bind fun (r2, I2, J2) => (some (r2, I2, J2))) | some t1 => ((F_X4_lay I J (0 : Int32) (0 : Int32) (0 : Int32)).bind fun (I3, J3) => ((F_X4_findBest t1 I3 J3).bind fun (I4, J4) => (some ((I4 47 8), I4, J4))))))
set_option maxHeartbeats 4000000 in
set_option maxRecDepth 100000 in
theorem c_X7_pains (l : Launch) (g : Gx) (ad : Nat → Nat) (I : SI) (J : SJ) (v1 : Int32)  (sz : Nat) {r : Int32} {rI : SI} {rJ : SJ} (h : F_X7_pains I J v1 = some (r, rI, rJ)) : Met l yX7_pains (Cond.code yX7_pains cX7_pains 3 (some .int) :: BG) (k2_rm 5 121) (PcW [.ref (ad 59), .int v1] g (xW ad g I J) sz) (QWi r g (xW ad g I J) (xW ad g rI rJ) sz) 0 0 (va_A (xW ad g I J) sz) := by
  refine mkWi (by decide) (Nat.le_of_ble_eq_true rfl) ?_
  intro p e s m args below meth c H locs ls A Q hC hK hP hD hA hS hl hret
  have hx := hC.1
  have hb := hC.2.1
  have hts := hC.2.2.2.2
  have hown := hC.2.2.2.1
  replace hl : lv_has ls 3 [(0, .ref (ad 59)), (1, .int v1)] := hl
  unfold F_X7_pains at h
  refine lv_aload_n hx hb dX7_pains_0 rfl (lv_at hl 0 rfl) ?_
  refine gt_X7_10 hC hK hP dX7_pains_1 ?_
  refine lv_iload_n hx hb dX7_pains_4 rfl (lv_at hl 1 rfl) ?_
  obtain ⟨r1, hc1, h⟩ := ob h
  rcases r1 with _ | t1
  · refine callRV (As := [.int v1]) (rest := []) hC (c_X1_termAt l g ad I J 0 v1 (Or.inl rfl) hc1) lk_X7_106 rfl rfl ⟨Nat.le_of_ble_eq_true rfl, Nat.le_of_ble_eq_true rfl⟩ hP hK (xEo (Or.inl rfl)) rfl rfl rfl hl (Nat.le_of_ble_eq_true rfl) dX7_pains_5 ?_
    refine lv_astore_nN (lv' := [(2, .null), (0, .ref (ad 59)), (1, .int v1)]) hx hb dX7_pains_8 rfl hl (by decide) rfl (fun ls hl => ?_)
    refine lv_aload_nN hx hb dX7_pains_9 rfl (lv_at hl 0 rfl) ?_
    refine lv_ifnonnullN hx hb dX7_pains_10 ?_
    refine lv_aload_n hx hb dX7_pains_13 rfl (lv_at hl 1 rfl) ?_
    refine lv_iconst (v := -1) hx hb dX7_pains_14 (by decide) ?_
    obtain ⟨⟨r2, I2, J2⟩, hc2, h⟩ := ob h
    dsimp only at h
    refine callWVi (As := [.int (-1 : Int32)]) (rest := []) hC (c_X7_refuse l g ad I J (-1 : Int32)  H.size hc2) lk_X7_74 rfl rfl ⟨Nat.le_of_ble_eq_true rfl, Nat.le_of_ble_eq_true rfl⟩ hP hK hD hA hS xo_59 rfl rfl rfl hl (Nat.le_of_ble_eq_true rfl) dX7_pains_15 (fun H locs hP hD hS => ?_)
    obtain ⟨h1, h⟩ := Prod.mk.inj (Option.some.inj h)
    obtain ⟨rfl, rfl⟩ := Prod.mk.inj h
    exact hret _ _ _ _ _ dX7_pains_18 h1 hP hD hS
  · have hTt1 : isT t1 := termAt_isT (Or.inl rfl) hc1
    refine callRV (As := [.int v1]) (rest := []) hC (c_X1_termAt l g ad I J 0 v1 (Or.inl rfl) hc1) lk_X7_106 rfl rfl ⟨Nat.le_of_ble_eq_true rfl, Nat.le_of_ble_eq_true rfl⟩ hP hK (xEo (Or.inl rfl)) rfl rfl rfl hl (Nat.le_of_ble_eq_true rfl) dX7_pains_5 ?_
    refine lv_astore_n (lv' := [(2, .ref (ad t1)), (0, .ref (ad 59)), (1, .int v1)]) hx hb dX7_pains_8 rfl hl (by decide) rfl (fun ls hl => ?_)
    refine lv_aload_n hx hb dX7_pains_9 rfl (lv_at hl 0 rfl) ?_
    refine lv_ifnonnull (tgt := 19) hx hb dX7_pains_10 (by decide) ?_
    refine lv_aload_n hx hb dX7_pains_19 rfl (lv_at hl 1 rfl) ?_
    refine gt_X7_34 hC hK hP dX7_pains_20 ?_
    refine lv_iconst (v := 0) hx hb dX7_pains_23 (by decide) ?_
    refine lv_iconst (v := 0) hx hb dX7_pains_24 (by decide) ?_
    refine lv_iconst (v := 0) hx hb dX7_pains_25 (by decide) ?_
    obtain ⟨⟨I3, J3⟩, hc3, h⟩ := ob h
    dsimp only at h
    refine callWVv (As := [.int (0 : Int32), .int (0 : Int32), .int (0 : Int32)]) (rest := []) hC (c_X4_lay l g ad I J (0 : Int32) (0 : Int32) (0 : Int32)  H.size hc3) lk_X7_135 rfl rfl ⟨Nat.le_of_ble_eq_true rfl, Nat.le_of_ble_eq_true rfl⟩ hP hK hD hA hS xo_47 rfl rfl rfl hl (Nat.le_of_ble_eq_true rfl) dX7_pains_26 (fun H locs hP hD hS => ?_)
    refine lv_aload_n hx hb dX7_pains_29 rfl (lv_at hl 1 rfl) ?_
    refine gt_X7_34 hC hK hP dX7_pains_30 ?_
    refine lv_aload_n hx hb dX7_pains_33 rfl (lv_at hl 0 rfl) ?_
    obtain ⟨⟨I4, J4⟩, hc4, h⟩ := ob h
    dsimp only at h
    refine callWVv (As := [.ref (ad t1)]) (rest := []) hC (c_X4_findBest l g ad I3 J3 t1 hTt1 H.size hc4) lk_X7_179 rfl rfl ⟨Nat.le_of_ble_eq_true rfl, Nat.le_of_ble_eq_true rfl⟩ hP hK hD hA hS xo_47 rfl rfl rfl hl (Nat.le_of_ble_eq_true rfl) dX7_pains_34 (fun H locs hP hD hS => ?_)
    refine lv_aload_n hx hb dX7_pains_37 rfl (lv_at hl 1 rfl) ?_
    refine gt_X7_34 hC hK hP dX7_pains_38 ?_
    refine gt_X7_183 hC hK hP dX7_pains_41 ?_
    obtain ⟨h1, h⟩ := Prod.mk.inj (Option.some.inj h)
    obtain ⟨rfl, rfl⟩ := Prod.mk.inj h
    exact hret _ _ _ _ _ dX7_pains_44 h1 hP hD hS
def F_X7_isTaken (t1 : Nat) (I : SI) (J : SJ) : Option (Int32 × SI × SJ) := ((F_X4_findBest t1 I J).bind fun (I1, J1) => ((F_X1_otherWorth 0 I1 J1).bind fun r2 => (if (J1 47 9) < r2 then (some ((0 : Int32), I1, J1)) else (some ((1 : Int32), I1, J1)))))
set_option maxHeartbeats 4000000 in
set_option maxRecDepth 100000 in
theorem c_X7_isTaken (l : Launch) (g : Gx) (ad : Nat → Nat) (I : SI) (J : SJ) (t1 : Nat) (hT1 : isT t1) (sz : Nat) {r : Int32} {rI : SI} {rJ : SJ} (h : F_X7_isTaken t1 I J = some (r, rI, rJ)) : Met l yX7_isTaken (Cond.code yX7_isTaken cX7_isTaken 2 (some .boolean) :: BG) (k2_rm 5 121) (PcW [.ref (ad 59), .ref (ad t1)] g (xW ad g I J) sz) (QWi r g (xW ad g I J) (xW ad g rI rJ) sz) 0 0 (va_A (xW ad g I J) sz) := by
  refine mkWz (by decide) (Nat.le_of_ble_eq_true rfl) ?_
  intro p e s m args below meth c H locs ls A Q hC hK hP hD hA hS hl hret
  have hx := hC.1
  have hb := hC.2.1
  have hts := hC.2.2.2.2
  have hown := hC.2.2.2.1
  replace hl : lv_has ls 2 [(0, .ref (ad 59)), (1, .ref (ad t1))] := hl
  unfold F_X7_isTaken at h
  refine lv_aload_n hx hb dX7_isTaken_0 rfl (lv_at hl 0 rfl) ?_
  refine gt_X7_34 hC hK hP dX7_isTaken_1 ?_
  refine lv_aload_n hx hb dX7_isTaken_4 rfl (lv_at hl 1 rfl) ?_
  obtain ⟨⟨I1, J1⟩, hc1, h⟩ := ob h
  dsimp only at h
  refine callWVv (As := [.ref (ad t1)]) (rest := []) hC (c_X4_findBest l g ad I J t1 hT1 H.size hc1) lk_X7_179 rfl rfl ⟨Nat.le_of_ble_eq_true rfl, Nat.le_of_ble_eq_true rfl⟩ hP hK hD hA hS xo_47 rfl rfl rfl hl (Nat.le_of_ble_eq_true rfl) dX7_isTaken_5 (fun H locs hP hD hS => ?_)
  refine lv_aload_n hx hb dX7_isTaken_8 rfl (lv_at hl 0 rfl) ?_
  refine gt_X7_34 hC hK hP dX7_isTaken_9 ?_
  refine gt_X7_315 hC hK hP dX7_isTaken_12 ?_
  refine lv_aload_n hx hb dX7_isTaken_15 rfl (lv_at hl 0 rfl) ?_
  refine gt_X7_10 hC hK hP dX7_isTaken_16 ?_
  obtain ⟨r2, hc2, h⟩ := ob h
  refine callRV (As := []) (rest := [.long (J1 47 9)]) hC (c_X1_otherWorth l g ad I1 J1 0 (Or.inl rfl) hc2) lk_X7_319 rfl rfl ⟨Nat.le_of_ble_eq_true rfl, Nat.le_of_ble_eq_true rfl⟩ hP hK (xEo (Or.inl rfl)) rfl rfl rfl hl (Nat.le_of_ble_eq_true rfl) dX7_isTaken_19 ?_
  refine W.lcmp hx hb dX7_isTaken_22 ?_
  refine lv_if_lt (tgt := 30) hx hb dX7_isTaken_23 (by decide) (fun c3 => ?_) (fun c3 => ?_)
  · replace h := (if_pos ((lg_cmp_lt _ _).mp c3)).symm.trans h
    refine lv_iconst (v := 0) hx hb dX7_isTaken_30 (by decide) ?_
    obtain ⟨h1, h⟩ := Prod.mk.inj (Option.some.inj h)
    obtain ⟨rfl, rfl⟩ := Prod.mk.inj h
    exact hret _ _ _ _ _ dX7_isTaken_31 rfl h1 hP hD hS
  · replace h := (if_neg (fun hh => c3 ((lg_cmp_lt _ _).mpr hh))).symm.trans h
    refine lv_iconst (v := 1) hx hb dX7_isTaken_26 (by decide) ?_
    refine lv_goto (tgt := 31) hx hb dX7_isTaken_27 (by decide) ?_
    obtain ⟨h1, h⟩ := Prod.mk.inj (Option.some.inj h)
    obtain ⟨rfl, rfl⟩ := Prod.mk.inj h
    exact hret _ _ _ _ _ dX7_isTaken_31 rfl h1 hP hD hS
def F_X7_takes (I : SI) (J : SJ) (v1 : Int32) : Option (Int32 × SI × SJ) := ((F_X1_termAt 0 I J v1).bind fun r1 => (match r1 with | none => ((F_X7_refuse I J (-1 : Int32)).bind fun (r2, I2, J2) => (some (r2, I2, J2))) | some t1 => ((F_X4_lay I J (0 : Int32) (0 : Int32) (0 : Int32)).bind fun (I3, J3) => ((F_X7_isTaken t1 I3 J3).bind fun (r4, I4, J4) => (some ((if r4 = 0 then (0 : Int32) else (1 : Int32)), I4, J4))))))
set_option maxHeartbeats 4000000 in
set_option maxRecDepth 100000 in
theorem c_X7_takes (l : Launch) (g : Gx) (ad : Nat → Nat) (I : SI) (J : SJ) (v1 : Int32)  (sz : Nat) {r : Int32} {rI : SI} {rJ : SJ} (h : F_X7_takes I J v1 = some (r, rI, rJ)) : Met l yX7_takes (Cond.code yX7_takes cX7_takes 3 (some .int) :: BG) (k2_rm 6 142) (PcW [.ref (ad 59), .int v1] g (xW ad g I J) sz) (QWi r g (xW ad g I J) (xW ad g rI rJ) sz) 0 0 (va_A (xW ad g I J) sz) := by
  refine mkWi (by decide) (Nat.le_of_ble_eq_true rfl) ?_
  intro p e s m args below meth c H locs ls A Q hC hK hP hD hA hS hl hret
  have hx := hC.1
  have hb := hC.2.1
  have hts := hC.2.2.2.2
  have hown := hC.2.2.2.1
  replace hl : lv_has ls 3 [(0, .ref (ad 59)), (1, .int v1)] := hl
  unfold F_X7_takes at h
  refine lv_aload_n hx hb dX7_takes_0 rfl (lv_at hl 0 rfl) ?_
  refine gt_X7_10 hC hK hP dX7_takes_1 ?_
  refine lv_iload_n hx hb dX7_takes_4 rfl (lv_at hl 1 rfl) ?_
  obtain ⟨r1, hc1, h⟩ := ob h
  rcases r1 with _ | t1
  · refine callRV (As := [.int v1]) (rest := []) hC (c_X1_termAt l g ad I J 0 v1 (Or.inl rfl) hc1) lk_X7_106 rfl rfl ⟨Nat.le_of_ble_eq_true rfl, Nat.le_of_ble_eq_true rfl⟩ hP hK (xEo (Or.inl rfl)) rfl rfl rfl hl (Nat.le_of_ble_eq_true rfl) dX7_takes_5 ?_
    refine lv_astore_nN (lv' := [(2, .null), (0, .ref (ad 59)), (1, .int v1)]) hx hb dX7_takes_8 rfl hl (by decide) rfl (fun ls hl => ?_)
    refine lv_aload_nN hx hb dX7_takes_9 rfl (lv_at hl 0 rfl) ?_
    refine lv_ifnonnullN hx hb dX7_takes_10 ?_
    refine lv_aload_n hx hb dX7_takes_13 rfl (lv_at hl 1 rfl) ?_
    refine lv_iconst (v := -1) hx hb dX7_takes_14 (by decide) ?_
    obtain ⟨⟨r2, I2, J2⟩, hc2, h⟩ := ob h
    dsimp only at h
    refine callWVi (As := [.int (-1 : Int32)]) (rest := []) hC (c_X7_refuse l g ad I J (-1 : Int32)  H.size hc2) lk_X7_74 rfl rfl ⟨Nat.le_of_ble_eq_true rfl, Nat.le_of_ble_eq_true rfl⟩ hP hK hD hA hS xo_59 rfl rfl rfl hl (Nat.le_of_ble_eq_true rfl) dX7_takes_15 (fun H locs hP hD hS => ?_)
    obtain ⟨h1, h⟩ := Prod.mk.inj (Option.some.inj h)
    obtain ⟨rfl, rfl⟩ := Prod.mk.inj h
    exact hret _ _ _ _ _ dX7_takes_18 h1 hP hD hS
  · have hTt1 : isT t1 := termAt_isT (Or.inl rfl) hc1
    refine callRV (As := [.int v1]) (rest := []) hC (c_X1_termAt l g ad I J 0 v1 (Or.inl rfl) hc1) lk_X7_106 rfl rfl ⟨Nat.le_of_ble_eq_true rfl, Nat.le_of_ble_eq_true rfl⟩ hP hK (xEo (Or.inl rfl)) rfl rfl rfl hl (Nat.le_of_ble_eq_true rfl) dX7_takes_5 ?_
    refine lv_astore_n (lv' := [(2, .ref (ad t1)), (0, .ref (ad 59)), (1, .int v1)]) hx hb dX7_takes_8 rfl hl (by decide) rfl (fun ls hl => ?_)
    refine lv_aload_n hx hb dX7_takes_9 rfl (lv_at hl 0 rfl) ?_
    refine lv_ifnonnull (tgt := 19) hx hb dX7_takes_10 (by decide) ?_
    refine lv_aload_n hx hb dX7_takes_19 rfl (lv_at hl 1 rfl) ?_
    refine gt_X7_34 hC hK hP dX7_takes_20 ?_
    refine lv_iconst (v := 0) hx hb dX7_takes_23 (by decide) ?_
    refine lv_iconst (v := 0) hx hb dX7_takes_24 (by decide) ?_
    refine lv_iconst (v := 0) hx hb dX7_takes_25 (by decide) ?_
    obtain ⟨⟨I3, J3⟩, hc3, h⟩ := ob h
    dsimp only at h
    refine callWVv (As := [.int (0 : Int32), .int (0 : Int32), .int (0 : Int32)]) (rest := []) hC (c_X4_lay l g ad I J (0 : Int32) (0 : Int32) (0 : Int32)  H.size hc3) lk_X7_135 rfl rfl ⟨Nat.le_of_ble_eq_true rfl, Nat.le_of_ble_eq_true rfl⟩ hP hK hD hA hS xo_47 rfl rfl rfl hl (Nat.le_of_ble_eq_true rfl) dX7_takes_26 (fun H locs hP hD hS => ?_)
    refine lv_aload_n hx hb dX7_takes_29 rfl (lv_at hl 1 rfl) ?_
    refine lv_aload_n hx hb dX7_takes_30 rfl (lv_at hl 0 rfl) ?_
    obtain ⟨⟨r4, I4, J4⟩, hc4, h⟩ := ob h
    dsimp only at h
    refine callWVi (As := [.ref (ad t1)]) (rest := []) hC (c_X7_isTaken l g ad I3 J3 t1 hTt1 H.size hc4) lk_X7_186 rfl rfl ⟨Nat.le_of_ble_eq_true rfl, Nat.le_of_ble_eq_true rfl⟩ hP hK hD hA hS xo_59 rfl rfl rfl hl (Nat.le_of_ble_eq_true rfl) dX7_takes_31 (fun H locs hP hD hS => ?_)
    refine tern (α := Int32) (cnd := r4 = 0) (a := (0 : Int32)) (b := (1 : Int32)) (Wj := fun vj => W p l e (k2_rm 6 142) s m args below meth c H locs 0 0 Q (F0 m 42 ls [.int vj])) (fun k6a k6b => ?_) ?_
    · refine lv_if_eq (tgt := 41) hx hb dX7_takes_34 (by decide) (fun c5 => ?_) (fun c5 => ?_)
      · refine lv_iconst (v := 0) hx hb dX7_takes_41 (by decide) ?_
        exact k6a c5
      · refine lv_iconst (v := 1) hx hb dX7_takes_37 (by decide) ?_
        refine lv_goto (tgt := 42) hx hb dX7_takes_38 (by decide) ?_
        exact k6b c5
    · show W p l e (k2_rm 6 142) s m args below meth c H locs 0 0 Q (F0 m 42 ls [.int (if r4 = 0 then (0 : Int32) else (1 : Int32))])
      obtain ⟨h1, h⟩ := Prod.mk.inj (Option.some.inj h)
      obtain ⟨rfl, rfl⟩ := Prod.mk.inj h
      exact hret _ _ _ _ _ dX7_takes_42 h1 hP hD hS
