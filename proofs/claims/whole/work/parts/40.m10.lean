def FL_X8_feed_44  : Nat → SI → SJ → Int32 → Int64 → Int32 → Option (Int32 × SI × SJ)
  | 0, _, _, _, _, _ => none
  | n + 1, I, J, w1_44, w2_44, w5_44 => (if w1_44 ≤ w5_44 then (some ((I 0 14), I, J)) else (if gin (I 0 14) 64 = true then (FL_X8_feed_44 n (u2 (u1 I 8 (upd (I 8) (Int32.toNatClampNeg (I 0 14)) (Int64.toInt32 ((w2_44 >>> (Int32.toInt64 ((8 : Int32) * w5_44) &&& 63)) &&& (255 : Int64))))) 0 14 (((u1 I 8 (upd (I 8) (Int32.toNatClampNeg (I 0 14)) (Int64.toInt32 ((w2_44 >>> (Int32.toInt64 ((8 : Int32) * w5_44) &&& 63)) &&& (255 : Int64))))) 0 14) + (1 : Int32))) J w1_44 w2_44 (w5_44 + 1)) else none))
def F_X8_feed (I : SI) (J : SJ) (v1 : Int32) (v2 : Int64) : Option (Int32 × SI × SJ) := ((F_X8_bound v1 (1 : Int32) (8 : Int32)).bind fun r1 => (if r1 = 0 then (if ((I 0 14) + v1) ≤ (64 : Int32) then (if r1 = 0 then (FL_X8_feed_44 3000 I J v1 v2 (0 : Int32)) else ((F_X8_no I J r1).bind fun (r9, I9, J9) => (some (r9, I9, J9)))) else (if (-6 : Int32) = 0 then (FL_X8_feed_44 3000 I J v1 v2 (0 : Int32)) else ((F_X8_no I J (-6 : Int32)).bind fun (r11, I11, J11) => (some (r11, I11, J11))))) else (if r1 = 0 then (FL_X8_feed_44 3000 I J v1 v2 (0 : Int32)) else ((F_X8_no I J r1).bind fun (r6, I6, J6) => (some (r6, I6, J6))))))
set_option maxHeartbeats 4000000 in
set_option maxRecDepth 100000 in
theorem c_X8_feed (l : Launch) (g : Gx) (ad : Nat → Nat) (I : SI) (J : SJ) (v1 : Int32) (v2 : Int64)  (sz : Nat) {r : Int32} {rI : SI} {rJ : SJ} (h : F_X8_feed I J v1 v2 = some (r, rI, rJ)) : Met l yX8_feed (Cond.code yX8_feed cX8_feed 6 (some .int) :: BG) (k2_rm 1 22) (PcW [.ref (ad 0), .int v1, .long v2] g (mW ad g I J) sz) (QWi r g (mW ad g I J) (mW ad g rI rJ) sz) 0 0 (va_A (mW ad g I J) sz) := by
  refine mkWi (by decide) (Nat.le_of_ble_eq_true rfl) ?_
  intro p e s m args below meth c H locs ls A Q hC hK hP hD hA hS hl hret
  have hx := hC.1
  have hb := hC.2.1
  have hts := hC.2.2.2.2
  have hown := hC.2.2.2.1
  replace hl : lv_has ls 6 [(0, .ref (ad 0)), (1, .int v1), (2, .long v2)] := hl
  have loop_44 : ∀ (n : Nat) (I : SI) (J : SJ) (w1_44 : Int32) (w2_44 : Int64) (w5_44 : Int32)  (H : Heap) (locs : List Loc) (ls : Array Slot), FL_X8_feed_44 n I J w1_44 w2_44 w5_44 = some (r, rI, rJ) → Pg g (mW ad g I J) H → va_D A (mW ad g I J) → va_S A s.heap H locs → lv_has ls 6 [(0, .ref (ad 0)), (1, .int w1_44), (2, .long w2_44), (5, .int w5_44)] → W p l e (k2_rm 1 22) s m args below meth c H locs 0 0 Q (F0 m 44 ls []) := by
    intro n
    induction n with
    | zero =>
      intro I J w1_44 w2_44 w5_44 H locs ls h
      exact no h
    | succ n ih =>
      intro I J w1_44 w2_44 w5_44 H locs ls h hP hD hS hl
      rw [FL_X8_feed_44] at h
      refine lv_iload hx hb dX8_feed_44 (lv_at hl 3 rfl) ?_
      refine lv_iload_n hx hb dX8_feed_46 rfl (lv_at hl 1 rfl) ?_
      refine lv_icmp_ge (tgt := 87) hx hb dX8_feed_47 (by decide) (fun c4 => ?_) (fun c4 => ?_)
      · replace h := (if_pos c4).symm.trans h
        refine lv_aload_n hx hb dX8_feed_87 rfl (lv_at hl 0 rfl) ?_
        refine gt_X8_89 hC hK hP dX8_feed_88 ?_
        obtain ⟨h1, h⟩ := Prod.mk.inj (Option.some.inj h)
        obtain ⟨rfl, rfl⟩ := Prod.mk.inj h
        exact hret _ _ _ _ _ dX8_feed_91 h1 hP hD hS
      · replace h := (if_neg c4).symm.trans h
        refine lv_aload_n hx hb dX8_feed_50 rfl (lv_at hl 0 rfl) ?_
        refine gt_X8_31 hC hK hP dX8_feed_51 ?_
        refine lv_aload_n hx hb dX8_feed_54 rfl (lv_at hl 0 rfl) ?_
        refine gt_X8_89 hC hK hP dX8_feed_55 ?_
        refine lv_lload_n hx hb dX8_feed_58 rfl (lv_at hl 2 rfl) ?_
        refine lv_bipush (v := 8) hx hb dX8_feed_59 (by decide) ?_
        refine lv_iload hx hb dX8_feed_61 (lv_at hl 3 rfl) ?_
        refine lv_imul hx hb dX8_feed_63 ?_
        refine lv_lshr hx hb dX8_feed_64 rfl ?_
        refine lv_ldc2 hx hb hown (hts _ kc_X8_96) dX8_feed_65 ?_
        refine lv_land hx hb dX8_feed_68 ?_
        refine lv_l2i hx hb dX8_feed_69 rfl ?_
        obtain ⟨b5, h⟩ := og h
        refine as_m8 hC hK hP hD hS (gin_ok b5) dX8_feed_70 (fun H locs hP hD hS => ?_)
        refine lv_aload_n hx hb dX8_feed_71 rfl (lv_at hl 0 rfl) ?_
        refine lv_dup hx hb dX8_feed_72 rfl ?_
        refine gt_X8_89 hC hK hP dX8_feed_73 ?_
        refine lv_iconst (v := 1) hx hb dX8_feed_76 (by decide) ?_
        refine lv_iadd hx hb dX8_feed_77 ?_
        refine pt_X8_89 hC hK hP hD hS dX8_feed_78 (fun H locs hP hD hS => ?_)
        refine lv_iinc (v := (w5_44 + 1)) (lv' := [(5, .int (w5_44 + 1)), (0, .ref (ad 0)), (1, .int w1_44), (2, .long w2_44)]) hx hb dX8_feed_81 hl (k := 3) rfl rfl (by decide) rfl (fun ls hl => ?_)
        refine lv_goto (tgt := 44) hx hb dX8_feed_84 (by decide) ?_
        exact ih (u2 (u1 I 8 (upd (I 8) (Int32.toNatClampNeg (I 0 14)) (Int64.toInt32 ((w2_44 >>> (Int32.toInt64 ((8 : Int32) * w5_44) &&& 63)) &&& (255 : Int64))))) 0 14 (((u1 I 8 (upd (I 8) (Int32.toNatClampNeg (I 0 14)) (Int64.toInt32 ((w2_44 >>> (Int32.toInt64 ((8 : Int32) * w5_44) &&& 63)) &&& (255 : Int64))))) 0 14) + (1 : Int32))) J w1_44 w2_44 (w5_44 + 1) _ _ _ h hP hD hS (lv_sub hl [1, 2, 3, 0] rfl)
  unfold F_X8_feed at h
  refine lv_iload_n hx hb dX8_feed_0 rfl (lv_at hl 1 rfl) ?_
  refine lv_iconst (v := 1) hx hb dX8_feed_1 (by decide) ?_
  refine lv_bipush (v := 8) hx hb dX8_feed_2 (by decide) ?_
  obtain ⟨r1, hc1, h⟩ := ob h
  refine callRS (As := [.int v1, .int (1 : Int32), .int (8 : Int32)]) (rest := []) hC (c_X8_bound l g (mW ad g I J) v1 (1 : Int32) (8 : Int32) hc1) lk_X8_85 rfl rfl ⟨Nat.le_of_ble_eq_true rfl, Nat.le_of_ble_eq_true rfl⟩ hP hK rfl rfl hl (Nat.le_of_ble_eq_true rfl) dX8_feed_4 ?_
  refine lv_istore (lv' := [(4, .int r1), (0, .ref (ad 0)), (1, .int v1), (2, .long v2)]) hx hb dX8_feed_7 hl (by decide) rfl (fun ls hl => ?_)
  refine lv_iload hx hb dX8_feed_9 (lv_at hl 0 rfl) ?_
  refine lv_if_ne (tgt := 29) hx hb dX8_feed_11 (by decide) (fun c2 => ?_) (fun c2 => ?_)
  · replace h := (if_neg c2).symm.trans h
    refine lv_iload hx hb dX8_feed_29 (lv_at hl 0 rfl) ?_
    refine lv_if_eq (tgt := 41) hx hb dX8_feed_31 (by decide) (fun c3 => ?_) (fun c3 => ?_)
    · replace h := (if_pos c3).symm.trans h
      refine lv_iconst (v := 0) hx hb dX8_feed_41 (by decide) ?_
      refine lv_istore (lv' := [(5, .int (0 : Int32)), (4, .int r1), (0, .ref (ad 0)), (1, .int v1), (2, .long v2)]) hx hb dX8_feed_42 hl (by decide) rfl (fun ls hl => ?_)
      exact loop_44 3000 I J v1 v2 (0 : Int32) _ _ _ h hP hD hS (lv_sub hl [2, 3, 4, 0] rfl)
    · replace h := (if_neg c3).symm.trans h
      refine lv_aload_n hx hb dX8_feed_34 rfl (lv_at hl 1 rfl) ?_
      refine lv_iload hx hb dX8_feed_35 (lv_at hl 0 rfl) ?_
      obtain ⟨⟨r6, I6, J6⟩, hc6, h⟩ := ob h
      dsimp only at h
      refine callWVi (As := [.int r1]) (rest := []) hC (c_X8_no l g ad I J r1  H.size hc6) lk_X8_92 rfl rfl ⟨Nat.le_of_ble_eq_true rfl, Nat.le_of_ble_eq_true rfl⟩ hP hK hD hA hS mo_0 rfl rfl rfl hl (Nat.le_of_ble_eq_true rfl) dX8_feed_37 (fun H locs hP hD hS => ?_)
      obtain ⟨h1, h⟩ := Prod.mk.inj (Option.some.inj h)
      obtain ⟨rfl, rfl⟩ := Prod.mk.inj h
      exact hret _ _ _ _ _ dX8_feed_40 h1 hP hD hS
  · replace h := (if_pos c2).symm.trans h
    refine lv_aload_n hx hb dX8_feed_14 rfl (lv_at hl 1 rfl) ?_
    refine gt_X8_89 hC hK hP dX8_feed_15 ?_
    refine lv_iload_n hx hb dX8_feed_18 rfl (lv_at hl 2 rfl) ?_
    refine lv_iadd hx hb dX8_feed_19 ?_
    refine lv_bipush (v := 64) hx hb dX8_feed_20 (by decide) ?_
    refine lv_icmp_le (tgt := 29) hx hb dX8_feed_22 (by decide) (fun c7 => ?_) (fun c7 => ?_)
    · replace h := (if_pos c7).symm.trans h
      refine lv_iload hx hb dX8_feed_29 (lv_at hl 0 rfl) ?_
      refine lv_if_eq (tgt := 41) hx hb dX8_feed_31 (by decide) (fun c8 => ?_) (fun c8 => ?_)
      · replace h := (if_pos c8).symm.trans h
        refine lv_iconst (v := 0) hx hb dX8_feed_41 (by decide) ?_
        refine lv_istore (lv' := [(5, .int (0 : Int32)), (4, .int r1), (0, .ref (ad 0)), (1, .int v1), (2, .long v2)]) hx hb dX8_feed_42 hl (by decide) rfl (fun ls hl => ?_)
        exact loop_44 3000 I J v1 v2 (0 : Int32) _ _ _ h hP hD hS (lv_sub hl [2, 3, 4, 0] rfl)
      · replace h := (if_neg c8).symm.trans h
        refine lv_aload_n hx hb dX8_feed_34 rfl (lv_at hl 1 rfl) ?_
        refine lv_iload hx hb dX8_feed_35 (lv_at hl 0 rfl) ?_
        obtain ⟨⟨r9, I9, J9⟩, hc9, h⟩ := ob h
        dsimp only at h
        refine callWVi (As := [.int r1]) (rest := []) hC (c_X8_no l g ad I J r1  H.size hc9) lk_X8_92 rfl rfl ⟨Nat.le_of_ble_eq_true rfl, Nat.le_of_ble_eq_true rfl⟩ hP hK hD hA hS mo_0 rfl rfl rfl hl (Nat.le_of_ble_eq_true rfl) dX8_feed_37 (fun H locs hP hD hS => ?_)
        obtain ⟨h1, h⟩ := Prod.mk.inj (Option.some.inj h)
        obtain ⟨rfl, rfl⟩ := Prod.mk.inj h
        exact hret _ _ _ _ _ dX8_feed_40 h1 hP hD hS
    · replace h := (if_neg c7).symm.trans h
      refine lv_bipush (v := -6) hx hb dX8_feed_25 (by decide) ?_
      refine lv_istore (lv' := [(4, .int (-6 : Int32)), (0, .ref (ad 0)), (1, .int v1), (2, .long v2)]) hx hb dX8_feed_27 hl (by decide) rfl (fun ls hl => ?_)
      refine lv_iload hx hb dX8_feed_29 (lv_at hl 0 rfl) ?_
      refine lv_if_eq (tgt := 41) hx hb dX8_feed_31 (by decide) (fun c10 => ?_) (fun c10 => ?_)
      · replace h := (if_pos c10).symm.trans h
        refine lv_iconst (v := 0) hx hb dX8_feed_41 (by decide) ?_
        refine lv_istore (lv' := [(5, .int (0 : Int32)), (4, .int (-6 : Int32)), (0, .ref (ad 0)), (1, .int v1), (2, .long v2)]) hx hb dX8_feed_42 hl (by decide) rfl (fun ls hl => ?_)
        exact loop_44 3000 I J v1 v2 (0 : Int32) _ _ _ h hP hD hS (lv_sub hl [2, 3, 4, 0] rfl)
      · replace h := (if_neg c10).symm.trans h
        refine lv_aload_n hx hb dX8_feed_34 rfl (lv_at hl 1 rfl) ?_
        refine lv_iload hx hb dX8_feed_35 (lv_at hl 0 rfl) ?_
        obtain ⟨⟨r11, I11, J11⟩, hc11, h⟩ := ob h
        dsimp only at h
        refine callWVi (As := [.int (-6 : Int32)]) (rest := []) hC (c_X8_no l g ad I J (-6 : Int32)  H.size hc11) lk_X8_92 rfl rfl ⟨Nat.le_of_ble_eq_true rfl, Nat.le_of_ble_eq_true rfl⟩ hP hK hD hA hS mo_0 rfl rfl rfl hl (Nat.le_of_ble_eq_true rfl) dX8_feed_37 (fun H locs hP hD hS => ?_)
        obtain ⟨h1, h⟩ := Prod.mk.inj (Option.some.inj h)
        obtain ⟨rfl, rfl⟩ := Prod.mk.inj h
        exact hret _ _ _ _ _ dX8_feed_40 h1 hP hD hS
def F_X8_nextByte (I : SI) (J : SJ) : Option (Int32) := (if (I 0 14) ≤ (I 0 15) then (some (-1 : Int32)) else (if gin (I 0 15) 64 = true then (some (I 8 (Int32.toNatClampNeg (I 0 15)))) else none))
set_option maxHeartbeats 4000000 in
set_option maxRecDepth 100000 in
theorem c_X8_nextByte (l : Launch) (g : Gx) (ad : Nat → Nat) (I : SI) (J : SJ)   {r : Int32} (h : F_X8_nextByte I J = some r) : Met l yX8_nextByte (Cond.code yX8_nextByte cX8_nextByte 1 (some .int) :: BG) (k2_rm 0 0) (va_Pc [.ref (ad 0)] (fun U => Pg g (mW ad g I J) U.heap ∧ Kg g U)) (k2_QcV (.int r)) 0 0 (fun _ => False) := by
  refine mkRi (by decide) (Nat.le_of_ble_eq_true rfl) ?_
  intro p e s m args below meth c H locs ls Q hC hK hP hl hret
  have hx := hC.1
  have hb := hC.2.1
  have hts := hC.2.2.2.2
  have hown := hC.2.2.2.1
  replace hl : lv_has ls 1 [(0, .ref (ad 0))] := hl
  unfold F_X8_nextByte at h
  refine lv_aload_n hx hb dX8_nextByte_0 rfl (lv_at hl 0 rfl) ?_
  refine gt_X8_98 hC hK hP dX8_nextByte_1 ?_
  refine lv_aload_n hx hb dX8_nextByte_4 rfl (lv_at hl 0 rfl) ?_
  refine gt_X8_89 hC hK hP dX8_nextByte_5 ?_
  refine lv_icmp_ge (tgt := 23) hx hb dX8_nextByte_8 (by decide) (fun c1 => ?_) (fun c1 => ?_)
  · replace h := (if_pos c1).symm.trans h
    refine lv_iconst (v := -1) hx hb dX8_nextByte_23 (by decide) ?_
    exact hret _ _ _ dX8_nextByte_24 (Option.some.inj h)
  · replace h := (if_neg c1).symm.trans h
    refine lv_aload_n hx hb dX8_nextByte_11 rfl (lv_at hl 0 rfl) ?_
    refine gt_X8_31 hC hK hP dX8_nextByte_12 ?_
    refine lv_aload_n hx hb dX8_nextByte_15 rfl (lv_at hl 0 rfl) ?_
    refine gt_X8_98 hC hK hP dX8_nextByte_16 ?_
    obtain ⟨b2, h⟩ := og h
    refine al_m8 hC hK hP (gin_ok b2) dX8_nextByte_19 ?_
    refine lv_goto (tgt := 24) hx hb dX8_nextByte_20 (by decide) ?_
    exact hret _ _ _ dX8_nextByte_24 (Option.some.inj h)
def F_X8_isNext (I : SI) (J : SJ) (v1 : Int32) : Option (Int32 × SI × SJ) := ((F_X8_nextByte I J).bind fun r1 => (if r1 = v1 then (some ((1 : Int32), (u2 I 0 15 ((I 0 15) + (1 : Int32))), J)) else (some ((0 : Int32), I, J))))
set_option maxHeartbeats 4000000 in
set_option maxRecDepth 100000 in
theorem c_X8_isNext (l : Launch) (g : Gx) (ad : Nat → Nat) (I : SI) (J : SJ) (v1 : Int32)  (sz : Nat) {r : Int32} {rI : SI} {rJ : SJ} (h : F_X8_isNext I J v1 = some (r, rI, rJ)) : Met l yX8_isNext (Cond.code yX8_isNext cX8_isNext 2 (some .boolean) :: BG) (k2_rm 1 20) (PcW [.ref (ad 0), .int v1] g (mW ad g I J) sz) (QWi r g (mW ad g I J) (mW ad g rI rJ) sz) 0 0 (va_A (mW ad g I J) sz) := by
  refine mkWz (by decide) (Nat.le_of_ble_eq_true rfl) ?_
  intro p e s m args below meth c H locs ls A Q hC hK hP hD hA hS hl hret
  have hx := hC.1
  have hb := hC.2.1
  have hts := hC.2.2.2.2
  have hown := hC.2.2.2.1
  replace hl : lv_has ls 2 [(0, .ref (ad 0)), (1, .int v1)] := hl
  unfold F_X8_isNext at h
  refine lv_aload_n hx hb dX8_isNext_0 rfl (lv_at hl 0 rfl) ?_
  obtain ⟨r1, hc1, h⟩ := ob h
  refine callRV (As := []) (rest := []) hC (c_X8_nextByte l g ad I J   hc1) lk_X8_101 rfl rfl ⟨Nat.le_of_ble_eq_true rfl, Nat.le_of_ble_eq_true rfl⟩ hP hK mo_0 rfl rfl rfl hl (Nat.le_of_ble_eq_true rfl) dX8_isNext_1 ?_
  refine lv_iload_n hx hb dX8_isNext_4 rfl (lv_at hl 1 rfl) ?_
  refine lv_icmp_eq (tgt := 10) hx hb dX8_isNext_5 (by decide) (fun c2 => ?_) (fun c2 => ?_)
  · replace h := (if_pos c2).symm.trans h
    refine lv_aload_n hx hb dX8_isNext_10 rfl (lv_at hl 0 rfl) ?_
    refine lv_dup hx hb dX8_isNext_11 rfl ?_
    refine gt_X8_98 hC hK hP dX8_isNext_12 ?_
    refine lv_iconst (v := 1) hx hb dX8_isNext_15 (by decide) ?_
    refine lv_iadd hx hb dX8_isNext_16 ?_
    refine pt_X8_98 hC hK hP hD hS dX8_isNext_17 (fun H locs hP hD hS => ?_)
    refine lv_iconst (v := 1) hx hb dX8_isNext_20 (by decide) ?_
    obtain ⟨h1, h⟩ := Prod.mk.inj (Option.some.inj h)
    obtain ⟨rfl, rfl⟩ := Prod.mk.inj h
    exact hret _ _ _ _ _ dX8_isNext_21 rfl h1 hP hD hS
  · replace h := (if_neg c2).symm.trans h
    refine lv_iconst (v := 0) hx hb dX8_isNext_8 (by decide) ?_
    obtain ⟨h1, h⟩ := Prod.mk.inj (Option.some.inj h)
    obtain ⟨rfl, rfl⟩ := Prod.mk.inj h
    exact hret _ _ _ _ _ dX8_isNext_9 rfl h1 hP hD hS
def FL_X8_number_36  : Nat → SI → SJ → Int32 → Int32 → Option (Int32 × SI × SJ)
  | 0, _, _, _, _ => none
  | n + 1, I, J, w1_36, w2_36 => (if (3 : Int32) ≤ w2_36 then (some (w1_36, I, J)) else (if w1_36 ≤ 0 then (some (w1_36, I, J)) else ((F_X8_nextByte I J).bind fun r7 => ((F_X8_isIn r7 (48 : Int32) (57 : Int32)).bind fun r8 => (if r8 = 0 then (some (w1_36, I, J)) else ((F_X8_nextByte I J).bind fun r10 => (FL_X8_number_36 n (u2 I 0 15 ((I 0 15) + (1 : Int32))) J ((((10 : Int32) * w1_36) + r10) - (48 : Int32)) (w2_36 + 1))))))))
def F_X8_number (I : SI) (J : SJ) : Option (Int32 × SI × SJ) := ((F_X8_nextByte I J).bind fun r1 => ((F_X8_isIn r1 (48 : Int32) (57 : Int32)).bind fun r2 => (if r2 = 0 then (some ((-1 : Int32), I, J)) else ((F_X8_nextByte I J).bind fun r4 => (FL_X8_number_36 3000 (u2 I 0 15 ((I 0 15) + (1 : Int32))) J (r4 - (48 : Int32)) (1 : Int32))))))
set_option maxHeartbeats 4000000 in
set_option maxRecDepth 100000 in
theorem c_X8_number (l : Launch) (g : Gx) (ad : Nat → Nat) (I : SI) (J : SJ)   (sz : Nat) {r : Int32} {rI : SI} {rJ : SJ} (h : F_X8_number I J = some (r, rI, rJ)) : Met l yX8_number (Cond.code yX8_number cX8_number 3 (some .int) :: BG) (k2_rm 1 22) (PcW [.ref (ad 0)] g (mW ad g I J) sz) (QWi r g (mW ad g I J) (mW ad g rI rJ) sz) 0 0 (va_A (mW ad g I J) sz) := by
  refine mkWi (by decide) (Nat.le_of_ble_eq_true rfl) ?_
  intro p e s m args below meth c H locs ls A Q hC hK hP hD hA hS hl hret
  have hx := hC.1
  have hb := hC.2.1
  have hts := hC.2.2.2.2
  have hown := hC.2.2.2.1
  replace hl : lv_has ls 3 [(0, .ref (ad 0))] := hl
  have loop_36 : ∀ (n : Nat) (I : SI) (J : SJ) (w1_36 : Int32) (w2_36 : Int32)  (H : Heap) (locs : List Loc) (ls : Array Slot), FL_X8_number_36 n I J w1_36 w2_36 = some (r, rI, rJ) → Pg g (mW ad g I J) H → va_D A (mW ad g I J) → va_S A s.heap H locs → lv_has ls 3 [(0, .ref (ad 0)), (1, .int w1_36), (2, .int w2_36)] → W p l e (k2_rm 1 22) s m args below meth c H locs 0 0 Q (F0 m 36 ls []) := by
    intro n
    induction n with
    | zero =>
      intro I J w1_36 w2_36 H locs ls h
      exact no h
    | succ n ih =>
      intro I J w1_36 w2_36 H locs ls h hP hD hS hl
      rw [FL_X8_number_36] at h
      refine lv_iload_n hx hb dX8_number_36 rfl (lv_at hl 2 rfl) ?_
      refine lv_iconst (v := 3) hx hb dX8_number_37 (by decide) ?_
      refine lv_icmp_ge (tgt := 88) hx hb dX8_number_38 (by decide) (fun c5 => ?_) (fun c5 => ?_)
      · replace h := (if_pos c5).symm.trans h
        refine lv_iload_n hx hb dX8_number_88 rfl (lv_at hl 1 rfl) ?_
        obtain ⟨h1, h⟩ := Prod.mk.inj (Option.some.inj h)
        obtain ⟨rfl, rfl⟩ := Prod.mk.inj h
        exact hret _ _ _ _ _ dX8_number_89 h1 hP hD hS
      · replace h := (if_neg c5).symm.trans h
        refine lv_iload_n hx hb dX8_number_41 rfl (lv_at hl 1 rfl) ?_
        refine lv_if_le (tgt := 88) hx hb dX8_number_42 (by decide) (fun c6 => ?_) (fun c6 => ?_)
        · replace h := (if_pos c6).symm.trans h
          refine lv_iload_n hx hb dX8_number_88 rfl (lv_at hl 1 rfl) ?_
          obtain ⟨h1, h⟩ := Prod.mk.inj (Option.some.inj h)
          obtain ⟨rfl, rfl⟩ := Prod.mk.inj h
          exact hret _ _ _ _ _ dX8_number_89 h1 hP hD hS
        · replace h := (if_neg c6).symm.trans h
          refine lv_aload_n hx hb dX8_number_45 rfl (lv_at hl 0 rfl) ?_
          obtain ⟨r7, hc7, h⟩ := ob h
          refine callRV (As := []) (rest := []) hC (c_X8_nextByte l g ad I J   hc7) lk_X8_101 rfl rfl ⟨Nat.le_of_ble_eq_true rfl, Nat.le_of_ble_eq_true rfl⟩ hP hK mo_0 rfl rfl rfl hl (Nat.le_of_ble_eq_true rfl) dX8_number_46 ?_
          refine lv_bipush (v := 48) hx hb dX8_number_49 (by decide) ?_
          refine lv_bipush (v := 57) hx hb dX8_number_51 (by decide) ?_
          obtain ⟨r8, hc8, h⟩ := ob h
          refine callRS (As := [.int r7, .int (48 : Int32), .int (57 : Int32)]) (rest := []) hC (c_X8_isIn l g (mW ad g I J) r7 (48 : Int32) (57 : Int32) hc8) lk_X8_104 rfl rfl ⟨Nat.le_of_ble_eq_true rfl, Nat.le_of_ble_eq_true rfl⟩ hP hK rfl rfl hl (Nat.le_of_ble_eq_true rfl) dX8_number_53 ?_
          refine lv_if_eq (tgt := 88) hx hb dX8_number_56 (by decide) (fun c9 => ?_) (fun c9 => ?_)
          · replace h := (if_pos c9).symm.trans h
            refine lv_iload_n hx hb dX8_number_88 rfl (lv_at hl 1 rfl) ?_
            obtain ⟨h1, h⟩ := Prod.mk.inj (Option.some.inj h)
            obtain ⟨rfl, rfl⟩ := Prod.mk.inj h
            exact hret _ _ _ _ _ dX8_number_89 h1 hP hD hS
          · replace h := (if_neg c9).symm.trans h
            refine lv_bipush (v := 10) hx hb dX8_number_59 (by decide) ?_
            refine lv_iload_n hx hb dX8_number_61 rfl (lv_at hl 1 rfl) ?_
            refine lv_imul hx hb dX8_number_62 ?_
            refine lv_aload_n hx hb dX8_number_63 rfl (lv_at hl 0 rfl) ?_
            obtain ⟨r10, hc10, h⟩ := ob h
            refine callRV (As := []) (rest := [.int ((10 : Int32) * w1_36)]) hC (c_X8_nextByte l g ad I J   hc10) lk_X8_101 rfl rfl ⟨Nat.le_of_ble_eq_true rfl, Nat.le_of_ble_eq_true rfl⟩ hP hK mo_0 rfl rfl rfl hl (Nat.le_of_ble_eq_true rfl) dX8_number_64 ?_
            refine lv_iadd hx hb dX8_number_67 ?_
            refine lv_bipush (v := 48) hx hb dX8_number_68 (by decide) ?_
            refine lv_isub hx hb dX8_number_70 ?_
            refine lv_istore_n (lv' := [(1, .int ((((10 : Int32) * w1_36) + r10) - (48 : Int32))), (0, .ref (ad 0)), (2, .int w2_36)]) hx hb dX8_number_71 rfl hl (by decide) rfl (fun ls hl => ?_)
            refine lv_aload_n hx hb dX8_number_72 rfl (lv_at hl 1 rfl) ?_
            refine lv_dup hx hb dX8_number_73 rfl ?_
            refine gt_X8_98 hC hK hP dX8_number_74 ?_
            refine lv_iconst (v := 1) hx hb dX8_number_77 (by decide) ?_
            refine lv_iadd hx hb dX8_number_78 ?_
            refine pt_X8_98 hC hK hP hD hS dX8_number_79 (fun H locs hP hD hS => ?_)
            refine lv_iinc (v := (w2_36 + 1)) (lv' := [(2, .int (w2_36 + 1)), (1, .int ((((10 : Int32) * w1_36) + r10) - (48 : Int32))), (0, .ref (ad 0))]) hx hb dX8_number_82 hl (k := 2) rfl rfl (by decide) rfl (fun ls hl => ?_)
            refine lv_goto (tgt := 36) hx hb dX8_number_85 (by decide) ?_
            exact ih (u2 I 0 15 ((I 0 15) + (1 : Int32))) J ((((10 : Int32) * w1_36) + r10) - (48 : Int32)) (w2_36 + 1) _ _ _ h hP hD hS (lv_sub hl [2, 1, 0] rfl)
  unfold F_X8_number at h
  refine lv_aload_n hx hb dX8_number_0 rfl (lv_at hl 0 rfl) ?_
  obtain ⟨r1, hc1, h⟩ := ob h
  refine callRV (As := []) (rest := []) hC (c_X8_nextByte l g ad I J   hc1) lk_X8_101 rfl rfl ⟨Nat.le_of_ble_eq_true rfl, Nat.le_of_ble_eq_true rfl⟩ hP hK mo_0 rfl rfl rfl hl (Nat.le_of_ble_eq_true rfl) dX8_number_1 ?_
  refine lv_bipush (v := 48) hx hb dX8_number_4 (by decide) ?_
  refine lv_bipush (v := 57) hx hb dX8_number_6 (by decide) ?_
  obtain ⟨r2, hc2, h⟩ := ob h
  refine callRS (As := [.int r1, .int (48 : Int32), .int (57 : Int32)]) (rest := []) hC (c_X8_isIn l g (mW ad g I J) r1 (48 : Int32) (57 : Int32) hc2) lk_X8_104 rfl rfl ⟨Nat.le_of_ble_eq_true rfl, Nat.le_of_ble_eq_true rfl⟩ hP hK rfl rfl hl (Nat.le_of_ble_eq_true rfl) dX8_number_8 ?_
  refine lv_if_ne (tgt := 16) hx hb dX8_number_11 (by decide) (fun c3 => ?_) (fun c3 => ?_)
  · replace h := (if_neg c3).symm.trans h
    refine lv_aload_n hx hb dX8_number_16 rfl (lv_at hl 0 rfl) ?_
    obtain ⟨r4, hc4, h⟩ := ob h
    refine callRV (As := []) (rest := []) hC (c_X8_nextByte l g ad I J   hc4) lk_X8_101 rfl rfl ⟨Nat.le_of_ble_eq_true rfl, Nat.le_of_ble_eq_true rfl⟩ hP hK mo_0 rfl rfl rfl hl (Nat.le_of_ble_eq_true rfl) dX8_number_17 ?_
    refine lv_bipush (v := 48) hx hb dX8_number_20 (by decide) ?_
    refine lv_isub hx hb dX8_number_22 ?_
    refine lv_istore_n (lv' := [(1, .int (r4 - (48 : Int32))), (0, .ref (ad 0))]) hx hb dX8_number_23 rfl hl (by decide) rfl (fun ls hl => ?_)
    refine lv_aload_n hx hb dX8_number_24 rfl (lv_at hl 1 rfl) ?_
    refine lv_dup hx hb dX8_number_25 rfl ?_
    refine gt_X8_98 hC hK hP dX8_number_26 ?_
    refine lv_iconst (v := 1) hx hb dX8_number_29 (by decide) ?_
    refine lv_iadd hx hb dX8_number_30 ?_
    refine pt_X8_98 hC hK hP hD hS dX8_number_31 (fun H locs hP hD hS => ?_)
    refine lv_iconst (v := 1) hx hb dX8_number_34 (by decide) ?_
    refine lv_istore_n (lv' := [(2, .int (1 : Int32)), (1, .int (r4 - (48 : Int32))), (0, .ref (ad 0))]) hx hb dX8_number_35 rfl hl (by decide) rfl (fun ls hl => ?_)
    exact loop_36 3000 (u2 I 0 15 ((I 0 15) + (1 : Int32))) J (r4 - (48 : Int32)) (1 : Int32) _ _ _ h hP hD hS (lv_sub hl [2, 1, 0] rfl)
  · replace h := (if_pos c3).symm.trans h
    refine lv_iconst (v := -1) hx hb dX8_number_14 (by decide) ?_
    obtain ⟨h1, h⟩ := Prod.mk.inj (Option.some.inj h)
    obtain ⟨rfl, rfl⟩ := Prod.mk.inj h
    exact hret _ _ _ _ _ dX8_number_15 h1 hP hD hS
def F_X8_hasTwo (v1 : Int32) : Option (Int32) := (if v1 = (112 : Int32) then (some (1 : Int32)) else (if v1 = (119 : Int32) then (some (1 : Int32)) else (if v1 = (109 : Int32) then (some (1 : Int32)) else (if v1 = (101 : Int32) then (some (1 : Int32)) else (if v1 = (115 : Int32) then (some (1 : Int32)) else (some (0 : Int32)))))))
set_option maxHeartbeats 4000000 in
set_option maxRecDepth 100000 in
theorem c_X8_hasTwo (l : Launch) (g : Gx) (ws : va_W) (v1 : Int32)  {r : Int32} (h : F_X8_hasTwo v1 = some r) : Met l yX8_hasTwo (Cond.code yX8_hasTwo cX8_hasTwo 1 (some .boolean) :: BG) (k2_rm 0 0) (va_Pc [.int v1] (fun U => Pg g ws U.heap ∧ Kg g U)) (k2_QcV (.int r)) 0 0 (fun _ => False) := by
  refine mkRz (by decide) (Nat.le_of_ble_eq_true rfl) ?_
  intro p e s m args below meth c H locs ls Q hC hK hP hl hret
  have hx := hC.1
  have hb := hC.2.1
  have hts := hC.2.2.2.2
  have hown := hC.2.2.2.1
  replace hl : lv_has ls 1 [(0, .int v1)] := hl
  unfold F_X8_hasTwo at h
  refine lv_iload_n hx hb dX8_hasTwo_0 rfl (lv_at hl 0 rfl) ?_
  refine lv_bipush (v := 112) hx hb dX8_hasTwo_1 (by decide) ?_
  refine lv_icmp_eq (tgt := 30) hx hb dX8_hasTwo_3 (by decide) (fun c1 => ?_) (fun c1 => ?_)
  · replace h := (if_pos c1).symm.trans h
    refine lv_iconst (v := 1) hx hb dX8_hasTwo_30 (by decide) ?_
    refine lv_goto (tgt := 35) hx hb dX8_hasTwo_31 (by decide) ?_
    exact hret _ _ _ dX8_hasTwo_35 rfl (Option.some.inj h)
  · replace h := (if_neg c1).symm.trans h
    refine lv_iload_n hx hb dX8_hasTwo_6 rfl (lv_at hl 0 rfl) ?_
    refine lv_bipush (v := 119) hx hb dX8_hasTwo_7 (by decide) ?_
    refine lv_icmp_eq (tgt := 30) hx hb dX8_hasTwo_9 (by decide) (fun c2 => ?_) (fun c2 => ?_)
    · replace h := (if_pos c2).symm.trans h
      refine lv_iconst (v := 1) hx hb dX8_hasTwo_30 (by decide) ?_
      refine lv_goto (tgt := 35) hx hb dX8_hasTwo_31 (by decide) ?_
      exact hret _ _ _ dX8_hasTwo_35 rfl (Option.some.inj h)
    · replace h := (if_neg c2).symm.trans h
      refine lv_iload_n hx hb dX8_hasTwo_12 rfl (lv_at hl 0 rfl) ?_
      refine lv_bipush (v := 109) hx hb dX8_hasTwo_13 (by decide) ?_
      refine lv_icmp_eq (tgt := 30) hx hb dX8_hasTwo_15 (by decide) (fun c3 => ?_) (fun c3 => ?_)
      · replace h := (if_pos c3).symm.trans h
        refine lv_iconst (v := 1) hx hb dX8_hasTwo_30 (by decide) ?_
        refine lv_goto (tgt := 35) hx hb dX8_hasTwo_31 (by decide) ?_
        exact hret _ _ _ dX8_hasTwo_35 rfl (Option.some.inj h)
      · replace h := (if_neg c3).symm.trans h
        refine lv_iload_n hx hb dX8_hasTwo_18 rfl (lv_at hl 0 rfl) ?_
        refine lv_bipush (v := 101) hx hb dX8_hasTwo_19 (by decide) ?_
        refine lv_icmp_eq (tgt := 30) hx hb dX8_hasTwo_21 (by decide) (fun c4 => ?_) (fun c4 => ?_)
        · replace h := (if_pos c4).symm.trans h
          refine lv_iconst (v := 1) hx hb dX8_hasTwo_30 (by decide) ?_
          refine lv_goto (tgt := 35) hx hb dX8_hasTwo_31 (by decide) ?_
          exact hret _ _ _ dX8_hasTwo_35 rfl (Option.some.inj h)
        · replace h := (if_neg c4).symm.trans h
          refine lv_iload_n hx hb dX8_hasTwo_24 rfl (lv_at hl 0 rfl) ?_
          refine lv_bipush (v := 115) hx hb dX8_hasTwo_25 (by decide) ?_
          refine lv_icmp_ne (tgt := 34) hx hb dX8_hasTwo_27 (by decide) (fun c5 => ?_) (fun c5 => ?_)
          · replace h := (if_neg c5).symm.trans h
            refine lv_iconst (v := 0) hx hb dX8_hasTwo_34 (by decide) ?_
            exact hret _ _ _ dX8_hasTwo_35 rfl (Option.some.inj h)
          · replace h := (if_pos c5).symm.trans h
            refine lv_iconst (v := 1) hx hb dX8_hasTwo_30 (by decide) ?_
            refine lv_goto (tgt := 35) hx hb dX8_hasTwo_31 (by decide) ?_
            exact hret _ _ _ dX8_hasTwo_35 rfl (Option.some.inj h)
def F_X8_statement (I : SI) (J : SJ) : Option (Int32 × SI × SJ) := ((F_X8_nextByte I J).bind fun r1 => (if r1 = (103 : Int32) then (if gin (I 0 16) 32 = true then (if gin (I 0 16) 32 = true then ((F_X8_number (u2 (u1 (u1 I 9 (upd (I 9) (Int32.toNatClampNeg (I 0 16)) r1)) 10 (upd ((u1 I 9 (upd (I 9) (Int32.toNatClampNeg (I 0 16)) r1)) 10) (Int32.toNatClampNeg (I 0 16)) ((u1 I 9 (upd (I 9) (Int32.toNatClampNeg (I 0 16)) r1)) 0 15))) 0 15 (((u1 (u1 I 9 (upd (I 9) (Int32.toNatClampNeg (I 0 16)) r1)) 10 (upd ((u1 I 9 (upd (I 9) (Int32.toNatClampNeg (I 0 16)) r1)) 10) (Int32.toNatClampNeg (I 0 16)) ((u1 I 9 (upd (I 9) (Int32.toNatClampNeg (I 0 16)) r1)) 0 15))) 0 15) + (1 : Int32))) J).bind fun (r5, I5, J5) => (if gin (I 0 16) 32 = true then (if gin (I 0 16) 32 = true then (if 0 ≤ ((u1 I5 11 (upd (I5 11) (Int32.toNatClampNeg (I 0 16)) r5)) 11 (Int32.toNatClampNeg (I 0 16))) then ((F_X8_hasTwo r1).bind fun r9 => (if r9 = 0 then ((F_X8_isNext (u1 I5 11 (upd (I5 11) (Int32.toNatClampNeg (I 0 16)) r5)) J5 (59 : Int32)).bind fun (r11, I11, J11) => (if gbo r11 = true then (some (r11, I11, J11)) else none)) else ((F_X8_isNext (u1 I5 11 (upd (I5 11) (Int32.toNatClampNeg (I 0 16)) r5)) J5 (44 : Int32)).bind fun (r13, I13, J13) => (if r13 = 0 then (some ((0 : Int32), I13, J13)) else ((F_X8_number I13 J13).bind fun (r15, I15, J15) => (if gin (I 0 16) 32 = true then (if gin (I 0 16) 32 = true then (if 0 ≤ ((u1 I15 12 (upd (I15 12) (Int32.toNatClampNeg (I 0 16)) r15)) 12 (Int32.toNatClampNeg (I 0 16))) then ((F_X8_isNext (u1 I15 12 (upd (I15 12) (Int32.toNatClampNeg (I 0 16)) r15)) J15 (59 : Int32)).bind fun (r19, I19, J19) => (if gbo r19 = true then (some (r19, I19, J19)) else none)) else (some ((0 : Int32), (u1 I15 12 (upd (I15 12) (Int32.toNatClampNeg (I 0 16)) r15)), J15))) else none) else none)))))) else (some ((0 : Int32), (u1 I5 11 (upd (I5 11) (Int32.toNatClampNeg (I 0 16)) r5)), J5))) else none) else none)) else none) else none) else (if r1 = (111 : Int32) then (if gin (I 0 16) 32 = true then (if gin (I 0 16) 32 = true then ((F_X8_number (u2 (u1 (u1 I 9 (upd (I 9) (Int32.toNatClampNeg (I 0 16)) r1)) 10 (upd ((u1 I 9 (upd (I 9) (Int32.toNatClampNeg (I 0 16)) r1)) 10) (Int32.toNatClampNeg (I 0 16)) ((u1 I 9 (upd (I 9) (Int32.toNatClampNeg (I 0 16)) r1)) 0 15))) 0 15 (((u1 (u1 I 9 (upd (I 9) (Int32.toNatClampNeg (I 0 16)) r1)) 10 (upd ((u1 I 9 (upd (I 9) (Int32.toNatClampNeg (I 0 16)) r1)) 10) (Int32.toNatClampNeg (I 0 16)) ((u1 I 9 (upd (I 9) (Int32.toNatClampNeg (I 0 16)) r1)) 0 15))) 0 15) + (1 : Int32))) J).bind fun (r24, I24, J24) => (if gin (I 0 16) 32 = true then (if gin (I 0 16) 32 = true then (if 0 ≤ ((u1 I24 11 (upd (I24 11) (Int32.toNatClampNeg (I 0 16)) r24)) 11 (Int32.toNatClampNeg (I 0 16))) then ((F_X8_hasTwo r1).bind fun r28 => (if r28 = 0 then ((F_X8_isNext (u1 I24 11 (upd (I24 11) (Int32.toNatClampNeg (I 0 16)) r24)) J24 (59 : Int32)).bind fun (r30, I30, J30) => (if gbo r30 = true then (some (r30, I30, J30)) else none)) else ((F_X8_isNext (u1 I24 11 (upd (I24 11) (Int32.toNatClampNeg (I 0 16)) r24)) J24 (44 : Int32)).bind fun (r32, I32, J32) => (if r32 = 0 then (some ((0 : Int32), I32, J32)) else ((F_X8_number I32 J32).bind fun (r34, I34, J34) => (if gin (I 0 16) 32 = true then (if gin (I 0 16) 32 = true then (if 0 ≤ ((u1 I34 12 (upd (I34 12) (Int32.toNatClampNeg (I 0 16)) r34)) 12 (Int32.toNatClampNeg (I 0 16))) then ((F_X8_isNext (u1 I34 12 (upd (I34 12) (Int32.toNatClampNeg (I 0 16)) r34)) J34 (59 : Int32)).bind fun (r38, I38, J38) => (if gbo r38 = true then (some (r38, I38, J38)) else none)) else (some ((0 : Int32), (u1 I34 12 (upd (I34 12) (Int32.toNatClampNeg (I 0 16)) r34)), J34))) else none) else none)))))) else (some ((0 : Int32), (u1 I24 11 (upd (I24 11) (Int32.toNatClampNeg (I 0 16)) r24)), J24))) else none) else none)) else none) else none) else ((F_X8_hasTwo r1).bind fun r40 => (if r40 = 0 then (some ((0 : Int32), I, J)) else (if gin (I 0 16) 32 = true then (if gin (I 0 16) 32 = true then ((F_X8_number (u2 (u1 (u1 I 9 (upd (I 9) (Int32.toNatClampNeg (I 0 16)) r1)) 10 (upd ((u1 I 9 (upd (I 9) (Int32.toNatClampNeg (I 0 16)) r1)) 10) (Int32.toNatClampNeg (I 0 16)) ((u1 I 9 (upd (I 9) (Int32.toNatClampNeg (I 0 16)) r1)) 0 15))) 0 15 (((u1 (u1 I 9 (upd (I 9) (Int32.toNatClampNeg (I 0 16)) r1)) 10 (upd ((u1 I 9 (upd (I 9) (Int32.toNatClampNeg (I 0 16)) r1)) 10) (Int32.toNatClampNeg (I 0 16)) ((u1 I 9 (upd (I 9) (Int32.toNatClampNeg (I 0 16)) r1)) 0 15))) 0 15) + (1 : Int32))) J).bind fun (r44, I44, J44) => (if gin (I 0 16) 32 = true then (if gin (I 0 16) 32 = true then (if 0 ≤ ((u1 I44 11 (upd (I44 11) (Int32.toNatClampNeg (I 0 16)) r44)) 11 (Int32.toNatClampNeg (I 0 16))) then ((F_X8_hasTwo r1).bind fun r48 => (if r48 = 0 then ((F_X8_isNext (u1 I44 11 (upd (I44 11) (Int32.toNatClampNeg (I 0 16)) r44)) J44 (59 : Int32)).bind fun (r50, I50, J50) => (if gbo r50 = true then (some (r50, I50, J50)) else none)) else ((F_X8_isNext (u1 I44 11 (upd (I44 11) (Int32.toNatClampNeg (I 0 16)) r44)) J44 (44 : Int32)).bind fun (r52, I52, J52) => (if r52 = 0 then (some ((0 : Int32), I52, J52)) else ((F_X8_number I52 J52).bind fun (r54, I54, J54) => (if gin (I 0 16) 32 = true then (if gin (I 0 16) 32 = true then (if 0 ≤ ((u1 I54 12 (upd (I54 12) (Int32.toNatClampNeg (I 0 16)) r54)) 12 (Int32.toNatClampNeg (I 0 16))) then ((F_X8_isNext (u1 I54 12 (upd (I54 12) (Int32.toNatClampNeg (I 0 16)) r54)) J54 (59 : Int32)).bind fun (r58, I58, J58) => (if gbo r58 = true then (some (r58, I58, J58)) else none)) else (some ((0 : Int32), (u1 I54 12 (upd (I54 12) (Int32.toNatClampNeg (I 0 16)) r54)), J54))) else none) else none)))))) else (some ((0 : Int32), (u1 I44 11 (upd (I44 11) (Int32.toNatClampNeg (I 0 16)) r44)), J44))) else none) else none)) else none) else none))))))
set_option maxHeartbeats 4000000 in
set_option maxRecDepth 100000 in
theorem c_X8_statement (l : Launch) (g : Gx) (ad : Nat → Nat) (I : SI) (J : SJ)   (sz : Nat) {r : Int32} {rI : SI} {rJ : SJ} (h : F_X8_statement I J = some (r, rI, rJ)) : Met l yX8_statement (Cond.code yX8_statement cX8_statement 3 (some .boolean) :: BG) (k2_rm 2 44) (PcW [.ref (ad 0)] g (mW ad g I J) sz) (QWi r g (mW ad g I J) (mW ad g rI rJ) sz) 0 0 (va_A (mW ad g I J) sz) := by
  refine mkWz (by decide) (Nat.le_of_ble_eq_true rfl) ?_
  intro p e s m args below meth c H locs ls A Q hC hK hP hD hA hS hl hret
  have hx := hC.1
  have hb := hC.2.1
  have hts := hC.2.2.2.2
  have hown := hC.2.2.2.1
  replace hl : lv_has ls 3 [(0, .ref (ad 0))] := hl
  unfold F_X8_statement at h
  refine lv_aload_n hx hb dX8_statement_0 rfl (lv_at hl 0 rfl) ?_
  obtain ⟨r1, hc1, h⟩ := ob h
  refine callRV (As := []) (rest := []) hC (c_X8_nextByte l g ad I J   hc1) lk_X8_101 rfl rfl ⟨Nat.le_of_ble_eq_true rfl, Nat.le_of_ble_eq_true rfl⟩ hP hK mo_0 rfl rfl rfl hl (Nat.le_of_ble_eq_true rfl) dX8_statement_1 ?_
  refine lv_istore_n (lv' := [(1, .int r1), (0, .ref (ad 0))]) hx hb dX8_statement_4 rfl hl (by decide) rfl (fun ls hl => ?_)
  refine lv_iload_n hx hb dX8_statement_5 rfl (lv_at hl 0 rfl) ?_
  refine lv_bipush (v := 103) hx hb dX8_statement_6 (by decide) ?_
  refine lv_icmp_eq (tgt := 26) hx hb dX8_statement_8 (by decide) (fun c2 => ?_) (fun c2 => ?_)
  · replace h := (if_pos c2).symm.trans h
    refine lv_aload_n hx hb dX8_statement_26 rfl (lv_at hl 1 rfl) ?_
    refine gt_X8_112 hC hK hP dX8_statement_27 ?_
    refine lv_istore_n (lv' := [(2, .int (I 0 16)), (1, .int r1), (0, .ref (ad 0))]) hx hb dX8_statement_30 rfl hl (by decide) rfl (fun ls hl => ?_)
    refine lv_aload_n hx hb dX8_statement_31 rfl (lv_at hl 2 rfl) ?_
    refine gt_X8_34 hC hK hP dX8_statement_32 ?_
    refine lv_iload_n hx hb dX8_statement_35 rfl (lv_at hl 0 rfl) ?_
    refine lv_iload_n hx hb dX8_statement_36 rfl (lv_at hl 1 rfl) ?_
    obtain ⟨b3, h⟩ := og h
    refine as_m9 hC hK hP hD hS (gin_ok b3) dX8_statement_37 (fun H locs hP hD hS => ?_)
    refine lv_aload_n hx hb dX8_statement_38 rfl (lv_at hl 2 rfl) ?_
    refine gt_X8_37 hC hK hP dX8_statement_39 ?_
    refine lv_iload_n hx hb dX8_statement_42 rfl (lv_at hl 0 rfl) ?_
    refine lv_aload_n hx hb dX8_statement_43 rfl (lv_at hl 2 rfl) ?_
    refine gt_X8_98 hC hK hP dX8_statement_44 ?_
    obtain ⟨b4, h⟩ := og h
    refine as_m10 hC hK hP hD hS (gin_ok b4) dX8_statement_47 (fun H locs hP hD hS => ?_)
    refine lv_aload_n hx hb dX8_statement_48 rfl (lv_at hl 2 rfl) ?_
    refine lv_dup hx hb dX8_statement_49 rfl ?_
    refine gt_X8_98 hC hK hP dX8_statement_50 ?_
    refine lv_iconst (v := 1) hx hb dX8_statement_53 (by decide) ?_
    refine lv_iadd hx hb dX8_statement_54 ?_
    refine pt_X8_98 hC hK hP hD hS dX8_statement_55 (fun H locs hP hD hS => ?_)
    refine lv_aload_n hx hb dX8_statement_58 rfl (lv_at hl 2 rfl) ?_
    refine gt_X8_40 hC hK hP dX8_statement_59 ?_
    refine lv_iload_n hx hb dX8_statement_62 rfl (lv_at hl 0 rfl) ?_
    refine lv_aload_n hx hb dX8_statement_63 rfl (lv_at hl 2 rfl) ?_
    obtain ⟨⟨r5, I5, J5⟩, hc5, h⟩ := ob h
    dsimp only at h
    refine callWVi (As := []) (rest := [.int (I 0 16), .ref (ad 11)]) hC (c_X8_number l g ad (u2 (u1 (u1 I 9 (upd (I 9) (Int32.toNatClampNeg (I 0 16)) r1)) 10 (upd ((u1 I 9 (upd (I 9) (Int32.toNatClampNeg (I 0 16)) r1)) 10) (Int32.toNatClampNeg (I 0 16)) ((u1 I 9 (upd (I 9) (Int32.toNatClampNeg (I 0 16)) r1)) 0 15))) 0 15 (((u1 (u1 I 9 (upd (I 9) (Int32.toNatClampNeg (I 0 16)) r1)) 10 (upd ((u1 I 9 (upd (I 9) (Int32.toNatClampNeg (I 0 16)) r1)) 10) (Int32.toNatClampNeg (I 0 16)) ((u1 I 9 (upd (I 9) (Int32.toNatClampNeg (I 0 16)) r1)) 0 15))) 0 15) + (1 : Int32))) J   H.size hc5) lk_X8_115 rfl rfl ⟨Nat.le_of_ble_eq_true rfl, Nat.le_of_ble_eq_true rfl⟩ hP hK hD hA hS mo_0 rfl rfl rfl hl (Nat.le_of_ble_eq_true rfl) dX8_statement_64 (fun H locs hP hD hS => ?_)
    obtain ⟨b6, h⟩ := og h
    refine as_m11 hC hK hP hD hS (gin_ok b6) dX8_statement_67 (fun H locs hP hD hS => ?_)
    refine lv_aload_n hx hb dX8_statement_68 rfl (lv_at hl 2 rfl) ?_
    refine gt_X8_40 hC hK hP dX8_statement_69 ?_
    refine lv_iload_n hx hb dX8_statement_72 rfl (lv_at hl 0 rfl) ?_
    obtain ⟨b7, h⟩ := og h
    refine al_m11 hC hK hP (gin_ok b7) dX8_statement_73 ?_
    refine lv_if_ge (tgt := 79) hx hb dX8_statement_74 (by decide) (fun c8 => ?_) (fun c8 => ?_)
    · replace h := (if_pos c8).symm.trans h
      refine lv_iload_n hx hb dX8_statement_79 rfl (lv_at hl 1 rfl) ?_
      obtain ⟨r9, hc9, h⟩ := ob h
      refine callRS (As := [.int r1]) (rest := []) hC (c_X8_hasTwo l g (mW ad g (u1 I5 11 (upd (I5 11) (Int32.toNatClampNeg (I 0 16)) r5)) J5) r1 hc9) lk_X8_108 rfl rfl ⟨Nat.le_of_ble_eq_true rfl, Nat.le_of_ble_eq_true rfl⟩ hP hK rfl rfl hl (Nat.le_of_ble_eq_true rfl) dX8_statement_80 ?_
      refine lv_if_eq (tgt := 118) hx hb dX8_statement_83 (by decide) (fun c10 => ?_) (fun c10 => ?_)
      · replace h := (if_pos c10).symm.trans h
        refine lv_aload_n hx hb dX8_statement_118 rfl (lv_at hl 2 rfl) ?_
        refine lv_bipush (v := 59) hx hb dX8_statement_119 (by decide) ?_
        obtain ⟨⟨r11, I11, J11⟩, hc11, h⟩ := ob h
        dsimp only at h
        refine callWVi (As := [.int (59 : Int32)]) (rest := []) hC (c_X8_isNext l g ad (u1 I5 11 (upd (I5 11) (Int32.toNatClampNeg (I 0 16)) r5)) J5 (59 : Int32)  H.size hc11) lk_X8_118 rfl rfl ⟨Nat.le_of_ble_eq_true rfl, Nat.le_of_ble_eq_true rfl⟩ hP hK hD hA hS mo_0 rfl rfl rfl hl (Nat.le_of_ble_eq_true rfl) dX8_statement_121 (fun H locs hP hD hS => ?_)
        obtain ⟨z12, h⟩ := og h
        obtain ⟨h1, h⟩ := Prod.mk.inj (Option.some.inj h)
        obtain ⟨rfl, rfl⟩ := Prod.mk.inj h
        exact hret _ _ _ _ _ dX8_statement_124 (gbo_ok z12).1 h1 hP hD hS
      · replace h := (if_neg c10).symm.trans h
        refine lv_aload_n hx hb dX8_statement_86 rfl (lv_at hl 2 rfl) ?_
        refine lv_bipush (v := 44) hx hb dX8_statement_87 (by decide) ?_
        obtain ⟨⟨r13, I13, J13⟩, hc13, h⟩ := ob h
        dsimp only at h
        refine callWVi (As := [.int (44 : Int32)]) (rest := []) hC (c_X8_isNext l g ad (u1 I5 11 (upd (I5 11) (Int32.toNatClampNeg (I 0 16)) r5)) J5 (44 : Int32)  H.size hc13) lk_X8_118 rfl rfl ⟨Nat.le_of_ble_eq_true rfl, Nat.le_of_ble_eq_true rfl⟩ hP hK hD hA hS mo_0 rfl rfl rfl hl (Nat.le_of_ble_eq_true rfl) dX8_statement_89 (fun H locs hP hD hS => ?_)
        refine lv_if_ne (tgt := 97) hx hb dX8_statement_92 (by decide) (fun c14 => ?_) (fun c14 => ?_)
        · replace h := (if_neg c14).symm.trans h
          refine lv_aload_n hx hb dX8_statement_97 rfl (lv_at hl 2 rfl) ?_
          refine gt_X8_43 hC hK hP dX8_statement_98 ?_
          refine lv_iload_n hx hb dX8_statement_101 rfl (lv_at hl 0 rfl) ?_
          refine lv_aload_n hx hb dX8_statement_102 rfl (lv_at hl 2 rfl) ?_
          obtain ⟨⟨r15, I15, J15⟩, hc15, h⟩ := ob h
          dsimp only at h
          refine callWVi (As := []) (rest := [.int (I 0 16), .ref (ad 12)]) hC (c_X8_number l g ad I13 J13   H.size hc15) lk_X8_115 rfl rfl ⟨Nat.le_of_ble_eq_true rfl, Nat.le_of_ble_eq_true rfl⟩ hP hK hD hA hS mo_0 rfl rfl rfl hl (Nat.le_of_ble_eq_true rfl) dX8_statement_103 (fun H locs hP hD hS => ?_)
          obtain ⟨b16, h⟩ := og h
          refine as_m12 hC hK hP hD hS (gin_ok b16) dX8_statement_106 (fun H locs hP hD hS => ?_)
          refine lv_aload_n hx hb dX8_statement_107 rfl (lv_at hl 2 rfl) ?_
          refine gt_X8_43 hC hK hP dX8_statement_108 ?_
          refine lv_iload_n hx hb dX8_statement_111 rfl (lv_at hl 0 rfl) ?_
          obtain ⟨b17, h⟩ := og h
          refine al_m12 hC hK hP (gin_ok b17) dX8_statement_112 ?_
          refine lv_if_ge (tgt := 118) hx hb dX8_statement_113 (by decide) (fun c18 => ?_) (fun c18 => ?_)
          · replace h := (if_pos c18).symm.trans h
            refine lv_aload_n hx hb dX8_statement_118 rfl (lv_at hl 2 rfl) ?_
            refine lv_bipush (v := 59) hx hb dX8_statement_119 (by decide) ?_
            obtain ⟨⟨r19, I19, J19⟩, hc19, h⟩ := ob h
            dsimp only at h
            refine callWVi (As := [.int (59 : Int32)]) (rest := []) hC (c_X8_isNext l g ad (u1 I15 12 (upd (I15 12) (Int32.toNatClampNeg (I 0 16)) r15)) J15 (59 : Int32)  H.size hc19) lk_X8_118 rfl rfl ⟨Nat.le_of_ble_eq_true rfl, Nat.le_of_ble_eq_true rfl⟩ hP hK hD hA hS mo_0 rfl rfl rfl hl (Nat.le_of_ble_eq_true rfl) dX8_statement_121 (fun H locs hP hD hS => ?_)
            obtain ⟨z20, h⟩ := og h
            obtain ⟨h1, h⟩ := Prod.mk.inj (Option.some.inj h)
            obtain ⟨rfl, rfl⟩ := Prod.mk.inj h
            exact hret _ _ _ _ _ dX8_statement_124 (gbo_ok z20).1 h1 hP hD hS
          · replace h := (if_neg c18).symm.trans h
            refine lv_iconst (v := 0) hx hb dX8_statement_116 (by decide) ?_
            obtain ⟨h1, h⟩ := Prod.mk.inj (Option.some.inj h)
            obtain ⟨rfl, rfl⟩ := Prod.mk.inj h
            exact hret _ _ _ _ _ dX8_statement_117 rfl h1 hP hD hS
        · replace h := (if_pos c14).symm.trans h
          refine lv_iconst (v := 0) hx hb dX8_statement_95 (by decide) ?_
          obtain ⟨h1, h⟩ := Prod.mk.inj (Option.some.inj h)
          obtain ⟨rfl, rfl⟩ := Prod.mk.inj h
          exact hret _ _ _ _ _ dX8_statement_96 rfl h1 hP hD hS
    · replace h := (if_neg c8).symm.trans h
      refine lv_iconst (v := 0) hx hb dX8_statement_77 (by decide) ?_
      obtain ⟨h1, h⟩ := Prod.mk.inj (Option.some.inj h)
      obtain ⟨rfl, rfl⟩ := Prod.mk.inj h
      exact hret _ _ _ _ _ dX8_statement_78 rfl h1 hP hD hS
  · replace h := (if_neg c2).symm.trans h
    refine lv_iload_n hx hb dX8_statement_11 rfl (lv_at hl 0 rfl) ?_
    refine lv_bipush (v := 111) hx hb dX8_statement_12 (by decide) ?_
    refine lv_icmp_eq (tgt := 26) hx hb dX8_statement_14 (by decide) (fun c21 => ?_) (fun c21 => ?_)
    · replace h := (if_pos c21).symm.trans h
      refine lv_aload_n hx hb dX8_statement_26 rfl (lv_at hl 1 rfl) ?_
      refine gt_X8_112 hC hK hP dX8_statement_27 ?_
      refine lv_istore_n (lv' := [(2, .int (I 0 16)), (1, .int r1), (0, .ref (ad 0))]) hx hb dX8_statement_30 rfl hl (by decide) rfl (fun ls hl => ?_)
      refine lv_aload_n hx hb dX8_statement_31 rfl (lv_at hl 2 rfl) ?_
      refine gt_X8_34 hC hK hP dX8_statement_32 ?_
      refine lv_iload_n hx hb dX8_statement_35 rfl (lv_at hl 0 rfl) ?_
      refine lv_iload_n hx hb dX8_statement_36 rfl (lv_at hl 1 rfl) ?_
      obtain ⟨b22, h⟩ := og h
      refine as_m9 hC hK hP hD hS (gin_ok b22) dX8_statement_37 (fun H locs hP hD hS => ?_)
      refine lv_aload_n hx hb dX8_statement_38 rfl (lv_at hl 2 rfl) ?_
      refine gt_X8_37 hC hK hP dX8_statement_39 ?_
      refine lv_iload_n hx hb dX8_statement_42 rfl (lv_at hl 0 rfl) ?_
      refine lv_aload_n hx hb dX8_statement_43 rfl (lv_at hl 2 rfl) ?_
      refine gt_X8_98 hC hK hP dX8_statement_44 ?_
      obtain ⟨b23, h⟩ := og h
      refine as_m10 hC hK hP hD hS (gin_ok b23) dX8_statement_47 (fun H locs hP hD hS => ?_)
      refine lv_aload_n hx hb dX8_statement_48 rfl (lv_at hl 2 rfl) ?_
      refine lv_dup hx hb dX8_statement_49 rfl ?_
      refine gt_X8_98 hC hK hP dX8_statement_50 ?_
      refine lv_iconst (v := 1) hx hb dX8_statement_53 (by decide) ?_
      refine lv_iadd hx hb dX8_statement_54 ?_
      refine pt_X8_98 hC hK hP hD hS dX8_statement_55 (fun H locs hP hD hS => ?_)
      refine lv_aload_n hx hb dX8_statement_58 rfl (lv_at hl 2 rfl) ?_
      refine gt_X8_40 hC hK hP dX8_statement_59 ?_
      refine lv_iload_n hx hb dX8_statement_62 rfl (lv_at hl 0 rfl) ?_
      refine lv_aload_n hx hb dX8_statement_63 rfl (lv_at hl 2 rfl) ?_
      obtain ⟨⟨r24, I24, J24⟩, hc24, h⟩ := ob h
      dsimp only at h
      refine callWVi (As := []) (rest := [.int (I 0 16), .ref (ad 11)]) hC (c_X8_number l g ad (u2 (u1 (u1 I 9 (upd (I 9) (Int32.toNatClampNeg (I 0 16)) r1)) 10 (upd ((u1 I 9 (upd (I 9) (Int32.toNatClampNeg (I 0 16)) r1)) 10) (Int32.toNatClampNeg (I 0 16)) ((u1 I 9 (upd (I 9) (Int32.toNatClampNeg (I 0 16)) r1)) 0 15))) 0 15 (((u1 (u1 I 9 (upd (I 9) (Int32.toNatClampNeg (I 0 16)) r1)) 10 (upd ((u1 I 9 (upd (I 9) (Int32.toNatClampNeg (I 0 16)) r1)) 10) (Int32.toNatClampNeg (I 0 16)) ((u1 I 9 (upd (I 9) (Int32.toNatClampNeg (I 0 16)) r1)) 0 15))) 0 15) + (1 : Int32))) J   H.size hc24) lk_X8_115 rfl rfl ⟨Nat.le_of_ble_eq_true rfl, Nat.le_of_ble_eq_true rfl⟩ hP hK hD hA hS mo_0 rfl rfl rfl hl (Nat.le_of_ble_eq_true rfl) dX8_statement_64 (fun H locs hP hD hS => ?_)
      obtain ⟨b25, h⟩ := og h
      refine as_m11 hC hK hP hD hS (gin_ok b25) dX8_statement_67 (fun H locs hP hD hS => ?_)
      refine lv_aload_n hx hb dX8_statement_68 rfl (lv_at hl 2 rfl) ?_
      refine gt_X8_40 hC hK hP dX8_statement_69 ?_
      refine lv_iload_n hx hb dX8_statement_72 rfl (lv_at hl 0 rfl) ?_
      obtain ⟨b26, h⟩ := og h
      refine al_m11 hC hK hP (gin_ok b26) dX8_statement_73 ?_
      refine lv_if_ge (tgt := 79) hx hb dX8_statement_74 (by decide) (fun c27 => ?_) (fun c27 => ?_)
      · replace h := (if_pos c27).symm.trans h
        refine lv_iload_n hx hb dX8_statement_79 rfl (lv_at hl 1 rfl) ?_
        obtain ⟨r28, hc28, h⟩ := ob h
        refine callRS (As := [.int r1]) (rest := []) hC (c_X8_hasTwo l g (mW ad g (u1 I24 11 (upd (I24 11) (Int32.toNatClampNeg (I 0 16)) r24)) J24) r1 hc28) lk_X8_108 rfl rfl ⟨Nat.le_of_ble_eq_true rfl, Nat.le_of_ble_eq_true rfl⟩ hP hK rfl rfl hl (Nat.le_of_ble_eq_true rfl) dX8_statement_80 ?_
        refine lv_if_eq (tgt := 118) hx hb dX8_statement_83 (by decide) (fun c29 => ?_) (fun c29 => ?_)
        · replace h := (if_pos c29).symm.trans h
          refine lv_aload_n hx hb dX8_statement_118 rfl (lv_at hl 2 rfl) ?_
          refine lv_bipush (v := 59) hx hb dX8_statement_119 (by decide) ?_
          obtain ⟨⟨r30, I30, J30⟩, hc30, h⟩ := ob h
          dsimp only at h
          refine callWVi (As := [.int (59 : Int32)]) (rest := []) hC (c_X8_isNext l g ad (u1 I24 11 (upd (I24 11) (Int32.toNatClampNeg (I 0 16)) r24)) J24 (59 : Int32)  H.size hc30) lk_X8_118 rfl rfl ⟨Nat.le_of_ble_eq_true rfl, Nat.le_of_ble_eq_true rfl⟩ hP hK hD hA hS mo_0 rfl rfl rfl hl (Nat.le_of_ble_eq_true rfl) dX8_statement_121 (fun H locs hP hD hS => ?_)
          obtain ⟨z31, h⟩ := og h
          obtain ⟨h1, h⟩ := Prod.mk.inj (Option.some.inj h)
          obtain ⟨rfl, rfl⟩ := Prod.mk.inj h
          exact hret _ _ _ _ _ dX8_statement_124 (gbo_ok z31).1 h1 hP hD hS
        · replace h := (if_neg c29).symm.trans h
          refine lv_aload_n hx hb dX8_statement_86 rfl (lv_at hl 2 rfl) ?_
          refine lv_bipush (v := 44) hx hb dX8_statement_87 (by decide) ?_
          obtain ⟨⟨r32, I32, J32⟩, hc32, h⟩ := ob h
          dsimp only at h
          refine callWVi (As := [.int (44 : Int32)]) (rest := []) hC (c_X8_isNext l g ad (u1 I24 11 (upd (I24 11) (Int32.toNatClampNeg (I 0 16)) r24)) J24 (44 : Int32)  H.size hc32) lk_X8_118 rfl rfl ⟨Nat.le_of_ble_eq_true rfl, Nat.le_of_ble_eq_true rfl⟩ hP hK hD hA hS mo_0 rfl rfl rfl hl (Nat.le_of_ble_eq_true rfl) dX8_statement_89 (fun H locs hP hD hS => ?_)
          refine lv_if_ne (tgt := 97) hx hb dX8_statement_92 (by decide) (fun c33 => ?_) (fun c33 => ?_)
          · replace h := (if_neg c33).symm.trans h
            refine lv_aload_n hx hb dX8_statement_97 rfl (lv_at hl 2 rfl) ?_
            refine gt_X8_43 hC hK hP dX8_statement_98 ?_
            refine lv_iload_n hx hb dX8_statement_101 rfl (lv_at hl 0 rfl) ?_
            refine lv_aload_n hx hb dX8_statement_102 rfl (lv_at hl 2 rfl) ?_
            obtain ⟨⟨r34, I34, J34⟩, hc34, h⟩ := ob h
            dsimp only at h
            refine callWVi (As := []) (rest := [.int (I 0 16), .ref (ad 12)]) hC (c_X8_number l g ad I32 J32   H.size hc34) lk_X8_115 rfl rfl ⟨Nat.le_of_ble_eq_true rfl, Nat.le_of_ble_eq_true rfl⟩ hP hK hD hA hS mo_0 rfl rfl rfl hl (Nat.le_of_ble_eq_true rfl) dX8_statement_103 (fun H locs hP hD hS => ?_)
            obtain ⟨b35, h⟩ := og h
            refine as_m12 hC hK hP hD hS (gin_ok b35) dX8_statement_106 (fun H locs hP hD hS => ?_)
            refine lv_aload_n hx hb dX8_statement_107 rfl (lv_at hl 2 rfl) ?_
            refine gt_X8_43 hC hK hP dX8_statement_108 ?_
            refine lv_iload_n hx hb dX8_statement_111 rfl (lv_at hl 0 rfl) ?_
            obtain ⟨b36, h⟩ := og h
            refine al_m12 hC hK hP (gin_ok b36) dX8_statement_112 ?_
            refine lv_if_ge (tgt := 118) hx hb dX8_statement_113 (by decide) (fun c37 => ?_) (fun c37 => ?_)
            · replace h := (if_pos c37).symm.trans h
              refine lv_aload_n hx hb dX8_statement_118 rfl (lv_at hl 2 rfl) ?_
              refine lv_bipush (v := 59) hx hb dX8_statement_119 (by decide) ?_
              obtain ⟨⟨r38, I38, J38⟩, hc38, h⟩ := ob h
              dsimp only at h
              refine callWVi (As := [.int (59 : Int32)]) (rest := []) hC (c_X8_isNext l g ad (u1 I34 12 (upd (I34 12) (Int32.toNatClampNeg (I 0 16)) r34)) J34 (59 : Int32)  H.size hc38) lk_X8_118 rfl rfl ⟨Nat.le_of_ble_eq_true rfl, Nat.le_of_ble_eq_true rfl⟩ hP hK hD hA hS mo_0 rfl rfl rfl hl (Nat.le_of_ble_eq_true rfl) dX8_statement_121 (fun H locs hP hD hS => ?_)
              obtain ⟨z39, h⟩ := og h
              obtain ⟨h1, h⟩ := Prod.mk.inj (Option.some.inj h)
              obtain ⟨rfl, rfl⟩ := Prod.mk.inj h
              exact hret _ _ _ _ _ dX8_statement_124 (gbo_ok z39).1 h1 hP hD hS
            · replace h := (if_neg c37).symm.trans h
              refine lv_iconst (v := 0) hx hb dX8_statement_116 (by decide) ?_
              obtain ⟨h1, h⟩ := Prod.mk.inj (Option.some.inj h)
              obtain ⟨rfl, rfl⟩ := Prod.mk.inj h
              exact hret _ _ _ _ _ dX8_statement_117 rfl h1 hP hD hS
          · replace h := (if_pos c33).symm.trans h
            refine lv_iconst (v := 0) hx hb dX8_statement_95 (by decide) ?_
            obtain ⟨h1, h⟩ := Prod.mk.inj (Option.some.inj h)
            obtain ⟨rfl, rfl⟩ := Prod.mk.inj h
            exact hret _ _ _ _ _ dX8_statement_96 rfl h1 hP hD hS
      · replace h := (if_neg c27).symm.trans h
        refine lv_iconst (v := 0) hx hb dX8_statement_77 (by decide) ?_
        obtain ⟨h1, h⟩ := Prod.mk.inj (Option.some.inj h)
        obtain ⟨rfl, rfl⟩ := Prod.mk.inj h
        exact hret _ _ _ _ _ dX8_statement_78 rfl h1 hP hD hS
    · replace h := (if_neg c21).symm.trans h
      refine lv_iload_n hx hb dX8_statement_17 rfl (lv_at hl 0 rfl) ?_
      obtain ⟨r40, hc40, h⟩ := ob h
      refine callRS (As := [.int r1]) (rest := []) hC (c_X8_hasTwo l g (mW ad g I J) r1 hc40) lk_X8_108 rfl rfl ⟨Nat.le_of_ble_eq_true rfl, Nat.le_of_ble_eq_true rfl⟩ hP hK rfl rfl hl (Nat.le_of_ble_eq_true rfl) dX8_statement_18 ?_
      refine lv_if_ne (tgt := 26) hx hb dX8_statement_21 (by decide) (fun c41 => ?_) (fun c41 => ?_)
      · replace h := (if_neg c41).symm.trans h
        refine lv_aload_n hx hb dX8_statement_26 rfl (lv_at hl 1 rfl) ?_
        refine gt_X8_112 hC hK hP dX8_statement_27 ?_
        refine lv_istore_n (lv' := [(2, .int (I 0 16)), (1, .int r1), (0, .ref (ad 0))]) hx hb dX8_statement_30 rfl hl (by decide) rfl (fun ls hl => ?_)
        refine lv_aload_n hx hb dX8_statement_31 rfl (lv_at hl 2 rfl) ?_
        refine gt_X8_34 hC hK hP dX8_statement_32 ?_
        refine lv_iload_n hx hb dX8_statement_35 rfl (lv_at hl 0 rfl) ?_
        refine lv_iload_n hx hb dX8_statement_36 rfl (lv_at hl 1 rfl) ?_
        obtain ⟨b42, h⟩ := og h
        refine as_m9 hC hK hP hD hS (gin_ok b42) dX8_statement_37 (fun H locs hP hD hS => ?_)
        refine lv_aload_n hx hb dX8_statement_38 rfl (lv_at hl 2 rfl) ?_
        refine gt_X8_37 hC hK hP dX8_statement_39 ?_
        refine lv_iload_n hx hb dX8_statement_42 rfl (lv_at hl 0 rfl) ?_
        refine lv_aload_n hx hb dX8_statement_43 rfl (lv_at hl 2 rfl) ?_
        refine gt_X8_98 hC hK hP dX8_statement_44 ?_
        obtain ⟨b43, h⟩ := og h
        refine as_m10 hC hK hP hD hS (gin_ok b43) dX8_statement_47 (fun H locs hP hD hS => ?_)
        refine lv_aload_n hx hb dX8_statement_48 rfl (lv_at hl 2 rfl) ?_
        refine lv_dup hx hb dX8_statement_49 rfl ?_
        refine gt_X8_98 hC hK hP dX8_statement_50 ?_
        refine lv_iconst (v := 1) hx hb dX8_statement_53 (by decide) ?_
        refine lv_iadd hx hb dX8_statement_54 ?_
        refine pt_X8_98 hC hK hP hD hS dX8_statement_55 (fun H locs hP hD hS => ?_)
        refine lv_aload_n hx hb dX8_statement_58 rfl (lv_at hl 2 rfl) ?_
        refine gt_X8_40 hC hK hP dX8_statement_59 ?_
        refine lv_iload_n hx hb dX8_statement_62 rfl (lv_at hl 0 rfl) ?_
        refine lv_aload_n hx hb dX8_statement_63 rfl (lv_at hl 2 rfl) ?_
        obtain ⟨⟨r44, I44, J44⟩, hc44, h⟩ := ob h
        dsimp only at h
        refine callWVi (As := []) (rest := [.int (I 0 16), .ref (ad 11)]) hC (c_X8_number l g ad (u2 (u1 (u1 I 9 (upd (I 9) (Int32.toNatClampNeg (I 0 16)) r1)) 10 (upd ((u1 I 9 (upd (I 9) (Int32.toNatClampNeg (I 0 16)) r1)) 10) (Int32.toNatClampNeg (I 0 16)) ((u1 I 9 (upd (I 9) (Int32.toNatClampNeg (I 0 16)) r1)) 0 15))) 0 15 (((u1 (u1 I 9 (upd (I 9) (Int32.toNatClampNeg (I 0 16)) r1)) 10 (upd ((u1 I 9 (upd (I 9) (Int32.toNatClampNeg (I 0 16)) r1)) 10) (Int32.toNatClampNeg (I 0 16)) ((u1 I 9 (upd (I 9) (Int32.toNatClampNeg (I 0 16)) r1)) 0 15))) 0 15) + (1 : Int32))) J   H.size hc44) lk_X8_115 rfl rfl ⟨Nat.le_of_ble_eq_true rfl, Nat.le_of_ble_eq_true rfl⟩ hP hK hD hA hS mo_0 rfl rfl rfl hl (Nat.le_of_ble_eq_true rfl) dX8_statement_64 (fun H locs hP hD hS => ?_)
        obtain ⟨b45, h⟩ := og h
        refine as_m11 hC hK hP hD hS (gin_ok b45) dX8_statement_67 (fun H locs hP hD hS => ?_)
        refine lv_aload_n hx hb dX8_statement_68 rfl (lv_at hl 2 rfl) ?_
        refine gt_X8_40 hC hK hP dX8_statement_69 ?_
        refine lv_iload_n hx hb dX8_statement_72 rfl (lv_at hl 0 rfl) ?_
        obtain ⟨b46, h⟩ := og h
        refine al_m11 hC hK hP (gin_ok b46) dX8_statement_73 ?_
        refine lv_if_ge (tgt := 79) hx hb dX8_statement_74 (by decide) (fun c47 => ?_) (fun c47 => ?_)
        · replace h := (if_pos c47).symm.trans h
          refine lv_iload_n hx hb dX8_statement_79 rfl (lv_at hl 1 rfl) ?_
          obtain ⟨r48, hc48, h⟩ := ob h
          refine callRS (As := [.int r1]) (rest := []) hC (c_X8_hasTwo l g (mW ad g (u1 I44 11 (upd (I44 11) (Int32.toNatClampNeg (I 0 16)) r44)) J44) r1 hc48) lk_X8_108 rfl rfl ⟨Nat.le_of_ble_eq_true rfl, Nat.le_of_ble_eq_true rfl⟩ hP hK rfl rfl hl (Nat.le_of_ble_eq_true rfl) dX8_statement_80 ?_
          refine lv_if_eq (tgt := 118) hx hb dX8_statement_83 (by decide) (fun c49 => ?_) (fun c49 => ?_)
          · replace h := (if_pos c49).symm.trans h
            refine lv_aload_n hx hb dX8_statement_118 rfl (lv_at hl 2 rfl) ?_
            refine lv_bipush (v := 59) hx hb dX8_statement_119 (by decide) ?_
            obtain ⟨⟨r50, I50, J50⟩, hc50, h⟩ := ob h
            dsimp only at h
            refine callWVi (As := [.int (59 : Int32)]) (rest := []) hC (c_X8_isNext l g ad (u1 I44 11 (upd (I44 11) (Int32.toNatClampNeg (I 0 16)) r44)) J44 (59 : Int32)  H.size hc50) lk_X8_118 rfl rfl ⟨Nat.le_of_ble_eq_true rfl, Nat.le_of_ble_eq_true rfl⟩ hP hK hD hA hS mo_0 rfl rfl rfl hl (Nat.le_of_ble_eq_true rfl) dX8_statement_121 (fun H locs hP hD hS => ?_)
            obtain ⟨z51, h⟩ := og h
            obtain ⟨h1, h⟩ := Prod.mk.inj (Option.some.inj h)
            obtain ⟨rfl, rfl⟩ := Prod.mk.inj h
            exact hret _ _ _ _ _ dX8_statement_124 (gbo_ok z51).1 h1 hP hD hS
          · replace h := (if_neg c49).symm.trans h
            refine lv_aload_n hx hb dX8_statement_86 rfl (lv_at hl 2 rfl) ?_
            refine lv_bipush (v := 44) hx hb dX8_statement_87 (by decide) ?_
            obtain ⟨⟨r52, I52, J52⟩, hc52, h⟩ := ob h
            dsimp only at h
            refine callWVi (As := [.int (44 : Int32)]) (rest := []) hC (c_X8_isNext l g ad (u1 I44 11 (upd (I44 11) (Int32.toNatClampNeg (I 0 16)) r44)) J44 (44 : Int32)  H.size hc52) lk_X8_118 rfl rfl ⟨Nat.le_of_ble_eq_true rfl, Nat.le_of_ble_eq_true rfl⟩ hP hK hD hA hS mo_0 rfl rfl rfl hl (Nat.le_of_ble_eq_true rfl) dX8_statement_89 (fun H locs hP hD hS => ?_)
            refine lv_if_ne (tgt := 97) hx hb dX8_statement_92 (by decide) (fun c53 => ?_) (fun c53 => ?_)
            · replace h := (if_neg c53).symm.trans h
              refine lv_aload_n hx hb dX8_statement_97 rfl (lv_at hl 2 rfl) ?_
              refine gt_X8_43 hC hK hP dX8_statement_98 ?_
              refine lv_iload_n hx hb dX8_statement_101 rfl (lv_at hl 0 rfl) ?_
              refine lv_aload_n hx hb dX8_statement_102 rfl (lv_at hl 2 rfl) ?_
              obtain ⟨⟨r54, I54, J54⟩, hc54, h⟩ := ob h
              dsimp only at h
              refine callWVi (As := []) (rest := [.int (I 0 16), .ref (ad 12)]) hC (c_X8_number l g ad I52 J52   H.size hc54) lk_X8_115 rfl rfl ⟨Nat.le_of_ble_eq_true rfl, Nat.le_of_ble_eq_true rfl⟩ hP hK hD hA hS mo_0 rfl rfl rfl hl (Nat.le_of_ble_eq_true rfl) dX8_statement_103 (fun H locs hP hD hS => ?_)
              obtain ⟨b55, h⟩ := og h
              refine as_m12 hC hK hP hD hS (gin_ok b55) dX8_statement_106 (fun H locs hP hD hS => ?_)
              refine lv_aload_n hx hb dX8_statement_107 rfl (lv_at hl 2 rfl) ?_
              refine gt_X8_43 hC hK hP dX8_statement_108 ?_
              refine lv_iload_n hx hb dX8_statement_111 rfl (lv_at hl 0 rfl) ?_
              obtain ⟨b56, h⟩ := og h
              refine al_m12 hC hK hP (gin_ok b56) dX8_statement_112 ?_
              refine lv_if_ge (tgt := 118) hx hb dX8_statement_113 (by decide) (fun c57 => ?_) (fun c57 => ?_)
              · replace h := (if_pos c57).symm.trans h
                refine lv_aload_n hx hb dX8_statement_118 rfl (lv_at hl 2 rfl) ?_
                refine lv_bipush (v := 59) hx hb dX8_statement_119 (by decide) ?_
                obtain ⟨⟨r58, I58, J58⟩, hc58, h⟩ := ob h
                dsimp only at h
                refine callWVi (As := [.int (59 : Int32)]) (rest := []) hC (c_X8_isNext l g ad (u1 I54 12 (upd (I54 12) (Int32.toNatClampNeg (I 0 16)) r54)) J54 (59 : Int32)  H.size hc58) lk_X8_118 rfl rfl ⟨Nat.le_of_ble_eq_true rfl, Nat.le_of_ble_eq_true rfl⟩ hP hK hD hA hS mo_0 rfl rfl rfl hl (Nat.le_of_ble_eq_true rfl) dX8_statement_121 (fun H locs hP hD hS => ?_)
                obtain ⟨z59, h⟩ := og h
                obtain ⟨h1, h⟩ := Prod.mk.inj (Option.some.inj h)
                obtain ⟨rfl, rfl⟩ := Prod.mk.inj h
                exact hret _ _ _ _ _ dX8_statement_124 (gbo_ok z59).1 h1 hP hD hS
              · replace h := (if_neg c57).symm.trans h
                refine lv_iconst (v := 0) hx hb dX8_statement_116 (by decide) ?_
                obtain ⟨h1, h⟩ := Prod.mk.inj (Option.some.inj h)
                obtain ⟨rfl, rfl⟩ := Prod.mk.inj h
                exact hret _ _ _ _ _ dX8_statement_117 rfl h1 hP hD hS
            · replace h := (if_pos c53).symm.trans h
              refine lv_iconst (v := 0) hx hb dX8_statement_95 (by decide) ?_
              obtain ⟨h1, h⟩ := Prod.mk.inj (Option.some.inj h)
              obtain ⟨rfl, rfl⟩ := Prod.mk.inj h
              exact hret _ _ _ _ _ dX8_statement_96 rfl h1 hP hD hS
        · replace h := (if_neg c47).symm.trans h
          refine lv_iconst (v := 0) hx hb dX8_statement_77 (by decide) ?_
          obtain ⟨h1, h⟩ := Prod.mk.inj (Option.some.inj h)
          obtain ⟨rfl, rfl⟩ := Prod.mk.inj h
          exact hret _ _ _ _ _ dX8_statement_78 rfl h1 hP hD hS
      · replace h := (if_pos c41).symm.trans h
        refine lv_iconst (v := 0) hx hb dX8_statement_24 (by decide) ?_
        obtain ⟨h1, h⟩ := Prod.mk.inj (Option.some.inj h)
        obtain ⟨rfl, rfl⟩ := Prod.mk.inj h
        exact hret _ _ _ _ _ dX8_statement_25 rfl h1 hP hD hS
def F_X8_sets (I : SI) (J : SJ) (v1 : Int32) (v2 : Int32) : Option (Int32 × SI × SJ) := (if gin v1 8 = true then ((F_X8_isIn v2 (0 : Int32) (I 3 (Int32.toNatClampNeg v1))).bind fun r2 => (if r2 = 0 then (some ((0 : Int32), I, J)) else (if gin v1 8 = true then (some ((1 : Int32), (u1 I 2 (upd (I 2) (Int32.toNatClampNeg v1) v2)), J)) else none))) else none)
set_option maxHeartbeats 4000000 in
set_option maxRecDepth 100000 in
theorem c_X8_sets (l : Launch) (g : Gx) (ad : Nat → Nat) (I : SI) (J : SJ) (v1 : Int32) (v2 : Int32)  (sz : Nat) {r : Int32} {rI : SI} {rJ : SJ} (h : F_X8_sets I J v1 v2 = some (r, rI, rJ)) : Met l yX8_sets (Cond.code yX8_sets cX8_sets 3 (some .boolean) :: BG) (k2_rm 1 22) (PcW [.ref (ad 0), .int v1, .int v2] g (mW ad g I J) sz) (QWi r g (mW ad g I J) (mW ad g rI rJ) sz) 0 0 (va_A (mW ad g I J) sz) := by
  refine mkWz (by decide) (Nat.le_of_ble_eq_true rfl) ?_
  intro p e s m args below meth c H locs ls A Q hC hK hP hD hA hS hl hret
  have hx := hC.1
  have hb := hC.2.1
  have hts := hC.2.2.2.2
  have hown := hC.2.2.2.1
  replace hl : lv_has ls 3 [(0, .ref (ad 0)), (1, .int v1), (2, .int v2)] := hl
  unfold F_X8_sets at h
  refine lv_iload_n hx hb dX8_sets_0 rfl (lv_at hl 2 rfl) ?_
  refine lv_iconst (v := 0) hx hb dX8_sets_1 (by decide) ?_
  refine lv_aload_n hx hb dX8_sets_2 rfl (lv_at hl 0 rfl) ?_
  refine gt_X8_16 hC hK hP dX8_sets_3 ?_
  refine lv_iload_n hx hb dX8_sets_6 rfl (lv_at hl 1 rfl) ?_
  obtain ⟨b1, h⟩ := og h
  refine al_m3 hC hK hP (gin_ok b1) dX8_sets_7 ?_
  obtain ⟨r2, hc2, h⟩ := ob h
  refine callRS (As := [.int v2, .int (0 : Int32), .int (I 3 (Int32.toNatClampNeg v1))]) (rest := []) hC (c_X8_isIn l g (mW ad g I J) v2 (0 : Int32) (I 3 (Int32.toNatClampNeg v1)) hc2) lk_X8_104 rfl rfl ⟨Nat.le_of_ble_eq_true rfl, Nat.le_of_ble_eq_true rfl⟩ hP hK rfl rfl hl (Nat.le_of_ble_eq_true rfl) dX8_sets_8 ?_
  refine lv_if_ne (tgt := 16) hx hb dX8_sets_11 (by decide) (fun c3 => ?_) (fun c3 => ?_)
  · replace h := (if_neg c3).symm.trans h
    refine lv_aload_n hx hb dX8_sets_16 rfl (lv_at hl 0 rfl) ?_
    refine gt_X8_13 hC hK hP dX8_sets_17 ?_
    refine lv_iload_n hx hb dX8_sets_20 rfl (lv_at hl 1 rfl) ?_
    refine lv_iload_n hx hb dX8_sets_21 rfl (lv_at hl 2 rfl) ?_
    obtain ⟨b4, h⟩ := og h
    refine as_m2 hC hK hP hD hS (gin_ok b4) dX8_sets_22 (fun H locs hP hD hS => ?_)
    refine lv_iconst (v := 1) hx hb dX8_sets_23 (by decide) ?_
    obtain ⟨h1, h⟩ := Prod.mk.inj (Option.some.inj h)
    obtain ⟨rfl, rfl⟩ := Prod.mk.inj h
    exact hret _ _ _ _ _ dX8_sets_24 rfl h1 hP hD hS
  · replace h := (if_pos c3).symm.trans h
    refine lv_iconst (v := 0) hx hb dX8_sets_14 (by decide) ?_
    obtain ⟨h1, h⟩ := Prod.mk.inj (Option.some.inj h)
    obtain ⟨rfl, rfl⟩ := Prod.mk.inj h
    exact hret _ _ _ _ _ dX8_sets_15 rfl h1 hP hD hS
