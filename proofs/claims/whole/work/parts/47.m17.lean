def FL_X8_leaving_40  : Nat → SI → SJ → Int32 → Int32 → Option (Int32 × SI × SJ)
  | 0, _, _, _, _ => none
  | n + 1, I, J, w2_40, w4_40 => (if (100 : Int32) ≤ w4_40 then (some ((-9 : Int32), I, J)) else ((F_X8_findYears I J w2_40 w4_40).bind fun (I7, J7) => ((F_X8_dungedFrom I7 J7 (0 : Int32) w2_40).bind fun r8 => (if ((r8 >>> ((w2_40 - (1 : Int32)) &&& 31)) &&& (1 : Int32)) = (1 : Int32) then (some (w4_40, I7, J7)) else (FL_X8_leaving_40 n I7 J7 w2_40 (w4_40 + 1))))))
def F_X8_leaving (I : SI) (J : SJ) (v1 : Int32) (v2 : Int32) : Option (Int32 × SI × SJ) := ((F_X8_isTerm I J v1).bind fun r1 => (if r1 = 0 then ((F_X8_no I J (-1 : Int32)).bind fun (r11, I11, J11) => (some (r11, I11, J11))) else ((F_X8_bound v2 (1 : Int32) (10 : Int32)).bind fun r3 => (if r3 = 0 then ((F_X8_takesTerm I J v1).bind fun (I5, J5) => (FL_X8_leaving_40 3000 I5 J5 v2 (0 : Int32))) else ((F_X8_no I J r3).bind fun (r10, I10, J10) => (some (r10, I10, J10)))))))
set_option maxHeartbeats 4000000 in
set_option maxRecDepth 100000 in
theorem c_X8_leaving (l : Launch) (g : Gx) (ad : Nat → Nat) (I : SI) (J : SJ) (v1 : Int32) (v2 : Int32)  (sz : Nat) {r : Int32} {rI : SI} {rJ : SJ} (h : F_X8_leaving I J v1 v2 = some (r, rI, rJ)) : Met l yX8_leaving (Cond.code yX8_leaving cX8_leaving 5 (some .int) :: BG) (k2_rm 6 152) (PcW [.ref (ad 0), .int v1, .int v2] g (mW ad g I J) sz) (QWi r g (mW ad g I J) (mW ad g rI rJ) sz) 0 0 (va_A (mW ad g I J) sz) := by
  refine mkWi (by decide) (Nat.le_of_ble_eq_true rfl) ?_
  intro p e s m args below meth c H locs ls A Q hC hK hP hD hA hS hl hret
  have hx := hC.1
  have hb := hC.2.1
  have hts := hC.2.2.2.2
  have hown := hC.2.2.2.1
  replace hl : lv_has ls 5 [(0, .ref (ad 0)), (1, .int v1), (2, .int v2)] := hl
  have loop_40 : ∀ (n : Nat) (I : SI) (J : SJ) (w2_40 : Int32) (w4_40 : Int32)  (H : Heap) (locs : List Loc) (ls : Array Slot), FL_X8_leaving_40 n I J w2_40 w4_40 = some (r, rI, rJ) → Pg g (mW ad g I J) H → va_D A (mW ad g I J) → va_S A s.heap H locs → lv_has ls 5 [(0, .ref (ad 0)), (2, .int w2_40), (4, .int w4_40)] → W p l e (k2_rm 6 152) s m args below meth c H locs 0 0 Q (F0 m 40 ls []) := by
    intro n
    induction n with
    | zero =>
      intro I J w2_40 w4_40 H locs ls h
      exact no h
    | succ n ih =>
      intro I J w2_40 w4_40 H locs ls h hP hD hS hl
      rw [FL_X8_leaving_40] at h
      refine lv_iload hx hb dX8_leaving_40 (lv_at hl 2 rfl) ?_
      refine lv_bipush (v := 100) hx hb dX8_leaving_42 (by decide) ?_
      refine lv_icmp_ge (tgt := 79) hx hb dX8_leaving_44 (by decide) (fun c6 => ?_) (fun c6 => ?_)
      · replace h := (if_pos c6).symm.trans h
        refine lv_bipush (v := -9) hx hb dX8_leaving_79 (by decide) ?_
        obtain ⟨h1, h⟩ := Prod.mk.inj (Option.some.inj h)
        obtain ⟨rfl, rfl⟩ := Prod.mk.inj h
        exact hret _ _ _ _ _ dX8_leaving_81 h1 hP hD hS
      · replace h := (if_neg c6).symm.trans h
        refine lv_aload_n hx hb dX8_leaving_47 rfl (lv_at hl 0 rfl) ?_
        refine lv_iload_n hx hb dX8_leaving_48 rfl (lv_at hl 1 rfl) ?_
        refine lv_iload hx hb dX8_leaving_49 (lv_at hl 2 rfl) ?_
        obtain ⟨⟨I7, J7⟩, hc7, h⟩ := ob h
        dsimp only at h
        refine callWVv (As := [.int w2_40, .int w4_40]) (rest := []) hC (c_X8_findYears l g ad I J w2_40 w4_40  H.size hc7) lk_X8_263 rfl rfl ⟨Nat.le_of_ble_eq_true rfl, Nat.le_of_ble_eq_true rfl⟩ hP hK hD hA hS mo_0 rfl rfl rfl hl (Nat.le_of_ble_eq_true rfl) dX8_leaving_51 (fun H locs hP hD hS => ?_)
        refine lv_aload_n hx hb dX8_leaving_54 rfl (lv_at hl 0 rfl) ?_
        refine lv_iconst (v := 0) hx hb dX8_leaving_55 (by decide) ?_
        refine lv_iload_n hx hb dX8_leaving_56 rfl (lv_at hl 1 rfl) ?_
        obtain ⟨r8, hc8, h⟩ := ob h
        refine callRV (As := [.int (0 : Int32), .int w2_40]) (rest := []) hC (c_X8_dungedFrom l g ad I7 J7 (0 : Int32) w2_40  hc8) lk_X8_267 rfl rfl ⟨Nat.le_of_ble_eq_true rfl, Nat.le_of_ble_eq_true rfl⟩ hP hK mo_0 rfl rfl rfl hl (Nat.le_of_ble_eq_true rfl) dX8_leaving_57 ?_
        refine lv_iload_n hx hb dX8_leaving_60 rfl (lv_at hl 1 rfl) ?_
        refine lv_iconst (v := 1) hx hb dX8_leaving_61 (by decide) ?_
        refine lv_isub hx hb dX8_leaving_62 ?_
        refine lv_ishr hx hb dX8_leaving_63 ?_
        refine lv_iconst (v := 1) hx hb dX8_leaving_64 (by decide) ?_
        refine lv_iand hx hb dX8_leaving_65 ?_
        refine lv_iconst (v := 1) hx hb dX8_leaving_66 (by decide) ?_
        refine lv_icmp_ne (tgt := 73) hx hb dX8_leaving_67 (by decide) (fun c9 => ?_) (fun c9 => ?_)
        · replace h := (if_neg c9).symm.trans h
          refine lv_iinc (v := (w4_40 + 1)) (lv' := [(4, .int (w4_40 + 1)), (0, .ref (ad 0)), (2, .int w2_40)]) hx hb dX8_leaving_73 hl (k := 2) rfl rfl (by decide) rfl (fun ls hl => ?_)
          refine lv_goto (tgt := 40) hx hb dX8_leaving_76 (by decide) ?_
          exact ih I7 J7 w2_40 (w4_40 + 1) _ _ _ h hP hD hS (lv_sub hl [1, 2, 0] rfl)
        · replace h := (if_pos c9).symm.trans h
          refine lv_iload hx hb dX8_leaving_70 (lv_at hl 2 rfl) ?_
          obtain ⟨h1, h⟩ := Prod.mk.inj (Option.some.inj h)
          obtain ⟨rfl, rfl⟩ := Prod.mk.inj h
          exact hret _ _ _ _ _ dX8_leaving_72 h1 hP hD hS
  unfold F_X8_leaving at h
  refine lv_aload_n hx hb dX8_leaving_0 rfl (lv_at hl 0 rfl) ?_
  refine lv_iload_n hx hb dX8_leaving_1 rfl (lv_at hl 1 rfl) ?_
  obtain ⟨r1, hc1, h⟩ := ob h
  refine callRV (As := [.int v1]) (rest := []) hC (c_X8_isTerm l g ad I J v1  hc1) lk_X8_155 rfl rfl ⟨Nat.le_of_ble_eq_true rfl, Nat.le_of_ble_eq_true rfl⟩ hP hK mo_0 rfl rfl rfl hl (Nat.le_of_ble_eq_true rfl) dX8_leaving_2 ?_
  refine lv_if_ne (tgt := 14) hx hb dX8_leaving_5 (by decide) (fun c2 => ?_) (fun c2 => ?_)
  · replace h := (if_neg c2).symm.trans h
    refine lv_iload_n hx hb dX8_leaving_14 rfl (lv_at hl 2 rfl) ?_
    refine lv_iconst (v := 1) hx hb dX8_leaving_15 (by decide) ?_
    refine lv_bipush (v := 10) hx hb dX8_leaving_16 (by decide) ?_
    obtain ⟨r3, hc3, h⟩ := ob h
    refine callRS (As := [.int v2, .int (1 : Int32), .int (10 : Int32)]) (rest := []) hC (c_X8_bound l g (mW ad g I J) v2 (1 : Int32) (10 : Int32) hc3) lk_X8_85 rfl rfl ⟨Nat.le_of_ble_eq_true rfl, Nat.le_of_ble_eq_true rfl⟩ hP hK rfl rfl hl (Nat.le_of_ble_eq_true rfl) dX8_leaving_18 ?_
    refine lv_istore_n (lv' := [(3, .int r3), (0, .ref (ad 0)), (1, .int v1), (2, .int v2)]) hx hb dX8_leaving_21 rfl hl (by decide) rfl (fun ls hl => ?_)
    refine lv_iload_n hx hb dX8_leaving_22 rfl (lv_at hl 0 rfl) ?_
    refine lv_if_eq (tgt := 32) hx hb dX8_leaving_23 (by decide) (fun c4 => ?_) (fun c4 => ?_)
    · replace h := (if_pos c4).symm.trans h
      refine lv_aload_n hx hb dX8_leaving_32 rfl (lv_at hl 1 rfl) ?_
      refine lv_iload_n hx hb dX8_leaving_33 rfl (lv_at hl 2 rfl) ?_
      obtain ⟨⟨I5, J5⟩, hc5, h⟩ := ob h
      dsimp only at h
      refine callWVv (As := [.int v1]) (rest := []) hC (c_X8_takesTerm l g ad I J v1  H.size hc5) lk_X8_212 rfl rfl ⟨Nat.le_of_ble_eq_true rfl, Nat.le_of_ble_eq_true rfl⟩ hP hK hD hA hS mo_0 rfl rfl rfl hl (Nat.le_of_ble_eq_true rfl) dX8_leaving_34 (fun H locs hP hD hS => ?_)
      refine lv_iconst (v := 0) hx hb dX8_leaving_37 (by decide) ?_
      refine lv_istore (lv' := [(4, .int (0 : Int32)), (3, .int r3), (0, .ref (ad 0)), (1, .int v1), (2, .int v2)]) hx hb dX8_leaving_38 hl (by decide) rfl (fun ls hl => ?_)
      exact loop_40 3000 I5 J5 v2 (0 : Int32) _ _ _ h hP hD hS (lv_sub hl [2, 4, 0] rfl)
    · replace h := (if_neg c4).symm.trans h
      refine lv_aload_n hx hb dX8_leaving_26 rfl (lv_at hl 1 rfl) ?_
      refine lv_iload_n hx hb dX8_leaving_27 rfl (lv_at hl 0 rfl) ?_
      obtain ⟨⟨r10, I10, J10⟩, hc10, h⟩ := ob h
      dsimp only at h
      refine callWVi (As := [.int r3]) (rest := []) hC (c_X8_no l g ad I J r3  H.size hc10) lk_X8_92 rfl rfl ⟨Nat.le_of_ble_eq_true rfl, Nat.le_of_ble_eq_true rfl⟩ hP hK hD hA hS mo_0 rfl rfl rfl hl (Nat.le_of_ble_eq_true rfl) dX8_leaving_28 (fun H locs hP hD hS => ?_)
      obtain ⟨h1, h⟩ := Prod.mk.inj (Option.some.inj h)
      obtain ⟨rfl, rfl⟩ := Prod.mk.inj h
      exact hret _ _ _ _ _ dX8_leaving_31 h1 hP hD hS
  · replace h := (if_pos c2).symm.trans h
    refine lv_aload_n hx hb dX8_leaving_8 rfl (lv_at hl 0 rfl) ?_
    refine lv_iconst (v := -1) hx hb dX8_leaving_9 (by decide) ?_
    obtain ⟨⟨r11, I11, J11⟩, hc11, h⟩ := ob h
    dsimp only at h
    refine callWVi (As := [.int (-1 : Int32)]) (rest := []) hC (c_X8_no l g ad I J (-1 : Int32)  H.size hc11) lk_X8_92 rfl rfl ⟨Nat.le_of_ble_eq_true rfl, Nat.le_of_ble_eq_true rfl⟩ hP hK hD hA hS mo_0 rfl rfl rfl hl (Nat.le_of_ble_eq_true rfl) dX8_leaving_10 (fun H locs hP hD hS => ?_)
    obtain ⟨h1, h⟩ := Prod.mk.inj (Option.some.inj h)
    obtain ⟨rfl, rfl⟩ := Prod.mk.inj h
    exact hret _ _ _ _ _ dX8_leaving_13 h1 hP hD hS
def F_X8_worthGood (I : SI) (J : SJ) (v1 : Int32) (v2 : Int32) : Option (Int64 × SI × SJ) := ((F_X8_takesTerm I J v1).bind fun (I1, J1) => ((F_X8_bestPains (u2 I1 0 27 v2) J1 (0 : Int32)).bind fun r2 => ((F_X8_worthOf (u2 I1 0 27 v2) J1 (0 : Int32) r2 (0 : Int32)).bind fun r3 => (some (r3, (u2 I1 0 27 v2), J1)))))
set_option maxHeartbeats 4000000 in
set_option maxRecDepth 100000 in
theorem c_X8_worthGood (l : Launch) (g : Gx) (ad : Nat → Nat) (I : SI) (J : SJ) (v1 : Int32) (v2 : Int32)  (sz : Nat) {r : Int64} {rI : SI} {rJ : SJ} (h : F_X8_worthGood I J v1 v2 = some (r, rI, rJ)) : Met l yX8_worthGood (Cond.code yX8_worthGood cX8_worthGood 3 (some .long) :: BG) (k2_rm 4 100) (PcW [.ref (ad 0), .int v1, .int v2] g (mW ad g I J) sz) (QWl r g (mW ad g I J) (mW ad g rI rJ) sz) 0 0 (va_A (mW ad g I J) sz) := by
  refine mkWl (by decide) (Nat.le_of_ble_eq_true rfl) ?_
  intro p e s m args below meth c H locs ls A Q hC hK hP hD hA hS hl hret
  have hx := hC.1
  have hb := hC.2.1
  have hts := hC.2.2.2.2
  have hown := hC.2.2.2.1
  replace hl : lv_has ls 3 [(0, .ref (ad 0)), (1, .int v1), (2, .int v2)] := hl
  unfold F_X8_worthGood at h
  refine lv_aload_n hx hb dX8_worthGood_0 rfl (lv_at hl 0 rfl) ?_
  refine lv_iload_n hx hb dX8_worthGood_1 rfl (lv_at hl 1 rfl) ?_
  obtain ⟨⟨I1, J1⟩, hc1, h⟩ := ob h
  dsimp only at h
  refine callWVv (As := [.int v1]) (rest := []) hC (c_X8_takesTerm l g ad I J v1  H.size hc1) lk_X8_212 rfl rfl ⟨Nat.le_of_ble_eq_true rfl, Nat.le_of_ble_eq_true rfl⟩ hP hK hD hA hS mo_0 rfl rfl rfl hl (Nat.le_of_ble_eq_true rfl) dX8_worthGood_2 (fun H locs hP hD hS => ?_)
  refine lv_aload_n hx hb dX8_worthGood_5 rfl (lv_at hl 0 rfl) ?_
  refine lv_iload_n hx hb dX8_worthGood_6 rfl (lv_at hl 2 rfl) ?_
  refine pt_X8_182 hC hK hP hD hS dX8_worthGood_7 (fun H locs hP hD hS => ?_)
  refine lv_aload_n hx hb dX8_worthGood_10 rfl (lv_at hl 0 rfl) ?_
  refine lv_iconst (v := 0) hx hb dX8_worthGood_11 (by decide) ?_
  refine lv_aload_n hx hb dX8_worthGood_12 rfl (lv_at hl 0 rfl) ?_
  refine lv_iconst (v := 0) hx hb dX8_worthGood_13 (by decide) ?_
  obtain ⟨r2, hc2, h⟩ := ob h
  refine callRV (As := [.int (0 : Int32)]) (rest := [.int (0 : Int32), .ref (ad 0)]) hC (c_X8_bestPains l g ad (u2 I1 0 27 v2) J1 (0 : Int32)  hc2) lk_X8_206 rfl rfl ⟨Nat.le_of_ble_eq_true rfl, Nat.le_of_ble_eq_true rfl⟩ hP hK mo_0 rfl rfl rfl hl (Nat.le_of_ble_eq_true rfl) dX8_worthGood_14 ?_
  refine lv_iconst (v := 0) hx hb dX8_worthGood_17 (by decide) ?_
  obtain ⟨r3, hc3, h⟩ := ob h
  refine callRV (As := [.int (0 : Int32), .int r2, .int (0 : Int32)]) (rest := []) hC (c_X8_worthOf l g ad (u2 I1 0 27 v2) J1 (0 : Int32) r2 (0 : Int32)  hc3) lk_X8_202 rfl rfl ⟨Nat.le_of_ble_eq_true rfl, Nat.le_of_ble_eq_true rfl⟩ hP hK mo_0 rfl rfl rfl hl (Nat.le_of_ble_eq_true rfl) dX8_worthGood_18 ?_
  obtain ⟨h1, h⟩ := Prod.mk.inj (Option.some.inj h)
  obtain ⟨rfl, rfl⟩ := Prod.mk.inj h
  exact hret _ _ _ _ _ dX8_worthGood_21 h1 hP hD hS
def F_X8_offered (I : SI) (J : SJ) (v1 : Int32) (v2 : Int32) (v3 : Int32) : Option (Int32 × SI × SJ) := ((F_X8_worthGood I J v1 v3).bind fun (r1, I1, J1) => ((F_X8_worthGood I1 J1 v2 v3).bind fun (r2, I2, J2) => (if ((1000 : Int64) * (Int32.toInt64 (I2 2 (Int32.toNatClampNeg (1 : Int32))))) ≤ (if r2 ≤ r1 then r1 else r2) then (some ((if r2 ≤ r1 then (0 : Int32) else (1 : Int32)), I2, J2)) else (some ((-9 : Int32), I2, J2)))))
set_option maxHeartbeats 4000000 in
set_option maxRecDepth 100000 in
theorem c_X8_offered (l : Launch) (g : Gx) (ad : Nat → Nat) (I : SI) (J : SJ) (v1 : Int32) (v2 : Int32) (v3 : Int32)  (sz : Nat) {r : Int32} {rI : SI} {rJ : SJ} (h : F_X8_offered I J v1 v2 v3 = some (r, rI, rJ)) : Met l yX8_offered (Cond.code yX8_offered cX8_offered 8 (some .int) :: BG) (k2_rm 5 122) (PcW [.ref (ad 0), .int v1, .int v2, .int v3] g (mW ad g I J) sz) (QWi r g (mW ad g I J) (mW ad g rI rJ) sz) 0 0 (va_A (mW ad g I J) sz) := by
  refine mkWi (by decide) (Nat.le_of_ble_eq_true rfl) ?_
  intro p e s m args below meth c H locs ls A Q hC hK hP hD hA hS hl hret
  have hx := hC.1
  have hb := hC.2.1
  have hts := hC.2.2.2.2
  have hown := hC.2.2.2.1
  replace hl : lv_has ls 8 [(0, .ref (ad 0)), (1, .int v1), (2, .int v2), (3, .int v3)] := hl
  unfold F_X8_offered at h
  refine lv_aload_n hx hb dX8_offered_0 rfl (lv_at hl 0 rfl) ?_
  refine lv_iload_n hx hb dX8_offered_1 rfl (lv_at hl 1 rfl) ?_
  refine lv_iload_n hx hb dX8_offered_2 rfl (lv_at hl 3 rfl) ?_
  obtain ⟨⟨r1, I1, J1⟩, hc1, h⟩ := ob h
  dsimp only at h
  refine callWVl (As := [.int v1, .int v3]) (rest := []) hC (c_X8_worthGood l g ad I J v1 v3  H.size hc1) lk_X8_270 rfl rfl ⟨Nat.le_of_ble_eq_true rfl, Nat.le_of_ble_eq_true rfl⟩ hP hK hD hA hS mo_0 rfl rfl rfl hl (Nat.le_of_ble_eq_true rfl) dX8_offered_3 (fun H locs hP hD hS => ?_)
  refine lv_lstore (lv' := [(4, .long r1), (0, .ref (ad 0)), (1, .int v1), (2, .int v2), (3, .int v3)]) hx hb dX8_offered_6 hl (by decide) rfl (fun ls hl => ?_)
  refine lv_aload_n hx hb dX8_offered_8 rfl (lv_at hl 1 rfl) ?_
  refine lv_iload_n hx hb dX8_offered_9 rfl (lv_at hl 3 rfl) ?_
  refine lv_iload_n hx hb dX8_offered_10 rfl (lv_at hl 4 rfl) ?_
  obtain ⟨⟨r2, I2, J2⟩, hc2, h⟩ := ob h
  dsimp only at h
  refine callWVl (As := [.int v2, .int v3]) (rest := []) hC (c_X8_worthGood l g ad I1 J1 v2 v3  H.size hc2) lk_X8_270 rfl rfl ⟨Nat.le_of_ble_eq_true rfl, Nat.le_of_ble_eq_true rfl⟩ hP hK hD hA hS mo_0 rfl rfl rfl hl (Nat.le_of_ble_eq_true rfl) dX8_offered_11 (fun H locs hP hD hS => ?_)
  refine lv_lstore (lv' := [(6, .long r2), (4, .long r1), (0, .ref (ad 0)), (1, .int v1), (2, .int v2), (3, .int v3)]) hx hb dX8_offered_14 hl (by decide) rfl (fun ls hl => ?_)
  refine lv_lload hx hb dX8_offered_16 (lv_at hl 0 rfl) ?_
  refine lv_lload hx hb dX8_offered_18 (lv_at hl 1 rfl) ?_
  refine tern (α := Int64) (cnd := r2 ≤ r1) (a := r1) (b := r2) (Wj := fun vj => W p l e (k2_rm 5 122) s m args below meth c H locs 0 0 Q (F0 m 31 ls [.long vj])) (fun k4a k4b => ?_) ?_
  · refine W.lcmp hx hb dX8_offered_20 ?_
    refine lv_if_le (tgt := 29) hx hb dX8_offered_21 (by decide) (fun c3 => ?_) (fun c3 => ?_)
    · refine lv_lload hx hb dX8_offered_29 (lv_at hl 1 rfl) ?_
      exact k4a ((lg_cmp_le _ _).mp c3)
    · refine lv_lload hx hb dX8_offered_24 (lv_at hl 0 rfl) ?_
      refine lv_goto (tgt := 31) hx hb dX8_offered_26 (by decide) ?_
      exact k4b (fun hh => c3 ((lg_cmp_le _ _).mpr hh))
  · show W p l e (k2_rm 5 122) s m args below meth c H locs 0 0 Q (F0 m 31 ls [.long (if r2 ≤ r1 then r1 else r2)])
    refine lv_ldc2 hx hb hown (hts _ kc_X8_197) dX8_offered_31 ?_
    refine lv_aload_n hx hb dX8_offered_34 rfl (lv_at hl 2 rfl) ?_
    refine gt_X8_13 hC hK hP dX8_offered_35 ?_
    refine lv_iconst (v := 1) hx hb dX8_offered_38 (by decide) ?_
    refine al_m2 hC hK hP (gin_ok (by decide)) dX8_offered_39 ?_
    refine lv_i2l hx hb dX8_offered_40 rfl ?_
    refine lv_lmul hx hb dX8_offered_41 ?_
    refine W.lcmp hx hb dX8_offered_42 ?_
    refine lv_if_ge (tgt := 51) hx hb dX8_offered_43 (by decide) (fun c6 => ?_) (fun c6 => ?_)
    · replace h := (if_pos ((lg_cmp_ge _ _).mp c6)).symm.trans h
      refine lv_lload hx hb dX8_offered_51 (lv_at hl 0 rfl) ?_
      refine lv_lload hx hb dX8_offered_53 (lv_at hl 1 rfl) ?_
      refine tern (α := Int32) (cnd := r2 ≤ r1) (a := (0 : Int32)) (b := (1 : Int32)) (Wj := fun vj => W p l e (k2_rm 5 122) s m args below meth c H locs 0 0 Q (F0 m 64 ls [.int vj])) (fun k8a k8b => ?_) ?_
      · refine W.lcmp hx hb dX8_offered_55 ?_
        refine lv_if_le (tgt := 63) hx hb dX8_offered_56 (by decide) (fun c7 => ?_) (fun c7 => ?_)
        · refine lv_iconst (v := 0) hx hb dX8_offered_63 (by decide) ?_
          exact k8a ((lg_cmp_le _ _).mp c7)
        · refine lv_iconst (v := 1) hx hb dX8_offered_59 (by decide) ?_
          refine lv_goto (tgt := 64) hx hb dX8_offered_60 (by decide) ?_
          exact k8b (fun hh => c7 ((lg_cmp_le _ _).mpr hh))
      · show W p l e (k2_rm 5 122) s m args below meth c H locs 0 0 Q (F0 m 64 ls [.int (if r2 ≤ r1 then (0 : Int32) else (1 : Int32))])
        obtain ⟨h1, h⟩ := Prod.mk.inj (Option.some.inj h)
        obtain ⟨rfl, rfl⟩ := Prod.mk.inj h
        exact hret _ _ _ _ _ dX8_offered_64 h1 hP hD hS
    · replace h := (if_neg (fun hh => c6 ((lg_cmp_ge _ _).mpr hh))).symm.trans h
      refine lv_bipush (v := -9) hx hb dX8_offered_46 (by decide) ?_
      refine lv_goto (tgt := 64) hx hb dX8_offered_48 (by decide) ?_
      obtain ⟨h1, h⟩ := Prod.mk.inj (Option.some.inj h)
      obtain ⟨rfl, rfl⟩ := Prod.mk.inj h
      exact hret _ _ _ _ _ dX8_offered_64 h1 hP hD hS
def F_X8_offer (I : SI) (J : SJ) (v1 : Int32) (v2 : Int32) (v3 : Int32) : Option (Int32 × SI × SJ) := ((F_X8_isTerm I J v1).bind fun r1 => (if r1 = 0 then ((F_X8_no I J (-1 : Int32)).bind fun (r3, I3, J3) => (some (r3, I3, J3))) else ((F_X8_isTerm I J v2).bind fun r4 => (if r4 = 0 then ((F_X8_no I J (-1 : Int32)).bind fun (r6, I6, J6) => (some (r6, I6, J6))) else ((F_X8_isIn v3 (0 : Int32) (9 : Int32)).bind fun r7 => (if r7 = 0 then ((F_X8_no I J (-1 : Int32)).bind fun (r9, I9, J9) => (some (r9, I9, J9))) else ((F_X8_offered I J v1 v2 v3).bind fun (r10, I10, J10) => (some (r10, I10, J10)))))))))
set_option maxHeartbeats 4000000 in
set_option maxRecDepth 100000 in
theorem c_X8_offer (l : Launch) (g : Gx) (ad : Nat → Nat) (I : SI) (J : SJ) (v1 : Int32) (v2 : Int32) (v3 : Int32)  (sz : Nat) {r : Int32} {rI : SI} {rJ : SJ} (h : F_X8_offer I J v1 v2 v3 = some (r, rI, rJ)) : Met l yX8_offer (Cond.code yX8_offer cX8_offer 4 (some .int) :: BG) (k2_rm 6 149) (PcW [.ref (ad 0), .int v1, .int v2, .int v3] g (mW ad g I J) sz) (QWi r g (mW ad g I J) (mW ad g rI rJ) sz) 0 0 (va_A (mW ad g I J) sz) := by
  refine mkWi (by decide) (Nat.le_of_ble_eq_true rfl) ?_
  intro p e s m args below meth c H locs ls A Q hC hK hP hD hA hS hl hret
  have hx := hC.1
  have hb := hC.2.1
  have hts := hC.2.2.2.2
  have hown := hC.2.2.2.1
  replace hl : lv_has ls 4 [(0, .ref (ad 0)), (1, .int v1), (2, .int v2), (3, .int v3)] := hl
  unfold F_X8_offer at h
  refine lv_aload_n hx hb dX8_offer_0 rfl (lv_at hl 0 rfl) ?_
  refine lv_iload_n hx hb dX8_offer_1 rfl (lv_at hl 1 rfl) ?_
  obtain ⟨r1, hc1, h⟩ := ob h
  refine callRV (As := [.int v1]) (rest := []) hC (c_X8_isTerm l g ad I J v1  hc1) lk_X8_155 rfl rfl ⟨Nat.le_of_ble_eq_true rfl, Nat.le_of_ble_eq_true rfl⟩ hP hK mo_0 rfl rfl rfl hl (Nat.le_of_ble_eq_true rfl) dX8_offer_2 ?_
  refine lv_if_eq (tgt := 36) hx hb dX8_offer_5 (by decide) (fun c2 => ?_) (fun c2 => ?_)
  · replace h := (if_pos c2).symm.trans h
    refine lv_aload_n hx hb dX8_offer_36 rfl (lv_at hl 0 rfl) ?_
    refine lv_iconst (v := -1) hx hb dX8_offer_37 (by decide) ?_
    obtain ⟨⟨r3, I3, J3⟩, hc3, h⟩ := ob h
    dsimp only at h
    refine callWVi (As := [.int (-1 : Int32)]) (rest := []) hC (c_X8_no l g ad I J (-1 : Int32)  H.size hc3) lk_X8_92 rfl rfl ⟨Nat.le_of_ble_eq_true rfl, Nat.le_of_ble_eq_true rfl⟩ hP hK hD hA hS mo_0 rfl rfl rfl hl (Nat.le_of_ble_eq_true rfl) dX8_offer_38 (fun H locs hP hD hS => ?_)
    obtain ⟨h1, h⟩ := Prod.mk.inj (Option.some.inj h)
    obtain ⟨rfl, rfl⟩ := Prod.mk.inj h
    exact hret _ _ _ _ _ dX8_offer_41 h1 hP hD hS
  · replace h := (if_neg c2).symm.trans h
    refine lv_aload_n hx hb dX8_offer_8 rfl (lv_at hl 0 rfl) ?_
    refine lv_iload_n hx hb dX8_offer_9 rfl (lv_at hl 2 rfl) ?_
    obtain ⟨r4, hc4, h⟩ := ob h
    refine callRV (As := [.int v2]) (rest := []) hC (c_X8_isTerm l g ad I J v2  hc4) lk_X8_155 rfl rfl ⟨Nat.le_of_ble_eq_true rfl, Nat.le_of_ble_eq_true rfl⟩ hP hK mo_0 rfl rfl rfl hl (Nat.le_of_ble_eq_true rfl) dX8_offer_10 ?_
    refine lv_if_eq (tgt := 36) hx hb dX8_offer_13 (by decide) (fun c5 => ?_) (fun c5 => ?_)
    · replace h := (if_pos c5).symm.trans h
      refine lv_aload_n hx hb dX8_offer_36 rfl (lv_at hl 0 rfl) ?_
      refine lv_iconst (v := -1) hx hb dX8_offer_37 (by decide) ?_
      obtain ⟨⟨r6, I6, J6⟩, hc6, h⟩ := ob h
      dsimp only at h
      refine callWVi (As := [.int (-1 : Int32)]) (rest := []) hC (c_X8_no l g ad I J (-1 : Int32)  H.size hc6) lk_X8_92 rfl rfl ⟨Nat.le_of_ble_eq_true rfl, Nat.le_of_ble_eq_true rfl⟩ hP hK hD hA hS mo_0 rfl rfl rfl hl (Nat.le_of_ble_eq_true rfl) dX8_offer_38 (fun H locs hP hD hS => ?_)
      obtain ⟨h1, h⟩ := Prod.mk.inj (Option.some.inj h)
      obtain ⟨rfl, rfl⟩ := Prod.mk.inj h
      exact hret _ _ _ _ _ dX8_offer_41 h1 hP hD hS
    · replace h := (if_neg c5).symm.trans h
      refine lv_iload_n hx hb dX8_offer_16 rfl (lv_at hl 3 rfl) ?_
      refine lv_iconst (v := 0) hx hb dX8_offer_17 (by decide) ?_
      refine lv_bipush (v := 9) hx hb dX8_offer_18 (by decide) ?_
      obtain ⟨r7, hc7, h⟩ := ob h
      refine callRS (As := [.int v3, .int (0 : Int32), .int (9 : Int32)]) (rest := []) hC (c_X8_isIn l g (mW ad g I J) v3 (0 : Int32) (9 : Int32) hc7) lk_X8_104 rfl rfl ⟨Nat.le_of_ble_eq_true rfl, Nat.le_of_ble_eq_true rfl⟩ hP hK rfl rfl hl (Nat.le_of_ble_eq_true rfl) dX8_offer_20 ?_
      refine lv_if_eq (tgt := 36) hx hb dX8_offer_23 (by decide) (fun c8 => ?_) (fun c8 => ?_)
      · replace h := (if_pos c8).symm.trans h
        refine lv_aload_n hx hb dX8_offer_36 rfl (lv_at hl 0 rfl) ?_
        refine lv_iconst (v := -1) hx hb dX8_offer_37 (by decide) ?_
        obtain ⟨⟨r9, I9, J9⟩, hc9, h⟩ := ob h
        dsimp only at h
        refine callWVi (As := [.int (-1 : Int32)]) (rest := []) hC (c_X8_no l g ad I J (-1 : Int32)  H.size hc9) lk_X8_92 rfl rfl ⟨Nat.le_of_ble_eq_true rfl, Nat.le_of_ble_eq_true rfl⟩ hP hK hD hA hS mo_0 rfl rfl rfl hl (Nat.le_of_ble_eq_true rfl) dX8_offer_38 (fun H locs hP hD hS => ?_)
        obtain ⟨h1, h⟩ := Prod.mk.inj (Option.some.inj h)
        obtain ⟨rfl, rfl⟩ := Prod.mk.inj h
        exact hret _ _ _ _ _ dX8_offer_41 h1 hP hD hS
      · replace h := (if_neg c8).symm.trans h
        refine lv_aload_n hx hb dX8_offer_26 rfl (lv_at hl 0 rfl) ?_
        refine lv_iload_n hx hb dX8_offer_27 rfl (lv_at hl 1 rfl) ?_
        refine lv_iload_n hx hb dX8_offer_28 rfl (lv_at hl 2 rfl) ?_
        refine lv_iload_n hx hb dX8_offer_29 rfl (lv_at hl 3 rfl) ?_
        obtain ⟨⟨r10, I10, J10⟩, hc10, h⟩ := ob h
        dsimp only at h
        refine callWVi (As := [.int v1, .int v2, .int v3]) (rest := []) hC (c_X8_offered l g ad I J v1 v2 v3  H.size hc10) lk_X8_273 rfl rfl ⟨Nat.le_of_ble_eq_true rfl, Nat.le_of_ble_eq_true rfl⟩ hP hK hD hA hS mo_0 rfl rfl rfl hl (Nat.le_of_ble_eq_true rfl) dX8_offer_30 (fun H locs hP hD hS => ?_)
        refine lv_goto (tgt := 41) hx hb dX8_offer_33 (by decide) ?_
        obtain ⟨h1, h⟩ := Prod.mk.inj (Option.some.inj h)
        obtain ⟨rfl, rfl⟩ := Prod.mk.inj h
        exact hret _ _ _ _ _ dX8_offer_41 h1 hP hD hS
def F_X8_parts (I : SI) (J : SJ) (v1 : Int32) (v2 : Int32) (v3 : Int32) : Option (Int32 × SI × SJ) := ((F_X8_isTerm I J v1).bind fun r1 => (if r1 = 0 then ((F_X8_no I J (-1 : Int32)).bind fun (r3, I3, J3) => (some (r3, I3, J3))) else ((F_X8_isTerm I J v2).bind fun r4 => (if r4 = 0 then ((F_X8_no I J (-1 : Int32)).bind fun (r6, I6, J6) => (some (r6, I6, J6))) else ((F_X8_isIn v3 (1 : Int32) (9 : Int32)).bind fun r7 => (if r7 = 0 then ((F_X8_no I J (-1 : Int32)).bind fun (r13, I13, J13) => (some (r13, I13, J13))) else ((F_X8_offered I J v1 v2 (0 : Int32)).bind fun (r9, I9, J9) => ((F_X8_offered I9 J9 v1 v2 v3).bind fun (r10, I10, J10) => (some ((if r9 = r10 then (0 : Int32) else (1 : Int32)), I10, J10))))))))))
set_option maxHeartbeats 4000000 in
set_option maxRecDepth 100000 in
theorem c_X8_parts (l : Launch) (g : Gx) (ad : Nat → Nat) (I : SI) (J : SJ) (v1 : Int32) (v2 : Int32) (v3 : Int32)  (sz : Nat) {r : Int32} {rI : SI} {rJ : SJ} (h : F_X8_parts I J v1 v2 v3 = some (r, rI, rJ)) : Met l yX8_parts (Cond.code yX8_parts cX8_parts 4 (some .int) :: BG) (k2_rm 6 149) (PcW [.ref (ad 0), .int v1, .int v2, .int v3] g (mW ad g I J) sz) (QWi r g (mW ad g I J) (mW ad g rI rJ) sz) 0 0 (va_A (mW ad g I J) sz) := by
  refine mkWi (by decide) (Nat.le_of_ble_eq_true rfl) ?_
  intro p e s m args below meth c H locs ls A Q hC hK hP hD hA hS hl hret
  have hx := hC.1
  have hb := hC.2.1
  have hts := hC.2.2.2.2
  have hown := hC.2.2.2.1
  replace hl : lv_has ls 4 [(0, .ref (ad 0)), (1, .int v1), (2, .int v2), (3, .int v3)] := hl
  unfold F_X8_parts at h
  refine lv_aload_n hx hb dX8_parts_0 rfl (lv_at hl 0 rfl) ?_
  refine lv_iload_n hx hb dX8_parts_1 rfl (lv_at hl 1 rfl) ?_
  obtain ⟨r1, hc1, h⟩ := ob h
  refine callRV (As := [.int v1]) (rest := []) hC (c_X8_isTerm l g ad I J v1  hc1) lk_X8_155 rfl rfl ⟨Nat.le_of_ble_eq_true rfl, Nat.le_of_ble_eq_true rfl⟩ hP hK mo_0 rfl rfl rfl hl (Nat.le_of_ble_eq_true rfl) dX8_parts_2 ?_
  refine lv_if_eq (tgt := 26) hx hb dX8_parts_5 (by decide) (fun c2 => ?_) (fun c2 => ?_)
  · replace h := (if_pos c2).symm.trans h
    refine lv_aload_n hx hb dX8_parts_26 rfl (lv_at hl 0 rfl) ?_
    refine lv_iconst (v := -1) hx hb dX8_parts_27 (by decide) ?_
    obtain ⟨⟨r3, I3, J3⟩, hc3, h⟩ := ob h
    dsimp only at h
    refine callWVi (As := [.int (-1 : Int32)]) (rest := []) hC (c_X8_no l g ad I J (-1 : Int32)  H.size hc3) lk_X8_92 rfl rfl ⟨Nat.le_of_ble_eq_true rfl, Nat.le_of_ble_eq_true rfl⟩ hP hK hD hA hS mo_0 rfl rfl rfl hl (Nat.le_of_ble_eq_true rfl) dX8_parts_28 (fun H locs hP hD hS => ?_)
    obtain ⟨h1, h⟩ := Prod.mk.inj (Option.some.inj h)
    obtain ⟨rfl, rfl⟩ := Prod.mk.inj h
    exact hret _ _ _ _ _ dX8_parts_31 h1 hP hD hS
  · replace h := (if_neg c2).symm.trans h
    refine lv_aload_n hx hb dX8_parts_8 rfl (lv_at hl 0 rfl) ?_
    refine lv_iload_n hx hb dX8_parts_9 rfl (lv_at hl 2 rfl) ?_
    obtain ⟨r4, hc4, h⟩ := ob h
    refine callRV (As := [.int v2]) (rest := []) hC (c_X8_isTerm l g ad I J v2  hc4) lk_X8_155 rfl rfl ⟨Nat.le_of_ble_eq_true rfl, Nat.le_of_ble_eq_true rfl⟩ hP hK mo_0 rfl rfl rfl hl (Nat.le_of_ble_eq_true rfl) dX8_parts_10 ?_
    refine lv_if_eq (tgt := 26) hx hb dX8_parts_13 (by decide) (fun c5 => ?_) (fun c5 => ?_)
    · replace h := (if_pos c5).symm.trans h
      refine lv_aload_n hx hb dX8_parts_26 rfl (lv_at hl 0 rfl) ?_
      refine lv_iconst (v := -1) hx hb dX8_parts_27 (by decide) ?_
      obtain ⟨⟨r6, I6, J6⟩, hc6, h⟩ := ob h
      dsimp only at h
      refine callWVi (As := [.int (-1 : Int32)]) (rest := []) hC (c_X8_no l g ad I J (-1 : Int32)  H.size hc6) lk_X8_92 rfl rfl ⟨Nat.le_of_ble_eq_true rfl, Nat.le_of_ble_eq_true rfl⟩ hP hK hD hA hS mo_0 rfl rfl rfl hl (Nat.le_of_ble_eq_true rfl) dX8_parts_28 (fun H locs hP hD hS => ?_)
      obtain ⟨h1, h⟩ := Prod.mk.inj (Option.some.inj h)
      obtain ⟨rfl, rfl⟩ := Prod.mk.inj h
      exact hret _ _ _ _ _ dX8_parts_31 h1 hP hD hS
    · replace h := (if_neg c5).symm.trans h
      refine lv_iload_n hx hb dX8_parts_16 rfl (lv_at hl 3 rfl) ?_
      refine lv_iconst (v := 1) hx hb dX8_parts_17 (by decide) ?_
      refine lv_bipush (v := 9) hx hb dX8_parts_18 (by decide) ?_
      obtain ⟨r7, hc7, h⟩ := ob h
      refine callRS (As := [.int v3, .int (1 : Int32), .int (9 : Int32)]) (rest := []) hC (c_X8_isIn l g (mW ad g I J) v3 (1 : Int32) (9 : Int32) hc7) lk_X8_104 rfl rfl ⟨Nat.le_of_ble_eq_true rfl, Nat.le_of_ble_eq_true rfl⟩ hP hK rfl rfl hl (Nat.le_of_ble_eq_true rfl) dX8_parts_20 ?_
      refine lv_if_ne (tgt := 32) hx hb dX8_parts_23 (by decide) (fun c8 => ?_) (fun c8 => ?_)
      · replace h := (if_neg c8).symm.trans h
        refine lv_aload_n hx hb dX8_parts_32 rfl (lv_at hl 0 rfl) ?_
        refine lv_iload_n hx hb dX8_parts_33 rfl (lv_at hl 1 rfl) ?_
        refine lv_iload_n hx hb dX8_parts_34 rfl (lv_at hl 2 rfl) ?_
        refine lv_iconst (v := 0) hx hb dX8_parts_35 (by decide) ?_
        obtain ⟨⟨r9, I9, J9⟩, hc9, h⟩ := ob h
        dsimp only at h
        refine callWVi (As := [.int v1, .int v2, .int (0 : Int32)]) (rest := []) hC (c_X8_offered l g ad I J v1 v2 (0 : Int32)  H.size hc9) lk_X8_273 rfl rfl ⟨Nat.le_of_ble_eq_true rfl, Nat.le_of_ble_eq_true rfl⟩ hP hK hD hA hS mo_0 rfl rfl rfl hl (Nat.le_of_ble_eq_true rfl) dX8_parts_36 (fun H locs hP hD hS => ?_)
        refine lv_aload_n hx hb dX8_parts_39 rfl (lv_at hl 0 rfl) ?_
        refine lv_iload_n hx hb dX8_parts_40 rfl (lv_at hl 1 rfl) ?_
        refine lv_iload_n hx hb dX8_parts_41 rfl (lv_at hl 2 rfl) ?_
        refine lv_iload_n hx hb dX8_parts_42 rfl (lv_at hl 3 rfl) ?_
        obtain ⟨⟨r10, I10, J10⟩, hc10, h⟩ := ob h
        dsimp only at h
        refine callWVi (As := [.int v1, .int v2, .int v3]) (rest := [.int r9]) hC (c_X8_offered l g ad I9 J9 v1 v2 v3  H.size hc10) lk_X8_273 rfl rfl ⟨Nat.le_of_ble_eq_true rfl, Nat.le_of_ble_eq_true rfl⟩ hP hK hD hA hS mo_0 rfl rfl rfl hl (Nat.le_of_ble_eq_true rfl) dX8_parts_43 (fun H locs hP hD hS => ?_)
        refine tern (α := Int32) (cnd := r9 = r10) (a := (0 : Int32)) (b := (1 : Int32)) (Wj := fun vj => W p l e (k2_rm 6 149) s m args below meth c H locs 0 0 Q (F0 m 54 ls [.int vj])) (fun k12a k12b => ?_) ?_
        · refine lv_icmp_eq (tgt := 53) hx hb dX8_parts_46 (by decide) (fun c11 => ?_) (fun c11 => ?_)
          · refine lv_iconst (v := 0) hx hb dX8_parts_53 (by decide) ?_
            exact k12a c11
          · refine lv_iconst (v := 1) hx hb dX8_parts_49 (by decide) ?_
            refine lv_goto (tgt := 54) hx hb dX8_parts_50 (by decide) ?_
            exact k12b c11
        · show W p l e (k2_rm 6 149) s m args below meth c H locs 0 0 Q (F0 m 54 ls [.int (if r9 = r10 then (0 : Int32) else (1 : Int32))])
          obtain ⟨h1, h⟩ := Prod.mk.inj (Option.some.inj h)
          obtain ⟨rfl, rfl⟩ := Prod.mk.inj h
          exact hret _ _ _ _ _ dX8_parts_54 h1 hP hD hS
      · replace h := (if_pos c8).symm.trans h
        refine lv_aload_n hx hb dX8_parts_26 rfl (lv_at hl 0 rfl) ?_
        refine lv_iconst (v := -1) hx hb dX8_parts_27 (by decide) ?_
        obtain ⟨⟨r13, I13, J13⟩, hc13, h⟩ := ob h
        dsimp only at h
        refine callWVi (As := [.int (-1 : Int32)]) (rest := []) hC (c_X8_no l g ad I J (-1 : Int32)  H.size hc13) lk_X8_92 rfl rfl ⟨Nat.le_of_ble_eq_true rfl, Nat.le_of_ble_eq_true rfl⟩ hP hK hD hA hS mo_0 rfl rfl rfl hl (Nat.le_of_ble_eq_true rfl) dX8_parts_28 (fun H locs hP hD hS => ?_)
        obtain ⟨h1, h⟩ := Prod.mk.inj (Option.some.inj h)
        obtain ⟨rfl, rfl⟩ := Prod.mk.inj h
        exact hret _ _ _ _ _ dX8_parts_31 h1 hP hD hS
def FS_X8_own_90  : Nat → SI → SJ → Int32 → Int32 → Int64 → Int32 → Int32 → Int64 → Int32 → Option (SI × SJ × Int32 × Int32 × Int64 × Int32 × Int32 × Int64 × Int32)
  | 0, _, _, _, _, _, _, _, _, _ => none
  | n + 1, I, J, w2_90, w4_90, w5_90, w7_90, w8_90, w9_90, w11_90 => ((F_X8_allWeathers I J).bind fun r9 => (if r9 ≤ w11_90 then (some (I, J, w2_90, w4_90, w5_90, w7_90, w8_90, w9_90, w11_90)) else ((F_X8_chanceOf I J w11_90).bind fun r11 => ((F_X8_reaped I J w7_90 w11_90).bind fun r12 => ((F_X8_hasOf I J (0 : Int32) r12 (0 : Int32)).bind fun r13 => ((F_X8_mindOf I J (0 : Int32) (r13 + (w2_90 * w8_90))).bind fun r14 => (FS_X8_own_90 n I J w2_90 w4_90 w5_90 w7_90 w8_90 (w9_90 + ((Int32.toInt64 r11) * (Int32.toInt64 r14))) (w11_90 + 1))))))))
def FS_X8_own_59  : Nat → SI → SJ → Int32 → Int32 → Int64 → Int32 → Int32 → Option (SI × SJ × Int32 × Int32 × Int64 × Int32 × Int32)
  | 0, _, _, _, _, _, _, _ => none
  | n + 1, I, J, w2_59, w4_59, w5_59, w7_59, w8_59 => (if (I 0 7) < (w7_59 + w8_59) then (some (I, J, w2_59, w4_59, w5_59, w7_59, w8_59)) else ((F_X8_costOf I J (w7_59 + w8_59)).bind fun r8 => ((FS_X8_own_90 3000 I J w2_59 w4_59 w5_59 w7_59 w8_59 ((-1000 : Int64) * (Int32.toInt64 r8)) (0 : Int32)).bind fun (I15, J15, u2_15, u4_15, u5_15, u7_15, u8_15, u9_15, u11_15) => (if u4_15 < 0 then (FS_X8_own_59 n I15 J15 u2_15 (((10 : Int32) * u7_15) + u8_15) u9_15 u7_15 (u8_15 + 1)) else (if u5_15 < u9_15 then (FS_X8_own_59 n I15 J15 u2_15 (((10 : Int32) * u7_15) + u8_15) u9_15 u7_15 (u8_15 + 1)) else (FS_X8_own_59 n I15 J15 u2_15 u4_15 u5_15 u7_15 (u8_15 + 1)))))))
def FL_X8_own_47  : Nat → SI → SJ → Int32 → Int32 → Int64 → Int32 → Option (Int32 × SI × SJ)
  | 0, _, _, _, _, _, _ => none
  | n + 1, I, J, w2_47, w4_47, w5_47, w7_47 => (if (I 0 7) < w7_47 then (some (w4_47, I, J)) else ((FS_X8_own_59 3000 I J w2_47 w4_47 w5_47 w7_47 (0 : Int32)).bind fun (I18, J18, u2_18, u4_18, u5_18, u7_18, u8_18) => (FL_X8_own_47 n I18 J18 u2_18 u4_18 u5_18 (u7_18 + 1))))
def F_X8_own (I : SI) (J : SJ) (v1 : Int32) (v2 : Int32) : Option (Int32 × SI × SJ) := ((F_X8_isTerm I J v1).bind fun r1 => (if r1 = 0 then ((F_X8_no I J (-1 : Int32)).bind fun (r20, I20, J20) => (some (r20, I20, J20))) else ((F_X8_bound v2 (0 : Int32) (99 : Int32)).bind fun r3 => (if r3 = 0 then ((F_X8_takesTerm I J v1).bind fun (I5, J5) => (FL_X8_own_47 3000 I5 J5 v2 (-9 : Int32) (0 : Int64) (0 : Int32))) else ((F_X8_no I J r3).bind fun (r19, I19, J19) => (some (r19, I19, J19)))))))
set_option maxHeartbeats 4000000 in
set_option maxRecDepth 100000 in
theorem c_X8_own (l : Launch) (g : Gx) (ad : Nat → Nat) (I : SI) (J : SJ) (v1 : Int32) (v2 : Int32)  (sz : Nat) {r : Int32} {rI : SI} {rJ : SJ} (h : F_X8_own I J v1 v2 = some (r, rI, rJ)) : Met l yX8_own (Cond.code yX8_own cX8_own 12 (some .int) :: BG) (k2_rm 2 47) (PcW [.ref (ad 0), .int v1, .int v2] g (mW ad g I J) sz) (QWi r g (mW ad g I J) (mW ad g rI rJ) sz) 0 0 (va_A (mW ad g I J) sz) := by
  refine mkWi (by decide) (Nat.le_of_ble_eq_true rfl) ?_
  intro p e s m args below meth c H locs ls A Q hC hK hP hD hA hS hl hret
  have hx := hC.1
  have hb := hC.2.1
  have hts := hC.2.2.2.2
  have hown := hC.2.2.2.1
  replace hl : lv_has ls 12 [(0, .ref (ad 0)), (1, .int v1), (2, .int v2)] := hl
  have loop_90 : ∀ (n : Nat) (I : SI) (J : SJ) (w2_90 : Int32) (w4_90 : Int32) (w5_90 : Int64) (w7_90 : Int32) (w8_90 : Int32) (w9_90 : Int64) (w11_90 : Int32) (o0 : SI) (o1 : SJ) (o2 : Int32) (o3 : Int32) (o4 : Int64) (o5 : Int32) (o6 : Int32) (o7 : Int64) (o8 : Int32) (H : Heap) (locs : List Loc) (ls : Array Slot), FS_X8_own_90 n I J w2_90 w4_90 w5_90 w7_90 w8_90 w9_90 w11_90 = some (o0, o1, o2, o3, o4, o5, o6, o7, o8) → Pg g (mW ad g I J) H → va_D A (mW ad g I J) → va_S A s.heap H locs → lv_has ls 12 [(0, .ref (ad 0)), (2, .int w2_90), (4, .int w4_90), (5, .long w5_90), (7, .int w7_90), (8, .int w8_90), (9, .long w9_90), (11, .int w11_90)] → (∀ (H : Heap) (locs : List Loc) (ls : Array Slot), Pg g (mW ad g o0 o1) H → va_D A (mW ad g o0 o1) → va_S A s.heap H locs → lv_has ls 12 [(0, .ref (ad 0)), (2, .int o2), (4, .int o3), (5, .long o4), (7, .int o5), (8, .int o6), (9, .long o7), (11, .int o8)] → W p l e (k2_rm 2 47) s m args below meth c H locs 0 0 Q (F0 m 143 ls [])) → W p l e (k2_rm 2 47) s m args below meth c H locs 0 0 Q (F0 m 90 ls []) := by
    intro n
    induction n with
    | zero =>
      intro I J w2_90 w4_90 w5_90 w7_90 w8_90 w9_90 w11_90 o0 o1 o2 o3 o4 o5 o6 o7 o8 H locs ls h
      exact no h
    | succ n ih =>
      intro I J w2_90 w4_90 w5_90 w7_90 w8_90 w9_90 w11_90 o0 o1 o2 o3 o4 o5 o6 o7 o8 H locs ls h hP hD hS hl hexit
      rw [FS_X8_own_90] at h
      refine lv_iload hx hb dX8_own_90 (lv_at hl 7 rfl) ?_
      refine lv_aload_n hx hb dX8_own_92 rfl (lv_at hl 0 rfl) ?_
      obtain ⟨r9, hc9, h⟩ := ob h
      refine callRV (As := []) (rest := [.int w11_90]) hC (c_X8_allWeathers l g ad I J   hc9) lk_X8_158 rfl rfl ⟨Nat.le_of_ble_eq_true rfl, Nat.le_of_ble_eq_true rfl⟩ hP hK mo_0 rfl rfl rfl hl (Nat.le_of_ble_eq_true rfl) dX8_own_93 ?_
      refine lv_icmp_ge (tgt := 143) hx hb dX8_own_96 (by decide) (fun c10 => ?_) (fun c10 => ?_)
      · replace h := (if_pos c10).symm.trans h
        cases h
        exact hexit _ _ _ hP hD hS (lv_sub hl [0, 1, 2, 3, 4, 5, 6, 7] rfl)
      · replace h := (if_neg c10).symm.trans h
        refine lv_lload hx hb dX8_own_99 (lv_at hl 6 rfl) ?_
        refine lv_aload_n hx hb dX8_own_101 rfl (lv_at hl 0 rfl) ?_
        refine lv_iload hx hb dX8_own_102 (lv_at hl 7 rfl) ?_
        obtain ⟨r11, hc11, h⟩ := ob h
        refine callRV (As := [.int w11_90]) (rest := [.long w9_90]) hC (c_X8_chanceOf l g ad I J w11_90  hc11) lk_X8_161 rfl rfl ⟨Nat.le_of_ble_eq_true rfl, Nat.le_of_ble_eq_true rfl⟩ hP hK mo_0 rfl rfl rfl hl (Nat.le_of_ble_eq_true rfl) dX8_own_104 ?_
        refine lv_i2l hx hb dX8_own_107 rfl ?_
        refine lv_aload_n hx hb dX8_own_108 rfl (lv_at hl 0 rfl) ?_
        refine lv_iconst (v := 0) hx hb dX8_own_109 (by decide) ?_
        refine lv_aload_n hx hb dX8_own_110 rfl (lv_at hl 0 rfl) ?_
        refine lv_iconst (v := 0) hx hb dX8_own_111 (by decide) ?_
        refine lv_aload_n hx hb dX8_own_112 rfl (lv_at hl 0 rfl) ?_
        refine lv_iload hx hb dX8_own_113 (lv_at hl 4 rfl) ?_
        refine lv_iload hx hb dX8_own_115 (lv_at hl 7 rfl) ?_
        obtain ⟨r12, hc12, h⟩ := ob h
        refine callRV (As := [.int w7_90, .int w11_90]) (rest := [.int (0 : Int32), .ref (ad 0), .int (0 : Int32), .ref (ad 0), .long (Int32.toInt64 r11), .long w9_90]) hC (c_X8_reaped l g ad I J w7_90 w11_90  hc12) lk_X8_188 rfl rfl ⟨Nat.le_of_ble_eq_true rfl, Nat.le_of_ble_eq_true rfl⟩ hP hK mo_0 rfl rfl rfl hl (Nat.le_of_ble_eq_true rfl) dX8_own_117 ?_
        refine lv_iconst (v := 0) hx hb dX8_own_120 (by decide) ?_
        obtain ⟨r13, hc13, h⟩ := ob h
        refine callRV (As := [.int (0 : Int32), .int r12, .int (0 : Int32)]) (rest := [.int (0 : Int32), .ref (ad 0), .long (Int32.toInt64 r11), .long w9_90]) hC (c_X8_hasOf l g ad I J (0 : Int32) r12 (0 : Int32)  hc13) lk_X8_191 rfl rfl ⟨Nat.le_of_ble_eq_true rfl, Nat.le_of_ble_eq_true rfl⟩ hP hK mo_0 rfl rfl rfl hl (Nat.le_of_ble_eq_true rfl) dX8_own_121 ?_
        refine lv_iload_n hx hb dX8_own_124 rfl (lv_at hl 1 rfl) ?_
        refine lv_iload hx hb dX8_own_125 (lv_at hl 5 rfl) ?_
        refine lv_imul hx hb dX8_own_127 ?_
        refine lv_iadd hx hb dX8_own_128 ?_
        obtain ⟨r14, hc14, h⟩ := ob h
        refine callRV (As := [.int (0 : Int32), .int (r13 + (w2_90 * w8_90))]) (rest := [.long (Int32.toInt64 r11), .long w9_90]) hC (c_X8_mindOf l g ad I J (0 : Int32) (r13 + (w2_90 * w8_90))  hc14) lk_X8_194 rfl rfl ⟨Nat.le_of_ble_eq_true rfl, Nat.le_of_ble_eq_true rfl⟩ hP hK mo_0 rfl rfl rfl hl (Nat.le_of_ble_eq_true rfl) dX8_own_129 ?_
        refine lv_i2l hx hb dX8_own_132 rfl ?_
        refine lv_lmul hx hb dX8_own_133 ?_
        refine lv_ladd hx hb dX8_own_134 ?_
        refine lv_lstore (lv' := [(9, .long (w9_90 + ((Int32.toInt64 r11) * (Int32.toInt64 r14)))), (0, .ref (ad 0)), (2, .int w2_90), (4, .int w4_90), (5, .long w5_90), (7, .int w7_90), (8, .int w8_90), (11, .int w11_90)]) hx hb dX8_own_135 hl (by decide) rfl (fun ls hl => ?_)
        refine lv_iinc (v := (w11_90 + 1)) (lv' := [(11, .int (w11_90 + 1)), (9, .long (w9_90 + ((Int32.toInt64 r11) * (Int32.toInt64 r14)))), (0, .ref (ad 0)), (2, .int w2_90), (4, .int w4_90), (5, .long w5_90), (7, .int w7_90), (8, .int w8_90)]) hx hb dX8_own_137 hl (k := 7) rfl rfl (by decide) rfl (fun ls hl => ?_)
        refine lv_goto (tgt := 90) hx hb dX8_own_140 (by decide) ?_
        exact ih I J w2_90 w4_90 w5_90 w7_90 w8_90 (w9_90 + ((Int32.toInt64 r11) * (Int32.toInt64 r14))) (w11_90 + 1) _ _ _ _ _ _ _ _ _ _ _ _ h hP hD hS (lv_sub hl [2, 3, 4, 5, 6, 7, 1, 0] rfl) hexit
  have loop_59 : ∀ (n : Nat) (I : SI) (J : SJ) (w2_59 : Int32) (w4_59 : Int32) (w5_59 : Int64) (w7_59 : Int32) (w8_59 : Int32) (o0 : SI) (o1 : SJ) (o2 : Int32) (o3 : Int32) (o4 : Int64) (o5 : Int32) (o6 : Int32) (H : Heap) (locs : List Loc) (ls : Array Slot), FS_X8_own_59 n I J w2_59 w4_59 w5_59 w7_59 w8_59 = some (o0, o1, o2, o3, o4, o5, o6) → Pg g (mW ad g I J) H → va_D A (mW ad g I J) → va_S A s.heap H locs → lv_has ls 12 [(0, .ref (ad 0)), (2, .int w2_59), (4, .int w4_59), (5, .long w5_59), (7, .int w7_59), (8, .int w8_59)] → (∀ (H : Heap) (locs : List Loc) (ls : Array Slot), Pg g (mW ad g o0 o1) H → va_D A (mW ad g o0 o1) → va_S A s.heap H locs → lv_has ls 12 [(0, .ref (ad 0)), (2, .int o2), (4, .int o3), (5, .long o4), (7, .int o5), (8, .int o6)] → W p l e (k2_rm 2 47) s m args below meth c H locs 0 0 Q (F0 m 179 ls [])) → W p l e (k2_rm 2 47) s m args below meth c H locs 0 0 Q (F0 m 59 ls []) := by
    intro n
    induction n with
    | zero =>
      intro I J w2_59 w4_59 w5_59 w7_59 w8_59 o0 o1 o2 o3 o4 o5 o6 H locs ls h
      exact no h
    | succ n ih =>
      intro I J w2_59 w4_59 w5_59 w7_59 w8_59 o0 o1 o2 o3 o4 o5 o6 H locs ls h hP hD hS hl hexit
      rw [FS_X8_own_59] at h
      refine lv_iload hx hb dX8_own_59 (lv_at hl 4 rfl) ?_
      refine lv_iload hx hb dX8_own_61 (lv_at hl 5 rfl) ?_
      refine lv_iadd hx hb dX8_own_63 ?_
      refine lv_aload_n hx hb dX8_own_64 rfl (lv_at hl 0 rfl) ?_
      refine gt_X8_125 hC hK hP dX8_own_65 ?_
      refine lv_icmp_gt (tgt := 179) hx hb dX8_own_68 (by decide) (fun c7 => ?_) (fun c7 => ?_)
      · replace h := (if_pos c7).symm.trans h
        cases h
        exact hexit _ _ _ hP hD hS (lv_sub hl [0, 1, 2, 3, 4, 5] rfl)
      · replace h := (if_neg c7).symm.trans h
        refine lv_ldc2 hx hb hown (hts _ kc_X8_276) dX8_own_71 ?_
        refine lv_aload_n hx hb dX8_own_74 rfl (lv_at hl 0 rfl) ?_
        refine lv_iload hx hb dX8_own_75 (lv_at hl 4 rfl) ?_
        refine lv_iload hx hb dX8_own_77 (lv_at hl 5 rfl) ?_
        refine lv_iadd hx hb dX8_own_79 ?_
        obtain ⟨r8, hc8, h⟩ := ob h
        refine callRV (As := [.int (w7_59 + w8_59)]) (rest := [.long (-1000 : Int64)]) hC (c_X8_costOf l g ad I J (w7_59 + w8_59)  hc8) lk_X8_199 rfl rfl ⟨Nat.le_of_ble_eq_true rfl, Nat.le_of_ble_eq_true rfl⟩ hP hK mo_0 rfl rfl rfl hl (Nat.le_of_ble_eq_true rfl) dX8_own_80 ?_
        refine lv_i2l hx hb dX8_own_83 rfl ?_
        refine lv_lmul hx hb dX8_own_84 ?_
        refine lv_lstore (lv' := [(9, .long ((-1000 : Int64) * (Int32.toInt64 r8))), (0, .ref (ad 0)), (2, .int w2_59), (4, .int w4_59), (5, .long w5_59), (7, .int w7_59), (8, .int w8_59)]) hx hb dX8_own_85 hl (by decide) rfl (fun ls hl => ?_)
        refine lv_iconst (v := 0) hx hb dX8_own_87 (by decide) ?_
        refine lv_istore (lv' := [(11, .int (0 : Int32)), (9, .long ((-1000 : Int64) * (Int32.toInt64 r8))), (0, .ref (ad 0)), (2, .int w2_59), (4, .int w4_59), (5, .long w5_59), (7, .int w7_59), (8, .int w8_59)]) hx hb dX8_own_88 hl (by decide) rfl (fun ls hl => ?_)
        obtain ⟨⟨I15, J15, u2_15, u4_15, u5_15, u7_15, u8_15, u9_15, u11_15⟩, hc15, h⟩ := ob h
        dsimp only at h
        refine loop_90 3000 I J w2_59 w4_59 w5_59 w7_59 w8_59 ((-1000 : Int64) * (Int32.toInt64 r8)) (0 : Int32) I15 J15 u2_15 u4_15 u5_15 u7_15 u8_15 u9_15 u11_15 _ _ _ hc15 hP hD hS (lv_sub hl [2, 3, 4, 5, 6, 7, 1, 0] rfl) (fun H locs ls hP hD hS hl => ?_)
        refine lv_iload hx hb dX8_own_143 (lv_at hl 2 rfl) ?_
        refine lv_if_lt (tgt := 159) hx hb dX8_own_145 (by decide) (fun c16 => ?_) (fun c16 => ?_)
        · replace h := (if_pos c16).symm.trans h
          refine lv_bipush (v := 10) hx hb dX8_own_159 (by decide) ?_
          refine lv_iload hx hb dX8_own_161 (lv_at hl 4 rfl) ?_
          refine lv_imul hx hb dX8_own_163 ?_
          refine lv_iload hx hb dX8_own_164 (lv_at hl 5 rfl) ?_
          refine lv_iadd hx hb dX8_own_166 ?_
          refine lv_istore (lv' := [(4, .int (((10 : Int32) * u7_15) + u8_15)), (0, .ref (ad 0)), (2, .int u2_15), (5, .long u5_15), (7, .int u7_15), (8, .int u8_15), (9, .long u9_15), (11, .int u11_15)]) hx hb dX8_own_167 hl (by decide) rfl (fun ls hl => ?_)
          refine lv_lload hx hb dX8_own_169 (lv_at hl 6 rfl) ?_
          refine lv_lstore (lv' := [(5, .long u9_15), (4, .int (((10 : Int32) * u7_15) + u8_15)), (0, .ref (ad 0)), (2, .int u2_15), (7, .int u7_15), (8, .int u8_15), (9, .long u9_15), (11, .int u11_15)]) hx hb dX8_own_171 hl (by decide) rfl (fun ls hl => ?_)
          refine lv_iinc (v := (u8_15 + 1)) (lv' := [(8, .int (u8_15 + 1)), (5, .long u9_15), (4, .int (((10 : Int32) * u7_15) + u8_15)), (0, .ref (ad 0)), (2, .int u2_15), (7, .int u7_15), (9, .long u9_15), (11, .int u11_15)]) hx hb dX8_own_173 hl (k := 5) rfl rfl (by decide) rfl (fun ls hl => ?_)
          refine lv_goto (tgt := 59) hx hb dX8_own_176 (by decide) ?_
          exact ih I15 J15 u2_15 (((10 : Int32) * u7_15) + u8_15) u9_15 u7_15 (u8_15 + 1) _ _ _ _ _ _ _ _ _ _ h hP hD hS (lv_sub hl [3, 4, 2, 1, 5, 0] rfl) hexit
        · replace h := (if_neg c16).symm.trans h
          refine lv_lload hx hb dX8_own_148 (lv_at hl 6 rfl) ?_
          refine lv_lload hx hb dX8_own_150 (lv_at hl 3 rfl) ?_
          refine W.lcmp hx hb dX8_own_152 ?_
          refine lv_if_gt (tgt := 159) hx hb dX8_own_153 (by decide) (fun c17 => ?_) (fun c17 => ?_)
          · replace h := (if_pos ((lg_cmp_gt _ _).mp c17)).symm.trans h
            refine lv_bipush (v := 10) hx hb dX8_own_159 (by decide) ?_
            refine lv_iload hx hb dX8_own_161 (lv_at hl 4 rfl) ?_
            refine lv_imul hx hb dX8_own_163 ?_
            refine lv_iload hx hb dX8_own_164 (lv_at hl 5 rfl) ?_
            refine lv_iadd hx hb dX8_own_166 ?_
            refine lv_istore (lv' := [(4, .int (((10 : Int32) * u7_15) + u8_15)), (0, .ref (ad 0)), (2, .int u2_15), (5, .long u5_15), (7, .int u7_15), (8, .int u8_15), (9, .long u9_15), (11, .int u11_15)]) hx hb dX8_own_167 hl (by decide) rfl (fun ls hl => ?_)
            refine lv_lload hx hb dX8_own_169 (lv_at hl 6 rfl) ?_
            refine lv_lstore (lv' := [(5, .long u9_15), (4, .int (((10 : Int32) * u7_15) + u8_15)), (0, .ref (ad 0)), (2, .int u2_15), (7, .int u7_15), (8, .int u8_15), (9, .long u9_15), (11, .int u11_15)]) hx hb dX8_own_171 hl (by decide) rfl (fun ls hl => ?_)
            refine lv_iinc (v := (u8_15 + 1)) (lv' := [(8, .int (u8_15 + 1)), (5, .long u9_15), (4, .int (((10 : Int32) * u7_15) + u8_15)), (0, .ref (ad 0)), (2, .int u2_15), (7, .int u7_15), (9, .long u9_15), (11, .int u11_15)]) hx hb dX8_own_173 hl (k := 5) rfl rfl (by decide) rfl (fun ls hl => ?_)
            refine lv_goto (tgt := 59) hx hb dX8_own_176 (by decide) ?_
            exact ih I15 J15 u2_15 (((10 : Int32) * u7_15) + u8_15) u9_15 u7_15 (u8_15 + 1) _ _ _ _ _ _ _ _ _ _ h hP hD hS (lv_sub hl [3, 4, 2, 1, 5, 0] rfl) hexit
          · replace h := (if_neg (fun hh => c17 ((lg_cmp_gt _ _).mpr hh))).symm.trans h
            refine lv_goto (tgt := 173) hx hb dX8_own_156 (by decide) ?_
            refine lv_iinc (v := (u8_15 + 1)) (lv' := [(8, .int (u8_15 + 1)), (0, .ref (ad 0)), (2, .int u2_15), (4, .int u4_15), (5, .long u5_15), (7, .int u7_15), (9, .long u9_15), (11, .int u11_15)]) hx hb dX8_own_173 hl (k := 5) rfl rfl (by decide) rfl (fun ls hl => ?_)
            refine lv_goto (tgt := 59) hx hb dX8_own_176 (by decide) ?_
            exact ih I15 J15 u2_15 u4_15 u5_15 u7_15 (u8_15 + 1) _ _ _ _ _ _ _ _ _ _ h hP hD hS (lv_sub hl [1, 2, 3, 4, 5, 0] rfl) hexit
  have loop_47 : ∀ (n : Nat) (I : SI) (J : SJ) (w2_47 : Int32) (w4_47 : Int32) (w5_47 : Int64) (w7_47 : Int32)  (H : Heap) (locs : List Loc) (ls : Array Slot), FL_X8_own_47 n I J w2_47 w4_47 w5_47 w7_47 = some (r, rI, rJ) → Pg g (mW ad g I J) H → va_D A (mW ad g I J) → va_S A s.heap H locs → lv_has ls 12 [(0, .ref (ad 0)), (2, .int w2_47), (4, .int w4_47), (5, .long w5_47), (7, .int w7_47)] → W p l e (k2_rm 2 47) s m args below meth c H locs 0 0 Q (F0 m 47 ls []) := by
    intro n
    induction n with
    | zero =>
      intro I J w2_47 w4_47 w5_47 w7_47 H locs ls h
      exact no h
    | succ n ih =>
      intro I J w2_47 w4_47 w5_47 w7_47 H locs ls h hP hD hS hl
      rw [FL_X8_own_47] at h
      refine lv_iload hx hb dX8_own_47 (lv_at hl 4 rfl) ?_
      refine lv_aload_n hx hb dX8_own_49 rfl (lv_at hl 0 rfl) ?_
      refine gt_X8_125 hC hK hP dX8_own_50 ?_
      refine lv_icmp_gt (tgt := 185) hx hb dX8_own_53 (by decide) (fun c6 => ?_) (fun c6 => ?_)
      · replace h := (if_pos c6).symm.trans h
        refine lv_iload hx hb dX8_own_185 (lv_at hl 2 rfl) ?_
        obtain ⟨h1, h⟩ := Prod.mk.inj (Option.some.inj h)
        obtain ⟨rfl, rfl⟩ := Prod.mk.inj h
        exact hret _ _ _ _ _ dX8_own_187 h1 hP hD hS
      · replace h := (if_neg c6).symm.trans h
        refine lv_iconst (v := 0) hx hb dX8_own_56 (by decide) ?_
        refine lv_istore (lv' := [(8, .int (0 : Int32)), (0, .ref (ad 0)), (2, .int w2_47), (4, .int w4_47), (5, .long w5_47), (7, .int w7_47)]) hx hb dX8_own_57 hl (by decide) rfl (fun ls hl => ?_)
        obtain ⟨⟨I18, J18, u2_18, u4_18, u5_18, u7_18, u8_18⟩, hc18, h⟩ := ob h
        dsimp only at h
        refine loop_59 3000 I J w2_47 w4_47 w5_47 w7_47 (0 : Int32) I18 J18 u2_18 u4_18 u5_18 u7_18 u8_18 _ _ _ hc18 hP hD hS (lv_sub hl [1, 2, 3, 4, 5, 0] rfl) (fun H locs ls hP hD hS hl => ?_)
        refine lv_iinc (v := (u7_18 + 1)) (lv' := [(7, .int (u7_18 + 1)), (0, .ref (ad 0)), (2, .int u2_18), (4, .int u4_18), (5, .long u5_18), (8, .int u8_18)]) hx hb dX8_own_179 hl (k := 4) rfl rfl (by decide) rfl (fun ls hl => ?_)
        refine lv_goto (tgt := 47) hx hb dX8_own_182 (by decide) ?_
        exact ih I18 J18 u2_18 u4_18 u5_18 (u7_18 + 1) _ _ _ h hP hD hS (lv_sub hl [1, 2, 3, 4, 0] rfl)
  unfold F_X8_own at h
  refine lv_aload_n hx hb dX8_own_0 rfl (lv_at hl 0 rfl) ?_
  refine lv_iload_n hx hb dX8_own_1 rfl (lv_at hl 1 rfl) ?_
  obtain ⟨r1, hc1, h⟩ := ob h
  refine callRV (As := [.int v1]) (rest := []) hC (c_X8_isTerm l g ad I J v1  hc1) lk_X8_155 rfl rfl ⟨Nat.le_of_ble_eq_true rfl, Nat.le_of_ble_eq_true rfl⟩ hP hK mo_0 rfl rfl rfl hl (Nat.le_of_ble_eq_true rfl) dX8_own_2 ?_
  refine lv_if_ne (tgt := 14) hx hb dX8_own_5 (by decide) (fun c2 => ?_) (fun c2 => ?_)
  · replace h := (if_neg c2).symm.trans h
    refine lv_iload_n hx hb dX8_own_14 rfl (lv_at hl 2 rfl) ?_
    refine lv_iconst (v := 0) hx hb dX8_own_15 (by decide) ?_
    refine lv_bipush (v := 99) hx hb dX8_own_16 (by decide) ?_
    obtain ⟨r3, hc3, h⟩ := ob h
    refine callRS (As := [.int v2, .int (0 : Int32), .int (99 : Int32)]) (rest := []) hC (c_X8_bound l g (mW ad g I J) v2 (0 : Int32) (99 : Int32) hc3) lk_X8_85 rfl rfl ⟨Nat.le_of_ble_eq_true rfl, Nat.le_of_ble_eq_true rfl⟩ hP hK rfl rfl hl (Nat.le_of_ble_eq_true rfl) dX8_own_18 ?_
    refine lv_istore_n (lv' := [(3, .int r3), (0, .ref (ad 0)), (1, .int v1), (2, .int v2)]) hx hb dX8_own_21 rfl hl (by decide) rfl (fun ls hl => ?_)
    refine lv_iload_n hx hb dX8_own_22 rfl (lv_at hl 0 rfl) ?_
    refine lv_if_eq (tgt := 32) hx hb dX8_own_23 (by decide) (fun c4 => ?_) (fun c4 => ?_)
    · replace h := (if_pos c4).symm.trans h
      refine lv_aload_n hx hb dX8_own_32 rfl (lv_at hl 1 rfl) ?_
      refine lv_iload_n hx hb dX8_own_33 rfl (lv_at hl 2 rfl) ?_
      obtain ⟨⟨I5, J5⟩, hc5, h⟩ := ob h
      dsimp only at h
      refine callWVv (As := [.int v1]) (rest := []) hC (c_X8_takesTerm l g ad I J v1  H.size hc5) lk_X8_212 rfl rfl ⟨Nat.le_of_ble_eq_true rfl, Nat.le_of_ble_eq_true rfl⟩ hP hK hD hA hS mo_0 rfl rfl rfl hl (Nat.le_of_ble_eq_true rfl) dX8_own_34 (fun H locs hP hD hS => ?_)
      refine lv_bipush (v := -9) hx hb dX8_own_37 (by decide) ?_
      refine lv_istore (lv' := [(4, .int (-9 : Int32)), (3, .int r3), (0, .ref (ad 0)), (1, .int v1), (2, .int v2)]) hx hb dX8_own_39 hl (by decide) rfl (fun ls hl => ?_)
      refine lv_lconst (v := 0) hx hb dX8_own_41 (by decide) ?_
      refine lv_lstore (lv' := [(5, .long (0 : Int64)), (4, .int (-9 : Int32)), (3, .int r3), (0, .ref (ad 0)), (1, .int v1), (2, .int v2)]) hx hb dX8_own_42 hl (by decide) rfl (fun ls hl => ?_)
      refine lv_iconst (v := 0) hx hb dX8_own_44 (by decide) ?_
      refine lv_istore (lv' := [(7, .int (0 : Int32)), (5, .long (0 : Int64)), (4, .int (-9 : Int32)), (3, .int r3), (0, .ref (ad 0)), (1, .int v1), (2, .int v2)]) hx hb dX8_own_45 hl (by decide) rfl (fun ls hl => ?_)
      exact loop_47 3000 I5 J5 v2 (-9 : Int32) (0 : Int64) (0 : Int32) _ _ _ h hP hD hS (lv_sub hl [4, 6, 2, 1, 0] rfl)
    · replace h := (if_neg c4).symm.trans h
      refine lv_aload_n hx hb dX8_own_26 rfl (lv_at hl 1 rfl) ?_
      refine lv_iload_n hx hb dX8_own_27 rfl (lv_at hl 0 rfl) ?_
      obtain ⟨⟨r19, I19, J19⟩, hc19, h⟩ := ob h
      dsimp only at h
      refine callWVi (As := [.int r3]) (rest := []) hC (c_X8_no l g ad I J r3  H.size hc19) lk_X8_92 rfl rfl ⟨Nat.le_of_ble_eq_true rfl, Nat.le_of_ble_eq_true rfl⟩ hP hK hD hA hS mo_0 rfl rfl rfl hl (Nat.le_of_ble_eq_true rfl) dX8_own_28 (fun H locs hP hD hS => ?_)
      obtain ⟨h1, h⟩ := Prod.mk.inj (Option.some.inj h)
      obtain ⟨rfl, rfl⟩ := Prod.mk.inj h
      exact hret _ _ _ _ _ dX8_own_31 h1 hP hD hS
  · replace h := (if_pos c2).symm.trans h
    refine lv_aload_n hx hb dX8_own_8 rfl (lv_at hl 0 rfl) ?_
    refine lv_iconst (v := -1) hx hb dX8_own_9 (by decide) ?_
    obtain ⟨⟨r20, I20, J20⟩, hc20, h⟩ := ob h
    dsimp only at h
    refine callWVi (As := [.int (-1 : Int32)]) (rest := []) hC (c_X8_no l g ad I J (-1 : Int32)  H.size hc20) lk_X8_92 rfl rfl ⟨Nat.le_of_ble_eq_true rfl, Nat.le_of_ble_eq_true rfl⟩ hP hK hD hA hS mo_0 rfl rfl rfl hl (Nat.le_of_ble_eq_true rfl) dX8_own_10 (fun H locs hP hD hS => ?_)
    obtain ⟨h1, h⟩ := Prod.mk.inj (Option.some.inj h)
    obtain ⟨rfl, rfl⟩ := Prod.mk.inj h
    exact hret _ _ _ _ _ dX8_own_13 h1 hP hD hS
def FL_X8_bears_160  : Nat → SI → SJ → Int64 → Int64 → Int32 → Option (Int64 × SI × SJ)
  | 0, _, _, _, _, _ => none
  | n + 1, I, J, w4_160, w6_160, w8_160 => (if (I 0 8) ≤ w8_160 then (some ((w4_160 - w6_160), I, J)) else (if gin w8_160 8 = true then (if gin w8_160 8 = true then (FL_X8_bears_160 n (u1 I 6 (upd (I 6) (Int32.toNatClampNeg w8_160) (I 19 (Int32.toNatClampNeg w8_160)))) J w4_160 w6_160 (w8_160 + 1)) else none) else none))
def FL_X8_bears_53  : Nat → SI → SJ → Int32 → Int64 → Int32 → Option (Int64 × SI × SJ)
  | 0, _, _, _, _, _ => none
  | n + 1, I, J, w2_53, w4_53, w6_53 => (if (I 0 8) ≤ w6_53 then (if gin (I 0 8) 8 = true then (if gin ((u1 I 6 (upd (I 6) (Int32.toNatClampNeg (I 0 8)) w2_53)) 0 8) 8 = true then ((F_X8_bestPains (u2 (u1 (u1 I 6 (upd (I 6) (Int32.toNatClampNeg (I 0 8)) w2_53)) 7 (upd ((u1 I 6 (upd (I 6) (Int32.toNatClampNeg (I 0 8)) w2_53)) 7) (Int32.toNatClampNeg ((u1 I 6 (upd (I 6) (Int32.toNatClampNeg (I 0 8)) w2_53)) 0 8)) (0 : Int32))) 0 8 (((u1 (u1 I 6 (upd (I 6) (Int32.toNatClampNeg (I 0 8)) w2_53)) 7 (upd ((u1 I 6 (upd (I 6) (Int32.toNatClampNeg (I 0 8)) w2_53)) 7) (Int32.toNatClampNeg ((u1 I 6 (upd (I 6) (Int32.toNatClampNeg (I 0 8)) w2_53)) 0 8)) (0 : Int32))) 0 8) + (1 : Int32))) J (0 : Int32)).bind fun r11 => ((F_X8_worthOf (u2 (u1 (u1 I 6 (upd (I 6) (Int32.toNatClampNeg (I 0 8)) w2_53)) 7 (upd ((u1 I 6 (upd (I 6) (Int32.toNatClampNeg (I 0 8)) w2_53)) 7) (Int32.toNatClampNeg ((u1 I 6 (upd (I 6) (Int32.toNatClampNeg (I 0 8)) w2_53)) 0 8)) (0 : Int32))) 0 8 (((u1 (u1 I 6 (upd (I 6) (Int32.toNatClampNeg (I 0 8)) w2_53)) 7 (upd ((u1 I 6 (upd (I 6) (Int32.toNatClampNeg (I 0 8)) w2_53)) 7) (Int32.toNatClampNeg ((u1 I 6 (upd (I 6) (Int32.toNatClampNeg (I 0 8)) w2_53)) 0 8)) (0 : Int32))) 0 8) + (1 : Int32))) J (1 : Int32) r11 (0 : Int32)).bind fun r12 => (FL_X8_bears_160 3000 (u2 (u2 (u1 (u1 I 6 (upd (I 6) (Int32.toNatClampNeg (I 0 8)) w2_53)) 7 (upd ((u1 I 6 (upd (I 6) (Int32.toNatClampNeg (I 0 8)) w2_53)) 7) (Int32.toNatClampNeg ((u1 I 6 (upd (I 6) (Int32.toNatClampNeg (I 0 8)) w2_53)) 0 8)) (0 : Int32))) 0 8 (((u1 (u1 I 6 (upd (I 6) (Int32.toNatClampNeg (I 0 8)) w2_53)) 7 (upd ((u1 I 6 (upd (I 6) (Int32.toNatClampNeg (I 0 8)) w2_53)) 7) (Int32.toNatClampNeg ((u1 I 6 (upd (I 6) (Int32.toNatClampNeg (I 0 8)) w2_53)) 0 8)) (0 : Int32))) 0 8) + (1 : Int32))) 0 8 (((u2 (u1 (u1 I 6 (upd (I 6) (Int32.toNatClampNeg (I 0 8)) w2_53)) 7 (upd ((u1 I 6 (upd (I 6) (Int32.toNatClampNeg (I 0 8)) w2_53)) 7) (Int32.toNatClampNeg ((u1 I 6 (upd (I 6) (Int32.toNatClampNeg (I 0 8)) w2_53)) 0 8)) (0 : Int32))) 0 8 (((u1 (u1 I 6 (upd (I 6) (Int32.toNatClampNeg (I 0 8)) w2_53)) 7 (upd ((u1 I 6 (upd (I 6) (Int32.toNatClampNeg (I 0 8)) w2_53)) 7) (Int32.toNatClampNeg ((u1 I 6 (upd (I 6) (Int32.toNatClampNeg (I 0 8)) w2_53)) 0 8)) (0 : Int32))) 0 8) + (1 : Int32))) 0 8) - (1 : Int32))) J w4_53 r12 (0 : Int32)))) else none) else none) else (if gin w6_53 8 = true then (if gin w6_53 8 = true then (if gin w6_53 8 = true then (if gin w6_53 8 = true then (FL_X8_bears_53 n (u1 (u1 I 19 (upd (I 19) (Int32.toNatClampNeg w6_53) (I 6 (Int32.toNatClampNeg w6_53)))) 6 (upd ((u1 I 19 (upd (I 19) (Int32.toNatClampNeg w6_53) (I 6 (Int32.toNatClampNeg w6_53)))) 6) (Int32.toNatClampNeg w6_53) ((((u1 I 19 (upd (I 19) (Int32.toNatClampNeg w6_53) (I 6 (Int32.toNatClampNeg w6_53)))) 6 (Int32.toNatClampNeg w6_53)) * ((100 : Int32) - w2_53)) / (100 : Int32)))) J w2_53 w4_53 (w6_53 + 1)) else none) else none) else none) else none))
def F_X8_bears (I : SI) (J : SJ) (v1 : Int32) (v2 : Int32) : Option (Int64 × SI × SJ) := ((F_X8_isTerm I J v1).bind fun r1 => (if r1 = 0 then ((F_X8_noLong I J (-1 : Int32)).bind fun (r21, I21, J21) => (some (r21, I21, J21))) else ((F_X8_bound v2 (0 : Int32) (50 : Int32)).bind fun r3 => (if r3 = 0 then ((F_X8_takesTerm I J v1).bind fun (I5, J5) => ((F_X8_bestPains I5 J5 (0 : Int32)).bind fun r6 => ((F_X8_worthOf I5 J5 (1 : Int32) r6 (0 : Int32)).bind fun r7 => (FL_X8_bears_53 3000 I5 J5 v2 r7 (0 : Int32))))) else ((F_X8_noLong I J r3).bind fun (r20, I20, J20) => (some (r20, I20, J20)))))))
set_option maxHeartbeats 4000000 in
set_option maxRecDepth 100000 in
theorem c_X8_bears (l : Launch) (g : Gx) (ad : Nat → Nat) (I : SI) (J : SJ) (v1 : Int32) (v2 : Int32)  (sz : Nat) {r : Int64} {rI : SI} {rJ : SJ} (h : F_X8_bears I J v1 v2 = some (r, rI, rJ)) : Met l yX8_bears (Cond.code yX8_bears cX8_bears 9 (some .long) :: BG) (k2_rm 4 100) (PcW [.ref (ad 0), .int v1, .int v2] g (mW ad g I J) sz) (QWl r g (mW ad g I J) (mW ad g rI rJ) sz) 0 0 (va_A (mW ad g I J) sz) := by
  refine mkWl (by decide) (Nat.le_of_ble_eq_true rfl) ?_
  intro p e s m args below meth c H locs ls A Q hC hK hP hD hA hS hl hret
  have hx := hC.1
  have hb := hC.2.1
  have hts := hC.2.2.2.2
  have hown := hC.2.2.2.1
  replace hl : lv_has ls 9 [(0, .ref (ad 0)), (1, .int v1), (2, .int v2)] := hl
  have loop_160 : ∀ (n : Nat) (I : SI) (J : SJ) (w4_160 : Int64) (w6_160 : Int64) (w8_160 : Int32)  (H : Heap) (locs : List Loc) (ls : Array Slot), FL_X8_bears_160 n I J w4_160 w6_160 w8_160 = some (r, rI, rJ) → Pg g (mW ad g I J) H → va_D A (mW ad g I J) → va_S A s.heap H locs → lv_has ls 9 [(0, .ref (ad 0)), (4, .long w4_160), (6, .long w6_160), (8, .int w8_160)] → W p l e (k2_rm 4 100) s m args below meth c H locs 0 0 Q (F0 m 160 ls []) := by
    intro n
    induction n with
    | zero =>
      intro I J w4_160 w6_160 w8_160 H locs ls h
      exact no h
    | succ n ih =>
      intro I J w4_160 w6_160 w8_160 H locs ls h hP hD hS hl
      rw [FL_X8_bears_160] at h
      refine lv_iload hx hb dX8_bears_160 (lv_at hl 3 rfl) ?_
      refine lv_aload_n hx hb dX8_bears_162 rfl (lv_at hl 0 rfl) ?_
      refine gt_X8_77 hC hK hP dX8_bears_163 ?_
      refine lv_icmp_ge (tgt := 189) hx hb dX8_bears_166 (by decide) (fun c13 => ?_) (fun c13 => ?_)
      · replace h := (if_pos c13).symm.trans h
        refine lv_lload hx hb dX8_bears_189 (lv_at hl 1 rfl) ?_
        refine lv_lload hx hb dX8_bears_191 (lv_at hl 2 rfl) ?_
        refine lv_lsub hx hb dX8_bears_193 ?_
        obtain ⟨h1, h⟩ := Prod.mk.inj (Option.some.inj h)
        obtain ⟨rfl, rfl⟩ := Prod.mk.inj h
        exact hret _ _ _ _ _ dX8_bears_194 h1 hP hD hS
      · replace h := (if_neg c13).symm.trans h
        refine lv_aload_n hx hb dX8_bears_169 rfl (lv_at hl 0 rfl) ?_
        refine gt_X8_25 hC hK hP dX8_bears_170 ?_
        refine lv_iload hx hb dX8_bears_173 (lv_at hl 3 rfl) ?_
        refine lv_aload_n hx hb dX8_bears_175 rfl (lv_at hl 0 rfl) ?_
        refine gt_X8_65 hC hK hP dX8_bears_176 ?_
        refine lv_iload hx hb dX8_bears_179 (lv_at hl 3 rfl) ?_
        obtain ⟨b14, h⟩ := og h
        refine al_m19 hC hK hP (gin_ok b14) dX8_bears_181 ?_
        obtain ⟨b15, h⟩ := og h
        refine as_m6 hC hK hP hD hS (gin_ok b15) dX8_bears_182 (fun H locs hP hD hS => ?_)
        refine lv_iinc (v := (w8_160 + 1)) (lv' := [(8, .int (w8_160 + 1)), (0, .ref (ad 0)), (4, .long w4_160), (6, .long w6_160)]) hx hb dX8_bears_183 hl (k := 3) rfl rfl (by decide) rfl (fun ls hl => ?_)
        refine lv_goto (tgt := 160) hx hb dX8_bears_186 (by decide) ?_
        exact ih (u1 I 6 (upd (I 6) (Int32.toNatClampNeg w8_160) (I 19 (Int32.toNatClampNeg w8_160)))) J w4_160 w6_160 (w8_160 + 1) _ _ _ h hP hD hS (lv_sub hl [1, 2, 3, 0] rfl)
  have loop_53 : ∀ (n : Nat) (I : SI) (J : SJ) (w2_53 : Int32) (w4_53 : Int64) (w6_53 : Int32)  (H : Heap) (locs : List Loc) (ls : Array Slot), FL_X8_bears_53 n I J w2_53 w4_53 w6_53 = some (r, rI, rJ) → Pg g (mW ad g I J) H → va_D A (mW ad g I J) → va_S A s.heap H locs → lv_has ls 9 [(0, .ref (ad 0)), (2, .int w2_53), (4, .long w4_53), (6, .int w6_53)] → W p l e (k2_rm 4 100) s m args below meth c H locs 0 0 Q (F0 m 53 ls []) := by
    intro n
    induction n with
    | zero =>
      intro I J w2_53 w4_53 w6_53 H locs ls h
      exact no h
    | succ n ih =>
      intro I J w2_53 w4_53 w6_53 H locs ls h hP hD hS hl
      rw [FL_X8_bears_53] at h
      refine lv_iload hx hb dX8_bears_53 (lv_at hl 3 rfl) ?_
      refine lv_aload_n hx hb dX8_bears_55 rfl (lv_at hl 0 rfl) ?_
      refine gt_X8_77 hC hK hP dX8_bears_56 ?_
      refine lv_icmp_ge (tgt := 104) hx hb dX8_bears_59 (by decide) (fun c8 => ?_) (fun c8 => ?_)
      · replace h := (if_pos c8).symm.trans h
        refine lv_aload_n hx hb dX8_bears_104 rfl (lv_at hl 0 rfl) ?_
        refine gt_X8_25 hC hK hP dX8_bears_105 ?_
        refine lv_aload_n hx hb dX8_bears_108 rfl (lv_at hl 0 rfl) ?_
        refine gt_X8_77 hC hK hP dX8_bears_109 ?_
        refine lv_iload_n hx hb dX8_bears_112 rfl (lv_at hl 1 rfl) ?_
        obtain ⟨b9, h⟩ := og h
        refine as_m6 hC hK hP hD hS (gin_ok b9) dX8_bears_113 (fun H locs hP hD hS => ?_)
        refine lv_aload_n hx hb dX8_bears_114 rfl (lv_at hl 0 rfl) ?_
        refine gt_X8_28 hC hK hP dX8_bears_115 ?_
        refine lv_aload_n hx hb dX8_bears_118 rfl (lv_at hl 0 rfl) ?_
        refine gt_X8_77 hC hK hP dX8_bears_119 ?_
        refine lv_iconst (v := 0) hx hb dX8_bears_122 (by decide) ?_
        obtain ⟨b10, h⟩ := og h
        refine as_m7 hC hK hP hD hS (gin_ok b10) dX8_bears_123 (fun H locs hP hD hS => ?_)
        refine lv_aload_n hx hb dX8_bears_124 rfl (lv_at hl 0 rfl) ?_
        refine lv_dup hx hb dX8_bears_125 rfl ?_
        refine gt_X8_77 hC hK hP dX8_bears_126 ?_
        refine lv_iconst (v := 1) hx hb dX8_bears_129 (by decide) ?_
        refine lv_iadd hx hb dX8_bears_130 ?_
        refine pt_X8_77 hC hK hP hD hS dX8_bears_131 (fun H locs hP hD hS => ?_)
        refine lv_aload_n hx hb dX8_bears_134 rfl (lv_at hl 0 rfl) ?_
        refine lv_iconst (v := 1) hx hb dX8_bears_135 (by decide) ?_
        refine lv_aload_n hx hb dX8_bears_136 rfl (lv_at hl 0 rfl) ?_
        refine lv_iconst (v := 0) hx hb dX8_bears_137 (by decide) ?_
        obtain ⟨r11, hc11, h⟩ := ob h
        refine callRV (As := [.int (0 : Int32)]) (rest := [.int (1 : Int32), .ref (ad 0)]) hC (c_X8_bestPains l g ad (u2 (u1 (u1 I 6 (upd (I 6) (Int32.toNatClampNeg (I 0 8)) w2_53)) 7 (upd ((u1 I 6 (upd (I 6) (Int32.toNatClampNeg (I 0 8)) w2_53)) 7) (Int32.toNatClampNeg ((u1 I 6 (upd (I 6) (Int32.toNatClampNeg (I 0 8)) w2_53)) 0 8)) (0 : Int32))) 0 8 (((u1 (u1 I 6 (upd (I 6) (Int32.toNatClampNeg (I 0 8)) w2_53)) 7 (upd ((u1 I 6 (upd (I 6) (Int32.toNatClampNeg (I 0 8)) w2_53)) 7) (Int32.toNatClampNeg ((u1 I 6 (upd (I 6) (Int32.toNatClampNeg (I 0 8)) w2_53)) 0 8)) (0 : Int32))) 0 8) + (1 : Int32))) J (0 : Int32)  hc11) lk_X8_206 rfl rfl ⟨Nat.le_of_ble_eq_true rfl, Nat.le_of_ble_eq_true rfl⟩ hP hK mo_0 rfl rfl rfl hl (Nat.le_of_ble_eq_true rfl) dX8_bears_138 ?_
        refine lv_iconst (v := 0) hx hb dX8_bears_141 (by decide) ?_
        obtain ⟨r12, hc12, h⟩ := ob h
        refine callRV (As := [.int (1 : Int32), .int r11, .int (0 : Int32)]) (rest := []) hC (c_X8_worthOf l g ad (u2 (u1 (u1 I 6 (upd (I 6) (Int32.toNatClampNeg (I 0 8)) w2_53)) 7 (upd ((u1 I 6 (upd (I 6) (Int32.toNatClampNeg (I 0 8)) w2_53)) 7) (Int32.toNatClampNeg ((u1 I 6 (upd (I 6) (Int32.toNatClampNeg (I 0 8)) w2_53)) 0 8)) (0 : Int32))) 0 8 (((u1 (u1 I 6 (upd (I 6) (Int32.toNatClampNeg (I 0 8)) w2_53)) 7 (upd ((u1 I 6 (upd (I 6) (Int32.toNatClampNeg (I 0 8)) w2_53)) 7) (Int32.toNatClampNeg ((u1 I 6 (upd (I 6) (Int32.toNatClampNeg (I 0 8)) w2_53)) 0 8)) (0 : Int32))) 0 8) + (1 : Int32))) J (1 : Int32) r11 (0 : Int32)  hc12) lk_X8_202 rfl rfl ⟨Nat.le_of_ble_eq_true rfl, Nat.le_of_ble_eq_true rfl⟩ hP hK mo_0 rfl rfl rfl hl (Nat.le_of_ble_eq_true rfl) dX8_bears_142 ?_
        refine lv_lstore (lv' := [(6, .long r12), (0, .ref (ad 0)), (2, .int w2_53), (4, .long w4_53)]) hx hb dX8_bears_145 hl (by decide) rfl (fun ls hl => ?_)
        refine lv_aload_n hx hb dX8_bears_147 rfl (lv_at hl 1 rfl) ?_
        refine lv_dup hx hb dX8_bears_148 rfl ?_
        refine gt_X8_77 hC hK hP dX8_bears_149 ?_
        refine lv_iconst (v := 1) hx hb dX8_bears_152 (by decide) ?_
        refine lv_isub hx hb dX8_bears_153 ?_
        refine pt_X8_77 hC hK hP hD hS dX8_bears_154 (fun H locs hP hD hS => ?_)
        refine lv_iconst (v := 0) hx hb dX8_bears_157 (by decide) ?_
        refine lv_istore (lv' := [(8, .int (0 : Int32)), (6, .long r12), (0, .ref (ad 0)), (2, .int w2_53), (4, .long w4_53)]) hx hb dX8_bears_158 hl (by decide) rfl (fun ls hl => ?_)
        exact loop_160 3000 (u2 (u2 (u1 (u1 I 6 (upd (I 6) (Int32.toNatClampNeg (I 0 8)) w2_53)) 7 (upd ((u1 I 6 (upd (I 6) (Int32.toNatClampNeg (I 0 8)) w2_53)) 7) (Int32.toNatClampNeg ((u1 I 6 (upd (I 6) (Int32.toNatClampNeg (I 0 8)) w2_53)) 0 8)) (0 : Int32))) 0 8 (((u1 (u1 I 6 (upd (I 6) (Int32.toNatClampNeg (I 0 8)) w2_53)) 7 (upd ((u1 I 6 (upd (I 6) (Int32.toNatClampNeg (I 0 8)) w2_53)) 7) (Int32.toNatClampNeg ((u1 I 6 (upd (I 6) (Int32.toNatClampNeg (I 0 8)) w2_53)) 0 8)) (0 : Int32))) 0 8) + (1 : Int32))) 0 8 (((u2 (u1 (u1 I 6 (upd (I 6) (Int32.toNatClampNeg (I 0 8)) w2_53)) 7 (upd ((u1 I 6 (upd (I 6) (Int32.toNatClampNeg (I 0 8)) w2_53)) 7) (Int32.toNatClampNeg ((u1 I 6 (upd (I 6) (Int32.toNatClampNeg (I 0 8)) w2_53)) 0 8)) (0 : Int32))) 0 8 (((u1 (u1 I 6 (upd (I 6) (Int32.toNatClampNeg (I 0 8)) w2_53)) 7 (upd ((u1 I 6 (upd (I 6) (Int32.toNatClampNeg (I 0 8)) w2_53)) 7) (Int32.toNatClampNeg ((u1 I 6 (upd (I 6) (Int32.toNatClampNeg (I 0 8)) w2_53)) 0 8)) (0 : Int32))) 0 8) + (1 : Int32))) 0 8) - (1 : Int32))) J w4_53 r12 (0 : Int32) _ _ _ h hP hD hS (lv_sub hl [2, 4, 1, 0] rfl)
      · replace h := (if_neg c8).symm.trans h
        refine lv_aload_n hx hb dX8_bears_62 rfl (lv_at hl 0 rfl) ?_
        refine gt_X8_65 hC hK hP dX8_bears_63 ?_
        refine lv_iload hx hb dX8_bears_66 (lv_at hl 3 rfl) ?_
        refine lv_aload_n hx hb dX8_bears_68 rfl (lv_at hl 0 rfl) ?_
        refine gt_X8_25 hC hK hP dX8_bears_69 ?_
        refine lv_iload hx hb dX8_bears_72 (lv_at hl 3 rfl) ?_
        obtain ⟨b16, h⟩ := og h
        refine al_m6 hC hK hP (gin_ok b16) dX8_bears_74 ?_
        obtain ⟨b17, h⟩ := og h
        refine as_m19 hC hK hP hD hS (gin_ok b17) dX8_bears_75 (fun H locs hP hD hS => ?_)
        refine lv_aload_n hx hb dX8_bears_76 rfl (lv_at hl 0 rfl) ?_
        refine gt_X8_25 hC hK hP dX8_bears_77 ?_
        refine lv_iload hx hb dX8_bears_80 (lv_at hl 3 rfl) ?_
        refine lv_aload_n hx hb dX8_bears_82 rfl (lv_at hl 0 rfl) ?_
        refine gt_X8_25 hC hK hP dX8_bears_83 ?_
        refine lv_iload hx hb dX8_bears_86 (lv_at hl 3 rfl) ?_
        obtain ⟨b18, h⟩ := og h
        refine al_m6 hC hK hP (gin_ok b18) dX8_bears_88 ?_
        refine lv_bipush (v := 100) hx hb dX8_bears_89 (by decide) ?_
        refine lv_iload_n hx hb dX8_bears_91 rfl (lv_at hl 1 rfl) ?_
        refine lv_isub hx hb dX8_bears_92 ?_
        refine lv_imul hx hb dX8_bears_93 ?_
        refine lv_bipush (v := 100) hx hb dX8_bears_94 (by decide) ?_
        refine lv_idiv hx hb dX8_bears_96 (by decide) ?_
        obtain ⟨b19, h⟩ := og h
        refine as_m6 hC hK hP hD hS (gin_ok b19) dX8_bears_97 (fun H locs hP hD hS => ?_)
        refine lv_iinc (v := (w6_53 + 1)) (lv' := [(6, .int (w6_53 + 1)), (0, .ref (ad 0)), (2, .int w2_53), (4, .long w4_53)]) hx hb dX8_bears_98 hl (k := 3) rfl rfl (by decide) rfl (fun ls hl => ?_)
        refine lv_goto (tgt := 53) hx hb dX8_bears_101 (by decide) ?_
        exact ih (u1 (u1 I 19 (upd (I 19) (Int32.toNatClampNeg w6_53) (I 6 (Int32.toNatClampNeg w6_53)))) 6 (upd ((u1 I 19 (upd (I 19) (Int32.toNatClampNeg w6_53) (I 6 (Int32.toNatClampNeg w6_53)))) 6) (Int32.toNatClampNeg w6_53) ((((u1 I 19 (upd (I 19) (Int32.toNatClampNeg w6_53) (I 6 (Int32.toNatClampNeg w6_53)))) 6 (Int32.toNatClampNeg w6_53)) * ((100 : Int32) - w2_53)) / (100 : Int32)))) J w2_53 w4_53 (w6_53 + 1) _ _ _ h hP hD hS (lv_sub hl [1, 2, 3, 0] rfl)
  unfold F_X8_bears at h
  refine lv_aload_n hx hb dX8_bears_0 rfl (lv_at hl 0 rfl) ?_
  refine lv_iload_n hx hb dX8_bears_1 rfl (lv_at hl 1 rfl) ?_
  obtain ⟨r1, hc1, h⟩ := ob h
  refine callRV (As := [.int v1]) (rest := []) hC (c_X8_isTerm l g ad I J v1  hc1) lk_X8_155 rfl rfl ⟨Nat.le_of_ble_eq_true rfl, Nat.le_of_ble_eq_true rfl⟩ hP hK mo_0 rfl rfl rfl hl (Nat.le_of_ble_eq_true rfl) dX8_bears_2 ?_
  refine lv_if_ne (tgt := 14) hx hb dX8_bears_5 (by decide) (fun c2 => ?_) (fun c2 => ?_)
  · replace h := (if_neg c2).symm.trans h
    refine lv_iload_n hx hb dX8_bears_14 rfl (lv_at hl 2 rfl) ?_
    refine lv_iconst (v := 0) hx hb dX8_bears_15 (by decide) ?_
    refine lv_bipush (v := 50) hx hb dX8_bears_16 (by decide) ?_
    obtain ⟨r3, hc3, h⟩ := ob h
    refine callRS (As := [.int v2, .int (0 : Int32), .int (50 : Int32)]) (rest := []) hC (c_X8_bound l g (mW ad g I J) v2 (0 : Int32) (50 : Int32) hc3) lk_X8_85 rfl rfl ⟨Nat.le_of_ble_eq_true rfl, Nat.le_of_ble_eq_true rfl⟩ hP hK rfl rfl hl (Nat.le_of_ble_eq_true rfl) dX8_bears_18 ?_
    refine lv_istore_n (lv' := [(3, .int r3), (0, .ref (ad 0)), (1, .int v1), (2, .int v2)]) hx hb dX8_bears_21 rfl hl (by decide) rfl (fun ls hl => ?_)
    refine lv_iload_n hx hb dX8_bears_22 rfl (lv_at hl 0 rfl) ?_
    refine lv_if_eq (tgt := 32) hx hb dX8_bears_23 (by decide) (fun c4 => ?_) (fun c4 => ?_)
    · replace h := (if_pos c4).symm.trans h
      refine lv_aload_n hx hb dX8_bears_32 rfl (lv_at hl 1 rfl) ?_
      refine lv_iload_n hx hb dX8_bears_33 rfl (lv_at hl 2 rfl) ?_
      obtain ⟨⟨I5, J5⟩, hc5, h⟩ := ob h
      dsimp only at h
      refine callWVv (As := [.int v1]) (rest := []) hC (c_X8_takesTerm l g ad I J v1  H.size hc5) lk_X8_212 rfl rfl ⟨Nat.le_of_ble_eq_true rfl, Nat.le_of_ble_eq_true rfl⟩ hP hK hD hA hS mo_0 rfl rfl rfl hl (Nat.le_of_ble_eq_true rfl) dX8_bears_34 (fun H locs hP hD hS => ?_)
      refine lv_aload_n hx hb dX8_bears_37 rfl (lv_at hl 1 rfl) ?_
      refine lv_iconst (v := 1) hx hb dX8_bears_38 (by decide) ?_
      refine lv_aload_n hx hb dX8_bears_39 rfl (lv_at hl 1 rfl) ?_
      refine lv_iconst (v := 0) hx hb dX8_bears_40 (by decide) ?_
      obtain ⟨r6, hc6, h⟩ := ob h
      refine callRV (As := [.int (0 : Int32)]) (rest := [.int (1 : Int32), .ref (ad 0)]) hC (c_X8_bestPains l g ad I5 J5 (0 : Int32)  hc6) lk_X8_206 rfl rfl ⟨Nat.le_of_ble_eq_true rfl, Nat.le_of_ble_eq_true rfl⟩ hP hK mo_0 rfl rfl rfl hl (Nat.le_of_ble_eq_true rfl) dX8_bears_41 ?_
      refine lv_iconst (v := 0) hx hb dX8_bears_44 (by decide) ?_
      obtain ⟨r7, hc7, h⟩ := ob h
      refine callRV (As := [.int (1 : Int32), .int r6, .int (0 : Int32)]) (rest := []) hC (c_X8_worthOf l g ad I5 J5 (1 : Int32) r6 (0 : Int32)  hc7) lk_X8_202 rfl rfl ⟨Nat.le_of_ble_eq_true rfl, Nat.le_of_ble_eq_true rfl⟩ hP hK mo_0 rfl rfl rfl hl (Nat.le_of_ble_eq_true rfl) dX8_bears_45 ?_
      refine lv_lstore (lv' := [(4, .long r7), (3, .int r3), (0, .ref (ad 0)), (1, .int v1), (2, .int v2)]) hx hb dX8_bears_48 hl (by decide) rfl (fun ls hl => ?_)
      refine lv_iconst (v := 0) hx hb dX8_bears_50 (by decide) ?_
      refine lv_istore (lv' := [(6, .int (0 : Int32)), (4, .long r7), (3, .int r3), (0, .ref (ad 0)), (1, .int v1), (2, .int v2)]) hx hb dX8_bears_51 hl (by decide) rfl (fun ls hl => ?_)
      exact loop_53 3000 I5 J5 v2 r7 (0 : Int32) _ _ _ h hP hD hS (lv_sub hl [3, 5, 1, 0] rfl)
    · replace h := (if_neg c4).symm.trans h
      refine lv_aload_n hx hb dX8_bears_26 rfl (lv_at hl 1 rfl) ?_
      refine lv_iload_n hx hb dX8_bears_27 rfl (lv_at hl 0 rfl) ?_
      obtain ⟨⟨r20, I20, J20⟩, hc20, h⟩ := ob h
      dsimp only at h
      refine callWVl (As := [.int r3]) (rest := []) hC (c_X8_noLong l g ad I J r3  H.size hc20) lk_X8_216 rfl rfl ⟨Nat.le_of_ble_eq_true rfl, Nat.le_of_ble_eq_true rfl⟩ hP hK hD hA hS mo_0 rfl rfl rfl hl (Nat.le_of_ble_eq_true rfl) dX8_bears_28 (fun H locs hP hD hS => ?_)
      obtain ⟨h1, h⟩ := Prod.mk.inj (Option.some.inj h)
      obtain ⟨rfl, rfl⟩ := Prod.mk.inj h
      exact hret _ _ _ _ _ dX8_bears_31 h1 hP hD hS
  · replace h := (if_pos c2).symm.trans h
    refine lv_aload_n hx hb dX8_bears_8 rfl (lv_at hl 0 rfl) ?_
    refine lv_iconst (v := -1) hx hb dX8_bears_9 (by decide) ?_
    obtain ⟨⟨r21, I21, J21⟩, hc21, h⟩ := ob h
    dsimp only at h
    refine callWVl (As := [.int (-1 : Int32)]) (rest := []) hC (c_X8_noLong l g ad I J (-1 : Int32)  H.size hc21) lk_X8_216 rfl rfl ⟨Nat.le_of_ble_eq_true rfl, Nat.le_of_ble_eq_true rfl⟩ hP hK hD hA hS mo_0 rfl rfl rfl hl (Nat.le_of_ble_eq_true rfl) dX8_bears_10 (fun H locs hP hD hS => ?_)
    obtain ⟨h1, h⟩ := Prod.mk.inj (Option.some.inj h)
    obtain ⟨rfl, rfl⟩ := Prod.mk.inj h
    exact hret _ _ _ _ _ dX8_bears_13 h1 hP hD hS
def FL_X8_drawn_34  : Nat → SI → SJ → Int32 → Int32 → Option (Int32 × SI × SJ)
  | 0, _, _, _, _ => none
  | n + 1, I, J, w1_34, w2_34 => ((F_X8_chanceOf I J w2_34).bind fun r1 => (if w1_34 < r1 then (some (w2_34, I, J)) else ((F_X8_chanceOf I J w2_34).bind fun r3 => (FL_X8_drawn_34 n I J (w1_34 - r3) (w2_34 + 1)))))
def F_X8_drawn (I : SI) (J : SJ) : Option (Int32 × SI × SJ) := (FL_X8_drawn_34 3000 (u2 I 0 32 (((I 0 32) * (1103515245 : Int32)) + (12345 : Int32))) J (((((u2 I 0 32 (((I 0 32) * (1103515245 : Int32)) + (12345 : Int32))) 0 32) &&& (2147483647 : Int32)) / (65536 : Int32)) - ((((u2 I 0 32 (((I 0 32) * (1103515245 : Int32)) + (12345 : Int32))) 0 32) &&& (2147483647 : Int32)) / (65536 : Int32)) / (100 : Int32) * (100 : Int32)) (0 : Int32))
set_option maxHeartbeats 4000000 in
set_option maxRecDepth 100000 in
theorem c_X8_drawn (l : Launch) (g : Gx) (ad : Nat → Nat) (I : SI) (J : SJ)   (sz : Nat) {r : Int32} {rI : SI} {rJ : SJ} (h : F_X8_drawn I J = some (r, rI, rJ)) : Met l yX8_drawn (Cond.code yX8_drawn cX8_drawn 3 (some .int) :: BG) (k2_rm 2 43) (PcW [.ref (ad 0)] g (mW ad g I J) sz) (QWi r g (mW ad g I J) (mW ad g rI rJ) sz) 0 0 (va_A (mW ad g I J) sz) := by
  refine mkWi (by decide) (Nat.le_of_ble_eq_true rfl) ?_
  intro p e s m args below meth c H locs ls A Q hC hK hP hD hA hS hl hret
  have hx := hC.1
  have hb := hC.2.1
  have hts := hC.2.2.2.2
  have hown := hC.2.2.2.1
  replace hl : lv_has ls 3 [(0, .ref (ad 0))] := hl
  have loop_34 : ∀ (n : Nat) (I : SI) (J : SJ) (w1_34 : Int32) (w2_34 : Int32)  (H : Heap) (locs : List Loc) (ls : Array Slot), FL_X8_drawn_34 n I J w1_34 w2_34 = some (r, rI, rJ) → Pg g (mW ad g I J) H → va_D A (mW ad g I J) → va_S A s.heap H locs → lv_has ls 3 [(0, .ref (ad 0)), (1, .int w1_34), (2, .int w2_34)] → W p l e (k2_rm 2 43) s m args below meth c H locs 0 0 Q (F0 m 34 ls []) := by
    intro n
    induction n with
    | zero =>
      intro I J w1_34 w2_34 H locs ls h
      exact no h
    | succ n ih =>
      intro I J w1_34 w2_34 H locs ls h hP hD hS hl
      rw [FL_X8_drawn_34] at h
      refine lv_iload_n hx hb dX8_drawn_34 rfl (lv_at hl 1 rfl) ?_
      refine lv_aload_n hx hb dX8_drawn_35 rfl (lv_at hl 0 rfl) ?_
      refine lv_iload_n hx hb dX8_drawn_36 rfl (lv_at hl 2 rfl) ?_
      obtain ⟨r1, hc1, h⟩ := ob h
      refine callRV (As := [.int w2_34]) (rest := [.int w1_34]) hC (c_X8_chanceOf l g ad I J w2_34  hc1) lk_X8_161 rfl rfl ⟨Nat.le_of_ble_eq_true rfl, Nat.le_of_ble_eq_true rfl⟩ hP hK mo_0 rfl rfl rfl hl (Nat.le_of_ble_eq_true rfl) dX8_drawn_37 ?_
      refine lv_icmp_lt (tgt := 57) hx hb dX8_drawn_40 (by decide) (fun c2 => ?_) (fun c2 => ?_)
      · replace h := (if_pos c2).symm.trans h
        refine lv_iload_n hx hb dX8_drawn_57 rfl (lv_at hl 2 rfl) ?_
        obtain ⟨h1, h⟩ := Prod.mk.inj (Option.some.inj h)
        obtain ⟨rfl, rfl⟩ := Prod.mk.inj h
        exact hret _ _ _ _ _ dX8_drawn_58 h1 hP hD hS
      · replace h := (if_neg c2).symm.trans h
        refine lv_iload_n hx hb dX8_drawn_43 rfl (lv_at hl 1 rfl) ?_
        refine lv_aload_n hx hb dX8_drawn_44 rfl (lv_at hl 0 rfl) ?_
        refine lv_iload_n hx hb dX8_drawn_45 rfl (lv_at hl 2 rfl) ?_
        obtain ⟨r3, hc3, h⟩ := ob h
        refine callRV (As := [.int w2_34]) (rest := [.int w1_34]) hC (c_X8_chanceOf l g ad I J w2_34  hc3) lk_X8_161 rfl rfl ⟨Nat.le_of_ble_eq_true rfl, Nat.le_of_ble_eq_true rfl⟩ hP hK mo_0 rfl rfl rfl hl (Nat.le_of_ble_eq_true rfl) dX8_drawn_46 ?_
        refine lv_isub hx hb dX8_drawn_49 ?_
        refine lv_istore_n (lv' := [(1, .int (w1_34 - r3)), (0, .ref (ad 0)), (2, .int w2_34)]) hx hb dX8_drawn_50 rfl hl (by decide) rfl (fun ls hl => ?_)
        refine lv_iinc (v := (w2_34 + 1)) (lv' := [(2, .int (w2_34 + 1)), (1, .int (w1_34 - r3)), (0, .ref (ad 0))]) hx hb dX8_drawn_51 hl (k := 2) rfl rfl (by decide) rfl (fun ls hl => ?_)
        refine lv_goto (tgt := 34) hx hb dX8_drawn_54 (by decide) ?_
        exact ih I J (w1_34 - r3) (w2_34 + 1) _ _ _ h hP hD hS (lv_sub hl [2, 1, 0] rfl)
  unfold F_X8_drawn at h
  refine lv_aload_n hx hb dX8_drawn_0 rfl (lv_at hl 0 rfl) ?_
  refine lv_aload_n hx hb dX8_drawn_1 rfl (lv_at hl 0 rfl) ?_
  refine gt_X8_278 hC hK hP dX8_drawn_2 ?_
  refine lv_ldcw hx hb hown (hts _ kc_X8_281) dX8_drawn_5 ?_
  refine lv_imul hx hb dX8_drawn_8 ?_
  refine lv_sipush (v := 12345) hx hb dX8_drawn_9 (by decide) ?_
  refine lv_iadd hx hb dX8_drawn_12 ?_
  refine pt_X8_278 hC hK hP hD hS dX8_drawn_13 (fun H locs hP hD hS => ?_)
  refine lv_aload_n hx hb dX8_drawn_16 rfl (lv_at hl 0 rfl) ?_
  refine gt_X8_278 hC hK hP dX8_drawn_17 ?_
  refine lv_ldcw hx hb hown (hts _ kc_X8_282) dX8_drawn_20 ?_
  refine lv_iand hx hb dX8_drawn_23 ?_
  refine lv_ldcw hx hb hown (hts _ kc_X8_283) dX8_drawn_24 ?_
  refine lv_idiv hx hb dX8_drawn_27 (by decide) ?_
  refine lv_bipush (v := 100) hx hb dX8_drawn_28 (by decide) ?_
  refine lv_irem hx hb dX8_drawn_30 (by decide) ?_
  refine lv_istore_n (lv' := [(1, .int (((((u2 I 0 32 (((I 0 32) * (1103515245 : Int32)) + (12345 : Int32))) 0 32) &&& (2147483647 : Int32)) / (65536 : Int32)) - ((((u2 I 0 32 (((I 0 32) * (1103515245 : Int32)) + (12345 : Int32))) 0 32) &&& (2147483647 : Int32)) / (65536 : Int32)) / (100 : Int32) * (100 : Int32))), (0, .ref (ad 0))]) hx hb dX8_drawn_31 rfl hl (by decide) rfl (fun ls hl => ?_)
  refine lv_iconst (v := 0) hx hb dX8_drawn_32 (by decide) ?_
  refine lv_istore_n (lv' := [(2, .int (0 : Int32)), (1, .int (((((u2 I 0 32 (((I 0 32) * (1103515245 : Int32)) + (12345 : Int32))) 0 32) &&& (2147483647 : Int32)) / (65536 : Int32)) - ((((u2 I 0 32 (((I 0 32) * (1103515245 : Int32)) + (12345 : Int32))) 0 32) &&& (2147483647 : Int32)) / (65536 : Int32)) / (100 : Int32) * (100 : Int32))), (0, .ref (ad 0))]) hx hb dX8_drawn_33 rfl hl (by decide) rfl (fun ls hl => ?_)
  exact loop_34 3000 (u2 I 0 32 (((I 0 32) * (1103515245 : Int32)) + (12345 : Int32))) J (((((u2 I 0 32 (((I 0 32) * (1103515245 : Int32)) + (12345 : Int32))) 0 32) &&& (2147483647 : Int32)) / (65536 : Int32)) - ((((u2 I 0 32 (((I 0 32) * (1103515245 : Int32)) + (12345 : Int32))) 0 32) &&& (2147483647 : Int32)) / (65536 : Int32)) / (100 : Int32) * (100 : Int32)) (0 : Int32) _ _ _ h hP hD hS (lv_sub hl [2, 1, 0] rfl)
def FL_X8_goesYears_19  : Nat → SI → SJ → Int32 → Int32 → Int32 → Int32 → Int32 → Option (SI × SJ)
  | 0, _, _, _, _, _, _, _ => none
  | n + 1, I, J, w1_19, w3_19, w4_19, w5_19, w6_19 => (if w5_19 ≤ w6_19 then (some (I, J)) else ((F_X8_drawn I J).bind fun (r2, I2, J2) => ((F_X8_reaped I2 J2 w1_19 r2).bind fun r3 => ((F_X8_hasOf I2 J2 (0 : Int32) r3 (if w6_19 ≤ (9 : Int32) then w6_19 else (9 : Int32))).bind fun r6 => (if 0 ≤ ((u2 I2 0 33 ((I 0 33) + (r6 - w3_19))) 0 34) then (FL_X8_goesYears_19 n (u2 I2 0 33 ((I 0 33) + (r6 - w3_19))) J2 w1_19 w3_19 w4_19 w5_19 (w6_19 + 1)) else (if (-w4_19) ≤ ((u2 I2 0 33 ((I 0 33) + (r6 - w3_19))) 0 33) then (FL_X8_goesYears_19 n (u2 I2 0 33 ((I 0 33) + (r6 - w3_19))) J2 w1_19 w3_19 w4_19 w5_19 (w6_19 + 1)) else (FL_X8_goesYears_19 n (u2 (u2 I2 0 33 ((I 0 33) + (r6 - w3_19))) 0 34 w6_19) J2 w1_19 w3_19 w4_19 w5_19 (w6_19 + 1))))))))
def F_X8_goesYears (I : SI) (J : SJ) (v1 : Int32) (v2 : Int32) (v3 : Int32) (v4 : Int32) (v5 : Int32) : Option (SI × SJ) := (FL_X8_goesYears_19 3000 (u2 (u2 (u2 I 0 32 v2) 0 33 (0 : Int32)) 0 34 (-9 : Int32)) J v1 v3 v4 v5 (0 : Int32))
set_option maxHeartbeats 4000000 in
set_option maxRecDepth 100000 in
theorem c_X8_goesYears (l : Launch) (g : Gx) (ad : Nat → Nat) (I : SI) (J : SJ) (v1 : Int32) (v2 : Int32) (v3 : Int32) (v4 : Int32) (v5 : Int32)  (sz : Nat) {rI : SI} {rJ : SJ} (h : F_X8_goesYears I J v1 v2 v3 v4 v5 = some (rI, rJ)) : Met l yX8_goesYears (Cond.code yX8_goesYears cX8_goesYears 7 none :: BG) (k2_rm 3 65) (PcW [.ref (ad 0), .int v1, .int v2, .int v3, .int v4, .int v5] g (mW ad g I J) sz) (QWv g (mW ad g I J) (mW ad g rI rJ) sz) 0 0 (va_A (mW ad g I J) sz) := by
  refine mkWv (by decide) (Nat.le_of_ble_eq_true rfl) ?_
  intro p e s m args below meth c H locs ls A Q hC hK hP hD hA hS hl hret
  have hx := hC.1
  have hb := hC.2.1
  have hts := hC.2.2.2.2
  have hown := hC.2.2.2.1
  replace hl : lv_has ls 7 [(0, .ref (ad 0)), (1, .int v1), (2, .int v2), (3, .int v3), (4, .int v4), (5, .int v5)] := hl
  have loop_19 : ∀ (n : Nat) (I : SI) (J : SJ) (w1_19 : Int32) (w3_19 : Int32) (w4_19 : Int32) (w5_19 : Int32) (w6_19 : Int32)  (H : Heap) (locs : List Loc) (ls : Array Slot), FL_X8_goesYears_19 n I J w1_19 w3_19 w4_19 w5_19 w6_19 = some (rI, rJ) → Pg g (mW ad g I J) H → va_D A (mW ad g I J) → va_S A s.heap H locs → lv_has ls 7 [(0, .ref (ad 0)), (1, .int w1_19), (3, .int w3_19), (4, .int w4_19), (5, .int w5_19), (6, .int w6_19)] → W p l e (k2_rm 3 65) s m args below meth c H locs 0 0 Q (F0 m 19 ls []) := by
    intro n
    induction n with
    | zero =>
      intro I J w1_19 w3_19 w4_19 w5_19 w6_19 H locs ls h
      exact no h
    | succ n ih =>
      intro I J w1_19 w3_19 w4_19 w5_19 w6_19 H locs ls h hP hD hS hl
      rw [FL_X8_goesYears_19] at h
      refine lv_iload hx hb dX8_goesYears_19 (lv_at hl 5 rfl) ?_
      refine lv_iload hx hb dX8_goesYears_21 (lv_at hl 4 rfl) ?_
      refine lv_icmp_ge (tgt := 94) hx hb dX8_goesYears_23 (by decide) (fun c1 => ?_) (fun c1 => ?_)
      · replace h := (if_pos c1).symm.trans h
        obtain ⟨rfl, rfl⟩ := Prod.mk.inj (Option.some.inj h)
        exact hret _ _ _ _ dX8_goesYears_94 hP hD hS
      · replace h := (if_neg c1).symm.trans h
        refine lv_aload_n hx hb dX8_goesYears_26 rfl (lv_at hl 0 rfl) ?_
        refine lv_dup hx hb dX8_goesYears_27 rfl ?_
        refine gt_X8_284 hC hK hP dX8_goesYears_28 ?_
        refine lv_aload_n hx hb dX8_goesYears_31 rfl (lv_at hl 0 rfl) ?_
        refine lv_iconst (v := 0) hx hb dX8_goesYears_32 (by decide) ?_
        refine lv_aload_n hx hb dX8_goesYears_33 rfl (lv_at hl 0 rfl) ?_
        refine lv_iload_n hx hb dX8_goesYears_34 rfl (lv_at hl 1 rfl) ?_
        refine lv_aload_n hx hb dX8_goesYears_35 rfl (lv_at hl 0 rfl) ?_
        obtain ⟨⟨r2, I2, J2⟩, hc2, h⟩ := ob h
        dsimp only at h
        refine callWVi (As := []) (rest := [.int w1_19, .ref (ad 0), .int (0 : Int32), .ref (ad 0), .int (I 0 33), .ref (ad 0)]) hC (c_X8_drawn l g ad I J   H.size hc2) lk_X8_290 rfl rfl ⟨Nat.le_of_ble_eq_true rfl, Nat.le_of_ble_eq_true rfl⟩ hP hK hD hA hS mo_0 rfl rfl rfl hl (Nat.le_of_ble_eq_true rfl) dX8_goesYears_36 (fun H locs hP hD hS => ?_)
        obtain ⟨r3, hc3, h⟩ := ob h
        refine callRV (As := [.int w1_19, .int r2]) (rest := [.int (0 : Int32), .ref (ad 0), .int (I 0 33), .ref (ad 0)]) hC (c_X8_reaped l g ad I2 J2 w1_19 r2  hc3) lk_X8_188 rfl rfl ⟨Nat.le_of_ble_eq_true rfl, Nat.le_of_ble_eq_true rfl⟩ hP hK mo_0 rfl rfl rfl hl (Nat.le_of_ble_eq_true rfl) dX8_goesYears_39 ?_
        refine lv_iload hx hb dX8_goesYears_42 (lv_at hl 5 rfl) ?_
        refine lv_bipush (v := 9) hx hb dX8_goesYears_44 (by decide) ?_
        refine tern (α := Int32) (cnd := w6_19 ≤ (9 : Int32)) (a := w6_19) (b := (9 : Int32)) (Wj := fun vj => W p l e (k2_rm 3 65) s m args below meth c H locs 0 0 Q (F0 m 56 ls [.int vj, .int r3, .int (0 : Int32), .ref (ad 0), .int (I 0 33), .ref (ad 0)])) (fun k5a k5b => ?_) ?_
        · refine lv_icmp_le (tgt := 54) hx hb dX8_goesYears_46 (by decide) (fun c4 => ?_) (fun c4 => ?_)
          · refine lv_iload hx hb dX8_goesYears_54 (lv_at hl 5 rfl) ?_
            exact k5a c4
          · refine lv_bipush (v := 9) hx hb dX8_goesYears_49 (by decide) ?_
            refine lv_goto (tgt := 56) hx hb dX8_goesYears_51 (by decide) ?_
            exact k5b c4
        · show W p l e (k2_rm 3 65) s m args below meth c H locs 0 0 Q (F0 m 56 ls [.int (if w6_19 ≤ (9 : Int32) then w6_19 else (9 : Int32)), .int r3, .int (0 : Int32), .ref (ad 0), .int (I 0 33), .ref (ad 0)])
          obtain ⟨r6, hc6, h⟩ := ob h
          refine callRV (As := [.int (0 : Int32), .int r3, .int (if w6_19 ≤ (9 : Int32) then w6_19 else (9 : Int32))]) (rest := [.int (I 0 33), .ref (ad 0)]) hC (c_X8_hasOf l g ad I2 J2 (0 : Int32) r3 (if w6_19 ≤ (9 : Int32) then w6_19 else (9 : Int32))  hc6) lk_X8_191 rfl rfl ⟨Nat.le_of_ble_eq_true rfl, Nat.le_of_ble_eq_true rfl⟩ hP hK mo_0 rfl rfl rfl hl (Nat.le_of_ble_eq_true rfl) dX8_goesYears_56 ?_
          refine lv_iload_n hx hb dX8_goesYears_59 rfl (lv_at hl 2 rfl) ?_
          refine lv_isub hx hb dX8_goesYears_60 ?_
          refine lv_iadd hx hb dX8_goesYears_61 ?_
          refine pt_X8_284 hC hK hP hD hS dX8_goesYears_62 (fun H locs hP hD hS => ?_)
          refine lv_aload_n hx hb dX8_goesYears_65 rfl (lv_at hl 0 rfl) ?_
          refine gt_X8_287 hC hK hP dX8_goesYears_66 ?_
          refine lv_if_ge (tgt := 88) hx hb dX8_goesYears_69 (by decide) (fun c7 => ?_) (fun c7 => ?_)
          · replace h := (if_pos c7).symm.trans h
            refine lv_iinc (v := (w6_19 + 1)) (lv' := [(6, .int (w6_19 + 1)), (0, .ref (ad 0)), (1, .int w1_19), (3, .int w3_19), (4, .int w4_19), (5, .int w5_19)]) hx hb dX8_goesYears_88 hl (k := 5) rfl rfl (by decide) rfl (fun ls hl => ?_)
            refine lv_goto (tgt := 19) hx hb dX8_goesYears_91 (by decide) ?_
            exact ih (u2 I2 0 33 ((I 0 33) + (r6 - w3_19))) J2 w1_19 w3_19 w4_19 w5_19 (w6_19 + 1) _ _ _ h hP hD hS (lv_sub hl [1, 2, 3, 4, 5, 0] rfl)
          · replace h := (if_neg c7).symm.trans h
            refine lv_aload_n hx hb dX8_goesYears_72 rfl (lv_at hl 0 rfl) ?_
            refine gt_X8_284 hC hK hP dX8_goesYears_73 ?_
            refine lv_iload hx hb dX8_goesYears_76 (lv_at hl 3 rfl) ?_
            refine lv_ineg hx hb dX8_goesYears_78 ?_
            refine lv_icmp_ge (tgt := 88) hx hb dX8_goesYears_79 (by decide) (fun c8 => ?_) (fun c8 => ?_)
            · replace h := (if_pos c8).symm.trans h
              refine lv_iinc (v := (w6_19 + 1)) (lv' := [(6, .int (w6_19 + 1)), (0, .ref (ad 0)), (1, .int w1_19), (3, .int w3_19), (4, .int w4_19), (5, .int w5_19)]) hx hb dX8_goesYears_88 hl (k := 5) rfl rfl (by decide) rfl (fun ls hl => ?_)
              refine lv_goto (tgt := 19) hx hb dX8_goesYears_91 (by decide) ?_
              exact ih (u2 I2 0 33 ((I 0 33) + (r6 - w3_19))) J2 w1_19 w3_19 w4_19 w5_19 (w6_19 + 1) _ _ _ h hP hD hS (lv_sub hl [1, 2, 3, 4, 5, 0] rfl)
            · replace h := (if_neg c8).symm.trans h
              refine lv_aload_n hx hb dX8_goesYears_82 rfl (lv_at hl 0 rfl) ?_
              refine lv_iload hx hb dX8_goesYears_83 (lv_at hl 5 rfl) ?_
              refine pt_X8_287 hC hK hP hD hS dX8_goesYears_85 (fun H locs hP hD hS => ?_)
              refine lv_iinc (v := (w6_19 + 1)) (lv' := [(6, .int (w6_19 + 1)), (0, .ref (ad 0)), (1, .int w1_19), (3, .int w3_19), (4, .int w4_19), (5, .int w5_19)]) hx hb dX8_goesYears_88 hl (k := 5) rfl rfl (by decide) rfl (fun ls hl => ?_)
              refine lv_goto (tgt := 19) hx hb dX8_goesYears_91 (by decide) ?_
              exact ih (u2 (u2 I2 0 33 ((I 0 33) + (r6 - w3_19))) 0 34 w6_19) J2 w1_19 w3_19 w4_19 w5_19 (w6_19 + 1) _ _ _ h hP hD hS (lv_sub hl [1, 2, 3, 4, 5, 0] rfl)
  unfold F_X8_goesYears at h
  refine lv_aload_n hx hb dX8_goesYears_0 rfl (lv_at hl 0 rfl) ?_
  refine lv_iload_n hx hb dX8_goesYears_1 rfl (lv_at hl 2 rfl) ?_
  refine pt_X8_278 hC hK hP hD hS dX8_goesYears_2 (fun H locs hP hD hS => ?_)
  refine lv_aload_n hx hb dX8_goesYears_5 rfl (lv_at hl 0 rfl) ?_
  refine lv_iconst (v := 0) hx hb dX8_goesYears_6 (by decide) ?_
  refine pt_X8_284 hC hK hP hD hS dX8_goesYears_7 (fun H locs hP hD hS => ?_)
  refine lv_aload_n hx hb dX8_goesYears_10 rfl (lv_at hl 0 rfl) ?_
  refine lv_bipush (v := -9) hx hb dX8_goesYears_11 (by decide) ?_
  refine pt_X8_287 hC hK hP hD hS dX8_goesYears_13 (fun H locs hP hD hS => ?_)
  refine lv_iconst (v := 0) hx hb dX8_goesYears_16 (by decide) ?_
  refine lv_istore (lv' := [(6, .int (0 : Int32)), (0, .ref (ad 0)), (1, .int v1), (2, .int v2), (3, .int v3), (4, .int v4), (5, .int v5)]) hx hb dX8_goesYears_17 hl (by decide) rfl (fun ls hl => ?_)
  exact loop_19 3000 (u2 (u2 (u2 I 0 32 v2) 0 33 (0 : Int32)) 0 34 (-9 : Int32)) J v1 v3 v4 v5 (0 : Int32) _ _ _ h hP hD hS (lv_sub hl [1, 2, 4, 5, 6, 0] rfl)
