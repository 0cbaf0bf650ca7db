def F_X2_put (n0 : Nat) (f0 : Nat → Int32) (v2 : Int32) (v3 : Int32) : Option (Nat → Int32) := (if v2 < 0 then (some f0) else (if (Int32.ofNat n0) ≤ v2 then (some f0) else (if gin v2 n0 = true then (some (upd f0 (Int32.toNatClampNeg v2) v3)) else none)))
set_option maxHeartbeats 4000000 in
set_option maxRecDepth 100000 in
theorem c_X2_put (l : Launch) (g : Gx) (ws : va_W) (wf : (Nat → Int32) → va_W) (g0 n0 : Nat) (f0 : Nat → Int32) (a0 : Nat) (h0 : ws = wf f0) (hT : ∀ f, (wf f)[g0]? = some (a0, .inl (g.2.1, n0, .inl f))) (hs : ∀ f f', (wf f).set g0 (a0, .inl (g.2.1, n0, .inl f')) = wf f') (v2 : Int32) (v3 : Int32)  (sz : Nat) {r : Nat → Int32} (h : F_X2_put n0 f0 v2 v3 = some r) : Met l yX2_put (Cond.code yX2_put cX2_put 3 none :: BG) (k2_rm 0 0) (PcW [.ref a0, .int v2, .int v3] g ws sz) (QWv g ws (wf r) sz) 0 0 (va_A ws sz) := by
  refine mkWv (by decide) (Nat.le_of_ble_eq_true rfl) ?_
  intro p e s m args below meth c H locs ls A Q hC hK hP hD hA hS hl hret
  rw [h0] at hP hD
  have hx := hC.1
  have hb := hC.2.1
  have hts := hC.2.2.2.2
  have hown := hC.2.2.2.1
  replace hl : lv_has ls 3 [(0, .ref a0), (1, .int v2), (2, .int v3)] := hl
  unfold F_X2_put at h
  refine lv_aload_n hx hb dX2_put_0 rfl (lv_at hl 0 rfl) ?_
  refine lv_ifnull hx hb dX2_put_1 ?_
  refine lv_iload_n hx hb dX2_put_4 rfl (lv_at hl 1 rfl) ?_
  refine lv_if_lt (tgt := 18) hx hb dX2_put_5 (by decide) (fun c1 => ?_) (fun c1 => ?_)
  · replace h := (if_pos c1).symm.trans h
    obtain rfl := Option.some.inj h
    exact hret _ _ _ _ dX2_put_18 hP hD hS
  · replace h := (if_neg c1).symm.trans h
    refine lv_iload_n hx hb dX2_put_8 rfl (lv_at hl 1 rfl) ?_
    refine lv_aload_n hx hb dX2_put_9 rfl (lv_at hl 0 rfl) ?_
    refine va_alen hx hb hK hP g0 0 (hT _) rfl rfl dX2_put_10 ?_
    refine lv_icmp_ge (tgt := 18) hx hb dX2_put_11 (by decide) (fun c2 => ?_) (fun c2 => ?_)
    · replace h := (if_pos c2).symm.trans h
      obtain rfl := Option.some.inj h
      exact hret _ _ _ _ dX2_put_18 hP hD hS
    · replace h := (if_neg c2).symm.trans h
      refine lv_aload_n hx hb dX2_put_14 rfl (lv_at hl 0 rfl) ?_
      refine lv_iload_n hx hb dX2_put_15 rfl (lv_at hl 1 rfl) ?_
      refine lv_iload_n hx hb dX2_put_16 rfl (lv_at hl 2 rfl) ?_
      obtain ⟨b3, h⟩ := og h
      refine va_iast hx hb hK hP hD hS g0 0 (hT _) rfl (gin_ok b3) dX2_put_17 (fun H locs hP hD hS => ?_)
      rw [hs] at hP hD
      obtain rfl := Option.some.inj h
      exact hret _ _ _ _ dX2_put_18 hP hD hS
def F_X4_layWeather (I : SI) (J : SJ) (v1 : Int32) (v2 : Int32) : Option (Int32 × SI × SJ) := ((F_X2_put 8 (I 49) (I 47 6) v1).bind fun f_1 => ((F_X2_put 8 ((u1 I 49 f_1) 50) ((u1 I 49 f_1) 47 6) v2).bind fun f_2 => (some (v1, (u2 (u1 (u1 I 49 f_1) 50 f_2) 47 6 (((u1 (u1 I 49 f_1) 50 f_2) 47 6) + (1 : Int32))), J))))
set_option maxHeartbeats 4000000 in
set_option maxRecDepth 100000 in
theorem c_X4_layWeather (l : Launch) (g : Gx) (ad : Nat → Nat) (I : SI) (J : SJ) (v1 : Int32) (v2 : Int32)  (sz : Nat) {r : Int32} {rI : SI} {rJ : SJ} (h : F_X4_layWeather I J v1 v2 = some (r, rI, rJ)) : Met l yX4_layWeather (Cond.code yX4_layWeather cX4_layWeather 3 (some .int) :: BG) (k2_rm 1 22) (PcW [.ref (ad 47), .int v1, .int v2] g (xW ad g I J) sz) (QWi r g (xW ad g I J) (xW ad g rI rJ) sz) 0 0 (va_A (xW ad g I J) sz) := by
  refine mkWi (by decide) (Nat.le_of_ble_eq_true rfl) ?_
  intro p e s m args below meth c H locs ls A Q hC hK hP hD hA hS hl hret
  have hx := hC.1
  have hb := hC.2.1
  have hts := hC.2.2.2.2
  have hown := hC.2.2.2.1
  replace hl : lv_has ls 3 [(0, .ref (ad 47)), (1, .int v1), (2, .int v2)] := hl
  unfold F_X4_layWeather at h
  refine lv_aload_n hx hb dX4_layWeather_0 rfl (lv_at hl 0 rfl) ?_
  refine gt_X4_17 hC hK hP dX4_layWeather_1 ?_
  refine lv_aload_n hx hb dX4_layWeather_4 rfl (lv_at hl 0 rfl) ?_
  refine gt_X4_72 hC hK hP dX4_layWeather_5 ?_
  refine lv_iload_n hx hb dX4_layWeather_8 rfl (lv_at hl 1 rfl) ?_
  obtain ⟨f_1, hc1, h⟩ := ob h
  refine callWSv (As := [.ref (ad 49), .int (I 47 6), .int v1]) (rest := []) hC (c_X2_put l g (xW ad g I J) (fun f => xW ad g (u1 I 49 f) J) 49 8 (I 49) (ad 49) xc_49.1 xc_49.2.1 xc_49.2.2 (I 47 6) v1 H.size hc1) lk_X4_68 rfl rfl ⟨Nat.le_of_ble_eq_true rfl, Nat.le_of_ble_eq_true rfl⟩ hP hK hD hA hS rfl rfl hl (Nat.le_of_ble_eq_true rfl) dX4_layWeather_9 (fun H locs hP hD hS => ?_)
  refine lv_aload_n hx hb dX4_layWeather_12 rfl (lv_at hl 0 rfl) ?_
  refine gt_X4_20 hC hK hP dX4_layWeather_13 ?_
  refine lv_aload_n hx hb dX4_layWeather_16 rfl (lv_at hl 0 rfl) ?_
  refine gt_X4_72 hC hK hP dX4_layWeather_17 ?_
  refine lv_iload_n hx hb dX4_layWeather_20 rfl (lv_at hl 2 rfl) ?_
  obtain ⟨f_2, hc2, h⟩ := ob h
  refine callWSv (As := [.ref (ad 50), .int ((u1 I 49 f_1) 47 6), .int v2]) (rest := []) hC (c_X2_put l g (xW ad g (u1 I 49 f_1) J) (fun f => xW ad g (u1 (u1 I 49 f_1) 50 f) J) 50 8 ((u1 I 49 f_1) 50) (ad 50) xc_50.1 xc_50.2.1 xc_50.2.2 ((u1 I 49 f_1) 47 6) v2 H.size hc2) lk_X4_68 rfl rfl ⟨Nat.le_of_ble_eq_true rfl, Nat.le_of_ble_eq_true rfl⟩ hP hK hD hA hS rfl rfl hl (Nat.le_of_ble_eq_true rfl) dX4_layWeather_21 (fun H locs hP hD hS => ?_)
  refine lv_aload_n hx hb dX4_layWeather_24 rfl (lv_at hl 0 rfl) ?_
  refine lv_dup hx hb dX4_layWeather_25 rfl ?_
  refine gt_X4_72 hC hK hP dX4_layWeather_26 ?_
  refine lv_iconst (v := 1) hx hb dX4_layWeather_29 (by decide) ?_
  refine lv_iadd hx hb dX4_layWeather_30 ?_
  refine pt_X4_72 hC hK hP hD hS dX4_layWeather_31 (fun H locs hP hD hS => ?_)
  refine lv_iload_n hx hb dX4_layWeather_34 rfl (lv_at hl 1 rfl) ?_
  obtain ⟨h1, h⟩ := Prod.mk.inj (Option.some.inj h)
  obtain ⟨rfl, rfl⟩ := Prod.mk.inj h
  exact hret _ _ _ _ _ dX4_layWeather_35 h1 hP hD hS
def F_X2_at (n0 : Nat) (f0 : Nat → Int32) (v2 : Int32) : Option (Int32) := (if v2 < 0 then (some (0 : Int32)) else (if (Int32.ofNat n0) ≤ v2 then (some (0 : Int32)) else (if gin v2 n0 = true then (some (f0 (Int32.toNatClampNeg v2))) else none)))
set_option maxHeartbeats 4000000 in
set_option maxRecDepth 100000 in
theorem c_X2_at (l : Launch) (g : Gx) (ws : va_W) (g0 n0 : Nat) (f0 : Nat → Int32) (a0 : Nat) (hF0 : ws[g0]? = some (a0, .inl (g.2.1, n0, .inl f0))) (v2 : Int32)  {r : Int32} (h : F_X2_at n0 f0 v2 = some r) : Met l yX2_at (Cond.code yX2_at cX2_at 2 (some .int) :: BG) (k2_rm 0 0) (va_Pc [.ref a0, .int v2] (fun U => Pg g ws U.heap ∧ Kg g U)) (k2_QcV (.int r)) 0 0 (fun _ => False) := by
  refine mkRi (by decide) (Nat.le_of_ble_eq_true rfl) ?_
  intro p e s m args below meth c H locs ls Q hC hK hP hl hret
  have hx := hC.1
  have hb := hC.2.1
  have hts := hC.2.2.2.2
  have hown := hC.2.2.2.1
  replace hl : lv_has ls 2 [(0, .ref a0), (1, .int v2)] := hl
  unfold F_X2_at at h
  refine lv_aload_n hx hb dX2_at_0 rfl (lv_at hl 0 rfl) ?_
  refine lv_ifnull hx hb dX2_at_1 ?_
  refine lv_iload_n hx hb dX2_at_4 rfl (lv_at hl 1 rfl) ?_
  refine lv_if_lt (tgt := 20) hx hb dX2_at_5 (by decide) (fun c1 => ?_) (fun c1 => ?_)
  · replace h := (if_pos c1).symm.trans h
    refine lv_iconst (v := 0) hx hb dX2_at_20 (by decide) ?_
    exact hret _ _ _ dX2_at_21 (Option.some.inj h)
  · replace h := (if_neg c1).symm.trans h
    refine lv_iload_n hx hb dX2_at_8 rfl (lv_at hl 1 rfl) ?_
    refine lv_aload_n hx hb dX2_at_9 rfl (lv_at hl 0 rfl) ?_
    refine va_alen hx hb hK hP g0 0 (hF0) rfl rfl dX2_at_10 ?_
    refine lv_icmp_ge (tgt := 20) hx hb dX2_at_11 (by decide) (fun c2 => ?_) (fun c2 => ?_)
    · replace h := (if_pos c2).symm.trans h
      refine lv_iconst (v := 0) hx hb dX2_at_20 (by decide) ?_
      exact hret _ _ _ dX2_at_21 (Option.some.inj h)
    · replace h := (if_neg c2).symm.trans h
      refine lv_aload_n hx hb dX2_at_14 rfl (lv_at hl 0 rfl) ?_
      refine lv_iload_n hx hb dX2_at_15 rfl (lv_at hl 1 rfl) ?_
      obtain ⟨b3, h⟩ := og h
      refine va_iald hx hb hK hP g0 0 (hF0) rfl (gin_ok b3) dX2_at_16 ?_
      refine lv_goto (tgt := 21) hx hb dX2_at_17 (by decide) ?_
      exact hret _ _ _ dX2_at_21 (Option.some.inj h)
def FL_X4_layWeathers_23  : Nat → SI → SJ → Int32 → Int32 → Int32 → Option (SI × SJ)
  | 0, _, _, _, _, _ => none
  | n + 1, I, J, w1_23, w2_23, w3_23 => (if (I 0 7) ≤ w3_23 then (if w2_23 ≤ 0 then (some (I, J)) else ((F_X4_layWeather I J w2_23 (100 : Int32)).bind fun (r4, I4, J4) => (some (I4, J4)))) else ((F_X2_at 6 (I 4) w3_23).bind fun r5 => ((F_X2_at 6 (I 5) w3_23).bind fun r6 => ((F_X4_layWeather I J ((r5 * ((100 : Int32) - w1_23)) / (100 : Int32)) r6).bind fun (r7, I7, J7) => (FL_X4_layWeathers_23 n I7 J7 w1_23 (w2_23 - r7) (w3_23 + 1))))))
def F_X4_layWeathers (I : SI) (J : SJ) (v1 : Int32) : Option (SI × SJ) := (if v1 ≤ 0 then (FL_X4_layWeathers_23 3000 (u2 I 47 6 (0 : Int32)) J v1 (100 : Int32) (0 : Int32)) else ((F_X4_layWeather (u2 I 47 6 (0 : Int32)) J v1 (0 : Int32)).bind fun (r8, I8, J8) => (FL_X4_layWeathers_23 3000 I8 J8 v1 ((100 : Int32) - r8) (0 : Int32))))
set_option maxHeartbeats 4000000 in
set_option maxRecDepth 100000 in
theorem c_X4_layWeathers (l : Launch) (g : Gx) (ad : Nat → Nat) (I : SI) (J : SJ) (v1 : Int32)  (sz : Nat) {rI : SI} {rJ : SJ} (h : F_X4_layWeathers I J v1 = some (rI, rJ)) : Met l yX4_layWeathers (Cond.code yX4_layWeathers cX4_layWeathers 4 none :: BG) (k2_rm 2 44) (PcW [.ref (ad 47), .int v1] g (xW ad g I J) sz) (QWv g (xW ad g I J) (xW ad g rI rJ) sz) 0 0 (va_A (xW ad g I J) sz) := by
  refine mkWv (by decide) (Nat.le_of_ble_eq_true rfl) ?_
  intro p e s m args below meth c H locs ls A Q hC hK hP hD hA hS hl hret
  have hx := hC.1
  have hb := hC.2.1
  have hts := hC.2.2.2.2
  have hown := hC.2.2.2.1
  replace hl : lv_has ls 4 [(0, .ref (ad 47)), (1, .int v1)] := hl
  have loop_23 : ∀ (n : Nat) (I : SI) (J : SJ) (w1_23 : Int32) (w2_23 : Int32) (w3_23 : Int32)  (H : Heap) (locs : List Loc) (ls : Array Slot), FL_X4_layWeathers_23 n I J w1_23 w2_23 w3_23 = some (rI, rJ) → Pg g (xW ad g I J) H → va_D A (xW ad g I J) → va_S A s.heap H locs → lv_has ls 4 [(0, .ref (ad 47)), (1, .int w1_23), (2, .int w2_23), (3, .int w3_23)] → W p l e (k2_rm 2 44) s m args below meth c H locs 0 0 Q (F0 m 23 ls []) := by
    intro n
    induction n with
    | zero =>
      intro I J w1_23 w2_23 w3_23 H locs ls h
      exact no h
    | succ n ih =>
      intro I J w1_23 w2_23 w3_23 H locs ls h hP hD hS hl
      rw [FL_X4_layWeathers_23] at h
      refine lv_iload_n hx hb dX4_layWeathers_23 rfl (lv_at hl 3 rfl) ?_
      refine lv_aload_n hx hb dX4_layWeathers_24 rfl (lv_at hl 0 rfl) ?_
      refine gt_X4_26 hC hK hP dX4_layWeathers_25 ?_
      refine gt_X4_78 (Or.inl rfl) hC hK hP dX4_layWeathers_28 ?_
      refine lv_icmp_ge (tgt := 77) hx hb dX4_layWeathers_31 (by decide) (fun c2 => ?_) (fun c2 => ?_)
      · replace h := (if_pos c2).symm.trans h
        refine lv_iload_n hx hb dX4_layWeathers_77 rfl (lv_at hl 2 rfl) ?_
        refine lv_if_le (tgt := 89) hx hb dX4_layWeathers_78 (by decide) (fun c3 => ?_) (fun c3 => ?_)
        · replace h := (if_pos c3).symm.trans h
          obtain ⟨rfl, rfl⟩ := Prod.mk.inj (Option.some.inj h)
          exact hret _ _ _ _ dX4_layWeathers_89 hP hD hS
        · replace h := (if_neg c3).symm.trans h
          refine lv_aload_n hx hb dX4_layWeathers_81 rfl (lv_at hl 0 rfl) ?_
          refine lv_iload_n hx hb dX4_layWeathers_82 rfl (lv_at hl 2 rfl) ?_
          refine lv_bipush (v := 100) hx hb dX4_layWeathers_83 (by decide) ?_
          obtain ⟨⟨r4, I4, J4⟩, hc4, h⟩ := ob h
          dsimp only at h
          refine callWVi (As := [.int w2_23, .int (100 : Int32)]) (rest := []) hC (c_X4_layWeather l g ad I J w2_23 (100 : Int32)  H.size hc4) lk_X4_75 rfl rfl ⟨Nat.le_of_ble_eq_true rfl, Nat.le_of_ble_eq_true rfl⟩ hP hK hD hA hS xo_47 rfl rfl rfl hl (Nat.le_of_ble_eq_true rfl) dX4_layWeathers_85 (fun H locs hP hD hS => ?_)
          refine lv_pop hx hb dX4_layWeathers_88 rfl ?_
          obtain ⟨rfl, rfl⟩ := Prod.mk.inj (Option.some.inj h)
          exact hret _ _ _ _ dX4_layWeathers_89 hP hD hS
      · replace h := (if_neg c2).symm.trans h
        refine lv_iload_n hx hb dX4_layWeathers_34 rfl (lv_at hl 2 rfl) ?_
        refine lv_aload_n hx hb dX4_layWeathers_35 rfl (lv_at hl 0 rfl) ?_
        refine lv_aload_n hx hb dX4_layWeathers_36 rfl (lv_at hl 0 rfl) ?_
        refine gt_X4_26 hC hK hP dX4_layWeathers_37 ?_
        refine gt_X4_79 (Or.inl rfl) hC hK hP dX4_layWeathers_40 ?_
        refine lv_iload_n hx hb dX4_layWeathers_43 rfl (lv_at hl 3 rfl) ?_
        obtain ⟨r5, hc5, h⟩ := ob h
        refine callRS (As := [.ref (ad 4), .int w3_23]) (rest := [.ref (ad 47), .int w2_23]) hC (c_X2_at l g (xW ad g I J) 4 6 (I 4) (ad 4) xo_4 w3_23 hc5) lk_X4_61 rfl rfl ⟨Nat.le_of_ble_eq_true rfl, Nat.le_of_ble_eq_true rfl⟩ hP hK rfl rfl hl (Nat.le_of_ble_eq_true rfl) dX4_layWeathers_44 ?_
        refine lv_bipush (v := 100) hx hb dX4_layWeathers_47 (by decide) ?_
        refine lv_iload_n hx hb dX4_layWeathers_49 rfl (lv_at hl 1 rfl) ?_
        refine lv_isub hx hb dX4_layWeathers_50 ?_
        refine lv_imul hx hb dX4_layWeathers_51 ?_
        refine lv_bipush (v := 100) hx hb dX4_layWeathers_52 (by decide) ?_
        refine lv_idiv hx hb dX4_layWeathers_54 (by decide) ?_
        refine lv_aload_n hx hb dX4_layWeathers_55 rfl (lv_at hl 0 rfl) ?_
        refine gt_X4_26 hC hK hP dX4_layWeathers_56 ?_
        refine gt_X4_80 (Or.inl rfl) hC hK hP dX4_layWeathers_59 ?_
        refine lv_iload_n hx hb dX4_layWeathers_62 rfl (lv_at hl 3 rfl) ?_
        obtain ⟨r6, hc6, h⟩ := ob h
        refine callRS (As := [.ref (ad 5), .int w3_23]) (rest := [.int ((r5 * ((100 : Int32) - w1_23)) / (100 : Int32)), .ref (ad 47), .int w2_23]) hC (c_X2_at l g (xW ad g I J) 5 6 (I 5) (ad 5) xo_5 w3_23 hc6) lk_X4_61 rfl rfl ⟨Nat.le_of_ble_eq_true rfl, Nat.le_of_ble_eq_true rfl⟩ hP hK rfl rfl hl (Nat.le_of_ble_eq_true rfl) dX4_layWeathers_63 ?_
        obtain ⟨⟨r7, I7, J7⟩, hc7, h⟩ := ob h
        dsimp only at h
        refine callWVi (As := [.int ((r5 * ((100 : Int32) - w1_23)) / (100 : Int32)), .int r6]) (rest := [.int w2_23]) hC (c_X4_layWeather l g ad I J ((r5 * ((100 : Int32) - w1_23)) / (100 : Int32)) r6  H.size hc7) lk_X4_75 rfl rfl ⟨Nat.le_of_ble_eq_true rfl, Nat.le_of_ble_eq_true rfl⟩ hP hK hD hA hS xo_47 rfl rfl rfl hl (Nat.le_of_ble_eq_true rfl) dX4_layWeathers_66 (fun H locs hP hD hS => ?_)
        refine lv_isub hx hb dX4_layWeathers_69 ?_
        refine lv_istore_n (lv' := [(2, .int (w2_23 - r7)), (0, .ref (ad 47)), (1, .int w1_23), (3, .int w3_23)]) hx hb dX4_layWeathers_70 rfl hl (by decide) rfl (fun ls hl => ?_)
        refine lv_iinc (v := (w3_23 + 1)) (lv' := [(3, .int (w3_23 + 1)), (2, .int (w2_23 - r7)), (0, .ref (ad 47)), (1, .int w1_23)]) hx hb dX4_layWeathers_71 hl (k := 3) rfl rfl (by decide) rfl (fun ls hl => ?_)
        refine lv_goto (tgt := 23) hx hb dX4_layWeathers_74 (by decide) ?_
        exact ih I7 J7 w1_23 (w2_23 - r7) (w3_23 + 1) _ _ _ h hP hD hS (lv_sub hl [2, 3, 1, 0] rfl)
  unfold F_X4_layWeathers at h
  refine lv_aload_n hx hb dX4_layWeathers_0 rfl (lv_at hl 0 rfl) ?_
  refine lv_iconst (v := 0) hx hb dX4_layWeathers_1 (by decide) ?_
  refine pt_X4_72 hC hK hP hD hS dX4_layWeathers_2 (fun H locs hP hD hS => ?_)
  refine lv_bipush (v := 100) hx hb dX4_layWeathers_5 (by decide) ?_
  refine lv_istore_n (lv' := [(2, .int (100 : Int32)), (0, .ref (ad 47)), (1, .int v1)]) hx hb dX4_layWeathers_7 rfl hl (by decide) rfl (fun ls hl => ?_)
  refine lv_iload_n hx hb dX4_layWeathers_8 rfl (lv_at hl 2 rfl) ?_
  refine lv_if_le (tgt := 21) hx hb dX4_layWeathers_9 (by decide) (fun c1 => ?_) (fun c1 => ?_)
  · replace h := (if_pos c1).symm.trans h
    refine lv_iconst (v := 0) hx hb dX4_layWeathers_21 (by decide) ?_
    refine lv_istore_n (lv' := [(3, .int (0 : Int32)), (2, .int (100 : Int32)), (0, .ref (ad 47)), (1, .int v1)]) hx hb dX4_layWeathers_22 rfl hl (by decide) rfl (fun ls hl => ?_)
    exact loop_23 3000 (u2 I 47 6 (0 : Int32)) J v1 (100 : Int32) (0 : Int32) _ _ _ h hP hD hS (lv_sub hl [2, 3, 1, 0] rfl)
  · replace h := (if_neg c1).symm.trans h
    refine lv_iload_n hx hb dX4_layWeathers_12 rfl (lv_at hl 0 rfl) ?_
    refine lv_aload_n hx hb dX4_layWeathers_13 rfl (lv_at hl 1 rfl) ?_
    refine lv_iload_n hx hb dX4_layWeathers_14 rfl (lv_at hl 2 rfl) ?_
    refine lv_iconst (v := 0) hx hb dX4_layWeathers_15 (by decide) ?_
    obtain ⟨⟨r8, I8, J8⟩, hc8, h⟩ := ob h
    dsimp only at h
    refine callWVi (As := [.int v1, .int (0 : Int32)]) (rest := [.int (100 : Int32)]) hC (c_X4_layWeather l g ad (u2 I 47 6 (0 : Int32)) J v1 (0 : Int32)  H.size hc8) lk_X4_75 rfl rfl ⟨Nat.le_of_ble_eq_true rfl, Nat.le_of_ble_eq_true rfl⟩ hP hK hD hA hS xo_47 rfl rfl rfl hl (Nat.le_of_ble_eq_true rfl) dX4_layWeathers_16 (fun H locs hP hD hS => ?_)
    refine lv_isub hx hb dX4_layWeathers_19 ?_
    refine lv_istore_n (lv' := [(2, .int ((100 : Int32) - r8)), (0, .ref (ad 47)), (1, .int v1)]) hx hb dX4_layWeathers_20 rfl hl (by decide) rfl (fun ls hl => ?_)
    refine lv_iconst (v := 0) hx hb dX4_layWeathers_21 (by decide) ?_
    refine lv_istore_n (lv' := [(3, .int (0 : Int32)), (2, .int ((100 : Int32) - r8)), (0, .ref (ad 47)), (1, .int v1)]) hx hb dX4_layWeathers_22 rfl hl (by decide) rfl (fun ls hl => ?_)
    exact loop_23 3000 I8 J8 v1 ((100 : Int32) - r8) (0 : Int32) _ _ _ h hP hD hS (lv_sub hl [2, 3, 1, 0] rfl)
def F_X1_setting (q : Nat) (I : SI) (J : SJ) (v1 : Int32) : Option (Int32) := (if v1 < 0 then (some (0 : Int32)) else (if (8 : Int32) ≤ v1 then (some (0 : Int32)) else (if gin v1 8 = true then (some (I (q + 1) (Int32.toNatClampNeg v1))) else none)))
set_option maxHeartbeats 4000000 in
set_option maxRecDepth 100000 in
theorem c_X1_setting (l : Launch) (g : Gx) (ad : Nat → Nat) (I : SI) (J : SJ) (q : Nat) (v1 : Int32) (hE : isE q) {r : Int32} (h : F_X1_setting q I J v1 = some r) : Met l yX1_setting (Cond.code yX1_setting cX1_setting 2 (some .int) :: BG) (k2_rm 0 0) (va_Pc [.ref (ad q), .int v1] (fun U => Pg g (xW ad g I J) U.heap ∧ Kg g U)) (k2_QcV (.int r)) 0 0 (fun _ => False) := by
  refine mkRi (by decide) (Nat.le_of_ble_eq_true rfl) ?_
  intro p e s m args below meth c H locs ls Q hC hK hP hl hret
  have hx := hC.1
  have hb := hC.2.1
  have hts := hC.2.2.2.2
  have hown := hC.2.2.2.1
  replace hl : lv_has ls 2 [(0, .ref (ad q)), (1, .int v1)] := hl
  unfold F_X1_setting at h
  refine lv_iload_n hx hb dX1_setting_0 rfl (lv_at hl 1 rfl) ?_
  refine lv_if_lt (tgt := 22) hx hb dX1_setting_1 (by decide) (fun c1 => ?_) (fun c1 => ?_)
  · replace h := (if_pos c1).symm.trans h
    refine lv_iconst (v := 0) hx hb dX1_setting_22 (by decide) ?_
    exact hret _ _ _ dX1_setting_23 (Option.some.inj h)
  · replace h := (if_neg c1).symm.trans h
    refine lv_iload_n hx hb dX1_setting_4 rfl (lv_at hl 1 rfl) ?_
    refine lv_aload_n hx hb dX1_setting_5 rfl (lv_at hl 0 rfl) ?_
    refine gt_X1_9 hE hC hK hP dX1_setting_6 ?_
    refine ln_xE1 hE hC hK hP dX1_setting_9 ?_
    refine lv_icmp_ge (tgt := 22) hx hb dX1_setting_10 (by decide) (fun c2 => ?_) (fun c2 => ?_)
    · replace h := (if_pos c2).symm.trans h
      refine lv_iconst (v := 0) hx hb dX1_setting_22 (by decide) ?_
      exact hret _ _ _ dX1_setting_23 (Option.some.inj h)
    · replace h := (if_neg c2).symm.trans h
      refine lv_aload_n hx hb dX1_setting_13 rfl (lv_at hl 0 rfl) ?_
      refine gt_X1_9 hE hC hK hP dX1_setting_14 ?_
      refine lv_iload_n hx hb dX1_setting_17 rfl (lv_at hl 1 rfl) ?_
      obtain ⟨b3, h⟩ := og h
      refine al_xE1 hE hC hK hP (gin_ok b3) dX1_setting_18 ?_
      refine lv_goto (tgt := 23) hx hb dX1_setting_19 (by decide) ?_
      exact hret _ _ _ dX1_setting_23 (Option.some.inj h)
def F_X4_timesOf (I : SI) (J : SJ) (v1 : Int32) : Option (Int32) := ((F_X2_at 8 (I 50) v1).bind fun r1 => (some r1))
set_option maxHeartbeats 4000000 in
set_option maxRecDepth 100000 in
theorem c_X4_timesOf (l : Launch) (g : Gx) (ad : Nat → Nat) (I : SI) (J : SJ) (v1 : Int32)  {r : Int32} (h : F_X4_timesOf I J v1 = some r) : Met l yX4_timesOf (Cond.code yX4_timesOf cX4_timesOf 2 (some .int) :: BG) (k2_rm 1 21) (va_Pc [.ref (ad 47), .int v1] (fun U => Pg g (xW ad g I J) U.heap ∧ Kg g U)) (k2_QcV (.int r)) 0 0 (fun _ => False) := by
  refine mkRi (by decide) (Nat.le_of_ble_eq_true rfl) ?_
  intro p e s m args below meth c H locs ls Q hC hK hP hl hret
  have hx := hC.1
  have hb := hC.2.1
  have hts := hC.2.2.2.2
  have hown := hC.2.2.2.1
  replace hl : lv_has ls 2 [(0, .ref (ad 47)), (1, .int v1)] := hl
  unfold F_X4_timesOf at h
  refine lv_aload_n hx hb dX4_timesOf_0 rfl (lv_at hl 0 rfl) ?_
  refine gt_X4_20 hC hK hP dX4_timesOf_1 ?_
  refine lv_iload_n hx hb dX4_timesOf_4 rfl (lv_at hl 1 rfl) ?_
  obtain ⟨r1, hc1, h⟩ := ob h
  refine callRS (As := [.ref (ad 50), .int v1]) (rest := []) hC (c_X2_at l g (xW ad g I J) 50 8 (I 50) (ad 50) xo_50 v1 hc1) lk_X4_61 rfl rfl ⟨Nat.le_of_ble_eq_true rfl, Nat.le_of_ble_eq_true rfl⟩ hP hK rfl rfl hl (Nat.le_of_ble_eq_true rfl) dX4_timesOf_5 ?_
  exact hret _ _ _ dX4_timesOf_8 (Option.some.inj h)
def FL_X4_layHarvests_2  : Nat → SI → SJ → Int32 → Int32 → Int32 → Option (SI × SJ)
  | 0, _, _, _, _, _ => none
  | n + 1, I, J, w1_2, w2_2, w3_2 => (if (I 47 6) ≤ w3_2 then (some (I, J)) else ((F_X4_timesOf I J w3_2).bind fun r2 => ((F_X2_put 72 (I 51) ((w1_2 * (8 : Int32)) + w3_2) ((w2_2 * r2) / (100 : Int32))).bind fun f_3 => (FL_X4_layHarvests_2 n (u1 I 51 f_3) J w1_2 w2_2 (w3_2 + 1)))))
def F_X4_layHarvests (I : SI) (J : SJ) (v1 : Int32) (v2 : Int32) : Option (SI × SJ) := (FL_X4_layHarvests_2 3000 I J v1 v2 (0 : Int32))
set_option maxHeartbeats 4000000 in
set_option maxRecDepth 100000 in
theorem c_X4_layHarvests (l : Launch) (g : Gx) (ad : Nat → Nat) (I : SI) (J : SJ) (v1 : Int32) (v2 : Int32)  (sz : Nat) {rI : SI} {rJ : SJ} (h : F_X4_layHarvests I J v1 v2 = some (rI, rJ)) : Met l yX4_layHarvests (Cond.code yX4_layHarvests cX4_layHarvests 4 none :: BG) (k2_rm 2 42) (PcW [.ref (ad 47), .int v1, .int v2] g (xW ad g I J) sz) (QWv g (xW ad g I J) (xW ad g rI rJ) sz) 0 0 (va_A (xW ad g I J) sz) := by
  refine mkWv (by decide) (Nat.le_of_ble_eq_true rfl) ?_
  intro p e s m args below meth c H locs ls A Q hC hK hP hD hA hS hl hret
  have hx := hC.1
  have hb := hC.2.1
  have hts := hC.2.2.2.2
  have hown := hC.2.2.2.1
  replace hl : lv_has ls 4 [(0, .ref (ad 47)), (1, .int v1), (2, .int v2)] := hl
  have loop_2 : ∀ (n : Nat) (I : SI) (J : SJ) (w1_2 : Int32) (w2_2 : Int32) (w3_2 : Int32)  (H : Heap) (locs : List Loc) (ls : Array Slot), FL_X4_layHarvests_2 n I J w1_2 w2_2 w3_2 = some (rI, rJ) → Pg g (xW ad g I J) H → va_D A (xW ad g I J) → va_S A s.heap H locs → lv_has ls 4 [(0, .ref (ad 47)), (1, .int w1_2), (2, .int w2_2), (3, .int w3_2)] → W p l e (k2_rm 2 42) s m args below meth c H locs 0 0 Q (F0 m 2 ls []) := by
    intro n
    induction n with
    | zero =>
      intro I J w1_2 w2_2 w3_2 H locs ls h
      exact no h
    | succ n ih =>
      intro I J w1_2 w2_2 w3_2 H locs ls h hP hD hS hl
      rw [FL_X4_layHarvests_2] at h
      refine lv_iload_n hx hb dX4_layHarvests_2 rfl (lv_at hl 3 rfl) ?_
      refine lv_aload_n hx hb dX4_layHarvests_3 rfl (lv_at hl 0 rfl) ?_
      refine gt_X4_72 hC hK hP dX4_layHarvests_4 ?_
      refine lv_icmp_ge (tgt := 39) hx hb dX4_layHarvests_7 (by decide) (fun c1 => ?_) (fun c1 => ?_)
      · replace h := (if_pos c1).symm.trans h
        obtain ⟨rfl, rfl⟩ := Prod.mk.inj (Option.some.inj h)
        exact hret _ _ _ _ dX4_layHarvests_39 hP hD hS
      · replace h := (if_neg c1).symm.trans h
        refine lv_aload_n hx hb dX4_layHarvests_10 rfl (lv_at hl 0 rfl) ?_
        refine gt_X4_23 hC hK hP dX4_layHarvests_11 ?_
        refine lv_iload_n hx hb dX4_layHarvests_14 rfl (lv_at hl 1 rfl) ?_
        refine lv_bipush (v := 8) hx hb dX4_layHarvests_15 (by decide) ?_
        refine lv_imul hx hb dX4_layHarvests_17 ?_
        refine lv_iload_n hx hb dX4_layHarvests_18 rfl (lv_at hl 3 rfl) ?_
        refine lv_iadd hx hb dX4_layHarvests_19 ?_
        refine lv_iload_n hx hb dX4_layHarvests_20 rfl (lv_at hl 2 rfl) ?_
        refine lv_aload_n hx hb dX4_layHarvests_21 rfl (lv_at hl 0 rfl) ?_
        refine lv_iload_n hx hb dX4_layHarvests_22 rfl (lv_at hl 3 rfl) ?_
        obtain ⟨r2, hc2, h⟩ := ob h
        refine callRV (As := [.int w3_2]) (rest := [.int w2_2, .int ((w1_2 * (8 : Int32)) + w3_2), .ref (ad 51)]) hC (c_X4_timesOf l g ad I J w3_2  hc2) lk_X4_81 rfl rfl ⟨Nat.le_of_ble_eq_true rfl, Nat.le_of_ble_eq_true rfl⟩ hP hK xo_47 rfl rfl rfl hl (Nat.le_of_ble_eq_true rfl) dX4_layHarvests_23 ?_
        refine lv_imul hx hb dX4_layHarvests_26 ?_
        refine lv_bipush (v := 100) hx hb dX4_layHarvests_27 (by decide) ?_
        refine lv_idiv hx hb dX4_layHarvests_29 (by decide) ?_
        obtain ⟨f_3, hc3, h⟩ := ob h
        refine callWSv (As := [.ref (ad 51), .int ((w1_2 * (8 : Int32)) + w3_2), .int ((w2_2 * r2) / (100 : Int32))]) (rest := []) hC (c_X2_put l g (xW ad g I J) (fun f => xW ad g (u1 I 51 f) J) 51 72 (I 51) (ad 51) xc_51.1 xc_51.2.1 xc_51.2.2 ((w1_2 * (8 : Int32)) + w3_2) ((w2_2 * r2) / (100 : Int32)) H.size hc3) lk_X4_68 rfl rfl ⟨Nat.le_of_ble_eq_true rfl, Nat.le_of_ble_eq_true rfl⟩ hP hK hD hA hS rfl rfl hl (Nat.le_of_ble_eq_true rfl) dX4_layHarvests_30 (fun H locs hP hD hS => ?_)
        refine lv_iinc (v := (w3_2 + 1)) (lv' := [(3, .int (w3_2 + 1)), (0, .ref (ad 47)), (1, .int w1_2), (2, .int w2_2)]) hx hb dX4_layHarvests_33 hl (k := 3) rfl rfl (by decide) rfl (fun ls hl => ?_)
        refine lv_goto (tgt := 2) hx hb dX4_layHarvests_36 (by decide) ?_
        exact ih (u1 I 51 f_3) J w1_2 w2_2 (w3_2 + 1) _ _ _ h hP hD hS (lv_sub hl [1, 2, 3, 0] rfl)
  unfold F_X4_layHarvests at h
  refine lv_iconst (v := 0) hx hb dX4_layHarvests_0 (by decide) ?_
  refine lv_istore_n (lv' := [(3, .int (0 : Int32)), (0, .ref (ad 47)), (1, .int v1), (2, .int v2)]) hx hb dX4_layHarvests_1 rfl hl (by decide) rfl (fun ls hl => ?_)
  exact loop_2 3000 I J v1 v2 (0 : Int32) _ _ _ h hP hD hS (lv_sub hl [1, 2, 3, 0] rfl)
def FL_X4_lay_53  : Nat → SI → SJ → Int32 → Int32 → Int32 → Int32 → Option (SI × SJ)
  | 0, _, _, _, _, _, _ => none
  | n + 1, I, J, w2_53, w4_53, w5_53, w6_53 => (if (I 47 5) ≤ w6_53 then (some (I, J)) else ((F_X2_at 8 (I 3) w6_53).bind fun r5 => ((F_X2_at 8 (I 2) w6_53).bind fun r6 => ((F_X2_put 9 (I 48) (w6_53 + (1 : Int32)) (w5_53 + r6)).bind fun f_7 => ((F_X4_layHarvests (u1 I 48 f_7) J (w6_53 + (1 : Int32)) (w4_53 + ((r5 * ((10 : Int32) + w2_53)) / (10 : Int32)))).bind fun (I8, J8) => (FL_X4_lay_53 n I8 J8 w2_53 (w4_53 + ((r5 * ((10 : Int32) + w2_53)) / (10 : Int32))) (w5_53 + r6) (w6_53 + 1)))))))
def F_X4_lay (I : SI) (J : SJ) (v1 : Int32) (v2 : Int32) (v3 : Int32) : Option (SI × SJ) := ((F_X4_layWeathers (u2 (u2 I 47 7 (0 : Int32)) 47 5 (if (8 : Int32) < ((u2 I 47 7 (0 : Int32)) 0 6) then (8 : Int32) else ((u2 I 47 7 (0 : Int32)) 0 6))) J v3).bind fun (I1, J1) => ((F_X1_setting 0 I1 J1 (0 : Int32)).bind fun r2 => ((F_X4_layHarvests I1 J1 (0 : Int32) (r2 + ((5 : Int32) * v1))).bind fun (I3, J3) => (FL_X4_lay_53 3000 I3 J3 v2 (r2 + ((5 : Int32) * v1)) (0 : Int32) (0 : Int32)))))
set_option maxHeartbeats 4000000 in
set_option maxRecDepth 100000 in
theorem c_X4_lay (l : Launch) (g : Gx) (ad : Nat → Nat) (I : SI) (J : SJ) (v1 : Int32) (v2 : Int32) (v3 : Int32)  (sz : Nat) {rI : SI} {rJ : SJ} (h : F_X4_lay I J v1 v2 v3 = some (rI, rJ)) : Met l yX4_lay (Cond.code yX4_lay cX4_lay 7 none :: BG) (k2_rm 3 67) (PcW [.ref (ad 47), .int v1, .int v2, .int v3] g (xW ad g I J) sz) (QWv g (xW ad g I J) (xW ad g rI rJ) sz) 0 0 (va_A (xW ad g I J) sz) := by
  refine mkWv (by decide) (Nat.le_of_ble_eq_true rfl) ?_
  intro p e s m args below meth c H locs ls A Q hC hK hP hD hA hS hl hret
  have hx := hC.1
  have hb := hC.2.1
  have hts := hC.2.2.2.2
  have hown := hC.2.2.2.1
  replace hl : lv_has ls 7 [(0, .ref (ad 47)), (1, .int v1), (2, .int v2), (3, .int v3)] := hl
  have loop_53 : ∀ (n : Nat) (I : SI) (J : SJ) (w2_53 : Int32) (w4_53 : Int32) (w5_53 : Int32) (w6_53 : Int32)  (H : Heap) (locs : List Loc) (ls : Array Slot), FL_X4_lay_53 n I J w2_53 w4_53 w5_53 w6_53 = some (rI, rJ) → Pg g (xW ad g I J) H → va_D A (xW ad g I J) → va_S A s.heap H locs → lv_has ls 7 [(0, .ref (ad 47)), (2, .int w2_53), (4, .int w4_53), (5, .int w5_53), (6, .int w6_53)] → W p l e (k2_rm 3 67) s m args below meth c H locs 0 0 Q (F0 m 53 ls []) := by
    intro n
    induction n with
    | zero =>
      intro I J w2_53 w4_53 w5_53 w6_53 H locs ls h
      exact no h
    | succ n ih =>
      intro I J w2_53 w4_53 w5_53 w6_53 H locs ls h hP hD hS hl
      rw [FL_X4_lay_53] at h
      refine lv_iload hx hb dX4_lay_53 (lv_at hl 4 rfl) ?_
      refine lv_aload_n hx hb dX4_lay_55 rfl (lv_at hl 0 rfl) ?_
      refine gt_X4_43 hC hK hP dX4_lay_56 ?_
      refine lv_icmp_ge (tgt := 133) hx hb dX4_lay_59 (by decide) (fun c4 => ?_) (fun c4 => ?_)
      · replace h := (if_pos c4).symm.trans h
        obtain ⟨rfl, rfl⟩ := Prod.mk.inj (Option.some.inj h)
        exact hret _ _ _ _ dX4_lay_133 hP hD hS
      · replace h := (if_neg c4).symm.trans h
        refine lv_iload hx hb dX4_lay_62 (lv_at hl 2 rfl) ?_
        refine lv_aload_n hx hb dX4_lay_64 rfl (lv_at hl 0 rfl) ?_
        refine gt_X4_26 hC hK hP dX4_lay_65 ?_
        refine gt_X4_58 (Or.inl rfl) hC hK hP dX4_lay_68 ?_
        refine lv_iload hx hb dX4_lay_71 (lv_at hl 4 rfl) ?_
        obtain ⟨r5, hc5, h⟩ := ob h
        refine callRS (As := [.ref (ad 3), .int w6_53]) (rest := [.int w4_53]) hC (c_X2_at l g (xW ad g I J) 3 8 (I 3) (ad 3) xo_3 w6_53 hc5) lk_X4_61 rfl rfl ⟨Nat.le_of_ble_eq_true rfl, Nat.le_of_ble_eq_true rfl⟩ hP hK rfl rfl hl (Nat.le_of_ble_eq_true rfl) dX4_lay_73 ?_
        refine lv_bipush (v := 10) hx hb dX4_lay_76 (by decide) ?_
        refine lv_iload_n hx hb dX4_lay_78 rfl (lv_at hl 1 rfl) ?_
        refine lv_iadd hx hb dX4_lay_79 ?_
        refine lv_imul hx hb dX4_lay_80 ?_
        refine lv_bipush (v := 10) hx hb dX4_lay_81 (by decide) ?_
        refine lv_idiv hx hb dX4_lay_83 (by decide) ?_
        refine lv_iadd hx hb dX4_lay_84 ?_
        refine lv_istore (lv' := [(4, .int (w4_53 + ((r5 * ((10 : Int32) + w2_53)) / (10 : Int32)))), (0, .ref (ad 47)), (2, .int w2_53), (5, .int w5_53), (6, .int w6_53)]) hx hb dX4_lay_85 hl (by decide) rfl (fun ls hl => ?_)
        refine lv_iload hx hb dX4_lay_87 (lv_at hl 3 rfl) ?_
        refine lv_aload_n hx hb dX4_lay_89 rfl (lv_at hl 1 rfl) ?_
        refine gt_X4_26 hC hK hP dX4_lay_90 ?_
        refine gt_X4_67 (Or.inl rfl) hC hK hP dX4_lay_93 ?_
        refine lv_iload hx hb dX4_lay_96 (lv_at hl 4 rfl) ?_
        obtain ⟨r6, hc6, h⟩ := ob h
        refine callRS (As := [.ref (ad 2), .int w6_53]) (rest := [.int w5_53]) hC (c_X2_at l g (xW ad g I J) 2 8 (I 2) (ad 2) xo_2 w6_53 hc6) lk_X4_61 rfl rfl ⟨Nat.le_of_ble_eq_true rfl, Nat.le_of_ble_eq_true rfl⟩ hP hK rfl rfl hl (Nat.le_of_ble_eq_true rfl) dX4_lay_98 ?_
        refine lv_iadd hx hb dX4_lay_101 ?_
        refine lv_istore (lv' := [(5, .int (w5_53 + r6)), (4, .int (w4_53 + ((r5 * ((10 : Int32) + w2_53)) / (10 : Int32)))), (0, .ref (ad 47)), (2, .int w2_53), (6, .int w6_53)]) hx hb dX4_lay_102 hl (by decide) rfl (fun ls hl => ?_)
        refine lv_aload_n hx hb dX4_lay_104 rfl (lv_at hl 2 rfl) ?_
        refine gt_X4_13 hC hK hP dX4_lay_105 ?_
        refine lv_iload hx hb dX4_lay_108 (lv_at hl 4 rfl) ?_
        refine lv_iconst (v := 1) hx hb dX4_lay_110 (by decide) ?_
        refine lv_iadd hx hb dX4_lay_111 ?_
        refine lv_iload hx hb dX4_lay_112 (lv_at hl 0 rfl) ?_
        obtain ⟨f_7, hc7, h⟩ := ob h
        refine callWSv (As := [.ref (ad 48), .int (w6_53 + (1 : Int32)), .int (w5_53 + r6)]) (rest := []) hC (c_X2_put l g (xW ad g I J) (fun f => xW ad g (u1 I 48 f) J) 48 9 (I 48) (ad 48) xc_48.1 xc_48.2.1 xc_48.2.2 (w6_53 + (1 : Int32)) (w5_53 + r6) H.size hc7) lk_X4_68 rfl rfl ⟨Nat.le_of_ble_eq_true rfl, Nat.le_of_ble_eq_true rfl⟩ hP hK hD hA hS rfl rfl hl (Nat.le_of_ble_eq_true rfl) dX4_lay_114 (fun H locs hP hD hS => ?_)
        refine lv_aload_n hx hb dX4_lay_117 rfl (lv_at hl 2 rfl) ?_
        refine lv_iload hx hb dX4_lay_118 (lv_at hl 4 rfl) ?_
        refine lv_iconst (v := 1) hx hb dX4_lay_120 (by decide) ?_
        refine lv_iadd hx hb dX4_lay_121 ?_
        refine lv_iload hx hb dX4_lay_122 (lv_at hl 1 rfl) ?_
        obtain ⟨⟨I8, J8⟩, hc8, h⟩ := ob h
        dsimp only at h
        refine callWVv (As := [.int (w6_53 + (1 : Int32)), .int (w4_53 + ((r5 * ((10 : Int32) + w2_53)) / (10 : Int32)))]) (rest := []) hC (c_X4_layHarvests l g ad (u1 I 48 f_7) J (w6_53 + (1 : Int32)) (w4_53 + ((r5 * ((10 : Int32) + w2_53)) / (10 : Int32)))  H.size hc8) lk_X4_54 rfl rfl ⟨Nat.le_of_ble_eq_true rfl, Nat.le_of_ble_eq_true rfl⟩ hP hK hD hA hS xo_47 rfl rfl rfl hl (Nat.le_of_ble_eq_true rfl) dX4_lay_124 (fun H locs hP hD hS => ?_)
        refine lv_iinc (v := (w6_53 + 1)) (lv' := [(6, .int (w6_53 + 1)), (5, .int (w5_53 + r6)), (4, .int (w4_53 + ((r5 * ((10 : Int32) + w2_53)) / (10 : Int32)))), (0, .ref (ad 47)), (2, .int w2_53)]) hx hb dX4_lay_127 hl (k := 4) rfl rfl (by decide) rfl (fun ls hl => ?_)
        refine lv_goto (tgt := 53) hx hb dX4_lay_130 (by decide) ?_
        exact ih I8 J8 w2_53 (w4_53 + ((r5 * ((10 : Int32) + w2_53)) / (10 : Int32))) (w5_53 + r6) (w6_53 + 1) _ _ _ h hP hD hS (lv_sub hl [3, 4, 2, 1, 0] rfl)
  unfold F_X4_lay at h
  refine lv_aload_n hx hb dX4_lay_0 rfl (lv_at hl 0 rfl) ?_
  refine lv_iconst (v := 0) hx hb dX4_lay_1 (by decide) ?_
  refine pt_X4_30 hC hK hP hD hS dX4_lay_2 (fun H locs hP hD hS => ?_)
  refine lv_aload_n hx hb dX4_lay_5 rfl (lv_at hl 0 rfl) ?_
  refine lv_aload_n hx hb dX4_lay_6 rfl (lv_at hl 0 rfl) ?_
  refine gt_X4_26 hC hK hP dX4_lay_7 ?_
  refine gt_X4_34 (Or.inl rfl) hC hK hP dX4_lay_10 ?_
  refine lv_bipush (v := 8) hx hb dX4_lay_13 (by decide) ?_
  refine va_mmin hx hb (hC.2.2.1.trans hl.1.symm) hown (hts _ ml_X4_37) (hts _ sm_minI) (hts _ ini_math) (hts _ cd_minI) (Nat.le_of_ble_eq_true rfl) (Nat.le_of_ble_eq_true rfl) (Nat.zero_le _) (Nat.zero_le _) dX4_lay_15 ?_
  refine pt_X4_43 hC hK hP hD hS dX4_lay_18 (fun H locs hP hD hS => ?_)
  refine lv_aload_n hx hb dX4_lay_21 rfl (lv_at hl 0 rfl) ?_
  refine lv_iload_n hx hb dX4_lay_22 rfl (lv_at hl 3 rfl) ?_
  obtain ⟨⟨I1, J1⟩, hc1, h⟩ := ob h
  dsimp only at h
  refine callWVv (As := [.int v3]) (rest := []) hC (c_X4_layWeathers l g ad (u2 (u2 I 47 7 (0 : Int32)) 47 5 (if (8 : Int32) < ((u2 I 47 7 (0 : Int32)) 0 6) then (8 : Int32) else ((u2 I 47 7 (0 : Int32)) 0 6))) J v3  H.size hc1) lk_X4_46 rfl rfl ⟨Nat.le_of_ble_eq_true rfl, Nat.le_of_ble_eq_true rfl⟩ hP hK hD hA hS xo_47 rfl rfl rfl hl (Nat.le_of_ble_eq_true rfl) dX4_lay_23 (fun H locs hP hD hS => ?_)
  refine lv_aload_n hx hb dX4_lay_26 rfl (lv_at hl 0 rfl) ?_
  refine gt_X4_26 hC hK hP dX4_lay_27 ?_
  refine lv_iconst (v := 0) hx hb dX4_lay_30 (by decide) ?_
  obtain ⟨r2, hc2, h⟩ := ob h
  refine callRV (As := [.int (0 : Int32)]) (rest := []) hC (c_X1_setting l g ad I1 J1 0 (0 : Int32) (Or.inl rfl) hc2) lk_X4_50 rfl rfl ⟨Nat.le_of_ble_eq_true rfl, Nat.le_of_ble_eq_true rfl⟩ hP hK (xEo (Or.inl rfl)) rfl rfl rfl hl (Nat.le_of_ble_eq_true rfl) dX4_lay_31 ?_
  refine lv_iconst (v := 5) hx hb dX4_lay_34 (by decide) ?_
  refine lv_iload_n hx hb dX4_lay_35 rfl (lv_at hl 1 rfl) ?_
  refine lv_imul hx hb dX4_lay_36 ?_
  refine lv_iadd hx hb dX4_lay_37 ?_
  refine lv_istore (lv' := [(4, .int (r2 + ((5 : Int32) * v1))), (0, .ref (ad 47)), (1, .int v1), (2, .int v2), (3, .int v3)]) hx hb dX4_lay_38 hl (by decide) rfl (fun ls hl => ?_)
  refine lv_iconst (v := 0) hx hb dX4_lay_40 (by decide) ?_
  refine lv_istore (lv' := [(5, .int (0 : Int32)), (4, .int (r2 + ((5 : Int32) * v1))), (0, .ref (ad 47)), (1, .int v1), (2, .int v2), (3, .int v3)]) hx hb dX4_lay_41 hl (by decide) rfl (fun ls hl => ?_)
  refine lv_aload_n hx hb dX4_lay_43 rfl (lv_at hl 2 rfl) ?_
  refine lv_iconst (v := 0) hx hb dX4_lay_44 (by decide) ?_
  refine lv_iload hx hb dX4_lay_45 (lv_at hl 1 rfl) ?_
  obtain ⟨⟨I3, J3⟩, hc3, h⟩ := ob h
  dsimp only at h
  refine callWVv (As := [.int (0 : Int32), .int (r2 + ((5 : Int32) * v1))]) (rest := []) hC (c_X4_layHarvests l g ad I1 J1 (0 : Int32) (r2 + ((5 : Int32) * v1))  H.size hc3) lk_X4_54 rfl rfl ⟨Nat.le_of_ble_eq_true rfl, Nat.le_of_ble_eq_true rfl⟩ hP hK hD hA hS xo_47 rfl rfl rfl hl (Nat.le_of_ble_eq_true rfl) dX4_lay_47 (fun H locs hP hD hS => ?_)
  refine lv_iconst (v := 0) hx hb dX4_lay_50 (by decide) ?_
  refine lv_istore (lv' := [(6, .int (0 : Int32)), (5, .int (0 : Int32)), (4, .int (r2 + ((5 : Int32) * v1))), (0, .ref (ad 47)), (1, .int v1), (2, .int v2), (3, .int v3)]) hx hb dX4_lay_51 hl (by decide) rfl (fun ls hl => ?_)
  exact loop_53 3000 I3 J3 v2 (r2 + ((5 : Int32) * v1)) (0 : Int32) (0 : Int32) _ _ _ h hP hD hS (lv_sub hl [3, 5, 2, 1, 0] rfl)
def F_X4_harvestOf (I : SI) (J : SJ) (v1 : Int32) (v2 : Int32) : Option (Int32) := ((F_X2_at 72 (I 51) ((v1 * (8 : Int32)) + v2)).bind fun r1 => (some r1))
set_option maxHeartbeats 4000000 in
set_option maxRecDepth 100000 in
theorem c_X4_harvestOf (l : Launch) (g : Gx) (ad : Nat → Nat) (I : SI) (J : SJ) (v1 : Int32) (v2 : Int32)  {r : Int32} (h : F_X4_harvestOf I J v1 v2 = some r) : Met l yX4_harvestOf (Cond.code yX4_harvestOf cX4_harvestOf 3 (some .int) :: BG) (k2_rm 1 21) (va_Pc [.ref (ad 47), .int v1, .int v2] (fun U => Pg g (xW ad g I J) U.heap ∧ Kg g U)) (k2_QcV (.int r)) 0 0 (fun _ => False) := by
  refine mkRi (by decide) (Nat.le_of_ble_eq_true rfl) ?_
  intro p e s m args below meth c H locs ls Q hC hK hP hl hret
  have hx := hC.1
  have hb := hC.2.1
  have hts := hC.2.2.2.2
  have hown := hC.2.2.2.1
  replace hl : lv_has ls 3 [(0, .ref (ad 47)), (1, .int v1), (2, .int v2)] := hl
  unfold F_X4_harvestOf at h
  refine lv_aload_n hx hb dX4_harvestOf_0 rfl (lv_at hl 0 rfl) ?_
  refine gt_X4_23 hC hK hP dX4_harvestOf_1 ?_
  refine lv_iload_n hx hb dX4_harvestOf_4 rfl (lv_at hl 1 rfl) ?_
  refine lv_bipush (v := 8) hx hb dX4_harvestOf_5 (by decide) ?_
  refine lv_imul hx hb dX4_harvestOf_7 ?_
  refine lv_iload_n hx hb dX4_harvestOf_8 rfl (lv_at hl 2 rfl) ?_
  refine lv_iadd hx hb dX4_harvestOf_9 ?_
  obtain ⟨r1, hc1, h⟩ := ob h
  refine callRS (As := [.ref (ad 51), .int ((v1 * (8 : Int32)) + v2)]) (rest := []) hC (c_X2_at l g (xW ad g I J) 51 72 (I 51) (ad 51) xo_51 ((v1 * (8 : Int32)) + v2) hc1) lk_X4_61 rfl rfl ⟨Nat.le_of_ble_eq_true rfl, Nat.le_of_ble_eq_true rfl⟩ hP hK rfl rfl hl (Nat.le_of_ble_eq_true rfl) dX4_harvestOf_10 ?_
  exact hret _ _ _ dX4_harvestOf_13 (Option.some.inj h)
def F_X2_cut (v1 : Int32) (v2 : Int32) : Option (Int32) := (if v2 ≤ 0 then (some (0 : Int32)) else (if v2 = 0 then none else (some (v1 / v2))))
set_option maxHeartbeats 4000000 in
set_option maxRecDepth 100000 in
theorem c_X2_cut (l : Launch) (g : Gx) (ws : va_W) (v1 : Int32) (v2 : Int32)  {r : Int32} (h : F_X2_cut v1 v2 = some r) : Met l yX2_cut (Cond.code yX2_cut cX2_cut 2 (some .int) :: BG) (k2_rm 0 0) (va_Pc [.int v1, .int v2] (fun U => Pg g ws U.heap ∧ Kg g U)) (k2_QcV (.int r)) 0 0 (fun _ => False) := by
  refine mkRi (by decide) (Nat.le_of_ble_eq_true rfl) ?_
  intro p e s m args below meth c H locs ls Q hC hK hP hl hret
  have hx := hC.1
  have hb := hC.2.1
  have hts := hC.2.2.2.2
  have hown := hC.2.2.2.1
  replace hl : lv_has ls 2 [(0, .int v1), (1, .int v2)] := hl
  unfold F_X2_cut at h
  refine lv_iload_n hx hb dX2_cut_0 rfl (lv_at hl 1 rfl) ?_
  refine lv_if_le (tgt := 10) hx hb dX2_cut_1 (by decide) (fun c1 => ?_) (fun c1 => ?_)
  · replace h := (if_pos c1).symm.trans h
    refine lv_iconst (v := 0) hx hb dX2_cut_10 (by decide) ?_
    exact hret _ _ _ dX2_cut_11 (Option.some.inj h)
  · replace h := (if_neg c1).symm.trans h
    refine lv_iload_n hx hb dX2_cut_4 rfl (lv_at hl 0 rfl) ?_
    refine lv_iload_n hx hb dX2_cut_5 rfl (lv_at hl 1 rfl) ?_
    obtain ⟨z2, h⟩ := og0 h
    refine lv_idiv hx hb dX2_cut_6 z2 ?_
    refine lv_goto (tgt := 11) hx hb dX2_cut_7 (by decide) ?_
    exact hret _ _ _ dX2_cut_11 (Option.some.inj h)
def F_X5_shareOf (t : Nat) (I : SI) (J : SJ) (v1 : Int32) (v2 : Int32) : Option (Int32) := (if (I t 0) = 0 then ((F_X2_cut (v1 * (I t 1)) (I t 2)).bind fun r2 => (some r2)) else (if (I t 0) = 1 then (some (v1 - (I t 1))) else (if (I t 0) = 2 then (some (I t 1)) else (if (I t 0) = 3 then ((F_X2_cut (v1 * (I t 1)) (I t 2)).bind fun r6 => (some (r6 - (I t 3)))) else (if (I t 0) = 4 then ((F_X2_cut (v1 * (if (I t 2) < ((I t 1) + ((I t 3) * v2)) then (I t 2) else ((I t 1) + ((I t 3) * v2)))) (I t 2)).bind fun r8 => (some r8)) else (some (if v1 < ((2 : Int32) * (I t 1)) then (v1 - (I t 1)) else ((v1 - (I t 1)) - (I t 3)))))))))
set_option maxHeartbeats 4000000 in
set_option maxRecDepth 100000 in
theorem c_X5_shareOf (l : Launch) (g : Gx) (ad : Nat → Nat) (I : SI) (J : SJ) (t : Nat) (v1 : Int32) (v2 : Int32) (hT : isT t) {r : Int32} (h : F_X5_shareOf t I J v1 v2 = some r) : Met l yX5_shareOf (Cond.code yX5_shareOf cX5_shareOf 3 (some .int) :: BG) (k2_rm 1 23) (va_Pc [.ref (ad t), .int v1, .int v2] (fun U => Pg g (xW ad g I J) U.heap ∧ Kg g U)) (k2_QcV (.int r)) 0 0 (fun _ => False) := by
  refine mkRi (by decide) (Nat.le_of_ble_eq_true rfl) ?_
  intro p e s m args below meth c H locs ls Q hC hK hP hl hret
  have hx := hC.1
  have hb := hC.2.1
  have hts := hC.2.2.2.2
  have hown := hC.2.2.2.1
  replace hl : lv_has ls 3 [(0, .ref (ad t)), (1, .int v1), (2, .int v2)] := hl
  unfold F_X5_shareOf at h
  refine lv_aload_n hx hb dX5_shareOf_0 rfl (lv_at hl 0 rfl) ?_
  refine gt_X5_7 hT hC hK hP dX5_shareOf_1 ?_
  by_cases c1 : (I t 0) = 0
  · replace h := (if_pos c1).symm.trans h
    refine lv_tableIn (off := 36) (tgt := 40) hx hb dX5_shareOf_4 (by rw [c1]; decide) (by rw [c1]; decide) (by rw [c1]; decide) (by decide) ?_
    refine lv_iload_n hx hb dX5_shareOf_40 rfl (lv_at hl 1 rfl) ?_
    refine lv_aload_n hx hb dX5_shareOf_41 rfl (lv_at hl 0 rfl) ?_
    refine gt_X5_13 hT hC hK hP dX5_shareOf_42 ?_
    refine lv_imul hx hb dX5_shareOf_45 ?_
    refine lv_aload_n hx hb dX5_shareOf_46 rfl (lv_at hl 0 rfl) ?_
    refine gt_X5_16 hT hC hK hP dX5_shareOf_47 ?_
    obtain ⟨r2, hc2, h⟩ := ob h
    refine callRS (As := [.int (v1 * (I t 1)), .int (I t 2)]) (rest := []) hC (c_X2_cut l g (xW ad g I J) (v1 * (I t 1)) (I t 2) hc2) lk_X5_26 rfl rfl ⟨Nat.le_of_ble_eq_true rfl, Nat.le_of_ble_eq_true rfl⟩ hP hK rfl rfl hl (Nat.le_of_ble_eq_true rfl) dX5_shareOf_50 ?_
    exact hret _ _ _ dX5_shareOf_53 (Option.some.inj h)
  · replace h := (if_neg c1).symm.trans h
    by_cases c3 : (I t 0) = 1
    · replace h := (if_pos c3).symm.trans h
      refine lv_tableIn (off := 50) (tgt := 54) hx hb dX5_shareOf_4 (by rw [c3]; decide) (by rw [c3]; decide) (by rw [c3]; decide) (by decide) ?_
      refine lv_iload_n hx hb dX5_shareOf_54 rfl (lv_at hl 1 rfl) ?_
      refine lv_aload_n hx hb dX5_shareOf_55 rfl (lv_at hl 0 rfl) ?_
      refine gt_X5_13 hT hC hK hP dX5_shareOf_56 ?_
      refine lv_isub hx hb dX5_shareOf_59 ?_
      exact hret _ _ _ dX5_shareOf_60 (Option.some.inj h)
    · replace h := (if_neg c3).symm.trans h
      by_cases c4 : (I t 0) = 2
      · replace h := (if_pos c4).symm.trans h
        refine lv_tableIn (off := 57) (tgt := 61) hx hb dX5_shareOf_4 (by rw [c4]; decide) (by rw [c4]; decide) (by rw [c4]; decide) (by decide) ?_
        refine lv_aload_n hx hb dX5_shareOf_61 rfl (lv_at hl 0 rfl) ?_
        refine gt_X5_13 hT hC hK hP dX5_shareOf_62 ?_
        exact hret _ _ _ dX5_shareOf_65 (Option.some.inj h)
      · replace h := (if_neg c4).symm.trans h
        by_cases c5 : (I t 0) = 3
        · replace h := (if_pos c5).symm.trans h
          refine lv_tableIn (off := 62) (tgt := 66) hx hb dX5_shareOf_4 (by rw [c5]; decide) (by rw [c5]; decide) (by rw [c5]; decide) (by decide) ?_
          refine lv_iload_n hx hb dX5_shareOf_66 rfl (lv_at hl 1 rfl) ?_
          refine lv_aload_n hx hb dX5_shareOf_67 rfl (lv_at hl 0 rfl) ?_
          refine gt_X5_13 hT hC hK hP dX5_shareOf_68 ?_
          refine lv_imul hx hb dX5_shareOf_71 ?_
          refine lv_aload_n hx hb dX5_shareOf_72 rfl (lv_at hl 0 rfl) ?_
          refine gt_X5_16 hT hC hK hP dX5_shareOf_73 ?_
          obtain ⟨r6, hc6, h⟩ := ob h
          refine callRS (As := [.int (v1 * (I t 1)), .int (I t 2)]) (rest := []) hC (c_X2_cut l g (xW ad g I J) (v1 * (I t 1)) (I t 2) hc6) lk_X5_26 rfl rfl ⟨Nat.le_of_ble_eq_true rfl, Nat.le_of_ble_eq_true rfl⟩ hP hK rfl rfl hl (Nat.le_of_ble_eq_true rfl) dX5_shareOf_76 ?_
          refine lv_aload_n hx hb dX5_shareOf_79 rfl (lv_at hl 0 rfl) ?_
          refine gt_X5_19 hT hC hK hP dX5_shareOf_80 ?_
          refine lv_isub hx hb dX5_shareOf_83 ?_
          exact hret _ _ _ dX5_shareOf_84 (Option.some.inj h)
        · replace h := (if_neg c5).symm.trans h
          by_cases c7 : (I t 0) = 4
          · replace h := (if_pos c7).symm.trans h
            refine lv_tableIn (off := 81) (tgt := 85) hx hb dX5_shareOf_4 (by rw [c7]; decide) (by rw [c7]; decide) (by rw [c7]; decide) (by decide) ?_
            refine lv_iload_n hx hb dX5_shareOf_85 rfl (lv_at hl 1 rfl) ?_
            refine lv_aload_n hx hb dX5_shareOf_86 rfl (lv_at hl 0 rfl) ?_
            refine gt_X5_13 hT hC hK hP dX5_shareOf_87 ?_
            refine lv_aload_n hx hb dX5_shareOf_90 rfl (lv_at hl 0 rfl) ?_
            refine gt_X5_19 hT hC hK hP dX5_shareOf_91 ?_
            refine lv_iload_n hx hb dX5_shareOf_94 rfl (lv_at hl 2 rfl) ?_
            refine lv_imul hx hb dX5_shareOf_95 ?_
            refine lv_iadd hx hb dX5_shareOf_96 ?_
            refine lv_aload_n hx hb dX5_shareOf_97 rfl (lv_at hl 0 rfl) ?_
            refine gt_X5_16 hT hC hK hP dX5_shareOf_98 ?_
            refine va_mmin hx hb (hC.2.2.1.trans hl.1.symm) hown (hts _ ml_X5_32) (hts _ sm_minI) (hts _ ini_math) (hts _ cd_minI) (Nat.le_of_ble_eq_true rfl) (Nat.le_of_ble_eq_true rfl) (Nat.zero_le _) (Nat.zero_le _) dX5_shareOf_101 ?_
            refine lv_imul hx hb dX5_shareOf_104 ?_
            refine lv_aload_n hx hb dX5_shareOf_105 rfl (lv_at hl 0 rfl) ?_
            refine gt_X5_16 hT hC hK hP dX5_shareOf_106 ?_
            obtain ⟨r8, hc8, h⟩ := ob h
            refine callRS (As := [.int (v1 * (if (I t 2) < ((I t 1) + ((I t 3) * v2)) then (I t 2) else ((I t 1) + ((I t 3) * v2)))), .int (I t 2)]) (rest := []) hC (c_X2_cut l g (xW ad g I J) (v1 * (if (I t 2) < ((I t 1) + ((I t 3) * v2)) then (I t 2) else ((I t 1) + ((I t 3) * v2)))) (I t 2) hc8) lk_X5_26 rfl rfl ⟨Nat.le_of_ble_eq_true rfl, Nat.le_of_ble_eq_true rfl⟩ hP hK rfl rfl hl (Nat.le_of_ble_eq_true rfl) dX5_shareOf_109 ?_
            exact hret _ _ _ dX5_shareOf_112 (Option.some.inj h)
          · replace h := (if_neg c7).symm.trans h
            refine lv_tableOut (tgt := 113) hx hb dX5_shareOf_4 (by have ec1 := ti_ne (n := 0) (by decide) c1; have ec3 := ti_ne (n := 1) (by decide) c3; have ec4 := ti_ne (n := 2) (by decide) c4; have ec5 := ti_ne (n := 3) (by decide) c5; have ec7 := ti_ne (n := 4) (by decide) c7; omega) (by decide) ?_
            refine lv_iload_n hx hb dX5_shareOf_113 rfl (lv_at hl 1 rfl) ?_
            refine lv_iconst (v := 2) hx hb dX5_shareOf_114 (by decide) ?_
            refine lv_aload_n hx hb dX5_shareOf_115 rfl (lv_at hl 0 rfl) ?_
            refine gt_X5_13 hT hC hK hP dX5_shareOf_116 ?_
            refine lv_imul hx hb dX5_shareOf_119 ?_
            refine tern (α := Int32) (cnd := v1 < ((2 : Int32) * (I t 1))) (a := (v1 - (I t 1))) (b := ((v1 - (I t 1)) - (I t 3))) (Wj := fun vj => W p l e (k2_rm 1 23) s m args below meth c H locs 0 0 Q (F0 m 143 ls [.int vj])) (fun k10a k10b => ?_) ?_
            · refine lv_icmp_lt (tgt := 137) hx hb dX5_shareOf_120 (by decide) (fun c9 => ?_) (fun c9 => ?_)
              · refine lv_iload_n hx hb dX5_shareOf_137 rfl (lv_at hl 1 rfl) ?_
                refine lv_aload_n hx hb dX5_shareOf_138 rfl (lv_at hl 0 rfl) ?_
                refine gt_X5_13 hT hC hK hP dX5_shareOf_139 ?_
                refine lv_isub hx hb dX5_shareOf_142 ?_
                exact k10a c9
              · refine lv_iload_n hx hb dX5_shareOf_123 rfl (lv_at hl 1 rfl) ?_
                refine lv_aload_n hx hb dX5_shareOf_124 rfl (lv_at hl 0 rfl) ?_
                refine gt_X5_13 hT hC hK hP dX5_shareOf_125 ?_
                refine lv_isub hx hb dX5_shareOf_128 ?_
                refine lv_aload_n hx hb dX5_shareOf_129 rfl (lv_at hl 0 rfl) ?_
                refine gt_X5_19 hT hC hK hP dX5_shareOf_130 ?_
                refine lv_isub hx hb dX5_shareOf_133 ?_
                refine lv_goto (tgt := 143) hx hb dX5_shareOf_134 (by decide) ?_
                exact k10b c9
            · show W p l e (k2_rm 1 23) s m args below meth c H locs 0 0 Q (F0 m 143 ls [.int (if v1 < ((2 : Int32) * (I t 1)) then (v1 - (I t 1)) else ((v1 - (I t 1)) - (I t 3)))])
              exact hret _ _ _ dX5_shareOf_143 (Option.some.inj h)
def F_X1_seedOf (q : Nat) (I : SI) (J : SJ) (v1 : Int32) : Option (Int32) := ((F_X1_setting q I J (3 : Int32)).bind fun r1 => (if r1 = v1 then ((F_X1_setting q I J (2 : Int32)).bind fun r3 => (some r3)) else (some (0 : Int32))))
set_option maxHeartbeats 4000000 in
set_option maxRecDepth 100000 in
theorem c_X1_seedOf (l : Launch) (g : Gx) (ad : Nat → Nat) (I : SI) (J : SJ) (q : Nat) (v1 : Int32) (hE : isE q) {r : Int32} (h : F_X1_seedOf q I J v1 = some r) : Met l yX1_seedOf (Cond.code yX1_seedOf cX1_seedOf 2 (some .int) :: BG) (k2_rm 1 21) (va_Pc [.ref (ad q), .int v1] (fun U => Pg g (xW ad g I J) U.heap ∧ Kg g U)) (k2_QcV (.int r)) 0 0 (fun _ => False) := by
  refine mkRi (by decide) (Nat.le_of_ble_eq_true rfl) ?_
  intro p e s m args below meth c H locs ls Q hC hK hP hl hret
  have hx := hC.1
  have hb := hC.2.1
  have hts := hC.2.2.2.2
  have hown := hC.2.2.2.1
  replace hl : lv_has ls 2 [(0, .ref (ad q)), (1, .int v1)] := hl
  unfold F_X1_seedOf at h
  refine lv_aload_n hx hb dX1_seedOf_0 rfl (lv_at hl 0 rfl) ?_
  refine lv_iconst (v := 3) hx hb dX1_seedOf_1 (by decide) ?_
  obtain ⟨r1, hc1, h⟩ := ob h
  refine callRV (As := [.int (3 : Int32)]) (rest := []) hC (c_X1_setting l g ad I J q (3 : Int32) hE hc1) lk_X1_79 rfl rfl ⟨Nat.le_of_ble_eq_true rfl, Nat.le_of_ble_eq_true rfl⟩ hP hK (xEo hE) rfl rfl rfl hl (Nat.le_of_ble_eq_true rfl) dX1_seedOf_2 ?_
  refine lv_iload_n hx hb dX1_seedOf_5 rfl (lv_at hl 1 rfl) ?_
  refine lv_icmp_ne (tgt := 17) hx hb dX1_seedOf_6 (by decide) (fun c2 => ?_) (fun c2 => ?_)
  · replace h := (if_neg c2).symm.trans h
    refine lv_iconst (v := 0) hx hb dX1_seedOf_17 (by decide) ?_
    exact hret _ _ _ dX1_seedOf_18 (Option.some.inj h)
  · replace h := (if_pos c2).symm.trans h
    refine lv_aload_n hx hb dX1_seedOf_9 rfl (lv_at hl 0 rfl) ?_
    refine lv_iconst (v := 2) hx hb dX1_seedOf_10 (by decide) ?_
    obtain ⟨r3, hc3, h⟩ := ob h
    refine callRV (As := [.int (2 : Int32)]) (rest := []) hC (c_X1_setting l g ad I J q (2 : Int32) hE hc3) lk_X1_79 rfl rfl ⟨Nat.le_of_ble_eq_true rfl, Nat.le_of_ble_eq_true rfl⟩ hP hK (xEo hE) rfl rfl rfl hl (Nat.le_of_ble_eq_true rfl) dX1_seedOf_11 ?_
    refine lv_goto (tgt := 18) hx hb dX1_seedOf_14 (by decide) ?_
    exact hret _ _ _ dX1_seedOf_18 (Option.some.inj h)
def F_X1_bushelsOf (q : Nat) (t1 : Nat) (I : SI) (J : SJ) (v2 : Int32) (v3 : Int32) (v4 : Int32) : Option (Int32) := ((F_X5_shareOf t1 I J v2 v3).bind fun r1 => ((F_X1_seedOf q I J v4).bind fun r4 => (some ((if v4 = 0 then r1 else (v2 - r1)) - r4))))
set_option maxHeartbeats 4000000 in
set_option maxRecDepth 100000 in
theorem c_X1_bushelsOf (l : Launch) (g : Gx) (ad : Nat → Nat) (I : SI) (J : SJ) (q : Nat) (t1 : Nat) (v2 : Int32) (v3 : Int32) (v4 : Int32) (hE : isE q) (hT1 : isT t1) {r : Int32} (h : F_X1_bushelsOf q t1 I J v2 v3 v4 = some r) : Met l yX1_bushelsOf (Cond.code yX1_bushelsOf cX1_bushelsOf 6 (some .int) :: BG) (k2_rm 2 45) (va_Pc [.ref (ad q), .ref (ad t1), .int v2, .int v3, .int v4] (fun U => Pg g (xW ad g I J) U.heap ∧ Kg g U)) (k2_QcV (.int r)) 0 0 (fun _ => False) := by
  refine mkRi (by decide) (Nat.le_of_ble_eq_true rfl) ?_
  intro p e s m args below meth c H locs ls Q hC hK hP hl hret
  have hx := hC.1
  have hb := hC.2.1
  have hts := hC.2.2.2.2
  have hown := hC.2.2.2.1
  replace hl : lv_has ls 6 [(0, .ref (ad q)), (1, .ref (ad t1)), (2, .int v2), (3, .int v3), (4, .int v4)] := hl
  unfold F_X1_bushelsOf at h
  refine lv_aload_n hx hb dX1_bushelsOf_0 rfl (lv_at hl 1 rfl) ?_
  refine lv_ifnonnull (tgt := 6) hx hb dX1_bushelsOf_1 (by decide) ?_
  refine lv_aload_n hx hb dX1_bushelsOf_6 rfl (lv_at hl 1 rfl) ?_
  refine lv_iload_n hx hb dX1_bushelsOf_7 rfl (lv_at hl 2 rfl) ?_
  refine lv_iload_n hx hb dX1_bushelsOf_8 rfl (lv_at hl 3 rfl) ?_
  obtain ⟨r1, hc1, h⟩ := ob h
  refine callRV (As := [.int v2, .int v3]) (rest := []) hC (c_X5_shareOf l g ad I J t1 v2 v3 hT1 hc1) lk_X1_82 rfl rfl ⟨Nat.le_of_ble_eq_true rfl, Nat.le_of_ble_eq_true rfl⟩ hP hK (xTo hT1) rfl rfl rfl hl (Nat.le_of_ble_eq_true rfl) dX1_bushelsOf_9 ?_
  refine lv_istore (lv' := [(5, .int r1), (0, .ref (ad q)), (1, .ref (ad t1)), (2, .int v2), (3, .int v3), (4, .int v4)]) hx hb dX1_bushelsOf_12 hl (by decide) rfl (fun ls hl => ?_)
  refine lv_iload hx hb dX1_bushelsOf_14 (lv_at hl 5 rfl) ?_
  refine tern (α := Int32) (cnd := v4 = 0) (a := r1) (b := (v2 - r1)) (Wj := fun vj => W p l e (k2_rm 2 45) s m args below meth c H locs 0 0 Q (F0 m 28 ls [.int vj])) (fun k3a k3b => ?_) ?_
  · refine lv_if_ne (tgt := 24) hx hb dX1_bushelsOf_16 (by decide) (fun c2 => ?_) (fun c2 => ?_)
    · refine lv_iload_n hx hb dX1_bushelsOf_24 rfl (lv_at hl 3 rfl) ?_
      refine lv_iload hx hb dX1_bushelsOf_25 (lv_at hl 0 rfl) ?_
      refine lv_isub hx hb dX1_bushelsOf_27 ?_
      exact k3b c2
    · refine lv_iload hx hb dX1_bushelsOf_19 (lv_at hl 0 rfl) ?_
      refine lv_goto (tgt := 28) hx hb dX1_bushelsOf_21 (by decide) ?_
      exact k3a c2
  · show W p l e (k2_rm 2 45) s m args below meth c H locs 0 0 Q (F0 m 28 ls [.int (if v4 = 0 then r1 else (v2 - r1))])
    refine lv_aload_n hx hb dX1_bushelsOf_28 rfl (lv_at hl 1 rfl) ?_
    refine lv_iload hx hb dX1_bushelsOf_29 (lv_at hl 5 rfl) ?_
    obtain ⟨r4, hc4, h⟩ := ob h
    refine callRV (As := [.int v4]) (rest := [.int (if v4 = 0 then r1 else (v2 - r1))]) hC (c_X1_seedOf l g ad I J q v4 hE hc4) lk_X1_86 rfl rfl ⟨Nat.le_of_ble_eq_true rfl, Nat.le_of_ble_eq_true rfl⟩ hP hK (xEo hE) rfl rfl rfl hl (Nat.le_of_ble_eq_true rfl) dX1_bushelsOf_31 ?_
    refine lv_isub hx hb dX1_bushelsOf_34 ?_
    exact hret _ _ _ dX1_bushelsOf_35 (Option.some.inj h)
def F_X4_chanceOf (I : SI) (J : SJ) (v1 : Int32) : Option (Int32) := ((F_X2_at 8 (I 49) v1).bind fun r1 => (some r1))
set_option maxHeartbeats 4000000 in
set_option maxRecDepth 100000 in
theorem c_X4_chanceOf (l : Launch) (g : Gx) (ad : Nat → Nat) (I : SI) (J : SJ) (v1 : Int32)  {r : Int32} (h : F_X4_chanceOf I J v1 = some r) : Met l yX4_chanceOf (Cond.code yX4_chanceOf cX4_chanceOf 2 (some .int) :: BG) (k2_rm 1 21) (va_Pc [.ref (ad 47), .int v1] (fun U => Pg g (xW ad g I J) U.heap ∧ Kg g U)) (k2_QcV (.int r)) 0 0 (fun _ => False) := by
  refine mkRi (by decide) (Nat.le_of_ble_eq_true rfl) ?_
  intro p e s m args below meth c H locs ls Q hC hK hP hl hret
  have hx := hC.1
  have hb := hC.2.1
  have hts := hC.2.2.2.2
  have hown := hC.2.2.2.1
  replace hl : lv_has ls 2 [(0, .ref (ad 47)), (1, .int v1)] := hl
  unfold F_X4_chanceOf at h
  refine lv_aload_n hx hb dX4_chanceOf_0 rfl (lv_at hl 0 rfl) ?_
  refine gt_X4_17 hC hK hP dX4_chanceOf_1 ?_
  refine lv_iload_n hx hb dX4_chanceOf_4 rfl (lv_at hl 1 rfl) ?_
  obtain ⟨r1, hc1, h⟩ := ob h
  refine callRS (As := [.ref (ad 49), .int v1]) (rest := []) hC (c_X2_at l g (xW ad g I J) 49 8 (I 49) (ad 49) xo_49 v1 hc1) lk_X4_61 rfl rfl ⟨Nat.le_of_ble_eq_true rfl, Nat.le_of_ble_eq_true rfl⟩ hP hK rfl rfl hl (Nat.le_of_ble_eq_true rfl) dX4_chanceOf_5 ?_
  exact hret _ _ _ dX4_chanceOf_8 (Option.some.inj h)
def F_X1_mindOf (q : Nat) (I : SI) (J : SJ) (v1 : Int32) (v2 : Int32) : Option (Int32) := ((F_X1_setting q I J (if v1 = 0 then (4 : Int32) else (6 : Int32))).bind fun r3 => (if 0 ≤ v2 then (if r3 < v2 then ((F_X1_setting q I J ((if v1 = 0 then (4 : Int32) else (6 : Int32)) + (1 : Int32))).bind fun r6 => (some (((10 : Int32) * r3) + (r6 * (v2 - r3))))) else (some ((10 : Int32) * v2))) else (some ((20 : Int32) * v2))))
set_option maxHeartbeats 4000000 in
set_option maxRecDepth 100000 in
theorem c_X1_mindOf (l : Launch) (g : Gx) (ad : Nat → Nat) (I : SI) (J : SJ) (q : Nat) (v1 : Int32) (v2 : Int32) (hE : isE q) {r : Int32} (h : F_X1_mindOf q I J v1 v2 = some r) : Met l yX1_mindOf (Cond.code yX1_mindOf cX1_mindOf 5 (some .int) :: BG) (k2_rm 1 21) (va_Pc [.ref (ad q), .int v1, .int v2] (fun U => Pg g (xW ad g I J) U.heap ∧ Kg g U)) (k2_QcV (.int r)) 0 0 (fun _ => False) := by
  refine mkRi (by decide) (Nat.le_of_ble_eq_true rfl) ?_
  intro p e s m args below meth c H locs ls Q hC hK hP hl hret
  have hx := hC.1
  have hb := hC.2.1
  have hts := hC.2.2.2.2
  have hown := hC.2.2.2.1
  replace hl : lv_has ls 5 [(0, .ref (ad q)), (1, .int v1), (2, .int v2)] := hl
  unfold F_X1_mindOf at h
  refine lv_iload_n hx hb dX1_mindOf_0 rfl (lv_at hl 1 rfl) ?_
  refine tern (α := Int32) (cnd := v1 = 0) (a := (4 : Int32)) (b := (6 : Int32)) (Wj := fun vj => W p l e (k2_rm 1 21) s m args below meth c H locs 0 0 Q (F0 m 10 ls [.int vj])) (fun k2a k2b => ?_) ?_
  · refine lv_if_ne (tgt := 8) hx hb dX1_mindOf_1 (by decide) (fun c1 => ?_) (fun c1 => ?_)
    · refine lv_bipush (v := 6) hx hb dX1_mindOf_8 (by decide) ?_
      exact k2b c1
    · refine lv_iconst (v := 4) hx hb dX1_mindOf_4 (by decide) ?_
      refine lv_goto (tgt := 10) hx hb dX1_mindOf_5 (by decide) ?_
      exact k2a c1
  · show W p l e (k2_rm 1 21) s m args below meth c H locs 0 0 Q (F0 m 10 ls [.int (if v1 = 0 then (4 : Int32) else (6 : Int32))])
    refine lv_istore_n (lv' := [(3, .int (if v1 = 0 then (4 : Int32) else (6 : Int32))), (0, .ref (ad q)), (1, .int v1), (2, .int v2)]) hx hb dX1_mindOf_10 rfl hl (by decide) rfl (fun ls hl => ?_)
    refine lv_aload_n hx hb dX1_mindOf_11 rfl (lv_at hl 1 rfl) ?_
    refine lv_iload_n hx hb dX1_mindOf_12 rfl (lv_at hl 0 rfl) ?_
    obtain ⟨r3, hc3, h⟩ := ob h
    refine callRV (As := [.int (if v1 = 0 then (4 : Int32) else (6 : Int32))]) (rest := []) hC (c_X1_setting l g ad I J q (if v1 = 0 then (4 : Int32) else (6 : Int32)) hE hc3) lk_X1_79 rfl rfl ⟨Nat.le_of_ble_eq_true rfl, Nat.le_of_ble_eq_true rfl⟩ hP hK (xEo hE) rfl rfl rfl hl (Nat.le_of_ble_eq_true rfl) dX1_mindOf_13 ?_
    refine lv_istore (lv' := [(4, .int r3), (3, .int (if v1 = 0 then (4 : Int32) else (6 : Int32))), (0, .ref (ad q)), (1, .int v1), (2, .int v2)]) hx hb dX1_mindOf_16 hl (by decide) rfl (fun ls hl => ?_)
    refine lv_iload_n hx hb dX1_mindOf_18 rfl (lv_at hl 4 rfl) ?_
    refine lv_if_ge (tgt := 27) hx hb dX1_mindOf_19 (by decide) (fun c4 => ?_) (fun c4 => ?_)
    · replace h := (if_pos c4).symm.trans h
      refine lv_iload_n hx hb dX1_mindOf_27 rfl (lv_at hl 4 rfl) ?_
      refine lv_iload hx hb dX1_mindOf_28 (lv_at hl 0 rfl) ?_
      refine lv_icmp_gt (tgt := 40) hx hb dX1_mindOf_30 (by decide) (fun c5 => ?_) (fun c5 => ?_)
      · replace h := (if_pos c5).symm.trans h
        refine lv_bipush (v := 10) hx hb dX1_mindOf_40 (by decide) ?_
        refine lv_iload hx hb dX1_mindOf_42 (lv_at hl 0 rfl) ?_
        refine lv_imul hx hb dX1_mindOf_44 ?_
        refine lv_aload_n hx hb dX1_mindOf_45 rfl (lv_at hl 2 rfl) ?_
        refine lv_iload_n hx hb dX1_mindOf_46 rfl (lv_at hl 1 rfl) ?_
        refine lv_iconst (v := 1) hx hb dX1_mindOf_47 (by decide) ?_
        refine lv_iadd hx hb dX1_mindOf_48 ?_
        obtain ⟨r6, hc6, h⟩ := ob h
        refine callRV (As := [.int ((if v1 = 0 then (4 : Int32) else (6 : Int32)) + (1 : Int32))]) (rest := [.int ((10 : Int32) * r3)]) hC (c_X1_setting l g ad I J q ((if v1 = 0 then (4 : Int32) else (6 : Int32)) + (1 : Int32)) hE hc6) lk_X1_79 rfl rfl ⟨Nat.le_of_ble_eq_true rfl, Nat.le_of_ble_eq_true rfl⟩ hP hK (xEo hE) rfl rfl rfl hl (Nat.le_of_ble_eq_true rfl) dX1_mindOf_49 ?_
        refine lv_iload_n hx hb dX1_mindOf_52 rfl (lv_at hl 4 rfl) ?_
        refine lv_iload hx hb dX1_mindOf_53 (lv_at hl 0 rfl) ?_
        refine lv_isub hx hb dX1_mindOf_55 ?_
        refine lv_imul hx hb dX1_mindOf_56 ?_
        refine lv_iadd hx hb dX1_mindOf_57 ?_
        exact hret _ _ _ dX1_mindOf_58 (Option.some.inj h)
      · replace h := (if_neg c5).symm.trans h
        refine lv_bipush (v := 10) hx hb dX1_mindOf_33 (by decide) ?_
        refine lv_iload_n hx hb dX1_mindOf_35 rfl (lv_at hl 4 rfl) ?_
        refine lv_imul hx hb dX1_mindOf_36 ?_
        refine lv_goto (tgt := 58) hx hb dX1_mindOf_37 (by decide) ?_
        exact hret _ _ _ dX1_mindOf_58 (Option.some.inj h)
    · replace h := (if_neg c4).symm.trans h
      refine lv_bipush (v := 20) hx hb dX1_mindOf_22 (by decide) ?_
      refine lv_iload_n hx hb dX1_mindOf_24 rfl (lv_at hl 4 rfl) ?_
      refine lv_imul hx hb dX1_mindOf_25 ?_
      exact hret _ _ _ dX1_mindOf_26 (Option.some.inj h)
def F_X4_costWorth (I : SI) (J : SJ) (v1 : Int32) : Option (Int64) := ((F_X2_at 9 (I 48) v1).bind fun r1 => (some ((1000 : Int64) * (Int32.toInt64 r1))))
set_option maxHeartbeats 4000000 in
set_option maxRecDepth 100000 in
theorem c_X4_costWorth (l : Launch) (g : Gx) (ad : Nat → Nat) (I : SI) (J : SJ) (v1 : Int32)  {r : Int64} (h : F_X4_costWorth I J v1 = some r) : Met l yX4_costWorth (Cond.code yX4_costWorth cX4_costWorth 2 (some .long) :: BG) (k2_rm 1 21) (va_Pc [.ref (ad 47), .int v1] (fun U => Pg g (xW ad g I J) U.heap ∧ Kg g U)) (k2_QcV (.long r)) 0 0 (fun _ => False) := by
  refine mkRl (by decide) (Nat.le_of_ble_eq_true rfl) ?_
  intro p e s m args below meth c H locs ls Q hC hK hP hl hret
  have hx := hC.1
  have hb := hC.2.1
  have hts := hC.2.2.2.2
  have hown := hC.2.2.2.1
  replace hl : lv_has ls 2 [(0, .ref (ad 47)), (1, .int v1)] := hl
  unfold F_X4_costWorth at h
  refine lv_ldc2 hx hb hown (hts _ kc_X4_84) dX4_costWorth_0 ?_
  refine lv_aload_n hx hb dX4_costWorth_3 rfl (lv_at hl 0 rfl) ?_
  refine gt_X4_13 hC hK hP dX4_costWorth_4 ?_
  refine lv_iload_n hx hb dX4_costWorth_7 rfl (lv_at hl 1 rfl) ?_
  obtain ⟨r1, hc1, h⟩ := ob h
  refine callRS (As := [.ref (ad 48), .int v1]) (rest := [.long (1000 : Int64)]) hC (c_X2_at l g (xW ad g I J) 48 9 (I 48) (ad 48) xo_48 v1 hc1) lk_X4_61 rfl rfl ⟨Nat.le_of_ble_eq_true rfl, Nat.le_of_ble_eq_true rfl⟩ hP hK rfl rfl hl (Nat.le_of_ble_eq_true rfl) dX4_costWorth_8 ?_
  refine lv_i2l hx hb dX4_costWorth_11 rfl ?_
  refine lv_lmul hx hb dX4_costWorth_12 ?_
  exact hret _ _ _ dX4_costWorth_13 (Option.some.inj h)
def FL_X4_worthOf_19  : Nat → SI → SJ → Nat → Int32 → Int32 → Int64 → Int32 → Option (Int64)
  | 0, _, _, _, _, _, _, _ => none
  | n + 1, I, J, w1_19, w2_19, w3_19, w4_19, w6_19 => (if (I 47 6) ≤ w6_19 then (some w4_19) else ((F_X4_harvestOf I J w2_19 w6_19).bind fun r3 => ((F_X1_bushelsOf 0 w1_19 I J r3 (I 47 7) w3_19).bind fun r4 => ((F_X4_chanceOf I J w6_19).bind fun r5 => ((F_X1_mindOf 0 I J w3_19 r4).bind fun r6 => (FL_X4_worthOf_19 n I J w1_19 w2_19 w3_19 (w4_19 + ((Int32.toInt64 r5) * (Int32.toInt64 r6))) (w6_19 + 1)))))))
def F_X4_worthOf (t1 : Nat) (I : SI) (J : SJ) (v2 : Int32) (v3 : Int32) : Option (Int64) := (if v3 = 0 then ((F_X4_costWorth I J v2).bind fun r7 => (FL_X4_worthOf_19 3000 I J t1 v2 v3 (-r7) (0 : Int32))) else (FL_X4_worthOf_19 3000 I J t1 v2 v3 (0 : Int64) (0 : Int32)))
set_option maxHeartbeats 4000000 in
set_option maxRecDepth 100000 in
theorem c_X4_worthOf (l : Launch) (g : Gx) (ad : Nat → Nat) (I : SI) (J : SJ) (t1 : Nat) (v2 : Int32) (v3 : Int32) (hT1 : isT t1) {r : Int64} (h : F_X4_worthOf t1 I J v2 v3 = some r) : Met l yX4_worthOf (Cond.code yX4_worthOf cX4_worthOf 8 (some .long) :: BG) (k2_rm 3 70) (va_Pc [.ref (ad 47), .ref (ad t1), .int v2, .int v3] (fun U => Pg g (xW ad g I J) U.heap ∧ Kg g U)) (k2_QcV (.long r)) 0 0 (fun _ => False) := by
  refine mkRl (by decide) (Nat.le_of_ble_eq_true rfl) ?_
  intro p e s m args below meth c H locs ls Q hC hK hP hl hret
  have hx := hC.1
  have hb := hC.2.1
  have hts := hC.2.2.2.2
  have hown := hC.2.2.2.1
  replace hl : lv_has ls 8 [(0, .ref (ad 47)), (1, .ref (ad t1)), (2, .int v2), (3, .int v3)] := hl
  have loop_19 : ∀ (n : Nat) (w1_19 : Nat) (w2_19 : Int32) (w3_19 : Int32) (w4_19 : Int64) (w6_19 : Int32)  (ls : Array Slot), isT w1_19 → FL_X4_worthOf_19 n I J w1_19 w2_19 w3_19 w4_19 w6_19 = some r → lv_has ls 8 [(0, .ref (ad 47)), (1, .ref (ad w1_19)), (2, .int w2_19), (3, .int w3_19), (4, .long w4_19), (6, .int w6_19)] → W p l e (k2_rm 3 70) s m args below meth c H locs 0 0 Q (F0 m 19 ls []) := by
    intro n
    induction n with
    | zero =>
      intro w1_19 w2_19 w3_19 w4_19 w6_19 ls hw1_19 h
      exact no h
    | succ n ih =>
      intro w1_19 w2_19 w3_19 w4_19 w6_19 ls hw1_19 h hl
      rw [FL_X4_worthOf_19] at h
      refine lv_iload hx hb dX4_worthOf_19 (lv_at hl 5 rfl) ?_
      refine lv_aload_n hx hb dX4_worthOf_21 rfl (lv_at hl 0 rfl) ?_
      refine gt_X4_72 hC hK hP dX4_worthOf_22 ?_
      refine lv_icmp_ge (tgt := 80) hx hb dX4_worthOf_25 (by decide) (fun c2 => ?_) (fun c2 => ?_)
      · replace h := (if_pos c2).symm.trans h
        refine lv_lload hx hb dX4_worthOf_80 (lv_at hl 4 rfl) ?_
        exact hret _ _ _ dX4_worthOf_82 (Option.some.inj h)
      · replace h := (if_neg c2).symm.trans h
        refine lv_aload_n hx hb dX4_worthOf_28 rfl (lv_at hl 0 rfl) ?_
        refine gt_X4_26 hC hK hP dX4_worthOf_29 ?_
        refine lv_aload_n hx hb dX4_worthOf_32 rfl (lv_at hl 1 rfl) ?_
        refine lv_aload_n hx hb dX4_worthOf_33 rfl (lv_at hl 0 rfl) ?_
        refine lv_iload_n hx hb dX4_worthOf_34 rfl (lv_at hl 2 rfl) ?_
        refine lv_iload hx hb dX4_worthOf_35 (lv_at hl 5 rfl) ?_
        obtain ⟨r3, hc3, h⟩ := ob h
        refine callRV (As := [.int w2_19, .int w6_19]) (rest := [.ref (ad w1_19), .ref (ad 0)]) hC (c_X4_harvestOf l g ad I J w2_19 w6_19  hc3) lk_X4_90 rfl rfl ⟨Nat.le_of_ble_eq_true rfl, Nat.le_of_ble_eq_true rfl⟩ hP hK xo_47 rfl rfl rfl hl (Nat.le_of_ble_eq_true rfl) dX4_worthOf_37 ?_
        refine lv_aload_n hx hb dX4_worthOf_40 rfl (lv_at hl 0 rfl) ?_
        refine gt_X4_30 hC hK hP dX4_worthOf_41 ?_
        refine lv_iload_n hx hb dX4_worthOf_44 rfl (lv_at hl 3 rfl) ?_
        obtain ⟨r4, hc4, h⟩ := ob h
        refine callRV (As := [.ref (ad w1_19), .int r3, .int (I 47 7), .int w3_19]) (rest := []) hC (c_X1_bushelsOf l g ad I J 0 w1_19 r3 (I 47 7) w3_19 (Or.inl rfl) hw1_19 hc4) lk_X4_93 rfl rfl ⟨Nat.le_of_ble_eq_true rfl, Nat.le_of_ble_eq_true rfl⟩ hP hK (xEo (Or.inl rfl)) rfl rfl rfl hl (Nat.le_of_ble_eq_true rfl) dX4_worthOf_45 ?_
        refine lv_istore (lv' := [(7, .int r4), (0, .ref (ad 47)), (1, .ref (ad w1_19)), (2, .int w2_19), (3, .int w3_19), (4, .long w4_19), (6, .int w6_19)]) hx hb dX4_worthOf_48 hl (by decide) rfl (fun ls hl => ?_)
        refine lv_lload hx hb dX4_worthOf_50 (lv_at hl 5 rfl) ?_
        refine lv_aload_n hx hb dX4_worthOf_52 rfl (lv_at hl 1 rfl) ?_
        refine lv_iload hx hb dX4_worthOf_53 (lv_at hl 6 rfl) ?_
        obtain ⟨r5, hc5, h⟩ := ob h
        refine callRV (As := [.int w6_19]) (rest := [.long w4_19]) hC (c_X4_chanceOf l g ad I J w6_19  hc5) lk_X4_97 rfl rfl ⟨Nat.le_of_ble_eq_true rfl, Nat.le_of_ble_eq_true rfl⟩ hP hK xo_47 rfl rfl rfl hl (Nat.le_of_ble_eq_true rfl) dX4_worthOf_55 ?_
        refine lv_i2l hx hb dX4_worthOf_58 rfl ?_
        refine lv_aload_n hx hb dX4_worthOf_59 rfl (lv_at hl 1 rfl) ?_
        refine gt_X4_26 hC hK hP dX4_worthOf_60 ?_
        refine lv_iload_n hx hb dX4_worthOf_63 rfl (lv_at hl 4 rfl) ?_
        refine lv_iload hx hb dX4_worthOf_64 (lv_at hl 0 rfl) ?_
        obtain ⟨r6, hc6, h⟩ := ob h
        refine callRV (As := [.int w3_19, .int r4]) (rest := [.long (Int32.toInt64 r5), .long w4_19]) hC (c_X1_mindOf l g ad I J 0 w3_19 r4 (Or.inl rfl) hc6) lk_X4_100 rfl rfl ⟨Nat.le_of_ble_eq_true rfl, Nat.le_of_ble_eq_true rfl⟩ hP hK (xEo (Or.inl rfl)) rfl rfl rfl hl (Nat.le_of_ble_eq_true rfl) dX4_worthOf_66 ?_
        refine lv_i2l hx hb dX4_worthOf_69 rfl ?_
        refine lv_lmul hx hb dX4_worthOf_70 ?_
        refine lv_ladd hx hb dX4_worthOf_71 ?_
        refine lv_lstore (lv' := [(4, .long (w4_19 + ((Int32.toInt64 r5) * (Int32.toInt64 r6)))), (7, .int r4), (0, .ref (ad 47)), (1, .ref (ad w1_19)), (2, .int w2_19), (3, .int w3_19), (6, .int w6_19)]) hx hb dX4_worthOf_72 hl (by decide) rfl (fun ls hl => ?_)
        refine lv_iinc (v := (w6_19 + 1)) (lv' := [(6, .int (w6_19 + 1)), (4, .long (w4_19 + ((Int32.toInt64 r5) * (Int32.toInt64 r6)))), (7, .int r4), (0, .ref (ad 47)), (1, .ref (ad w1_19)), (2, .int w2_19), (3, .int w3_19)]) hx hb dX4_worthOf_74 hl (k := 6) rfl rfl (by decide) rfl (fun ls hl => ?_)
        refine lv_goto (tgt := 19) hx hb dX4_worthOf_77 (by decide) ?_
        exact ih w1_19 w2_19 w3_19 (w4_19 + ((Int32.toInt64 r5) * (Int32.toInt64 r6))) (w6_19 + 1) _ hw1_19 h (lv_sub hl [3, 4, 5, 6, 1, 0] rfl)
  unfold F_X4_worthOf at h
  refine lv_iload_n hx hb dX4_worthOf_0 rfl (lv_at hl 3 rfl) ?_
  refine lv_if_ne (tgt := 13) hx hb dX4_worthOf_1 (by decide) (fun c1 => ?_) (fun c1 => ?_)
  · replace h := (if_neg c1).symm.trans h
    refine lv_lconst (v := 0) hx hb dX4_worthOf_13 (by decide) ?_
    refine lv_lstore (lv' := [(4, .long (0 : Int64)), (0, .ref (ad 47)), (1, .ref (ad t1)), (2, .int v2), (3, .int v3)]) hx hb dX4_worthOf_14 hl (by decide) rfl (fun ls hl => ?_)
    refine lv_iconst (v := 0) hx hb dX4_worthOf_16 (by decide) ?_
    refine lv_istore (lv' := [(6, .int (0 : Int32)), (4, .long (0 : Int64)), (0, .ref (ad 47)), (1, .ref (ad t1)), (2, .int v2), (3, .int v3)]) hx hb dX4_worthOf_17 hl (by decide) rfl (fun ls hl => ?_)
    exact loop_19 3000 t1 v2 v3 (0 : Int64) (0 : Int32) _ hT1 h (lv_sub hl [2, 3, 4, 5, 1, 0] rfl)
  · replace h := (if_pos c1).symm.trans h
    refine lv_aload_n hx hb dX4_worthOf_4 rfl (lv_at hl 0 rfl) ?_
    refine lv_iload_n hx hb dX4_worthOf_5 rfl (lv_at hl 2 rfl) ?_
    obtain ⟨r7, hc7, h⟩ := ob h
    refine callRV (As := [.int v2]) (rest := []) hC (c_X4_costWorth l g ad I J v2  hc7) lk_X4_86 rfl rfl ⟨Nat.le_of_ble_eq_true rfl, Nat.le_of_ble_eq_true rfl⟩ hP hK xo_47 rfl rfl rfl hl (Nat.le_of_ble_eq_true rfl) dX4_worthOf_6 ?_
    refine lv_lneg hx hb dX4_worthOf_9 ?_
    refine lv_goto (tgt := 14) hx hb dX4_worthOf_10 (by decide) ?_
    refine lv_lstore (lv' := [(4, .long (-r7)), (0, .ref (ad 47)), (1, .ref (ad t1)), (2, .int v2), (3, .int v3)]) hx hb dX4_worthOf_14 hl (by decide) rfl (fun ls hl => ?_)
    refine lv_iconst (v := 0) hx hb dX4_worthOf_16 (by decide) ?_
    refine lv_istore (lv' := [(6, .int (0 : Int32)), (4, .long (-r7)), (0, .ref (ad 47)), (1, .ref (ad t1)), (2, .int v2), (3, .int v3)]) hx hb dX4_worthOf_17 hl (by decide) rfl (fun ls hl => ?_)
    exact loop_19 3000 t1 v2 v3 (-r7) (0 : Int32) _ hT1 h (lv_sub hl [2, 3, 4, 5, 1, 0] rfl)
def FL_X4_findBest_18  : Nat → SI → SJ → Nat → Int32 → Option (SI × SJ)
  | 0, _, _, _, _ => none
  | n + 1, I, J, w1_18, w2_18 => (if (I 47 5) < w2_18 then (some (I, J)) else ((F_X4_worthOf w1_18 I J w2_18 (0 : Int32)).bind fun r3 => (if r3 ≤ (J 47 9) then (FL_X4_findBest_18 n I J w1_18 (w2_18 + 1)) else (FL_X4_findBest_18 n (u2 I 47 8 w2_18) (u2L J 47 9 r3) w1_18 (w2_18 + 1)))))
def F_X4_findBest (t1 : Nat) (I : SI) (J : SJ) : Option (SI × SJ) := ((F_X4_worthOf t1 (u2 I 47 8 (0 : Int32)) J (0 : Int32) (0 : Int32)).bind fun r1 => (FL_X4_findBest_18 3000 (u2 I 47 8 (0 : Int32)) (u2L J 47 9 r1) t1 (1 : Int32)))
set_option maxHeartbeats 4000000 in
set_option maxRecDepth 100000 in
theorem c_X4_findBest (l : Launch) (g : Gx) (ad : Nat → Nat) (I : SI) (J : SJ) (t1 : Nat) (hT1 : isT t1) (sz : Nat) {rI : SI} {rJ : SJ} (h : F_X4_findBest t1 I J = some (rI, rJ)) : Met l yX4_findBest (Cond.code yX4_findBest cX4_findBest 5 none :: BG) (k2_rm 4 97) (PcW [.ref (ad 47), .ref (ad t1)] g (xW ad g I J) sz) (QWv g (xW ad g I J) (xW ad g rI rJ) sz) 0 0 (va_A (xW ad g I J) sz) := by
  refine mkWv (by decide) (Nat.le_of_ble_eq_true rfl) ?_
  intro p e s m args below meth c H locs ls A Q hC hK hP hD hA hS hl hret
  have hx := hC.1
  have hb := hC.2.1
  have hts := hC.2.2.2.2
  have hown := hC.2.2.2.1
  replace hl : lv_has ls 5 [(0, .ref (ad 47)), (1, .ref (ad t1))] := hl
  have loop_18 : ∀ (n : Nat) (I : SI) (J : SJ) (w1_18 : Nat) (w2_18 : Int32)  (H : Heap) (locs : List Loc) (ls : Array Slot), isT w1_18 → FL_X4_findBest_18 n I J w1_18 w2_18 = some (rI, rJ) → Pg g (xW ad g I J) H → va_D A (xW ad g I J) → va_S A s.heap H locs → lv_has ls 5 [(0, .ref (ad 47)), (1, .ref (ad w1_18)), (2, .int w2_18)] → W p l e (k2_rm 4 97) s m args below meth c H locs 0 0 Q (F0 m 18 ls []) := by
    intro n
    induction n with
    | zero =>
      intro I J w1_18 w2_18 H locs ls hw1_18 h
      exact no h
    | succ n ih =>
      intro I J w1_18 w2_18 H locs ls hw1_18 h hP hD hS hl
      rw [FL_X4_findBest_18] at h
      refine lv_iload_n hx hb dX4_findBest_18 rfl (lv_at hl 2 rfl) ?_
      refine lv_aload_n hx hb dX4_findBest_19 rfl (lv_at hl 0 rfl) ?_
      refine gt_X4_43 hC hK hP dX4_findBest_20 ?_
      refine lv_icmp_gt (tgt := 59) hx hb dX4_findBest_23 (by decide) (fun c2 => ?_) (fun c2 => ?_)
      · replace h := (if_pos c2).symm.trans h
        obtain ⟨rfl, rfl⟩ := Prod.mk.inj (Option.some.inj h)
        exact hret _ _ _ _ dX4_findBest_59 hP hD hS
      · replace h := (if_neg c2).symm.trans h
        refine lv_aload_n hx hb dX4_findBest_26 rfl (lv_at hl 0 rfl) ?_
        refine lv_aload_n hx hb dX4_findBest_27 rfl (lv_at hl 1 rfl) ?_
        refine lv_iload_n hx hb dX4_findBest_28 rfl (lv_at hl 2 rfl) ?_
        refine lv_iconst (v := 0) hx hb dX4_findBest_29 (by decide) ?_
        obtain ⟨r3, hc3, h⟩ := ob h
        refine callRV (As := [.ref (ad w1_18), .int w2_18, .int (0 : Int32)]) (rest := []) hC (c_X4_worthOf l g ad I J w1_18 w2_18 (0 : Int32) hw1_18 hc3) lk_X4_106 rfl rfl ⟨Nat.le_of_ble_eq_true rfl, Nat.le_of_ble_eq_true rfl⟩ hP hK xo_47 rfl rfl rfl hl (Nat.le_of_ble_eq_true rfl) dX4_findBest_30 ?_
        refine lv_lstore_n (lv' := [(3, .long r3), (0, .ref (ad 47)), (1, .ref (ad w1_18)), (2, .int w2_18)]) hx hb dX4_findBest_33 rfl hl (by decide) rfl (fun ls hl => ?_)
        refine lv_lload_n hx hb dX4_findBest_34 rfl (lv_at hl 0 rfl) ?_
        refine lv_aload_n hx hb dX4_findBest_35 rfl (lv_at hl 1 rfl) ?_
        refine gt_X4_110 hC hK hP dX4_findBest_36 ?_
        refine W.lcmp hx hb dX4_findBest_39 ?_
        refine lv_if_le (tgt := 53) hx hb dX4_findBest_40 (by decide) (fun c4 => ?_) (fun c4 => ?_)
        · replace h := (if_pos ((lg_cmp_le _ _).mp c4)).symm.trans h
          refine lv_iinc (v := (w2_18 + 1)) (lv' := [(2, .int (w2_18 + 1)), (3, .long r3), (0, .ref (ad 47)), (1, .ref (ad w1_18))]) hx hb dX4_findBest_53 hl (k := 3) rfl rfl (by decide) rfl (fun ls hl => ?_)
          refine lv_goto (tgt := 18) hx hb dX4_findBest_56 (by decide) ?_
          exact ih I J w1_18 (w2_18 + 1) _ _ _ hw1_18 h hP hD hS (lv_sub hl [2, 3, 0] rfl)
        · replace h := (if_neg (fun hh => c4 ((lg_cmp_le _ _).mpr hh))).symm.trans h
          refine lv_aload_n hx hb dX4_findBest_43 rfl (lv_at hl 1 rfl) ?_
          refine lv_iload_n hx hb dX4_findBest_44 rfl (lv_at hl 3 rfl) ?_
          refine pt_X4_103 hC hK hP hD hS dX4_findBest_45 (fun H locs hP hD hS => ?_)
          refine lv_aload_n hx hb dX4_findBest_48 rfl (lv_at hl 1 rfl) ?_
          refine lv_lload_n hx hb dX4_findBest_49 rfl (lv_at hl 0 rfl) ?_
          refine pt_X4_110 hC hK hP hD hS dX4_findBest_50 (fun H locs hP hD hS => ?_)
          refine lv_iinc (v := (w2_18 + 1)) (lv' := [(2, .int (w2_18 + 1)), (3, .long r3), (0, .ref (ad 47)), (1, .ref (ad w1_18))]) hx hb dX4_findBest_53 hl (k := 3) rfl rfl (by decide) rfl (fun ls hl => ?_)
          refine lv_goto (tgt := 18) hx hb dX4_findBest_56 (by decide) ?_
          exact ih (u2 I 47 8 w2_18) (u2L J 47 9 r3) w1_18 (w2_18 + 1) _ _ _ hw1_18 h hP hD hS (lv_sub hl [2, 3, 0] rfl)
  unfold F_X4_findBest at h
  refine lv_aload_n hx hb dX4_findBest_0 rfl (lv_at hl 0 rfl) ?_
  refine lv_iconst (v := 0) hx hb dX4_findBest_1 (by decide) ?_
  refine pt_X4_103 hC hK hP hD hS dX4_findBest_2 (fun H locs hP hD hS => ?_)
  refine lv_aload_n hx hb dX4_findBest_5 rfl (lv_at hl 0 rfl) ?_
  refine lv_aload_n hx hb dX4_findBest_6 rfl (lv_at hl 0 rfl) ?_
  refine lv_aload_n hx hb dX4_findBest_7 rfl (lv_at hl 1 rfl) ?_
  refine lv_iconst (v := 0) hx hb dX4_findBest_8 (by decide) ?_
  refine lv_iconst (v := 0) hx hb dX4_findBest_9 (by decide) ?_
  obtain ⟨r1, hc1, h⟩ := ob h
  refine callRV (As := [.ref (ad t1), .int (0 : Int32), .int (0 : Int32)]) (rest := [.ref (ad 47)]) hC (c_X4_worthOf l g ad (u2 I 47 8 (0 : Int32)) J t1 (0 : Int32) (0 : Int32) hT1 hc1) lk_X4_106 rfl rfl ⟨Nat.le_of_ble_eq_true rfl, Nat.le_of_ble_eq_true rfl⟩ hP hK xo_47 rfl rfl rfl hl (Nat.le_of_ble_eq_true rfl) dX4_findBest_10 ?_
  refine pt_X4_110 hC hK hP hD hS dX4_findBest_13 (fun H locs hP hD hS => ?_)
  refine lv_iconst (v := 1) hx hb dX4_findBest_16 (by decide) ?_
  refine lv_istore_n (lv' := [(2, .int (1 : Int32)), (0, .ref (ad 47)), (1, .ref (ad t1))]) hx hb dX4_findBest_17 rfl hl (by decide) rfl (fun ls hl => ?_)
  exact loop_18 3000 (u2 I 47 8 (0 : Int32)) (u2L J 47 9 r1) t1 (1 : Int32) _ _ _ hT1 h hP hD hS (lv_sub hl [1, 2, 0] rfl)
def F_X2_put_ (n0 : Nat) (f0 : Nat → Int64) (v2 : Int32) (v3 : Int64) : Option (Nat → Int64) := (if v2 < 0 then (some f0) else (if (Int32.ofNat n0) ≤ v2 then (some f0) else (if gin v2 n0 = true then (some (vp_updL f0 (Int32.toNatClampNeg v2) v3)) else none)))
set_option maxHeartbeats 4000000 in
set_option maxRecDepth 100000 in
theorem c_X2_put_ (l : Launch) (g : Gx) (ws : va_W) (wf : (Nat → Int64) → va_W) (g0 n0 : Nat) (f0 : Nat → Int64) (a0 : Nat) (h0 : ws = wf f0) (hT : ∀ f, (wf f)[g0]? = some (a0, .inl (g.2.2.1, n0, .inr (.inl f)))) (hs : ∀ f f', (wf f).set g0 (a0, .inl (g.2.2.1, n0, .inr (.inl f'))) = wf f') (v2 : Int32) (v3 : Int64)  (sz : Nat) {r : Nat → Int64} (h : F_X2_put_ n0 f0 v2 v3 = some r) : Met l yX2_put_ (Cond.code yX2_put_ cX2_put_ 4 none :: BG) (k2_rm 0 0) (PcW [.ref a0, .int v2, .long v3] g ws sz) (QWv g ws (wf r) sz) 0 0 (va_A ws sz) := by
  refine mkWv (by decide) (Nat.le_of_ble_eq_true rfl) ?_
  intro p e s m args below meth c H locs ls A Q hC hK hP hD hA hS hl hret
  rw [h0] at hP hD
  have hx := hC.1
  have hb := hC.2.1
  have hts := hC.2.2.2.2
  have hown := hC.2.2.2.1
  replace hl : lv_has ls 4 [(0, .ref a0), (1, .int v2), (2, .long v3)] := hl
  unfold F_X2_put_ at h
  refine lv_aload_n hx hb dX2_put__0 rfl (lv_at hl 0 rfl) ?_
  refine lv_ifnull hx hb dX2_put__1 ?_
  refine lv_iload_n hx hb dX2_put__4 rfl (lv_at hl 1 rfl) ?_
  refine lv_if_lt (tgt := 18) hx hb dX2_put__5 (by decide) (fun c1 => ?_) (fun c1 => ?_)
  · replace h := (if_pos c1).symm.trans h
    obtain rfl := Option.some.inj h
    exact hret _ _ _ _ dX2_put__18 hP hD hS
  · replace h := (if_neg c1).symm.trans h
    refine lv_iload_n hx hb dX2_put__8 rfl (lv_at hl 1 rfl) ?_
    refine lv_aload_n hx hb dX2_put__9 rfl (lv_at hl 0 rfl) ?_
    refine va_alen hx hb hK hP g0 1 (hT _) rfl rfl dX2_put__10 ?_
    refine lv_icmp_ge (tgt := 18) hx hb dX2_put__11 (by decide) (fun c2 => ?_) (fun c2 => ?_)
    · replace h := (if_pos c2).symm.trans h
      obtain rfl := Option.some.inj h
      exact hret _ _ _ _ dX2_put__18 hP hD hS
    · replace h := (if_neg c2).symm.trans h
      refine lv_aload_n hx hb dX2_put__14 rfl (lv_at hl 0 rfl) ?_
      refine lv_iload_n hx hb dX2_put__15 rfl (lv_at hl 1 rfl) ?_
      refine lv_lload_n hx hb dX2_put__16 rfl (lv_at hl 2 rfl) ?_
      obtain ⟨b3, h⟩ := og h
      refine va_last hx hb hK hP hD hS g0 1 (hT _) rfl (gin_ok b3) dX2_put__17 (fun H locs hP hD hS => ?_)
      rw [hs] at hP hD
      obtain rfl := Option.some.inj h
      exact hret _ _ _ _ dX2_put__18 hP hD hS
def FS_X0_lay_30  : Nat → SI → SJ → Nat → Int32 → Int32 → Int32 → Option (SI × SJ × Int32 × Int32 × Int32)
  | 0, _, _, _, _, _, _ => none
  | n + 1, I, J, w2_30, w3_30, w4_30, w5_30 => (if w3_30 ≤ w5_30 then (some (I, J, w3_30, w4_30, w5_30)) else ((F_X4_findBest w2_30 (u2 I 47 7 w5_30) J).bind fun (I4, J4) => ((F_X2_put_ 40 (J4 56) ((w5_30 * (4 : Int32)) + w4_30) (J4 47 9)).bind fun f_5 => (FS_X0_lay_30 n I4 (u1 J4 56 f_5) w2_30 w3_30 w4_30 (w5_30 + 1)))))
def FL_X0_lay_13  : Nat → SI → SJ → Nat → Int32 → Int32 → Option (SI × SJ)
  | 0, _, _, _, _, _ => none
  | n + 1, I, J, w2_13, w3_13, w4_13 => (if (3 : Int32) < w4_13 then (some (I, J)) else ((F_X4_lay I J w4_13 (0 : Int32) (0 : Int32)).bind fun (I2, J2) => ((FS_X0_lay_30 3000 I2 J2 w2_13 w3_13 w4_13 (0 : Int32)).bind fun (I6, J6, u3_6, u4_6, u5_6) => (FL_X0_lay_13 n I6 J6 w2_13 u3_6 (u4_6 + 1)))))
def F_X0_lay (t2 : Nat) (I : SI) (J : SJ) (v3 : Int32) : Option (SI × SJ) := (FL_X0_lay_13 3000 (u2 I 55 2 v3) J t2 v3 (0 : Int32))
set_option maxHeartbeats 4000000 in
set_option maxRecDepth 100000 in
theorem c_X0_lay (l : Launch) (g : Gx) (ad : Nat → Nat) (I : SI) (J : SJ) (t2 : Nat) (v3 : Int32) (hT2 : isT t2) (sz : Nat) {rI : SI} {rJ : SJ} (h : F_X0_lay t2 I J v3 = some (rI, rJ)) : Met l yX0_lay (Cond.code yX0_lay cX0_lay 6 none :: BG) (k2_rm 5 121) (PcW [.ref (ad 55), .ref (ad 47), .ref (ad t2), .int v3] g (xW ad g I J) sz) (QWv g (xW ad g I J) (xW ad g rI rJ) sz) 0 0 (va_A (xW ad g I J) sz) := by
  refine mkWv (by decide) (Nat.le_of_ble_eq_true rfl) ?_
  intro p e s m args below meth c H locs ls A Q hC hK hP hD hA hS hl hret
  have hx := hC.1
  have hb := hC.2.1
  have hts := hC.2.2.2.2
  have hown := hC.2.2.2.1
  replace hl : lv_has ls 6 [(0, .ref (ad 55)), (1, .ref (ad 47)), (2, .ref (ad t2)), (3, .int v3)] := hl
  have loop_30 : ∀ (n : Nat) (I : SI) (J : SJ) (w2_30 : Nat) (w3_30 : Int32) (w4_30 : Int32) (w5_30 : Int32) (o0 : SI) (o1 : SJ) (o2 : Int32) (o3 : Int32) (o4 : Int32) (H : Heap) (locs : List Loc) (ls : Array Slot), isT w2_30 → FS_X0_lay_30 n I J w2_30 w3_30 w4_30 w5_30 = some (o0, o1, o2, o3, o4) → Pg g (xW ad g I J) H → va_D A (xW ad g I J) → va_S A s.heap H locs → lv_has ls 6 [(0, .ref (ad 55)), (1, .ref (ad 47)), (2, .ref (ad w2_30)), (3, .int w3_30), (4, .int w4_30), (5, .int w5_30)] → (∀ (H : Heap) (locs : List Loc) (ls : Array Slot), Pg g (xW ad g o0 o1) H → va_D A (xW ad g o0 o1) → va_S A s.heap H locs → lv_has ls 6 [(0, .ref (ad 55)), (1, .ref (ad 47)), (2, .ref (ad w2_30)), (3, .int o2), (4, .int o3), (5, .int o4)] → W p l e (k2_rm 5 121) s m args below meth c H locs 0 0 Q (F0 m 71 ls [])) → W p l e (k2_rm 5 121) s m args below meth c H locs 0 0 Q (F0 m 30 ls []) := by
    intro n
    induction n with
    | zero =>
      intro I J w2_30 w3_30 w4_30 w5_30 o0 o1 o2 o3 o4 H locs ls hw2_30 h
      exact no h
    | succ n ih =>
      intro I J w2_30 w3_30 w4_30 w5_30 o0 o1 o2 o3 o4 H locs ls hw2_30 h hP hD hS hl hexit
      rw [FS_X0_lay_30] at h
      refine lv_iload hx hb dX0_lay_30 (lv_at hl 5 rfl) ?_
      refine lv_iload_n hx hb dX0_lay_32 rfl (lv_at hl 3 rfl) ?_
      refine lv_icmp_ge (tgt := 71) hx hb dX0_lay_33 (by decide) (fun c3 => ?_) (fun c3 => ?_)
      · replace h := (if_pos c3).symm.trans h
        cases h
        exact hexit _ _ _ hP hD hS (lv_sub hl [0, 1, 2, 3, 4, 5] rfl)
      · replace h := (if_neg c3).symm.trans h
        refine lv_aload_n hx hb dX0_lay_36 rfl (lv_at hl 1 rfl) ?_
        refine lv_iload hx hb dX0_lay_37 (lv_at hl 5 rfl) ?_
        refine pt_X0_26 hC hK hP hD hS dX0_lay_39 (fun H locs hP hD hS => ?_)
        refine lv_aload_n hx hb dX0_lay_42 rfl (lv_at hl 1 rfl) ?_
        refine lv_aload_n hx hb dX0_lay_43 rfl (lv_at hl 2 rfl) ?_
        obtain ⟨⟨I4, J4⟩, hc4, h⟩ := ob h
        dsimp only at h
        refine callWVv (As := [.ref (ad w2_30)]) (rest := []) hC (c_X4_findBest l g ad (u2 I 47 7 w5_30) J w2_30 hw2_30 H.size hc4) lk_X0_29 rfl rfl ⟨Nat.le_of_ble_eq_true rfl, Nat.le_of_ble_eq_true rfl⟩ hP hK hD hA hS xo_47 rfl rfl rfl hl (Nat.le_of_ble_eq_true rfl) dX0_lay_44 (fun H locs hP hD hS => ?_)
        refine lv_aload_n hx hb dX0_lay_47 rfl (lv_at hl 0 rfl) ?_
        refine gt_X0_9 hC hK hP dX0_lay_48 ?_
        refine lv_iload hx hb dX0_lay_51 (lv_at hl 5 rfl) ?_
        refine lv_iconst (v := 4) hx hb dX0_lay_53 (by decide) ?_
        refine lv_imul hx hb dX0_lay_54 ?_
        refine lv_iload hx hb dX0_lay_55 (lv_at hl 4 rfl) ?_
        refine lv_iadd hx hb dX0_lay_57 ?_
        refine lv_aload_n hx hb dX0_lay_58 rfl (lv_at hl 1 rfl) ?_
        refine gt_X0_33 hC hK hP dX0_lay_59 ?_
        obtain ⟨f_5, hc5, h⟩ := ob h
        refine callWSv (As := [.ref (ad 56), .int ((w5_30 * (4 : Int32)) + w4_30), .long (J4 47 9)]) (rest := []) hC (c_X2_put_ l g (xW ad g I4 J4) (fun f => xW ad g I4 (u1 J4 56 f)) 56 40 (J4 56) (ad 56) xc_56.1 xc_56.2.1 xc_56.2.2 ((w5_30 * (4 : Int32)) + w4_30) (J4 47 9) H.size hc5) lk_X0_37 rfl rfl ⟨Nat.le_of_ble_eq_true rfl, Nat.le_of_ble_eq_true rfl⟩ hP hK hD hA hS rfl rfl hl (Nat.le_of_ble_eq_true rfl) dX0_lay_62 (fun H locs hP hD hS => ?_)
        refine lv_iinc (v := (w5_30 + 1)) (lv' := [(5, .int (w5_30 + 1)), (0, .ref (ad 55)), (1, .ref (ad 47)), (2, .ref (ad w2_30)), (3, .int w3_30), (4, .int w4_30)]) hx hb dX0_lay_65 hl (k := 5) rfl rfl (by decide) rfl (fun ls hl => ?_)
        refine lv_goto (tgt := 30) hx hb dX0_lay_68 (by decide) ?_
        exact ih I4 (u1 J4 56 f_5) w2_30 w3_30 w4_30 (w5_30 + 1) _ _ _ _ _ _ _ _ hw2_30 h hP hD hS (lv_sub hl [1, 2, 3, 4, 5, 0] rfl) hexit
  have loop_13 : ∀ (n : Nat) (I : SI) (J : SJ) (w2_13 : Nat) (w3_13 : Int32) (w4_13 : Int32)  (H : Heap) (locs : List Loc) (ls : Array Slot), isT w2_13 → FL_X0_lay_13 n I J w2_13 w3_13 w4_13 = some (rI, rJ) → Pg g (xW ad g I J) H → va_D A (xW ad g I J) → va_S A s.heap H locs → lv_has ls 6 [(0, .ref (ad 55)), (1, .ref (ad 47)), (2, .ref (ad w2_13)), (3, .int w3_13), (4, .int w4_13)] → W p l e (k2_rm 5 121) s m args below meth c H locs 0 0 Q (F0 m 13 ls []) := by
    intro n
    induction n with
    | zero =>
      intro I J w2_13 w3_13 w4_13 H locs ls hw2_13 h
      exact no h
    | succ n ih =>
      intro I J w2_13 w3_13 w4_13 H locs ls hw2_13 h hP hD hS hl
      rw [FL_X0_lay_13] at h
      refine lv_iload hx hb dX0_lay_13 (lv_at hl 4 rfl) ?_
      refine lv_iconst (v := 3) hx hb dX0_lay_15 (by decide) ?_
      refine lv_icmp_gt (tgt := 77) hx hb dX0_lay_16 (by decide) (fun c1 => ?_) (fun c1 => ?_)
      · replace h := (if_pos c1).symm.trans h
        obtain ⟨rfl, rfl⟩ := Prod.mk.inj (Option.some.inj h)
        exact hret _ _ _ _ dX0_lay_77 hP hD hS
      · replace h := (if_neg c1).symm.trans h
        refine lv_aload_n hx hb dX0_lay_19 rfl (lv_at hl 1 rfl) ?_
        refine lv_iload hx hb dX0_lay_20 (lv_at hl 4 rfl) ?_
        refine lv_iconst (v := 0) hx hb dX0_lay_22 (by decide) ?_
        refine lv_iconst (v := 0) hx hb dX0_lay_23 (by decide) ?_
        obtain ⟨⟨I2, J2⟩, hc2, h⟩ := ob h
        dsimp only at h
        refine callWVv (As := [.int w4_13, .int (0 : Int32), .int (0 : Int32)]) (rest := []) hC (c_X4_lay l g ad I J w4_13 (0 : Int32) (0 : Int32)  H.size hc2) lk_X0_20 rfl rfl ⟨Nat.le_of_ble_eq_true rfl, Nat.le_of_ble_eq_true rfl⟩ hP hK hD hA hS xo_47 rfl rfl rfl hl (Nat.le_of_ble_eq_true rfl) dX0_lay_24 (fun H locs hP hD hS => ?_)
        refine lv_iconst (v := 0) hx hb dX0_lay_27 (by decide) ?_
        refine lv_istore (lv' := [(5, .int (0 : Int32)), (0, .ref (ad 55)), (1, .ref (ad 47)), (2, .ref (ad w2_13)), (3, .int w3_13), (4, .int w4_13)]) hx hb dX0_lay_28 hl (by decide) rfl (fun ls hl => ?_)
        obtain ⟨⟨I6, J6, u3_6, u4_6, u5_6⟩, hc6, h⟩ := ob h
        dsimp only at h
        refine loop_30 3000 I2 J2 w2_13 w3_13 w4_13 (0 : Int32) I6 J6 u3_6 u4_6 u5_6 _ _ _ hw2_13 hc6 hP hD hS (lv_sub hl [1, 2, 3, 4, 5, 0] rfl) (fun H locs ls hP hD hS hl => ?_)
        refine lv_iinc (v := (u4_6 + 1)) (lv' := [(4, .int (u4_6 + 1)), (0, .ref (ad 55)), (1, .ref (ad 47)), (2, .ref (ad w2_13)), (3, .int u3_6), (5, .int u5_6)]) hx hb dX0_lay_71 hl (k := 4) rfl rfl (by decide) rfl (fun ls hl => ?_)
        refine lv_goto (tgt := 13) hx hb dX0_lay_74 (by decide) ?_
        exact ih I6 J6 w2_13 u3_6 (u4_6 + 1) _ _ _ hw2_13 h hP hD hS (lv_sub hl [1, 2, 3, 4, 0] rfl)
  unfold F_X0_lay at h
  refine lv_aload_n hx hb dX0_lay_0 rfl (lv_at hl 0 rfl) ?_
  refine lv_iload_n hx hb dX0_lay_1 rfl (lv_at hl 3 rfl) ?_
  refine pt_X0_16 hC hK hP hD hS dX0_lay_2 (fun H locs hP hD hS => ?_)
  refine lv_aload_n hx hb dX0_lay_5 rfl (lv_at hl 1 rfl) ?_
  refine lv_ifnonnull (tgt := 10) hx hb dX0_lay_6 (by decide) ?_
  refine lv_iconst (v := 0) hx hb dX0_lay_10 (by decide) ?_
  refine lv_istore (lv' := [(4, .int (0 : Int32)), (0, .ref (ad 55)), (1, .ref (ad 47)), (2, .ref (ad t2)), (3, .int v3)]) hx hb dX0_lay_11 hl (by decide) rfl (fun ls hl => ?_)
  exact loop_13 3000 (u2 I 55 2 v3) J t2 v3 (0 : Int32) _ _ _ hT2 h hP hD hS (lv_sub hl [1, 2, 3, 4, 0] rfl)
