def F_X2_at_ (n0 : Nat) (f0 : Nat → Int64) (v2 : Int32) : Option (Int64) := (if v2 < 0 then (some (0 : Int64)) else (if (Int32.ofNat n0) ≤ v2 then (some (0 : Int64)) else (if gin v2 n0 = true then (some (f0 (Int32.toNatClampNeg v2))) else none)))
set_option maxHeartbeats 4000000 in
set_option maxRecDepth 100000 in
theorem c_X2_at_ (l : Launch) (g : Gx) (ws : va_W) (g0 n0 : Nat) (f0 : Nat → Int64) (a0 : Nat) (hF0 : ws[g0]? = some (a0, .inl (g.2.2.1, n0, .inr (.inl f0)))) (v2 : Int32)  {r : Int64} (h : F_X2_at_ n0 f0 v2 = some r) : Met l yX2_at_ (Cond.code yX2_at_ cX2_at_ 2 (some .long) :: BG) (k2_rm 0 0) (va_Pc [.ref a0, .int v2] (fun U => Pg g ws U.heap ∧ Kg g U)) (k2_QcV (.long r)) 0 0 (fun _ => False) := by
  refine mkRl (by decide) (Nat.le_of_ble_eq_true rfl) ?_
  intro p e s m args below meth c H locs ls Q hC hK hP hl hret
  have hx := hC.1
  have hb := hC.2.1
  have hts := hC.2.2.2.2
  have hown := hC.2.2.2.1
  replace hl : lv_has ls 2 [(0, .ref a0), (1, .int v2)] := hl
  unfold F_X2_at_ at h
  refine lv_aload_n hx hb dX2_at__0 rfl (lv_at hl 0 rfl) ?_
  refine lv_ifnull hx hb dX2_at__1 ?_
  refine lv_iload_n hx hb dX2_at__4 rfl (lv_at hl 1 rfl) ?_
  refine lv_if_lt (tgt := 20) hx hb dX2_at__5 (by decide) (fun c1 => ?_) (fun c1 => ?_)
  · replace h := (if_pos c1).symm.trans h
    refine lv_lconst (v := 0) hx hb dX2_at__20 (by decide) ?_
    exact hret _ _ _ dX2_at__21 (Option.some.inj h)
  · replace h := (if_neg c1).symm.trans h
    refine lv_iload_n hx hb dX2_at__8 rfl (lv_at hl 1 rfl) ?_
    refine lv_aload_n hx hb dX2_at__9 rfl (lv_at hl 0 rfl) ?_
    refine va_alen hx hb hK hP g0 1 (hF0) rfl rfl dX2_at__10 ?_
    refine lv_icmp_ge (tgt := 20) hx hb dX2_at__11 (by decide) (fun c2 => ?_) (fun c2 => ?_)
    · replace h := (if_pos c2).symm.trans h
      refine lv_lconst (v := 0) hx hb dX2_at__20 (by decide) ?_
      exact hret _ _ _ dX2_at__21 (Option.some.inj h)
    · replace h := (if_neg c2).symm.trans h
      refine lv_aload_n hx hb dX2_at__14 rfl (lv_at hl 0 rfl) ?_
      refine lv_iload_n hx hb dX2_at__15 rfl (lv_at hl 1 rfl) ?_
      obtain ⟨b3, h⟩ := og h
      refine va_lald hx hb hK hP g0 1 (hF0) rfl (gin_ok b3) dX2_at__16 ?_
      refine lv_goto (tgt := 21) hx hb dX2_at__17 (by decide) ?_
      exact hret _ _ _ dX2_at__21 (Option.some.inj h)
def F_X0_sumOf (I : SI) (J : SJ) (v1 : Int32) (v2 : Int32) : Option (Int64) := ((F_X2_at_ 44 (J 57) ((v1 * (4 : Int32)) + v2)).bind fun r1 => (some r1))
set_option maxHeartbeats 4000000 in
set_option maxRecDepth 100000 in
theorem c_X0_sumOf (l : Launch) (g : Gx) (ad : Nat → Nat) (I : SI) (J : SJ) (v1 : Int32) (v2 : Int32)  {r : Int64} (h : F_X0_sumOf I J v1 v2 = some r) : Met l yX0_sumOf (Cond.code yX0_sumOf cX0_sumOf 3 (some .long) :: BG) (k2_rm 1 21) (va_Pc [.ref (ad 55), .int v1, .int v2] (fun U => Pg g (xW ad g I J) U.heap ∧ Kg g U)) (k2_QcV (.long r)) 0 0 (fun _ => False) := by
  refine mkRl (by decide) (Nat.le_of_ble_eq_true rfl) ?_
  intro p e s m args below meth c H locs ls Q hC hK hP hl hret
  have hx := hC.1
  have hb := hC.2.1
  have hts := hC.2.2.2.2
  have hown := hC.2.2.2.1
  replace hl : lv_has ls 3 [(0, .ref (ad 55)), (1, .int v1), (2, .int v2)] := hl
  unfold F_X0_sumOf at h
  refine lv_aload_n hx hb dX0_sumOf_0 rfl (lv_at hl 0 rfl) ?_
  refine gt_X0_13 hC hK hP dX0_sumOf_1 ?_
  refine lv_iload_n hx hb dX0_sumOf_4 rfl (lv_at hl 1 rfl) ?_
  refine lv_iconst (v := 4) hx hb dX0_sumOf_5 (by decide) ?_
  refine lv_imul hx hb dX0_sumOf_6 ?_
  refine lv_iload_n hx hb dX0_sumOf_7 rfl (lv_at hl 2 rfl) ?_
  refine lv_iadd hx hb dX0_sumOf_8 ?_
  obtain ⟨r1, hc1, h⟩ := ob h
  refine callRS (As := [.ref (ad 57), .int ((v1 * (4 : Int32)) + v2)]) (rest := []) hC (c_X2_at_ l g (xW ad g I J) 57 44 (J 57) (ad 57) xo_57 ((v1 * (4 : Int32)) + v2) hc1) lk_X0_58 rfl rfl ⟨Nat.le_of_ble_eq_true rfl, Nat.le_of_ble_eq_true rfl⟩ hP hK rfl rfl hl (Nat.le_of_ble_eq_true rfl) dX0_sumOf_9 ?_
  exact hret _ _ _ dX0_sumOf_12 (Option.some.inj h)
def F_X0_sumWithout (I : SI) (J : SJ) (v1 : Int32) (v2 : Int32) : Option (Int64) := ((F_X0_sumOf I J (v1 + (1 : Int32)) (if (v2 - (1 : Int32)) < (0 : Int32) then (0 : Int32) else (v2 - (1 : Int32)))).bind fun r1 => (some r1))
set_option maxHeartbeats 4000000 in
set_option maxRecDepth 100000 in
theorem c_X0_sumWithout (l : Launch) (g : Gx) (ad : Nat → Nat) (I : SI) (J : SJ) (v1 : Int32) (v2 : Int32)  {r : Int64} (h : F_X0_sumWithout I J v1 v2 = some r) : Met l yX0_sumWithout (Cond.code yX0_sumWithout cX0_sumWithout 3 (some .long) :: BG) (k2_rm 2 43) (va_Pc [.ref (ad 55), .int v1, .int v2] (fun U => Pg g (xW ad g I J) U.heap ∧ Kg g U)) (k2_QcV (.long r)) 0 0 (fun _ => False) := by
  refine mkRl (by decide) (Nat.le_of_ble_eq_true rfl) ?_
  intro p e s m args below meth c H locs ls Q hC hK hP hl hret
  have hx := hC.1
  have hb := hC.2.1
  have hts := hC.2.2.2.2
  have hown := hC.2.2.2.1
  replace hl : lv_has ls 3 [(0, .ref (ad 55)), (1, .int v1), (2, .int v2)] := hl
  unfold F_X0_sumWithout at h
  refine lv_aload_n hx hb dX0_sumWithout_0 rfl (lv_at hl 0 rfl) ?_
  refine lv_iload_n hx hb dX0_sumWithout_1 rfl (lv_at hl 1 rfl) ?_
  refine lv_iconst (v := 1) hx hb dX0_sumWithout_2 (by decide) ?_
  refine lv_iadd hx hb dX0_sumWithout_3 ?_
  refine lv_iload_n hx hb dX0_sumWithout_4 rfl (lv_at hl 2 rfl) ?_
  refine lv_iconst (v := 1) hx hb dX0_sumWithout_5 (by decide) ?_
  refine lv_isub hx hb dX0_sumWithout_6 ?_
  refine lv_iconst (v := 0) hx hb dX0_sumWithout_7 (by decide) ?_
  refine va_mmax hx hb (hC.2.2.1.trans hl.1.symm) hown (hts _ ml_X0_62) (hts _ sm_maxI) (hts _ ini_math) (hts _ cd_maxI) (Nat.le_of_ble_eq_true rfl) (Nat.le_of_ble_eq_true rfl) (Nat.zero_le _) (Nat.zero_le _) dX0_sumWithout_8 ?_
  obtain ⟨r1, hc1, h⟩ := ob h
  refine callRV (As := [.int (v1 + (1 : Int32)), .int (if (v2 - (1 : Int32)) < (0 : Int32) then (0 : Int32) else (v2 - (1 : Int32)))]) (rest := []) hC (c_X0_sumOf l g ad I J (v1 + (1 : Int32)) (if (v2 - (1 : Int32)) < (0 : Int32) then (0 : Int32) else (v2 - (1 : Int32)))  hc1) lk_X0_65 rfl rfl ⟨Nat.le_of_ble_eq_true rfl, Nat.le_of_ble_eq_true rfl⟩ hP hK xo_55 rfl rfl rfl hl (Nat.le_of_ble_eq_true rfl) dX0_sumWithout_11 ?_
  exact hret _ _ _ dX0_sumWithout_14 (Option.some.inj h)
def F_X0_sumWith (I : SI) (J : SJ) (v1 : Int32) (v2 : Int32) : Option (Int64) := ((F_X0_sumOf I J (v1 + (1 : Int32)) (if (3 : Int32) < (v2 + (1 : Int32)) then (3 : Int32) else (v2 + (1 : Int32)))).bind fun r1 => (some (r1 - (4000 : Int64))))
set_option maxHeartbeats 4000000 in
set_option maxRecDepth 100000 in
theorem c_X0_sumWith (l : Launch) (g : Gx) (ad : Nat → Nat) (I : SI) (J : SJ) (v1 : Int32) (v2 : Int32)  {r : Int64} (h : F_X0_sumWith I J v1 v2 = some r) : Met l yX0_sumWith (Cond.code yX0_sumWith cX0_sumWith 3 (some .long) :: BG) (k2_rm 2 43) (va_Pc [.ref (ad 55), .int v1, .int v2] (fun U => Pg g (xW ad g I J) U.heap ∧ Kg g U)) (k2_QcV (.long r)) 0 0 (fun _ => False) := by
  refine mkRl (by decide) (Nat.le_of_ble_eq_true rfl) ?_
  intro p e s m args below meth c H locs ls Q hC hK hP hl hret
  have hx := hC.1
  have hb := hC.2.1
  have hts := hC.2.2.2.2
  have hown := hC.2.2.2.1
  replace hl : lv_has ls 3 [(0, .ref (ad 55)), (1, .int v1), (2, .int v2)] := hl
  unfold F_X0_sumWith at h
  refine lv_aload_n hx hb dX0_sumWith_0 rfl (lv_at hl 0 rfl) ?_
  refine lv_iload_n hx hb dX0_sumWith_1 rfl (lv_at hl 1 rfl) ?_
  refine lv_iconst (v := 1) hx hb dX0_sumWith_2 (by decide) ?_
  refine lv_iadd hx hb dX0_sumWith_3 ?_
  refine lv_iload_n hx hb dX0_sumWith_4 rfl (lv_at hl 2 rfl) ?_
  refine lv_iconst (v := 1) hx hb dX0_sumWith_5 (by decide) ?_
  refine lv_iadd hx hb dX0_sumWith_6 ?_
  refine lv_iconst (v := 3) hx hb dX0_sumWith_7 (by decide) ?_
  refine va_mmin hx hb (hC.2.2.1.trans hl.1.symm) hown (hts _ ml_X0_68) (hts _ sm_minI) (hts _ ini_math) (hts _ cd_minI) (Nat.le_of_ble_eq_true rfl) (Nat.le_of_ble_eq_true rfl) (Nat.zero_le _) (Nat.zero_le _) dX0_sumWith_8 ?_
  obtain ⟨r1, hc1, h⟩ := ob h
  refine callRV (As := [.int (v1 + (1 : Int32)), .int (if (3 : Int32) < (v2 + (1 : Int32)) then (3 : Int32) else (v2 + (1 : Int32)))]) (rest := []) hC (c_X0_sumOf l g ad I J (v1 + (1 : Int32)) (if (3 : Int32) < (v2 + (1 : Int32)) then (3 : Int32) else (v2 + (1 : Int32)))  hc1) lk_X0_65 rfl rfl ⟨Nat.le_of_ble_eq_true rfl, Nat.le_of_ble_eq_true rfl⟩ hP hK xo_55 rfl rfl rfl hl (Nat.le_of_ble_eq_true rfl) dX0_sumWith_11 ?_
  refine lv_ldc2 hx hb hown (hts _ kc_X0_71) dX0_sumWith_14 ?_
  refine lv_lsub hx hb dX0_sumWith_17 ?_
  exact hret _ _ _ dX0_sumWith_18 (Option.some.inj h)
def FS_X0_sumUp_50  : Nat → SI → SJ → Int32 → Int32 → Option (SI × SJ × Int32 × Int32)
  | 0, _, _, _, _ => none
  | n + 1, I, J, w2_50, w3_50 => (if (3 : Int32) < w3_50 then (some (I, J, w2_50, w3_50)) else ((F_X0_sumWithout I J w2_50 w3_50).bind fun r4 => ((F_X0_sumWith I J w2_50 w3_50).bind fun r5 => ((F_X2_at_ 40 (J 56) ((w2_50 * (4 : Int32)) + w3_50)).bind fun r6 => ((F_X2_put_ 44 (J 57) ((w2_50 * (4 : Int32)) + w3_50) (r6 + (if r5 < r4 then r4 else r5))).bind fun f_7 => (FS_X0_sumUp_50 n I (u1 J 57 f_7) w2_50 (w3_50 + 1)))))))
def FL_X0_sumUp_44  : Nat → SI → SJ → Int32 → Option (SI × SJ)
  | 0, _, _, _ => none
  | n + 1, I, J, w2_44 => (if w2_44 < 0 then (some (I, J)) else ((FS_X0_sumUp_50 3000 I J w2_44 (0 : Int32)).bind fun (I8, J8, u2_8, u3_8) => (FL_X0_sumUp_44 n I8 J8 (u2_8 + (-1)))))
def FL_X0_sumUp_2  : Nat → SI → SJ → Int32 → Int32 → Option (SI × SJ)
  | 0, _, _, _, _ => none
  | n + 1, I, J, w1_2, w2_2 => (if (3 : Int32) < w2_2 then (FL_X0_sumUp_44 3000 I J ((I 55 2) - (1 : Int32))) else ((F_X2_put_ 44 (J 57) (((I 55 2) * (4 : Int32)) + w2_2) (((1000 : Int64) * (Int32.toInt64 w1_2)) * (Int32.toInt64 w2_2))).bind fun f_9 => (FL_X0_sumUp_2 n I (u1 J 57 f_9) w1_2 (w2_2 + 1))))
def F_X0_sumUp (I : SI) (J : SJ) (v1 : Int32) : Option (SI × SJ) := (FL_X0_sumUp_2 3000 I J v1 (0 : Int32))
set_option maxHeartbeats 4000000 in
set_option maxRecDepth 100000 in
theorem c_X0_sumUp (l : Launch) (g : Gx) (ad : Nat → Nat) (I : SI) (J : SJ) (v1 : Int32)  (sz : Nat) {rI : SI} {rJ : SJ} (h : F_X0_sumUp I J v1 = some (rI, rJ)) : Met l yX0_sumUp (Cond.code yX0_sumUp cX0_sumUp 6 none :: BG) (k2_rm 3 65) (PcW [.ref (ad 55), .int v1] g (xW ad g I J) sz) (QWv g (xW ad g I J) (xW ad g rI rJ) sz) 0 0 (va_A (xW ad g I J) sz) := by
  refine mkWv (by decide) (Nat.le_of_ble_eq_true rfl) ?_
  intro p e s m args below meth c H locs ls A Q hC hK hP hD hA hS hl hret
  have hx := hC.1
  have hb := hC.2.1
  have hts := hC.2.2.2.2
  have hown := hC.2.2.2.1
  replace hl : lv_has ls 6 [(0, .ref (ad 55)), (1, .int v1)] := hl
  have loop_50 : ∀ (n : Nat) (I : SI) (J : SJ) (w2_50 : Int32) (w3_50 : Int32) (o0 : SI) (o1 : SJ) (o2 : Int32) (o3 : Int32) (H : Heap) (locs : List Loc) (ls : Array Slot), FS_X0_sumUp_50 n I J w2_50 w3_50 = some (o0, o1, o2, o3) → Pg g (xW ad g I J) H → va_D A (xW ad g I J) → va_S A s.heap H locs → lv_has ls 6 [(0, .ref (ad 55)), (2, .int w2_50), (3, .int w3_50)] → (∀ (H : Heap) (locs : List Loc) (ls : Array Slot), Pg g (xW ad g o0 o1) H → va_D A (xW ad g o0 o1) → va_S A s.heap H locs → lv_has ls 6 [(0, .ref (ad 55)), (2, .int o2), (3, .int o3)] → W p l e (k2_rm 3 65) s m args below meth c H locs 0 0 Q (F0 m 105 ls [])) → W p l e (k2_rm 3 65) s m args below meth c H locs 0 0 Q (F0 m 50 ls []) := by
    intro n
    induction n with
    | zero =>
      intro I J w2_50 w3_50 o0 o1 o2 o3 H locs ls h
      exact no h
    | succ n ih =>
      intro I J w2_50 w3_50 o0 o1 o2 o3 H locs ls h hP hD hS hl hexit
      rw [FS_X0_sumUp_50] at h
      refine lv_iload_n hx hb dX0_sumUp_50 rfl (lv_at hl 2 rfl) ?_
      refine lv_iconst (v := 3) hx hb dX0_sumUp_51 (by decide) ?_
      refine lv_icmp_gt (tgt := 105) hx hb dX0_sumUp_52 (by decide) (fun c3 => ?_) (fun c3 => ?_)
      · replace h := (if_pos c3).symm.trans h
        cases h
        exact hexit _ _ _ hP hD hS (lv_sub hl [0, 1, 2] rfl)
      · replace h := (if_neg c3).symm.trans h
        refine lv_aload_n hx hb dX0_sumUp_55 rfl (lv_at hl 0 rfl) ?_
        refine lv_iload_n hx hb dX0_sumUp_56 rfl (lv_at hl 1 rfl) ?_
        refine lv_iload_n hx hb dX0_sumUp_57 rfl (lv_at hl 2 rfl) ?_
        obtain ⟨r4, hc4, h⟩ := ob h
        refine callRV (As := [.int w2_50, .int w3_50]) (rest := []) hC (c_X0_sumWithout l g ad I J w2_50 w3_50  hc4) lk_X0_45 rfl rfl ⟨Nat.le_of_ble_eq_true rfl, Nat.le_of_ble_eq_true rfl⟩ hP hK xo_55 rfl rfl rfl hl (Nat.le_of_ble_eq_true rfl) dX0_sumUp_58 ?_
        refine lv_aload_n hx hb dX0_sumUp_61 rfl (lv_at hl 0 rfl) ?_
        refine lv_iload_n hx hb dX0_sumUp_62 rfl (lv_at hl 1 rfl) ?_
        refine lv_iload_n hx hb dX0_sumUp_63 rfl (lv_at hl 2 rfl) ?_
        obtain ⟨r5, hc5, h⟩ := ob h
        refine callRV (As := [.int w2_50, .int w3_50]) (rest := [.long r4]) hC (c_X0_sumWith l g ad I J w2_50 w3_50  hc5) lk_X0_49 rfl rfl ⟨Nat.le_of_ble_eq_true rfl, Nat.le_of_ble_eq_true rfl⟩ hP hK xo_55 rfl rfl rfl hl (Nat.le_of_ble_eq_true rfl) dX0_sumUp_64 ?_
        refine va_mmax_long hx hb (hC.2.2.1.trans hl.1.symm) hown (hts _ ml_X0_52) (hts _ sm_maxL) (hts _ ini_math) (hts _ cd_maxL) (Nat.le_of_ble_eq_true rfl) (Nat.le_of_ble_eq_true rfl) (Nat.zero_le _) (Nat.zero_le _) dX0_sumUp_67 ?_
        refine lv_lstore (lv' := [(4, .long (if r5 < r4 then r4 else r5)), (0, .ref (ad 55)), (2, .int w2_50), (3, .int w3_50)]) hx hb dX0_sumUp_70 hl (by decide) rfl (fun ls hl => ?_)
        refine lv_aload_n hx hb dX0_sumUp_72 rfl (lv_at hl 1 rfl) ?_
        refine gt_X0_13 hC hK hP dX0_sumUp_73 ?_
        refine lv_iload_n hx hb dX0_sumUp_76 rfl (lv_at hl 2 rfl) ?_
        refine lv_iconst (v := 4) hx hb dX0_sumUp_77 (by decide) ?_
        refine lv_imul hx hb dX0_sumUp_78 ?_
        refine lv_iload_n hx hb dX0_sumUp_79 rfl (lv_at hl 3 rfl) ?_
        refine lv_iadd hx hb dX0_sumUp_80 ?_
        refine lv_aload_n hx hb dX0_sumUp_81 rfl (lv_at hl 1 rfl) ?_
        refine gt_X0_9 hC hK hP dX0_sumUp_82 ?_
        refine lv_iload_n hx hb dX0_sumUp_85 rfl (lv_at hl 2 rfl) ?_
        refine lv_iconst (v := 4) hx hb dX0_sumUp_86 (by decide) ?_
        refine lv_imul hx hb dX0_sumUp_87 ?_
        refine lv_iload_n hx hb dX0_sumUp_88 rfl (lv_at hl 3 rfl) ?_
        refine lv_iadd hx hb dX0_sumUp_89 ?_
        obtain ⟨r6, hc6, h⟩ := ob h
        refine callRS (As := [.ref (ad 56), .int ((w2_50 * (4 : Int32)) + w3_50)]) (rest := [.int ((w2_50 * (4 : Int32)) + w3_50), .ref (ad 57)]) hC (c_X2_at_ l g (xW ad g I J) 56 40 (J 56) (ad 56) xo_56 ((w2_50 * (4 : Int32)) + w3_50) hc6) lk_X0_58 rfl rfl ⟨Nat.le_of_ble_eq_true rfl, Nat.le_of_ble_eq_true rfl⟩ hP hK rfl rfl hl (Nat.le_of_ble_eq_true rfl) dX0_sumUp_90 ?_
        refine lv_lload hx hb dX0_sumUp_93 (lv_at hl 0 rfl) ?_
        refine lv_ladd hx hb dX0_sumUp_95 ?_
        obtain ⟨f_7, hc7, h⟩ := ob h
        refine callWSv (As := [.ref (ad 57), .int ((w2_50 * (4 : Int32)) + w3_50), .long (r6 + (if r5 < r4 then r4 else r5))]) (rest := []) hC (c_X2_put_ l g (xW ad g I J) (fun f => xW ad g I (u1 J 57 f)) 57 44 (J 57) (ad 57) xc_57.1 xc_57.2.1 xc_57.2.2 ((w2_50 * (4 : Int32)) + w3_50) (r6 + (if r5 < r4 then r4 else r5)) H.size hc7) lk_X0_37 rfl rfl ⟨Nat.le_of_ble_eq_true rfl, Nat.le_of_ble_eq_true rfl⟩ hP hK hD hA hS rfl rfl hl (Nat.le_of_ble_eq_true rfl) dX0_sumUp_96 (fun H locs hP hD hS => ?_)
        refine lv_iinc (v := (w3_50 + 1)) (lv' := [(3, .int (w3_50 + 1)), (4, .long (if r5 < r4 then r4 else r5)), (0, .ref (ad 55)), (2, .int w2_50)]) hx hb dX0_sumUp_99 hl (k := 3) rfl rfl (by decide) rfl (fun ls hl => ?_)
        refine lv_goto (tgt := 50) hx hb dX0_sumUp_102 (by decide) ?_
        exact ih I (u1 J 57 f_7) w2_50 (w3_50 + 1) _ _ _ _ _ _ _ h hP hD hS (lv_sub hl [2, 3, 0] rfl) hexit
  have loop_44 : ∀ (n : Nat) (I : SI) (J : SJ) (w2_44 : Int32)  (H : Heap) (locs : List Loc) (ls : Array Slot), FL_X0_sumUp_44 n I J w2_44 = some (rI, rJ) → Pg g (xW ad g I J) H → va_D A (xW ad g I J) → va_S A s.heap H locs → lv_has ls 6 [(0, .ref (ad 55)), (2, .int w2_44)] → W p l e (k2_rm 3 65) s m args below meth c H locs 0 0 Q (F0 m 44 ls []) := by
    intro n
    induction n with
    | zero =>
      intro I J w2_44 H locs ls h
      exact no h
    | succ n ih =>
      intro I J w2_44 H locs ls h hP hD hS hl
      rw [FL_X0_sumUp_44] at h
      refine lv_iload_n hx hb dX0_sumUp_44 rfl (lv_at hl 1 rfl) ?_
      refine lv_if_lt (tgt := 111) hx hb dX0_sumUp_45 (by decide) (fun c2 => ?_) (fun c2 => ?_)
      · replace h := (if_pos c2).symm.trans h
        obtain ⟨rfl, rfl⟩ := Prod.mk.inj (Option.some.inj h)
        exact hret _ _ _ _ dX0_sumUp_111 hP hD hS
      · replace h := (if_neg c2).symm.trans h
        refine lv_iconst (v := 0) hx hb dX0_sumUp_48 (by decide) ?_
        refine lv_istore_n (lv' := [(3, .int (0 : Int32)), (0, .ref (ad 55)), (2, .int w2_44)]) hx hb dX0_sumUp_49 rfl hl (by decide) rfl (fun ls hl => ?_)
        obtain ⟨⟨I8, J8, u2_8, u3_8⟩, hc8, h⟩ := ob h
        dsimp only at h
        refine loop_50 3000 I J w2_44 (0 : Int32) I8 J8 u2_8 u3_8 _ _ _ hc8 hP hD hS (lv_sub hl [1, 2, 0] rfl) (fun H locs ls hP hD hS hl => ?_)
        refine lv_iinc (v := (u2_8 + (-1))) (lv' := [(2, .int (u2_8 + (-1))), (0, .ref (ad 55)), (3, .int u3_8)]) hx hb dX0_sumUp_105 hl (k := 1) rfl rfl (by decide) rfl (fun ls hl => ?_)
        refine lv_goto (tgt := 44) hx hb dX0_sumUp_108 (by decide) ?_
        exact ih I8 J8 (u2_8 + (-1)) _ _ _ h hP hD hS (lv_sub hl [1, 0] rfl)
  have loop_2 : ∀ (n : Nat) (I : SI) (J : SJ) (w1_2 : Int32) (w2_2 : Int32)  (H : Heap) (locs : List Loc) (ls : Array Slot), FL_X0_sumUp_2 n I J w1_2 w2_2 = some (rI, rJ) → Pg g (xW ad g I J) H → va_D A (xW ad g I J) → va_S A s.heap H locs → lv_has ls 6 [(0, .ref (ad 55)), (1, .int w1_2), (2, .int w2_2)] → W p l e (k2_rm 3 65) s m args below meth c H locs 0 0 Q (F0 m 2 ls []) := by
    intro n
    induction n with
    | zero =>
      intro I J w1_2 w2_2 H locs ls h
      exact no h
    | succ n ih =>
      intro I J w1_2 w2_2 H locs ls h hP hD hS hl
      rw [FL_X0_sumUp_2] at h
      refine lv_iload_n hx hb dX0_sumUp_2 rfl (lv_at hl 2 rfl) ?_
      refine lv_iconst (v := 3) hx hb dX0_sumUp_3 (by decide) ?_
      refine lv_icmp_gt (tgt := 37) hx hb dX0_sumUp_4 (by decide) (fun c1 => ?_) (fun c1 => ?_)
      · replace h := (if_pos c1).symm.trans h
        refine lv_aload_n hx hb dX0_sumUp_37 rfl (lv_at hl 0 rfl) ?_
        refine gt_X0_16 hC hK hP dX0_sumUp_38 ?_
        refine lv_iconst (v := 1) hx hb dX0_sumUp_41 (by decide) ?_
        refine lv_isub hx hb dX0_sumUp_42 ?_
        refine lv_istore_n (lv' := [(2, .int ((I 55 2) - (1 : Int32))), (0, .ref (ad 55)), (1, .int w1_2)]) hx hb dX0_sumUp_43 rfl hl (by decide) rfl (fun ls hl => ?_)
        exact loop_44 3000 I J ((I 55 2) - (1 : Int32)) _ _ _ h hP hD hS (lv_sub hl [1, 0] rfl)
      · replace h := (if_neg c1).symm.trans h
        refine lv_aload_n hx hb dX0_sumUp_7 rfl (lv_at hl 0 rfl) ?_
        refine gt_X0_13 hC hK hP dX0_sumUp_8 ?_
        refine lv_aload_n hx hb dX0_sumUp_11 rfl (lv_at hl 0 rfl) ?_
        refine gt_X0_16 hC hK hP dX0_sumUp_12 ?_
        refine lv_iconst (v := 4) hx hb dX0_sumUp_15 (by decide) ?_
        refine lv_imul hx hb dX0_sumUp_16 ?_
        refine lv_iload_n hx hb dX0_sumUp_17 rfl (lv_at hl 2 rfl) ?_
        refine lv_iadd hx hb dX0_sumUp_18 ?_
        refine lv_ldc2 hx hb hown (hts _ kc_X0_43) dX0_sumUp_19 ?_
        refine lv_iload_n hx hb dX0_sumUp_22 rfl (lv_at hl 1 rfl) ?_
        refine lv_i2l hx hb dX0_sumUp_23 rfl ?_
        refine lv_lmul hx hb dX0_sumUp_24 ?_
        refine lv_iload_n hx hb dX0_sumUp_25 rfl (lv_at hl 2 rfl) ?_
        refine lv_i2l hx hb dX0_sumUp_26 rfl ?_
        refine lv_lmul hx hb dX0_sumUp_27 ?_
        obtain ⟨f_9, hc9, h⟩ := ob h
        refine callWSv (As := [.ref (ad 57), .int (((I 55 2) * (4 : Int32)) + w2_2), .long (((1000 : Int64) * (Int32.toInt64 w1_2)) * (Int32.toInt64 w2_2))]) (rest := []) hC (c_X2_put_ l g (xW ad g I J) (fun f => xW ad g I (u1 J 57 f)) 57 44 (J 57) (ad 57) xc_57.1 xc_57.2.1 xc_57.2.2 (((I 55 2) * (4 : Int32)) + w2_2) (((1000 : Int64) * (Int32.toInt64 w1_2)) * (Int32.toInt64 w2_2)) H.size hc9) lk_X0_37 rfl rfl ⟨Nat.le_of_ble_eq_true rfl, Nat.le_of_ble_eq_true rfl⟩ hP hK hD hA hS rfl rfl hl (Nat.le_of_ble_eq_true rfl) dX0_sumUp_28 (fun H locs hP hD hS => ?_)
        refine lv_iinc (v := (w2_2 + 1)) (lv' := [(2, .int (w2_2 + 1)), (0, .ref (ad 55)), (1, .int w1_2)]) hx hb dX0_sumUp_31 hl (k := 2) rfl rfl (by decide) rfl (fun ls hl => ?_)
        refine lv_goto (tgt := 2) hx hb dX0_sumUp_34 (by decide) ?_
        exact ih I (u1 J 57 f_9) w1_2 (w2_2 + 1) _ _ _ h hP hD hS (lv_sub hl [1, 2, 0] rfl)
  unfold F_X0_sumUp at h
  refine lv_iconst (v := 0) hx hb dX0_sumUp_0 (by decide) ?_
  refine lv_istore_n (lv' := [(2, .int (0 : Int32)), (0, .ref (ad 55)), (1, .int v1)]) hx hb dX0_sumUp_1 rfl hl (by decide) rfl (fun ls hl => ?_)
  exact loop_2 3000 I J v1 (0 : Int32) _ _ _ h hP hD hS (lv_sub hl [1, 2, 0] rfl)
def FL_X0_yearsWithDung_8  : Nat → SI → SJ → Int64 → Int32 → Int32 → Option (Int64)
  | 0, _, _, _, _, _ => none
  | n + 1, I, J, w2_8, w4_8, w5_8 => (if (I 55 2) ≤ w5_8 then (some w2_8) else ((F_X0_sumWith I J w5_8 w4_8).bind fun r2 => ((F_X0_sumWithout I J w5_8 w4_8).bind fun r3 => (if r2 ≤ r3 then (FL_X0_yearsWithDung_8 n I J w2_8 (if (w4_8 - (1 : Int32)) < (0 : Int32) then (0 : Int32) else (w4_8 - (1 : Int32))) (w5_8 + 1)) else (FL_X0_yearsWithDung_8 n I J (w2_8 ||| ((1 : Int64) <<< (Int32.toInt64 w5_8 &&& 63))) (if (3 : Int32) < (w4_8 + (1 : Int32)) then (3 : Int32) else (w4_8 + (1 : Int32))) (w5_8 + 1))))))
def F_X0_yearsWithDung (I : SI) (J : SJ) (v1 : Int32) : Option (Int64) := (FL_X0_yearsWithDung_8 3000 I J (0 : Int64) v1 (0 : Int32))
set_option maxHeartbeats 4000000 in
set_option maxRecDepth 100000 in
theorem c_X0_yearsWithDung (l : Launch) (g : Gx) (ad : Nat → Nat) (I : SI) (J : SJ) (v1 : Int32)  {r : Int64} (h : F_X0_yearsWithDung I J v1 = some r) : Met l yX0_yearsWithDung (Cond.code yX0_yearsWithDung cX0_yearsWithDung 6 (some .long) :: BG) (k2_rm 3 65) (va_Pc [.ref (ad 55), .int v1] (fun U => Pg g (xW ad g I J) U.heap ∧ Kg g U)) (k2_QcV (.long r)) 0 0 (fun _ => False) := by
  refine mkRl (by decide) (Nat.le_of_ble_eq_true rfl) ?_
  intro p e s m args below meth c H locs ls Q hC hK hP hl hret
  have hx := hC.1
  have hb := hC.2.1
  have hts := hC.2.2.2.2
  have hown := hC.2.2.2.1
  replace hl : lv_has ls 6 [(0, .ref (ad 55)), (1, .int v1)] := hl
  have loop_8 : ∀ (n : Nat) (w2_8 : Int64) (w4_8 : Int32) (w5_8 : Int32)  (ls : Array Slot), FL_X0_yearsWithDung_8 n I J w2_8 w4_8 w5_8 = some r → lv_has ls 6 [(0, .ref (ad 55)), (2, .long w2_8), (4, .int w4_8), (5, .int w5_8)] → W p l e (k2_rm 3 65) s m args below meth c H locs 0 0 Q (F0 m 8 ls []) := by
    intro n
    induction n with
    | zero =>
      intro w2_8 w4_8 w5_8 ls h
      exact no h
    | succ n ih =>
      intro w2_8 w4_8 w5_8 ls h hl
      rw [FL_X0_yearsWithDung_8] at h
      refine lv_iload hx hb dX0_yearsWithDung_8 (lv_at hl 3 rfl) ?_
      refine lv_aload_n hx hb dX0_yearsWithDung_10 rfl (lv_at hl 0 rfl) ?_
      refine gt_X0_16 hC hK hP dX0_yearsWithDung_11 ?_
      refine lv_icmp_ge (tgt := 73) hx hb dX0_yearsWithDung_14 (by decide) (fun c1 => ?_) (fun c1 => ?_)
      · replace h := (if_pos c1).symm.trans h
        refine lv_lload_n hx hb dX0_yearsWithDung_73 rfl (lv_at hl 1 rfl) ?_
        exact hret _ _ _ dX0_yearsWithDung_74 (Option.some.inj h)
      · replace h := (if_neg c1).symm.trans h
        refine lv_aload_n hx hb dX0_yearsWithDung_17 rfl (lv_at hl 0 rfl) ?_
        refine lv_iload hx hb dX0_yearsWithDung_18 (lv_at hl 3 rfl) ?_
        refine lv_iload hx hb dX0_yearsWithDung_20 (lv_at hl 2 rfl) ?_
        obtain ⟨r2, hc2, h⟩ := ob h
        refine callRV (As := [.int w5_8, .int w4_8]) (rest := []) hC (c_X0_sumWith l g ad I J w5_8 w4_8  hc2) lk_X0_49 rfl rfl ⟨Nat.le_of_ble_eq_true rfl, Nat.le_of_ble_eq_true rfl⟩ hP hK xo_55 rfl rfl rfl hl (Nat.le_of_ble_eq_true rfl) dX0_yearsWithDung_22 ?_
        refine lv_aload_n hx hb dX0_yearsWithDung_25 rfl (lv_at hl 0 rfl) ?_
        refine lv_iload hx hb dX0_yearsWithDung_26 (lv_at hl 3 rfl) ?_
        refine lv_iload hx hb dX0_yearsWithDung_28 (lv_at hl 2 rfl) ?_
        obtain ⟨r3, hc3, h⟩ := ob h
        refine callRV (As := [.int w5_8, .int w4_8]) (rest := [.long r2]) hC (c_X0_sumWithout l g ad I J w5_8 w4_8  hc3) lk_X0_45 rfl rfl ⟨Nat.le_of_ble_eq_true rfl, Nat.le_of_ble_eq_true rfl⟩ hP hK xo_55 rfl rfl rfl hl (Nat.le_of_ble_eq_true rfl) dX0_yearsWithDung_30 ?_
        refine W.lcmp hx hb dX0_yearsWithDung_33 ?_
        refine lv_if_le (tgt := 57) hx hb dX0_yearsWithDung_34 (by decide) (fun c4 => ?_) (fun c4 => ?_)
        · replace h := (if_pos ((lg_cmp_le _ _).mp c4)).symm.trans h
          refine lv_iload hx hb dX0_yearsWithDung_57 (lv_at hl 2 rfl) ?_
          refine lv_iconst (v := 1) hx hb dX0_yearsWithDung_59 (by decide) ?_
          refine lv_isub hx hb dX0_yearsWithDung_60 ?_
          refine lv_iconst (v := 0) hx hb dX0_yearsWithDung_61 (by decide) ?_
          refine va_mmax hx hb (hC.2.2.1.trans hl.1.symm) hown (hts _ ml_X0_62) (hts _ sm_maxI) (hts _ ini_math) (hts _ cd_maxI) (Nat.le_of_ble_eq_true rfl) (Nat.le_of_ble_eq_true rfl) (Nat.zero_le _) (Nat.zero_le _) dX0_yearsWithDung_62 ?_
          refine lv_istore (lv' := [(4, .int (if (w4_8 - (1 : Int32)) < (0 : Int32) then (0 : Int32) else (w4_8 - (1 : Int32)))), (0, .ref (ad 55)), (2, .long w2_8), (5, .int w5_8)]) hx hb dX0_yearsWithDung_65 hl (by decide) rfl (fun ls hl => ?_)
          refine lv_iinc (v := (w5_8 + 1)) (lv' := [(5, .int (w5_8 + 1)), (4, .int (if (w4_8 - (1 : Int32)) < (0 : Int32) then (0 : Int32) else (w4_8 - (1 : Int32)))), (0, .ref (ad 55)), (2, .long w2_8)]) hx hb dX0_yearsWithDung_67 hl (k := 3) rfl rfl (by decide) rfl (fun ls hl => ?_)
          refine lv_goto (tgt := 8) hx hb dX0_yearsWithDung_70 (by decide) ?_
          exact ih w2_8 (if (w4_8 - (1 : Int32)) < (0 : Int32) then (0 : Int32) else (w4_8 - (1 : Int32))) (w5_8 + 1) _ h (lv_sub hl [2, 3, 1, 0] rfl)
        · replace h := (if_neg (fun hh => c4 ((lg_cmp_le _ _).mpr hh))).symm.trans h
          refine lv_lload_n hx hb dX0_yearsWithDung_37 rfl (lv_at hl 1 rfl) ?_
          refine lv_lconst (v := 1) hx hb dX0_yearsWithDung_38 (by decide) ?_
          refine lv_iload hx hb dX0_yearsWithDung_39 (lv_at hl 3 rfl) ?_
          refine lv_lshl hx hb dX0_yearsWithDung_41 rfl ?_
          refine lv_lor hx hb dX0_yearsWithDung_42 ?_
          refine lv_lstore_n (lv' := [(2, .long (w2_8 ||| ((1 : Int64) <<< (Int32.toInt64 w5_8 &&& 63)))), (0, .ref (ad 55)), (4, .int w4_8), (5, .int w5_8)]) hx hb dX0_yearsWithDung_43 rfl hl (by decide) rfl (fun ls hl => ?_)
          refine lv_iload hx hb dX0_yearsWithDung_44 (lv_at hl 2 rfl) ?_
          refine lv_iconst (v := 1) hx hb dX0_yearsWithDung_46 (by decide) ?_
          refine lv_iadd hx hb dX0_yearsWithDung_47 ?_
          refine lv_iconst (v := 3) hx hb dX0_yearsWithDung_48 (by decide) ?_
          refine va_mmin hx hb (hC.2.2.1.trans hl.1.symm) hown (hts _ ml_X0_68) (hts _ sm_minI) (hts _ ini_math) (hts _ cd_minI) (Nat.le_of_ble_eq_true rfl) (Nat.le_of_ble_eq_true rfl) (Nat.zero_le _) (Nat.zero_le _) dX0_yearsWithDung_49 ?_
          refine lv_istore (lv' := [(4, .int (if (3 : Int32) < (w4_8 + (1 : Int32)) then (3 : Int32) else (w4_8 + (1 : Int32)))), (2, .long (w2_8 ||| ((1 : Int64) <<< (Int32.toInt64 w5_8 &&& 63)))), (0, .ref (ad 55)), (5, .int w5_8)]) hx hb dX0_yearsWithDung_52 hl (by decide) rfl (fun ls hl => ?_)
          refine lv_goto (tgt := 67) hx hb dX0_yearsWithDung_54 (by decide) ?_
          refine lv_iinc (v := (w5_8 + 1)) (lv' := [(5, .int (w5_8 + 1)), (4, .int (if (3 : Int32) < (w4_8 + (1 : Int32)) then (3 : Int32) else (w4_8 + (1 : Int32)))), (2, .long (w2_8 ||| ((1 : Int64) <<< (Int32.toInt64 w5_8 &&& 63)))), (0, .ref (ad 55))]) hx hb dX0_yearsWithDung_67 hl (k := 3) rfl rfl (by decide) rfl (fun ls hl => ?_)
          refine lv_goto (tgt := 8) hx hb dX0_yearsWithDung_70 (by decide) ?_
          exact ih (w2_8 ||| ((1 : Int64) <<< (Int32.toInt64 w5_8 &&& 63))) (if (3 : Int32) < (w4_8 + (1 : Int32)) then (3 : Int32) else (w4_8 + (1 : Int32))) (w5_8 + 1) _ h (lv_sub hl [3, 2, 1, 0] rfl)
  unfold F_X0_yearsWithDung at h
  refine lv_lconst (v := 0) hx hb dX0_yearsWithDung_0 (by decide) ?_
  refine lv_lstore_n (lv' := [(2, .long (0 : Int64)), (0, .ref (ad 55)), (1, .int v1)]) hx hb dX0_yearsWithDung_1 rfl hl (by decide) rfl (fun ls hl => ?_)
  refine lv_iload_n hx hb dX0_yearsWithDung_2 rfl (lv_at hl 2 rfl) ?_
  refine lv_istore (lv' := [(4, .int v1), (2, .long (0 : Int64)), (0, .ref (ad 55)), (1, .int v1)]) hx hb dX0_yearsWithDung_3 hl (by decide) rfl (fun ls hl => ?_)
  refine lv_iconst (v := 0) hx hb dX0_yearsWithDung_5 (by decide) ?_
  refine lv_istore (lv' := [(5, .int (0 : Int32)), (4, .int v1), (2, .long (0 : Int64)), (0, .ref (ad 55)), (1, .int v1)]) hx hb dX0_yearsWithDung_6 hl (by decide) rfl (fun ls hl => ?_)
  exact loop_8 3000 (0 : Int64) v1 (0 : Int32) _ h (lv_sub hl [3, 2, 1, 0] rfl)
def FL_X2_copy_11 (n0 : Nat) (f0 : Nat → Int32) (n1 : Nat) : Nat → (Nat → Int32) → Int32 → Option (Nat → Int32)
  | 0, _, _ => none
  | n + 1, fI, w2_11 => (if (Int32.ofNat n0) ≤ w2_11 then (some fI) else (if (Int32.ofNat n1) ≤ w2_11 then (some fI) else (if gin w2_11 n0 = true then (if gin w2_11 n1 = true then (FL_X2_copy_11 n0 f0 n1 n (upd fI (Int32.toNatClampNeg w2_11) (f0 (Int32.toNatClampNeg w2_11))) (w2_11 + 1)) else none) else none)))
def F_X2_copy (n0 : Nat) (f0 : Nat → Int32) (n1 : Nat) (f1 : Nat → Int32) : Option (Nat → Int32) := (FL_X2_copy_11 n0 f0 n1 3000 f1 (0 : Int32))
set_option maxHeartbeats 4000000 in
set_option maxRecDepth 100000 in
theorem c_X2_copy (l : Launch) (g : Gx) (ws : va_W) (wf : (Nat → Int32) → va_W) (g0 n0 : Nat) (f0 : Nat → Int32) (a0 : Nat) (g1 n1 : Nat) (f1 : Nat → Int32) (a1 : Nat) (h0 : ws = wf f1) (hT : ∀ f, (wf f)[g1]? = some (a1, .inl (g.2.1, n1, .inl f))) (hs : ∀ f f', (wf f).set g1 (a1, .inl (g.2.1, n1, .inl f')) = wf f') (hF0 : ∀ f, (wf f)[g0]? = some (a0, .inl (g.2.1, n0, .inl f0)))   (sz : Nat) {r : Nat → Int32} (h : F_X2_copy n0 f0 n1 f1 = some r) : Met l yX2_copy (Cond.code yX2_copy cX2_copy 3 none :: BG) (k2_rm 0 0) (PcW [.ref a0, .ref a1] g ws sz) (QWv g ws (wf r) sz) 0 0 (va_A ws sz) := by
  refine mkWv (by decide) (Nat.le_of_ble_eq_true rfl) ?_
  intro p e s m args below meth c H locs ls A Q hC hK hP hD hA hS hl hret
  rw [h0] at hP hD
  have hx := hC.1
  have hb := hC.2.1
  have hts := hC.2.2.2.2
  have hown := hC.2.2.2.1
  replace hl : lv_has ls 3 [(0, .ref a0), (1, .ref a1)] := hl
  have loop_11 : ∀ (n : Nat) (fI : Nat → Int32) (w2_11 : Int32)  (H : Heap) (locs : List Loc) (ls : Array Slot), FL_X2_copy_11 n0 f0 n1 n fI w2_11 = some r → Pg g (wf fI) H → va_D A (wf fI) → va_S A s.heap H locs → lv_has ls 3 [(0, .ref a0), (1, .ref a1), (2, .int w2_11)] → W p l e (k2_rm 0 0) s m args below meth c H locs 0 0 Q (F0 m 11 ls []) := by
    intro n
    induction n with
    | zero =>
      intro fI w2_11 H locs ls h
      exact no h
    | succ n ih =>
      intro fI w2_11 H locs ls h hP hD hS hl
      rw [FL_X2_copy_11] at h
      refine lv_iload_n hx hb dX2_copy_11 rfl (lv_at hl 2 rfl) ?_
      refine lv_aload_n hx hb dX2_copy_12 rfl (lv_at hl 0 rfl) ?_
      refine va_alen hx hb hK hP g0 0 (hF0 _) rfl rfl dX2_copy_13 ?_
      refine lv_icmp_ge (tgt := 35) hx hb dX2_copy_14 (by decide) (fun c1 => ?_) (fun c1 => ?_)
      · replace h := (if_pos c1).symm.trans h
        obtain rfl := Option.some.inj h
        exact hret _ _ _ _ dX2_copy_35 hP hD hS
      · replace h := (if_neg c1).symm.trans h
        refine lv_iload_n hx hb dX2_copy_17 rfl (lv_at hl 2 rfl) ?_
        refine lv_aload_n hx hb dX2_copy_18 rfl (lv_at hl 1 rfl) ?_
        refine va_alen hx hb hK hP g1 0 (hT _) rfl rfl dX2_copy_19 ?_
        refine lv_icmp_ge (tgt := 35) hx hb dX2_copy_20 (by decide) (fun c2 => ?_) (fun c2 => ?_)
        · replace h := (if_pos c2).symm.trans h
          obtain rfl := Option.some.inj h
          exact hret _ _ _ _ dX2_copy_35 hP hD hS
        · replace h := (if_neg c2).symm.trans h
          refine lv_aload_n hx hb dX2_copy_23 rfl (lv_at hl 1 rfl) ?_
          refine lv_iload_n hx hb dX2_copy_24 rfl (lv_at hl 2 rfl) ?_
          refine lv_aload_n hx hb dX2_copy_25 rfl (lv_at hl 0 rfl) ?_
          refine lv_iload_n hx hb dX2_copy_26 rfl (lv_at hl 2 rfl) ?_
          obtain ⟨b3, h⟩ := og h
          refine va_iald hx hb hK hP g0 0 (hF0 _) rfl (gin_ok b3) dX2_copy_27 ?_
          obtain ⟨b4, h⟩ := og h
          refine va_iast hx hb hK hP hD hS g1 0 (hT _) rfl (gin_ok b4) dX2_copy_28 (fun H locs hP hD hS => ?_)
          rw [hs] at hP hD
          refine lv_iinc (v := (w2_11 + 1)) (lv' := [(2, .int (w2_11 + 1)), (0, .ref a0), (1, .ref a1)]) hx hb dX2_copy_29 hl (k := 2) rfl rfl (by decide) rfl (fun ls hl => ?_)
          refine lv_goto (tgt := 11) hx hb dX2_copy_32 (by decide) ?_
          exact ih (upd fI (Int32.toNatClampNeg w2_11) (f0 (Int32.toNatClampNeg w2_11))) (w2_11 + 1) _ _ _ h hP hD hS (lv_sub hl [1, 2, 0] rfl)
  unfold F_X2_copy at h
  refine lv_aload_n hx hb dX2_copy_0 rfl (lv_at hl 0 rfl) ?_
  refine lv_ifnull hx hb dX2_copy_1 ?_
  refine lv_aload_n hx hb dX2_copy_4 rfl (lv_at hl 1 rfl) ?_
  refine lv_ifnonnull (tgt := 9) hx hb dX2_copy_5 (by decide) ?_
  refine lv_iconst (v := 0) hx hb dX2_copy_9 (by decide) ?_
  refine lv_istore_n (lv' := [(2, .int (0 : Int32)), (0, .ref a0), (1, .ref a1)]) hx hb dX2_copy_10 rfl hl (by decide) rfl (fun ls hl => ?_)
  exact loop_11 3000 f1 (0 : Int32) _ _ _ h hP hD hS (lv_sub hl [1, 2, 0] rfl)
def F_X5_become (t : Nat) (I : SI) (J : SJ) (v1 : Int32) (v2 : Int32) (v3 : Int32) (v4 : Int32) : Option (SI × SJ) := (some ((u2 (u2 (u2 (u2 I t 0 v1) t 1 v2) t 2 v3) t 3 v4), J))
set_option maxHeartbeats 4000000 in
set_option maxRecDepth 100000 in
theorem c_X5_become (l : Launch) (g : Gx) (ad : Nat → Nat) (I : SI) (J : SJ) (t : Nat) (v1 : Int32) (v2 : Int32) (v3 : Int32) (v4 : Int32) (hT : isT t) (sz : Nat) {rI : SI} {rJ : SJ} (h : F_X5_become t I J v1 v2 v3 v4 = some (rI, rJ)) : Met l yX5_become (Cond.code yX5_become cX5_become 5 none :: BG) (k2_rm 0 0) (PcW [.ref (ad t), .int v1, .int v2, .int v3, .int v4] g (xW ad g I J) sz) (QWv g (xW ad g I J) (xW ad g rI rJ) sz) 0 0 (va_A (xW ad g I J) sz) := by
  refine mkWv (by decide) (Nat.le_of_ble_eq_true rfl) ?_
  intro p e s m args below meth c H locs ls A Q hC hK hP hD hA hS hl hret
  have hx := hC.1
  have hb := hC.2.1
  have hts := hC.2.2.2.2
  have hown := hC.2.2.2.1
  replace hl : lv_has ls 5 [(0, .ref (ad t)), (1, .int v1), (2, .int v2), (3, .int v3), (4, .int v4)] := hl
  unfold F_X5_become at h
  refine lv_aload_n hx hb dX5_become_0 rfl (lv_at hl 0 rfl) ?_
  refine lv_iload_n hx hb dX5_become_1 rfl (lv_at hl 1 rfl) ?_
  refine pt_X5_7 hT hC hK hP hD hS dX5_become_2 (fun H locs hP hD hS => ?_)
  refine lv_aload_n hx hb dX5_become_5 rfl (lv_at hl 0 rfl) ?_
  refine lv_iload_n hx hb dX5_become_6 rfl (lv_at hl 2 rfl) ?_
  refine pt_X5_13 hT hC hK hP hD hS dX5_become_7 (fun H locs hP hD hS => ?_)
  refine lv_aload_n hx hb dX5_become_10 rfl (lv_at hl 0 rfl) ?_
  refine lv_iload_n hx hb dX5_become_11 rfl (lv_at hl 3 rfl) ?_
  refine pt_X5_16 hT hC hK hP hD hS dX5_become_12 (fun H locs hP hD hS => ?_)
  refine lv_aload_n hx hb dX5_become_15 rfl (lv_at hl 0 rfl) ?_
  refine lv_iload hx hb dX5_become_16 (lv_at hl 4 rfl) ?_
  refine pt_X5_19 hT hC hK hP hD hS dX5_become_18 (fun H locs hP hD hS => ?_)
  obtain ⟨rfl, rfl⟩ := Prod.mk.inj (Option.some.inj h)
  exact hret _ _ _ _ dX5_become_21 hP hD hS
def F_X5_copyFrom (t : Nat) (t1 : Nat) (I : SI) (J : SJ) : Option (SI × SJ) := ((F_X5_become t I J (I t1 0) (I t1 1) (I t1 2) (I t1 3)).bind fun (I1, J1) => (some (I1, J1)))
set_option maxHeartbeats 4000000 in
set_option maxRecDepth 100000 in
theorem c_X5_copyFrom (l : Launch) (g : Gx) (ad : Nat → Nat) (I : SI) (J : SJ) (t : Nat) (t1 : Nat) (hT : isT t) (hT1 : isT t1) (sz : Nat) {rI : SI} {rJ : SJ} (h : F_X5_copyFrom t t1 I J = some (rI, rJ)) : Met l yX5_copyFrom (Cond.code yX5_copyFrom cX5_copyFrom 2 none :: BG) (k2_rm 1 24) (PcW [.ref (ad t), .ref (ad t1)] g (xW ad g I J) sz) (QWv g (xW ad g I J) (xW ad g rI rJ) sz) 0 0 (va_A (xW ad g I J) sz) := by
  refine mkWv (by decide) (Nat.le_of_ble_eq_true rfl) ?_
  intro p e s m args below meth c H locs ls A Q hC hK hP hD hA hS hl hret
  have hx := hC.1
  have hb := hC.2.1
  have hts := hC.2.2.2.2
  have hown := hC.2.2.2.1
  replace hl : lv_has ls 2 [(0, .ref (ad t)), (1, .ref (ad t1))] := hl
  unfold F_X5_copyFrom at h
  refine lv_aload_n hx hb dX5_copyFrom_0 rfl (lv_at hl 1 rfl) ?_
  refine lv_ifnull hx hb dX5_copyFrom_1 ?_
  refine lv_aload_n hx hb dX5_copyFrom_4 rfl (lv_at hl 0 rfl) ?_
  refine lv_aload_n hx hb dX5_copyFrom_5 rfl (lv_at hl 1 rfl) ?_
  refine gt_X5_7 hT1 hC hK hP dX5_copyFrom_6 ?_
  refine lv_aload_n hx hb dX5_copyFrom_9 rfl (lv_at hl 1 rfl) ?_
  refine gt_X5_13 hT1 hC hK hP dX5_copyFrom_10 ?_
  refine lv_aload_n hx hb dX5_copyFrom_13 rfl (lv_at hl 1 rfl) ?_
  refine gt_X5_16 hT1 hC hK hP dX5_copyFrom_14 ?_
  refine lv_aload_n hx hb dX5_copyFrom_17 rfl (lv_at hl 1 rfl) ?_
  refine gt_X5_19 hT1 hC hK hP dX5_copyFrom_18 ?_
  obtain ⟨⟨I1, J1⟩, hc1, h⟩ := ob h
  dsimp only at h
  refine callWVv (As := [.int (I t1 0), .int (I t1 1), .int (I t1 2), .int (I t1 3)]) (rest := []) hC (c_X5_become l g ad I J t (I t1 0) (I t1 1) (I t1 2) (I t1 3) hT H.size hc1) lk_X5_22 rfl rfl ⟨Nat.le_of_ble_eq_true rfl, Nat.le_of_ble_eq_true rfl⟩ hP hK hD hA hS (xTo hT) rfl rfl rfl hl (Nat.le_of_ble_eq_true rfl) dX5_copyFrom_21 (fun H locs hP hD hS => ?_)
  obtain ⟨rfl, rfl⟩ := Prod.mk.inj (Option.some.inj h)
  exact hret _ _ _ _ dX5_copyFrom_24 hP hD hS
def FL_X1_copyFrom_62  : Nat → SI → SJ → Nat → Nat → Int32 → Option (SI × SJ)
  | 0, _, _, _, _, _ => none
  | n + 1, I, J, w0_62, w1_62, w2_62 => (if (8 : Int32) ≤ w2_62 then (some ((u2 (u2 (u2 I w0_62 6 (I w1_62 6)) w0_62 7 ((u2 I w0_62 6 (I w1_62 6)) w1_62 7)) w0_62 8 ((u2 (u2 I w0_62 6 (I w1_62 6)) w0_62 7 ((u2 I w0_62 6 (I w1_62 6)) w1_62 7)) w1_62 8)), J)) else (if (8 : Int32) ≤ w2_62 then (some ((u2 (u2 (u2 I w0_62 6 (I w1_62 6)) w0_62 7 ((u2 I w0_62 6 (I w1_62 6)) w1_62 7)) w0_62 8 ((u2 (u2 I w0_62 6 (I w1_62 6)) w0_62 7 ((u2 I w0_62 6 (I w1_62 6)) w1_62 7)) w1_62 8)), J)) else (if gin w2_62 8 = true then (if gin w2_62 8 = true then (if gin w2_62 8 = true then ((F_X5_copyFrom (w0_62 + 7 + Int32.toNatClampNeg w2_62) (w1_62 + 7 + Int32.toNatClampNeg w2_62) I J).bind fun (I11, J11) => (FL_X1_copyFrom_62 n I11 J11 w0_62 w1_62 (w2_62 + 1))) else none) else none) else none)))
def F_X1_copyFrom (q : Nat) (q1 : Nat) (I : SI) (J : SJ) : Option (SI × SJ) := ((F_X2_copy 8 (I (q1 + 1)) 8 (I (q + 1))).bind fun f_1 => ((F_X2_copy 8 ((u1 I (q + 1) f_1) (q1 + 2)) 8 ((u1 I (q + 1) f_1) (q + 2))).bind fun f_2 => ((F_X2_copy 8 ((u1 (u1 I (q + 1) f_1) (q + 2) f_2) (q1 + 3)) 8 ((u1 (u1 I (q + 1) f_1) (q + 2) f_2) (q + 3))).bind fun f_3 => ((F_X2_copy 6 ((u1 (u1 (u1 I (q + 1) f_1) (q + 2) f_2) (q + 3) f_3) (q1 + 4)) 6 ((u1 (u1 (u1 I (q + 1) f_1) (q + 2) f_2) (q + 3) f_3) (q + 4))).bind fun f_4 => ((F_X2_copy 6 ((u1 (u1 (u1 (u1 I (q + 1) f_1) (q + 2) f_2) (q + 3) f_3) (q + 4) f_4) (q1 + 5)) 6 ((u1 (u1 (u1 (u1 I (q + 1) f_1) (q + 2) f_2) (q + 3) f_3) (q + 4) f_4) (q + 5))).bind fun f_5 => (FL_X1_copyFrom_62 3000 (u1 (u1 (u1 (u1 (u1 I (q + 1) f_1) (q + 2) f_2) (q + 3) f_3) (q + 4) f_4) (q + 5) f_5) J q q1 (0 : Int32)))))))
set_option maxHeartbeats 4000000 in
set_option maxRecDepth 100000 in
theorem c_X1_copyFrom (l : Launch) (g : Gx) (ad : Nat → Nat) (I : SI) (J : SJ) (q : Nat) (q1 : Nat) (hE : isE q) (hE1 : isE q1) (hqq : q1 ≠ q) (sz : Nat) {rI : SI} {rJ : SJ} (h : F_X1_copyFrom q q1 I J = some (rI, rJ)) : Met l yX1_copyFrom (Cond.code yX1_copyFrom cX1_copyFrom 3 none :: BG) (k2_rm 2 45) (PcW [.ref (ad q), .ref (ad q1)] g (xW ad g I J) sz) (QWv g (xW ad g I J) (xW ad g rI rJ) sz) 0 0 (va_A (xW ad g I J) sz) := by
  refine mkWv (by decide) (Nat.le_of_ble_eq_true rfl) ?_
  intro p e s m args below meth c H locs ls A Q hC hK hP hD hA hS hl hret
  have hx := hC.1
  have hb := hC.2.1
  have hts := hC.2.2.2.2
  have hown := hC.2.2.2.1
  replace hl : lv_has ls 3 [(0, .ref (ad q)), (1, .ref (ad q1))] := hl
  have loop_62 : ∀ (n : Nat) (I : SI) (J : SJ) (w0_62 : Nat) (w1_62 : Nat) (w2_62 : Int32)  (H : Heap) (locs : List Loc) (ls : Array Slot), isE w0_62 → isE w1_62 → FL_X1_copyFrom_62 n I J w0_62 w1_62 w2_62 = some (rI, rJ) → Pg g (xW ad g I J) H → va_D A (xW ad g I J) → va_S A s.heap H locs → lv_has ls 3 [(0, .ref (ad w0_62)), (1, .ref (ad w1_62)), (2, .int w2_62)] → W p l e (k2_rm 2 45) s m args below meth c H locs 0 0 Q (F0 m 62 ls []) := by
    intro n
    induction n with
    | zero =>
      intro I J w0_62 w1_62 w2_62 H locs ls hw0_62 hw1_62 h
      exact no h
    | succ n ih =>
      intro I J w0_62 w1_62 w2_62 H locs ls hw0_62 hw1_62 h hP hD hS hl
      rw [FL_X1_copyFrom_62] at h
      refine lv_iload_n hx hb dX1_copyFrom_62 rfl (lv_at hl 2 rfl) ?_
      refine lv_aload_n hx hb dX1_copyFrom_63 rfl (lv_at hl 0 rfl) ?_
      refine gt_X1_29 hw0_62 hC hK hP dX1_copyFrom_64 ?_
      refine ln_xEl hw0_62 hC hK hP dX1_copyFrom_67 ?_
      refine lv_icmp_ge (tgt := 110) hx hb dX1_copyFrom_68 (by decide) (fun c6 => ?_) (fun c6 => ?_)
      · replace h := (if_pos c6).symm.trans h
        refine lv_aload_n hx hb dX1_copyFrom_110 rfl (lv_at hl 0 rfl) ?_
        refine lv_aload_n hx hb dX1_copyFrom_111 rfl (lv_at hl 1 rfl) ?_
        refine gt_X1_44 hw1_62 hC hK hP dX1_copyFrom_112 ?_
        refine pt_X1_44 hw0_62 hC hK hP hD hS dX1_copyFrom_115 (fun H locs hP hD hS => ?_)
        refine lv_aload_n hx hb dX1_copyFrom_118 rfl (lv_at hl 0 rfl) ?_
        refine lv_aload_n hx hb dX1_copyFrom_119 rfl (lv_at hl 1 rfl) ?_
        refine gt_X1_48 hw1_62 hC hK hP dX1_copyFrom_120 ?_
        refine pt_X1_48 hw0_62 hC hK hP hD hS dX1_copyFrom_123 (fun H locs hP hD hS => ?_)
        refine lv_aload_n hx hb dX1_copyFrom_126 rfl (lv_at hl 0 rfl) ?_
        refine lv_aload_n hx hb dX1_copyFrom_127 rfl (lv_at hl 1 rfl) ?_
        refine gt_X1_51 hw1_62 hC hK hP dX1_copyFrom_128 ?_
        refine pt_X1_51 hw0_62 hC hK hP hD hS dX1_copyFrom_131 (fun H locs hP hD hS => ?_)
        obtain ⟨rfl, rfl⟩ := Prod.mk.inj (Option.some.inj h)
        exact hret _ _ _ _ dX1_copyFrom_134 hP hD hS
      · replace h := (if_neg c6).symm.trans h
        refine lv_iload_n hx hb dX1_copyFrom_71 rfl (lv_at hl 2 rfl) ?_
        refine lv_aload_n hx hb dX1_copyFrom_72 rfl (lv_at hl 1 rfl) ?_
        refine gt_X1_29 hw1_62 hC hK hP dX1_copyFrom_73 ?_
        refine ln_xEl hw1_62 hC hK hP dX1_copyFrom_76 ?_
        refine lv_icmp_ge (tgt := 110) hx hb dX1_copyFrom_77 (by decide) (fun c7 => ?_) (fun c7 => ?_)
        · replace h := (if_pos c7).symm.trans h
          refine lv_aload_n hx hb dX1_copyFrom_110 rfl (lv_at hl 0 rfl) ?_
          refine lv_aload_n hx hb dX1_copyFrom_111 rfl (lv_at hl 1 rfl) ?_
          refine gt_X1_44 hw1_62 hC hK hP dX1_copyFrom_112 ?_
          refine pt_X1_44 hw0_62 hC hK hP hD hS dX1_copyFrom_115 (fun H locs hP hD hS => ?_)
          refine lv_aload_n hx hb dX1_copyFrom_118 rfl (lv_at hl 0 rfl) ?_
          refine lv_aload_n hx hb dX1_copyFrom_119 rfl (lv_at hl 1 rfl) ?_
          refine gt_X1_48 hw1_62 hC hK hP dX1_copyFrom_120 ?_
          refine pt_X1_48 hw0_62 hC hK hP hD hS dX1_copyFrom_123 (fun H locs hP hD hS => ?_)
          refine lv_aload_n hx hb dX1_copyFrom_126 rfl (lv_at hl 0 rfl) ?_
          refine lv_aload_n hx hb dX1_copyFrom_127 rfl (lv_at hl 1 rfl) ?_
          refine gt_X1_51 hw1_62 hC hK hP dX1_copyFrom_128 ?_
          refine pt_X1_51 hw0_62 hC hK hP hD hS dX1_copyFrom_131 (fun H locs hP hD hS => ?_)
          obtain ⟨rfl, rfl⟩ := Prod.mk.inj (Option.some.inj h)
          exact hret _ _ _ _ dX1_copyFrom_134 hP hD hS
        · replace h := (if_neg c7).symm.trans h
          refine lv_aload_n hx hb dX1_copyFrom_80 rfl (lv_at hl 0 rfl) ?_
          refine gt_X1_29 hw0_62 hC hK hP dX1_copyFrom_81 ?_
          refine lv_iload_n hx hb dX1_copyFrom_84 rfl (lv_at hl 2 rfl) ?_
          obtain ⟨b8, h⟩ := og h
          refine al_xEl hw0_62 hC hK hP (gin_ok b8) dX1_copyFrom_85 ?_
          refine lv_ifnull hx hb dX1_copyFrom_86 ?_
          refine lv_aload_n hx hb dX1_copyFrom_89 rfl (lv_at hl 0 rfl) ?_
          refine gt_X1_29 hw0_62 hC hK hP dX1_copyFrom_90 ?_
          refine lv_iload_n hx hb dX1_copyFrom_93 rfl (lv_at hl 2 rfl) ?_
          obtain ⟨b9, h⟩ := og h
          refine al_xEl hw0_62 hC hK hP (gin_ok b9) dX1_copyFrom_94 ?_
          refine lv_aload_n hx hb dX1_copyFrom_95 rfl (lv_at hl 1 rfl) ?_
          refine gt_X1_29 hw1_62 hC hK hP dX1_copyFrom_96 ?_
          refine lv_iload_n hx hb dX1_copyFrom_99 rfl (lv_at hl 2 rfl) ?_
          obtain ⟨b10, h⟩ := og h
          refine al_xEl hw1_62 hC hK hP (gin_ok b10) dX1_copyFrom_100 ?_
          obtain ⟨⟨I11, J11⟩, hc11, h⟩ := ob h
          dsimp only at h
          refine callWVv (As := [.ref (ad (w1_62 + 7 + Int32.toNatClampNeg w2_62))]) (rest := []) hC (c_X5_copyFrom l g ad I J (w0_62 + 7 + Int32.toNatClampNeg w2_62) (w1_62 + 7 + Int32.toNatClampNeg w2_62) (isT_e hw0_62 (gin_lt b9)) (isT_e hw1_62 (gin_lt b10)) H.size hc11) lk_X1_40 rfl rfl ⟨Nat.le_of_ble_eq_true rfl, Nat.le_of_ble_eq_true rfl⟩ hP hK hD hA hS (xTo (isT_e hw0_62 (gin_lt b9))) rfl rfl rfl hl (Nat.le_of_ble_eq_true rfl) dX1_copyFrom_101 (fun H locs hP hD hS => ?_)
          refine lv_iinc (v := (w2_62 + 1)) (lv' := [(2, .int (w2_62 + 1)), (0, .ref (ad w0_62)), (1, .ref (ad w1_62))]) hx hb dX1_copyFrom_104 hl (k := 2) rfl rfl (by decide) rfl (fun ls hl => ?_)
          refine lv_goto (tgt := 62) hx hb dX1_copyFrom_107 (by decide) ?_
          exact ih I11 J11 w0_62 w1_62 (w2_62 + 1) _ _ _ hw0_62 hw1_62 h hP hD hS (lv_sub hl [1, 2, 0] rfl)
  unfold F_X1_copyFrom at h
  refine lv_aload_n hx hb dX1_copyFrom_0 rfl (lv_at hl 1 rfl) ?_
  refine lv_ifnonnull (tgt := 5) hx hb dX1_copyFrom_1 (by decide) ?_
  refine lv_aload_n hx hb dX1_copyFrom_5 rfl (lv_at hl 1 rfl) ?_
  refine gt_X1_9 hE1 hC hK hP dX1_copyFrom_6 ?_
  refine lv_aload_n hx hb dX1_copyFrom_9 rfl (lv_at hl 0 rfl) ?_
  refine gt_X1_9 hE hC hK hP dX1_copyFrom_10 ?_
  obtain ⟨f_1, hc1, h⟩ := ob h
  refine callWSv (As := [.ref (ad (q1 + 1)), .ref (ad (q + 1))]) (rest := []) hC (c_X2_copy l g (xW ad g I J) (fun f => xW ad g (u1 I (q + 1) f) J) (q1 + 1) 8 (I (q1 + 1)) (ad (q1 + 1)) (q + 1) 8 (I (q + 1)) (ad (q + 1)) (xEc1 hE).1 (xEc1 hE).2.1 (xEc1 hE).2.2 (xEf1 hE1 hE hqq)  H.size hc1) lk_X1_34 rfl rfl ⟨Nat.le_of_ble_eq_true rfl, Nat.le_of_ble_eq_true rfl⟩ hP hK hD hA hS rfl rfl hl (Nat.le_of_ble_eq_true rfl) dX1_copyFrom_13 (fun H locs hP hD hS => ?_)
  refine lv_aload_n hx hb dX1_copyFrom_16 rfl (lv_at hl 1 rfl) ?_
  refine gt_X1_15 hE1 hC hK hP dX1_copyFrom_17 ?_
  refine lv_aload_n hx hb dX1_copyFrom_20 rfl (lv_at hl 0 rfl) ?_
  refine gt_X1_15 hE hC hK hP dX1_copyFrom_21 ?_
  obtain ⟨f_2, hc2, h⟩ := ob h
  refine callWSv (As := [.ref (ad (q1 + 2)), .ref (ad (q + 2))]) (rest := []) hC (c_X2_copy l g (xW ad g (u1 I (q + 1) f_1) J) (fun f => xW ad g (u1 (u1 I (q + 1) f_1) (q + 2) f) J) (q1 + 2) 8 ((u1 I (q + 1) f_1) (q1 + 2)) (ad (q1 + 2)) (q + 2) 8 ((u1 I (q + 1) f_1) (q + 2)) (ad (q + 2)) (xEc2 hE).1 (xEc2 hE).2.1 (xEc2 hE).2.2 (xEf2 hE1 hE hqq)  H.size hc2) lk_X1_34 rfl rfl ⟨Nat.le_of_ble_eq_true rfl, Nat.le_of_ble_eq_true rfl⟩ hP hK hD hA hS rfl rfl hl (Nat.le_of_ble_eq_true rfl) dX1_copyFrom_24 (fun H locs hP hD hS => ?_)
  refine lv_aload_n hx hb dX1_copyFrom_27 rfl (lv_at hl 1 rfl) ?_
  refine gt_X1_18 hE1 hC hK hP dX1_copyFrom_28 ?_
  refine lv_aload_n hx hb dX1_copyFrom_31 rfl (lv_at hl 0 rfl) ?_
  refine gt_X1_18 hE hC hK hP dX1_copyFrom_32 ?_
  obtain ⟨f_3, hc3, h⟩ := ob h
  refine callWSv (As := [.ref (ad (q1 + 3)), .ref (ad (q + 3))]) (rest := []) hC (c_X2_copy l g (xW ad g (u1 (u1 I (q + 1) f_1) (q + 2) f_2) J) (fun f => xW ad g (u1 (u1 (u1 I (q + 1) f_1) (q + 2) f_2) (q + 3) f) J) (q1 + 3) 8 ((u1 (u1 I (q + 1) f_1) (q + 2) f_2) (q1 + 3)) (ad (q1 + 3)) (q + 3) 8 ((u1 (u1 I (q + 1) f_1) (q + 2) f_2) (q + 3)) (ad (q + 3)) (xEc3 hE).1 (xEc3 hE).2.1 (xEc3 hE).2.2 (xEf3 hE1 hE hqq)  H.size hc3) lk_X1_34 rfl rfl ⟨Nat.le_of_ble_eq_true rfl, Nat.le_of_ble_eq_true rfl⟩ hP hK hD hA hS rfl rfl hl (Nat.le_of_ble_eq_true rfl) dX1_copyFrom_35 (fun H locs hP hD hS => ?_)
  refine lv_aload_n hx hb dX1_copyFrom_38 rfl (lv_at hl 1 rfl) ?_
  refine gt_X1_21 hE1 hC hK hP dX1_copyFrom_39 ?_
  refine lv_aload_n hx hb dX1_copyFrom_42 rfl (lv_at hl 0 rfl) ?_
  refine gt_X1_21 hE hC hK hP dX1_copyFrom_43 ?_
  obtain ⟨f_4, hc4, h⟩ := ob h
  refine callWSv (As := [.ref (ad (q1 + 4)), .ref (ad (q + 4))]) (rest := []) hC (c_X2_copy l g (xW ad g (u1 (u1 (u1 I (q + 1) f_1) (q + 2) f_2) (q + 3) f_3) J) (fun f => xW ad g (u1 (u1 (u1 (u1 I (q + 1) f_1) (q + 2) f_2) (q + 3) f_3) (q + 4) f) J) (q1 + 4) 6 ((u1 (u1 (u1 I (q + 1) f_1) (q + 2) f_2) (q + 3) f_3) (q1 + 4)) (ad (q1 + 4)) (q + 4) 6 ((u1 (u1 (u1 I (q + 1) f_1) (q + 2) f_2) (q + 3) f_3) (q + 4)) (ad (q + 4)) (xEc4 hE).1 (xEc4 hE).2.1 (xEc4 hE).2.2 (xEf4 hE1 hE hqq)  H.size hc4) lk_X1_34 rfl rfl ⟨Nat.le_of_ble_eq_true rfl, Nat.le_of_ble_eq_true rfl⟩ hP hK hD hA hS rfl rfl hl (Nat.le_of_ble_eq_true rfl) dX1_copyFrom_46 (fun H locs hP hD hS => ?_)
  refine lv_aload_n hx hb dX1_copyFrom_49 rfl (lv_at hl 1 rfl) ?_
  refine gt_X1_24 hE1 hC hK hP dX1_copyFrom_50 ?_
  refine lv_aload_n hx hb dX1_copyFrom_53 rfl (lv_at hl 0 rfl) ?_
  refine gt_X1_24 hE hC hK hP dX1_copyFrom_54 ?_
  obtain ⟨f_5, hc5, h⟩ := ob h
  refine callWSv (As := [.ref (ad (q1 + 5)), .ref (ad (q + 5))]) (rest := []) hC (c_X2_copy l g (xW ad g (u1 (u1 (u1 (u1 I (q + 1) f_1) (q + 2) f_2) (q + 3) f_3) (q + 4) f_4) J) (fun f => xW ad g (u1 (u1 (u1 (u1 (u1 I (q + 1) f_1) (q + 2) f_2) (q + 3) f_3) (q + 4) f_4) (q + 5) f) J) (q1 + 5) 6 ((u1 (u1 (u1 (u1 I (q + 1) f_1) (q + 2) f_2) (q + 3) f_3) (q + 4) f_4) (q1 + 5)) (ad (q1 + 5)) (q + 5) 6 ((u1 (u1 (u1 (u1 I (q + 1) f_1) (q + 2) f_2) (q + 3) f_3) (q + 4) f_4) (q + 5)) (ad (q + 5)) (xEc5 hE).1 (xEc5 hE).2.1 (xEc5 hE).2.2 (xEf5 hE1 hE hqq)  H.size hc5) lk_X1_34 rfl rfl ⟨Nat.le_of_ble_eq_true rfl, Nat.le_of_ble_eq_true rfl⟩ hP hK hD hA hS rfl rfl hl (Nat.le_of_ble_eq_true rfl) dX1_copyFrom_57 (fun H locs hP hD hS => ?_)
  refine lv_iconst (v := 0) hx hb dX1_copyFrom_60 (by decide) ?_
  refine lv_istore_n (lv' := [(2, .int (0 : Int32)), (0, .ref (ad q)), (1, .ref (ad q1))]) hx hb dX1_copyFrom_61 rfl hl (by decide) rfl (fun ls hl => ?_)
  exact loop_62 3000 (u1 (u1 (u1 (u1 (u1 I (q + 1) f_1) (q + 2) f_2) (q + 3) f_3) (q + 4) f_4) (q + 5) f_5) J q q1 (0 : Int32) _ _ _ hE hE1 h hP hD hS (lv_sub hl [1, 2, 0] rfl)
def F_X1_isSetting (v1 : Int32) : Option (Int32) := (if v1 < 0 then (some (0 : Int32)) else (if (8 : Int32) ≤ v1 then (some (0 : Int32)) else (some (1 : Int32))))
set_option maxHeartbeats 4000000 in
set_option maxRecDepth 100000 in
theorem c_X1_isSetting (l : Launch) (g : Gx) (ws : va_W) (qm : Nat) (v1 : Int32)  {r : Int32} (h : F_X1_isSetting v1 = some r) : Met l yX1_isSetting (Cond.code yX1_isSetting cX1_isSetting 1 (some .boolean) :: BG) (k2_rm 0 0) (PcRM [.int v1] g ws qm) (k2_QcV (.int r)) 0 0 (fun _ => False) := by
  refine mkRMz (by decide) (Nat.le_of_ble_eq_true rfl) ?_
  intro p e s m args below meth c H locs ls A Q hC hK hP hS hZ hl hret
  have hx := hC.1
  have hb := hC.2.1
  have hts := hC.2.2.2.2
  have hown := hC.2.2.2.1
  replace hl : lv_has ls 1 [(0, .int v1)] := hl
  unfold F_X1_isSetting at h
  refine lv_iload_n hx hb dX1_isSetting_0 rfl (lv_at hl 0 rfl) ?_
  refine lv_if_lt (tgt := 16) hx hb dX1_isSetting_1 (by decide) (fun c1 => ?_) (fun c1 => ?_)
  · replace h := (if_pos c1).symm.trans h
    refine lv_iconst (v := 0) hx hb dX1_isSetting_16 (by decide) ?_
    exact hret _ _ _ dX1_isSetting_17 rfl (Option.some.inj h)
  · replace h := (if_neg c1).symm.trans h
    refine lv_iload_n hx hb dX1_isSetting_4 rfl (lv_at hl 0 rfl) ?_
    refine va_gets hx hb hZ.1 hS hown (hts _ fl_X1_54) (fun _ h9 => h9) dX1_isSetting_5 ?_
    refine va_tlen hx hb hZ.2 hS (v := 8) rfl dX1_isSetting_8 ?_
    refine lv_icmp_ge (tgt := 16) hx hb dX1_isSetting_9 (by decide) (fun c2 => ?_) (fun c2 => ?_)
    · replace h := (if_pos c2).symm.trans h
      refine lv_iconst (v := 0) hx hb dX1_isSetting_16 (by decide) ?_
      exact hret _ _ _ dX1_isSetting_17 rfl (Option.some.inj h)
    · replace h := (if_neg c2).symm.trans h
      refine lv_iconst (v := 1) hx hb dX1_isSetting_12 (by decide) ?_
      refine lv_goto (tgt := 17) hx hb dX1_isSetting_13 (by decide) ?_
      exact hret _ _ _ dX1_isSetting_17 rfl (Option.some.inj h)
def F_X1_mostOf (v1 : Int32) : Option (Int32) := (if v1 < 0 then (some (0 : Int32)) else (if (8 : Int32) ≤ v1 then (some (0 : Int32)) else (if gin v1 8 = true then (some (mostF (Int32.toNatClampNeg v1))) else none)))
set_option maxHeartbeats 4000000 in
set_option maxRecDepth 100000 in
theorem c_X1_mostOf (l : Launch) (g : Gx) (ws : va_W) (qm : Nat) (v1 : Int32)  {r : Int32} (h : F_X1_mostOf v1 = some r) : Met l yX1_mostOf (Cond.code yX1_mostOf cX1_mostOf 1 (some .int) :: BG) (k2_rm 0 0) (PcRM [.int v1] g ws qm) (k2_QcV (.int r)) 0 0 (fun _ => False) := by
  refine mkRMi (by decide) (Nat.le_of_ble_eq_true rfl) ?_
  intro p e s m args below meth c H locs ls A Q hC hK hP hS hZ hl hret
  have hx := hC.1
  have hb := hC.2.1
  have hts := hC.2.2.2.2
  have hown := hC.2.2.2.1
  replace hl : lv_has ls 1 [(0, .int v1)] := hl
  unfold F_X1_mostOf at h
  refine lv_iload_n hx hb dX1_mostOf_0 rfl (lv_at hl 0 rfl) ?_
  refine lv_if_lt (tgt := 20) hx hb dX1_mostOf_1 (by decide) (fun c1 => ?_) (fun c1 => ?_)
  · replace h := (if_pos c1).symm.trans h
    refine lv_iconst (v := 0) hx hb dX1_mostOf_20 (by decide) ?_
    exact hret _ _ _ dX1_mostOf_21 (Option.some.inj h)
  · replace h := (if_neg c1).symm.trans h
    refine lv_iload_n hx hb dX1_mostOf_4 rfl (lv_at hl 0 rfl) ?_
    refine va_gets hx hb hZ.1 hS hown (hts _ fl_X1_54) (fun _ h9 => h9) dX1_mostOf_5 ?_
    refine va_tlen hx hb hZ.2 hS (v := 8) rfl dX1_mostOf_8 ?_
    refine lv_icmp_ge (tgt := 20) hx hb dX1_mostOf_9 (by decide) (fun c2 => ?_) (fun c2 => ?_)
    · replace h := (if_pos c2).symm.trans h
      refine lv_iconst (v := 0) hx hb dX1_mostOf_20 (by decide) ?_
      exact hret _ _ _ dX1_mostOf_21 (Option.some.inj h)
    · replace h := (if_neg c2).symm.trans h
      refine va_gets hx hb hZ.1 hS hown (hts _ fl_X1_54) (fun _ h9 => h9) dX1_mostOf_12 ?_
      refine lv_iload_n hx hb dX1_mostOf_15 rfl (lv_at hl 0 rfl) ?_
      obtain ⟨b3, h⟩ := og h
      refine va_ti hx hb hZ.2 hS (gin_ok b3) rfl dX1_mostOf_16 ?_
      refine lv_goto (tgt := 21) hx hb dX1_mostOf_17 (by decide) ?_
      exact hret _ _ _ dX1_mostOf_21 (Option.some.inj h)
def F_X1_putSetting (q : Nat) (I : SI) (J : SJ) (v1 : Int32) (v2 : Int32) : Option (SI × SJ) := (if v1 < 0 then (some (I, J)) else (if (8 : Int32) ≤ v1 then (some (I, J)) else (if gin v1 8 = true then (some ((u1 I (q + 1) (upd (I (q + 1)) (Int32.toNatClampNeg v1) v2)), J)) else none)))
set_option maxHeartbeats 4000000 in
set_option maxRecDepth 100000 in
theorem c_X1_putSetting (l : Launch) (g : Gx) (ad : Nat → Nat) (I : SI) (J : SJ) (q : Nat) (v1 : Int32) (v2 : Int32) (hE : isE q) (sz : Nat) {rI : SI} {rJ : SJ} (h : F_X1_putSetting q I J v1 v2 = some (rI, rJ)) : Met l yX1_putSetting (Cond.code yX1_putSetting cX1_putSetting 3 none :: BG) (k2_rm 0 0) (PcW [.ref (ad q), .int v1, .int v2] g (xW ad g I J) sz) (QWv g (xW ad g I J) (xW ad g rI rJ) sz) 0 0 (va_A (xW ad g I J) sz) := by
  refine mkWv (by decide) (Nat.le_of_ble_eq_true rfl) ?_
  intro p e s m args below meth c H locs ls A Q hC hK hP hD hA hS hl hret
  have hx := hC.1
  have hb := hC.2.1
  have hts := hC.2.2.2.2
  have hown := hC.2.2.2.1
  replace hl : lv_has ls 3 [(0, .ref (ad q)), (1, .int v1), (2, .int v2)] := hl
  unfold F_X1_putSetting at h
  refine lv_iload_n hx hb dX1_putSetting_0 rfl (lv_at hl 1 rfl) ?_
  refine lv_if_lt (tgt := 20) hx hb dX1_putSetting_1 (by decide) (fun c1 => ?_) (fun c1 => ?_)
  · replace h := (if_pos c1).symm.trans h
    obtain ⟨rfl, rfl⟩ := Prod.mk.inj (Option.some.inj h)
    exact hret _ _ _ _ dX1_putSetting_20 hP hD hS
  · replace h := (if_neg c1).symm.trans h
    refine lv_iload_n hx hb dX1_putSetting_4 rfl (lv_at hl 1 rfl) ?_
    refine lv_aload_n hx hb dX1_putSetting_5 rfl (lv_at hl 0 rfl) ?_
    refine gt_X1_9 hE hC hK hP dX1_putSetting_6 ?_
    refine ln_xE1 hE hC hK hP dX1_putSetting_9 ?_
    refine lv_icmp_ge (tgt := 20) hx hb dX1_putSetting_10 (by decide) (fun c2 => ?_) (fun c2 => ?_)
    · replace h := (if_pos c2).symm.trans h
      obtain ⟨rfl, rfl⟩ := Prod.mk.inj (Option.some.inj h)
      exact hret _ _ _ _ dX1_putSetting_20 hP hD hS
    · replace h := (if_neg c2).symm.trans h
      refine lv_aload_n hx hb dX1_putSetting_13 rfl (lv_at hl 0 rfl) ?_
      refine gt_X1_9 hE hC hK hP dX1_putSetting_14 ?_
      refine lv_iload_n hx hb dX1_putSetting_17 rfl (lv_at hl 1 rfl) ?_
      refine lv_iload_n hx hb dX1_putSetting_18 rfl (lv_at hl 2 rfl) ?_
      obtain ⟨b3, h⟩ := og h
      refine as_xE1 hE hC hK hP hD hS (gin_ok b3) dX1_putSetting_19 (fun H locs hP hD hS => ?_)
      obtain ⟨rfl, rfl⟩ := Prod.mk.inj (Option.some.inj h)
      exact hret _ _ _ _ dX1_putSetting_20 hP hD hS
def F_X1_termAt (q : Nat) (I : SI) (J : SJ) (v1 : Int32) : Option (Option Nat) := (if v1 < 0 then (some none) else (if (I q 8) ≤ v1 then (some none) else (if (8 : Int32) ≤ v1 then (some none) else (if gin v1 8 = true then (some (some (q + 7 + Int32.toNatClampNeg v1))) else none))))
set_option maxHeartbeats 4000000 in
set_option maxRecDepth 100000 in
theorem c_X1_termAt (l : Launch) (g : Gx) (ad : Nat → Nat) (I : SI) (J : SJ) (q : Nat) (v1 : Int32) (hE : isE q) {r : Option Nat} (h : F_X1_termAt q I J v1 = some r) : Met l yX1_termAt (Cond.code yX1_termAt cX1_termAt 2 (some (.object RX5)) :: BG) (k2_rm 0 0) (va_Pc [.ref (ad q), .int v1] (fun U => Pg g (xW ad g I J) U.heap ∧ Kg g U)) (k2_QcV (va_rf (r.map ad))) 0 0 (fun _ => False) := by
  refine mkRa (by decide) (Nat.le_of_ble_eq_true rfl) ?_
  intro p e s m args below meth c H locs ls Q hC hK hP hl hret
  have hx := hC.1
  have hb := hC.2.1
  have hts := hC.2.2.2.2
  have hown := hC.2.2.2.1
  replace hl : lv_has ls 2 [(0, .ref (ad q)), (1, .int v1)] := hl
  unfold F_X1_termAt at h
  refine lv_iload_n hx hb dX1_termAt_0 rfl (lv_at hl 1 rfl) ?_
  refine lv_if_lt (tgt := 30) hx hb dX1_termAt_1 (by decide) (fun c1 => ?_) (fun c1 => ?_)
  · replace h := (if_pos c1).symm.trans h
    refine lv_null hx hb dX1_termAt_30 ?_
    obtain rfl := Option.some.inj h
    exact hret _ _ _ dX1_termAt_31 (Or.inl rfl) rfl
  · replace h := (if_neg c1).symm.trans h
    refine lv_iload_n hx hb dX1_termAt_4 rfl (lv_at hl 1 rfl) ?_
    refine lv_aload_n hx hb dX1_termAt_5 rfl (lv_at hl 0 rfl) ?_
    refine gt_X1_51 hE hC hK hP dX1_termAt_6 ?_
    refine lv_icmp_ge (tgt := 30) hx hb dX1_termAt_9 (by decide) (fun c2 => ?_) (fun c2 => ?_)
    · replace h := (if_pos c2).symm.trans h
      refine lv_null hx hb dX1_termAt_30 ?_
      obtain rfl := Option.some.inj h
      exact hret _ _ _ dX1_termAt_31 (Or.inl rfl) rfl
    · replace h := (if_neg c2).symm.trans h
      refine lv_iload_n hx hb dX1_termAt_12 rfl (lv_at hl 1 rfl) ?_
      refine lv_aload_n hx hb dX1_termAt_13 rfl (lv_at hl 0 rfl) ?_
      refine gt_X1_29 hE hC hK hP dX1_termAt_14 ?_
      refine ln_xEl hE hC hK hP dX1_termAt_17 ?_
      refine lv_icmp_ge (tgt := 30) hx hb dX1_termAt_18 (by decide) (fun c3 => ?_) (fun c3 => ?_)
      · replace h := (if_pos c3).symm.trans h
        refine lv_null hx hb dX1_termAt_30 ?_
        obtain rfl := Option.some.inj h
        exact hret _ _ _ dX1_termAt_31 (Or.inl rfl) rfl
      · replace h := (if_neg c3).symm.trans h
        refine lv_aload_n hx hb dX1_termAt_21 rfl (lv_at hl 0 rfl) ?_
        refine gt_X1_29 hE hC hK hP dX1_termAt_22 ?_
        refine lv_iload_n hx hb dX1_termAt_25 rfl (lv_at hl 1 rfl) ?_
        obtain ⟨b4, h⟩ := og h
        refine al_xEl hE hC hK hP (gin_ok b4) dX1_termAt_26 ?_
        refine lv_goto (tgt := 31) hx hb dX1_termAt_27 (by decide) ?_
        obtain rfl := Option.some.inj h
        exact hret _ _ _ dX1_termAt_31 (Or.inr ⟨_, rfl⟩) rfl
theorem termAt_isT {q t : Nat} {I : SI} {J : SJ} {v : Int32} (hE : isE q) (h : F_X1_termAt q I J v = some (some t)) : isT t := by
  unfold F_X1_termAt at h
  repeat' split at h
  all_goals first | (cases h; done) | (cases h; rename_i hg; exact isT_e hE (gin_lt hg))
def F_X1_addTerm (q : Nat) (t1 : Nat) (I : SI) (J : SJ) : Option (Int32 × SI × SJ) := (if (I q 8) < 0 then (some ((I q 8), I, J)) else (if (8 : Int32) ≤ (I q 8) then (some ((I q 8), I, J)) else (if gin (I q 8) 8 = true then (if gin (I q 8) 8 = true then ((F_X5_copyFrom (q + 7 + Int32.toNatClampNeg (I q 8)) t1 I J).bind fun (I5, J5) => (some ((I q 8), (u2 I5 q 8 ((I5 q 8) + (1 : Int32))), J5))) else none) else none)))
set_option maxHeartbeats 4000000 in
set_option maxRecDepth 100000 in
theorem c_X1_addTerm (l : Launch) (g : Gx) (ad : Nat → Nat) (I : SI) (J : SJ) (q : Nat) (t1 : Nat) (hE : isE q) (hT1 : isT t1) (sz : Nat) {r : Int32} {rI : SI} {rJ : SJ} (h : F_X1_addTerm q t1 I J = some (r, rI, rJ)) : Met l yX1_addTerm (Cond.code yX1_addTerm cX1_addTerm 3 (some .int) :: BG) (k2_rm 2 45) (PcW [.ref (ad q), .ref (ad t1)] g (xW ad g I J) sz) (QWi r g (xW ad g I J) (xW ad g rI rJ) sz) 0 0 (va_A (xW ad g I J) sz) := by
  refine mkWi (by decide) (Nat.le_of_ble_eq_true rfl) ?_
  intro p e s m args below meth c H locs ls A Q hC hK hP hD hA hS hl hret
  have hx := hC.1
  have hb := hC.2.1
  have hts := hC.2.2.2.2
  have hown := hC.2.2.2.1
  replace hl : lv_has ls 3 [(0, .ref (ad q)), (1, .ref (ad t1))] := hl
  unfold F_X1_addTerm at h
  refine lv_aload_n hx hb dX1_addTerm_0 rfl (lv_at hl 0 rfl) ?_
  refine gt_X1_51 hE hC hK hP dX1_addTerm_1 ?_
  refine lv_istore_n (lv' := [(2, .int (I q 8)), (0, .ref (ad q)), (1, .ref (ad t1))]) hx hb dX1_addTerm_4 rfl hl (by decide) rfl (fun ls hl => ?_)
  refine lv_iload_n hx hb dX1_addTerm_5 rfl (lv_at hl 0 rfl) ?_
  refine lv_if_lt (tgt := 47) hx hb dX1_addTerm_6 (by decide) (fun c1 => ?_) (fun c1 => ?_)
  · replace h := (if_pos c1).symm.trans h
    refine lv_iload_n hx hb dX1_addTerm_47 rfl (lv_at hl 0 rfl) ?_
    obtain ⟨h1, h⟩ := Prod.mk.inj (Option.some.inj h)
    obtain ⟨rfl, rfl⟩ := Prod.mk.inj h
    exact hret _ _ _ _ _ dX1_addTerm_48 h1 hP hD hS
  · replace h := (if_neg c1).symm.trans h
    refine lv_iload_n hx hb dX1_addTerm_9 rfl (lv_at hl 0 rfl) ?_
    refine lv_aload_n hx hb dX1_addTerm_10 rfl (lv_at hl 1 rfl) ?_
    refine gt_X1_29 hE hC hK hP dX1_addTerm_11 ?_
    refine ln_xEl hE hC hK hP dX1_addTerm_14 ?_
    refine lv_icmp_ge (tgt := 47) hx hb dX1_addTerm_15 (by decide) (fun c2 => ?_) (fun c2 => ?_)
    · replace h := (if_pos c2).symm.trans h
      refine lv_iload_n hx hb dX1_addTerm_47 rfl (lv_at hl 0 rfl) ?_
      obtain ⟨h1, h⟩ := Prod.mk.inj (Option.some.inj h)
      obtain ⟨rfl, rfl⟩ := Prod.mk.inj h
      exact hret _ _ _ _ _ dX1_addTerm_48 h1 hP hD hS
    · replace h := (if_neg c2).symm.trans h
      refine lv_aload_n hx hb dX1_addTerm_18 rfl (lv_at hl 1 rfl) ?_
      refine gt_X1_29 hE hC hK hP dX1_addTerm_19 ?_
      refine lv_iload_n hx hb dX1_addTerm_22 rfl (lv_at hl 0 rfl) ?_
      obtain ⟨b3, h⟩ := og h
      refine al_xEl hE hC hK hP (gin_ok b3) dX1_addTerm_23 ?_
      refine lv_ifnull hx hb dX1_addTerm_24 ?_
      refine lv_aload_n hx hb dX1_addTerm_27 rfl (lv_at hl 1 rfl) ?_
      refine gt_X1_29 hE hC hK hP dX1_addTerm_28 ?_
      refine lv_iload_n hx hb dX1_addTerm_31 rfl (lv_at hl 0 rfl) ?_
      obtain ⟨b4, h⟩ := og h
      refine al_xEl hE hC hK hP (gin_ok b4) dX1_addTerm_32 ?_
      refine lv_aload_n hx hb dX1_addTerm_33 rfl (lv_at hl 2 rfl) ?_
      obtain ⟨⟨I5, J5⟩, hc5, h⟩ := ob h
      dsimp only at h
      refine callWVv (As := [.ref (ad t1)]) (rest := []) hC (c_X5_copyFrom l g ad I J (q + 7 + Int32.toNatClampNeg (I q 8)) t1 (isT_e hE (gin_lt b4)) hT1 H.size hc5) lk_X1_40 rfl rfl ⟨Nat.le_of_ble_eq_true rfl, Nat.le_of_ble_eq_true rfl⟩ hP hK hD hA hS (xTo (isT_e hE (gin_lt b4))) rfl rfl rfl hl (Nat.le_of_ble_eq_true rfl) dX1_addTerm_34 (fun H locs hP hD hS => ?_)
      refine lv_aload_n hx hb dX1_addTerm_37 rfl (lv_at hl 1 rfl) ?_
      refine lv_dup hx hb dX1_addTerm_38 rfl ?_
      refine gt_X1_51 hE hC hK hP dX1_addTerm_39 ?_
      refine lv_iconst (v := 1) hx hb dX1_addTerm_42 (by decide) ?_
      refine lv_iadd hx hb dX1_addTerm_43 ?_
      refine pt_X1_51 hE hC hK hP hD hS dX1_addTerm_44 (fun H locs hP hD hS => ?_)
      refine lv_iload_n hx hb dX1_addTerm_47 rfl (lv_at hl 0 rfl) ?_
      obtain ⟨h1, h⟩ := Prod.mk.inj (Option.some.inj h)
      obtain ⟨rfl, rfl⟩ := Prod.mk.inj h
      exact hret _ _ _ _ _ dX1_addTerm_48 h1 hP hD hS
def F_X1_hasPains (q : Nat) (I : SI) (J : SJ) (v1 : Int32) : Option (Int32) := (if v1 < 0 then (some (0 : Int32)) else (if (I q 6) < v1 then (some (0 : Int32)) else (some (1 : Int32))))
set_option maxHeartbeats 4000000 in
set_option maxRecDepth 100000 in
theorem c_X1_hasPains (l : Launch) (g : Gx) (ad : Nat → Nat) (I : SI) (J : SJ) (q : Nat) (v1 : Int32) (hE : isE q) {r : Int32} (h : F_X1_hasPains q I J v1 = some r) : Met l yX1_hasPains (Cond.code yX1_hasPains cX1_hasPains 2 (some .boolean) :: BG) (k2_rm 0 0) (va_Pc [.ref (ad q), .int v1] (fun U => Pg g (xW ad g I J) U.heap ∧ Kg g U)) (k2_QcV (.int r)) 0 0 (fun _ => False) := by
  refine mkRz (by decide) (Nat.le_of_ble_eq_true rfl) ?_
  intro p e s m args below meth c H locs ls Q hC hK hP hl hret
  have hx := hC.1
  have hb := hC.2.1
  have hts := hC.2.2.2.2
  have hown := hC.2.2.2.1
  replace hl : lv_has ls 2 [(0, .ref (ad q)), (1, .int v1)] := hl
  unfold F_X1_hasPains at h
  refine lv_iload_n hx hb dX1_hasPains_0 rfl (lv_at hl 1 rfl) ?_
  refine lv_if_lt (tgt := 16) hx hb dX1_hasPains_1 (by decide) (fun c1 => ?_) (fun c1 => ?_)
  · replace h := (if_pos c1).symm.trans h
    refine lv_iconst (v := 0) hx hb dX1_hasPains_16 (by decide) ?_
    exact hret _ _ _ dX1_hasPains_17 rfl (Option.some.inj h)
  · replace h := (if_neg c1).symm.trans h
    refine lv_iload_n hx hb dX1_hasPains_4 rfl (lv_at hl 1 rfl) ?_
    refine lv_aload_n hx hb dX1_hasPains_5 rfl (lv_at hl 0 rfl) ?_
    refine gt_X1_44 hE hC hK hP dX1_hasPains_6 ?_
    refine lv_icmp_gt (tgt := 16) hx hb dX1_hasPains_9 (by decide) (fun c2 => ?_) (fun c2 => ?_)
    · replace h := (if_pos c2).symm.trans h
      refine lv_iconst (v := 0) hx hb dX1_hasPains_16 (by decide) ?_
      exact hret _ _ _ dX1_hasPains_17 rfl (Option.some.inj h)
    · replace h := (if_neg c2).symm.trans h
      refine lv_iconst (v := 1) hx hb dX1_hasPains_12 (by decide) ?_
      refine lv_goto (tgt := 17) hx hb dX1_hasPains_13 (by decide) ?_
      exact hret _ _ _ dX1_hasPains_17 rfl (Option.some.inj h)
def F_X1_addStep (q : Nat) (I : SI) (J : SJ) (v1 : Int32) (v2 : Int32) : Option (Int32 × SI × SJ) := (if (8 : Int32) ≤ (I q 6) then (some ((0 : Int32), I, J)) else (if (99 : Int32) < v1 then (some ((0 : Int32), I, J)) else (if v2 ≤ (99 : Int32) then ((F_X2_put 8 (I (q + 2)) (I q 6) v1).bind fun f_4 => ((F_X2_put 8 ((u1 I (q + 2) f_4) (q + 3)) ((u1 I (q + 2) f_4) q 6) v2).bind fun f_5 => (some ((1 : Int32), (u2 (u1 (u1 I (q + 2) f_4) (q + 3) f_5) q 6 (((u1 (u1 I (q + 2) f_4) (q + 3) f_5) q 6) + (1 : Int32))), J)))) else (some ((0 : Int32), I, J)))))
set_option maxHeartbeats 4000000 in
set_option maxRecDepth 100000 in
theorem c_X1_addStep (l : Launch) (g : Gx) (ad : Nat → Nat) (I : SI) (J : SJ) (q : Nat) (v1 : Int32) (v2 : Int32) (hE : isE q) (sz : Nat) {r : Int32} {rI : SI} {rJ : SJ} (h : F_X1_addStep q I J v1 v2 = some (r, rI, rJ)) : Met l yX1_addStep (Cond.code yX1_addStep cX1_addStep 3 (some .boolean) :: BG) (k2_rm 1 22) (PcW [.ref (ad q), .int v1, .int v2] g (xW ad g I J) sz) (QWi r g (xW ad g I J) (xW ad g rI rJ) sz) 0 0 (va_A (xW ad g I J) sz) := by
  refine mkWz (by decide) (Nat.le_of_ble_eq_true rfl) ?_
  intro p e s m args below meth c H locs ls A Q hC hK hP hD hA hS hl hret
  have hx := hC.1
  have hb := hC.2.1
  have hts := hC.2.2.2.2
  have hown := hC.2.2.2.1
  replace hl : lv_has ls 3 [(0, .ref (ad q)), (1, .int v1), (2, .int v2)] := hl
  unfold F_X1_addStep at h
  refine lv_aload_n hx hb dX1_addStep_0 rfl (lv_at hl 0 rfl) ?_
  refine gt_X1_44 hE hC hK hP dX1_addStep_1 ?_
  refine lv_bipush (v := 8) hx hb dX1_addStep_4 (by decide) ?_
  refine lv_icmp_ge (tgt := 21) hx hb dX1_addStep_6 (by decide) (fun c1 => ?_) (fun c1 => ?_)
  · replace h := (if_pos c1).symm.trans h
    refine lv_iconst (v := 0) hx hb dX1_addStep_21 (by decide) ?_
    obtain ⟨h1, h⟩ := Prod.mk.inj (Option.some.inj h)
    obtain ⟨rfl, rfl⟩ := Prod.mk.inj h
    exact hret _ _ _ _ _ dX1_addStep_22 rfl h1 hP hD hS
  · replace h := (if_neg c1).symm.trans h
    refine lv_iload_n hx hb dX1_addStep_9 rfl (lv_at hl 1 rfl) ?_
    refine lv_bipush (v := 99) hx hb dX1_addStep_10 (by decide) ?_
    refine lv_icmp_gt (tgt := 21) hx hb dX1_addStep_12 (by decide) (fun c2 => ?_) (fun c2 => ?_)
    · replace h := (if_pos c2).symm.trans h
      refine lv_iconst (v := 0) hx hb dX1_addStep_21 (by decide) ?_
      obtain ⟨h1, h⟩ := Prod.mk.inj (Option.some.inj h)
      obtain ⟨rfl, rfl⟩ := Prod.mk.inj h
      exact hret _ _ _ _ _ dX1_addStep_22 rfl h1 hP hD hS
    · replace h := (if_neg c2).symm.trans h
      refine lv_iload_n hx hb dX1_addStep_15 rfl (lv_at hl 2 rfl) ?_
      refine lv_bipush (v := 99) hx hb dX1_addStep_16 (by decide) ?_
      refine lv_icmp_le (tgt := 23) hx hb dX1_addStep_18 (by decide) (fun c3 => ?_) (fun c3 => ?_)
      · replace h := (if_pos c3).symm.trans h
        refine lv_aload_n hx hb dX1_addStep_23 rfl (lv_at hl 0 rfl) ?_
        refine gt_X1_15 hE hC hK hP dX1_addStep_24 ?_
        refine lv_aload_n hx hb dX1_addStep_27 rfl (lv_at hl 0 rfl) ?_
        refine gt_X1_44 hE hC hK hP dX1_addStep_28 ?_
        refine lv_iload_n hx hb dX1_addStep_31 rfl (lv_at hl 1 rfl) ?_
        obtain ⟨f_4, hc4, h⟩ := ob h
        refine callWSv (As := [.ref (ad (q + 2)), .int (I q 6), .int v1]) (rest := []) hC (c_X2_put l g (xW ad g I J) (fun f => xW ad g (u1 I (q + 2) f) J) (q + 2) 8 (I (q + 2)) (ad (q + 2)) (xEc2 hE).1 (xEc2 hE).2.1 (xEc2 hE).2.2 (I q 6) v1 H.size hc4) lk_X1_57 rfl rfl ⟨Nat.le_of_ble_eq_true rfl, Nat.le_of_ble_eq_true rfl⟩ hP hK hD hA hS rfl rfl hl (Nat.le_of_ble_eq_true rfl) dX1_addStep_32 (fun H locs hP hD hS => ?_)
        refine lv_aload_n hx hb dX1_addStep_35 rfl (lv_at hl 0 rfl) ?_
        refine gt_X1_18 hE hC hK hP dX1_addStep_36 ?_
        refine lv_aload_n hx hb dX1_addStep_39 rfl (lv_at hl 0 rfl) ?_
        refine gt_X1_44 hE hC hK hP dX1_addStep_40 ?_
        refine lv_iload_n hx hb dX1_addStep_43 rfl (lv_at hl 2 rfl) ?_
        obtain ⟨f_5, hc5, h⟩ := ob h
        refine callWSv (As := [.ref (ad (q + 3)), .int ((u1 I (q + 2) f_4) q 6), .int v2]) (rest := []) hC (c_X2_put l g (xW ad g (u1 I (q + 2) f_4) J) (fun f => xW ad g (u1 (u1 I (q + 2) f_4) (q + 3) f) J) (q + 3) 8 ((u1 I (q + 2) f_4) (q + 3)) (ad (q + 3)) (xEc3 hE).1 (xEc3 hE).2.1 (xEc3 hE).2.2 ((u1 I (q + 2) f_4) q 6) v2 H.size hc5) lk_X1_57 rfl rfl ⟨Nat.le_of_ble_eq_true rfl, Nat.le_of_ble_eq_true rfl⟩ hP hK hD hA hS rfl rfl hl (Nat.le_of_ble_eq_true rfl) dX1_addStep_44 (fun H locs hP hD hS => ?_)
        refine lv_aload_n hx hb dX1_addStep_47 rfl (lv_at hl 0 rfl) ?_
        refine lv_dup hx hb dX1_addStep_48 rfl ?_
        refine gt_X1_44 hE hC hK hP dX1_addStep_49 ?_
        refine lv_iconst (v := 1) hx hb dX1_addStep_52 (by decide) ?_
        refine lv_iadd hx hb dX1_addStep_53 ?_
        refine pt_X1_44 hE hC hK hP hD hS dX1_addStep_54 (fun H locs hP hD hS => ?_)
        refine lv_iconst (v := 1) hx hb dX1_addStep_57 (by decide) ?_
        obtain ⟨h1, h⟩ := Prod.mk.inj (Option.some.inj h)
        obtain ⟨rfl, rfl⟩ := Prod.mk.inj h
        exact hret _ _ _ _ _ dX1_addStep_58 rfl h1 hP hD hS
      · replace h := (if_neg c3).symm.trans h
        refine lv_iconst (v := 0) hx hb dX1_addStep_21 (by decide) ?_
        obtain ⟨h1, h⟩ := Prod.mk.inj (Option.some.inj h)
        obtain ⟨rfl, rfl⟩ := Prod.mk.inj h
        exact hret _ _ _ _ _ dX1_addStep_22 rfl h1 hP hD hS
def FL_X2_sum_4 (n0 : Nat) (f0 : Nat → Int32) : Nat → Int32 → Int32 → Int32 → Option (Int32)
  | 0, _, _, _ => none
  | n + 1, w1_4, w2_4, w3_4 => (if w1_4 ≤ w3_4 then (some w2_4) else ((F_X2_at n0 f0 w3_4).bind fun r2 => (FL_X2_sum_4 n0 f0 n w1_4 (w2_4 + r2) (w3_4 + 1))))
def F_X2_sum (n0 : Nat) (f0 : Nat → Int32) (v2 : Int32) : Option (Int32) := (FL_X2_sum_4 n0 f0 3000 v2 (0 : Int32) (0 : Int32))
set_option maxHeartbeats 4000000 in
set_option maxRecDepth 100000 in
theorem c_X2_sum (l : Launch) (g : Gx) (ws : va_W) (g0 n0 : Nat) (f0 : Nat → Int32) (a0 : Nat) (hF0 : ws[g0]? = some (a0, .inl (g.2.1, n0, .inl f0))) (v2 : Int32)  {r : Int32} (h : F_X2_sum n0 f0 v2 = some r) : Met l yX2_sum (Cond.code yX2_sum cX2_sum 4 (some .int) :: BG) (k2_rm 1 21) (va_Pc [.ref a0, .int v2] (fun U => Pg g ws U.heap ∧ Kg g U)) (k2_QcV (.int r)) 0 0 (fun _ => False) := by
  refine mkRi (by decide) (Nat.le_of_ble_eq_true rfl) ?_
  intro p e s m args below meth c H locs ls Q hC hK hP hl hret
  have hx := hC.1
  have hb := hC.2.1
  have hts := hC.2.2.2.2
  have hown := hC.2.2.2.1
  replace hl : lv_has ls 4 [(0, .ref a0), (1, .int v2)] := hl
  have loop_4 : ∀ (n : Nat) (w1_4 : Int32) (w2_4 : Int32) (w3_4 : Int32)  (ls : Array Slot), FL_X2_sum_4 n0 f0 n w1_4 w2_4 w3_4 = some r → lv_has ls 4 [(0, .ref a0), (1, .int w1_4), (2, .int w2_4), (3, .int w3_4)] → W p l e (k2_rm 1 21) s m args below meth c H locs 0 0 Q (F0 m 4 ls []) := by
    intro n
    induction n with
    | zero =>
      intro w1_4 w2_4 w3_4 ls h
      exact no h
    | succ n ih =>
      intro w1_4 w2_4 w3_4 ls h hl
      rw [FL_X2_sum_4] at h
      refine lv_iload_n hx hb dX2_sum_4 rfl (lv_at hl 3 rfl) ?_
      refine lv_iload_n hx hb dX2_sum_5 rfl (lv_at hl 1 rfl) ?_
      refine lv_icmp_ge (tgt := 23) hx hb dX2_sum_6 (by decide) (fun c1 => ?_) (fun c1 => ?_)
      · replace h := (if_pos c1).symm.trans h
        refine lv_iload_n hx hb dX2_sum_23 rfl (lv_at hl 2 rfl) ?_
        exact hret _ _ _ dX2_sum_24 (Option.some.inj h)
      · replace h := (if_neg c1).symm.trans h
        refine lv_iload_n hx hb dX2_sum_9 rfl (lv_at hl 2 rfl) ?_
        refine lv_aload_n hx hb dX2_sum_10 rfl (lv_at hl 0 rfl) ?_
        refine lv_iload_n hx hb dX2_sum_11 rfl (lv_at hl 3 rfl) ?_
        obtain ⟨r2, hc2, h⟩ := ob h
        refine callRS (As := [.ref a0, .int w3_4]) (rest := [.int w2_4]) hC (c_X2_at l g ws g0 n0 f0 a0 hF0 w3_4 hc2) lk_X2_7 rfl rfl ⟨Nat.le_of_ble_eq_true rfl, Nat.le_of_ble_eq_true rfl⟩ hP hK rfl rfl hl (Nat.le_of_ble_eq_true rfl) dX2_sum_12 ?_
        refine lv_iadd hx hb dX2_sum_15 ?_
        refine lv_istore_n (lv' := [(2, .int (w2_4 + r2)), (0, .ref a0), (1, .int w1_4), (3, .int w3_4)]) hx hb dX2_sum_16 rfl hl (by decide) rfl (fun ls hl => ?_)
        refine lv_iinc (v := (w3_4 + 1)) (lv' := [(3, .int (w3_4 + 1)), (2, .int (w2_4 + r2)), (0, .ref a0), (1, .int w1_4)]) hx hb dX2_sum_17 hl (k := 3) rfl rfl (by decide) rfl (fun ls hl => ?_)
        refine lv_goto (tgt := 4) hx hb dX2_sum_20 (by decide) ?_
        exact ih w1_4 (w2_4 + r2) (w3_4 + 1) _ h (lv_sub hl [2, 3, 1, 0] rfl)
  unfold F_X2_sum at h
  refine lv_iconst (v := 0) hx hb dX2_sum_0 (by decide) ?_
  refine lv_istore_n (lv' := [(2, .int (0 : Int32)), (0, .ref a0), (1, .int v2)]) hx hb dX2_sum_1 rfl hl (by decide) rfl (fun ls hl => ?_)
  refine lv_iconst (v := 0) hx hb dX2_sum_2 (by decide) ?_
  refine lv_istore_n (lv' := [(3, .int (0 : Int32)), (2, .int (0 : Int32)), (0, .ref a0), (1, .int v2)]) hx hb dX2_sum_3 rfl hl (by decide) rfl (fun ls hl => ?_)
  exact loop_4 3000 v2 (0 : Int32) (0 : Int32) _ h (lv_sub hl [2, 3, 1, 0] rfl)
def F_X1_addWeather (q : Nat) (I : SI) (J : SJ) (v1 : Int32) (v2 : Int32) : Option (Int32 × SI × SJ) := (if (6 : Int32) ≤ (I q 7) then (some ((0 : Int32), I, J)) else (if v1 < (1 : Int32) then (some ((0 : Int32), I, J)) else (if v2 ≤ (300 : Int32) then ((F_X2_sum 6 (I (q + 4)) (I q 7)).bind fun r4 => (if (r4 + v1) ≤ (100 : Int32) then ((F_X2_put 6 (I (q + 4)) (I q 7) v1).bind fun f_6 => ((F_X2_put 6 ((u1 I (q + 4) f_6) (q + 5)) ((u1 I (q + 4) f_6) q 7) v2).bind fun f_7 => (some ((1 : Int32), (u2 (u1 (u1 I (q + 4) f_6) (q + 5) f_7) q 7 (((u1 (u1 I (q + 4) f_6) (q + 5) f_7) q 7) + (1 : Int32))), J)))) else (some ((0 : Int32), I, J)))) else (some ((0 : Int32), I, J)))))
set_option maxHeartbeats 4000000 in
set_option maxRecDepth 100000 in
theorem c_X1_addWeather (l : Launch) (g : Gx) (ad : Nat → Nat) (I : SI) (J : SJ) (q : Nat) (v1 : Int32) (v2 : Int32) (hE : isE q) (sz : Nat) {r : Int32} {rI : SI} {rJ : SJ} (h : F_X1_addWeather q I J v1 v2 = some (r, rI, rJ)) : Met l yX1_addWeather (Cond.code yX1_addWeather cX1_addWeather 3 (some .boolean) :: BG) (k2_rm 2 44) (PcW [.ref (ad q), .int v1, .int v2] g (xW ad g I J) sz) (QWi r g (xW ad g I J) (xW ad g rI rJ) sz) 0 0 (va_A (xW ad g I J) sz) := by
  refine mkWz (by decide) (Nat.le_of_ble_eq_true rfl) ?_
  intro p e s m args below meth c H locs ls A Q hC hK hP hD hA hS hl hret
  have hx := hC.1
  have hb := hC.2.1
  have hts := hC.2.2.2.2
  have hown := hC.2.2.2.1
  replace hl : lv_has ls 3 [(0, .ref (ad q)), (1, .int v1), (2, .int v2)] := hl
  unfold F_X1_addWeather at h
  refine lv_aload_n hx hb dX1_addWeather_0 rfl (lv_at hl 0 rfl) ?_
  refine gt_X1_48 hE hC hK hP dX1_addWeather_1 ?_
  refine lv_bipush (v := 6) hx hb dX1_addWeather_4 (by decide) ?_
  refine lv_icmp_ge (tgt := 21) hx hb dX1_addWeather_6 (by decide) (fun c1 => ?_) (fun c1 => ?_)
  · replace h := (if_pos c1).symm.trans h
    refine lv_iconst (v := 0) hx hb dX1_addWeather_21 (by decide) ?_
    obtain ⟨h1, h⟩ := Prod.mk.inj (Option.some.inj h)
    obtain ⟨rfl, rfl⟩ := Prod.mk.inj h
    exact hret _ _ _ _ _ dX1_addWeather_22 rfl h1 hP hD hS
  · replace h := (if_neg c1).symm.trans h
    refine lv_iload_n hx hb dX1_addWeather_9 rfl (lv_at hl 1 rfl) ?_
    refine lv_iconst (v := 1) hx hb dX1_addWeather_10 (by decide) ?_
    refine lv_icmp_lt (tgt := 21) hx hb dX1_addWeather_11 (by decide) (fun c2 => ?_) (fun c2 => ?_)
    · replace h := (if_pos c2).symm.trans h
      refine lv_iconst (v := 0) hx hb dX1_addWeather_21 (by decide) ?_
      obtain ⟨h1, h⟩ := Prod.mk.inj (Option.some.inj h)
      obtain ⟨rfl, rfl⟩ := Prod.mk.inj h
      exact hret _ _ _ _ _ dX1_addWeather_22 rfl h1 hP hD hS
    · replace h := (if_neg c2).symm.trans h
      refine lv_iload_n hx hb dX1_addWeather_14 rfl (lv_at hl 2 rfl) ?_
      refine lv_sipush (v := 300) hx hb dX1_addWeather_15 (by decide) ?_
      refine lv_icmp_le (tgt := 23) hx hb dX1_addWeather_18 (by decide) (fun c3 => ?_) (fun c3 => ?_)
      · replace h := (if_pos c3).symm.trans h
        refine lv_aload_n hx hb dX1_addWeather_23 rfl (lv_at hl 0 rfl) ?_
        refine gt_X1_21 hE hC hK hP dX1_addWeather_24 ?_
        refine lv_aload_n hx hb dX1_addWeather_27 rfl (lv_at hl 0 rfl) ?_
        refine gt_X1_48 hE hC hK hP dX1_addWeather_28 ?_
        obtain ⟨r4, hc4, h⟩ := ob h
        refine callRS (As := [.ref (ad (q + 4)), .int (I q 7)]) (rest := []) hC (c_X2_sum l g (xW ad g I J) (q + 4) 6 (I (q + 4)) (ad (q + 4)) (xEa4 hE) (I q 7) hc4) lk_X1_61 rfl rfl ⟨Nat.le_of_ble_eq_true rfl, Nat.le_of_ble_eq_true rfl⟩ hP hK rfl rfl hl (Nat.le_of_ble_eq_true rfl) dX1_addWeather_31 ?_
        refine lv_iload_n hx hb dX1_addWeather_34 rfl (lv_at hl 1 rfl) ?_
        refine lv_iadd hx hb dX1_addWeather_35 ?_
        refine lv_bipush (v := 100) hx hb dX1_addWeather_36 (by decide) ?_
        refine lv_icmp_le (tgt := 43) hx hb dX1_addWeather_38 (by decide) (fun c5 => ?_) (fun c5 => ?_)
        · replace h := (if_pos c5).symm.trans h
          refine lv_aload_n hx hb dX1_addWeather_43 rfl (lv_at hl 0 rfl) ?_
          refine gt_X1_21 hE hC hK hP dX1_addWeather_44 ?_
          refine lv_aload_n hx hb dX1_addWeather_47 rfl (lv_at hl 0 rfl) ?_
          refine gt_X1_48 hE hC hK hP dX1_addWeather_48 ?_
          refine lv_iload_n hx hb dX1_addWeather_51 rfl (lv_at hl 1 rfl) ?_
          obtain ⟨f_6, hc6, h⟩ := ob h
          refine callWSv (As := [.ref (ad (q + 4)), .int (I q 7), .int v1]) (rest := []) hC (c_X2_put l g (xW ad g I J) (fun f => xW ad g (u1 I (q + 4) f) J) (q + 4) 6 (I (q + 4)) (ad (q + 4)) (xEc4 hE).1 (xEc4 hE).2.1 (xEc4 hE).2.2 (I q 7) v1 H.size hc6) lk_X1_57 rfl rfl ⟨Nat.le_of_ble_eq_true rfl, Nat.le_of_ble_eq_true rfl⟩ hP hK hD hA hS rfl rfl hl (Nat.le_of_ble_eq_true rfl) dX1_addWeather_52 (fun H locs hP hD hS => ?_)
          refine lv_aload_n hx hb dX1_addWeather_55 rfl (lv_at hl 0 rfl) ?_
          refine gt_X1_24 hE hC hK hP dX1_addWeather_56 ?_
          refine lv_aload_n hx hb dX1_addWeather_59 rfl (lv_at hl 0 rfl) ?_
          refine gt_X1_48 hE hC hK hP dX1_addWeather_60 ?_
          refine lv_iload_n hx hb dX1_addWeather_63 rfl (lv_at hl 2 rfl) ?_
          obtain ⟨f_7, hc7, h⟩ := ob h
          refine callWSv (As := [.ref (ad (q + 5)), .int ((u1 I (q + 4) f_6) q 7), .int v2]) (rest := []) hC (c_X2_put l g (xW ad g (u1 I (q + 4) f_6) J) (fun f => xW ad g (u1 (u1 I (q + 4) f_6) (q + 5) f) J) (q + 5) 6 ((u1 I (q + 4) f_6) (q + 5)) (ad (q + 5)) (xEc5 hE).1 (xEc5 hE).2.1 (xEc5 hE).2.2 ((u1 I (q + 4) f_6) q 7) v2 H.size hc7) lk_X1_57 rfl rfl ⟨Nat.le_of_ble_eq_true rfl, Nat.le_of_ble_eq_true rfl⟩ hP hK hD hA hS rfl rfl hl (Nat.le_of_ble_eq_true rfl) dX1_addWeather_64 (fun H locs hP hD hS => ?_)
          refine lv_aload_n hx hb dX1_addWeather_67 rfl (lv_at hl 0 rfl) ?_
          refine lv_dup hx hb dX1_addWeather_68 rfl ?_
          refine gt_X1_48 hE hC hK hP dX1_addWeather_69 ?_
          refine lv_iconst (v := 1) hx hb dX1_addWeather_72 (by decide) ?_
          refine lv_iadd hx hb dX1_addWeather_73 ?_
          refine pt_X1_48 hE hC hK hP hD hS dX1_addWeather_74 (fun H locs hP hD hS => ?_)
          refine lv_iconst (v := 1) hx hb dX1_addWeather_77 (by decide) ?_
          obtain ⟨h1, h⟩ := Prod.mk.inj (Option.some.inj h)
          obtain ⟨rfl, rfl⟩ := Prod.mk.inj h
          exact hret _ _ _ _ _ dX1_addWeather_78 rfl h1 hP hD hS
        · replace h := (if_neg c5).symm.trans h
          refine lv_iconst (v := 0) hx hb dX1_addWeather_41 (by decide) ?_
          obtain ⟨h1, h⟩ := Prod.mk.inj (Option.some.inj h)
          obtain ⟨rfl, rfl⟩ := Prod.mk.inj h
          exact hret _ _ _ _ _ dX1_addWeather_42 rfl h1 hP hD hS
      · replace h := (if_neg c3).symm.trans h
        refine lv_iconst (v := 0) hx hb dX1_addWeather_21 (by decide) ?_
        obtain ⟨h1, h⟩ := Prod.mk.inj (Option.some.inj h)
        obtain ⟨rfl, rfl⟩ := Prod.mk.inj h
        exact hret _ _ _ _ _ dX1_addWeather_22 rfl h1 hP hD hS
def F_X1_tellSetting (q : Nat) (I : SI) (J : SJ) (v1 : Int32) (v2 : Int32) : Option (Int32 × SI × SJ) := ((F_X1_mostOf v1).bind fun r1 => (if v2 ≤ r1 then ((F_X1_putSetting q I J v1 v2).bind fun (I3, J3) => (some ((1 : Int32), I3, J3))) else (some ((0 : Int32), I, J))))
set_option maxHeartbeats 4000000 in
set_option maxRecDepth 100000 in
theorem c_X1_tellSetting (l : Launch) (g : Gx) (ad : Nat → Nat) (I : SI) (J : SJ) (qm : Nat) (q : Nat) (v1 : Int32) (v2 : Int32) (hE : isE q) (sz : Nat) {r : Int32} {rI : SI} {rJ : SJ} (h : F_X1_tellSetting q I J v1 v2 = some (r, rI, rJ)) : Met l yX1_tellSetting (Cond.code yX1_tellSetting cX1_tellSetting 3 (some .boolean) :: BG) (k2_rm 1 22) (PcWM [.ref (ad q), .int v1, .int v2] g (xW ad g I J) sz qm) (QWi r g (xW ad g I J) (xW ad g rI rJ) sz) 0 0 (va_A (xW ad g I J) sz) := by
  refine mkWMz (by decide) (Nat.le_of_ble_eq_true rfl) ?_
  intro p e s m args below meth c H locs ls A Q hC hK hP hD hA hS hZ hl hret
  have hx := hC.1
  have hb := hC.2.1
  have hts := hC.2.2.2.2
  have hown := hC.2.2.2.1
  replace hl : lv_has ls 3 [(0, .ref (ad q)), (1, .int v1), (2, .int v2)] := hl
  unfold F_X1_tellSetting at h
  refine lv_iload_n hx hb dX1_tellSetting_0 rfl (lv_at hl 2 rfl) ?_
  refine lv_iload_n hx hb dX1_tellSetting_1 rfl (lv_at hl 1 rfl) ?_
  obtain ⟨r1, hc1, h⟩ := ob h
  refine callRSM (As := [.int v1]) (rest := [.int v2]) hC (c_X1_mostOf l g (xW ad g I J) qm v1 hc1) lk_X1_65 rfl rfl ⟨Nat.le_of_ble_eq_true rfl, Nat.le_of_ble_eq_true rfl⟩ hP hK hD hA hS hZ rfl rfl hl (Nat.le_of_ble_eq_true rfl) dX1_tellSetting_2 ?_
  refine lv_icmp_le (tgt := 10) hx hb dX1_tellSetting_5 (by decide) (fun c2 => ?_) (fun c2 => ?_)
  · replace h := (if_pos c2).symm.trans h
    refine lv_aload_n hx hb dX1_tellSetting_10 rfl (lv_at hl 0 rfl) ?_
    refine lv_iload_n hx hb dX1_tellSetting_11 rfl (lv_at hl 1 rfl) ?_
    refine lv_iload_n hx hb dX1_tellSetting_12 rfl (lv_at hl 2 rfl) ?_
    obtain ⟨⟨I3, J3⟩, hc3, h⟩ := ob h
    dsimp only at h
    refine callWVv (As := [.int v1, .int v2]) (rest := []) hC (c_X1_putSetting l g ad I J q v1 v2 hE H.size hc3) lk_X1_69 rfl rfl ⟨Nat.le_of_ble_eq_true rfl, Nat.le_of_ble_eq_true rfl⟩ hP hK hD hA hS (xEo hE) rfl rfl rfl hl (Nat.le_of_ble_eq_true rfl) dX1_tellSetting_13 (fun H locs hP hD hS => ?_)
    refine lv_iconst (v := 1) hx hb dX1_tellSetting_16 (by decide) ?_
    obtain ⟨h1, h⟩ := Prod.mk.inj (Option.some.inj h)
    obtain ⟨rfl, rfl⟩ := Prod.mk.inj h
    exact hret _ _ _ _ _ dX1_tellSetting_17 rfl h1 hP hD hS
  · replace h := (if_neg c2).symm.trans h
    refine lv_iconst (v := 0) hx hb dX1_tellSetting_8 (by decide) ?_
    obtain ⟨h1, h⟩ := Prod.mk.inj (Option.some.inj h)
    obtain ⟨rfl, rfl⟩ := Prod.mk.inj h
    exact hret _ _ _ _ _ dX1_tellSetting_9 rfl h1 hP hD hS
def F_X1_tellPair (q : Nat) (I : SI) (J : SJ) (v1 : Int32) (v2 : Int32) (v3 : Int32) : Option (Int32 × SI × SJ) := ((F_X1_tellSetting q I J v1 v2).bind fun (r1, I1, J1) => (if r1 = 0 then (some ((0 : Int32), I1, J1)) else ((F_X1_tellSetting q I1 J1 (v1 + (1 : Int32)) v3).bind fun (r3, I3, J3) => (if r3 = 0 then (some ((0 : Int32), I3, J3)) else (some ((1 : Int32), I3, J3))))))
set_option maxHeartbeats 4000000 in
set_option maxRecDepth 100000 in
theorem c_X1_tellPair (l : Launch) (g : Gx) (ad : Nat → Nat) (I : SI) (J : SJ) (qm : Nat) (q : Nat) (v1 : Int32) (v2 : Int32) (v3 : Int32) (hE : isE q) (sz : Nat) {r : Int32} {rI : SI} {rJ : SJ} (h : F_X1_tellPair q I J v1 v2 v3 = some (r, rI, rJ)) : Met l yX1_tellPair (Cond.code yX1_tellPair cX1_tellPair 4 (some .boolean) :: BG) (k2_rm 2 44) (PcWM [.ref (ad q), .int v1, .int v2, .int v3] g (xW ad g I J) sz qm) (QWi r g (xW ad g I J) (xW ad g rI rJ) sz) 0 0 (va_A (xW ad g I J) sz) := by
  refine mkWMz (by decide) (Nat.le_of_ble_eq_true rfl) ?_
  intro p e s m args below meth c H locs ls A Q hC hK hP hD hA hS hZ hl hret
  have hx := hC.1
  have hb := hC.2.1
  have hts := hC.2.2.2.2
  have hown := hC.2.2.2.1
  replace hl : lv_has ls 4 [(0, .ref (ad q)), (1, .int v1), (2, .int v2), (3, .int v3)] := hl
  unfold F_X1_tellPair at h
  refine lv_aload_n hx hb dX1_tellPair_0 rfl (lv_at hl 0 rfl) ?_
  refine lv_iload_n hx hb dX1_tellPair_1 rfl (lv_at hl 1 rfl) ?_
  refine lv_iload_n hx hb dX1_tellPair_2 rfl (lv_at hl 2 rfl) ?_
  obtain ⟨⟨r1, I1, J1⟩, hc1, h⟩ := ob h
  dsimp only at h
  refine callWVMi (As := [.int v1, .int v2]) (rest := []) hC (c_X1_tellSetting l g ad I J qm q v1 v2 hE H.size hc1) lk_X1_73 rfl rfl ⟨Nat.le_of_ble_eq_true rfl, Nat.le_of_ble_eq_true rfl⟩ hP hK hD hA hS hZ (xEo hE) rfl rfl rfl hl (Nat.le_of_ble_eq_true rfl) dX1_tellPair_3 (fun H locs hP hD hS => ?_)
  refine lv_if_eq (tgt := 24) hx hb dX1_tellPair_6 (by decide) (fun c2 => ?_) (fun c2 => ?_)
  · replace h := (if_pos c2).symm.trans h
    refine lv_iconst (v := 0) hx hb dX1_tellPair_24 (by decide) ?_
    obtain ⟨h1, h⟩ := Prod.mk.inj (Option.some.inj h)
    obtain ⟨rfl, rfl⟩ := Prod.mk.inj h
    exact hret _ _ _ _ _ dX1_tellPair_25 rfl h1 hP hD hS
  · replace h := (if_neg c2).symm.trans h
    refine lv_aload_n hx hb dX1_tellPair_9 rfl (lv_at hl 0 rfl) ?_
    refine lv_iload_n hx hb dX1_tellPair_10 rfl (lv_at hl 1 rfl) ?_
    refine lv_iconst (v := 1) hx hb dX1_tellPair_11 (by decide) ?_
    refine lv_iadd hx hb dX1_tellPair_12 ?_
    refine lv_iload_n hx hb dX1_tellPair_13 rfl (lv_at hl 3 rfl) ?_
    obtain ⟨⟨r3, I3, J3⟩, hc3, h⟩ := ob h
    dsimp only at h
    refine callWVMi (As := [.int (v1 + (1 : Int32)), .int v3]) (rest := []) hC (c_X1_tellSetting l g ad I1 J1 qm q (v1 + (1 : Int32)) v3 hE H.size hc3) lk_X1_73 rfl rfl ⟨Nat.le_of_ble_eq_true rfl, Nat.le_of_ble_eq_true rfl⟩ hP hK hD hA hS hZ (xEo hE) rfl rfl rfl hl (Nat.le_of_ble_eq_true rfl) dX1_tellPair_14 (fun H locs hP hD hS => ?_)
    refine lv_if_eq (tgt := 24) hx hb dX1_tellPair_17 (by decide) (fun c4 => ?_) (fun c4 => ?_)
    · replace h := (if_pos c4).symm.trans h
      refine lv_iconst (v := 0) hx hb dX1_tellPair_24 (by decide) ?_
      obtain ⟨h1, h⟩ := Prod.mk.inj (Option.some.inj h)
      obtain ⟨rfl, rfl⟩ := Prod.mk.inj h
      exact hret _ _ _ _ _ dX1_tellPair_25 rfl h1 hP hD hS
    · replace h := (if_neg c4).symm.trans h
      refine lv_iconst (v := 1) hx hb dX1_tellPair_20 (by decide) ?_
      refine lv_goto (tgt := 25) hx hb dX1_tellPair_21 (by decide) ?_
      obtain ⟨h1, h⟩ := Prod.mk.inj (Option.some.inj h)
      obtain ⟨rfl, rfl⟩ := Prod.mk.inj h
      exact hret _ _ _ _ _ dX1_tellPair_25 rfl h1 hP hD hS
