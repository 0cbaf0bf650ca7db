def F_X1_otherWorth (q : Nat) (I : SI) (J : SJ) : Option (Int64) := ((F_X1_setting q I J (1 : Int32)).bind fun r1 => (some ((1000 : Int64) * (Int32.toInt64 r1))))
set_option maxHeartbeats 4000000 in
set_option maxRecDepth 100000 in
theorem c_X1_otherWorth (l : Launch) (g : Gx) (ad : Nat → Nat) (I : SI) (J : SJ) (q : Nat) (hE : isE q) {r : Int64} (h : F_X1_otherWorth q I J = some r) : Met l yX1_otherWorth (Cond.code yX1_otherWorth cX1_otherWorth 1 (some .long) :: BG) (k2_rm 1 21) (va_Pc [.ref (ad q)] (fun U => Pg g (xW ad g I J) U.heap ∧ Kg g U)) (k2_QcV (.long r)) 0 0 (fun _ => False) := by
  refine mkRl (by decide) (Nat.le_of_ble_eq_true rfl) ?_
  intro p e s m args below meth c H locs ls Q hC hK hP hl hret
  have hx := hC.1
  have hb := hC.2.1
  have hts := hC.2.2.2.2
  have hown := hC.2.2.2.1
  replace hl : lv_has ls 1 [(0, .ref (ad q))] := hl
  unfold F_X1_otherWorth at h
  refine lv_ldc2 hx hb hown (hts _ kc_X1_77) dX1_otherWorth_0 ?_
  refine lv_aload_n hx hb dX1_otherWorth_3 rfl (lv_at hl 0 rfl) ?_
  refine lv_iconst (v := 1) hx hb dX1_otherWorth_4 (by decide) ?_
  obtain ⟨r1, hc1, h⟩ := ob h
  refine callRV (As := [.int (1 : Int32)]) (rest := [.long (1000 : Int64)]) hC (c_X1_setting l g ad I J q (1 : Int32) hE hc1) lk_X1_79 rfl rfl ⟨Nat.le_of_ble_eq_true rfl, Nat.le_of_ble_eq_true rfl⟩ hP hK (xEo hE) rfl rfl rfl hl (Nat.le_of_ble_eq_true rfl) dX1_otherWorth_5 ?_
  refine lv_i2l hx hb dX1_otherWorth_8 rfl ?_
  refine lv_lmul hx hb dX1_otherWorth_9 ?_
  exact hret _ _ _ dX1_otherWorth_10 (Option.some.inj h)
def F_X3_addWeather (t2 : Nat) (I : SI) (J : SJ) (v3 : Int32) (v4 : Int32) (v5 : Int32) (v6 : Int32) : Option (SI × SJ) := ((F_X4_harvestOf I J v3 v6).bind fun r1 => ((F_X1_bushelsOf 0 t2 I J (r1 - (if r1 < v5 then r1 else v5)) (0 : Int32) (0 : Int32)).bind fun r2 => ((F_X1_mindOf 0 I J (0 : Int32) (r2 + (if r1 < v5 then r1 else v5))).bind fun r3 => (if (if r1 < v5 then r1 else v5) ≤ 0 then ((F_X4_chanceOf I J v6).bind fun r5 => ((F_X2_at_ 21 (J 54) v5).bind fun r6 => ((F_X2_put_ 21 (J 54) v5 (r6 + ((Int32.toInt64 r5) * (Int32.toInt64 r3)))).bind fun f_7 => ((F_X2_at_ 21 ((u1 J 54 f_7) 53) v5).bind fun r8 => ((F_X2_put_ 21 ((u1 J 54 f_7) 53) v5 (r8 + ((Int32.toInt64 r5) * (Int32.toInt64 r3)))).bind fun f_9 => (some (I, (u1 (u1 J 54 f_7) 53 f_9)))))))) else ((F_X1_seedOf 0 I J (0 : Int32)).bind fun r10 => ((F_X1_mindOf 0 I J (0 : Int32) ((-v4) - r10)).bind fun r11 => ((F_X4_chanceOf I J v6).bind fun r12 => ((F_X2_at_ 21 (J 54) v5).bind fun r13 => ((F_X2_put_ 21 (J 54) v5 (r13 + ((Int32.toInt64 r12) * (Int32.toInt64 r3)))).bind fun f_14 => ((F_X2_at_ 21 ((u1 J 54 f_14) 53) v5).bind fun r15 => ((F_X2_put_ 21 ((u1 J 54 f_14) 53) v5 (r15 + ((Int32.toInt64 r12) * (Int32.toInt64 r11)))).bind fun f_16 => (some (I, (u1 (u1 J 54 f_14) 53 f_16))))))))))))))
set_option maxHeartbeats 4000000 in
set_option maxRecDepth 100000 in
theorem c_X3_addWeather (l : Launch) (g : Gx) (ad : Nat → Nat) (I : SI) (J : SJ) (t2 : Nat) (v3 : Int32) (v4 : Int32) (v5 : Int32) (v6 : Int32) (hT2 : isT t2) (sz : Nat) {rI : SI} {rJ : SJ} (h : F_X3_addWeather t2 I J v3 v4 v5 v6 = some (rI, rJ)) : Met l yX3_addWeather (Cond.code yX3_addWeather cX3_addWeather 14 none :: BG) (k2_rm 3 70) (PcW [.ref (ad 52), .ref (ad 47), .ref (ad t2), .int v3, .int v4, .int v5, .int v6] g (xW ad g I J) sz) (QWv g (xW ad g I J) (xW ad g rI rJ) sz) 0 0 (va_A (xW ad g I J) sz) := by
  refine mkWv (by decide) (Nat.le_of_ble_eq_true rfl) ?_
  intro p e s m args below meth c H locs ls A Q hC hK hP hD hA hS hl hret
  have hx := hC.1
  have hb := hC.2.1
  have hts := hC.2.2.2.2
  have hown := hC.2.2.2.1
  replace hl : lv_has ls 14 [(0, .ref (ad 52)), (1, .ref (ad 47)), (2, .ref (ad t2)), (3, .int v3), (4, .int v4), (5, .int v5), (6, .int v6)] := hl
  unfold F_X3_addWeather at h
  refine lv_aload_n hx hb dX3_addWeather_0 rfl (lv_at hl 1 rfl) ?_
  refine gt_X3_34 hC hK hP dX3_addWeather_1 ?_
  refine lv_astore (lv' := [(7, .ref (ad 0)), (0, .ref (ad 52)), (1, .ref (ad 47)), (2, .ref (ad t2)), (3, .int v3), (4, .int v4), (5, .int v5), (6, .int v6)]) hx hb dX3_addWeather_4 hl (by decide) rfl (fun ls hl => ?_)
  refine lv_aload_n hx hb dX3_addWeather_6 rfl (lv_at hl 2 rfl) ?_
  refine lv_iload_n hx hb dX3_addWeather_7 rfl (lv_at hl 4 rfl) ?_
  refine lv_iload hx hb dX3_addWeather_8 (lv_at hl 7 rfl) ?_
  obtain ⟨r1, hc1, h⟩ := ob h
  refine callRV (As := [.int v3, .int v6]) (rest := []) hC (c_X4_harvestOf l g ad I J v3 v6  hc1) lk_X3_38 rfl rfl ⟨Nat.le_of_ble_eq_true rfl, Nat.le_of_ble_eq_true rfl⟩ hP hK xo_47 rfl rfl rfl hl (Nat.le_of_ble_eq_true rfl) dX3_addWeather_10 ?_
  refine lv_istore (lv' := [(8, .int r1), (7, .ref (ad 0)), (0, .ref (ad 52)), (1, .ref (ad 47)), (2, .ref (ad t2)), (3, .int v3), (4, .int v4), (5, .int v5), (6, .int v6)]) hx hb dX3_addWeather_13 hl (by decide) rfl (fun ls hl => ?_)
  refine lv_iload hx hb dX3_addWeather_15 (lv_at hl 7 rfl) ?_
  refine lv_iload hx hb dX3_addWeather_17 (lv_at hl 0 rfl) ?_
  refine va_mmin hx hb (hC.2.2.1.trans hl.1.symm) hown (hts _ ml_X3_42) (hts _ sm_minI) (hts _ ini_math) (hts _ cd_minI) (Nat.le_of_ble_eq_true rfl) (Nat.le_of_ble_eq_true rfl) (Nat.zero_le _) (Nat.zero_le _) dX3_addWeather_19 ?_
  refine lv_istore (lv' := [(9, .int (if r1 < v5 then r1 else v5)), (8, .int r1), (7, .ref (ad 0)), (0, .ref (ad 52)), (1, .ref (ad 47)), (2, .ref (ad t2)), (3, .int v3), (4, .int v4), (5, .int v5), (6, .int v6)]) hx hb dX3_addWeather_22 hl (by decide) rfl (fun ls hl => ?_)
  refine lv_aload hx hb dX3_addWeather_24 (lv_at hl 2 rfl) ?_
  refine lv_iconst (v := 0) hx hb dX3_addWeather_26 (by decide) ?_
  refine lv_aload hx hb dX3_addWeather_27 (lv_at hl 2 rfl) ?_
  refine lv_aload_n hx hb dX3_addWeather_29 rfl (lv_at hl 5 rfl) ?_
  refine lv_iload hx hb dX3_addWeather_30 (lv_at hl 1 rfl) ?_
  refine lv_iload hx hb dX3_addWeather_32 (lv_at hl 0 rfl) ?_
  refine lv_isub hx hb dX3_addWeather_34 ?_
  refine lv_iconst (v := 0) hx hb dX3_addWeather_35 (by decide) ?_
  refine lv_iconst (v := 0) hx hb dX3_addWeather_36 (by decide) ?_
  obtain ⟨r2, hc2, h⟩ := ob h
  refine callRV (As := [.ref (ad t2), .int (r1 - (if r1 < v5 then r1 else v5)), .int (0 : Int32), .int (0 : Int32)]) (rest := [.int (0 : Int32), .ref (ad 0)]) hC (c_X1_bushelsOf l g ad I J 0 t2 (r1 - (if r1 < v5 then r1 else v5)) (0 : Int32) (0 : Int32) (Or.inl rfl) hT2 hc2) lk_X3_47 rfl rfl ⟨Nat.le_of_ble_eq_true rfl, Nat.le_of_ble_eq_true rfl⟩ hP hK (xEo (Or.inl rfl)) rfl rfl rfl hl (Nat.le_of_ble_eq_true rfl) dX3_addWeather_37 ?_
  refine lv_iload hx hb dX3_addWeather_40 (lv_at hl 0 rfl) ?_
  refine lv_iadd hx hb dX3_addWeather_42 ?_
  obtain ⟨r3, hc3, h⟩ := ob h
  refine callRV (As := [.int (0 : Int32), .int (r2 + (if r1 < v5 then r1 else v5))]) (rest := []) hC (c_X1_mindOf l g ad I J 0 (0 : Int32) (r2 + (if r1 < v5 then r1 else v5)) (Or.inl rfl) hc3) lk_X3_53 rfl rfl ⟨Nat.le_of_ble_eq_true rfl, Nat.le_of_ble_eq_true rfl⟩ hP hK (xEo (Or.inl rfl)) rfl rfl rfl hl (Nat.le_of_ble_eq_true rfl) dX3_addWeather_43 ?_
  refine lv_istore (lv' := [(10, .int r3), (9, .int (if r1 < v5 then r1 else v5)), (8, .int r1), (7, .ref (ad 0)), (0, .ref (ad 52)), (1, .ref (ad 47)), (2, .ref (ad t2)), (3, .int v3), (4, .int v4), (5, .int v5), (6, .int v6)]) hx hb dX3_addWeather_46 hl (by decide) rfl (fun ls hl => ?_)
  refine lv_iload hx hb dX3_addWeather_48 (lv_at hl 1 rfl) ?_
  refine lv_if_le (tgt := 72) hx hb dX3_addWeather_50 (by decide) (fun c4 => ?_) (fun c4 => ?_)
  · replace h := (if_pos c4).symm.trans h
    refine lv_iload hx hb dX3_addWeather_72 (lv_at hl 0 rfl) ?_
    refine lv_istore (lv' := [(11, .int r3), (10, .int r3), (9, .int (if r1 < v5 then r1 else v5)), (8, .int r1), (7, .ref (ad 0)), (0, .ref (ad 52)), (1, .ref (ad 47)), (2, .ref (ad t2)), (3, .int v3), (4, .int v4), (5, .int v5), (6, .int v6)]) hx hb dX3_addWeather_74 hl (by decide) rfl (fun ls hl => ?_)
    refine lv_aload_n hx hb dX3_addWeather_76 rfl (lv_at hl 6 rfl) ?_
    refine lv_iload hx hb dX3_addWeather_77 (lv_at hl 11 rfl) ?_
    obtain ⟨r5, hc5, h⟩ := ob h
    refine callRV (As := [.int v6]) (rest := []) hC (c_X4_chanceOf l g ad I J v6  hc5) lk_X3_60 rfl rfl ⟨Nat.le_of_ble_eq_true rfl, Nat.le_of_ble_eq_true rfl⟩ hP hK xo_47 rfl rfl rfl hl (Nat.le_of_ble_eq_true rfl) dX3_addWeather_79 ?_
    refine lv_i2l hx hb dX3_addWeather_82 rfl ?_
    refine lv_lstore (lv' := [(12, .long (Int32.toInt64 r5)), (11, .int r3), (10, .int r3), (9, .int (if r1 < v5 then r1 else v5)), (8, .int r1), (7, .ref (ad 0)), (0, .ref (ad 52)), (1, .ref (ad 47)), (2, .ref (ad t2)), (3, .int v3), (4, .int v4), (5, .int v5), (6, .int v6)]) hx hb dX3_addWeather_83 hl (by decide) rfl (fun ls hl => ?_)
    refine lv_aload_n hx hb dX3_addWeather_85 rfl (lv_at hl 6 rfl) ?_
    refine gt_X3_15 hC hK hP dX3_addWeather_86 ?_
    refine lv_iload hx hb dX3_addWeather_89 (lv_at hl 11 rfl) ?_
    refine lv_aload_n hx hb dX3_addWeather_91 rfl (lv_at hl 6 rfl) ?_
    refine gt_X3_15 hC hK hP dX3_addWeather_92 ?_
    refine lv_iload hx hb dX3_addWeather_95 (lv_at hl 11 rfl) ?_
    obtain ⟨r6, hc6, h⟩ := ob h
    refine callRS (As := [.ref (ad 54), .int v5]) (rest := [.int v5, .ref (ad 54)]) hC (c_X2_at_ l g (xW ad g I J) 54 21 (J 54) (ad 54) xo_54 v5 hc6) lk_X3_63 rfl rfl ⟨Nat.le_of_ble_eq_true rfl, Nat.le_of_ble_eq_true rfl⟩ hP hK rfl rfl hl (Nat.le_of_ble_eq_true rfl) dX3_addWeather_97 ?_
    refine lv_lload hx hb dX3_addWeather_100 (lv_at hl 0 rfl) ?_
    refine lv_iload hx hb dX3_addWeather_102 (lv_at hl 2 rfl) ?_
    refine lv_i2l hx hb dX3_addWeather_104 rfl ?_
    refine lv_lmul hx hb dX3_addWeather_105 ?_
    refine lv_ladd hx hb dX3_addWeather_106 ?_
    obtain ⟨f_7, hc7, h⟩ := ob h
    refine callWSv (As := [.ref (ad 54), .int v5, .long (r6 + ((Int32.toInt64 r5) * (Int32.toInt64 r3)))]) (rest := []) hC (c_X2_put_ l g (xW ad g I J) (fun f => xW ad g I (u1 J 54 f)) 54 21 (J 54) (ad 54) xc_54.1 xc_54.2.1 xc_54.2.2 v5 (r6 + ((Int32.toInt64 r5) * (Int32.toInt64 r3))) H.size hc7) lk_X3_18 rfl rfl ⟨Nat.le_of_ble_eq_true rfl, Nat.le_of_ble_eq_true rfl⟩ hP hK hD hA hS rfl rfl hl (Nat.le_of_ble_eq_true rfl) dX3_addWeather_107 (fun H locs hP hD hS => ?_)
    refine lv_aload_n hx hb dX3_addWeather_110 rfl (lv_at hl 6 rfl) ?_
    refine gt_X3_11 hC hK hP dX3_addWeather_111 ?_
    refine lv_iload hx hb dX3_addWeather_114 (lv_at hl 11 rfl) ?_
    refine lv_aload_n hx hb dX3_addWeather_116 rfl (lv_at hl 6 rfl) ?_
    refine gt_X3_11 hC hK hP dX3_addWeather_117 ?_
    refine lv_iload hx hb dX3_addWeather_120 (lv_at hl 11 rfl) ?_
    obtain ⟨r8, hc8, h⟩ := ob h
    refine callRS (As := [.ref (ad 53), .int v5]) (rest := [.int v5, .ref (ad 53)]) hC (c_X2_at_ l g (xW ad g I (u1 J 54 f_7)) 53 21 ((u1 J 54 f_7) 53) (ad 53) xo_53 v5 hc8) lk_X3_63 rfl rfl ⟨Nat.le_of_ble_eq_true rfl, Nat.le_of_ble_eq_true rfl⟩ hP hK rfl rfl hl (Nat.le_of_ble_eq_true rfl) dX3_addWeather_122 ?_
    refine lv_lload hx hb dX3_addWeather_125 (lv_at hl 0 rfl) ?_
    refine lv_iload hx hb dX3_addWeather_127 (lv_at hl 1 rfl) ?_
    refine lv_i2l hx hb dX3_addWeather_129 rfl ?_
    refine lv_lmul hx hb dX3_addWeather_130 ?_
    refine lv_ladd hx hb dX3_addWeather_131 ?_
    obtain ⟨f_9, hc9, h⟩ := ob h
    refine callWSv (As := [.ref (ad 53), .int v5, .long (r8 + ((Int32.toInt64 r5) * (Int32.toInt64 r3)))]) (rest := []) hC (c_X2_put_ l g (xW ad g I (u1 J 54 f_7)) (fun f => xW ad g I (u1 (u1 J 54 f_7) 53 f)) 53 21 ((u1 J 54 f_7) 53) (ad 53) xc_53.1 xc_53.2.1 xc_53.2.2 v5 (r8 + ((Int32.toInt64 r5) * (Int32.toInt64 r3))) H.size hc9) lk_X3_18 rfl rfl ⟨Nat.le_of_ble_eq_true rfl, Nat.le_of_ble_eq_true rfl⟩ hP hK hD hA hS rfl rfl hl (Nat.le_of_ble_eq_true rfl) dX3_addWeather_132 (fun H locs hP hD hS => ?_)
    obtain ⟨rfl, rfl⟩ := Prod.mk.inj (Option.some.inj h)
    exact hret _ _ _ _ dX3_addWeather_135 hP hD hS
  · replace h := (if_neg c4).symm.trans h
    refine lv_aload hx hb dX3_addWeather_53 (lv_at hl 3 rfl) ?_
    refine lv_iconst (v := 0) hx hb dX3_addWeather_55 (by decide) ?_
    refine lv_iload hx hb dX3_addWeather_56 (lv_at hl 8 rfl) ?_
    refine lv_ineg hx hb dX3_addWeather_58 ?_
    refine lv_aload hx hb dX3_addWeather_59 (lv_at hl 3 rfl) ?_
    refine lv_iconst (v := 0) hx hb dX3_addWeather_61 (by decide) ?_
    obtain ⟨r10, hc10, h⟩ := ob h
    refine callRV (As := [.int (0 : Int32)]) (rest := [.int (-v4), .int (0 : Int32), .ref (ad 0)]) hC (c_X1_seedOf l g ad I J 0 (0 : Int32) (Or.inl rfl) hc10) lk_X3_56 rfl rfl ⟨Nat.le_of_ble_eq_true rfl, Nat.le_of_ble_eq_true rfl⟩ hP hK (xEo (Or.inl rfl)) rfl rfl rfl hl (Nat.le_of_ble_eq_true rfl) dX3_addWeather_62 ?_
    refine lv_isub hx hb dX3_addWeather_65 ?_
    obtain ⟨r11, hc11, h⟩ := ob h
    refine callRV (As := [.int (0 : Int32), .int ((-v4) - r10)]) (rest := []) hC (c_X1_mindOf l g ad I J 0 (0 : Int32) ((-v4) - r10) (Or.inl rfl) hc11) lk_X3_53 rfl rfl ⟨Nat.le_of_ble_eq_true rfl, Nat.le_of_ble_eq_true rfl⟩ hP hK (xEo (Or.inl rfl)) rfl rfl rfl hl (Nat.le_of_ble_eq_true rfl) dX3_addWeather_66 ?_
    refine lv_goto (tgt := 74) hx hb dX3_addWeather_69 (by decide) ?_
    refine lv_istore (lv' := [(11, .int r11), (10, .int r3), (9, .int (if r1 < v5 then r1 else v5)), (8, .int r1), (7, .ref (ad 0)), (0, .ref (ad 52)), (1, .ref (ad 47)), (2, .ref (ad t2)), (3, .int v3), (4, .int v4), (5, .int v5), (6, .int v6)]) hx hb dX3_addWeather_74 hl (by decide) rfl (fun ls hl => ?_)
    refine lv_aload_n hx hb dX3_addWeather_76 rfl (lv_at hl 6 rfl) ?_
    refine lv_iload hx hb dX3_addWeather_77 (lv_at hl 11 rfl) ?_
    obtain ⟨r12, hc12, h⟩ := ob h
    refine callRV (As := [.int v6]) (rest := []) hC (c_X4_chanceOf l g ad I J v6  hc12) lk_X3_60 rfl rfl ⟨Nat.le_of_ble_eq_true rfl, Nat.le_of_ble_eq_true rfl⟩ hP hK xo_47 rfl rfl rfl hl (Nat.le_of_ble_eq_true rfl) dX3_addWeather_79 ?_
    refine lv_i2l hx hb dX3_addWeather_82 rfl ?_
    refine lv_lstore (lv' := [(12, .long (Int32.toInt64 r12)), (11, .int r11), (10, .int r3), (9, .int (if r1 < v5 then r1 else v5)), (8, .int r1), (7, .ref (ad 0)), (0, .ref (ad 52)), (1, .ref (ad 47)), (2, .ref (ad t2)), (3, .int v3), (4, .int v4), (5, .int v5), (6, .int v6)]) hx hb dX3_addWeather_83 hl (by decide) rfl (fun ls hl => ?_)
    refine lv_aload_n hx hb dX3_addWeather_85 rfl (lv_at hl 6 rfl) ?_
    refine gt_X3_15 hC hK hP dX3_addWeather_86 ?_
    refine lv_iload hx hb dX3_addWeather_89 (lv_at hl 11 rfl) ?_
    refine lv_aload_n hx hb dX3_addWeather_91 rfl (lv_at hl 6 rfl) ?_
    refine gt_X3_15 hC hK hP dX3_addWeather_92 ?_
    refine lv_iload hx hb dX3_addWeather_95 (lv_at hl 11 rfl) ?_
    obtain ⟨r13, hc13, h⟩ := ob h
    refine callRS (As := [.ref (ad 54), .int v5]) (rest := [.int v5, .ref (ad 54)]) hC (c_X2_at_ l g (xW ad g I J) 54 21 (J 54) (ad 54) xo_54 v5 hc13) lk_X3_63 rfl rfl ⟨Nat.le_of_ble_eq_true rfl, Nat.le_of_ble_eq_true rfl⟩ hP hK rfl rfl hl (Nat.le_of_ble_eq_true rfl) dX3_addWeather_97 ?_
    refine lv_lload hx hb dX3_addWeather_100 (lv_at hl 0 rfl) ?_
    refine lv_iload hx hb dX3_addWeather_102 (lv_at hl 2 rfl) ?_
    refine lv_i2l hx hb dX3_addWeather_104 rfl ?_
    refine lv_lmul hx hb dX3_addWeather_105 ?_
    refine lv_ladd hx hb dX3_addWeather_106 ?_
    obtain ⟨f_14, hc14, h⟩ := ob h
    refine callWSv (As := [.ref (ad 54), .int v5, .long (r13 + ((Int32.toInt64 r12) * (Int32.toInt64 r3)))]) (rest := []) hC (c_X2_put_ l g (xW ad g I J) (fun f => xW ad g I (u1 J 54 f)) 54 21 (J 54) (ad 54) xc_54.1 xc_54.2.1 xc_54.2.2 v5 (r13 + ((Int32.toInt64 r12) * (Int32.toInt64 r3))) H.size hc14) lk_X3_18 rfl rfl ⟨Nat.le_of_ble_eq_true rfl, Nat.le_of_ble_eq_true rfl⟩ hP hK hD hA hS rfl rfl hl (Nat.le_of_ble_eq_true rfl) dX3_addWeather_107 (fun H locs hP hD hS => ?_)
    refine lv_aload_n hx hb dX3_addWeather_110 rfl (lv_at hl 6 rfl) ?_
    refine gt_X3_11 hC hK hP dX3_addWeather_111 ?_
    refine lv_iload hx hb dX3_addWeather_114 (lv_at hl 11 rfl) ?_
    refine lv_aload_n hx hb dX3_addWeather_116 rfl (lv_at hl 6 rfl) ?_
    refine gt_X3_11 hC hK hP dX3_addWeather_117 ?_
    refine lv_iload hx hb dX3_addWeather_120 (lv_at hl 11 rfl) ?_
    obtain ⟨r15, hc15, h⟩ := ob h
    refine callRS (As := [.ref (ad 53), .int v5]) (rest := [.int v5, .ref (ad 53)]) hC (c_X2_at_ l g (xW ad g I (u1 J 54 f_14)) 53 21 ((u1 J 54 f_14) 53) (ad 53) xo_53 v5 hc15) lk_X3_63 rfl rfl ⟨Nat.le_of_ble_eq_true rfl, Nat.le_of_ble_eq_true rfl⟩ hP hK rfl rfl hl (Nat.le_of_ble_eq_true rfl) dX3_addWeather_122 ?_
    refine lv_lload hx hb dX3_addWeather_125 (lv_at hl 0 rfl) ?_
    refine lv_iload hx hb dX3_addWeather_127 (lv_at hl 1 rfl) ?_
    refine lv_i2l hx hb dX3_addWeather_129 rfl ?_
    refine lv_lmul hx hb dX3_addWeather_130 ?_
    refine lv_ladd hx hb dX3_addWeather_131 ?_
    obtain ⟨f_16, hc16, h⟩ := ob h
    refine callWSv (As := [.ref (ad 53), .int v5, .long (r15 + ((Int32.toInt64 r12) * (Int32.toInt64 r11)))]) (rest := []) hC (c_X2_put_ l g (xW ad g I (u1 J 54 f_14)) (fun f => xW ad g I (u1 (u1 J 54 f_14) 53 f)) 53 21 ((u1 J 54 f_14) 53) (ad 53) xc_53.1 xc_53.2.1 xc_53.2.2 v5 (r15 + ((Int32.toInt64 r12) * (Int32.toInt64 r11))) H.size hc16) lk_X3_18 rfl rfl ⟨Nat.le_of_ble_eq_true rfl, Nat.le_of_ble_eq_true rfl⟩ hP hK hD hA hS rfl rfl hl (Nat.le_of_ble_eq_true rfl) dX3_addWeather_132 (fun H locs hP hD hS => ?_)
    obtain ⟨rfl, rfl⟩ := Prod.mk.inj (Option.some.inj h)
    exact hret _ _ _ _ dX3_addWeather_135 hP hD hS
def FS_X3_lay_37  : Nat → SI → SJ → Nat → Int32 → Int32 → Int32 → Int32 → Option (SI × SJ × Int32 × Int32 × Int32 × Int32)
  | 0, _, _, _, _, _, _, _ => none
  | n + 1, I, J, w2_37, w3_37, w4_37, w5_37, w6_37 => (if (I 47 6) ≤ w6_37 then (some (I, J, w3_37, w4_37, w5_37, w6_37)) else ((F_X3_addWeather w2_37 I J w3_37 w4_37 w5_37 w6_37).bind fun (I5, J5) => (FS_X3_lay_37 n I5 J5 w2_37 w3_37 w4_37 w5_37 (w6_37 + 1))))
def FL_X3_lay_3  : Nat → SI → SJ → Nat → Int32 → Int32 → Int32 → Option (SI × SJ)
  | 0, _, _, _, _, _, _ => none
  | n + 1, I, J, w2_3, w3_3, w4_3, w5_3 => (if (20 : Int32) < w5_3 then (some (I, J)) else ((F_X2_put_ 21 (J 53) w5_3 (0 : Int64)).bind fun f_2 => ((F_X2_put_ 21 ((u1 J 53 f_2) 54) w5_3 (0 : Int64)).bind fun f_3 => ((FS_X3_lay_37 3000 I (u1 (u1 J 53 f_2) 54 f_3) w2_3 w3_3 w4_3 w5_3 (0 : Int32)).bind fun (I6, J6, u3_6, u4_6, u5_6, u6_6) => (FL_X3_lay_3 n I6 J6 w2_3 u3_6 u4_6 (u5_6 + 1))))))
def F_X3_lay (t2 : Nat) (I : SI) (J : SJ) (v3 : Int32) (v4 : Int32) : Option (SI × SJ) := (FL_X3_lay_3 3000 I J t2 v3 v4 (0 : Int32))
set_option maxHeartbeats 4000000 in
set_option maxRecDepth 100000 in
theorem c_X3_lay (l : Launch) (g : Gx) (ad : Nat → Nat) (I : SI) (J : SJ) (t2 : Nat) (v3 : Int32) (v4 : Int32) (hT2 : isT t2) (sz : Nat) {rI : SI} {rJ : SJ} (h : F_X3_lay t2 I J v3 v4 = some (rI, rJ)) : Met l yX3_lay (Cond.code yX3_lay cX3_lay 7 none :: BG) (k2_rm 4 103) (PcW [.ref (ad 52), .ref (ad 47), .ref (ad t2), .int v3, .int v4] g (xW ad g I J) sz) (QWv g (xW ad g I J) (xW ad g rI rJ) sz) 0 0 (va_A (xW ad g I J) sz) := by
  refine mkWv (by decide) (Nat.le_of_ble_eq_true rfl) ?_
  intro p e s m args below meth c H locs ls A Q hC hK hP hD hA hS hl hret
  have hx := hC.1
  have hb := hC.2.1
  have hts := hC.2.2.2.2
  have hown := hC.2.2.2.1
  replace hl : lv_has ls 7 [(0, .ref (ad 52)), (1, .ref (ad 47)), (2, .ref (ad t2)), (3, .int v3), (4, .int v4)] := hl
  have loop_37 : ∀ (n : Nat) (I : SI) (J : SJ) (w2_37 : Nat) (w3_37 : Int32) (w4_37 : Int32) (w5_37 : Int32) (w6_37 : Int32) (o0 : SI) (o1 : SJ) (o2 : Int32) (o3 : Int32) (o4 : Int32) (o5 : Int32) (H : Heap) (locs : List Loc) (ls : Array Slot), isT w2_37 → FS_X3_lay_37 n I J w2_37 w3_37 w4_37 w5_37 w6_37 = some (o0, o1, o2, o3, o4, o5) → Pg g (xW ad g I J) H → va_D A (xW ad g I J) → va_S A s.heap H locs → lv_has ls 7 [(0, .ref (ad 52)), (1, .ref (ad 47)), (2, .ref (ad w2_37)), (3, .int w3_37), (4, .int w4_37), (5, .int w5_37), (6, .int w6_37)] → (∀ (H : Heap) (locs : List Loc) (ls : Array Slot), Pg g (xW ad g o0 o1) H → va_D A (xW ad g o0 o1) → va_S A s.heap H locs → lv_has ls 7 [(0, .ref (ad 52)), (1, .ref (ad 47)), (2, .ref (ad w2_37)), (3, .int o2), (4, .int o3), (5, .int o4), (6, .int o5)] → W p l e (k2_rm 4 103) s m args below meth c H locs 0 0 Q (F0 m 65 ls [])) → W p l e (k2_rm 4 103) s m args below meth c H locs 0 0 Q (F0 m 37 ls []) := by
    intro n
    induction n with
    | zero =>
      intro I J w2_37 w3_37 w4_37 w5_37 w6_37 o0 o1 o2 o3 o4 o5 H locs ls hw2_37 h
      exact no h
    | succ n ih =>
      intro I J w2_37 w3_37 w4_37 w5_37 w6_37 o0 o1 o2 o3 o4 o5 H locs ls hw2_37 h hP hD hS hl hexit
      rw [FS_X3_lay_37] at h
      refine lv_iload hx hb dX3_lay_37 (lv_at hl 6 rfl) ?_
      refine lv_aload_n hx hb dX3_lay_39 rfl (lv_at hl 1 rfl) ?_
      refine gt_X3_24 hC hK hP dX3_lay_40 ?_
      refine lv_icmp_ge (tgt := 65) hx hb dX3_lay_43 (by decide) (fun c4 => ?_) (fun c4 => ?_)
      · replace h := (if_pos c4).symm.trans h
        cases h
        exact hexit _ _ _ hP hD hS (lv_sub hl [0, 1, 2, 3, 4, 5, 6] rfl)
      · replace h := (if_neg c4).symm.trans h
        refine lv_aload_n hx hb dX3_lay_46 rfl (lv_at hl 0 rfl) ?_
        refine lv_aload_n hx hb dX3_lay_47 rfl (lv_at hl 1 rfl) ?_
        refine lv_aload_n hx hb dX3_lay_48 rfl (lv_at hl 2 rfl) ?_
        refine lv_iload_n hx hb dX3_lay_49 rfl (lv_at hl 3 rfl) ?_
        refine lv_iload hx hb dX3_lay_50 (lv_at hl 4 rfl) ?_
        refine lv_iload hx hb dX3_lay_52 (lv_at hl 5 rfl) ?_
        refine lv_iload hx hb dX3_lay_54 (lv_at hl 6 rfl) ?_
        obtain ⟨⟨I5, J5⟩, hc5, h⟩ := ob h
        dsimp only at h
        refine callWVv (As := [.ref (ad 47), .ref (ad w2_37), .int w3_37, .int w4_37, .int w5_37, .int w6_37]) (rest := []) hC (c_X3_addWeather l g ad I J w2_37 w3_37 w4_37 w5_37 w6_37 hw2_37 H.size hc5) lk_X3_30 rfl rfl ⟨Nat.le_of_ble_eq_true rfl, Nat.le_of_ble_eq_true rfl⟩ hP hK hD hA hS xo_52 rfl rfl rfl hl (Nat.le_of_ble_eq_true rfl) dX3_lay_56 (fun H locs hP hD hS => ?_)
        refine lv_iinc (v := (w6_37 + 1)) (lv' := [(6, .int (w6_37 + 1)), (0, .ref (ad 52)), (1, .ref (ad 47)), (2, .ref (ad w2_37)), (3, .int w3_37), (4, .int w4_37), (5, .int w5_37)]) hx hb dX3_lay_59 hl (k := 6) rfl rfl (by decide) rfl (fun ls hl => ?_)
        refine lv_goto (tgt := 37) hx hb dX3_lay_62 (by decide) ?_
        exact ih I5 J5 w2_37 w3_37 w4_37 w5_37 (w6_37 + 1) _ _ _ _ _ _ _ _ _ hw2_37 h hP hD hS (lv_sub hl [1, 2, 3, 4, 5, 6, 0] rfl) hexit
  have loop_3 : ∀ (n : Nat) (I : SI) (J : SJ) (w2_3 : Nat) (w3_3 : Int32) (w4_3 : Int32) (w5_3 : Int32)  (H : Heap) (locs : List Loc) (ls : Array Slot), isT w2_3 → FL_X3_lay_3 n I J w2_3 w3_3 w4_3 w5_3 = some (rI, rJ) → Pg g (xW ad g I J) H → va_D A (xW ad g I J) → va_S A s.heap H locs → lv_has ls 7 [(0, .ref (ad 52)), (1, .ref (ad 47)), (2, .ref (ad w2_3)), (3, .int w3_3), (4, .int w4_3), (5, .int w5_3)] → W p l e (k2_rm 4 103) s m args below meth c H locs 0 0 Q (F0 m 3 ls []) := by
    intro n
    induction n with
    | zero =>
      intro I J w2_3 w3_3 w4_3 w5_3 H locs ls hw2_3 h
      exact no h
    | succ n ih =>
      intro I J w2_3 w3_3 w4_3 w5_3 H locs ls hw2_3 h hP hD hS hl
      rw [FL_X3_lay_3] at h
      refine lv_iload hx hb dX3_lay_3 (lv_at hl 5 rfl) ?_
      refine lv_bipush (v := 20) hx hb dX3_lay_5 (by decide) ?_
      refine lv_icmp_gt (tgt := 71) hx hb dX3_lay_7 (by decide) (fun c1 => ?_) (fun c1 => ?_)
      · replace h := (if_pos c1).symm.trans h
        obtain ⟨rfl, rfl⟩ := Prod.mk.inj (Option.some.inj h)
        exact hret _ _ _ _ dX3_lay_71 hP hD hS
      · replace h := (if_neg c1).symm.trans h
        refine lv_aload_n hx hb dX3_lay_10 rfl (lv_at hl 0 rfl) ?_
        refine gt_X3_11 hC hK hP dX3_lay_11 ?_
        refine lv_iload hx hb dX3_lay_14 (lv_at hl 5 rfl) ?_
        refine lv_lconst (v := 0) hx hb dX3_lay_16 (by decide) ?_
        obtain ⟨f_2, hc2, h⟩ := ob h
        refine callWSv (As := [.ref (ad 53), .int w5_3, .long (0 : Int64)]) (rest := []) hC (c_X2_put_ l g (xW ad g I J) (fun f => xW ad g I (u1 J 53 f)) 53 21 (J 53) (ad 53) xc_53.1 xc_53.2.1 xc_53.2.2 w5_3 (0 : Int64) H.size hc2) lk_X3_18 rfl rfl ⟨Nat.le_of_ble_eq_true rfl, Nat.le_of_ble_eq_true rfl⟩ hP hK hD hA hS rfl rfl hl (Nat.le_of_ble_eq_true rfl) dX3_lay_17 (fun H locs hP hD hS => ?_)
        refine lv_aload_n hx hb dX3_lay_20 rfl (lv_at hl 0 rfl) ?_
        refine gt_X3_15 hC hK hP dX3_lay_21 ?_
        refine lv_iload hx hb dX3_lay_24 (lv_at hl 5 rfl) ?_
        refine lv_lconst (v := 0) hx hb dX3_lay_26 (by decide) ?_
        obtain ⟨f_3, hc3, h⟩ := ob h
        refine callWSv (As := [.ref (ad 54), .int w5_3, .long (0 : Int64)]) (rest := []) hC (c_X2_put_ l g (xW ad g I (u1 J 53 f_2)) (fun f => xW ad g I (u1 (u1 J 53 f_2) 54 f)) 54 21 ((u1 J 53 f_2) 54) (ad 54) xc_54.1 xc_54.2.1 xc_54.2.2 w5_3 (0 : Int64) H.size hc3) lk_X3_18 rfl rfl ⟨Nat.le_of_ble_eq_true rfl, Nat.le_of_ble_eq_true rfl⟩ hP hK hD hA hS rfl rfl hl (Nat.le_of_ble_eq_true rfl) dX3_lay_27 (fun H locs hP hD hS => ?_)
        refine lv_aload_n hx hb dX3_lay_30 rfl (lv_at hl 1 rfl) ?_
        refine lv_ifnull hx hb dX3_lay_31 ?_
        refine lv_iconst (v := 0) hx hb dX3_lay_34 (by decide) ?_
        refine lv_istore (lv' := [(6, .int (0 : Int32)), (0, .ref (ad 52)), (1, .ref (ad 47)), (2, .ref (ad w2_3)), (3, .int w3_3), (4, .int w4_3), (5, .int w5_3)]) hx hb dX3_lay_35 hl (by decide) rfl (fun ls hl => ?_)
        obtain ⟨⟨I6, J6, u3_6, u4_6, u5_6, u6_6⟩, hc6, h⟩ := ob h
        dsimp only at h
        refine loop_37 3000 I (u1 (u1 J 53 f_2) 54 f_3) w2_3 w3_3 w4_3 w5_3 (0 : Int32) I6 J6 u3_6 u4_6 u5_6 u6_6 _ _ _ hw2_3 hc6 hP hD hS (lv_sub hl [1, 2, 3, 4, 5, 6, 0] rfl) (fun H locs ls hP hD hS hl => ?_)
        refine lv_iinc (v := (u5_6 + 1)) (lv' := [(5, .int (u5_6 + 1)), (0, .ref (ad 52)), (1, .ref (ad 47)), (2, .ref (ad w2_3)), (3, .int u3_6), (4, .int u4_6), (6, .int u6_6)]) hx hb dX3_lay_65 hl (k := 5) rfl rfl (by decide) rfl (fun ls hl => ?_)
        refine lv_goto (tgt := 3) hx hb dX3_lay_68 (by decide) ?_
        exact ih I6 J6 w2_3 u3_6 u4_6 (u5_6 + 1) _ _ _ hw2_3 h hP hD hS (lv_sub hl [1, 2, 3, 4, 5, 0] rfl)
  unfold F_X3_lay at h
  refine lv_iconst (v := 0) hx hb dX3_lay_0 (by decide) ?_
  refine lv_istore (lv' := [(5, .int (0 : Int32)), (0, .ref (ad 52)), (1, .ref (ad 47)), (2, .ref (ad t2)), (3, .int v3), (4, .int v4)]) hx hb dX3_lay_1 hl (by decide) rfl (fun ls hl => ?_)
  exact loop_3 3000 I J t2 v3 v4 (0 : Int32) _ _ _ hT2 h hP hD hS (lv_sub hl [1, 2, 3, 4, 5, 0] rfl)
def F_X3_worthOf (I : SI) (J : SJ) (v1 : Int32) (v2 : Int32) : Option (Int64) := ((F_X2_at_ 21 (J 53) v1).bind fun r1 => ((F_X2_at_ 21 (J 54) v1).bind fun r2 => (some (((Int32.toInt64 v2) * r1) + ((Int32.toInt64 ((100 : Int32) - v2)) * r2)))))
set_option maxHeartbeats 4000000 in
set_option maxRecDepth 100000 in
theorem c_X3_worthOf (l : Launch) (g : Gx) (ad : Nat → Nat) (I : SI) (J : SJ) (v1 : Int32) (v2 : Int32)  {r : Int64} (h : F_X3_worthOf I J v1 v2 = some r) : Met l yX3_worthOf (Cond.code yX3_worthOf cX3_worthOf 3 (some .long) :: BG) (k2_rm 1 21) (va_Pc [.ref (ad 52), .int v1, .int v2] (fun U => Pg g (xW ad g I J) U.heap ∧ Kg g U)) (k2_QcV (.long r)) 0 0 (fun _ => False) := by
  refine mkRl (by decide) (Nat.le_of_ble_eq_true rfl) ?_
  intro p e s m args below meth c H locs ls Q hC hK hP hl hret
  have hx := hC.1
  have hb := hC.2.1
  have hts := hC.2.2.2.2
  have hown := hC.2.2.2.1
  replace hl : lv_has ls 3 [(0, .ref (ad 52)), (1, .int v1), (2, .int v2)] := hl
  unfold F_X3_worthOf at h
  refine lv_iload_n hx hb dX3_worthOf_0 rfl (lv_at hl 2 rfl) ?_
  refine lv_i2l hx hb dX3_worthOf_1 rfl ?_
  refine lv_aload_n hx hb dX3_worthOf_2 rfl (lv_at hl 0 rfl) ?_
  refine gt_X3_11 hC hK hP dX3_worthOf_3 ?_
  refine lv_iload_n hx hb dX3_worthOf_6 rfl (lv_at hl 1 rfl) ?_
  obtain ⟨r1, hc1, h⟩ := ob h
  refine callRS (As := [.ref (ad 53), .int v1]) (rest := [.long (Int32.toInt64 v2)]) hC (c_X2_at_ l g (xW ad g I J) 53 21 (J 53) (ad 53) xo_53 v1 hc1) lk_X3_63 rfl rfl ⟨Nat.le_of_ble_eq_true rfl, Nat.le_of_ble_eq_true rfl⟩ hP hK rfl rfl hl (Nat.le_of_ble_eq_true rfl) dX3_worthOf_7 ?_
  refine lv_lmul hx hb dX3_worthOf_10 ?_
  refine lv_bipush (v := 100) hx hb dX3_worthOf_11 (by decide) ?_
  refine lv_iload_n hx hb dX3_worthOf_13 rfl (lv_at hl 2 rfl) ?_
  refine lv_isub hx hb dX3_worthOf_14 ?_
  refine lv_i2l hx hb dX3_worthOf_15 rfl ?_
  refine lv_aload_n hx hb dX3_worthOf_16 rfl (lv_at hl 0 rfl) ?_
  refine gt_X3_15 hC hK hP dX3_worthOf_17 ?_
  refine lv_iload_n hx hb dX3_worthOf_20 rfl (lv_at hl 1 rfl) ?_
  obtain ⟨r2, hc2, h⟩ := ob h
  refine callRS (As := [.ref (ad 54), .int v1]) (rest := [.long (Int32.toInt64 ((100 : Int32) - v2)), .long ((Int32.toInt64 v2) * r1)]) hC (c_X2_at_ l g (xW ad g I J) 54 21 (J 54) (ad 54) xo_54 v1 hc2) lk_X3_63 rfl rfl ⟨Nat.le_of_ble_eq_true rfl, Nat.le_of_ble_eq_true rfl⟩ hP hK rfl rfl hl (Nat.le_of_ble_eq_true rfl) dX3_worthOf_21 ?_
  refine lv_lmul hx hb dX3_worthOf_24 ?_
  refine lv_ladd hx hb dX3_worthOf_25 ?_
  exact hret _ _ _ dX3_worthOf_26 (Option.some.inj h)
def FL_X3_bestLess_12  : Nat → SI → SJ → Int32 → Int32 → Int64 → Int32 → Option (Int32)
  | 0, _, _, _, _, _, _ => none
  | n + 1, I, J, w1_12, w2_12, w3_12, w5_12 => (if (20 : Int32) < w5_12 then (some w2_12) else ((F_X3_worthOf I J w5_12 w1_12).bind fun r3 => (if r3 ≤ w3_12 then (FL_X3_bestLess_12 n I J w1_12 w2_12 w3_12 (w5_12 + 1)) else (FL_X3_bestLess_12 n I J w1_12 w5_12 r3 (w5_12 + 1)))))
def F_X3_bestLess (I : SI) (J : SJ) (v1 : Int32) : Option (Int32) := ((F_X3_worthOf I J (0 : Int32) v1).bind fun r1 => (FL_X3_bestLess_12 3000 I J v1 (0 : Int32) r1 (1 : Int32)))
set_option maxHeartbeats 4000000 in
set_option maxRecDepth 100000 in
theorem c_X3_bestLess (l : Launch) (g : Gx) (ad : Nat → Nat) (I : SI) (J : SJ) (v1 : Int32)  {r : Int32} (h : F_X3_bestLess I J v1 = some r) : Met l yX3_bestLess (Cond.code yX3_bestLess cX3_bestLess 8 (some .int) :: BG) (k2_rm 2 43) (va_Pc [.ref (ad 52), .int v1] (fun U => Pg g (xW ad g I J) U.heap ∧ Kg g U)) (k2_QcV (.int r)) 0 0 (fun _ => False) := by
  refine mkRi (by decide) (Nat.le_of_ble_eq_true rfl) ?_
  intro p e s m args below meth c H locs ls Q hC hK hP hl hret
  have hx := hC.1
  have hb := hC.2.1
  have hts := hC.2.2.2.2
  have hown := hC.2.2.2.1
  replace hl : lv_has ls 8 [(0, .ref (ad 52)), (1, .int v1)] := hl
  have loop_12 : ∀ (n : Nat) (w1_12 : Int32) (w2_12 : Int32) (w3_12 : Int64) (w5_12 : Int32)  (ls : Array Slot), FL_X3_bestLess_12 n I J w1_12 w2_12 w3_12 w5_12 = some r → lv_has ls 8 [(0, .ref (ad 52)), (1, .int w1_12), (2, .int w2_12), (3, .long w3_12), (5, .int w5_12)] → W p l e (k2_rm 2 43) s m args below meth c H locs 0 0 Q (F0 m 12 ls []) := by
    intro n
    induction n with
    | zero =>
      intro w1_12 w2_12 w3_12 w5_12 ls h
      exact no h
    | succ n ih =>
      intro w1_12 w2_12 w3_12 w5_12 ls h hl
      rw [FL_X3_bestLess_12] at h
      refine lv_iload hx hb dX3_bestLess_12 (lv_at hl 4 rfl) ?_
      refine lv_bipush (v := 20) hx hb dX3_bestLess_14 (by decide) ?_
      refine lv_icmp_gt (tgt := 47) hx hb dX3_bestLess_16 (by decide) (fun c2 => ?_) (fun c2 => ?_)
      · replace h := (if_pos c2).symm.trans h
        refine lv_iload_n hx hb dX3_bestLess_47 rfl (lv_at hl 2 rfl) ?_
        exact hret _ _ _ dX3_bestLess_48 (Option.some.inj h)
      · replace h := (if_neg c2).symm.trans h
        refine lv_aload_n hx hb dX3_bestLess_19 rfl (lv_at hl 0 rfl) ?_
        refine lv_iload hx hb dX3_bestLess_20 (lv_at hl 4 rfl) ?_
        refine lv_iload_n hx hb dX3_bestLess_22 rfl (lv_at hl 1 rfl) ?_
        obtain ⟨r3, hc3, h⟩ := ob h
        refine callRV (As := [.int w5_12, .int w1_12]) (rest := []) hC (c_X3_worthOf l g ad I J w5_12 w1_12  hc3) lk_X3_67 rfl rfl ⟨Nat.le_of_ble_eq_true rfl, Nat.le_of_ble_eq_true rfl⟩ hP hK xo_52 rfl rfl rfl hl (Nat.le_of_ble_eq_true rfl) dX3_bestLess_23 ?_
        refine lv_lstore (lv' := [(6, .long r3), (0, .ref (ad 52)), (1, .int w1_12), (2, .int w2_12), (3, .long w3_12), (5, .int w5_12)]) hx hb dX3_bestLess_26 hl (by decide) rfl (fun ls hl => ?_)
        refine lv_lload hx hb dX3_bestLess_28 (lv_at hl 0 rfl) ?_
        refine lv_lload_n hx hb dX3_bestLess_30 rfl (lv_at hl 4 rfl) ?_
        refine W.lcmp hx hb dX3_bestLess_31 ?_
        refine lv_if_le (tgt := 41) hx hb dX3_bestLess_32 (by decide) (fun c4 => ?_) (fun c4 => ?_)
        · replace h := (if_pos ((lg_cmp_le _ _).mp c4)).symm.trans h
          refine lv_iinc (v := (w5_12 + 1)) (lv' := [(5, .int (w5_12 + 1)), (6, .long r3), (0, .ref (ad 52)), (1, .int w1_12), (2, .int w2_12), (3, .long w3_12)]) hx hb dX3_bestLess_41 hl (k := 5) rfl rfl (by decide) rfl (fun ls hl => ?_)
          refine lv_goto (tgt := 12) hx hb dX3_bestLess_44 (by decide) ?_
          exact ih w1_12 w2_12 w3_12 (w5_12 + 1) _ h (lv_sub hl [2, 3, 4, 5, 0] rfl)
        · replace h := (if_neg (fun hh => c4 ((lg_cmp_le _ _).mpr hh))).symm.trans h
          refine lv_iload hx hb dX3_bestLess_35 (lv_at hl 5 rfl) ?_
          refine lv_istore_n (lv' := [(2, .int w5_12), (6, .long r3), (0, .ref (ad 52)), (1, .int w1_12), (3, .long w3_12), (5, .int w5_12)]) hx hb dX3_bestLess_37 rfl hl (by decide) rfl (fun ls hl => ?_)
          refine lv_lload hx hb dX3_bestLess_38 (lv_at hl 1 rfl) ?_
          refine lv_lstore_n (lv' := [(3, .long r3), (2, .int w5_12), (6, .long r3), (0, .ref (ad 52)), (1, .int w1_12), (5, .int w5_12)]) hx hb dX3_bestLess_40 rfl hl (by decide) rfl (fun ls hl => ?_)
          refine lv_iinc (v := (w5_12 + 1)) (lv' := [(5, .int (w5_12 + 1)), (3, .long r3), (2, .int w5_12), (6, .long r3), (0, .ref (ad 52)), (1, .int w1_12)]) hx hb dX3_bestLess_41 hl (k := 5) rfl rfl (by decide) rfl (fun ls hl => ?_)
          refine lv_goto (tgt := 12) hx hb dX3_bestLess_44 (by decide) ?_
          exact ih w1_12 w5_12 r3 (w5_12 + 1) _ h (lv_sub hl [4, 5, 2, 1, 0] rfl)
  unfold F_X3_bestLess at h
  refine lv_iconst (v := 0) hx hb dX3_bestLess_0 (by decide) ?_
  refine lv_istore_n (lv' := [(2, .int (0 : Int32)), (0, .ref (ad 52)), (1, .int v1)]) hx hb dX3_bestLess_1 rfl hl (by decide) rfl (fun ls hl => ?_)
  refine lv_aload_n hx hb dX3_bestLess_2 rfl (lv_at hl 1 rfl) ?_
  refine lv_iconst (v := 0) hx hb dX3_bestLess_3 (by decide) ?_
  refine lv_iload_n hx hb dX3_bestLess_4 rfl (lv_at hl 2 rfl) ?_
  obtain ⟨r1, hc1, h⟩ := ob h
  refine callRV (As := [.int (0 : Int32), .int v1]) (rest := []) hC (c_X3_worthOf l g ad I J (0 : Int32) v1  hc1) lk_X3_67 rfl rfl ⟨Nat.le_of_ble_eq_true rfl, Nat.le_of_ble_eq_true rfl⟩ hP hK xo_52 rfl rfl rfl hl (Nat.le_of_ble_eq_true rfl) dX3_bestLess_5 ?_
  refine lv_lstore_n (lv' := [(3, .long r1), (2, .int (0 : Int32)), (0, .ref (ad 52)), (1, .int v1)]) hx hb dX3_bestLess_8 rfl hl (by decide) rfl (fun ls hl => ?_)
  refine lv_iconst (v := 1) hx hb dX3_bestLess_9 (by decide) ?_
  refine lv_istore (lv' := [(5, .int (1 : Int32)), (3, .long r1), (2, .int (0 : Int32)), (0, .ref (ad 52)), (1, .int v1)]) hx hb dX3_bestLess_10 hl (by decide) rfl (fun ls hl => ?_)
  exact loop_12 3000 v1 (0 : Int32) r1 (1 : Int32) _ h (lv_sub hl [3, 4, 2, 1, 0] rfl)
def F_X4_hasWeather (I : SI) (J : SJ) (v1 : Int32) : Option (Int32) := (if v1 < 0 then (some (0 : Int32)) else (if (I 47 6) ≤ v1 then (some (0 : Int32)) else (some (1 : Int32))))
set_option maxHeartbeats 4000000 in
set_option maxRecDepth 100000 in
theorem c_X4_hasWeather (l : Launch) (g : Gx) (ad : Nat → Nat) (I : SI) (J : SJ) (v1 : Int32)  {r : Int32} (h : F_X4_hasWeather I J v1 = some r) : Met l yX4_hasWeather (Cond.code yX4_hasWeather cX4_hasWeather 2 (some .boolean) :: BG) (k2_rm 0 0) (va_Pc [.ref (ad 47), .int v1] (fun U => Pg g (xW ad g I J) U.heap ∧ Kg g U)) (k2_QcV (.int r)) 0 0 (fun _ => False) := by
  refine mkRz (by decide) (Nat.le_of_ble_eq_true rfl) ?_
  intro p e s m args below meth c H locs ls Q hC hK hP hl hret
  have hx := hC.1
  have hb := hC.2.1
  have hts := hC.2.2.2.2
  have hown := hC.2.2.2.1
  replace hl : lv_has ls 2 [(0, .ref (ad 47)), (1, .int v1)] := hl
  unfold F_X4_hasWeather at h
  refine lv_iload_n hx hb dX4_hasWeather_0 rfl (lv_at hl 1 rfl) ?_
  refine lv_if_lt (tgt := 16) hx hb dX4_hasWeather_1 (by decide) (fun c1 => ?_) (fun c1 => ?_)
  · replace h := (if_pos c1).symm.trans h
    refine lv_iconst (v := 0) hx hb dX4_hasWeather_16 (by decide) ?_
    exact hret _ _ _ dX4_hasWeather_17 rfl (Option.some.inj h)
  · replace h := (if_neg c1).symm.trans h
    refine lv_iload_n hx hb dX4_hasWeather_4 rfl (lv_at hl 1 rfl) ?_
    refine lv_aload_n hx hb dX4_hasWeather_5 rfl (lv_at hl 0 rfl) ?_
    refine gt_X4_72 hC hK hP dX4_hasWeather_6 ?_
    refine lv_icmp_ge (tgt := 16) hx hb dX4_hasWeather_9 (by decide) (fun c2 => ?_) (fun c2 => ?_)
    · replace h := (if_pos c2).symm.trans h
      refine lv_iconst (v := 0) hx hb dX4_hasWeather_16 (by decide) ?_
      exact hret _ _ _ dX4_hasWeather_17 rfl (Option.some.inj h)
    · replace h := (if_neg c2).symm.trans h
      refine lv_iconst (v := 1) hx hb dX4_hasWeather_12 (by decide) ?_
      refine lv_goto (tgt := 17) hx hb dX4_hasWeather_13 (by decide) ?_
      exact hret _ _ _ dX4_hasWeather_17 rfl (Option.some.inj h)
def FL_X4_hundredBushels_6  : Nat → SI → SJ → Nat → Int32 → Int32 → Int32 → Int32 → Option (Int32)
  | 0, _, _, _, _, _, _, _ => none
  | n + 1, I, J, w1_6, w2_6, w3_6, w4_6, w5_6 => (if (I 47 6) ≤ w5_6 then (some w4_6) else ((F_X4_chanceOf I J w5_6).bind fun r2 => ((F_X4_harvestOf I J w2_6 w5_6).bind fun r3 => ((F_X1_bushelsOf 0 w1_6 I J r3 (I 47 7) w3_6).bind fun r4 => (FL_X4_hundredBushels_6 n I J w1_6 w2_6 w3_6 (w4_6 + (r2 * r4)) (w5_6 + 1))))))
def F_X4_hundredBushels (t1 : Nat) (I : SI) (J : SJ) (v2 : Int32) (v3 : Int32) : Option (Int32) := (FL_X4_hundredBushels_6 3000 I J t1 v2 v3 (0 : Int32) (0 : Int32))
set_option maxHeartbeats 4000000 in
set_option maxRecDepth 100000 in
theorem c_X4_hundredBushels (l : Launch) (g : Gx) (ad : Nat → Nat) (I : SI) (J : SJ) (t1 : Nat) (v2 : Int32) (v3 : Int32) (hT1 : isT t1) {r : Int32} (h : F_X4_hundredBushels t1 I J v2 v3 = some r) : Met l yX4_hundredBushels (Cond.code yX4_hundredBushels cX4_hundredBushels 6 (some .int) :: BG) (k2_rm 3 70) (va_Pc [.ref (ad 47), .ref (ad t1), .int v2, .int v3] (fun U => Pg g (xW ad g I J) U.heap ∧ Kg g U)) (k2_QcV (.int r)) 0 0 (fun _ => False) := by
  refine mkRi (by decide) (Nat.le_of_ble_eq_true rfl) ?_
  intro p e s m args below meth c H locs ls Q hC hK hP hl hret
  have hx := hC.1
  have hb := hC.2.1
  have hts := hC.2.2.2.2
  have hown := hC.2.2.2.1
  replace hl : lv_has ls 6 [(0, .ref (ad 47)), (1, .ref (ad t1)), (2, .int v2), (3, .int v3)] := hl
  have loop_6 : ∀ (n : Nat) (w1_6 : Nat) (w2_6 : Int32) (w3_6 : Int32) (w4_6 : Int32) (w5_6 : Int32)  (ls : Array Slot), isT w1_6 → FL_X4_hundredBushels_6 n I J w1_6 w2_6 w3_6 w4_6 w5_6 = some r → lv_has ls 6 [(0, .ref (ad 47)), (1, .ref (ad w1_6)), (2, .int w2_6), (3, .int w3_6), (4, .int w4_6), (5, .int w5_6)] → W p l e (k2_rm 3 70) s m args below meth c H locs 0 0 Q (F0 m 6 ls []) := by
    intro n
    induction n with
    | zero =>
      intro w1_6 w2_6 w3_6 w4_6 w5_6 ls hw1_6 h
      exact no h
    | succ n ih =>
      intro w1_6 w2_6 w3_6 w4_6 w5_6 ls hw1_6 h hl
      rw [FL_X4_hundredBushels_6] at h
      refine lv_iload hx hb dX4_hundredBushels_6 (lv_at hl 5 rfl) ?_
      refine lv_aload_n hx hb dX4_hundredBushels_8 rfl (lv_at hl 0 rfl) ?_
      refine gt_X4_72 hC hK hP dX4_hundredBushels_9 ?_
      refine lv_icmp_ge (tgt := 53) hx hb dX4_hundredBushels_12 (by decide) (fun c1 => ?_) (fun c1 => ?_)
      · replace h := (if_pos c1).symm.trans h
        refine lv_iload hx hb dX4_hundredBushels_53 (lv_at hl 4 rfl) ?_
        exact hret _ _ _ dX4_hundredBushels_55 (Option.some.inj h)
      · replace h := (if_neg c1).symm.trans h
        refine lv_iload hx hb dX4_hundredBushels_15 (lv_at hl 4 rfl) ?_
        refine lv_aload_n hx hb dX4_hundredBushels_17 rfl (lv_at hl 0 rfl) ?_
        refine lv_iload hx hb dX4_hundredBushels_18 (lv_at hl 5 rfl) ?_
        obtain ⟨r2, hc2, h⟩ := ob h
        refine callRV (As := [.int w5_6]) (rest := [.int w4_6]) hC (c_X4_chanceOf l g ad I J w5_6  hc2) lk_X4_97 rfl rfl ⟨Nat.le_of_ble_eq_true rfl, Nat.le_of_ble_eq_true rfl⟩ hP hK xo_47 rfl rfl rfl hl (Nat.le_of_ble_eq_true rfl) dX4_hundredBushels_20 ?_
        refine lv_aload_n hx hb dX4_hundredBushels_23 rfl (lv_at hl 0 rfl) ?_
        refine gt_X4_26 hC hK hP dX4_hundredBushels_24 ?_
        refine lv_aload_n hx hb dX4_hundredBushels_27 rfl (lv_at hl 1 rfl) ?_
        refine lv_aload_n hx hb dX4_hundredBushels_28 rfl (lv_at hl 0 rfl) ?_
        refine lv_iload_n hx hb dX4_hundredBushels_29 rfl (lv_at hl 2 rfl) ?_
        refine lv_iload hx hb dX4_hundredBushels_30 (lv_at hl 5 rfl) ?_
        obtain ⟨r3, hc3, h⟩ := ob h
        refine callRV (As := [.int w2_6, .int w5_6]) (rest := [.ref (ad w1_6), .ref (ad 0), .int r2, .int w4_6]) hC (c_X4_harvestOf l g ad I J w2_6 w5_6  hc3) lk_X4_90 rfl rfl ⟨Nat.le_of_ble_eq_true rfl, Nat.le_of_ble_eq_true rfl⟩ hP hK xo_47 rfl rfl rfl hl (Nat.le_of_ble_eq_true rfl) dX4_hundredBushels_32 ?_
        refine lv_aload_n hx hb dX4_hundredBushels_35 rfl (lv_at hl 0 rfl) ?_
        refine gt_X4_30 hC hK hP dX4_hundredBushels_36 ?_
        refine lv_iload_n hx hb dX4_hundredBushels_39 rfl (lv_at hl 3 rfl) ?_
        obtain ⟨r4, hc4, h⟩ := ob h
        refine callRV (As := [.ref (ad w1_6), .int r3, .int (I 47 7), .int w3_6]) (rest := [.int r2, .int w4_6]) hC (c_X1_bushelsOf l g ad I J 0 w1_6 r3 (I 47 7) w3_6 (Or.inl rfl) hw1_6 hc4) lk_X4_93 rfl rfl ⟨Nat.le_of_ble_eq_true rfl, Nat.le_of_ble_eq_true rfl⟩ hP hK (xEo (Or.inl rfl)) rfl rfl rfl hl (Nat.le_of_ble_eq_true rfl) dX4_hundredBushels_40 ?_
        refine lv_imul hx hb dX4_hundredBushels_43 ?_
        refine lv_iadd hx hb dX4_hundredBushels_44 ?_
        refine lv_istore (lv' := [(4, .int (w4_6 + (r2 * r4))), (0, .ref (ad 47)), (1, .ref (ad w1_6)), (2, .int w2_6), (3, .int w3_6), (5, .int w5_6)]) hx hb dX4_hundredBushels_45 hl (by decide) rfl (fun ls hl => ?_)
        refine lv_iinc (v := (w5_6 + 1)) (lv' := [(5, .int (w5_6 + 1)), (4, .int (w4_6 + (r2 * r4))), (0, .ref (ad 47)), (1, .ref (ad w1_6)), (2, .int w2_6), (3, .int w3_6)]) hx hb dX4_hundredBushels_47 hl (k := 5) rfl rfl (by decide) rfl (fun ls hl => ?_)
        refine lv_goto (tgt := 6) hx hb dX4_hundredBushels_50 (by decide) ?_
        exact ih w1_6 w2_6 w3_6 (w4_6 + (r2 * r4)) (w5_6 + 1) _ hw1_6 h (lv_sub hl [2, 3, 4, 5, 1, 0] rfl)
  unfold F_X4_hundredBushels at h
  refine lv_iconst (v := 0) hx hb dX4_hundredBushels_0 (by decide) ?_
  refine lv_istore (lv' := [(4, .int (0 : Int32)), (0, .ref (ad 47)), (1, .ref (ad t1)), (2, .int v2), (3, .int v3)]) hx hb dX4_hundredBushels_1 hl (by decide) rfl (fun ls hl => ?_)
  refine lv_iconst (v := 0) hx hb dX4_hundredBushels_3 (by decide) ?_
  refine lv_istore (lv' := [(5, .int (0 : Int32)), (4, .int (0 : Int32)), (0, .ref (ad 47)), (1, .ref (ad t1)), (2, .int v2), (3, .int v3)]) hx hb dX4_hundredBushels_4 hl (by decide) rfl (fun ls hl => ?_)
  exact loop_6 3000 t1 v2 v3 (0 : Int32) (0 : Int32) _ hT1 h (lv_sub hl [2, 3, 4, 5, 1, 0] rfl)
def FL_X4_worthWithOwn_13  : Nat → SI → SJ → Nat → Int32 → Int32 → Int32 → Int64 → Int32 → Option (Int64)
  | 0, _, _, _, _, _, _, _, _ => none
  | n + 1, I, J, w1_13, w2_13, w3_13, w4_13, w5_13, w7_13 => (if (I 47 6) ≤ w7_13 then (some w5_13) else ((F_X4_harvestOf I J w2_13 w7_13).bind fun r3 => ((F_X1_bushelsOf 0 w1_13 I J r3 (I 47 7) (0 : Int32)).bind fun r4 => ((F_X4_chanceOf I J w7_13).bind fun r5 => ((F_X1_mindOf 0 I J (0 : Int32) (r4 + (w4_13 * w3_13))).bind fun r6 => (FL_X4_worthWithOwn_13 n I J w1_13 w2_13 w3_13 w4_13 (w5_13 + ((Int32.toInt64 r5) * (Int32.toInt64 r6))) (w7_13 + 1)))))))
def F_X4_worthWithOwn (t1 : Nat) (I : SI) (J : SJ) (v2 : Int32) (v3 : Int32) (v4 : Int32) : Option (Int64) := ((F_X4_costWorth I J (v2 + v3)).bind fun r1 => (FL_X4_worthWithOwn_13 3000 I J t1 v2 v3 v4 (-r1) (0 : Int32)))
set_option maxHeartbeats 4000000 in
set_option maxRecDepth 100000 in
theorem c_X4_worthWithOwn (l : Launch) (g : Gx) (ad : Nat → Nat) (I : SI) (J : SJ) (t1 : Nat) (v2 : Int32) (v3 : Int32) (v4 : Int32) (hT1 : isT t1) {r : Int64} (h : F_X4_worthWithOwn t1 I J v2 v3 v4 = some r) : Met l yX4_worthWithOwn (Cond.code yX4_worthWithOwn cX4_worthWithOwn 9 (some .long) :: BG) (k2_rm 3 70) (va_Pc [.ref (ad 47), .ref (ad t1), .int v2, .int v3, .int v4] (fun U => Pg g (xW ad g I J) U.heap ∧ Kg g U)) (k2_QcV (.long r)) 0 0 (fun _ => False) := by
  refine mkRl (by decide) (Nat.le_of_ble_eq_true rfl) ?_
  intro p e s m args below meth c H locs ls Q hC hK hP hl hret
  have hx := hC.1
  have hb := hC.2.1
  have hts := hC.2.2.2.2
  have hown := hC.2.2.2.1
  replace hl : lv_has ls 9 [(0, .ref (ad 47)), (1, .ref (ad t1)), (2, .int v2), (3, .int v3), (4, .int v4)] := hl
  have loop_13 : ∀ (n : Nat) (w1_13 : Nat) (w2_13 : Int32) (w3_13 : Int32) (w4_13 : Int32) (w5_13 : Int64) (w7_13 : Int32)  (ls : Array Slot), isT w1_13 → FL_X4_worthWithOwn_13 n I J w1_13 w2_13 w3_13 w4_13 w5_13 w7_13 = some r → lv_has ls 9 [(0, .ref (ad 47)), (1, .ref (ad w1_13)), (2, .int w2_13), (3, .int w3_13), (4, .int w4_13), (5, .long w5_13), (7, .int w7_13)] → W p l e (k2_rm 3 70) s m args below meth c H locs 0 0 Q (F0 m 13 ls []) := by
    intro n
    induction n with
    | zero =>
      intro w1_13 w2_13 w3_13 w4_13 w5_13 w7_13 ls hw1_13 h
      exact no h
    | succ n ih =>
      intro w1_13 w2_13 w3_13 w4_13 w5_13 w7_13 ls hw1_13 h hl
      rw [FL_X4_worthWithOwn_13] at h
      refine lv_iload hx hb dX4_worthWithOwn_13 (lv_at hl 6 rfl) ?_
      refine lv_aload_n hx hb dX4_worthWithOwn_15 rfl (lv_at hl 0 rfl) ?_
      refine gt_X4_72 hC hK hP dX4_worthWithOwn_16 ?_
      refine lv_icmp_ge (tgt := 79) hx hb dX4_worthWithOwn_19 (by decide) (fun c2 => ?_) (fun c2 => ?_)
      · replace h := (if_pos c2).symm.trans h
        refine lv_lload hx hb dX4_worthWithOwn_79 (lv_at hl 5 rfl) ?_
        exact hret _ _ _ dX4_worthWithOwn_81 (Option.some.inj h)
      · replace h := (if_neg c2).symm.trans h
        refine lv_aload_n hx hb dX4_worthWithOwn_22 rfl (lv_at hl 0 rfl) ?_
        refine gt_X4_26 hC hK hP dX4_worthWithOwn_23 ?_
        refine lv_aload_n hx hb dX4_worthWithOwn_26 rfl (lv_at hl 1 rfl) ?_
        refine lv_aload_n hx hb dX4_worthWithOwn_27 rfl (lv_at hl 0 rfl) ?_
        refine lv_iload_n hx hb dX4_worthWithOwn_28 rfl (lv_at hl 2 rfl) ?_
        refine lv_iload hx hb dX4_worthWithOwn_29 (lv_at hl 6 rfl) ?_
        obtain ⟨r3, hc3, h⟩ := ob h
        refine callRV (As := [.int w2_13, .int w7_13]) (rest := [.ref (ad w1_13), .ref (ad 0)]) hC (c_X4_harvestOf l g ad I J w2_13 w7_13  hc3) lk_X4_90 rfl rfl ⟨Nat.le_of_ble_eq_true rfl, Nat.le_of_ble_eq_true rfl⟩ hP hK xo_47 rfl rfl rfl hl (Nat.le_of_ble_eq_true rfl) dX4_worthWithOwn_31 ?_
        refine lv_aload_n hx hb dX4_worthWithOwn_34 rfl (lv_at hl 0 rfl) ?_
        refine gt_X4_30 hC hK hP dX4_worthWithOwn_35 ?_
        refine lv_iconst (v := 0) hx hb dX4_worthWithOwn_38 (by decide) ?_
        obtain ⟨r4, hc4, h⟩ := ob h
        refine callRV (As := [.ref (ad w1_13), .int r3, .int (I 47 7), .int (0 : Int32)]) (rest := []) hC (c_X1_bushelsOf l g ad I J 0 w1_13 r3 (I 47 7) (0 : Int32) (Or.inl rfl) hw1_13 hc4) lk_X4_93 rfl rfl ⟨Nat.le_of_ble_eq_true rfl, Nat.le_of_ble_eq_true rfl⟩ hP hK (xEo (Or.inl rfl)) rfl rfl rfl hl (Nat.le_of_ble_eq_true rfl) dX4_worthWithOwn_39 ?_
        refine lv_iload hx hb dX4_worthWithOwn_42 (lv_at hl 4 rfl) ?_
        refine lv_iload_n hx hb dX4_worthWithOwn_44 rfl (lv_at hl 3 rfl) ?_
        refine lv_imul hx hb dX4_worthWithOwn_45 ?_
        refine lv_iadd hx hb dX4_worthWithOwn_46 ?_
        refine lv_istore (lv' := [(8, .int (r4 + (w4_13 * w3_13))), (0, .ref (ad 47)), (1, .ref (ad w1_13)), (2, .int w2_13), (3, .int w3_13), (4, .int w4_13), (5, .long w5_13), (7, .int w7_13)]) hx hb dX4_worthWithOwn_47 hl (by decide) rfl (fun ls hl => ?_)
        refine lv_lload hx hb dX4_worthWithOwn_49 (lv_at hl 6 rfl) ?_
        refine lv_aload_n hx hb dX4_worthWithOwn_51 rfl (lv_at hl 1 rfl) ?_
        refine lv_iload hx hb dX4_worthWithOwn_52 (lv_at hl 7 rfl) ?_
        obtain ⟨r5, hc5, h⟩ := ob h
        refine callRV (As := [.int w7_13]) (rest := [.long w5_13]) hC (c_X4_chanceOf l g ad I J w7_13  hc5) lk_X4_97 rfl rfl ⟨Nat.le_of_ble_eq_true rfl, Nat.le_of_ble_eq_true rfl⟩ hP hK xo_47 rfl rfl rfl hl (Nat.le_of_ble_eq_true rfl) dX4_worthWithOwn_54 ?_
        refine lv_i2l hx hb dX4_worthWithOwn_57 rfl ?_
        refine lv_aload_n hx hb dX4_worthWithOwn_58 rfl (lv_at hl 1 rfl) ?_
        refine gt_X4_26 hC hK hP dX4_worthWithOwn_59 ?_
        refine lv_iconst (v := 0) hx hb dX4_worthWithOwn_62 (by decide) ?_
        refine lv_iload hx hb dX4_worthWithOwn_63 (lv_at hl 0 rfl) ?_
        obtain ⟨r6, hc6, h⟩ := ob h
        refine callRV (As := [.int (0 : Int32), .int (r4 + (w4_13 * w3_13))]) (rest := [.long (Int32.toInt64 r5), .long w5_13]) hC (c_X1_mindOf l g ad I J 0 (0 : Int32) (r4 + (w4_13 * w3_13)) (Or.inl rfl) hc6) lk_X4_100 rfl rfl ⟨Nat.le_of_ble_eq_true rfl, Nat.le_of_ble_eq_true rfl⟩ hP hK (xEo (Or.inl rfl)) rfl rfl rfl hl (Nat.le_of_ble_eq_true rfl) dX4_worthWithOwn_65 ?_
        refine lv_i2l hx hb dX4_worthWithOwn_68 rfl ?_
        refine lv_lmul hx hb dX4_worthWithOwn_69 ?_
        refine lv_ladd hx hb dX4_worthWithOwn_70 ?_
        refine lv_lstore (lv' := [(5, .long (w5_13 + ((Int32.toInt64 r5) * (Int32.toInt64 r6)))), (8, .int (r4 + (w4_13 * w3_13))), (0, .ref (ad 47)), (1, .ref (ad w1_13)), (2, .int w2_13), (3, .int w3_13), (4, .int w4_13), (7, .int w7_13)]) hx hb dX4_worthWithOwn_71 hl (by decide) rfl (fun ls hl => ?_)
        refine lv_iinc (v := (w7_13 + 1)) (lv' := [(7, .int (w7_13 + 1)), (5, .long (w5_13 + ((Int32.toInt64 r5) * (Int32.toInt64 r6)))), (8, .int (r4 + (w4_13 * w3_13))), (0, .ref (ad 47)), (1, .ref (ad w1_13)), (2, .int w2_13), (3, .int w3_13), (4, .int w4_13)]) hx hb dX4_worthWithOwn_73 hl (k := 7) rfl rfl (by decide) rfl (fun ls hl => ?_)
        refine lv_goto (tgt := 13) hx hb dX4_worthWithOwn_76 (by decide) ?_
        exact ih w1_13 w2_13 w3_13 w4_13 (w5_13 + ((Int32.toInt64 r5) * (Int32.toInt64 r6))) (w7_13 + 1) _ hw1_13 h (lv_sub hl [3, 4, 5, 6, 7, 1, 0] rfl)
  unfold F_X4_worthWithOwn at h
  refine lv_aload_n hx hb dX4_worthWithOwn_0 rfl (lv_at hl 0 rfl) ?_
  refine lv_iload_n hx hb dX4_worthWithOwn_1 rfl (lv_at hl 2 rfl) ?_
  refine lv_iload_n hx hb dX4_worthWithOwn_2 rfl (lv_at hl 3 rfl) ?_
  refine lv_iadd hx hb dX4_worthWithOwn_3 ?_
  obtain ⟨r1, hc1, h⟩ := ob h
  refine callRV (As := [.int (v2 + v3)]) (rest := []) hC (c_X4_costWorth l g ad I J (v2 + v3)  hc1) lk_X4_86 rfl rfl ⟨Nat.le_of_ble_eq_true rfl, Nat.le_of_ble_eq_true rfl⟩ hP hK xo_47 rfl rfl rfl hl (Nat.le_of_ble_eq_true rfl) dX4_worthWithOwn_4 ?_
  refine lv_lneg hx hb dX4_worthWithOwn_7 ?_
  refine lv_lstore (lv' := [(5, .long (-r1)), (0, .ref (ad 47)), (1, .ref (ad t1)), (2, .int v2), (3, .int v3), (4, .int v4)]) hx hb dX4_worthWithOwn_8 hl (by decide) rfl (fun ls hl => ?_)
  refine lv_iconst (v := 0) hx hb dX4_worthWithOwn_10 (by decide) ?_
  refine lv_istore (lv' := [(7, .int (0 : Int32)), (5, .long (-r1)), (0, .ref (ad 47)), (1, .ref (ad t1)), (2, .int v2), (3, .int v3), (4, .int v4)]) hx hb dX4_worthWithOwn_11 hl (by decide) rfl (fun ls hl => ?_)
  exact loop_13 3000 t1 v2 v3 v4 (-r1) (0 : Int32) _ hT1 h (lv_sub hl [2, 3, 4, 5, 6, 1, 0] rfl)
def FS_X4_bestWithOwn_27  : Nat → SI → SJ → Nat → Int32 → Int32 → Int64 → Int32 → Int32 → Option (Int32 × Int32 × Int64 × Int32 × Int32)
  | 0, _, _, _, _, _, _, _, _ => none
  | n + 1, I, J, w1_27, w2_27, w3_27, w4_27, w6_27, w7_27 => (if (I 47 5) < (w6_27 + w7_27) then (some (w2_27, w3_27, w4_27, w6_27, w7_27)) else ((F_X4_worthWithOwn w1_27 I J w6_27 w7_27 w2_27).bind fun r4 => (if r4 ≤ w4_27 then (FS_X4_bestWithOwn_27 n I J w1_27 w2_27 w3_27 w4_27 w6_27 (w7_27 + 1)) else (FS_X4_bestWithOwn_27 n I J w1_27 w2_27 (((10 : Int32) * w6_27) + w7_27) r4 w6_27 (w7_27 + 1)))))
def FL_X4_bestWithOwn_15  : Nat → SI → SJ → Nat → Int32 → Int32 → Int64 → Int32 → Option (Int32)
  | 0, _, _, _, _, _, _, _ => none
  | n + 1, I, J, w1_15, w2_15, w3_15, w4_15, w6_15 => (if (I 47 5) < w6_15 then (some w3_15) else ((FS_X4_bestWithOwn_27 3000 I J w1_15 w2_15 w3_15 w4_15 w6_15 (0 : Int32)).bind fun (u2_6, u3_6, u4_6, u6_6, u7_6) => (FL_X4_bestWithOwn_15 n I J w1_15 u2_6 u3_6 u4_6 (u6_6 + 1))))
def F_X4_bestWithOwn (t1 : Nat) (I : SI) (J : SJ) (v2 : Int32) : Option (Int32) := ((F_X4_worthWithOwn t1 I J (0 : Int32) (0 : Int32) v2).bind fun r1 => (FL_X4_bestWithOwn_15 3000 I J t1 v2 (0 : Int32) r1 (0 : Int32)))
set_option maxHeartbeats 4000000 in
set_option maxRecDepth 100000 in
theorem c_X4_bestWithOwn (l : Launch) (g : Gx) (ad : Nat → Nat) (I : SI) (J : SJ) (t1 : Nat) (v2 : Int32) (hT1 : isT t1) {r : Int32} (h : F_X4_bestWithOwn t1 I J v2 = some r) : Met l yX4_bestWithOwn (Cond.code yX4_bestWithOwn cX4_bestWithOwn 10 (some .int) :: BG) (k2_rm 4 98) (va_Pc [.ref (ad 47), .ref (ad t1), .int v2] (fun U => Pg g (xW ad g I J) U.heap ∧ Kg g U)) (k2_QcV (.int r)) 0 0 (fun _ => False) := by
  refine mkRi (by decide) (Nat.le_of_ble_eq_true rfl) ?_
  intro p e s m args below meth c H locs ls Q hC hK hP hl hret
  have hx := hC.1
  have hb := hC.2.1
  have hts := hC.2.2.2.2
  have hown := hC.2.2.2.1
  replace hl : lv_has ls 10 [(0, .ref (ad 47)), (1, .ref (ad t1)), (2, .int v2)] := hl
  have loop_27 : ∀ (n : Nat) (w1_27 : Nat) (w2_27 : Int32) (w3_27 : Int32) (w4_27 : Int64) (w6_27 : Int32) (w7_27 : Int32) (o0 : Int32) (o1 : Int32) (o2 : Int64) (o3 : Int32) (o4 : Int32) (ls : Array Slot), isT w1_27 → FS_X4_bestWithOwn_27 n I J w1_27 w2_27 w3_27 w4_27 w6_27 w7_27 = some (o0, o1, o2, o3, o4) → lv_has ls 10 [(0, .ref (ad 47)), (1, .ref (ad w1_27)), (2, .int w2_27), (3, .int w3_27), (4, .long w4_27), (6, .int w6_27), (7, .int w7_27)] → (∀ (ls : Array Slot), lv_has ls 10 [(0, .ref (ad 47)), (1, .ref (ad w1_27)), (2, .int o0), (3, .int o1), (4, .long o2), (6, .int o3), (7, .int o4)] → W p l e (k2_rm 4 98) s m args below meth c H locs 0 0 Q (F0 m 78 ls [])) → W p l e (k2_rm 4 98) s m args below meth c H locs 0 0 Q (F0 m 27 ls []) := by
    intro n
    induction n with
    | zero =>
      intro w1_27 w2_27 w3_27 w4_27 w6_27 w7_27 o0 o1 o2 o3 o4 ls hw1_27 h
      exact no h
    | succ n ih =>
      intro w1_27 w2_27 w3_27 w4_27 w6_27 w7_27 o0 o1 o2 o3 o4 ls hw1_27 h hl hexit
      rw [FS_X4_bestWithOwn_27] at h
      refine lv_iload hx hb dX4_bestWithOwn_27 (lv_at hl 5 rfl) ?_
      refine lv_iload hx hb dX4_bestWithOwn_29 (lv_at hl 6 rfl) ?_
      refine lv_iadd hx hb dX4_bestWithOwn_31 ?_
      refine lv_aload_n hx hb dX4_bestWithOwn_32 rfl (lv_at hl 0 rfl) ?_
      refine gt_X4_43 hC hK hP dX4_bestWithOwn_33 ?_
      refine lv_icmp_gt (tgt := 78) hx hb dX4_bestWithOwn_36 (by decide) (fun c3 => ?_) (fun c3 => ?_)
      · replace h := (if_pos c3).symm.trans h
        cases h
        exact hexit _ (lv_sub hl [0, 1, 2, 3, 4, 5, 6] rfl)
      · replace h := (if_neg c3).symm.trans h
        refine lv_aload_n hx hb dX4_bestWithOwn_39 rfl (lv_at hl 0 rfl) ?_
        refine lv_aload_n hx hb dX4_bestWithOwn_40 rfl (lv_at hl 1 rfl) ?_
        refine lv_iload hx hb dX4_bestWithOwn_41 (lv_at hl 5 rfl) ?_
        refine lv_iload hx hb dX4_bestWithOwn_43 (lv_at hl 6 rfl) ?_
        refine lv_iload_n hx hb dX4_bestWithOwn_45 rfl (lv_at hl 2 rfl) ?_
        obtain ⟨r4, hc4, h⟩ := ob h
        refine callRV (As := [.ref (ad w1_27), .int w6_27, .int w7_27, .int w2_27]) (rest := []) hC (c_X4_worthWithOwn l g ad I J w1_27 w6_27 w7_27 w2_27 hw1_27 hc4) lk_X4_114 rfl rfl ⟨Nat.le_of_ble_eq_true rfl, Nat.le_of_ble_eq_true rfl⟩ hP hK xo_47 rfl rfl rfl hl (Nat.le_of_ble_eq_true rfl) dX4_bestWithOwn_46 ?_
        refine lv_lstore (lv' := [(8, .long r4), (0, .ref (ad 47)), (1, .ref (ad w1_27)), (2, .int w2_27), (3, .int w3_27), (4, .long w4_27), (6, .int w6_27), (7, .int w7_27)]) hx hb dX4_bestWithOwn_49 hl (by decide) rfl (fun ls hl => ?_)
        refine lv_lload hx hb dX4_bestWithOwn_51 (lv_at hl 0 rfl) ?_
        refine lv_lload hx hb dX4_bestWithOwn_53 (lv_at hl 5 rfl) ?_
        refine W.lcmp hx hb dX4_bestWithOwn_55 ?_
        refine lv_if_le (tgt := 72) hx hb dX4_bestWithOwn_56 (by decide) (fun c5 => ?_) (fun c5 => ?_)
        · replace h := (if_pos ((lg_cmp_le _ _).mp c5)).symm.trans h
          refine lv_iinc (v := (w7_27 + 1)) (lv' := [(7, .int (w7_27 + 1)), (8, .long r4), (0, .ref (ad 47)), (1, .ref (ad w1_27)), (2, .int w2_27), (3, .int w3_27), (4, .long w4_27), (6, .int w6_27)]) hx hb dX4_bestWithOwn_72 hl (k := 7) rfl rfl (by decide) rfl (fun ls hl => ?_)
          refine lv_goto (tgt := 27) hx hb dX4_bestWithOwn_75 (by decide) ?_
          exact ih w1_27 w2_27 w3_27 w4_27 w6_27 (w7_27 + 1) _ _ _ _ _ _ hw1_27 h (lv_sub hl [2, 3, 4, 5, 6, 7, 0] rfl) hexit
        · replace h := (if_neg (fun hh => c5 ((lg_cmp_le _ _).mpr hh))).symm.trans h
          refine lv_bipush (v := 10) hx hb dX4_bestWithOwn_59 (by decide) ?_
          refine lv_iload hx hb dX4_bestWithOwn_61 (lv_at hl 6 rfl) ?_
          refine lv_imul hx hb dX4_bestWithOwn_63 ?_
          refine lv_iload hx hb dX4_bestWithOwn_64 (lv_at hl 7 rfl) ?_
          refine lv_iadd hx hb dX4_bestWithOwn_66 ?_
          refine lv_istore_n (lv' := [(3, .int (((10 : Int32) * w6_27) + w7_27)), (8, .long r4), (0, .ref (ad 47)), (1, .ref (ad w1_27)), (2, .int w2_27), (4, .long w4_27), (6, .int w6_27), (7, .int w7_27)]) hx hb dX4_bestWithOwn_67 rfl hl (by decide) rfl (fun ls hl => ?_)
          refine lv_lload hx hb dX4_bestWithOwn_68 (lv_at hl 1 rfl) ?_
          refine lv_lstore (lv' := [(4, .long r4), (3, .int (((10 : Int32) * w6_27) + w7_27)), (8, .long r4), (0, .ref (ad 47)), (1, .ref (ad w1_27)), (2, .int w2_27), (6, .int w6_27), (7, .int w7_27)]) hx hb dX4_bestWithOwn_70 hl (by decide) rfl (fun ls hl => ?_)
          refine lv_iinc (v := (w7_27 + 1)) (lv' := [(7, .int (w7_27 + 1)), (4, .long r4), (3, .int (((10 : Int32) * w6_27) + w7_27)), (8, .long r4), (0, .ref (ad 47)), (1, .ref (ad w1_27)), (2, .int w2_27), (6, .int w6_27)]) hx hb dX4_bestWithOwn_72 hl (k := 7) rfl rfl (by decide) rfl (fun ls hl => ?_)
          refine lv_goto (tgt := 27) hx hb dX4_bestWithOwn_75 (by decide) ?_
          exact ih w1_27 w2_27 (((10 : Int32) * w6_27) + w7_27) r4 w6_27 (w7_27 + 1) _ _ _ _ _ _ hw1_27 h (lv_sub hl [4, 5, 6, 2, 1, 7, 0] rfl) hexit
  have loop_15 : ∀ (n : Nat) (w1_15 : Nat) (w2_15 : Int32) (w3_15 : Int32) (w4_15 : Int64) (w6_15 : Int32)  (ls : Array Slot), isT w1_15 → FL_X4_bestWithOwn_15 n I J w1_15 w2_15 w3_15 w4_15 w6_15 = some r → lv_has ls 10 [(0, .ref (ad 47)), (1, .ref (ad w1_15)), (2, .int w2_15), (3, .int w3_15), (4, .long w4_15), (6, .int w6_15)] → W p l e (k2_rm 4 98) s m args below meth c H locs 0 0 Q (F0 m 15 ls []) := by
    intro n
    induction n with
    | zero =>
      intro w1_15 w2_15 w3_15 w4_15 w6_15 ls hw1_15 h
      exact no h
    | succ n ih =>
      intro w1_15 w2_15 w3_15 w4_15 w6_15 ls hw1_15 h hl
      rw [FL_X4_bestWithOwn_15] at h
      refine lv_iload hx hb dX4_bestWithOwn_15 (lv_at hl 5 rfl) ?_
      refine lv_aload_n hx hb dX4_bestWithOwn_17 rfl (lv_at hl 0 rfl) ?_
      refine gt_X4_43 hC hK hP dX4_bestWithOwn_18 ?_
      refine lv_icmp_gt (tgt := 84) hx hb dX4_bestWithOwn_21 (by decide) (fun c2 => ?_) (fun c2 => ?_)
      · replace h := (if_pos c2).symm.trans h
        refine lv_iload_n hx hb dX4_bestWithOwn_84 rfl (lv_at hl 3 rfl) ?_
        exact hret _ _ _ dX4_bestWithOwn_85 (Option.some.inj h)
      · replace h := (if_neg c2).symm.trans h
        refine lv_iconst (v := 0) hx hb dX4_bestWithOwn_24 (by decide) ?_
        refine lv_istore (lv' := [(7, .int (0 : Int32)), (0, .ref (ad 47)), (1, .ref (ad w1_15)), (2, .int w2_15), (3, .int w3_15), (4, .long w4_15), (6, .int w6_15)]) hx hb dX4_bestWithOwn_25 hl (by decide) rfl (fun ls hl => ?_)
        obtain ⟨⟨u2_6, u3_6, u4_6, u6_6, u7_6⟩, hc6, h⟩ := ob h
        dsimp only at h
        refine loop_27 3000 w1_15 w2_15 w3_15 w4_15 w6_15 (0 : Int32) u2_6 u3_6 u4_6 u6_6 u7_6 _ hw1_15 hc6 (lv_sub hl [1, 2, 3, 4, 5, 6, 0] rfl) (fun ls hl => ?_)
        refine lv_iinc (v := (u6_6 + 1)) (lv' := [(6, .int (u6_6 + 1)), (0, .ref (ad 47)), (1, .ref (ad w1_15)), (2, .int u2_6), (3, .int u3_6), (4, .long u4_6), (7, .int u7_6)]) hx hb dX4_bestWithOwn_78 hl (k := 5) rfl rfl (by decide) rfl (fun ls hl => ?_)
        refine lv_goto (tgt := 15) hx hb dX4_bestWithOwn_81 (by decide) ?_
        exact ih w1_15 u2_6 u3_6 u4_6 (u6_6 + 1) _ hw1_15 h (lv_sub hl [1, 2, 3, 4, 5, 0] rfl)
  unfold F_X4_bestWithOwn at h
  refine lv_iconst (v := 0) hx hb dX4_bestWithOwn_0 (by decide) ?_
  refine lv_istore_n (lv' := [(3, .int (0 : Int32)), (0, .ref (ad 47)), (1, .ref (ad t1)), (2, .int v2)]) hx hb dX4_bestWithOwn_1 rfl hl (by decide) rfl (fun ls hl => ?_)
  refine lv_aload_n hx hb dX4_bestWithOwn_2 rfl (lv_at hl 1 rfl) ?_
  refine lv_aload_n hx hb dX4_bestWithOwn_3 rfl (lv_at hl 2 rfl) ?_
  refine lv_iconst (v := 0) hx hb dX4_bestWithOwn_4 (by decide) ?_
  refine lv_iconst (v := 0) hx hb dX4_bestWithOwn_5 (by decide) ?_
  refine lv_iload_n hx hb dX4_bestWithOwn_6 rfl (lv_at hl 3 rfl) ?_
  obtain ⟨r1, hc1, h⟩ := ob h
  refine callRV (As := [.ref (ad t1), .int (0 : Int32), .int (0 : Int32), .int v2]) (rest := []) hC (c_X4_worthWithOwn l g ad I J t1 (0 : Int32) (0 : Int32) v2 hT1 hc1) lk_X4_114 rfl rfl ⟨Nat.le_of_ble_eq_true rfl, Nat.le_of_ble_eq_true rfl⟩ hP hK xo_47 rfl rfl rfl hl (Nat.le_of_ble_eq_true rfl) dX4_bestWithOwn_7 ?_
  refine lv_lstore (lv' := [(4, .long r1), (3, .int (0 : Int32)), (0, .ref (ad 47)), (1, .ref (ad t1)), (2, .int v2)]) hx hb dX4_bestWithOwn_10 hl (by decide) rfl (fun ls hl => ?_)
  refine lv_iconst (v := 0) hx hb dX4_bestWithOwn_12 (by decide) ?_
  refine lv_istore (lv' := [(6, .int (0 : Int32)), (4, .long r1), (3, .int (0 : Int32)), (0, .ref (ad 47)), (1, .ref (ad t1)), (2, .int v2)]) hx hb dX4_bestWithOwn_13 hl (by decide) rfl (fun ls hl => ?_)
  exact loop_15 3000 t1 v2 (0 : Int32) r1 (0 : Int32) _ hT1 h (lv_sub hl [3, 4, 5, 2, 1, 0] rfl)
def FL_X4_weatherBy_16  : Nat → SI → SJ → Int32 → Int32 → Int32 → Option (Int32)
  | 0, _, _, _, _, _ => none
  | n + 1, I, J, w2_16, w3_16, w4_16 => (if (I 47 6) ≤ w4_16 then (some (0 : Int32)) else ((F_X4_chanceOf I J w4_16).bind fun r2 => (if (w3_16 + r2) ≤ w2_16 then (FL_X4_weatherBy_16 n I J w2_16 (w3_16 + r2) (w4_16 + 1)) else (some w4_16))))
def F_X4_weatherBy (I : SI) (J : SJ) (v1 : Int32) : Option (Int32) := (FL_X4_weatherBy_16 3000 I J (((v1 &&& (2147483647 : Int32)) / (65536 : Int32)) - ((v1 &&& (2147483647 : Int32)) / (65536 : Int32)) / (100 : Int32) * (100 : Int32)) (0 : Int32) (0 : Int32))
set_option maxHeartbeats 4000000 in
set_option maxRecDepth 100000 in
theorem c_X4_weatherBy (l : Launch) (g : Gx) (ad : Nat → Nat) (I : SI) (J : SJ) (v1 : Int32)  {r : Int32} (h : F_X4_weatherBy I J v1 = some r) : Met l yX4_weatherBy (Cond.code yX4_weatherBy cX4_weatherBy 5 (some .int) :: BG) (k2_rm 2 42) (va_Pc [.ref (ad 47), .int v1] (fun U => Pg g (xW ad g I J) U.heap ∧ Kg g U)) (k2_QcV (.int r)) 0 0 (fun _ => False) := by
  refine mkRi (by decide) (Nat.le_of_ble_eq_true rfl) ?_
  intro p e s m args below meth c H locs ls Q hC hK hP hl hret
  have hx := hC.1
  have hb := hC.2.1
  have hts := hC.2.2.2.2
  have hown := hC.2.2.2.1
  replace hl : lv_has ls 5 [(0, .ref (ad 47)), (1, .int v1)] := hl
  have loop_16 : ∀ (n : Nat) (w2_16 : Int32) (w3_16 : Int32) (w4_16 : Int32)  (ls : Array Slot), FL_X4_weatherBy_16 n I J w2_16 w3_16 w4_16 = some r → lv_has ls 5 [(0, .ref (ad 47)), (2, .int w2_16), (3, .int w3_16), (4, .int w4_16)] → W p l e (k2_rm 2 42) s m args below meth c H locs 0 0 Q (F0 m 16 ls []) := by
    intro n
    induction n with
    | zero =>
      intro w2_16 w3_16 w4_16 ls h
      exact no h
    | succ n ih =>
      intro w2_16 w3_16 w4_16 ls h hl
      rw [FL_X4_weatherBy_16] at h
      refine lv_iload hx hb dX4_weatherBy_16 (lv_at hl 3 rfl) ?_
      refine lv_aload_n hx hb dX4_weatherBy_18 rfl (lv_at hl 0 rfl) ?_
      refine gt_X4_72 hC hK hP dX4_weatherBy_19 ?_
      refine lv_icmp_ge (tgt := 48) hx hb dX4_weatherBy_22 (by decide) (fun c1 => ?_) (fun c1 => ?_)
      · replace h := (if_pos c1).symm.trans h
        refine lv_iconst (v := 0) hx hb dX4_weatherBy_48 (by decide) ?_
        exact hret _ _ _ dX4_weatherBy_49 (Option.some.inj h)
      · replace h := (if_neg c1).symm.trans h
        refine lv_iload_n hx hb dX4_weatherBy_25 rfl (lv_at hl 2 rfl) ?_
        refine lv_aload_n hx hb dX4_weatherBy_26 rfl (lv_at hl 0 rfl) ?_
        refine lv_iload hx hb dX4_weatherBy_27 (lv_at hl 3 rfl) ?_
        obtain ⟨r2, hc2, h⟩ := ob h
        refine callRV (As := [.int w4_16]) (rest := [.int w3_16]) hC (c_X4_chanceOf l g ad I J w4_16  hc2) lk_X4_97 rfl rfl ⟨Nat.le_of_ble_eq_true rfl, Nat.le_of_ble_eq_true rfl⟩ hP hK xo_47 rfl rfl rfl hl (Nat.le_of_ble_eq_true rfl) dX4_weatherBy_29 ?_
        refine lv_iadd hx hb dX4_weatherBy_32 ?_
        refine lv_istore_n (lv' := [(3, .int (w3_16 + r2)), (0, .ref (ad 47)), (2, .int w2_16), (4, .int w4_16)]) hx hb dX4_weatherBy_33 rfl hl (by decide) rfl (fun ls hl => ?_)
        refine lv_iload_n hx hb dX4_weatherBy_34 rfl (lv_at hl 2 rfl) ?_
        refine lv_iload_n hx hb dX4_weatherBy_35 rfl (lv_at hl 0 rfl) ?_
        refine lv_icmp_ge (tgt := 42) hx hb dX4_weatherBy_36 (by decide) (fun c3 => ?_) (fun c3 => ?_)
        · replace h := (if_pos c3).symm.trans h
          refine lv_iinc (v := (w4_16 + 1)) (lv' := [(4, .int (w4_16 + 1)), (3, .int (w3_16 + r2)), (0, .ref (ad 47)), (2, .int w2_16)]) hx hb dX4_weatherBy_42 hl (k := 3) rfl rfl (by decide) rfl (fun ls hl => ?_)
          refine lv_goto (tgt := 16) hx hb dX4_weatherBy_45 (by decide) ?_
          exact ih w2_16 (w3_16 + r2) (w4_16 + 1) _ h (lv_sub hl [2, 3, 1, 0] rfl)
        · replace h := (if_neg c3).symm.trans h
          refine lv_iload hx hb dX4_weatherBy_39 (lv_at hl 3 rfl) ?_
          exact hret _ _ _ dX4_weatherBy_41 (Option.some.inj h)
  unfold F_X4_weatherBy at h
  refine lv_iload_n hx hb dX4_weatherBy_0 rfl (lv_at hl 1 rfl) ?_
  refine lv_ldc hx hb hown (hts _ kc_X4_118) dX4_weatherBy_1 ?_
  refine lv_iand hx hb dX4_weatherBy_3 ?_
  refine lv_ldc hx hb hown (hts _ kc_X4_119) dX4_weatherBy_4 ?_
  refine lv_idiv hx hb dX4_weatherBy_6 (by decide) ?_
  refine lv_bipush (v := 100) hx hb dX4_weatherBy_7 (by decide) ?_
  refine lv_irem hx hb dX4_weatherBy_9 (by decide) ?_
  refine lv_istore_n (lv' := [(2, .int (((v1 &&& (2147483647 : Int32)) / (65536 : Int32)) - ((v1 &&& (2147483647 : Int32)) / (65536 : Int32)) / (100 : Int32) * (100 : Int32))), (0, .ref (ad 47)), (1, .int v1)]) hx hb dX4_weatherBy_10 rfl hl (by decide) rfl (fun ls hl => ?_)
  refine lv_iconst (v := 0) hx hb dX4_weatherBy_11 (by decide) ?_
  refine lv_istore_n (lv' := [(3, .int (0 : Int32)), (2, .int (((v1 &&& (2147483647 : Int32)) / (65536 : Int32)) - ((v1 &&& (2147483647 : Int32)) / (65536 : Int32)) / (100 : Int32) * (100 : Int32))), (0, .ref (ad 47)), (1, .int v1)]) hx hb dX4_weatherBy_12 rfl hl (by decide) rfl (fun ls hl => ?_)
  refine lv_iconst (v := 0) hx hb dX4_weatherBy_13 (by decide) ?_
  refine lv_istore (lv' := [(4, .int (0 : Int32)), (3, .int (0 : Int32)), (2, .int (((v1 &&& (2147483647 : Int32)) / (65536 : Int32)) - ((v1 &&& (2147483647 : Int32)) / (65536 : Int32)) / (100 : Int32) * (100 : Int32))), (0, .ref (ad 47)), (1, .int v1)]) hx hb dX4_weatherBy_14 hl (by decide) rfl (fun ls hl => ?_)
  exact loop_16 3000 (((v1 &&& (2147483647 : Int32)) / (65536 : Int32)) - ((v1 &&& (2147483647 : Int32)) / (65536 : Int32)) / (100 : Int32) * (100 : Int32)) (0 : Int32) (0 : Int32) _ h (lv_sub hl [3, 2, 1, 0] rfl)
def F_X4_drawnBushels (t1 : Nat) (I : SI) (J : SJ) (v2 : Int32) (v3 : Int32) (v4 : Int32) : Option (Int32) := ((F_X4_weatherBy I J v3).bind fun r1 => ((F_X4_harvestOf I J v2 r1).bind fun r2 => ((F_X1_bushelsOf 0 t1 I J r2 (if (9 : Int32) < v4 then (9 : Int32) else v4) (0 : Int32)).bind fun r3 => (some r3))))
set_option maxHeartbeats 4000000 in
set_option maxRecDepth 100000 in
theorem c_X4_drawnBushels (l : Launch) (g : Gx) (ad : Nat → Nat) (I : SI) (J : SJ) (t1 : Nat) (v2 : Int32) (v3 : Int32) (v4 : Int32) (hT1 : isT t1) {r : Int32} (h : F_X4_drawnBushels t1 I J v2 v3 v4 = some r) : Met l yX4_drawnBushels (Cond.code yX4_drawnBushels cX4_drawnBushels 6 (some .int) :: BG) (k2_rm 3 70) (va_Pc [.ref (ad 47), .ref (ad t1), .int v2, .int v3, .int v4] (fun U => Pg g (xW ad g I J) U.heap ∧ Kg g U)) (k2_QcV (.int r)) 0 0 (fun _ => False) := by
  refine mkRi (by decide) (Nat.le_of_ble_eq_true rfl) ?_
  intro p e s m args below meth c H locs ls Q hC hK hP hl hret
  have hx := hC.1
  have hb := hC.2.1
  have hts := hC.2.2.2.2
  have hown := hC.2.2.2.1
  replace hl : lv_has ls 6 [(0, .ref (ad 47)), (1, .ref (ad t1)), (2, .int v2), (3, .int v3), (4, .int v4)] := hl
  unfold F_X4_drawnBushels at h
  refine lv_aload_n hx hb dX4_drawnBushels_0 rfl (lv_at hl 0 rfl) ?_
  refine lv_iload_n hx hb dX4_drawnBushels_1 rfl (lv_at hl 2 rfl) ?_
  refine lv_aload_n hx hb dX4_drawnBushels_2 rfl (lv_at hl 0 rfl) ?_
  refine lv_iload_n hx hb dX4_drawnBushels_3 rfl (lv_at hl 3 rfl) ?_
  obtain ⟨r1, hc1, h⟩ := ob h
  refine callRV (As := [.int v3]) (rest := [.int v2, .ref (ad 47)]) hC (c_X4_weatherBy l g ad I J v3  hc1) lk_X4_120 rfl rfl ⟨Nat.le_of_ble_eq_true rfl, Nat.le_of_ble_eq_true rfl⟩ hP hK xo_47 rfl rfl rfl hl (Nat.le_of_ble_eq_true rfl) dX4_drawnBushels_4 ?_
  obtain ⟨r2, hc2, h⟩ := ob h
  refine callRV (As := [.int v2, .int r1]) (rest := []) hC (c_X4_harvestOf l g ad I J v2 r1  hc2) lk_X4_90 rfl rfl ⟨Nat.le_of_ble_eq_true rfl, Nat.le_of_ble_eq_true rfl⟩ hP hK xo_47 rfl rfl rfl hl (Nat.le_of_ble_eq_true rfl) dX4_drawnBushels_7 ?_
  refine lv_istore (lv' := [(5, .int r2), (0, .ref (ad 47)), (1, .ref (ad t1)), (2, .int v2), (3, .int v3), (4, .int v4)]) hx hb dX4_drawnBushels_10 hl (by decide) rfl (fun ls hl => ?_)
  refine lv_aload_n hx hb dX4_drawnBushels_12 rfl (lv_at hl 1 rfl) ?_
  refine gt_X4_26 hC hK hP dX4_drawnBushels_13 ?_
  refine lv_aload_n hx hb dX4_drawnBushels_16 rfl (lv_at hl 2 rfl) ?_
  refine lv_iload hx hb dX4_drawnBushels_17 (lv_at hl 0 rfl) ?_
  refine lv_iload hx hb dX4_drawnBushels_19 (lv_at hl 5 rfl) ?_
  refine lv_bipush (v := 9) hx hb dX4_drawnBushels_21 (by decide) ?_
  refine va_mmin hx hb (hC.2.2.1.trans hl.1.symm) hown (hts _ ml_X4_37) (hts _ sm_minI) (hts _ ini_math) (hts _ cd_minI) (Nat.le_of_ble_eq_true rfl) (Nat.le_of_ble_eq_true rfl) (Nat.zero_le _) (Nat.zero_le _) dX4_drawnBushels_23 ?_
  refine lv_iconst (v := 0) hx hb dX4_drawnBushels_26 (by decide) ?_
  obtain ⟨r3, hc3, h⟩ := ob h
  refine callRV (As := [.ref (ad t1), .int r2, .int (if (9 : Int32) < v4 then (9 : Int32) else v4), .int (0 : Int32)]) (rest := []) hC (c_X1_bushelsOf l g ad I J 0 t1 r2 (if (9 : Int32) < v4 then (9 : Int32) else v4) (0 : Int32) (Or.inl rfl) hT1 hc3) lk_X4_93 rfl rfl ⟨Nat.le_of_ble_eq_true rfl, Nat.le_of_ble_eq_true rfl⟩ hP hK (xEo (Or.inl rfl)) rfl rfl rfl hl (Nat.le_of_ble_eq_true rfl) dX4_drawnBushels_27 ?_
  exact hret _ _ _ dX4_drawnBushels_30 (Option.some.inj h)
def F_X6_hasRoom (I : SI) (J : SJ) (v1 : Int32) : Option (Int32) := (if (64 : Int32) < ((I 45 1) + v1) then (some (0 : Int32)) else (some (1 : Int32)))
set_option maxHeartbeats 4000000 in
set_option maxRecDepth 100000 in
theorem c_X6_hasRoom (l : Launch) (g : Gx) (ad : Nat → Nat) (I : SI) (J : SJ) (v1 : Int32)  {r : Int32} (h : F_X6_hasRoom I J v1 = some r) : Met l yX6_hasRoom (Cond.code yX6_hasRoom cX6_hasRoom 2 (some .boolean) :: BG) (k2_rm 0 0) (va_Pc [.ref (ad 45), .int v1] (fun U => Pg g (xW ad g I J) U.heap ∧ Kg g U)) (k2_QcV (.int r)) 0 0 (fun _ => False) := by
  refine mkRz (by decide) (Nat.le_of_ble_eq_true rfl) ?_
  intro p e s m args below meth c H locs ls Q hC hK hP hl hret
  have hx := hC.1
  have hb := hC.2.1
  have hts := hC.2.2.2.2
  have hown := hC.2.2.2.1
  replace hl : lv_has ls 2 [(0, .ref (ad 45)), (1, .int v1)] := hl
  unfold F_X6_hasRoom at h
  refine lv_aload_n hx hb dX6_hasRoom_0 rfl (lv_at hl 0 rfl) ?_
  refine gt_X6_13 hC hK hP dX6_hasRoom_1 ?_
  refine lv_iload_n hx hb dX6_hasRoom_4 rfl (lv_at hl 1 rfl) ?_
  refine lv_iadd hx hb dX6_hasRoom_5 ?_
  refine lv_bipush (v := 64) hx hb dX6_hasRoom_6 (by decide) ?_
  refine lv_icmp_gt (tgt := 15) hx hb dX6_hasRoom_8 (by decide) (fun c1 => ?_) (fun c1 => ?_)
  · replace h := (if_pos c1).symm.trans h
    refine lv_iconst (v := 0) hx hb dX6_hasRoom_15 (by decide) ?_
    exact hret _ _ _ dX6_hasRoom_16 rfl (Option.some.inj h)
  · replace h := (if_neg c1).symm.trans h
    refine lv_iconst (v := 1) hx hb dX6_hasRoom_11 (by decide) ?_
    refine lv_goto (tgt := 16) hx hb dX6_hasRoom_12 (by decide) ?_
    exact hret _ _ _ dX6_hasRoom_16 rfl (Option.some.inj h)
def FL_X6_append_3  : Nat → SI → SJ → Int32 → Int64 → Int32 → Option (SI × SJ)
  | 0, _, _, _, _, _ => none
  | n + 1, I, J, w1_3, w2_3, w4_3 => (if w1_3 ≤ w4_3 then (some (I, J)) else ((F_X2_put 64 (I 46) (I 45 1) (Int64.toInt32 (((Int64.toUInt64 w2_3 >>> ((Int32.toInt64 ((8 : Int32) * w4_3)).toUInt64 &&& Int64.toUInt64 63)).toInt64) &&& (255 : Int64)))).bind fun f_2 => (FL_X6_append_3 n (u2 (u1 I 46 f_2) 45 1 (((u1 I 46 f_2) 45 1) + (1 : Int32))) J w1_3 w2_3 (w4_3 + 1))))
def F_X6_append (I : SI) (J : SJ) (v1 : Int32) (v2 : Int64) : Option (SI × SJ) := (FL_X6_append_3 3000 I J v1 v2 (0 : Int32))
set_option maxHeartbeats 4000000 in
set_option maxRecDepth 100000 in
theorem c_X6_append (l : Launch) (g : Gx) (ad : Nat → Nat) (I : SI) (J : SJ) (v1 : Int32) (v2 : Int64)  (sz : Nat) {rI : SI} {rJ : SJ} (h : F_X6_append I J v1 v2 = some (rI, rJ)) : Met l yX6_append (Cond.code yX6_append cX6_append 5 none :: BG) (k2_rm 1 22) (PcW [.ref (ad 45), .int v1, .long v2] g (xW ad g I J) sz) (QWv g (xW ad g I J) (xW ad g rI rJ) sz) 0 0 (va_A (xW ad g I J) sz) := by
  refine mkWv (by decide) (Nat.le_of_ble_eq_true rfl) ?_
  intro p e s m args below meth c H locs ls A Q hC hK hP hD hA hS hl hret
  have hx := hC.1
  have hb := hC.2.1
  have hts := hC.2.2.2.2
  have hown := hC.2.2.2.1
  replace hl : lv_has ls 5 [(0, .ref (ad 45)), (1, .int v1), (2, .long v2)] := hl
  have loop_3 : ∀ (n : Nat) (I : SI) (J : SJ) (w1_3 : Int32) (w2_3 : Int64) (w4_3 : Int32)  (H : Heap) (locs : List Loc) (ls : Array Slot), FL_X6_append_3 n I J w1_3 w2_3 w4_3 = some (rI, rJ) → Pg g (xW ad g I J) H → va_D A (xW ad g I J) → va_S A s.heap H locs → lv_has ls 5 [(0, .ref (ad 45)), (1, .int w1_3), (2, .long w2_3), (4, .int w4_3)] → W p l e (k2_rm 1 22) s m args below meth c H locs 0 0 Q (F0 m 3 ls []) := by
    intro n
    induction n with
    | zero =>
      intro I J w1_3 w2_3 w4_3 H locs ls h
      exact no h
    | succ n ih =>
      intro I J w1_3 w2_3 w4_3 H locs ls h hP hD hS hl
      rw [FL_X6_append_3] at h
      refine lv_iload hx hb dX6_append_3 (lv_at hl 3 rfl) ?_
      refine lv_iload_n hx hb dX6_append_5 rfl (lv_at hl 1 rfl) ?_
      refine lv_icmp_ge (tgt := 48) hx hb dX6_append_6 (by decide) (fun c1 => ?_) (fun c1 => ?_)
      · replace h := (if_pos c1).symm.trans h
        obtain ⟨rfl, rfl⟩ := Prod.mk.inj (Option.some.inj h)
        exact hret _ _ _ _ dX6_append_48 hP hD hS
      · replace h := (if_neg c1).symm.trans h
        refine lv_aload_n hx hb dX6_append_9 rfl (lv_at hl 0 rfl) ?_
        refine gt_X6_9 hC hK hP dX6_append_10 ?_
        refine lv_aload_n hx hb dX6_append_13 rfl (lv_at hl 0 rfl) ?_
        refine gt_X6_13 hC hK hP dX6_append_14 ?_
        refine lv_lload_n hx hb dX6_append_17 rfl (lv_at hl 2 rfl) ?_
        refine lv_bipush (v := 8) hx hb dX6_append_18 (by decide) ?_
        refine lv_iload hx hb dX6_append_20 (lv_at hl 3 rfl) ?_
        refine lv_imul hx hb dX6_append_22 ?_
        refine lv_lushr hx hb dX6_append_23 rfl ?_
        refine lv_ldc2 hx hb hown (hts _ kc_X6_17) dX6_append_24 ?_
        refine lv_land hx hb dX6_append_27 ?_
        refine lv_l2i hx hb dX6_append_28 rfl ?_
        obtain ⟨f_2, hc2, h⟩ := ob h
        refine callWSv (As := [.ref (ad 46), .int (I 45 1), .int (Int64.toInt32 (((Int64.toUInt64 w2_3 >>> ((Int32.toInt64 ((8 : Int32) * w4_3)).toUInt64 &&& Int64.toUInt64 63)).toInt64) &&& (255 : Int64)))]) (rest := []) hC (c_X2_put l g (xW ad g I J) (fun f => xW ad g (u1 I 46 f) J) 46 64 (I 46) (ad 46) xc_46.1 xc_46.2.1 xc_46.2.2 (I 45 1) (Int64.toInt32 (((Int64.toUInt64 w2_3 >>> ((Int32.toInt64 ((8 : Int32) * w4_3)).toUInt64 &&& Int64.toUInt64 63)).toInt64) &&& (255 : Int64))) H.size hc2) lk_X6_19 rfl rfl ⟨Nat.le_of_ble_eq_true rfl, Nat.le_of_ble_eq_true rfl⟩ hP hK hD hA hS rfl rfl hl (Nat.le_of_ble_eq_true rfl) dX6_append_29 (fun H locs hP hD hS => ?_)
        refine lv_aload_n hx hb dX6_append_32 rfl (lv_at hl 0 rfl) ?_
        refine lv_dup hx hb dX6_append_33 rfl ?_
        refine gt_X6_13 hC hK hP dX6_append_34 ?_
        refine lv_iconst (v := 1) hx hb dX6_append_37 (by decide) ?_
        refine lv_iadd hx hb dX6_append_38 ?_
        refine pt_X6_13 hC hK hP hD hS dX6_append_39 (fun H locs hP hD hS => ?_)
        refine lv_iinc (v := (w4_3 + 1)) (lv' := [(4, .int (w4_3 + 1)), (0, .ref (ad 45)), (1, .int w1_3), (2, .long w2_3)]) hx hb dX6_append_42 hl (k := 3) rfl rfl (by decide) rfl (fun ls hl => ?_)
        refine lv_goto (tgt := 3) hx hb dX6_append_45 (by decide) ?_
        exact ih (u2 (u1 I 46 f_2) 45 1 (((u1 I 46 f_2) 45 1) + (1 : Int32))) J w1_3 w2_3 (w4_3 + 1) _ _ _ h hP hD hS (lv_sub hl [1, 2, 3, 0] rfl)
  unfold F_X6_append at h
  refine lv_iconst (v := 0) hx hb dX6_append_0 (by decide) ?_
  refine lv_istore (lv' := [(4, .int (0 : Int32)), (0, .ref (ad 45)), (1, .int v1), (2, .long v2)]) hx hb dX6_append_1 hl (by decide) rfl (fun ls hl => ?_)
  exact loop_3 3000 I J v1 v2 (0 : Int32) _ _ _ h hP hD hS (lv_sub hl [1, 2, 3, 0] rfl)
def F_X6_empty (I : SI) (J : SJ) : Option (SI × SJ) := (some ((u2 I 45 1 (0 : Int32)), J))
set_option maxHeartbeats 4000000 in
set_option maxRecDepth 100000 in
theorem c_X6_empty (l : Launch) (g : Gx) (ad : Nat → Nat) (I : SI) (J : SJ)   (sz : Nat) {rI : SI} {rJ : SJ} (h : F_X6_empty I J = some (rI, rJ)) : Met l yX6_empty (Cond.code yX6_empty cX6_empty 1 none :: BG) (k2_rm 0 0) (PcW [.ref (ad 45)] g (xW ad g I J) sz) (QWv g (xW ad g I J) (xW ad g rI rJ) sz) 0 0 (va_A (xW ad g I J) sz) := by
  refine mkWv (by decide) (Nat.le_of_ble_eq_true rfl) ?_
  intro p e s m args below meth c H locs ls A Q hC hK hP hD hA hS hl hret
  have hx := hC.1
  have hb := hC.2.1
  have hts := hC.2.2.2.2
  have hown := hC.2.2.2.1
  replace hl : lv_has ls 1 [(0, .ref (ad 45))] := hl
  unfold F_X6_empty at h
  refine lv_aload_n hx hb dX6_empty_0 rfl (lv_at hl 0 rfl) ?_
  refine lv_iconst (v := 0) hx hb dX6_empty_1 (by decide) ?_
  refine pt_X6_13 hC hK hP hD hS dX6_empty_2 (fun H locs hP hD hS => ?_)
  obtain ⟨rfl, rfl⟩ := Prod.mk.inj (Option.some.inj h)
  exact hret _ _ _ _ dX6_empty_5 hP hD hS
def F_X6_here (I : SI) (J : SJ) : Option (Int32) := (if (I 45 1) ≤ (I 45 2) then (some (-1 : Int32)) else ((F_X2_at 64 (I 46) (I 45 2)).bind fun r2 => (some r2)))
set_option maxHeartbeats 4000000 in
set_option maxRecDepth 100000 in
theorem c_X6_here (l : Launch) (g : Gx) (ad : Nat → Nat) (I : SI) (J : SJ)   {r : Int32} (h : F_X6_here I J = some r) : Met l yX6_here (Cond.code yX6_here cX6_here 1 (some .int) :: BG) (k2_rm 1 21) (va_Pc [.ref (ad 45)] (fun U => Pg g (xW ad g I J) U.heap ∧ Kg g U)) (k2_QcV (.int r)) 0 0 (fun _ => False) := by
  refine mkRi (by decide) (Nat.le_of_ble_eq_true rfl) ?_
  intro p e s m args below meth c H locs ls Q hC hK hP hl hret
  have hx := hC.1
  have hb := hC.2.1
  have hts := hC.2.2.2.2
  have hown := hC.2.2.2.1
  replace hl : lv_has ls 1 [(0, .ref (ad 45))] := hl
  unfold F_X6_here at h
  refine lv_aload_n hx hb dX6_here_0 rfl (lv_at hl 0 rfl) ?_
  refine gt_X6_25 hC hK hP dX6_here_1 ?_
  refine lv_aload_n hx hb dX6_here_4 rfl (lv_at hl 0 rfl) ?_
  refine gt_X6_13 hC hK hP dX6_here_5 ?_
  refine lv_icmp_ge (tgt := 25) hx hb dX6_here_8 (by decide) (fun c1 => ?_) (fun c1 => ?_)
  · replace h := (if_pos c1).symm.trans h
    refine lv_iconst (v := -1) hx hb dX6_here_25 (by decide) ?_
    exact hret _ _ _ dX6_here_26 (Option.some.inj h)
  · replace h := (if_neg c1).symm.trans h
    refine lv_aload_n hx hb dX6_here_11 rfl (lv_at hl 0 rfl) ?_
    refine gt_X6_9 hC hK hP dX6_here_12 ?_
    refine lv_aload_n hx hb dX6_here_15 rfl (lv_at hl 0 rfl) ?_
    refine gt_X6_25 hC hK hP dX6_here_16 ?_
    obtain ⟨r2, hc2, h⟩ := ob h
    refine callRS (As := [.ref (ad 46), .int (I 45 2)]) (rest := []) hC (c_X2_at l g (xW ad g I J) 46 64 (I 46) (ad 46) xo_46 (I 45 2) hc2) lk_X6_28 rfl rfl ⟨Nat.le_of_ble_eq_true rfl, Nat.le_of_ble_eq_true rfl⟩ hP hK rfl rfl hl (Nat.le_of_ble_eq_true rfl) dX6_here_19 ?_
    refine lv_goto (tgt := 26) hx hb dX6_here_22 (by decide) ?_
    exact hret _ _ _ dX6_here_26 (Option.some.inj h)
def F_X6_skip (I : SI) (J : SJ) (v1 : Int32) : Option (Int32 × SI × SJ) := ((F_X6_here I J).bind fun r1 => (if r1 = v1 then (some ((1 : Int32), (u2 I 45 2 ((I 45 2) + (1 : Int32))), J)) else (some ((0 : Int32), I, J))))
set_option maxHeartbeats 4000000 in
set_option maxRecDepth 100000 in
theorem c_X6_skip (l : Launch) (g : Gx) (ad : Nat → Nat) (I : SI) (J : SJ) (v1 : Int32)  (sz : Nat) {r : Int32} {rI : SI} {rJ : SJ} (h : F_X6_skip I J v1 = some (r, rI, rJ)) : Met l yX6_skip (Cond.code yX6_skip cX6_skip 2 (some .boolean) :: BG) (k2_rm 2 41) (PcW [.ref (ad 45), .int v1] g (xW ad g I J) sz) (QWi r g (xW ad g I J) (xW ad g rI rJ) sz) 0 0 (va_A (xW ad g I J) sz) := by
  refine mkWz (by decide) (Nat.le_of_ble_eq_true rfl) ?_
  intro p e s m args below meth c H locs ls A Q hC hK hP hD hA hS hl hret
  have hx := hC.1
  have hb := hC.2.1
  have hts := hC.2.2.2.2
  have hown := hC.2.2.2.1
  replace hl : lv_has ls 2 [(0, .ref (ad 45)), (1, .int v1)] := hl
  unfold F_X6_skip at h
  refine lv_aload_n hx hb dX6_skip_0 rfl (lv_at hl 0 rfl) ?_
  obtain ⟨r1, hc1, h⟩ := ob h
  refine callRV (As := []) (rest := []) hC (c_X6_here l g ad I J   hc1) lk_X6_32 rfl rfl ⟨Nat.le_of_ble_eq_true rfl, Nat.le_of_ble_eq_true rfl⟩ hP hK xo_45 rfl rfl rfl hl (Nat.le_of_ble_eq_true rfl) dX6_skip_1 ?_
  refine lv_iload_n hx hb dX6_skip_4 rfl (lv_at hl 1 rfl) ?_
  refine lv_icmp_eq (tgt := 10) hx hb dX6_skip_5 (by decide) (fun c2 => ?_) (fun c2 => ?_)
  · replace h := (if_pos c2).symm.trans h
    refine lv_aload_n hx hb dX6_skip_10 rfl (lv_at hl 0 rfl) ?_
    refine lv_dup hx hb dX6_skip_11 rfl ?_
    refine gt_X6_25 hC hK hP dX6_skip_12 ?_
    refine lv_iconst (v := 1) hx hb dX6_skip_15 (by decide) ?_
    refine lv_iadd hx hb dX6_skip_16 ?_
    refine pt_X6_25 hC hK hP hD hS dX6_skip_17 (fun H locs hP hD hS => ?_)
    refine lv_iconst (v := 1) hx hb dX6_skip_20 (by decide) ?_
    obtain ⟨h1, h⟩ := Prod.mk.inj (Option.some.inj h)
    obtain ⟨rfl, rfl⟩ := Prod.mk.inj h
    exact hret _ _ _ _ _ dX6_skip_21 rfl h1 hP hD hS
  · replace h := (if_neg c2).symm.trans h
    refine lv_iconst (v := 0) hx hb dX6_skip_8 (by decide) ?_
    obtain ⟨h1, h⟩ := Prod.mk.inj (Option.some.inj h)
    obtain ⟨rfl, rfl⟩ := Prod.mk.inj h
    exact hret _ _ _ _ _ dX6_skip_9 rfl h1 hP hD hS
