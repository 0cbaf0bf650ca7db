def F_X7_years (I : SI) (J : SJ) (v1 : Int32) (v2 : Int32) (v3 : Int32) (v4 : Int32) : Option (Int64 × SI × SJ) := ((F_X1_termAt 0 I J v1).bind fun r1 => (match r1 with | none => ((F_X7_refuseAsToldLong I J (-1 : Int32)).bind fun (r2, I2, J2) => (some (r2, I2, J2))) | some t1 => (if v4 = 0 then ((F_X7_inRange v2 (0 : Int32) (3 : Int32)).bind fun r4 => ((F_X7_inRange v3 (1 : Int32) (10 : Int32)).bind fun r5 => ((F_X7_first r4 r5).bind fun r6 => (if r6 = 0 then ((F_X0_lay t1 I J v3).bind fun (I8, J8) => ((F_X0_sumUp I8 J8 (0 : Int32)).bind fun (I9, J9) => (if v4 = 0 then ((F_X0_yearsWithDung I9 J9 v2).bind fun r12 => (some (r12, I9, J9))) else ((F_X0_sumOf I9 J9 (0 : Int32) v2).bind fun r11 => (some (r11, I9, J9)))))) else ((F_X7_refuseAsToldLong I J r6).bind fun (r13, I13, J13) => (some (r13, I13, J13))))))) else (if v4 = (1 : Int32) then ((F_X7_inRange v2 (0 : Int32) (3 : Int32)).bind fun r15 => ((F_X7_inRange v3 (1 : Int32) (10 : Int32)).bind fun r16 => ((F_X7_first r15 r16).bind fun r17 => (if r17 = 0 then ((F_X0_lay t1 I J v3).bind fun (I19, J19) => ((F_X0_sumUp I19 J19 (0 : Int32)).bind fun (I20, J20) => (if v4 = 0 then ((F_X0_yearsWithDung I20 J20 v2).bind fun r23 => (some (r23, I20, J20))) else ((F_X0_sumOf I20 J20 (0 : Int32) v2).bind fun r22 => (some (r22, I20, J20)))))) else ((F_X7_refuseAsToldLong I J r17).bind fun (r24, I24, J24) => (some (r24, I24, J24))))))) else ((F_X7_refuseAsToldLong I J (-2 : Int32)).bind fun (r25, I25, J25) => (some (r25, I25, J25)))))))
set_option maxHeartbeats 4000000 in
set_option maxRecDepth 100000 in
theorem c_X7_years (l : Launch) (g : Gx) (ad : Nat → Nat) (I : SI) (J : SJ) (v1 : Int32) (v2 : Int32) (v3 : Int32) (v4 : Int32)  (sz : Nat) {r : Int64} {rI : SI} {rJ : SJ} (h : F_X7_years I J v1 v2 v3 v4 = some (r, rI, rJ)) : Met l yX7_years (Cond.code yX7_years cX7_years 7 (some .long) :: BG) (k2_rm 6 146) (PcW [.ref (ad 59), .int v1, .int v2, .int v3, .int v4] g (xW ad g I J) sz) (QWl r g (xW ad g I J) (xW ad g rI rJ) sz) 0 0 (va_A (xW ad g I J) sz) := by
  refine mkWl (by decide) (Nat.le_of_ble_eq_true rfl) ?_
  intro p e s m args below meth c H locs ls A Q hC hK hP hD hA hS hl hret
  have hx := hC.1
  have hb := hC.2.1
  have hts := hC.2.2.2.2
  have hown := hC.2.2.2.1
  replace hl : lv_has ls 7 [(0, .ref (ad 59)), (1, .int v1), (2, .int v2), (3, .int v3), (4, .int v4)] := hl
  unfold F_X7_years at h
  refine lv_aload_n hx hb dX7_years_0 rfl (lv_at hl 0 rfl) ?_
  refine gt_X7_10 hC hK hP dX7_years_1 ?_
  refine lv_iload_n hx hb dX7_years_4 rfl (lv_at hl 1 rfl) ?_
  obtain ⟨r1, hc1, h⟩ := ob h
  rcases r1 with _ | t1
  · refine callRV (As := [.int v1]) (rest := []) hC (c_X1_termAt l g ad I J 0 v1 (Or.inl rfl) hc1) lk_X7_106 rfl rfl ⟨Nat.le_of_ble_eq_true rfl, Nat.le_of_ble_eq_true rfl⟩ hP hK (xEo (Or.inl rfl)) rfl rfl rfl hl (Nat.le_of_ble_eq_true rfl) dX7_years_5 ?_
    refine lv_astoreN (lv' := [(5, .null), (0, .ref (ad 59)), (1, .int v1), (2, .int v2), (3, .int v3), (4, .int v4)]) hx hb dX7_years_8 hl (by decide) rfl (fun ls hl => ?_)
    refine lv_aloadN hx hb dX7_years_10 (lv_at hl 0 rfl) ?_
    refine lv_ifnonnullN hx hb dX7_years_12 ?_
    refine lv_aload_n hx hb dX7_years_15 rfl (lv_at hl 1 rfl) ?_
    refine lv_iconst (v := -1) hx hb dX7_years_16 (by decide) ?_
    obtain ⟨⟨r2, I2, J2⟩, hc2, h⟩ := ob h
    dsimp only at h
    refine callWVl (As := [.int (-1 : Int32)]) (rest := []) hC (c_X7_refuseAsToldLong l g ad I J (-1 : Int32)  H.size hc2) lk_X7_171 rfl rfl ⟨Nat.le_of_ble_eq_true rfl, Nat.le_of_ble_eq_true rfl⟩ hP hK hD hA hS xo_59 rfl rfl rfl hl (Nat.le_of_ble_eq_true rfl) dX7_years_17 (fun H locs hP hD hS => ?_)
    obtain ⟨h1, h⟩ := Prod.mk.inj (Option.some.inj h)
    obtain ⟨rfl, rfl⟩ := Prod.mk.inj h
    exact hret _ _ _ _ _ dX7_years_20 h1 hP hD hS
  · have hTt1 : isT t1 := termAt_isT (Or.inl rfl) hc1
    refine callRV (As := [.int v1]) (rest := []) hC (c_X1_termAt l g ad I J 0 v1 (Or.inl rfl) hc1) lk_X7_106 rfl rfl ⟨Nat.le_of_ble_eq_true rfl, Nat.le_of_ble_eq_true rfl⟩ hP hK (xEo (Or.inl rfl)) rfl rfl rfl hl (Nat.le_of_ble_eq_true rfl) dX7_years_5 ?_
    refine lv_astore (lv' := [(5, .ref (ad t1)), (0, .ref (ad 59)), (1, .int v1), (2, .int v2), (3, .int v3), (4, .int v4)]) hx hb dX7_years_8 hl (by decide) rfl (fun ls hl => ?_)
    refine lv_aload hx hb dX7_years_10 (lv_at hl 0 rfl) ?_
    refine lv_ifnonnull (tgt := 21) hx hb dX7_years_12 (by decide) ?_
    refine lv_iload hx hb dX7_years_21 (lv_at hl 5 rfl) ?_
    refine lv_if_eq (tgt := 39) hx hb dX7_years_23 (by decide) (fun c3 => ?_) (fun c3 => ?_)
    · replace h := (if_pos c3).symm.trans h
      refine lv_iload_n hx hb dX7_years_39 rfl (lv_at hl 3 rfl) ?_
      refine lv_iconst (v := 0) hx hb dX7_years_40 (by decide) ?_
      refine lv_iconst (v := 3) hx hb dX7_years_41 (by decide) ?_
      obtain ⟨r4, hc4, h⟩ := ob h
      refine callRS (As := [.int v2, .int (0 : Int32), .int (3 : Int32)]) (rest := []) hC (c_X7_inRange l g (xW ad g I J) v2 (0 : Int32) (3 : Int32) hc4) lk_X7_66 rfl rfl ⟨Nat.le_of_ble_eq_true rfl, Nat.le_of_ble_eq_true rfl⟩ hP hK rfl rfl hl (Nat.le_of_ble_eq_true rfl) dX7_years_42 ?_
      refine lv_iload_n hx hb dX7_years_45 rfl (lv_at hl 4 rfl) ?_
      refine lv_iconst (v := 1) hx hb dX7_years_46 (by decide) ?_
      refine lv_bipush (v := 10) hx hb dX7_years_47 (by decide) ?_
      obtain ⟨r5, hc5, h⟩ := ob h
      refine callRS (As := [.int v3, .int (1 : Int32), .int (10 : Int32)]) (rest := [.int r4]) hC (c_X7_inRange l g (xW ad g I J) v3 (1 : Int32) (10 : Int32) hc5) lk_X7_66 rfl rfl ⟨Nat.le_of_ble_eq_true rfl, Nat.le_of_ble_eq_true rfl⟩ hP hK rfl rfl hl (Nat.le_of_ble_eq_true rfl) dX7_years_49 ?_
      obtain ⟨r6, hc6, h⟩ := ob h
      refine callRS (As := [.int r4, .int r5]) (rest := []) hC (c_X7_first l g (xW ad g I J) r4 r5 hc6) lk_X7_161 rfl rfl ⟨Nat.le_of_ble_eq_true rfl, Nat.le_of_ble_eq_true rfl⟩ hP hK rfl rfl hl (Nat.le_of_ble_eq_true rfl) dX7_years_52 ?_
      refine lv_istore (lv' := [(6, .int r6), (5, .ref (ad t1)), (0, .ref (ad 59)), (1, .int v1), (2, .int v2), (3, .int v3), (4, .int v4)]) hx hb dX7_years_55 hl (by decide) rfl (fun ls hl => ?_)
      refine lv_iload hx hb dX7_years_57 (lv_at hl 0 rfl) ?_
      refine lv_if_eq (tgt := 69) hx hb dX7_years_59 (by decide) (fun c7 => ?_) (fun c7 => ?_)
      · replace h := (if_pos c7).symm.trans h
        refine lv_aload_n hx hb dX7_years_69 rfl (lv_at hl 2 rfl) ?_
        refine gt_X7_48 hC hK hP dX7_years_70 ?_
        refine lv_aload_n hx hb dX7_years_73 rfl (lv_at hl 2 rfl) ?_
        refine gt_X7_34 hC hK hP dX7_years_74 ?_
        refine lv_aload hx hb dX7_years_77 (lv_at hl 1 rfl) ?_
        refine lv_iload_n hx hb dX7_years_79 rfl (lv_at hl 5 rfl) ?_
        obtain ⟨⟨I8, J8⟩, hc8, h⟩ := ob h
        dsimp only at h
        refine callWVv (As := [.ref (ad 47), .ref (ad t1), .int v3]) (rest := []) hC (c_X0_lay l g ad I J t1 v3 hTt1 H.size hc8) lk_X7_238 rfl rfl ⟨Nat.le_of_ble_eq_true rfl, Nat.le_of_ble_eq_true rfl⟩ hP hK hD hA hS xo_55 rfl rfl rfl hl (Nat.le_of_ble_eq_true rfl) dX7_years_80 (fun H locs hP hD hS => ?_)
        refine lv_aload_n hx hb dX7_years_83 rfl (lv_at hl 2 rfl) ?_
        refine gt_X7_48 hC hK hP dX7_years_84 ?_
        refine lv_iconst (v := 0) hx hb dX7_years_87 (by decide) ?_
        obtain ⟨⟨I9, J9⟩, hc9, h⟩ := ob h
        dsimp only at h
        refine callWVv (As := [.int (0 : Int32)]) (rest := []) hC (c_X0_sumUp l g ad I8 J8 (0 : Int32)  H.size hc9) lk_X7_241 rfl rfl ⟨Nat.le_of_ble_eq_true rfl, Nat.le_of_ble_eq_true rfl⟩ hP hK hD hA hS xo_55 rfl rfl rfl hl (Nat.le_of_ble_eq_true rfl) dX7_years_88 (fun H locs hP hD hS => ?_)
        refine lv_iload hx hb dX7_years_91 (lv_at hl 6 rfl) ?_
        refine lv_if_ne (tgt := 107) hx hb dX7_years_93 (by decide) (fun c10 => ?_) (fun c10 => ?_)
        · replace h := (if_neg c10).symm.trans h
          refine lv_aload_n hx hb dX7_years_107 rfl (lv_at hl 2 rfl) ?_
          refine gt_X7_48 hC hK hP dX7_years_108 ?_
          refine lv_iconst (v := 0) hx hb dX7_years_111 (by decide) ?_
          refine lv_iload_n hx hb dX7_years_112 rfl (lv_at hl 4 rfl) ?_
          obtain ⟨r11, hc11, h⟩ := ob h
          refine callRV (As := [.int (0 : Int32), .int v2]) (rest := []) hC (c_X0_sumOf l g ad I9 J9 (0 : Int32) v2  hc11) lk_X7_247 rfl rfl ⟨Nat.le_of_ble_eq_true rfl, Nat.le_of_ble_eq_true rfl⟩ hP hK xo_55 rfl rfl rfl hl (Nat.le_of_ble_eq_true rfl) dX7_years_113 ?_
          obtain ⟨h1, h⟩ := Prod.mk.inj (Option.some.inj h)
          obtain ⟨rfl, rfl⟩ := Prod.mk.inj h
          exact hret _ _ _ _ _ dX7_years_116 h1 hP hD hS
        · replace h := (if_pos c10).symm.trans h
          refine lv_aload_n hx hb dX7_years_96 rfl (lv_at hl 2 rfl) ?_
          refine gt_X7_48 hC hK hP dX7_years_97 ?_
          refine lv_iload_n hx hb dX7_years_100 rfl (lv_at hl 4 rfl) ?_
          obtain ⟨r12, hc12, h⟩ := ob h
          refine callRV (As := [.int v2]) (rest := []) hC (c_X0_yearsWithDung l g ad I9 J9 v2  hc12) lk_X7_244 rfl rfl ⟨Nat.le_of_ble_eq_true rfl, Nat.le_of_ble_eq_true rfl⟩ hP hK xo_55 rfl rfl rfl hl (Nat.le_of_ble_eq_true rfl) dX7_years_101 ?_
          refine lv_goto (tgt := 116) hx hb dX7_years_104 (by decide) ?_
          obtain ⟨h1, h⟩ := Prod.mk.inj (Option.some.inj h)
          obtain ⟨rfl, rfl⟩ := Prod.mk.inj h
          exact hret _ _ _ _ _ dX7_years_116 h1 hP hD hS
      · replace h := (if_neg c7).symm.trans h
        refine lv_aload_n hx hb dX7_years_62 rfl (lv_at hl 2 rfl) ?_
        refine lv_iload hx hb dX7_years_63 (lv_at hl 0 rfl) ?_
        obtain ⟨⟨r13, I13, J13⟩, hc13, h⟩ := ob h
        dsimp only at h
        refine callWVl (As := [.int r6]) (rest := []) hC (c_X7_refuseAsToldLong l g ad I J r6  H.size hc13) lk_X7_171 rfl rfl ⟨Nat.le_of_ble_eq_true rfl, Nat.le_of_ble_eq_true rfl⟩ hP hK hD hA hS xo_59 rfl rfl rfl hl (Nat.le_of_ble_eq_true rfl) dX7_years_65 (fun H locs hP hD hS => ?_)
        obtain ⟨h1, h⟩ := Prod.mk.inj (Option.some.inj h)
        obtain ⟨rfl, rfl⟩ := Prod.mk.inj h
        exact hret _ _ _ _ _ dX7_years_68 h1 hP hD hS
    · replace h := (if_neg c3).symm.trans h
      refine lv_iload hx hb dX7_years_26 (lv_at hl 5 rfl) ?_
      refine lv_iconst (v := 1) hx hb dX7_years_28 (by decide) ?_
      refine lv_icmp_eq (tgt := 39) hx hb dX7_years_29 (by decide) (fun c14 => ?_) (fun c14 => ?_)
      · replace h := (if_pos c14).symm.trans h
        refine lv_iload_n hx hb dX7_years_39 rfl (lv_at hl 3 rfl) ?_
        refine lv_iconst (v := 0) hx hb dX7_years_40 (by decide) ?_
        refine lv_iconst (v := 3) hx hb dX7_years_41 (by decide) ?_
        obtain ⟨r15, hc15, h⟩ := ob h
        refine callRS (As := [.int v2, .int (0 : Int32), .int (3 : Int32)]) (rest := []) hC (c_X7_inRange l g (xW ad g I J) v2 (0 : Int32) (3 : Int32) hc15) lk_X7_66 rfl rfl ⟨Nat.le_of_ble_eq_true rfl, Nat.le_of_ble_eq_true rfl⟩ hP hK rfl rfl hl (Nat.le_of_ble_eq_true rfl) dX7_years_42 ?_
        refine lv_iload_n hx hb dX7_years_45 rfl (lv_at hl 4 rfl) ?_
        refine lv_iconst (v := 1) hx hb dX7_years_46 (by decide) ?_
        refine lv_bipush (v := 10) hx hb dX7_years_47 (by decide) ?_
        obtain ⟨r16, hc16, h⟩ := ob h
        refine callRS (As := [.int v3, .int (1 : Int32), .int (10 : Int32)]) (rest := [.int r15]) hC (c_X7_inRange l g (xW ad g I J) v3 (1 : Int32) (10 : Int32) hc16) lk_X7_66 rfl rfl ⟨Nat.le_of_ble_eq_true rfl, Nat.le_of_ble_eq_true rfl⟩ hP hK rfl rfl hl (Nat.le_of_ble_eq_true rfl) dX7_years_49 ?_
        obtain ⟨r17, hc17, h⟩ := ob h
        refine callRS (As := [.int r15, .int r16]) (rest := []) hC (c_X7_first l g (xW ad g I J) r15 r16 hc17) lk_X7_161 rfl rfl ⟨Nat.le_of_ble_eq_true rfl, Nat.le_of_ble_eq_true rfl⟩ hP hK rfl rfl hl (Nat.le_of_ble_eq_true rfl) dX7_years_52 ?_
        refine lv_istore (lv' := [(6, .int r17), (5, .ref (ad t1)), (0, .ref (ad 59)), (1, .int v1), (2, .int v2), (3, .int v3), (4, .int v4)]) hx hb dX7_years_55 hl (by decide) rfl (fun ls hl => ?_)
        refine lv_iload hx hb dX7_years_57 (lv_at hl 0 rfl) ?_
        refine lv_if_eq (tgt := 69) hx hb dX7_years_59 (by decide) (fun c18 => ?_) (fun c18 => ?_)
        · replace h := (if_pos c18).symm.trans h
          refine lv_aload_n hx hb dX7_years_69 rfl (lv_at hl 2 rfl) ?_
          refine gt_X7_48 hC hK hP dX7_years_70 ?_
          refine lv_aload_n hx hb dX7_years_73 rfl (lv_at hl 2 rfl) ?_
          refine gt_X7_34 hC hK hP dX7_years_74 ?_
          refine lv_aload hx hb dX7_years_77 (lv_at hl 1 rfl) ?_
          refine lv_iload_n hx hb dX7_years_79 rfl (lv_at hl 5 rfl) ?_
          obtain ⟨⟨I19, J19⟩, hc19, h⟩ := ob h
          dsimp only at h
          refine callWVv (As := [.ref (ad 47), .ref (ad t1), .int v3]) (rest := []) hC (c_X0_lay l g ad I J t1 v3 hTt1 H.size hc19) lk_X7_238 rfl rfl ⟨Nat.le_of_ble_eq_true rfl, Nat.le_of_ble_eq_true rfl⟩ hP hK hD hA hS xo_55 rfl rfl rfl hl (Nat.le_of_ble_eq_true rfl) dX7_years_80 (fun H locs hP hD hS => ?_)
          refine lv_aload_n hx hb dX7_years_83 rfl (lv_at hl 2 rfl) ?_
          refine gt_X7_48 hC hK hP dX7_years_84 ?_
          refine lv_iconst (v := 0) hx hb dX7_years_87 (by decide) ?_
          obtain ⟨⟨I20, J20⟩, hc20, h⟩ := ob h
          dsimp only at h
          refine callWVv (As := [.int (0 : Int32)]) (rest := []) hC (c_X0_sumUp l g ad I19 J19 (0 : Int32)  H.size hc20) lk_X7_241 rfl rfl ⟨Nat.le_of_ble_eq_true rfl, Nat.le_of_ble_eq_true rfl⟩ hP hK hD hA hS xo_55 rfl rfl rfl hl (Nat.le_of_ble_eq_true rfl) dX7_years_88 (fun H locs hP hD hS => ?_)
          refine lv_iload hx hb dX7_years_91 (lv_at hl 6 rfl) ?_
          refine lv_if_ne (tgt := 107) hx hb dX7_years_93 (by decide) (fun c21 => ?_) (fun c21 => ?_)
          · replace h := (if_neg c21).symm.trans h
            refine lv_aload_n hx hb dX7_years_107 rfl (lv_at hl 2 rfl) ?_
            refine gt_X7_48 hC hK hP dX7_years_108 ?_
            refine lv_iconst (v := 0) hx hb dX7_years_111 (by decide) ?_
            refine lv_iload_n hx hb dX7_years_112 rfl (lv_at hl 4 rfl) ?_
            obtain ⟨r22, hc22, h⟩ := ob h
            refine callRV (As := [.int (0 : Int32), .int v2]) (rest := []) hC (c_X0_sumOf l g ad I20 J20 (0 : Int32) v2  hc22) lk_X7_247 rfl rfl ⟨Nat.le_of_ble_eq_true rfl, Nat.le_of_ble_eq_true rfl⟩ hP hK xo_55 rfl rfl rfl hl (Nat.le_of_ble_eq_true rfl) dX7_years_113 ?_
            obtain ⟨h1, h⟩ := Prod.mk.inj (Option.some.inj h)
            obtain ⟨rfl, rfl⟩ := Prod.mk.inj h
            exact hret _ _ _ _ _ dX7_years_116 h1 hP hD hS
          · replace h := (if_pos c21).symm.trans h
            refine lv_aload_n hx hb dX7_years_96 rfl (lv_at hl 2 rfl) ?_
            refine gt_X7_48 hC hK hP dX7_years_97 ?_
            refine lv_iload_n hx hb dX7_years_100 rfl (lv_at hl 4 rfl) ?_
            obtain ⟨r23, hc23, h⟩ := ob h
            refine callRV (As := [.int v2]) (rest := []) hC (c_X0_yearsWithDung l g ad I20 J20 v2  hc23) lk_X7_244 rfl rfl ⟨Nat.le_of_ble_eq_true rfl, Nat.le_of_ble_eq_true rfl⟩ hP hK xo_55 rfl rfl rfl hl (Nat.le_of_ble_eq_true rfl) dX7_years_101 ?_
            refine lv_goto (tgt := 116) hx hb dX7_years_104 (by decide) ?_
            obtain ⟨h1, h⟩ := Prod.mk.inj (Option.some.inj h)
            obtain ⟨rfl, rfl⟩ := Prod.mk.inj h
            exact hret _ _ _ _ _ dX7_years_116 h1 hP hD hS
        · replace h := (if_neg c18).symm.trans h
          refine lv_aload_n hx hb dX7_years_62 rfl (lv_at hl 2 rfl) ?_
          refine lv_iload hx hb dX7_years_63 (lv_at hl 0 rfl) ?_
          obtain ⟨⟨r24, I24, J24⟩, hc24, h⟩ := ob h
          dsimp only at h
          refine callWVl (As := [.int r17]) (rest := []) hC (c_X7_refuseAsToldLong l g ad I J r17  H.size hc24) lk_X7_171 rfl rfl ⟨Nat.le_of_ble_eq_true rfl, Nat.le_of_ble_eq_true rfl⟩ hP hK hD hA hS xo_59 rfl rfl rfl hl (Nat.le_of_ble_eq_true rfl) dX7_years_65 (fun H locs hP hD hS => ?_)
          obtain ⟨h1, h⟩ := Prod.mk.inj (Option.some.inj h)
          obtain ⟨rfl, rfl⟩ := Prod.mk.inj h
          exact hret _ _ _ _ _ dX7_years_68 h1 hP hD hS
      · replace h := (if_neg c14).symm.trans h
        refine lv_aload_n hx hb dX7_years_32 rfl (lv_at hl 1 rfl) ?_
        refine lv_bipush (v := -2) hx hb dX7_years_33 (by decide) ?_
        obtain ⟨⟨r25, I25, J25⟩, hc25, h⟩ := ob h
        dsimp only at h
        refine callWVl (As := [.int (-2 : Int32)]) (rest := []) hC (c_X7_refuseAsToldLong l g ad I J (-2 : Int32)  H.size hc25) lk_X7_171 rfl rfl ⟨Nat.le_of_ble_eq_true rfl, Nat.le_of_ble_eq_true rfl⟩ hP hK hD hA hS xo_59 rfl rfl rfl hl (Nat.le_of_ble_eq_true rfl) dX7_years_35 (fun H locs hP hD hS => ?_)
        obtain ⟨h1, h⟩ := Prod.mk.inj (Option.some.inj h)
        obtain ⟨rfl, rfl⟩ := Prod.mk.inj h
        exact hret _ _ _ _ _ dX7_years_38 h1 hP hD hS
def FL_X7_leaving_56  : Nat → SI → SJ → Int32 → Int32 → Option (Int32 × SI × SJ)
  | 0, _, _, _, _ => none
  | n + 1, I, J, w2_56, w5_56 => (if (99 : Int32) < w5_56 then (some ((-9 : Int32), I, J)) else ((F_X0_sumUp I J w5_56).bind fun (I7, J7) => ((F_X0_yearsWithDung I7 J7 (0 : Int32)).bind fun r8 => (if ((r8 >>> (Int32.toInt64 (w2_56 - (1 : Int32)) &&& 63)) &&& (1 : Int64)) = (1 : Int64) then (some (w5_56, I7, J7)) else (FL_X7_leaving_56 n I7 J7 w2_56 (w5_56 + 1))))))
def F_X7_leaving (I : SI) (J : SJ) (v1 : Int32) (v2 : Int32) : Option (Int32 × SI × SJ) := ((F_X1_termAt 0 I J v1).bind fun r1 => (match r1 with | none => ((F_X7_refuse I J (-1 : Int32)).bind fun (r2, I2, J2) => (some (r2, I2, J2))) | some t1 => ((F_X7_inRange v2 (1 : Int32) (10 : Int32)).bind fun r3 => (if r3 = 0 then ((F_X0_lay t1 I J v2).bind fun (I5, J5) => (FL_X7_leaving_56 3000 I5 J5 v2 (0 : Int32))) else ((F_X7_refuse I J r3).bind fun (r10, I10, J10) => (some (r10, I10, J10)))))))
set_option maxHeartbeats 4000000 in
set_option maxRecDepth 100000 in
theorem c_X7_leaving (l : Launch) (g : Gx) (ad : Nat → Nat) (I : SI) (J : SJ) (v1 : Int32) (v2 : Int32)  (sz : Nat) {r : Int32} {rI : SI} {rJ : SJ} (h : F_X7_leaving I J v1 v2 = some (r, rI, rJ)) : Met l yX7_leaving (Cond.code yX7_leaving cX7_leaving 6 (some .int) :: BG) (k2_rm 6 146) (PcW [.ref (ad 59), .int v1, .int v2] g (xW ad g I J) sz) (QWi r g (xW ad g I J) (xW ad g rI rJ) sz) 0 0 (va_A (xW ad g I J) sz) := by
  refine mkWi (by decide) (Nat.le_of_ble_eq_true rfl) ?_
  intro p e s m args below meth c H locs ls A Q hC hK hP hD hA hS hl hret
  have hx := hC.1
  have hb := hC.2.1
  have hts := hC.2.2.2.2
  have hown := hC.2.2.2.1
  replace hl : lv_has ls 6 [(0, .ref (ad 59)), (1, .int v1), (2, .int v2)] := hl
  have loop_56 : ∀ (n : Nat) (I : SI) (J : SJ) (w2_56 : Int32) (w5_56 : Int32)  (H : Heap) (locs : List Loc) (ls : Array Slot), FL_X7_leaving_56 n I J w2_56 w5_56 = some (r, rI, rJ) → Pg g (xW ad g I J) H → va_D A (xW ad g I J) → va_S A s.heap H locs → lv_has ls 6 [(0, .ref (ad 59)), (2, .int w2_56), (5, .int w5_56)] → W p l e (k2_rm 6 146) s m args below meth c H locs 0 0 Q (F0 m 56 ls []) := by
    intro n
    induction n with
    | zero =>
      intro I J w2_56 w5_56 H locs ls h
      exact no h
    | succ n ih =>
      intro I J w2_56 w5_56 H locs ls h hP hD hS hl
      rw [FL_X7_leaving_56] at h
      refine lv_iload hx hb dX7_leaving_56 (lv_at hl 2 rfl) ?_
      refine lv_bipush (v := 99) hx hb dX7_leaving_58 (by decide) ?_
      refine lv_icmp_gt (tgt := 100) hx hb dX7_leaving_60 (by decide) (fun c6 => ?_) (fun c6 => ?_)
      · replace h := (if_pos c6).symm.trans h
        refine lv_bipush (v := -9) hx hb dX7_leaving_100 (by decide) ?_
        obtain ⟨h1, h⟩ := Prod.mk.inj (Option.some.inj h)
        obtain ⟨rfl, rfl⟩ := Prod.mk.inj h
        exact hret _ _ _ _ _ dX7_leaving_102 h1 hP hD hS
      · replace h := (if_neg c6).symm.trans h
        refine lv_aload_n hx hb dX7_leaving_63 rfl (lv_at hl 0 rfl) ?_
        refine gt_X7_48 hC hK hP dX7_leaving_64 ?_
        refine lv_iload hx hb dX7_leaving_67 (lv_at hl 2 rfl) ?_
        obtain ⟨⟨I7, J7⟩, hc7, h⟩ := ob h
        dsimp only at h
        refine callWVv (As := [.int w5_56]) (rest := []) hC (c_X0_sumUp l g ad I J w5_56  H.size hc7) lk_X7_241 rfl rfl ⟨Nat.le_of_ble_eq_true rfl, Nat.le_of_ble_eq_true rfl⟩ hP hK hD hA hS xo_55 rfl rfl rfl hl (Nat.le_of_ble_eq_true rfl) dX7_leaving_69 (fun H locs hP hD hS => ?_)
        refine lv_aload_n hx hb dX7_leaving_72 rfl (lv_at hl 0 rfl) ?_
        refine gt_X7_48 hC hK hP dX7_leaving_73 ?_
        refine lv_iconst (v := 0) hx hb dX7_leaving_76 (by decide) ?_
        obtain ⟨r8, hc8, h⟩ := ob h
        refine callRV (As := [.int (0 : Int32)]) (rest := []) hC (c_X0_yearsWithDung l g ad I7 J7 (0 : Int32)  hc8) lk_X7_244 rfl rfl ⟨Nat.le_of_ble_eq_true rfl, Nat.le_of_ble_eq_true rfl⟩ hP hK xo_55 rfl rfl rfl hl (Nat.le_of_ble_eq_true rfl) dX7_leaving_77 ?_
        refine lv_iload_n hx hb dX7_leaving_80 rfl (lv_at hl 1 rfl) ?_
        refine lv_iconst (v := 1) hx hb dX7_leaving_81 (by decide) ?_
        refine lv_isub hx hb dX7_leaving_82 ?_
        refine lv_lshr hx hb dX7_leaving_83 rfl ?_
        refine lv_lconst (v := 1) hx hb dX7_leaving_84 (by decide) ?_
        refine lv_land hx hb dX7_leaving_85 ?_
        refine lv_lconst (v := 1) hx hb dX7_leaving_86 (by decide) ?_
        refine W.lcmp hx hb dX7_leaving_87 ?_
        refine lv_if_ne (tgt := 94) hx hb dX7_leaving_88 (by decide) (fun c9 => ?_) (fun c9 => ?_)
        · replace h := (if_neg (fun hh => c9 ((lg_cmp_eq _ _).mpr hh))).symm.trans h
          refine lv_iinc (v := (w5_56 + 1)) (lv' := [(5, .int (w5_56 + 1)), (0, .ref (ad 59)), (2, .int w2_56)]) hx hb dX7_leaving_94 hl (k := 2) rfl rfl (by decide) rfl (fun ls hl => ?_)
          refine lv_goto (tgt := 56) hx hb dX7_leaving_97 (by decide) ?_
          exact ih I7 J7 w2_56 (w5_56 + 1) _ _ _ h hP hD hS (lv_sub hl [1, 2, 0] rfl)
        · replace h := (if_pos ((lg_cmp_eq _ _).mp c9)).symm.trans h
          refine lv_iload hx hb dX7_leaving_91 (lv_at hl 2 rfl) ?_
          obtain ⟨h1, h⟩ := Prod.mk.inj (Option.some.inj h)
          obtain ⟨rfl, rfl⟩ := Prod.mk.inj h
          exact hret _ _ _ _ _ dX7_leaving_93 h1 hP hD hS
  unfold F_X7_leaving at h
  refine lv_aload_n hx hb dX7_leaving_0 rfl (lv_at hl 0 rfl) ?_
  refine gt_X7_10 hC hK hP dX7_leaving_1 ?_
  refine lv_iload_n hx hb dX7_leaving_4 rfl (lv_at hl 1 rfl) ?_
  obtain ⟨r1, hc1, h⟩ := ob h
  rcases r1 with _ | t1
  · refine callRV (As := [.int v1]) (rest := []) hC (c_X1_termAt l g ad I J 0 v1 (Or.inl rfl) hc1) lk_X7_106 rfl rfl ⟨Nat.le_of_ble_eq_true rfl, Nat.le_of_ble_eq_true rfl⟩ hP hK (xEo (Or.inl rfl)) rfl rfl rfl hl (Nat.le_of_ble_eq_true rfl) dX7_leaving_5 ?_
    refine lv_astore_nN (lv' := [(3, .null), (0, .ref (ad 59)), (1, .int v1), (2, .int v2)]) hx hb dX7_leaving_8 rfl hl (by decide) rfl (fun ls hl => ?_)
    refine lv_aload_nN hx hb dX7_leaving_9 rfl (lv_at hl 0 rfl) ?_
    refine lv_ifnonnullN hx hb dX7_leaving_10 ?_
    refine lv_aload_n hx hb dX7_leaving_13 rfl (lv_at hl 1 rfl) ?_
    refine lv_iconst (v := -1) hx hb dX7_leaving_14 (by decide) ?_
    obtain ⟨⟨r2, I2, J2⟩, hc2, h⟩ := ob h
    dsimp only at h
    refine callWVi (As := [.int (-1 : Int32)]) (rest := []) hC (c_X7_refuse l g ad I J (-1 : Int32)  H.size hc2) lk_X7_74 rfl rfl ⟨Nat.le_of_ble_eq_true rfl, Nat.le_of_ble_eq_true rfl⟩ hP hK hD hA hS xo_59 rfl rfl rfl hl (Nat.le_of_ble_eq_true rfl) dX7_leaving_15 (fun H locs hP hD hS => ?_)
    obtain ⟨h1, h⟩ := Prod.mk.inj (Option.some.inj h)
    obtain ⟨rfl, rfl⟩ := Prod.mk.inj h
    exact hret _ _ _ _ _ dX7_leaving_18 h1 hP hD hS
  · have hTt1 : isT t1 := termAt_isT (Or.inl rfl) hc1
    refine callRV (As := [.int v1]) (rest := []) hC (c_X1_termAt l g ad I J 0 v1 (Or.inl rfl) hc1) lk_X7_106 rfl rfl ⟨Nat.le_of_ble_eq_true rfl, Nat.le_of_ble_eq_true rfl⟩ hP hK (xEo (Or.inl rfl)) rfl rfl rfl hl (Nat.le_of_ble_eq_true rfl) dX7_leaving_5 ?_
    refine lv_astore_n (lv' := [(3, .ref (ad t1)), (0, .ref (ad 59)), (1, .int v1), (2, .int v2)]) hx hb dX7_leaving_8 rfl hl (by decide) rfl (fun ls hl => ?_)
    refine lv_aload_n hx hb dX7_leaving_9 rfl (lv_at hl 0 rfl) ?_
    refine lv_ifnonnull (tgt := 19) hx hb dX7_leaving_10 (by decide) ?_
    refine lv_iload_n hx hb dX7_leaving_19 rfl (lv_at hl 3 rfl) ?_
    refine lv_iconst (v := 1) hx hb dX7_leaving_20 (by decide) ?_
    refine lv_bipush (v := 10) hx hb dX7_leaving_21 (by decide) ?_
    obtain ⟨r3, hc3, h⟩ := ob h
    refine callRS (As := [.int v2, .int (1 : Int32), .int (10 : Int32)]) (rest := []) hC (c_X7_inRange l g (xW ad g I J) v2 (1 : Int32) (10 : Int32) hc3) lk_X7_66 rfl rfl ⟨Nat.le_of_ble_eq_true rfl, Nat.le_of_ble_eq_true rfl⟩ hP hK rfl rfl hl (Nat.le_of_ble_eq_true rfl) dX7_leaving_23 ?_
    refine lv_istore (lv' := [(4, .int r3), (3, .ref (ad t1)), (0, .ref (ad 59)), (1, .int v1), (2, .int v2)]) hx hb dX7_leaving_26 hl (by decide) rfl (fun ls hl => ?_)
    refine lv_iload hx hb dX7_leaving_28 (lv_at hl 0 rfl) ?_
    refine lv_if_eq (tgt := 40) hx hb dX7_leaving_30 (by decide) (fun c4 => ?_) (fun c4 => ?_)
    · replace h := (if_pos c4).symm.trans h
      refine lv_aload_n hx hb dX7_leaving_40 rfl (lv_at hl 2 rfl) ?_
      refine gt_X7_48 hC hK hP dX7_leaving_41 ?_
      refine lv_aload_n hx hb dX7_leaving_44 rfl (lv_at hl 2 rfl) ?_
      refine gt_X7_34 hC hK hP dX7_leaving_45 ?_
      refine lv_aload_n hx hb dX7_leaving_48 rfl (lv_at hl 1 rfl) ?_
      refine lv_iload_n hx hb dX7_leaving_49 rfl (lv_at hl 4 rfl) ?_
      obtain ⟨⟨I5, J5⟩, hc5, h⟩ := ob h
      dsimp only at h
      refine callWVv (As := [.ref (ad 47), .ref (ad t1), .int v2]) (rest := []) hC (c_X0_lay l g ad I J t1 v2 hTt1 H.size hc5) lk_X7_238 rfl rfl ⟨Nat.le_of_ble_eq_true rfl, Nat.le_of_ble_eq_true rfl⟩ hP hK hD hA hS xo_55 rfl rfl rfl hl (Nat.le_of_ble_eq_true rfl) dX7_leaving_50 (fun H locs hP hD hS => ?_)
      refine lv_iconst (v := 0) hx hb dX7_leaving_53 (by decide) ?_
      refine lv_istore (lv' := [(5, .int (0 : Int32)), (4, .int r3), (3, .ref (ad t1)), (0, .ref (ad 59)), (1, .int v1), (2, .int v2)]) hx hb dX7_leaving_54 hl (by decide) rfl (fun ls hl => ?_)
      exact loop_56 3000 I5 J5 v2 (0 : Int32) _ _ _ h hP hD hS (lv_sub hl [3, 5, 0] rfl)
    · replace h := (if_neg c4).symm.trans h
      refine lv_aload_n hx hb dX7_leaving_33 rfl (lv_at hl 2 rfl) ?_
      refine lv_iload hx hb dX7_leaving_34 (lv_at hl 0 rfl) ?_
      obtain ⟨⟨r10, I10, J10⟩, hc10, h⟩ := ob h
      dsimp only at h
      refine callWVi (As := [.int r3]) (rest := []) hC (c_X7_refuse l g ad I J r3  H.size hc10) lk_X7_74 rfl rfl ⟨Nat.le_of_ble_eq_true rfl, Nat.le_of_ble_eq_true rfl⟩ hP hK hD hA hS xo_59 rfl rfl rfl hl (Nat.le_of_ble_eq_true rfl) dX7_leaving_36 (fun H locs hP hD hS => ?_)
      obtain ⟨h1, h⟩ := Prod.mk.inj (Option.some.inj h)
      obtain ⟨rfl, rfl⟩ := Prod.mk.inj h
      exact hret _ _ _ _ _ dX7_leaving_39 h1 hP hD hS
def F_X7_chosenOf (t1 : Nat) (t2 : Nat) (I : SI) (J : SJ) (v3 : Int32) : Option (Int32 × SI × SJ) := ((F_X4_lay I J (0 : Int32) v3 (0 : Int32)).bind fun (I1, J1) => ((F_X4_findBest t1 I1 J1).bind fun (I2, J2) => ((F_X4_findBest t2 I2 J2).bind fun (I3, J3) => ((F_X1_otherWorth 0 I3 J3).bind fun r4 => (if r4 ≤ (if (J3 47 9) < (J2 47 9) then (J2 47 9) else (J3 47 9)) then (some ((if (J3 47 9) ≤ (J2 47 9) then (0 : Int32) else (1 : Int32)), I3, J3)) else (some ((-9 : Int32), I3, J3)))))))
set_option maxHeartbeats 4000000 in
set_option maxRecDepth 100000 in
theorem c_X7_chosenOf (l : Launch) (g : Gx) (ad : Nat → Nat) (I : SI) (J : SJ) (t1 : Nat) (t2 : Nat) (v3 : Int32) (hT1 : isT t1) (hT2 : isT t2) (sz : Nat) {r : Int32} {rI : SI} {rJ : SJ} (h : F_X7_chosenOf t1 t2 I J v3 = some (r, rI, rJ)) : Met l yX7_chosenOf (Cond.code yX7_chosenOf cX7_chosenOf 8 (some .int) :: BG) (k2_rm 5 121) (PcW [.ref (ad 59), .ref (ad t1), .ref (ad t2), .int v3] g (xW ad g I J) sz) (QWi r g (xW ad g I J) (xW ad g rI rJ) sz) 0 0 (va_A (xW ad g I J) sz) := by
  refine mkWi (by decide) (Nat.le_of_ble_eq_true rfl) ?_
  intro p e s m args below meth c H locs ls A Q hC hK hP hD hA hS hl hret
  have hx := hC.1
  have hb := hC.2.1
  have hts := hC.2.2.2.2
  have hown := hC.2.2.2.1
  replace hl : lv_has ls 8 [(0, .ref (ad 59)), (1, .ref (ad t1)), (2, .ref (ad t2)), (3, .int v3)] := hl
  unfold F_X7_chosenOf at h
  refine lv_aload_n hx hb dX7_chosenOf_0 rfl (lv_at hl 0 rfl) ?_
  refine gt_X7_34 hC hK hP dX7_chosenOf_1 ?_
  refine lv_iconst (v := 0) hx hb dX7_chosenOf_4 (by decide) ?_
  refine lv_iload_n hx hb dX7_chosenOf_5 rfl (lv_at hl 3 rfl) ?_
  refine lv_iconst (v := 0) hx hb dX7_chosenOf_6 (by decide) ?_
  obtain ⟨⟨I1, J1⟩, hc1, h⟩ := ob h
  dsimp only at h
  refine callWVv (As := [.int (0 : Int32), .int v3, .int (0 : Int32)]) (rest := []) hC (c_X4_lay l g ad I J (0 : Int32) v3 (0 : Int32)  H.size hc1) lk_X7_135 rfl rfl ⟨Nat.le_of_ble_eq_true rfl, Nat.le_of_ble_eq_true rfl⟩ hP hK hD hA hS xo_47 rfl rfl rfl hl (Nat.le_of_ble_eq_true rfl) dX7_chosenOf_7 (fun H locs hP hD hS => ?_)
  refine lv_aload_n hx hb dX7_chosenOf_10 rfl (lv_at hl 0 rfl) ?_
  refine gt_X7_34 hC hK hP dX7_chosenOf_11 ?_
  refine lv_aload_n hx hb dX7_chosenOf_14 rfl (lv_at hl 1 rfl) ?_
  obtain ⟨⟨I2, J2⟩, hc2, h⟩ := ob h
  dsimp only at h
  refine callWVv (As := [.ref (ad t1)]) (rest := []) hC (c_X4_findBest l g ad I1 J1 t1 hT1 H.size hc2) lk_X7_179 rfl rfl ⟨Nat.le_of_ble_eq_true rfl, Nat.le_of_ble_eq_true rfl⟩ hP hK hD hA hS xo_47 rfl rfl rfl hl (Nat.le_of_ble_eq_true rfl) dX7_chosenOf_15 (fun H locs hP hD hS => ?_)
  refine lv_aload_n hx hb dX7_chosenOf_18 rfl (lv_at hl 0 rfl) ?_
  refine gt_X7_34 hC hK hP dX7_chosenOf_19 ?_
  refine gt_X7_315 hC hK hP dX7_chosenOf_22 ?_
  refine lv_lstore (lv' := [(4, .long (J2 47 9)), (0, .ref (ad 59)), (1, .ref (ad t1)), (2, .ref (ad t2)), (3, .int v3)]) hx hb dX7_chosenOf_25 hl (by decide) rfl (fun ls hl => ?_)
  refine lv_aload_n hx hb dX7_chosenOf_27 rfl (lv_at hl 1 rfl) ?_
  refine gt_X7_34 hC hK hP dX7_chosenOf_28 ?_
  refine lv_aload_n hx hb dX7_chosenOf_31 rfl (lv_at hl 3 rfl) ?_
  obtain ⟨⟨I3, J3⟩, hc3, h⟩ := ob h
  dsimp only at h
  refine callWVv (As := [.ref (ad t2)]) (rest := []) hC (c_X4_findBest l g ad I2 J2 t2 hT2 H.size hc3) lk_X7_179 rfl rfl ⟨Nat.le_of_ble_eq_true rfl, Nat.le_of_ble_eq_true rfl⟩ hP hK hD hA hS xo_47 rfl rfl rfl hl (Nat.le_of_ble_eq_true rfl) dX7_chosenOf_32 (fun H locs hP hD hS => ?_)
  refine lv_aload_n hx hb dX7_chosenOf_35 rfl (lv_at hl 1 rfl) ?_
  refine gt_X7_34 hC hK hP dX7_chosenOf_36 ?_
  refine gt_X7_315 hC hK hP dX7_chosenOf_39 ?_
  refine lv_lstore (lv' := [(6, .long (J3 47 9)), (4, .long (J2 47 9)), (0, .ref (ad 59)), (1, .ref (ad t1)), (2, .ref (ad t2)), (3, .int v3)]) hx hb dX7_chosenOf_42 hl (by decide) rfl (fun ls hl => ?_)
  refine lv_lload hx hb dX7_chosenOf_44 (lv_at hl 1 rfl) ?_
  refine lv_lload hx hb dX7_chosenOf_46 (lv_at hl 0 rfl) ?_
  refine va_mmax_long hx hb (hC.2.2.1.trans hl.1.symm) hown (hts _ ml_X7_226) (hts _ sm_maxL) (hts _ ini_math) (hts _ cd_maxL) (Nat.le_of_ble_eq_true rfl) (Nat.le_of_ble_eq_true rfl) (Nat.zero_le _) (Nat.zero_le _) dX7_chosenOf_48 ?_
  refine lv_aload_n hx hb dX7_chosenOf_51 rfl (lv_at hl 2 rfl) ?_
  refine gt_X7_10 hC hK hP dX7_chosenOf_52 ?_
  obtain ⟨r4, hc4, h⟩ := ob h
  refine callRV (As := []) (rest := [.long (if (J3 47 9) < (J2 47 9) then (J2 47 9) else (J3 47 9))]) hC (c_X1_otherWorth l g ad I3 J3 0 (Or.inl rfl) hc4) lk_X7_319 rfl rfl ⟨Nat.le_of_ble_eq_true rfl, Nat.le_of_ble_eq_true rfl⟩ hP hK (xEo (Or.inl rfl)) rfl rfl rfl hl (Nat.le_of_ble_eq_true rfl) dX7_chosenOf_55 ?_
  refine W.lcmp hx hb dX7_chosenOf_58 ?_
  refine lv_if_ge (tgt := 65) hx hb dX7_chosenOf_59 (by decide) (fun c5 => ?_) (fun c5 => ?_)
  · replace h := (if_pos ((lg_cmp_ge _ _).mp c5)).symm.trans h
    refine lv_lload hx hb dX7_chosenOf_65 (lv_at hl 0 rfl) ?_
    refine lv_lload hx hb dX7_chosenOf_67 (lv_at hl 1 rfl) ?_
    refine tern (α := Int32) (cnd := (J3 47 9) ≤ (J2 47 9)) (a := (0 : Int32)) (b := (1 : Int32)) (Wj := fun vj => W p l e (k2_rm 5 121) s m args below meth c H locs 0 0 Q (F0 m 78 ls [.int vj])) (fun k7a k7b => ?_) ?_
    · refine W.lcmp hx hb dX7_chosenOf_69 ?_
      refine lv_if_le (tgt := 77) hx hb dX7_chosenOf_70 (by decide) (fun c6 => ?_) (fun c6 => ?_)
      · refine lv_iconst (v := 0) hx hb dX7_chosenOf_77 (by decide) ?_
        exact k7a ((lg_cmp_le _ _).mp c6)
      · refine lv_iconst (v := 1) hx hb dX7_chosenOf_73 (by decide) ?_
        refine lv_goto (tgt := 78) hx hb dX7_chosenOf_74 (by decide) ?_
        exact k7b (fun hh => c6 ((lg_cmp_le _ _).mpr hh))
    · show W p l e (k2_rm 5 121) s m args below meth c H locs 0 0 Q (F0 m 78 ls [.int (if (J3 47 9) ≤ (J2 47 9) then (0 : Int32) else (1 : Int32))])
      obtain ⟨h1, h⟩ := Prod.mk.inj (Option.some.inj h)
      obtain ⟨rfl, rfl⟩ := Prod.mk.inj h
      exact hret _ _ _ _ _ dX7_chosenOf_78 h1 hP hD hS
  · replace h := (if_neg (fun hh => c5 ((lg_cmp_ge _ _).mpr hh))).symm.trans h
    refine lv_bipush (v := -9) hx hb dX7_chosenOf_62 (by decide) ?_
    obtain ⟨h1, h⟩ := Prod.mk.inj (Option.some.inj h)
    obtain ⟨rfl, rfl⟩ := Prod.mk.inj h
    exact hret _ _ _ _ _ dX7_chosenOf_64 h1 hP hD hS
def F_X7_offer (I : SI) (J : SJ) (v1 : Int32) (v2 : Int32) (v3 : Int32) : Option (Int32 × SI × SJ) := ((F_X1_termAt 0 I J v1).bind fun r1 => (match r1 with | none => ((F_X1_termAt 0 I J v2).bind fun r2 => (match r2 with | none => ((F_X7_refuse I J (-1 : Int32)).bind fun (r3, I3, J3) => (some (r3, I3, J3))) | some t2 => ((F_X7_refuse I J (-1 : Int32)).bind fun (r4, I4, J4) => (some (r4, I4, J4))))) | some t1 => ((F_X1_termAt 0 I J v2).bind fun r5 => (match r5 with | none => ((F_X7_refuse I J (-1 : Int32)).bind fun (r6, I6, J6) => (some (r6, I6, J6))) | some t5 => (if v3 < 0 then ((F_X7_refuse I J (-1 : Int32)).bind fun (r8, I8, J8) => (some (r8, I8, J8))) else (if v3 ≤ (9 : Int32) then ((F_X7_chosenOf t1 t5 I J v3).bind fun (r10, I10, J10) => (some (r10, I10, J10))) else ((F_X7_refuse I J (-1 : Int32)).bind fun (r11, I11, J11) => (some (r11, I11, J11)))))))))
set_option maxHeartbeats 4000000 in
set_option maxRecDepth 100000 in
theorem c_X7_offer (l : Launch) (g : Gx) (ad : Nat → Nat) (I : SI) (J : SJ) (v1 : Int32) (v2 : Int32) (v3 : Int32)  (sz : Nat) {r : Int32} {rI : SI} {rJ : SJ} (h : F_X7_offer I J v1 v2 v3 = some (r, rI, rJ)) : Met l yX7_offer (Cond.code yX7_offer cX7_offer 6 (some .int) :: BG) (k2_rm 6 148) (PcW [.ref (ad 59), .int v1, .int v2, .int v3] g (xW ad g I J) sz) (QWi r g (xW ad g I J) (xW ad g rI rJ) sz) 0 0 (va_A (xW ad g I J) sz) := by
  refine mkWi (by decide) (Nat.le_of_ble_eq_true rfl) ?_
  intro p e s m args below meth c H locs ls A Q hC hK hP hD hA hS hl hret
  have hx := hC.1
  have hb := hC.2.1
  have hts := hC.2.2.2.2
  have hown := hC.2.2.2.1
  replace hl : lv_has ls 6 [(0, .ref (ad 59)), (1, .int v1), (2, .int v2), (3, .int v3)] := hl
  unfold F_X7_offer at h
  refine lv_aload_n hx hb dX7_offer_0 rfl (lv_at hl 0 rfl) ?_
  refine gt_X7_10 hC hK hP dX7_offer_1 ?_
  refine lv_iload_n hx hb dX7_offer_4 rfl (lv_at hl 1 rfl) ?_
  obtain ⟨r1, hc1, h⟩ := ob h
  rcases r1 with _ | t1
  · refine callRV (As := [.int v1]) (rest := []) hC (c_X1_termAt l g ad I J 0 v1 (Or.inl rfl) hc1) lk_X7_106 rfl rfl ⟨Nat.le_of_ble_eq_true rfl, Nat.le_of_ble_eq_true rfl⟩ hP hK (xEo (Or.inl rfl)) rfl rfl rfl hl (Nat.le_of_ble_eq_true rfl) dX7_offer_5 ?_
    refine lv_astoreN (lv' := [(4, .null), (0, .ref (ad 59)), (1, .int v1), (2, .int v2), (3, .int v3)]) hx hb dX7_offer_8 hl (by decide) rfl (fun ls hl => ?_)
    refine lv_aload_n hx hb dX7_offer_10 rfl (lv_at hl 1 rfl) ?_
    refine gt_X7_10 hC hK hP dX7_offer_11 ?_
    refine lv_iload_n hx hb dX7_offer_14 rfl (lv_at hl 3 rfl) ?_
    obtain ⟨r2, hc2, h⟩ := ob h
    rcases r2 with _ | t2
    · refine callRV (As := [.int v2]) (rest := []) hC (c_X1_termAt l g ad I J 0 v2 (Or.inl rfl) hc2) lk_X7_106 rfl rfl ⟨Nat.le_of_ble_eq_true rfl, Nat.le_of_ble_eq_true rfl⟩ hP hK (xEo (Or.inl rfl)) rfl rfl rfl hl (Nat.le_of_ble_eq_true rfl) dX7_offer_15 ?_
      refine lv_astoreN (lv' := [(5, .null), (4, .null), (0, .ref (ad 59)), (1, .int v1), (2, .int v2), (3, .int v3)]) hx hb dX7_offer_18 hl (by decide) rfl (fun ls hl => ?_)
      refine lv_aloadN hx hb dX7_offer_20 (lv_at hl 1 rfl) ?_
      refine lv_ifnullN (tgt := 40) hx hb dX7_offer_22 (by decide) ?_
      refine lv_aload_n hx hb dX7_offer_40 rfl (lv_at hl 2 rfl) ?_
      refine lv_iconst (v := -1) hx hb dX7_offer_41 (by decide) ?_
      obtain ⟨⟨r3, I3, J3⟩, hc3, h⟩ := ob h
      dsimp only at h
      refine callWVi (As := [.int (-1 : Int32)]) (rest := []) hC (c_X7_refuse l g ad I J (-1 : Int32)  H.size hc3) lk_X7_74 rfl rfl ⟨Nat.le_of_ble_eq_true rfl, Nat.le_of_ble_eq_true rfl⟩ hP hK hD hA hS xo_59 rfl rfl rfl hl (Nat.le_of_ble_eq_true rfl) dX7_offer_42 (fun H locs hP hD hS => ?_)
      obtain ⟨h1, h⟩ := Prod.mk.inj (Option.some.inj h)
      obtain ⟨rfl, rfl⟩ := Prod.mk.inj h
      exact hret _ _ _ _ _ dX7_offer_45 h1 hP hD hS
    · have hTt2 : isT t2 := termAt_isT (Or.inl rfl) hc2
      refine callRV (As := [.int v2]) (rest := []) hC (c_X1_termAt l g ad I J 0 v2 (Or.inl rfl) hc2) lk_X7_106 rfl rfl ⟨Nat.le_of_ble_eq_true rfl, Nat.le_of_ble_eq_true rfl⟩ hP hK (xEo (Or.inl rfl)) rfl rfl rfl hl (Nat.le_of_ble_eq_true rfl) dX7_offer_15 ?_
      refine lv_astore (lv' := [(5, .ref (ad t2)), (4, .null), (0, .ref (ad 59)), (1, .int v1), (2, .int v2), (3, .int v3)]) hx hb dX7_offer_18 hl (by decide) rfl (fun ls hl => ?_)
      refine lv_aloadN hx hb dX7_offer_20 (lv_at hl 1 rfl) ?_
      refine lv_ifnullN (tgt := 40) hx hb dX7_offer_22 (by decide) ?_
      refine lv_aload_n hx hb dX7_offer_40 rfl (lv_at hl 2 rfl) ?_
      refine lv_iconst (v := -1) hx hb dX7_offer_41 (by decide) ?_
      obtain ⟨⟨r4, I4, J4⟩, hc4, h⟩ := ob h
      dsimp only at h
      refine callWVi (As := [.int (-1 : Int32)]) (rest := []) hC (c_X7_refuse l g ad I J (-1 : Int32)  H.size hc4) lk_X7_74 rfl rfl ⟨Nat.le_of_ble_eq_true rfl, Nat.le_of_ble_eq_true rfl⟩ hP hK hD hA hS xo_59 rfl rfl rfl hl (Nat.le_of_ble_eq_true rfl) dX7_offer_42 (fun H locs hP hD hS => ?_)
      obtain ⟨h1, h⟩ := Prod.mk.inj (Option.some.inj h)
      obtain ⟨rfl, rfl⟩ := Prod.mk.inj h
      exact hret _ _ _ _ _ dX7_offer_45 h1 hP hD hS
  · have hTt1 : isT t1 := termAt_isT (Or.inl rfl) hc1
    refine callRV (As := [.int v1]) (rest := []) hC (c_X1_termAt l g ad I J 0 v1 (Or.inl rfl) hc1) lk_X7_106 rfl rfl ⟨Nat.le_of_ble_eq_true rfl, Nat.le_of_ble_eq_true rfl⟩ hP hK (xEo (Or.inl rfl)) rfl rfl rfl hl (Nat.le_of_ble_eq_true rfl) dX7_offer_5 ?_
    refine lv_astore (lv' := [(4, .ref (ad t1)), (0, .ref (ad 59)), (1, .int v1), (2, .int v2), (3, .int v3)]) hx hb dX7_offer_8 hl (by decide) rfl (fun ls hl => ?_)
    refine lv_aload_n hx hb dX7_offer_10 rfl (lv_at hl 1 rfl) ?_
    refine gt_X7_10 hC hK hP dX7_offer_11 ?_
    refine lv_iload_n hx hb dX7_offer_14 rfl (lv_at hl 3 rfl) ?_
    obtain ⟨r5, hc5, h⟩ := ob h
    rcases r5 with _ | t5
    · refine callRV (As := [.int v2]) (rest := []) hC (c_X1_termAt l g ad I J 0 v2 (Or.inl rfl) hc5) lk_X7_106 rfl rfl ⟨Nat.le_of_ble_eq_true rfl, Nat.le_of_ble_eq_true rfl⟩ hP hK (xEo (Or.inl rfl)) rfl rfl rfl hl (Nat.le_of_ble_eq_true rfl) dX7_offer_15 ?_
      refine lv_astoreN (lv' := [(5, .null), (4, .ref (ad t1)), (0, .ref (ad 59)), (1, .int v1), (2, .int v2), (3, .int v3)]) hx hb dX7_offer_18 hl (by decide) rfl (fun ls hl => ?_)
      refine lv_aload hx hb dX7_offer_20 (lv_at hl 1 rfl) ?_
      refine lv_ifnull hx hb dX7_offer_22 ?_
      refine lv_aloadN hx hb dX7_offer_25 (lv_at hl 0 rfl) ?_
      refine lv_ifnullN (tgt := 40) hx hb dX7_offer_27 (by decide) ?_
      refine lv_aload_n hx hb dX7_offer_40 rfl (lv_at hl 2 rfl) ?_
      refine lv_iconst (v := -1) hx hb dX7_offer_41 (by decide) ?_
      obtain ⟨⟨r6, I6, J6⟩, hc6, h⟩ := ob h
      dsimp only at h
      refine callWVi (As := [.int (-1 : Int32)]) (rest := []) hC (c_X7_refuse l g ad I J (-1 : Int32)  H.size hc6) lk_X7_74 rfl rfl ⟨Nat.le_of_ble_eq_true rfl, Nat.le_of_ble_eq_true rfl⟩ hP hK hD hA hS xo_59 rfl rfl rfl hl (Nat.le_of_ble_eq_true rfl) dX7_offer_42 (fun H locs hP hD hS => ?_)
      obtain ⟨h1, h⟩ := Prod.mk.inj (Option.some.inj h)
      obtain ⟨rfl, rfl⟩ := Prod.mk.inj h
      exact hret _ _ _ _ _ dX7_offer_45 h1 hP hD hS
    · have hTt5 : isT t5 := termAt_isT (Or.inl rfl) hc5
      refine callRV (As := [.int v2]) (rest := []) hC (c_X1_termAt l g ad I J 0 v2 (Or.inl rfl) hc5) lk_X7_106 rfl rfl ⟨Nat.le_of_ble_eq_true rfl, Nat.le_of_ble_eq_true rfl⟩ hP hK (xEo (Or.inl rfl)) rfl rfl rfl hl (Nat.le_of_ble_eq_true rfl) dX7_offer_15 ?_
      refine lv_astore (lv' := [(5, .ref (ad t5)), (4, .ref (ad t1)), (0, .ref (ad 59)), (1, .int v1), (2, .int v2), (3, .int v3)]) hx hb dX7_offer_18 hl (by decide) rfl (fun ls hl => ?_)
      refine lv_aload hx hb dX7_offer_20 (lv_at hl 1 rfl) ?_
      refine lv_ifnull hx hb dX7_offer_22 ?_
      refine lv_aload hx hb dX7_offer_25 (lv_at hl 0 rfl) ?_
      refine lv_ifnull hx hb dX7_offer_27 ?_
      refine lv_iload_n hx hb dX7_offer_30 rfl (lv_at hl 5 rfl) ?_
      refine lv_if_lt (tgt := 40) hx hb dX7_offer_31 (by decide) (fun c7 => ?_) (fun c7 => ?_)
      · replace h := (if_pos c7).symm.trans h
        refine lv_aload_n hx hb dX7_offer_40 rfl (lv_at hl 2 rfl) ?_
        refine lv_iconst (v := -1) hx hb dX7_offer_41 (by decide) ?_
        obtain ⟨⟨r8, I8, J8⟩, hc8, h⟩ := ob h
        dsimp only at h
        refine callWVi (As := [.int (-1 : Int32)]) (rest := []) hC (c_X7_refuse l g ad I J (-1 : Int32)  H.size hc8) lk_X7_74 rfl rfl ⟨Nat.le_of_ble_eq_true rfl, Nat.le_of_ble_eq_true rfl⟩ hP hK hD hA hS xo_59 rfl rfl rfl hl (Nat.le_of_ble_eq_true rfl) dX7_offer_42 (fun H locs hP hD hS => ?_)
        obtain ⟨h1, h⟩ := Prod.mk.inj (Option.some.inj h)
        obtain ⟨rfl, rfl⟩ := Prod.mk.inj h
        exact hret _ _ _ _ _ dX7_offer_45 h1 hP hD hS
      · replace h := (if_neg c7).symm.trans h
        refine lv_iload_n hx hb dX7_offer_34 rfl (lv_at hl 5 rfl) ?_
        refine lv_bipush (v := 9) hx hb dX7_offer_35 (by decide) ?_
        refine lv_icmp_le (tgt := 46) hx hb dX7_offer_37 (by decide) (fun c9 => ?_) (fun c9 => ?_)
        · replace h := (if_pos c9).symm.trans h
          refine lv_aload_n hx hb dX7_offer_46 rfl (lv_at hl 2 rfl) ?_
          refine lv_aload hx hb dX7_offer_47 (lv_at hl 1 rfl) ?_
          refine lv_aload hx hb dX7_offer_49 (lv_at hl 0 rfl) ?_
          refine lv_iload_n hx hb dX7_offer_51 rfl (lv_at hl 5 rfl) ?_
          obtain ⟨⟨r10, I10, J10⟩, hc10, h⟩ := ob h
          dsimp only at h
          refine callWVi (As := [.ref (ad t1), .ref (ad t5), .int v3]) (rest := []) hC (c_X7_chosenOf l g ad I J t1 t5 v3 hTt1 hTt5 H.size hc10) lk_X7_251 rfl rfl ⟨Nat.le_of_ble_eq_true rfl, Nat.le_of_ble_eq_true rfl⟩ hP hK hD hA hS xo_59 rfl rfl rfl hl (Nat.le_of_ble_eq_true rfl) dX7_offer_52 (fun H locs hP hD hS => ?_)
          obtain ⟨h1, h⟩ := Prod.mk.inj (Option.some.inj h)
          obtain ⟨rfl, rfl⟩ := Prod.mk.inj h
          exact hret _ _ _ _ _ dX7_offer_55 h1 hP hD hS
        · replace h := (if_neg c9).symm.trans h
          refine lv_aload_n hx hb dX7_offer_40 rfl (lv_at hl 2 rfl) ?_
          refine lv_iconst (v := -1) hx hb dX7_offer_41 (by decide) ?_
          obtain ⟨⟨r11, I11, J11⟩, hc11, h⟩ := ob h
          dsimp only at h
          refine callWVi (As := [.int (-1 : Int32)]) (rest := []) hC (c_X7_refuse l g ad I J (-1 : Int32)  H.size hc11) lk_X7_74 rfl rfl ⟨Nat.le_of_ble_eq_true rfl, Nat.le_of_ble_eq_true rfl⟩ hP hK hD hA hS xo_59 rfl rfl rfl hl (Nat.le_of_ble_eq_true rfl) dX7_offer_42 (fun H locs hP hD hS => ?_)
          obtain ⟨h1, h⟩ := Prod.mk.inj (Option.some.inj h)
          obtain ⟨rfl, rfl⟩ := Prod.mk.inj h
          exact hret _ _ _ _ _ dX7_offer_45 h1 hP hD hS
def F_X7_parts (I : SI) (J : SJ) (v1 : Int32) (v2 : Int32) (v3 : Int32) : Option (Int32 × SI × SJ) := ((F_X1_termAt 0 I J v1).bind fun r1 => (match r1 with | none => ((F_X1_termAt 0 I J v2).bind fun r2 => (match r2 with | none => ((F_X7_refuse I J (-1 : Int32)).bind fun (r3, I3, J3) => (some (r3, I3, J3))) | some t2 => ((F_X7_refuse I J (-1 : Int32)).bind fun (r4, I4, J4) => (some (r4, I4, J4))))) | some t1 => ((F_X1_termAt 0 I J v2).bind fun r5 => (match r5 with | none => ((F_X7_refuse I J (-1 : Int32)).bind fun (r6, I6, J6) => (some (r6, I6, J6))) | some t5 => (if v3 < (1 : Int32) then ((F_X7_refuse I J (-1 : Int32)).bind fun (r8, I8, J8) => (some (r8, I8, J8))) else (if v3 ≤ (9 : Int32) then ((F_X7_chosenOf t1 t5 I J (0 : Int32)).bind fun (r10, I10, J10) => ((F_X7_chosenOf t1 t5 I10 J10 v3).bind fun (r11, I11, J11) => (some ((if r10 = r11 then (0 : Int32) else (1 : Int32)), I11, J11)))) else ((F_X7_refuse I J (-1 : Int32)).bind fun (r14, I14, J14) => (some (r14, I14, J14)))))))))
set_option maxHeartbeats 4000000 in
set_option maxRecDepth 100000 in
theorem c_X7_parts (l : Launch) (g : Gx) (ad : Nat → Nat) (I : SI) (J : SJ) (v1 : Int32) (v2 : Int32) (v3 : Int32)  (sz : Nat) {r : Int32} {rI : SI} {rJ : SJ} (h : F_X7_parts I J v1 v2 v3 = some (r, rI, rJ)) : Met l yX7_parts (Cond.code yX7_parts cX7_parts 6 (some .int) :: BG) (k2_rm 6 148) (PcW [.ref (ad 59), .int v1, .int v2, .int v3] g (xW ad g I J) sz) (QWi r g (xW ad g I J) (xW ad g rI rJ) sz) 0 0 (va_A (xW ad g I J) sz) := by
  refine mkWi (by decide) (Nat.le_of_ble_eq_true rfl) ?_
  intro p e s m args below meth c H locs ls A Q hC hK hP hD hA hS hl hret
  have hx := hC.1
  have hb := hC.2.1
  have hts := hC.2.2.2.2
  have hown := hC.2.2.2.1
  replace hl : lv_has ls 6 [(0, .ref (ad 59)), (1, .int v1), (2, .int v2), (3, .int v3)] := hl
  unfold F_X7_parts at h
  refine lv_aload_n hx hb dX7_parts_0 rfl (lv_at hl 0 rfl) ?_
  refine gt_X7_10 hC hK hP dX7_parts_1 ?_
  refine lv_iload_n hx hb dX7_parts_4 rfl (lv_at hl 1 rfl) ?_
  obtain ⟨r1, hc1, h⟩ := ob h
  rcases r1 with _ | t1
  · refine callRV (As := [.int v1]) (rest := []) hC (c_X1_termAt l g ad I J 0 v1 (Or.inl rfl) hc1) lk_X7_106 rfl rfl ⟨Nat.le_of_ble_eq_true rfl, Nat.le_of_ble_eq_true rfl⟩ hP hK (xEo (Or.inl rfl)) rfl rfl rfl hl (Nat.le_of_ble_eq_true rfl) dX7_parts_5 ?_
    refine lv_astoreN (lv' := [(4, .null), (0, .ref (ad 59)), (1, .int v1), (2, .int v2), (3, .int v3)]) hx hb dX7_parts_8 hl (by decide) rfl (fun ls hl => ?_)
    refine lv_aload_n hx hb dX7_parts_10 rfl (lv_at hl 1 rfl) ?_
    refine gt_X7_10 hC hK hP dX7_parts_11 ?_
    refine lv_iload_n hx hb dX7_parts_14 rfl (lv_at hl 3 rfl) ?_
    obtain ⟨r2, hc2, h⟩ := ob h
    rcases r2 with _ | t2
    · refine callRV (As := [.int v2]) (rest := []) hC (c_X1_termAt l g ad I J 0 v2 (Or.inl rfl) hc2) lk_X7_106 rfl rfl ⟨Nat.le_of_ble_eq_true rfl, Nat.le_of_ble_eq_true rfl⟩ hP hK (xEo (Or.inl rfl)) rfl rfl rfl hl (Nat.le_of_ble_eq_true rfl) dX7_parts_15 ?_
      refine lv_astoreN (lv' := [(5, .null), (4, .null), (0, .ref (ad 59)), (1, .int v1), (2, .int v2), (3, .int v3)]) hx hb dX7_parts_18 hl (by decide) rfl (fun ls hl => ?_)
      refine lv_aloadN hx hb dX7_parts_20 (lv_at hl 1 rfl) ?_
      refine lv_ifnullN (tgt := 41) hx hb dX7_parts_22 (by decide) ?_
      refine lv_aload_n hx hb dX7_parts_41 rfl (lv_at hl 2 rfl) ?_
      refine lv_iconst (v := -1) hx hb dX7_parts_42 (by decide) ?_
      obtain ⟨⟨r3, I3, J3⟩, hc3, h⟩ := ob h
      dsimp only at h
      refine callWVi (As := [.int (-1 : Int32)]) (rest := []) hC (c_X7_refuse l g ad I J (-1 : Int32)  H.size hc3) lk_X7_74 rfl rfl ⟨Nat.le_of_ble_eq_true rfl, Nat.le_of_ble_eq_true rfl⟩ hP hK hD hA hS xo_59 rfl rfl rfl hl (Nat.le_of_ble_eq_true rfl) dX7_parts_43 (fun H locs hP hD hS => ?_)
      obtain ⟨h1, h⟩ := Prod.mk.inj (Option.some.inj h)
      obtain ⟨rfl, rfl⟩ := Prod.mk.inj h
      exact hret _ _ _ _ _ dX7_parts_46 h1 hP hD hS
    · have hTt2 : isT t2 := termAt_isT (Or.inl rfl) hc2
      refine callRV (As := [.int v2]) (rest := []) hC (c_X1_termAt l g ad I J 0 v2 (Or.inl rfl) hc2) lk_X7_106 rfl rfl ⟨Nat.le_of_ble_eq_true rfl, Nat.le_of_ble_eq_true rfl⟩ hP hK (xEo (Or.inl rfl)) rfl rfl rfl hl (Nat.le_of_ble_eq_true rfl) dX7_parts_15 ?_
      refine lv_astore (lv' := [(5, .ref (ad t2)), (4, .null), (0, .ref (ad 59)), (1, .int v1), (2, .int v2), (3, .int v3)]) hx hb dX7_parts_18 hl (by decide) rfl (fun ls hl => ?_)
      refine lv_aloadN hx hb dX7_parts_20 (lv_at hl 1 rfl) ?_
      refine lv_ifnullN (tgt := 41) hx hb dX7_parts_22 (by decide) ?_
      refine lv_aload_n hx hb dX7_parts_41 rfl (lv_at hl 2 rfl) ?_
      refine lv_iconst (v := -1) hx hb dX7_parts_42 (by decide) ?_
      obtain ⟨⟨r4, I4, J4⟩, hc4, h⟩ := ob h
      dsimp only at h
      refine callWVi (As := [.int (-1 : Int32)]) (rest := []) hC (c_X7_refuse l g ad I J (-1 : Int32)  H.size hc4) lk_X7_74 rfl rfl ⟨Nat.le_of_ble_eq_true rfl, Nat.le_of_ble_eq_true rfl⟩ hP hK hD hA hS xo_59 rfl rfl rfl hl (Nat.le_of_ble_eq_true rfl) dX7_parts_43 (fun H locs hP hD hS => ?_)
      obtain ⟨h1, h⟩ := Prod.mk.inj (Option.some.inj h)
      obtain ⟨rfl, rfl⟩ := Prod.mk.inj h
      exact hret _ _ _ _ _ dX7_parts_46 h1 hP hD hS
  · have hTt1 : isT t1 := termAt_isT (Or.inl rfl) hc1
    refine callRV (As := [.int v1]) (rest := []) hC (c_X1_termAt l g ad I J 0 v1 (Or.inl rfl) hc1) lk_X7_106 rfl rfl ⟨Nat.le_of_ble_eq_true rfl, Nat.le_of_ble_eq_true rfl⟩ hP hK (xEo (Or.inl rfl)) rfl rfl rfl hl (Nat.le_of_ble_eq_true rfl) dX7_parts_5 ?_
    refine lv_astore (lv' := [(4, .ref (ad t1)), (0, .ref (ad 59)), (1, .int v1), (2, .int v2), (3, .int v3)]) hx hb dX7_parts_8 hl (by decide) rfl (fun ls hl => ?_)
    refine lv_aload_n hx hb dX7_parts_10 rfl (lv_at hl 1 rfl) ?_
    refine gt_X7_10 hC hK hP dX7_parts_11 ?_
    refine lv_iload_n hx hb dX7_parts_14 rfl (lv_at hl 3 rfl) ?_
    obtain ⟨r5, hc5, h⟩ := ob h
    rcases r5 with _ | t5
    · refine callRV (As := [.int v2]) (rest := []) hC (c_X1_termAt l g ad I J 0 v2 (Or.inl rfl) hc5) lk_X7_106 rfl rfl ⟨Nat.le_of_ble_eq_true rfl, Nat.le_of_ble_eq_true rfl⟩ hP hK (xEo (Or.inl rfl)) rfl rfl rfl hl (Nat.le_of_ble_eq_true rfl) dX7_parts_15 ?_
      refine lv_astoreN (lv' := [(5, .null), (4, .ref (ad t1)), (0, .ref (ad 59)), (1, .int v1), (2, .int v2), (3, .int v3)]) hx hb dX7_parts_18 hl (by decide) rfl (fun ls hl => ?_)
      refine lv_aload hx hb dX7_parts_20 (lv_at hl 1 rfl) ?_
      refine lv_ifnull hx hb dX7_parts_22 ?_
      refine lv_aloadN hx hb dX7_parts_25 (lv_at hl 0 rfl) ?_
      refine lv_ifnullN (tgt := 41) hx hb dX7_parts_27 (by decide) ?_
      refine lv_aload_n hx hb dX7_parts_41 rfl (lv_at hl 2 rfl) ?_
      refine lv_iconst (v := -1) hx hb dX7_parts_42 (by decide) ?_
      obtain ⟨⟨r6, I6, J6⟩, hc6, h⟩ := ob h
      dsimp only at h
      refine callWVi (As := [.int (-1 : Int32)]) (rest := []) hC (c_X7_refuse l g ad I J (-1 : Int32)  H.size hc6) lk_X7_74 rfl rfl ⟨Nat.le_of_ble_eq_true rfl, Nat.le_of_ble_eq_true rfl⟩ hP hK hD hA hS xo_59 rfl rfl rfl hl (Nat.le_of_ble_eq_true rfl) dX7_parts_43 (fun H locs hP hD hS => ?_)
      obtain ⟨h1, h⟩ := Prod.mk.inj (Option.some.inj h)
      obtain ⟨rfl, rfl⟩ := Prod.mk.inj h
      exact hret _ _ _ _ _ dX7_parts_46 h1 hP hD hS
    · have hTt5 : isT t5 := termAt_isT (Or.inl rfl) hc5
      refine callRV (As := [.int v2]) (rest := []) hC (c_X1_termAt l g ad I J 0 v2 (Or.inl rfl) hc5) lk_X7_106 rfl rfl ⟨Nat.le_of_ble_eq_true rfl, Nat.le_of_ble_eq_true rfl⟩ hP hK (xEo (Or.inl rfl)) rfl rfl rfl hl (Nat.le_of_ble_eq_true rfl) dX7_parts_15 ?_
      refine lv_astore (lv' := [(5, .ref (ad t5)), (4, .ref (ad t1)), (0, .ref (ad 59)), (1, .int v1), (2, .int v2), (3, .int v3)]) hx hb dX7_parts_18 hl (by decide) rfl (fun ls hl => ?_)
      refine lv_aload hx hb dX7_parts_20 (lv_at hl 1 rfl) ?_
      refine lv_ifnull hx hb dX7_parts_22 ?_
      refine lv_aload hx hb dX7_parts_25 (lv_at hl 0 rfl) ?_
      refine lv_ifnull hx hb dX7_parts_27 ?_
      refine lv_iload_n hx hb dX7_parts_30 rfl (lv_at hl 5 rfl) ?_
      refine lv_iconst (v := 1) hx hb dX7_parts_31 (by decide) ?_
      refine lv_icmp_lt (tgt := 41) hx hb dX7_parts_32 (by decide) (fun c7 => ?_) (fun c7 => ?_)
      · replace h := (if_pos c7).symm.trans h
        refine lv_aload_n hx hb dX7_parts_41 rfl (lv_at hl 2 rfl) ?_
        refine lv_iconst (v := -1) hx hb dX7_parts_42 (by decide) ?_
        obtain ⟨⟨r8, I8, J8⟩, hc8, h⟩ := ob h
        dsimp only at h
        refine callWVi (As := [.int (-1 : Int32)]) (rest := []) hC (c_X7_refuse l g ad I J (-1 : Int32)  H.size hc8) lk_X7_74 rfl rfl ⟨Nat.le_of_ble_eq_true rfl, Nat.le_of_ble_eq_true rfl⟩ hP hK hD hA hS xo_59 rfl rfl rfl hl (Nat.le_of_ble_eq_true rfl) dX7_parts_43 (fun H locs hP hD hS => ?_)
        obtain ⟨h1, h⟩ := Prod.mk.inj (Option.some.inj h)
        obtain ⟨rfl, rfl⟩ := Prod.mk.inj h
        exact hret _ _ _ _ _ dX7_parts_46 h1 hP hD hS
      · replace h := (if_neg c7).symm.trans h
        refine lv_iload_n hx hb dX7_parts_35 rfl (lv_at hl 5 rfl) ?_
        refine lv_bipush (v := 9) hx hb dX7_parts_36 (by decide) ?_
        refine lv_icmp_le (tgt := 47) hx hb dX7_parts_38 (by decide) (fun c9 => ?_) (fun c9 => ?_)
        · replace h := (if_pos c9).symm.trans h
          refine lv_aload_n hx hb dX7_parts_47 rfl (lv_at hl 2 rfl) ?_
          refine lv_aload hx hb dX7_parts_48 (lv_at hl 1 rfl) ?_
          refine lv_aload hx hb dX7_parts_50 (lv_at hl 0 rfl) ?_
          refine lv_iconst (v := 0) hx hb dX7_parts_52 (by decide) ?_
          obtain ⟨⟨r10, I10, J10⟩, hc10, h⟩ := ob h
          dsimp only at h
          refine callWVi (As := [.ref (ad t1), .ref (ad t5), .int (0 : Int32)]) (rest := []) hC (c_X7_chosenOf l g ad I J t1 t5 (0 : Int32) hTt1 hTt5 H.size hc10) lk_X7_251 rfl rfl ⟨Nat.le_of_ble_eq_true rfl, Nat.le_of_ble_eq_true rfl⟩ hP hK hD hA hS xo_59 rfl rfl rfl hl (Nat.le_of_ble_eq_true rfl) dX7_parts_53 (fun H locs hP hD hS => ?_)
          refine lv_aload_n hx hb dX7_parts_56 rfl (lv_at hl 2 rfl) ?_
          refine lv_aload hx hb dX7_parts_57 (lv_at hl 1 rfl) ?_
          refine lv_aload hx hb dX7_parts_59 (lv_at hl 0 rfl) ?_
          refine lv_iload_n hx hb dX7_parts_61 rfl (lv_at hl 5 rfl) ?_
          obtain ⟨⟨r11, I11, J11⟩, hc11, h⟩ := ob h
          dsimp only at h
          refine callWVi (As := [.ref (ad t1), .ref (ad t5), .int v3]) (rest := [.int r10]) hC (c_X7_chosenOf l g ad I10 J10 t1 t5 v3 hTt1 hTt5 H.size hc11) lk_X7_251 rfl rfl ⟨Nat.le_of_ble_eq_true rfl, Nat.le_of_ble_eq_true rfl⟩ hP hK hD hA hS xo_59 rfl rfl rfl hl (Nat.le_of_ble_eq_true rfl) dX7_parts_62 (fun H locs hP hD hS => ?_)
          refine tern (α := Int32) (cnd := r10 = r11) (a := (0 : Int32)) (b := (1 : Int32)) (Wj := fun vj => W p l e (k2_rm 6 148) s m args below meth c H locs 0 0 Q (F0 m 73 ls [.int vj])) (fun k13a k13b => ?_) ?_
          · refine lv_icmp_eq (tgt := 72) hx hb dX7_parts_65 (by decide) (fun c12 => ?_) (fun c12 => ?_)
            · refine lv_iconst (v := 0) hx hb dX7_parts_72 (by decide) ?_
              exact k13a c12
            · refine lv_iconst (v := 1) hx hb dX7_parts_68 (by decide) ?_
              refine lv_goto (tgt := 73) hx hb dX7_parts_69 (by decide) ?_
              exact k13b c12
          · show W p l e (k2_rm 6 148) s m args below meth c H locs 0 0 Q (F0 m 73 ls [.int (if r10 = r11 then (0 : Int32) else (1 : Int32))])
            obtain ⟨h1, h⟩ := Prod.mk.inj (Option.some.inj h)
            obtain ⟨rfl, rfl⟩ := Prod.mk.inj h
            exact hret _ _ _ _ _ dX7_parts_73 h1 hP hD hS
        · replace h := (if_neg c9).symm.trans h
          refine lv_aload_n hx hb dX7_parts_41 rfl (lv_at hl 2 rfl) ?_
          refine lv_iconst (v := -1) hx hb dX7_parts_42 (by decide) ?_
          obtain ⟨⟨r14, I14, J14⟩, hc14, h⟩ := ob h
          dsimp only at h
          refine callWVi (As := [.int (-1 : Int32)]) (rest := []) hC (c_X7_refuse l g ad I J (-1 : Int32)  H.size hc14) lk_X7_74 rfl rfl ⟨Nat.le_of_ble_eq_true rfl, Nat.le_of_ble_eq_true rfl⟩ hP hK hD hA hS xo_59 rfl rfl rfl hl (Nat.le_of_ble_eq_true rfl) dX7_parts_43 (fun H locs hP hD hS => ?_)
          obtain ⟨h1, h⟩ := Prod.mk.inj (Option.some.inj h)
          obtain ⟨rfl, rfl⟩ := Prod.mk.inj h
          exact hret _ _ _ _ _ dX7_parts_46 h1 hP hD hS
def F_X7_own (I : SI) (J : SJ) (v1 : Int32) (v2 : Int32) : Option (Int32 × SI × SJ) := ((F_X1_termAt 0 I J v1).bind fun r1 => (match r1 with | none => ((F_X7_refuse I J (-1 : Int32)).bind fun (r2, I2, J2) => (some (r2, I2, J2))) | some t1 => ((F_X7_inRange v2 (0 : Int32) (99 : Int32)).bind fun r3 => (if r3 = 0 then ((F_X4_lay I J (0 : Int32) (0 : Int32) (0 : Int32)).bind fun (I5, J5) => ((F_X4_bestWithOwn t1 I5 J5 v2).bind fun r6 => (some (r6, I5, J5)))) else ((F_X7_refuse I J r3).bind fun (r7, I7, J7) => (some (r7, I7, J7)))))))
set_option maxHeartbeats 4000000 in
set_option maxRecDepth 100000 in
theorem c_X7_own (l : Launch) (g : Gx) (ad : Nat → Nat) (I : SI) (J : SJ) (v1 : Int32) (v2 : Int32)  (sz : Nat) {r : Int32} {rI : SI} {rJ : SJ} (h : F_X7_own I J v1 v2 = some (r, rI, rJ)) : Met l yX7_own (Cond.code yX7_own cX7_own 5 (some .int) :: BG) (k2_rm 5 127) (PcW [.ref (ad 59), .int v1, .int v2] g (xW ad g I J) sz) (QWi r g (xW ad g I J) (xW ad g rI rJ) sz) 0 0 (va_A (xW ad g I J) sz) := by
  refine mkWi (by decide) (Nat.le_of_ble_eq_true rfl) ?_
  intro p e s m args below meth c H locs ls A Q hC hK hP hD hA hS hl hret
  have hx := hC.1
  have hb := hC.2.1
  have hts := hC.2.2.2.2
  have hown := hC.2.2.2.1
  replace hl : lv_has ls 5 [(0, .ref (ad 59)), (1, .int v1), (2, .int v2)] := hl
  unfold F_X7_own at h
  refine lv_aload_n hx hb dX7_own_0 rfl (lv_at hl 0 rfl) ?_
  refine gt_X7_10 hC hK hP dX7_own_1 ?_
  refine lv_iload_n hx hb dX7_own_4 rfl (lv_at hl 1 rfl) ?_
  obtain ⟨r1, hc1, h⟩ := ob h
  rcases r1 with _ | t1
  · refine callRV (As := [.int v1]) (rest := []) hC (c_X1_termAt l g ad I J 0 v1 (Or.inl rfl) hc1) lk_X7_106 rfl rfl ⟨Nat.le_of_ble_eq_true rfl, Nat.le_of_ble_eq_true rfl⟩ hP hK (xEo (Or.inl rfl)) rfl rfl rfl hl (Nat.le_of_ble_eq_true rfl) dX7_own_5 ?_
    refine lv_astore_nN (lv' := [(3, .null), (0, .ref (ad 59)), (1, .int v1), (2, .int v2)]) hx hb dX7_own_8 rfl hl (by decide) rfl (fun ls hl => ?_)
    refine lv_aload_nN hx hb dX7_own_9 rfl (lv_at hl 0 rfl) ?_
    refine lv_ifnonnullN hx hb dX7_own_10 ?_
    refine lv_aload_n hx hb dX7_own_13 rfl (lv_at hl 1 rfl) ?_
    refine lv_iconst (v := -1) hx hb dX7_own_14 (by decide) ?_
    obtain ⟨⟨r2, I2, J2⟩, hc2, h⟩ := ob h
    dsimp only at h
    refine callWVi (As := [.int (-1 : Int32)]) (rest := []) hC (c_X7_refuse l g ad I J (-1 : Int32)  H.size hc2) lk_X7_74 rfl rfl ⟨Nat.le_of_ble_eq_true rfl, Nat.le_of_ble_eq_true rfl⟩ hP hK hD hA hS xo_59 rfl rfl rfl hl (Nat.le_of_ble_eq_true rfl) dX7_own_15 (fun H locs hP hD hS => ?_)
    obtain ⟨h1, h⟩ := Prod.mk.inj (Option.some.inj h)
    obtain ⟨rfl, rfl⟩ := Prod.mk.inj h
    exact hret _ _ _ _ _ dX7_own_18 h1 hP hD hS
  · have hTt1 : isT t1 := termAt_isT (Or.inl rfl) hc1
    refine callRV (As := [.int v1]) (rest := []) hC (c_X1_termAt l g ad I J 0 v1 (Or.inl rfl) hc1) lk_X7_106 rfl rfl ⟨Nat.le_of_ble_eq_true rfl, Nat.le_of_ble_eq_true rfl⟩ hP hK (xEo (Or.inl rfl)) rfl rfl rfl hl (Nat.le_of_ble_eq_true rfl) dX7_own_5 ?_
    refine lv_astore_n (lv' := [(3, .ref (ad t1)), (0, .ref (ad 59)), (1, .int v1), (2, .int v2)]) hx hb dX7_own_8 rfl hl (by decide) rfl (fun ls hl => ?_)
    refine lv_aload_n hx hb dX7_own_9 rfl (lv_at hl 0 rfl) ?_
    refine lv_ifnonnull (tgt := 19) hx hb dX7_own_10 (by decide) ?_
    refine lv_iload_n hx hb dX7_own_19 rfl (lv_at hl 3 rfl) ?_
    refine lv_iconst (v := 0) hx hb dX7_own_20 (by decide) ?_
    refine lv_bipush (v := 99) hx hb dX7_own_21 (by decide) ?_
    obtain ⟨r3, hc3, h⟩ := ob h
    refine callRS (As := [.int v2, .int (0 : Int32), .int (99 : Int32)]) (rest := []) hC (c_X7_inRange l g (xW ad g I J) v2 (0 : Int32) (99 : Int32) hc3) lk_X7_66 rfl rfl ⟨Nat.le_of_ble_eq_true rfl, Nat.le_of_ble_eq_true rfl⟩ hP hK rfl rfl hl (Nat.le_of_ble_eq_true rfl) dX7_own_23 ?_
    refine lv_istore (lv' := [(4, .int r3), (3, .ref (ad t1)), (0, .ref (ad 59)), (1, .int v1), (2, .int v2)]) hx hb dX7_own_26 hl (by decide) rfl (fun ls hl => ?_)
    refine lv_iload hx hb dX7_own_28 (lv_at hl 0 rfl) ?_
    refine lv_if_eq (tgt := 40) hx hb dX7_own_30 (by decide) (fun c4 => ?_) (fun c4 => ?_)
    · replace h := (if_pos c4).symm.trans h
      refine lv_aload_n hx hb dX7_own_40 rfl (lv_at hl 2 rfl) ?_
      refine gt_X7_34 hC hK hP dX7_own_41 ?_
      refine lv_iconst (v := 0) hx hb dX7_own_44 (by decide) ?_
      refine lv_iconst (v := 0) hx hb dX7_own_45 (by decide) ?_
      refine lv_iconst (v := 0) hx hb dX7_own_46 (by decide) ?_
      obtain ⟨⟨I5, J5⟩, hc5, h⟩ := ob h
      dsimp only at h
      refine callWVv (As := [.int (0 : Int32), .int (0 : Int32), .int (0 : Int32)]) (rest := []) hC (c_X4_lay l g ad I J (0 : Int32) (0 : Int32) (0 : Int32)  H.size hc5) lk_X7_135 rfl rfl ⟨Nat.le_of_ble_eq_true rfl, Nat.le_of_ble_eq_true rfl⟩ hP hK hD hA hS xo_47 rfl rfl rfl hl (Nat.le_of_ble_eq_true rfl) dX7_own_47 (fun H locs hP hD hS => ?_)
      refine lv_aload_n hx hb dX7_own_50 rfl (lv_at hl 2 rfl) ?_
      refine gt_X7_34 hC hK hP dX7_own_51 ?_
      refine lv_aload_n hx hb dX7_own_54 rfl (lv_at hl 1 rfl) ?_
      refine lv_iload_n hx hb dX7_own_55 rfl (lv_at hl 4 rfl) ?_
      obtain ⟨r6, hc6, h⟩ := ob h
      refine callRV (As := [.ref (ad t1), .int v2]) (rest := []) hC (c_X4_bestWithOwn l g ad I5 J5 t1 v2 hTt1 hc6) lk_X7_255 rfl rfl ⟨Nat.le_of_ble_eq_true rfl, Nat.le_of_ble_eq_true rfl⟩ hP hK xo_47 rfl rfl rfl hl (Nat.le_of_ble_eq_true rfl) dX7_own_56 ?_
      obtain ⟨h1, h⟩ := Prod.mk.inj (Option.some.inj h)
      obtain ⟨rfl, rfl⟩ := Prod.mk.inj h
      exact hret _ _ _ _ _ dX7_own_59 h1 hP hD hS
    · replace h := (if_neg c4).symm.trans h
      refine lv_aload_n hx hb dX7_own_33 rfl (lv_at hl 2 rfl) ?_
      refine lv_iload hx hb dX7_own_34 (lv_at hl 0 rfl) ?_
      obtain ⟨⟨r7, I7, J7⟩, hc7, h⟩ := ob h
      dsimp only at h
      refine callWVi (As := [.int r3]) (rest := []) hC (c_X7_refuse l g ad I J r3  H.size hc7) lk_X7_74 rfl rfl ⟨Nat.le_of_ble_eq_true rfl, Nat.le_of_ble_eq_true rfl⟩ hP hK hD hA hS xo_59 rfl rfl rfl hl (Nat.le_of_ble_eq_true rfl) dX7_own_36 (fun H locs hP hD hS => ?_)
      obtain ⟨h1, h⟩ := Prod.mk.inj (Option.some.inj h)
      obtain ⟨rfl, rfl⟩ := Prod.mk.inj h
      exact hret _ _ _ _ _ dX7_own_39 h1 hP hD hS
def F_X7_bears (I : SI) (J : SJ) (v1 : Int32) (v2 : Int32) : Option (Int64 × SI × SJ) := ((F_X1_termAt 0 I J v1).bind fun r1 => (match r1 with | none => ((F_X7_refuseAsToldLong I J (-1 : Int32)).bind fun (r2, I2, J2) => (some (r2, I2, J2))) | some t1 => ((F_X7_inRange v2 (0 : Int32) (50 : Int32)).bind fun r3 => (if r3 = 0 then ((F_X4_lay I J (0 : Int32) (0 : Int32) (0 : Int32)).bind fun (I5, J5) => ((F_X7_ownerWorth t1 I5 J5).bind fun (r6, I6, J6) => ((F_X4_lay I6 J6 (0 : Int32) (0 : Int32) v2).bind fun (I7, J7) => ((F_X7_ownerWorth t1 I7 J7).bind fun (r8, I8, J8) => (some ((r6 - r8), I8, J8)))))) else ((F_X7_refuseAsToldLong I J r3).bind fun (r9, I9, J9) => (some (r9, I9, J9)))))))
set_option maxHeartbeats 4000000 in
set_option maxRecDepth 100000 in
theorem c_X7_bears (l : Launch) (g : Gx) (ad : Nat → Nat) (I : SI) (J : SJ) (v1 : Int32) (v2 : Int32)  (sz : Nat) {r : Int64} {rI : SI} {rJ : SJ} (h : F_X7_bears I J v1 v2 = some (r, rI, rJ)) : Met l yX7_bears (Cond.code yX7_bears cX7_bears 7 (some .long) :: BG) (k2_rm 6 142) (PcW [.ref (ad 59), .int v1, .int v2] g (xW ad g I J) sz) (QWl r g (xW ad g I J) (xW ad g rI rJ) sz) 0 0 (va_A (xW ad g I J) sz) := by
  refine mkWl (by decide) (Nat.le_of_ble_eq_true rfl) ?_
  intro p e s m args below meth c H locs ls A Q hC hK hP hD hA hS hl hret
  have hx := hC.1
  have hb := hC.2.1
  have hts := hC.2.2.2.2
  have hown := hC.2.2.2.1
  replace hl : lv_has ls 7 [(0, .ref (ad 59)), (1, .int v1), (2, .int v2)] := hl
  unfold F_X7_bears at h
  refine lv_aload_n hx hb dX7_bears_0 rfl (lv_at hl 0 rfl) ?_
  refine gt_X7_10 hC hK hP dX7_bears_1 ?_
  refine lv_iload_n hx hb dX7_bears_4 rfl (lv_at hl 1 rfl) ?_
  obtain ⟨r1, hc1, h⟩ := ob h
  rcases r1 with _ | t1
  · refine callRV (As := [.int v1]) (rest := []) hC (c_X1_termAt l g ad I J 0 v1 (Or.inl rfl) hc1) lk_X7_106 rfl rfl ⟨Nat.le_of_ble_eq_true rfl, Nat.le_of_ble_eq_true rfl⟩ hP hK (xEo (Or.inl rfl)) rfl rfl rfl hl (Nat.le_of_ble_eq_true rfl) dX7_bears_5 ?_
    refine lv_astore_nN (lv' := [(3, .null), (0, .ref (ad 59)), (1, .int v1), (2, .int v2)]) hx hb dX7_bears_8 rfl hl (by decide) rfl (fun ls hl => ?_)
    refine lv_aload_nN hx hb dX7_bears_9 rfl (lv_at hl 0 rfl) ?_
    refine lv_ifnonnullN hx hb dX7_bears_10 ?_
    refine lv_aload_n hx hb dX7_bears_13 rfl (lv_at hl 1 rfl) ?_
    refine lv_iconst (v := -1) hx hb dX7_bears_14 (by decide) ?_
    obtain ⟨⟨r2, I2, J2⟩, hc2, h⟩ := ob h
    dsimp only at h
    refine callWVl (As := [.int (-1 : Int32)]) (rest := []) hC (c_X7_refuseAsToldLong l g ad I J (-1 : Int32)  H.size hc2) lk_X7_171 rfl rfl ⟨Nat.le_of_ble_eq_true rfl, Nat.le_of_ble_eq_true rfl⟩ hP hK hD hA hS xo_59 rfl rfl rfl hl (Nat.le_of_ble_eq_true rfl) dX7_bears_15 (fun H locs hP hD hS => ?_)
    obtain ⟨h1, h⟩ := Prod.mk.inj (Option.some.inj h)
    obtain ⟨rfl, rfl⟩ := Prod.mk.inj h
    exact hret _ _ _ _ _ dX7_bears_18 h1 hP hD hS
  · have hTt1 : isT t1 := termAt_isT (Or.inl rfl) hc1
    refine callRV (As := [.int v1]) (rest := []) hC (c_X1_termAt l g ad I J 0 v1 (Or.inl rfl) hc1) lk_X7_106 rfl rfl ⟨Nat.le_of_ble_eq_true rfl, Nat.le_of_ble_eq_true rfl⟩ hP hK (xEo (Or.inl rfl)) rfl rfl rfl hl (Nat.le_of_ble_eq_true rfl) dX7_bears_5 ?_
    refine lv_astore_n (lv' := [(3, .ref (ad t1)), (0, .ref (ad 59)), (1, .int v1), (2, .int v2)]) hx hb dX7_bears_8 rfl hl (by decide) rfl (fun ls hl => ?_)
    refine lv_aload_n hx hb dX7_bears_9 rfl (lv_at hl 0 rfl) ?_
    refine lv_ifnonnull (tgt := 19) hx hb dX7_bears_10 (by decide) ?_
    refine lv_iload_n hx hb dX7_bears_19 rfl (lv_at hl 3 rfl) ?_
    refine lv_iconst (v := 0) hx hb dX7_bears_20 (by decide) ?_
    refine lv_bipush (v := 50) hx hb dX7_bears_21 (by decide) ?_
    obtain ⟨r3, hc3, h⟩ := ob h
    refine callRS (As := [.int v2, .int (0 : Int32), .int (50 : Int32)]) (rest := []) hC (c_X7_inRange l g (xW ad g I J) v2 (0 : Int32) (50 : Int32) hc3) lk_X7_66 rfl rfl ⟨Nat.le_of_ble_eq_true rfl, Nat.le_of_ble_eq_true rfl⟩ hP hK rfl rfl hl (Nat.le_of_ble_eq_true rfl) dX7_bears_23 ?_
    refine lv_istore (lv' := [(4, .int r3), (3, .ref (ad t1)), (0, .ref (ad 59)), (1, .int v1), (2, .int v2)]) hx hb dX7_bears_26 hl (by decide) rfl (fun ls hl => ?_)
    refine lv_iload hx hb dX7_bears_28 (lv_at hl 0 rfl) ?_
    refine lv_if_eq (tgt := 40) hx hb dX7_bears_30 (by decide) (fun c4 => ?_) (fun c4 => ?_)
    · replace h := (if_pos c4).symm.trans h
      refine lv_aload_n hx hb dX7_bears_40 rfl (lv_at hl 2 rfl) ?_
      refine gt_X7_34 hC hK hP dX7_bears_41 ?_
      refine lv_iconst (v := 0) hx hb dX7_bears_44 (by decide) ?_
      refine lv_iconst (v := 0) hx hb dX7_bears_45 (by decide) ?_
      refine lv_iconst (v := 0) hx hb dX7_bears_46 (by decide) ?_
      obtain ⟨⟨I5, J5⟩, hc5, h⟩ := ob h
      dsimp only at h
      refine callWVv (As := [.int (0 : Int32), .int (0 : Int32), .int (0 : Int32)]) (rest := []) hC (c_X4_lay l g ad I J (0 : Int32) (0 : Int32) (0 : Int32)  H.size hc5) lk_X7_135 rfl rfl ⟨Nat.le_of_ble_eq_true rfl, Nat.le_of_ble_eq_true rfl⟩ hP hK hD hA hS xo_47 rfl rfl rfl hl (Nat.le_of_ble_eq_true rfl) dX7_bears_47 (fun H locs hP hD hS => ?_)
      refine lv_aload_n hx hb dX7_bears_50 rfl (lv_at hl 2 rfl) ?_
      refine lv_aload_n hx hb dX7_bears_51 rfl (lv_at hl 1 rfl) ?_
      obtain ⟨⟨r6, I6, J6⟩, hc6, h⟩ := ob h
      dsimp only at h
      refine callWVl (As := [.ref (ad t1)]) (rest := []) hC (c_X7_ownerWorth l g ad I5 J5 t1 hTt1 H.size hc6) lk_X7_212 rfl rfl ⟨Nat.le_of_ble_eq_true rfl, Nat.le_of_ble_eq_true rfl⟩ hP hK hD hA hS xo_59 rfl rfl rfl hl (Nat.le_of_ble_eq_true rfl) dX7_bears_52 (fun H locs hP hD hS => ?_)
      refine lv_lstore (lv' := [(5, .long r6), (4, .int r3), (3, .ref (ad t1)), (0, .ref (ad 59)), (1, .int v1), (2, .int v2)]) hx hb dX7_bears_55 hl (by decide) rfl (fun ls hl => ?_)
      refine lv_aload_n hx hb dX7_bears_57 rfl (lv_at hl 3 rfl) ?_
      refine gt_X7_34 hC hK hP dX7_bears_58 ?_
      refine lv_iconst (v := 0) hx hb dX7_bears_61 (by decide) ?_
      refine lv_iconst (v := 0) hx hb dX7_bears_62 (by decide) ?_
      refine lv_iload_n hx hb dX7_bears_63 rfl (lv_at hl 5 rfl) ?_
      obtain ⟨⟨I7, J7⟩, hc7, h⟩ := ob h
      dsimp only at h
      refine callWVv (As := [.int (0 : Int32), .int (0 : Int32), .int v2]) (rest := []) hC (c_X4_lay l g ad I6 J6 (0 : Int32) (0 : Int32) v2  H.size hc7) lk_X7_135 rfl rfl ⟨Nat.le_of_ble_eq_true rfl, Nat.le_of_ble_eq_true rfl⟩ hP hK hD hA hS xo_47 rfl rfl rfl hl (Nat.le_of_ble_eq_true rfl) dX7_bears_64 (fun H locs hP hD hS => ?_)
      refine lv_lload hx hb dX7_bears_67 (lv_at hl 0 rfl) ?_
      refine lv_aload_n hx hb dX7_bears_69 rfl (lv_at hl 3 rfl) ?_
      refine lv_aload_n hx hb dX7_bears_70 rfl (lv_at hl 2 rfl) ?_
      obtain ⟨⟨r8, I8, J8⟩, hc8, h⟩ := ob h
      dsimp only at h
      refine callWVl (As := [.ref (ad t1)]) (rest := [.long r6]) hC (c_X7_ownerWorth l g ad I7 J7 t1 hTt1 H.size hc8) lk_X7_212 rfl rfl ⟨Nat.le_of_ble_eq_true rfl, Nat.le_of_ble_eq_true rfl⟩ hP hK hD hA hS xo_59 rfl rfl rfl hl (Nat.le_of_ble_eq_true rfl) dX7_bears_71 (fun H locs hP hD hS => ?_)
      refine lv_lsub hx hb dX7_bears_74 ?_
      obtain ⟨h1, h⟩ := Prod.mk.inj (Option.some.inj h)
      obtain ⟨rfl, rfl⟩ := Prod.mk.inj h
      exact hret _ _ _ _ _ dX7_bears_75 h1 hP hD hS
    · replace h := (if_neg c4).symm.trans h
      refine lv_aload_n hx hb dX7_bears_33 rfl (lv_at hl 2 rfl) ?_
      refine lv_iload hx hb dX7_bears_34 (lv_at hl 0 rfl) ?_
      obtain ⟨⟨r9, I9, J9⟩, hc9, h⟩ := ob h
      dsimp only at h
      refine callWVl (As := [.int r3]) (rest := []) hC (c_X7_refuseAsToldLong l g ad I J r3  H.size hc9) lk_X7_171 rfl rfl ⟨Nat.le_of_ble_eq_true rfl, Nat.le_of_ble_eq_true rfl⟩ hP hK hD hA hS xo_59 rfl rfl rfl hl (Nat.le_of_ble_eq_true rfl) dX7_bears_36 (fun H locs hP hD hS => ?_)
      obtain ⟨h1, h⟩ := Prod.mk.inj (Option.some.inj h)
      obtain ⟨rfl, rfl⟩ := Prod.mk.inj h
      exact hret _ _ _ _ _ dX7_bears_39 h1 hP hD hS
def F_X7_refusalOfDebts (v1 : Int32) (v2 : Int32) : Option (Int32) := ((F_X7_inRange v1 (0 : Int32) (99 : Int32)).bind fun r1 => ((F_X7_inRange v2 (1 : Int32) (30 : Int32)).bind fun r2 => ((F_X7_first r1 r2).bind fun r3 => (some r3))))
set_option maxHeartbeats 4000000 in
set_option maxRecDepth 100000 in
theorem c_X7_refusalOfDebts (l : Launch) (g : Gx) (ws : va_W) (v1 : Int32) (v2 : Int32)  {r : Int32} (h : F_X7_refusalOfDebts v1 v2 = some r) : Met l yX7_refusalOfDebts (Cond.code yX7_refusalOfDebts cX7_refusalOfDebts 2 (some .int) :: BG) (k2_rm 2 44) (va_Pc [.int v1, .int v2] (fun U => Pg g ws U.heap ∧ Kg g U)) (k2_QcV (.int r)) 0 0 (fun _ => False) := by
  refine mkRi (by decide) (Nat.le_of_ble_eq_true rfl) ?_
  intro p e s m args below meth c H locs ls Q hC hK hP hl hret
  have hx := hC.1
  have hb := hC.2.1
  have hts := hC.2.2.2.2
  have hown := hC.2.2.2.1
  replace hl : lv_has ls 2 [(0, .int v1), (1, .int v2)] := hl
  unfold F_X7_refusalOfDebts at h
  refine lv_iload_n hx hb dX7_refusalOfDebts_0 rfl (lv_at hl 0 rfl) ?_
  refine lv_iconst (v := 0) hx hb dX7_refusalOfDebts_1 (by decide) ?_
  refine lv_bipush (v := 99) hx hb dX7_refusalOfDebts_2 (by decide) ?_
  obtain ⟨r1, hc1, h⟩ := ob h
  refine callRS (As := [.int v1, .int (0 : Int32), .int (99 : Int32)]) (rest := []) hC (c_X7_inRange l g ws v1 (0 : Int32) (99 : Int32) hc1) lk_X7_66 rfl rfl ⟨Nat.le_of_ble_eq_true rfl, Nat.le_of_ble_eq_true rfl⟩ hP hK rfl rfl hl (Nat.le_of_ble_eq_true rfl) dX7_refusalOfDebts_4 ?_
  refine lv_iload_n hx hb dX7_refusalOfDebts_7 rfl (lv_at hl 1 rfl) ?_
  refine lv_iconst (v := 1) hx hb dX7_refusalOfDebts_8 (by decide) ?_
  refine lv_bipush (v := 30) hx hb dX7_refusalOfDebts_9 (by decide) ?_
  obtain ⟨r2, hc2, h⟩ := ob h
  refine callRS (As := [.int v2, .int (1 : Int32), .int (30 : Int32)]) (rest := [.int r1]) hC (c_X7_inRange l g ws v2 (1 : Int32) (30 : Int32) hc2) lk_X7_66 rfl rfl ⟨Nat.le_of_ble_eq_true rfl, Nat.le_of_ble_eq_true rfl⟩ hP hK rfl rfl hl (Nat.le_of_ble_eq_true rfl) dX7_refusalOfDebts_11 ?_
  obtain ⟨r3, hc3, h⟩ := ob h
  refine callRS (As := [.int r1, .int r2]) (rest := []) hC (c_X7_first l g ws r1 r2 hc3) lk_X7_161 rfl rfl ⟨Nat.le_of_ble_eq_true rfl, Nat.le_of_ble_eq_true rfl⟩ hP hK rfl rfl hl (Nat.le_of_ble_eq_true rfl) dX7_refusalOfDebts_14 ?_
  exact hret _ _ _ dX7_refusalOfDebts_17 (Option.some.inj h)
def F_X7_draw (v1 : Int32) : Option (Int32) := (some ((v1 * (1103515245 : Int32)) + (12345 : Int32)))
set_option maxHeartbeats 4000000 in
set_option maxRecDepth 100000 in
theorem c_X7_draw (l : Launch) (g : Gx) (ws : va_W) (v1 : Int32)  {r : Int32} (h : F_X7_draw v1 = some r) : Met l yX7_draw (Cond.code yX7_draw cX7_draw 1 (some .int) :: BG) (k2_rm 0 0) (va_Pc [.int v1] (fun U => Pg g ws U.heap ∧ Kg g U)) (k2_QcV (.int r)) 0 0 (fun _ => False) := by
  refine mkRi (by decide) (Nat.le_of_ble_eq_true rfl) ?_
  intro p e s m args below meth c H locs ls Q hC hK hP hl hret
  have hx := hC.1
  have hb := hC.2.1
  have hts := hC.2.2.2.2
  have hown := hC.2.2.2.1
  replace hl : lv_has ls 1 [(0, .int v1)] := hl
  unfold F_X7_draw at h
  refine lv_iload_n hx hb dX7_draw_0 rfl (lv_at hl 0 rfl) ?_
  refine lv_ldcw hx hb hown (hts _ kc_X7_314) dX7_draw_1 ?_
  refine lv_imul hx hb dX7_draw_4 ?_
  refine lv_sipush (v := 12345) hx hb dX7_draw_5 (by decide) ?_
  refine lv_iadd hx hb dX7_draw_8 ?_
  exact hret _ _ _ dX7_draw_9 (Option.some.inj h)
def FL_X7_ruinYear_9  : Nat → SI → SJ → Nat → Int32 → Int32 → Int32 → Int32 → Int32 → Int32 → Int32 → Option (Int32)
  | 0, _, _, _, _, _, _, _, _, _, _ => none
  | n + 1, I, J, w1_9, w2_9, w4_9, w5_9, w6_9, w7_9, w8_9, w9_9 => (if w6_9 ≤ w9_9 then (some (-9 : Int32)) else ((F_X7_draw w8_9).bind fun r2 => ((F_X4_drawnBushels w1_9 I J w2_9 r2 w9_9).bind fun r3 => (if (-w5_9) ≤ (w7_9 + (r3 - w4_9)) then (FL_X7_ruinYear_9 n I J w1_9 w2_9 w4_9 w5_9 w6_9 (w7_9 + (r3 - w4_9)) r2 (w9_9 + 1)) else (some w9_9)))))
def F_X7_ruinYear (t1 : Nat) (I : SI) (J : SJ) (v2 : Int32) (v3 : Int32) (v4 : Int32) (v5 : Int32) (v6 : Int32) : Option (Int32) := (FL_X7_ruinYear_9 3000 I J t1 v2 v4 v5 v6 (0 : Int32) v3 (0 : Int32))
set_option maxHeartbeats 4000000 in
set_option maxRecDepth 100000 in
theorem c_X7_ruinYear (l : Launch) (g : Gx) (ad : Nat → Nat) (I : SI) (J : SJ) (t1 : Nat) (v2 : Int32) (v3 : Int32) (v4 : Int32) (v5 : Int32) (v6 : Int32) (hT1 : isT t1) {r : Int32} (h : F_X7_ruinYear t1 I J v2 v3 v4 v5 v6 = some r) : Met l yX7_ruinYear (Cond.code yX7_ruinYear cX7_ruinYear 10 (some .int) :: BG) (k2_rm 4 95) (va_Pc [.ref (ad 59), .ref (ad t1), .int v2, .int v3, .int v4, .int v5, .int v6] (fun U => Pg g (xW ad g I J) U.heap ∧ Kg g U)) (k2_QcV (.int r)) 0 0 (fun _ => False) := by
  refine mkRi (by decide) (Nat.le_of_ble_eq_true rfl) ?_
  intro p e s m args below meth c H locs ls Q hC hK hP hl hret
  have hx := hC.1
  have hb := hC.2.1
  have hts := hC.2.2.2.2
  have hown := hC.2.2.2.1
  replace hl : lv_has ls 10 [(0, .ref (ad 59)), (1, .ref (ad t1)), (2, .int v2), (3, .int v3), (4, .int v4), (5, .int v5), (6, .int v6)] := hl
  have loop_9 : ∀ (n : Nat) (w1_9 : Nat) (w2_9 : Int32) (w4_9 : Int32) (w5_9 : Int32) (w6_9 : Int32) (w7_9 : Int32) (w8_9 : Int32) (w9_9 : Int32)  (ls : Array Slot), isT w1_9 → FL_X7_ruinYear_9 n I J w1_9 w2_9 w4_9 w5_9 w6_9 w7_9 w8_9 w9_9 = some r → lv_has ls 10 [(0, .ref (ad 59)), (1, .ref (ad w1_9)), (2, .int w2_9), (4, .int w4_9), (5, .int w5_9), (6, .int w6_9), (7, .int w7_9), (8, .int w8_9), (9, .int w9_9)] → W p l e (k2_rm 4 95) s m args below meth c H locs 0 0 Q (F0 m 9 ls []) := by
    intro n
    induction n with
    | zero =>
      intro w1_9 w2_9 w4_9 w5_9 w6_9 w7_9 w8_9 w9_9 ls hw1_9 h
      exact no h
    | succ n ih =>
      intro w1_9 w2_9 w4_9 w5_9 w6_9 w7_9 w8_9 w9_9 ls hw1_9 h hl
      rw [FL_X7_ruinYear_9] at h
      refine lv_iload hx hb dX7_ruinYear_9 (lv_at hl 8 rfl) ?_
      refine lv_iload hx hb dX7_ruinYear_11 (lv_at hl 5 rfl) ?_
      refine lv_icmp_ge (tgt := 61) hx hb dX7_ruinYear_13 (by decide) (fun c1 => ?_) (fun c1 => ?_)
      · replace h := (if_pos c1).symm.trans h
        refine lv_bipush (v := -9) hx hb dX7_ruinYear_61 (by decide) ?_
        exact hret _ _ _ dX7_ruinYear_63 (Option.some.inj h)
      · replace h := (if_neg c1).symm.trans h
        refine lv_iload hx hb dX7_ruinYear_16 (lv_at hl 7 rfl) ?_
        obtain ⟨r2, hc2, h⟩ := ob h
        refine callRS (As := [.int w8_9]) (rest := []) hC (c_X7_draw l g (xW ad g I J) w8_9 hc2) lk_X7_266 rfl rfl ⟨Nat.le_of_ble_eq_true rfl, Nat.le_of_ble_eq_true rfl⟩ hP hK rfl rfl hl (Nat.le_of_ble_eq_true rfl) dX7_ruinYear_18 ?_
        refine lv_istore (lv' := [(8, .int r2), (0, .ref (ad 59)), (1, .ref (ad w1_9)), (2, .int w2_9), (4, .int w4_9), (5, .int w5_9), (6, .int w6_9), (7, .int w7_9), (9, .int w9_9)]) hx hb dX7_ruinYear_21 hl (by decide) rfl (fun ls hl => ?_)
        refine lv_iload hx hb dX7_ruinYear_23 (lv_at hl 7 rfl) ?_
        refine lv_aload_n hx hb dX7_ruinYear_25 rfl (lv_at hl 1 rfl) ?_
        refine gt_X7_34 hC hK hP dX7_ruinYear_26 ?_
        refine lv_aload_n hx hb dX7_ruinYear_29 rfl (lv_at hl 2 rfl) ?_
        refine lv_iload_n hx hb dX7_ruinYear_30 rfl (lv_at hl 3 rfl) ?_
        refine lv_iload hx hb dX7_ruinYear_31 (lv_at hl 0 rfl) ?_
        refine lv_iload hx hb dX7_ruinYear_33 (lv_at hl 8 rfl) ?_
        obtain ⟨r3, hc3, h⟩ := ob h
        refine callRV (As := [.ref (ad w1_9), .int w2_9, .int r2, .int w9_9]) (rest := [.int w7_9]) hC (c_X4_drawnBushels l g ad I J w1_9 w2_9 r2 w9_9 hw1_9 hc3) lk_X7_269 rfl rfl ⟨Nat.le_of_ble_eq_true rfl, Nat.le_of_ble_eq_true rfl⟩ hP hK xo_47 rfl rfl rfl hl (Nat.le_of_ble_eq_true rfl) dX7_ruinYear_35 ?_
        refine lv_iload hx hb dX7_ruinYear_38 (lv_at hl 4 rfl) ?_
        refine lv_isub hx hb dX7_ruinYear_40 ?_
        refine lv_iadd hx hb dX7_ruinYear_41 ?_
        refine lv_istore (lv' := [(7, .int (w7_9 + (r3 - w4_9))), (8, .int r2), (0, .ref (ad 59)), (1, .ref (ad w1_9)), (2, .int w2_9), (4, .int w4_9), (5, .int w5_9), (6, .int w6_9), (9, .int w9_9)]) hx hb dX7_ruinYear_42 hl (by decide) rfl (fun ls hl => ?_)
        refine lv_iload hx hb dX7_ruinYear_44 (lv_at hl 0 rfl) ?_
        refine lv_iload hx hb dX7_ruinYear_46 (lv_at hl 6 rfl) ?_
        refine lv_ineg hx hb dX7_ruinYear_48 ?_
        refine lv_icmp_ge (tgt := 55) hx hb dX7_ruinYear_49 (by decide) (fun c4 => ?_) (fun c4 => ?_)
        · replace h := (if_pos c4).symm.trans h
          refine lv_iinc (v := (w9_9 + 1)) (lv' := [(9, .int (w9_9 + 1)), (7, .int (w7_9 + (r3 - w4_9))), (8, .int r2), (0, .ref (ad 59)), (1, .ref (ad w1_9)), (2, .int w2_9), (4, .int w4_9), (5, .int w5_9), (6, .int w6_9)]) hx hb dX7_ruinYear_55 hl (k := 8) rfl rfl (by decide) rfl (fun ls hl => ?_)
          refine lv_goto (tgt := 9) hx hb dX7_ruinYear_58 (by decide) ?_
          exact ih w1_9 w2_9 w4_9 w5_9 w6_9 (w7_9 + (r3 - w4_9)) r2 (w9_9 + 1) _ hw1_9 h (lv_sub hl [3, 4, 5, 6, 7, 8, 1, 2, 0] rfl)
        · replace h := (if_neg c4).symm.trans h
          refine lv_iload hx hb dX7_ruinYear_52 (lv_at hl 8 rfl) ?_
          exact hret _ _ _ dX7_ruinYear_54 (Option.some.inj h)
  unfold F_X7_ruinYear at h
  refine lv_iconst (v := 0) hx hb dX7_ruinYear_0 (by decide) ?_
  refine lv_istore (lv' := [(7, .int (0 : Int32)), (0, .ref (ad 59)), (1, .ref (ad t1)), (2, .int v2), (3, .int v3), (4, .int v4), (5, .int v5), (6, .int v6)]) hx hb dX7_ruinYear_1 hl (by decide) rfl (fun ls hl => ?_)
  refine lv_iload_n hx hb dX7_ruinYear_3 rfl (lv_at hl 4 rfl) ?_
  refine lv_istore (lv' := [(8, .int v3), (7, .int (0 : Int32)), (0, .ref (ad 59)), (1, .ref (ad t1)), (2, .int v2), (3, .int v3), (4, .int v4), (5, .int v5), (6, .int v6)]) hx hb dX7_ruinYear_4 hl (by decide) rfl (fun ls hl => ?_)
  refine lv_iconst (v := 0) hx hb dX7_ruinYear_6 (by decide) ?_
  refine lv_istore (lv' := [(9, .int (0 : Int32)), (8, .int v3), (7, .int (0 : Int32)), (0, .ref (ad 59)), (1, .ref (ad t1)), (2, .int v2), (3, .int v3), (4, .int v4), (5, .int v5), (6, .int v6)]) hx hb dX7_ruinYear_7 hl (by decide) rfl (fun ls hl => ?_)
  exact loop_9 3000 t1 v2 v4 v5 v6 (0 : Int32) v3 (0 : Int32) _ hT1 h (lv_sub hl [3, 4, 5, 7, 8, 9, 2, 1, 0] rfl)
def F_X7_ruin (I : SI) (J : SJ) (v1 : Int32) (v2 : Int32) (v3 : Int32) (v4 : Int32) (v5 : Int32) (v6 : Int32) : Option (Int32 × SI × SJ) := ((F_X1_termAt 0 I J v1).bind fun r1 => (match r1 with | none => ((F_X7_refuse I J (-1 : Int32)).bind fun (r2, I2, J2) => (some (r2, I2, J2))) | some t1 => ((F_X1_hasPains 0 I J v2).bind fun r3 => (if r3 = 0 then ((F_X7_refuse I J (-1 : Int32)).bind fun (r12, I12, J12) => (some (r12, I12, J12))) else ((F_X7_refusalOfDebts v4 v6).bind fun r5 => ((F_X7_inRange v5 (0 : Int32) (999 : Int32)).bind fun r6 => ((F_X7_first r5 r6).bind fun r7 => (if r7 = 0 then ((F_X4_lay I J (0 : Int32) (0 : Int32) (0 : Int32)).bind fun (I9, J9) => ((F_X7_ruinYear t1 I9 J9 v2 v3 v4 v5 v6).bind fun r10 => (some (r10, I9, J9)))) else ((F_X7_refuse I J r7).bind fun (r11, I11, J11) => (some (r11, I11, J11)))))))))))
set_option maxHeartbeats 4000000 in
set_option maxRecDepth 100000 in
theorem c_X7_ruin (l : Launch) (g : Gx) (ad : Nat → Nat) (I : SI) (J : SJ) (v1 : Int32) (v2 : Int32) (v3 : Int32) (v4 : Int32) (v5 : Int32) (v6 : Int32)  (sz : Nat) {r : Int32} {rI : SI} {rJ : SJ} (h : F_X7_ruin I J v1 v2 v3 v4 v5 v6 = some (r, rI, rJ)) : Met l yX7_ruin (Cond.code yX7_ruin cX7_ruin 9 (some .int) :: BG) (k2_rm 5 124) (PcW [.ref (ad 59), .int v1, .int v2, .int v3, .int v4, .int v5, .int v6] g (xW ad g I J) sz) (QWi r g (xW ad g I J) (xW ad g rI rJ) sz) 0 0 (va_A (xW ad g I J) sz) := by
  refine mkWi (by decide) (Nat.le_of_ble_eq_true rfl) ?_
  intro p e s m args below meth c H locs ls A Q hC hK hP hD hA hS hl hret
  have hx := hC.1
  have hb := hC.2.1
  have hts := hC.2.2.2.2
  have hown := hC.2.2.2.1
  replace hl : lv_has ls 9 [(0, .ref (ad 59)), (1, .int v1), (2, .int v2), (3, .int v3), (4, .int v4), (5, .int v5), (6, .int v6)] := hl
  unfold F_X7_ruin at h
  refine lv_aload_n hx hb dX7_ruin_0 rfl (lv_at hl 0 rfl) ?_
  refine gt_X7_10 hC hK hP dX7_ruin_1 ?_
  refine lv_iload_n hx hb dX7_ruin_4 rfl (lv_at hl 1 rfl) ?_
  obtain ⟨r1, hc1, h⟩ := ob h
  rcases r1 with _ | t1
  · refine callRV (As := [.int v1]) (rest := []) hC (c_X1_termAt l g ad I J 0 v1 (Or.inl rfl) hc1) lk_X7_106 rfl rfl ⟨Nat.le_of_ble_eq_true rfl, Nat.le_of_ble_eq_true rfl⟩ hP hK (xEo (Or.inl rfl)) rfl rfl rfl hl (Nat.le_of_ble_eq_true rfl) dX7_ruin_5 ?_
    refine lv_astoreN (lv' := [(7, .null), (0, .ref (ad 59)), (1, .int v1), (2, .int v2), (3, .int v3), (4, .int v4), (5, .int v5), (6, .int v6)]) hx hb dX7_ruin_8 hl (by decide) rfl (fun ls hl => ?_)
    refine lv_aloadN hx hb dX7_ruin_10 (lv_at hl 0 rfl) ?_
    refine lv_ifnullN (tgt := 26) hx hb dX7_ruin_12 (by decide) ?_
    refine lv_aload_n hx hb dX7_ruin_26 rfl (lv_at hl 1 rfl) ?_
    refine lv_iconst (v := -1) hx hb dX7_ruin_27 (by decide) ?_
    obtain ⟨⟨r2, I2, J2⟩, hc2, h⟩ := ob h
    dsimp only at h
    refine callWVi (As := [.int (-1 : Int32)]) (rest := []) hC (c_X7_refuse l g ad I J (-1 : Int32)  H.size hc2) lk_X7_74 rfl rfl ⟨Nat.le_of_ble_eq_true rfl, Nat.le_of_ble_eq_true rfl⟩ hP hK hD hA hS xo_59 rfl rfl rfl hl (Nat.le_of_ble_eq_true rfl) dX7_ruin_28 (fun H locs hP hD hS => ?_)
    obtain ⟨h1, h⟩ := Prod.mk.inj (Option.some.inj h)
    obtain ⟨rfl, rfl⟩ := Prod.mk.inj h
    exact hret _ _ _ _ _ dX7_ruin_31 h1 hP hD hS
  · have hTt1 : isT t1 := termAt_isT (Or.inl rfl) hc1
    refine callRV (As := [.int v1]) (rest := []) hC (c_X1_termAt l g ad I J 0 v1 (Or.inl rfl) hc1) lk_X7_106 rfl rfl ⟨Nat.le_of_ble_eq_true rfl, Nat.le_of_ble_eq_true rfl⟩ hP hK (xEo (Or.inl rfl)) rfl rfl rfl hl (Nat.le_of_ble_eq_true rfl) dX7_ruin_5 ?_
    refine lv_astore (lv' := [(7, .ref (ad t1)), (0, .ref (ad 59)), (1, .int v1), (2, .int v2), (3, .int v3), (4, .int v4), (5, .int v5), (6, .int v6)]) hx hb dX7_ruin_8 hl (by decide) rfl (fun ls hl => ?_)
    refine lv_aload hx hb dX7_ruin_10 (lv_at hl 0 rfl) ?_
    refine lv_ifnull hx hb dX7_ruin_12 ?_
    refine lv_aload_n hx hb dX7_ruin_15 rfl (lv_at hl 1 rfl) ?_
    refine gt_X7_10 hC hK hP dX7_ruin_16 ?_
    refine lv_iload_n hx hb dX7_ruin_19 rfl (lv_at hl 3 rfl) ?_
    obtain ⟨r3, hc3, h⟩ := ob h
    refine callRV (As := [.int v2]) (rest := []) hC (c_X1_hasPains l g ad I J 0 v2 (Or.inl rfl) hc3) lk_X7_148 rfl rfl ⟨Nat.le_of_ble_eq_true rfl, Nat.le_of_ble_eq_true rfl⟩ hP hK (xEo (Or.inl rfl)) rfl rfl rfl hl (Nat.le_of_ble_eq_true rfl) dX7_ruin_20 ?_
    refine lv_if_ne (tgt := 32) hx hb dX7_ruin_23 (by decide) (fun c4 => ?_) (fun c4 => ?_)
    · replace h := (if_neg c4).symm.trans h
      refine lv_iload hx hb dX7_ruin_32 (lv_at hl 5 rfl) ?_
      refine lv_iload hx hb dX7_ruin_34 (lv_at hl 7 rfl) ?_
      obtain ⟨r5, hc5, h⟩ := ob h
      refine callRS (As := [.int v4, .int v6]) (rest := []) hC (c_X7_refusalOfDebts l g (xW ad g I J) v4 v6 hc5) lk_X7_259 rfl rfl ⟨Nat.le_of_ble_eq_true rfl, Nat.le_of_ble_eq_true rfl⟩ hP hK rfl rfl hl (Nat.le_of_ble_eq_true rfl) dX7_ruin_36 ?_
      refine lv_iload hx hb dX7_ruin_39 (lv_at hl 6 rfl) ?_
      refine lv_iconst (v := 0) hx hb dX7_ruin_41 (by decide) ?_
      refine lv_sipush (v := 999) hx hb dX7_ruin_42 (by decide) ?_
      obtain ⟨r6, hc6, h⟩ := ob h
      refine callRS (As := [.int v5, .int (0 : Int32), .int (999 : Int32)]) (rest := [.int r5]) hC (c_X7_inRange l g (xW ad g I J) v5 (0 : Int32) (999 : Int32) hc6) lk_X7_66 rfl rfl ⟨Nat.le_of_ble_eq_true rfl, Nat.le_of_ble_eq_true rfl⟩ hP hK rfl rfl hl (Nat.le_of_ble_eq_true rfl) dX7_ruin_45 ?_
      obtain ⟨r7, hc7, h⟩ := ob h
      refine callRS (As := [.int r5, .int r6]) (rest := []) hC (c_X7_first l g (xW ad g I J) r5 r6 hc7) lk_X7_161 rfl rfl ⟨Nat.le_of_ble_eq_true rfl, Nat.le_of_ble_eq_true rfl⟩ hP hK rfl rfl hl (Nat.le_of_ble_eq_true rfl) dX7_ruin_48 ?_
      refine lv_istore (lv' := [(8, .int r7), (7, .ref (ad t1)), (0, .ref (ad 59)), (1, .int v1), (2, .int v2), (3, .int v3), (4, .int v4), (5, .int v5), (6, .int v6)]) hx hb dX7_ruin_51 hl (by decide) rfl (fun ls hl => ?_)
      refine lv_iload hx hb dX7_ruin_53 (lv_at hl 0 rfl) ?_
      refine lv_if_eq (tgt := 65) hx hb dX7_ruin_55 (by decide) (fun c8 => ?_) (fun c8 => ?_)
      · replace h := (if_pos c8).symm.trans h
        refine lv_aload_n hx hb dX7_ruin_65 rfl (lv_at hl 2 rfl) ?_
        refine gt_X7_34 hC hK hP dX7_ruin_66 ?_
        refine lv_iconst (v := 0) hx hb dX7_ruin_69 (by decide) ?_
        refine lv_iconst (v := 0) hx hb dX7_ruin_70 (by decide) ?_
        refine lv_iconst (v := 0) hx hb dX7_ruin_71 (by decide) ?_
        obtain ⟨⟨I9, J9⟩, hc9, h⟩ := ob h
        dsimp only at h
        refine callWVv (As := [.int (0 : Int32), .int (0 : Int32), .int (0 : Int32)]) (rest := []) hC (c_X4_lay l g ad I J (0 : Int32) (0 : Int32) (0 : Int32)  H.size hc9) lk_X7_135 rfl rfl ⟨Nat.le_of_ble_eq_true rfl, Nat.le_of_ble_eq_true rfl⟩ hP hK hD hA hS xo_47 rfl rfl rfl hl (Nat.le_of_ble_eq_true rfl) dX7_ruin_72 (fun H locs hP hD hS => ?_)
        refine lv_aload_n hx hb dX7_ruin_75 rfl (lv_at hl 2 rfl) ?_
        refine lv_aload hx hb dX7_ruin_76 (lv_at hl 1 rfl) ?_
        refine lv_iload_n hx hb dX7_ruin_78 rfl (lv_at hl 4 rfl) ?_
        refine lv_iload_n hx hb dX7_ruin_79 rfl (lv_at hl 5 rfl) ?_
        refine lv_iload hx hb dX7_ruin_80 (lv_at hl 6 rfl) ?_
        refine lv_iload hx hb dX7_ruin_82 (lv_at hl 7 rfl) ?_
        refine lv_iload hx hb dX7_ruin_84 (lv_at hl 8 rfl) ?_
        obtain ⟨r10, hc10, h⟩ := ob h
        refine callRV (As := [.ref (ad t1), .int v2, .int v3, .int v4, .int v5, .int v6]) (rest := []) hC (c_X7_ruinYear l g ad I9 J9 t1 v2 v3 v4 v5 v6 hTt1 hc10) lk_X7_262 rfl rfl ⟨Nat.le_of_ble_eq_true rfl, Nat.le_of_ble_eq_true rfl⟩ hP hK xo_59 rfl rfl rfl hl (Nat.le_of_ble_eq_true rfl) dX7_ruin_86 ?_
        obtain ⟨h1, h⟩ := Prod.mk.inj (Option.some.inj h)
        obtain ⟨rfl, rfl⟩ := Prod.mk.inj h
        exact hret _ _ _ _ _ dX7_ruin_89 h1 hP hD hS
      · replace h := (if_neg c8).symm.trans h
        refine lv_aload_n hx hb dX7_ruin_58 rfl (lv_at hl 2 rfl) ?_
        refine lv_iload hx hb dX7_ruin_59 (lv_at hl 0 rfl) ?_
        obtain ⟨⟨r11, I11, J11⟩, hc11, h⟩ := ob h
        dsimp only at h
        refine callWVi (As := [.int r7]) (rest := []) hC (c_X7_refuse l g ad I J r7  H.size hc11) lk_X7_74 rfl rfl ⟨Nat.le_of_ble_eq_true rfl, Nat.le_of_ble_eq_true rfl⟩ hP hK hD hA hS xo_59 rfl rfl rfl hl (Nat.le_of_ble_eq_true rfl) dX7_ruin_61 (fun H locs hP hD hS => ?_)
        obtain ⟨h1, h⟩ := Prod.mk.inj (Option.some.inj h)
        obtain ⟨rfl, rfl⟩ := Prod.mk.inj h
        exact hret _ _ _ _ _ dX7_ruin_64 h1 hP hD hS
    · replace h := (if_pos c4).symm.trans h
      refine lv_aload_n hx hb dX7_ruin_26 rfl (lv_at hl 1 rfl) ?_
      refine lv_iconst (v := -1) hx hb dX7_ruin_27 (by decide) ?_
      obtain ⟨⟨r12, I12, J12⟩, hc12, h⟩ := ob h
      dsimp only at h
      refine callWVi (As := [.int (-1 : Int32)]) (rest := []) hC (c_X7_refuse l g ad I J (-1 : Int32)  H.size hc12) lk_X7_74 rfl rfl ⟨Nat.le_of_ble_eq_true rfl, Nat.le_of_ble_eq_true rfl⟩ hP hK hD hA hS xo_59 rfl rfl rfl hl (Nat.le_of_ble_eq_true rfl) dX7_ruin_28 (fun H locs hP hD hS => ?_)
      obtain ⟨h1, h⟩ := Prod.mk.inj (Option.some.inj h)
      obtain ⟨rfl, rfl⟩ := Prod.mk.inj h
      exact hret _ _ _ _ _ dX7_ruin_31 h1 hP hD hS
