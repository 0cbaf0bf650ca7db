def F_X6_readTerm (t1 : Nat) (I : SI) (J : SJ) : Option (Int32 × SI × SJ) := ((F_X6_here (u2 I 45 2 (0 : Int32)) J).bind fun r1 => ((F_X6_kindOf r1).bind fun r2 => (if r2 < 0 then (some ((0 : Int32), (u2 I 45 2 (0 : Int32)), J)) else (if r2 = 0 then ((F_X6_numberOf (u2 (u2 I 45 2 (0 : Int32)) 45 2 (((u2 I 45 2 (0 : Int32)) 45 2) + (1 : Int32))) J (if (1 : Int32) = 0 then (0 : Int32) else (1 : Int32)) (99 : Int32)).bind fun (r7, I7, J7) => (if 0 ≤ r7 then (if (1 : Int32) = 0 then (if 0 ≤ (0 : Int32) then (if r2 < (3 : Int32) then (if (0 : Int32) < 0 then (some ((I7 45 2), I7, J7)) else (if (I7 45 1) ≤ (I7 45 2) then ((F_X5_become t1 I7 J7 r2 r7 (0 : Int32) (0 : Int32)).bind fun (I14, J14) => (some ((-1 : Int32), I14, J14))) else (some ((I7 45 2), I7, J7)))) else ((F_X6_skip I7 J7 (43 : Int32)).bind fun (r15, I15, J15) => (if r15 = 0 then (if (-1 : Int32) < 0 then (some ((I15 45 2), I15, J15)) else (if (I15 45 1) ≤ (I15 45 2) then ((F_X5_become t1 I15 J15 r2 r7 (0 : Int32) (-1 : Int32)).bind fun (I19, J19) => (some ((-1 : Int32), I19, J19))) else (some ((I15 45 2), I15, J15)))) else ((F_X6_numberOf I15 J15 (0 : Int32) (99 : Int32)).bind fun (r20, I20, J20) => (if r20 < 0 then (some ((I20 45 2), I20, J20)) else (if (I20 45 1) ≤ (I20 45 2) then ((F_X5_become t1 I20 J20 r2 r7 (0 : Int32) r20).bind fun (I23, J23) => (some ((-1 : Int32), I23, J23))) else (some ((I20 45 2), I20, J20)))))))) else (some ((I7 45 2), I7, J7))) else ((F_X6_skip I7 J7 (47 : Int32)).bind fun (r24, I24, J24) => (if r24 = 0 then (if 0 ≤ (-1 : Int32) then (if r2 < (3 : Int32) then (if (0 : Int32) < 0 then (some ((I24 45 2), I24, J24)) else (if (I24 45 1) ≤ (I24 45 2) then ((F_X5_become t1 I24 J24 r2 r7 (-1 : Int32) (0 : Int32)).bind fun (I30, J30) => (some ((-1 : Int32), I30, J30))) else (some ((I24 45 2), I24, J24)))) else ((F_X6_skip I24 J24 (43 : Int32)).bind fun (r31, I31, J31) => (if r31 = 0 then (if (-1 : Int32) < 0 then (some ((I31 45 2), I31, J31)) else (if (I31 45 1) ≤ (I31 45 2) then ((F_X5_become t1 I31 J31 r2 r7 (-1 : Int32) (-1 : Int32)).bind fun (I35, J35) => (some ((-1 : Int32), I35, J35))) else (some ((I31 45 2), I31, J31)))) else ((F_X6_numberOf I31 J31 (0 : Int32) (99 : Int32)).bind fun (r36, I36, J36) => (if r36 < 0 then (some ((I36 45 2), I36, J36)) else (if (I36 45 1) ≤ (I36 45 2) then ((F_X5_become t1 I36 J36 r2 r7 (-1 : Int32) r36).bind fun (I39, J39) => (some ((-1 : Int32), I39, J39))) else (some ((I36 45 2), I36, J36)))))))) else (some ((I24 45 2), I24, J24))) else ((F_X6_numberOf I24 J24 r7 (99 : Int32)).bind fun (r40, I40, J40) => (if 0 ≤ r40 then (if r2 < (3 : Int32) then (if (0 : Int32) < 0 then (some ((I40 45 2), I40, J40)) else (if (I40 45 1) ≤ (I40 45 2) then ((F_X5_become t1 I40 J40 r2 r7 r40 (0 : Int32)).bind fun (I45, J45) => (some ((-1 : Int32), I45, J45))) else (some ((I40 45 2), I40, J40)))) else ((F_X6_skip I40 J40 (43 : Int32)).bind fun (r46, I46, J46) => (if r46 = 0 then (if (-1 : Int32) < 0 then (some ((I46 45 2), I46, J46)) else (if (I46 45 1) ≤ (I46 45 2) then ((F_X5_become t1 I46 J46 r2 r7 r40 (-1 : Int32)).bind fun (I50, J50) => (some ((-1 : Int32), I50, J50))) else (some ((I46 45 2), I46, J46)))) else ((F_X6_numberOf I46 J46 (0 : Int32) (99 : Int32)).bind fun (r51, I51, J51) => (if r51 < 0 then (some ((I51 45 2), I51, J51)) else (if (I51 45 1) ≤ (I51 45 2) then ((F_X5_become t1 I51 J51 r2 r7 r40 r51).bind fun (I54, J54) => (some ((-1 : Int32), I54, J54))) else (some ((I51 45 2), I51, J51)))))))) else (some ((I40 45 2), I40, J40))))))) else (some ((I7 45 2), I7, J7)))) else (if r2 = (3 : Int32) then ((F_X6_numberOf (u2 (u2 I 45 2 (0 : Int32)) 45 2 (((u2 I 45 2 (0 : Int32)) 45 2) + (1 : Int32))) J (if (1 : Int32) = 0 then (0 : Int32) else (1 : Int32)) (99 : Int32)).bind fun (r58, I58, J58) => (if 0 ≤ r58 then (if (1 : Int32) = 0 then (if 0 ≤ (0 : Int32) then (if r2 < (3 : Int32) then (if (0 : Int32) < 0 then (some ((I58 45 2), I58, J58)) else (if (I58 45 1) ≤ (I58 45 2) then ((F_X5_become t1 I58 J58 r2 r58 (0 : Int32) (0 : Int32)).bind fun (I65, J65) => (some ((-1 : Int32), I65, J65))) else (some ((I58 45 2), I58, J58)))) else ((F_X6_skip I58 J58 (43 : Int32)).bind fun (r66, I66, J66) => (if r66 = 0 then (if (-1 : Int32) < 0 then (some ((I66 45 2), I66, J66)) else (if (I66 45 1) ≤ (I66 45 2) then ((F_X5_become t1 I66 J66 r2 r58 (0 : Int32) (-1 : Int32)).bind fun (I70, J70) => (some ((-1 : Int32), I70, J70))) else (some ((I66 45 2), I66, J66)))) else ((F_X6_numberOf I66 J66 (0 : Int32) (99 : Int32)).bind fun (r71, I71, J71) => (if r71 < 0 then (some ((I71 45 2), I71, J71)) else (if (I71 45 1) ≤ (I71 45 2) then ((F_X5_become t1 I71 J71 r2 r58 (0 : Int32) r71).bind fun (I74, J74) => (some ((-1 : Int32), I74, J74))) else (some ((I71 45 2), I71, J71)))))))) else (some ((I58 45 2), I58, J58))) else ((F_X6_skip I58 J58 (47 : Int32)).bind fun (r75, I75, J75) => (if r75 = 0 then (if 0 ≤ (-1 : Int32) then (if r2 < (3 : Int32) then (if (0 : Int32) < 0 then (some ((I75 45 2), I75, J75)) else (if (I75 45 1) ≤ (I75 45 2) then ((F_X5_become t1 I75 J75 r2 r58 (-1 : Int32) (0 : Int32)).bind fun (I81, J81) => (some ((-1 : Int32), I81, J81))) else (some ((I75 45 2), I75, J75)))) else ((F_X6_skip I75 J75 (43 : Int32)).bind fun (r82, I82, J82) => (if r82 = 0 then (if (-1 : Int32) < 0 then (some ((I82 45 2), I82, J82)) else (if (I82 45 1) ≤ (I82 45 2) then ((F_X5_become t1 I82 J82 r2 r58 (-1 : Int32) (-1 : Int32)).bind fun (I86, J86) => (some ((-1 : Int32), I86, J86))) else (some ((I82 45 2), I82, J82)))) else ((F_X6_numberOf I82 J82 (0 : Int32) (99 : Int32)).bind fun (r87, I87, J87) => (if r87 < 0 then (some ((I87 45 2), I87, J87)) else (if (I87 45 1) ≤ (I87 45 2) then ((F_X5_become t1 I87 J87 r2 r58 (-1 : Int32) r87).bind fun (I90, J90) => (some ((-1 : Int32), I90, J90))) else (some ((I87 45 2), I87, J87)))))))) else (some ((I75 45 2), I75, J75))) else ((F_X6_numberOf I75 J75 r58 (99 : Int32)).bind fun (r91, I91, J91) => (if 0 ≤ r91 then (if r2 < (3 : Int32) then (if (0 : Int32) < 0 then (some ((I91 45 2), I91, J91)) else (if (I91 45 1) ≤ (I91 45 2) then ((F_X5_become t1 I91 J91 r2 r58 r91 (0 : Int32)).bind fun (I96, J96) => (some ((-1 : Int32), I96, J96))) else (some ((I91 45 2), I91, J91)))) else ((F_X6_skip I91 J91 (43 : Int32)).bind fun (r97, I97, J97) => (if r97 = 0 then (if (-1 : Int32) < 0 then (some ((I97 45 2), I97, J97)) else (if (I97 45 1) ≤ (I97 45 2) then ((F_X5_become t1 I97 J97 r2 r58 r91 (-1 : Int32)).bind fun (I101, J101) => (some ((-1 : Int32), I101, J101))) else (some ((I97 45 2), I97, J97)))) else ((F_X6_numberOf I97 J97 (0 : Int32) (99 : Int32)).bind fun (r102, I102, J102) => (if r102 < 0 then (some ((I102 45 2), I102, J102)) else (if (I102 45 1) ≤ (I102 45 2) then ((F_X5_become t1 I102 J102 r2 r58 r91 r102).bind fun (I105, J105) => (some ((-1 : Int32), I105, J105))) else (some ((I102 45 2), I102, J102)))))))) else (some ((I91 45 2), I91, J91))))))) else (some ((I58 45 2), I58, J58)))) else ((F_X6_numberOf (u2 (u2 I 45 2 (0 : Int32)) 45 2 (((u2 I 45 2 (0 : Int32)) 45 2) + (1 : Int32))) J (if (if r2 = (4 : Int32) then (1 : Int32) else (0 : Int32)) = 0 then (0 : Int32) else (1 : Int32)) (99 : Int32)).bind fun (r110, I110, J110) => (if 0 ≤ r110 then (if (if r2 = (4 : Int32) then (1 : Int32) else (0 : Int32)) = 0 then (if 0 ≤ (0 : Int32) then (if r2 < (3 : Int32) then (if (0 : Int32) < 0 then (some ((I110 45 2), I110, J110)) else (if (I110 45 1) ≤ (I110 45 2) then ((F_X5_become t1 I110 J110 r2 r110 (0 : Int32) (0 : Int32)).bind fun (I117, J117) => (some ((-1 : Int32), I117, J117))) else (some ((I110 45 2), I110, J110)))) else ((F_X6_skip I110 J110 (43 : Int32)).bind fun (r118, I118, J118) => (if r118 = 0 then (if (-1 : Int32) < 0 then (some ((I118 45 2), I118, J118)) else (if (I118 45 1) ≤ (I118 45 2) then ((F_X5_become t1 I118 J118 r2 r110 (0 : Int32) (-1 : Int32)).bind fun (I122, J122) => (some ((-1 : Int32), I122, J122))) else (some ((I118 45 2), I118, J118)))) else ((F_X6_numberOf I118 J118 (0 : Int32) (99 : Int32)).bind fun (r123, I123, J123) => (if r123 < 0 then (some ((I123 45 2), I123, J123)) else (if (I123 45 1) ≤ (I123 45 2) then ((F_X5_become t1 I123 J123 r2 r110 (0 : Int32) r123).bind fun (I126, J126) => (some ((-1 : Int32), I126, J126))) else (some ((I123 45 2), I123, J123)))))))) else (some ((I110 45 2), I110, J110))) else ((F_X6_skip I110 J110 (47 : Int32)).bind fun (r127, I127, J127) => (if r127 = 0 then (if 0 ≤ (-1 : Int32) then (if r2 < (3 : Int32) then (if (0 : Int32) < 0 then (some ((I127 45 2), I127, J127)) else (if (I127 45 1) ≤ (I127 45 2) then ((F_X5_become t1 I127 J127 r2 r110 (-1 : Int32) (0 : Int32)).bind fun (I133, J133) => (some ((-1 : Int32), I133, J133))) else (some ((I127 45 2), I127, J127)))) else ((F_X6_skip I127 J127 (43 : Int32)).bind fun (r134, I134, J134) => (if r134 = 0 then (if (-1 : Int32) < 0 then (some ((I134 45 2), I134, J134)) else (if (I134 45 1) ≤ (I134 45 2) then ((F_X5_become t1 I134 J134 r2 r110 (-1 : Int32) (-1 : Int32)).bind fun (I138, J138) => (some ((-1 : Int32), I138, J138))) else (some ((I134 45 2), I134, J134)))) else ((F_X6_numberOf I134 J134 (0 : Int32) (99 : Int32)).bind fun (r139, I139, J139) => (if r139 < 0 then (some ((I139 45 2), I139, J139)) else (if (I139 45 1) ≤ (I139 45 2) then ((F_X5_become t1 I139 J139 r2 r110 (-1 : Int32) r139).bind fun (I142, J142) => (some ((-1 : Int32), I142, J142))) else (some ((I139 45 2), I139, J139)))))))) else (some ((I127 45 2), I127, J127))) else ((F_X6_numberOf I127 J127 r110 (99 : Int32)).bind fun (r143, I143, J143) => (if 0 ≤ r143 then (if r2 < (3 : Int32) then (if (0 : Int32) < 0 then (some ((I143 45 2), I143, J143)) else (if (I143 45 1) ≤ (I143 45 2) then ((F_X5_become t1 I143 J143 r2 r110 r143 (0 : Int32)).bind fun (I148, J148) => (some ((-1 : Int32), I148, J148))) else (some ((I143 45 2), I143, J143)))) else ((F_X6_skip I143 J143 (43 : Int32)).bind fun (r149, I149, J149) => (if r149 = 0 then (if (-1 : Int32) < 0 then (some ((I149 45 2), I149, J149)) else (if (I149 45 1) ≤ (I149 45 2) then ((F_X5_become t1 I149 J149 r2 r110 r143 (-1 : Int32)).bind fun (I153, J153) => (some ((-1 : Int32), I153, J153))) else (some ((I149 45 2), I149, J149)))) else ((F_X6_numberOf I149 J149 (0 : Int32) (99 : Int32)).bind fun (r154, I154, J154) => (if r154 < 0 then (some ((I154 45 2), I154, J154)) else (if (I154 45 1) ≤ (I154 45 2) then ((F_X5_become t1 I154 J154 r2 r110 r143 r154).bind fun (I157, J157) => (some ((-1 : Int32), I157, J157))) else (some ((I154 45 2), I154, J154)))))))) else (some ((I143 45 2), I143, J143))))))) else (some ((I110 45 2), I110, J110)))))))))
set_option maxHeartbeats 4000000 in
set_option maxRecDepth 100000 in
theorem c_X6_readTerm (l : Launch) (g : Gx) (ad : Nat → Nat) (I : SI) (J : SJ) (t1 : Nat) (hT1 : isT t1) (sz : Nat) {r : Int32} {rI : SI} {rJ : SJ} (h : F_X6_readTerm t1 I J = some (r, rI, rJ)) : Met l yX6_readTerm (Cond.code yX6_readTerm cX6_readTerm 7 (some .int) :: BG) (k2_rm 4 87) (PcW [.ref (ad 45), .ref (ad t1)] g (xW ad g I J) sz) (QWi r g (xW ad g I J) (xW ad g rI rJ) sz) 0 0 (va_A (xW ad g I J) sz) := by
  refine mkWi (by decide) (Nat.le_of_ble_eq_true rfl) ?_
  intro p e s m args below meth c H locs ls A Q hC hK hP hD hA hS hl hret
  have hx := hC.1
  have hb := hC.2.1
  have hts := hC.2.2.2.2
  have hown := hC.2.2.2.1
  replace hl : lv_has ls 7 [(0, .ref (ad 45)), (1, .ref (ad t1))] := hl
  unfold F_X6_readTerm at h
  refine lv_aload_n hx hb dX6_readTerm_0 rfl (lv_at hl 0 rfl) ?_
  refine lv_iconst (v := 0) hx hb dX6_readTerm_1 (by decide) ?_
  refine pt_X6_25 hC hK hP hD hS dX6_readTerm_2 (fun H locs hP hD hS => ?_)
  refine lv_aload_n hx hb dX6_readTerm_5 rfl (lv_at hl 0 rfl) ?_
  obtain ⟨r1, hc1, h⟩ := ob h
  refine callRV (As := []) (rest := []) hC (c_X6_here l g ad (u2 I 45 2 (0 : Int32)) J   hc1) lk_X6_32 rfl rfl ⟨Nat.le_of_ble_eq_true rfl, Nat.le_of_ble_eq_true rfl⟩ hP hK xo_45 rfl rfl rfl hl (Nat.le_of_ble_eq_true rfl) dX6_readTerm_6 ?_
  obtain ⟨r2, hc2, h⟩ := ob h
  refine callRS (As := [.int r1]) (rest := []) hC (c_X6_kindOf l g (xW ad g (u2 I 45 2 (0 : Int32)) J) r1 hc2) lk_X6_84 rfl rfl ⟨Nat.le_of_ble_eq_true rfl, Nat.le_of_ble_eq_true rfl⟩ hP hK rfl rfl hl (Nat.le_of_ble_eq_true rfl) dX6_readTerm_9 ?_
  refine lv_istore_n (lv' := [(2, .int r2), (0, .ref (ad 45)), (1, .ref (ad t1))]) hx hb dX6_readTerm_12 rfl hl (by decide) rfl (fun ls hl => ?_)
  refine lv_iload_n hx hb dX6_readTerm_13 rfl (lv_at hl 0 rfl) ?_
  refine lv_if_lt (tgt := 21) hx hb dX6_readTerm_14 (by decide) (fun c3 => ?_) (fun c3 => ?_)
  · replace h := (if_pos c3).symm.trans h
    refine lv_iconst (v := 0) hx hb dX6_readTerm_21 (by decide) ?_
    obtain ⟨h1, h⟩ := Prod.mk.inj (Option.some.inj h)
    obtain ⟨rfl, rfl⟩ := Prod.mk.inj h
    exact hret _ _ _ _ _ dX6_readTerm_22 h1 hP hD hS
  · replace h := (if_neg c3).symm.trans h
    refine lv_aload_n hx hb dX6_readTerm_17 rfl (lv_at hl 2 rfl) ?_
    refine lv_ifnonnull (tgt := 23) hx hb dX6_readTerm_18 (by decide) ?_
    refine lv_aload_n hx hb dX6_readTerm_23 rfl (lv_at hl 1 rfl) ?_
    refine lv_dup hx hb dX6_readTerm_24 rfl ?_
    refine gt_X6_25 hC hK hP dX6_readTerm_25 ?_
    refine lv_iconst (v := 1) hx hb dX6_readTerm_28 (by decide) ?_
    refine lv_iadd hx hb dX6_readTerm_29 ?_
    refine pt_X6_25 hC hK hP hD hS dX6_readTerm_30 (fun H locs hP hD hS => ?_)
    refine lv_iload_n hx hb dX6_readTerm_33 rfl (lv_at hl 0 rfl) ?_
    refine lv_if_eq (tgt := 47) hx hb dX6_readTerm_34 (by decide) (fun c4 => ?_) (fun c4 => ?_)
    · replace h := (if_pos c4).symm.trans h
      refine lv_iconst (v := 1) hx hb dX6_readTerm_47 (by decide) ?_
      refine lv_goto (tgt := 52) hx hb dX6_readTerm_48 (by decide) ?_
      refine lv_istore_n (lv' := [(3, .int (1 : Int32)), (2, .int r2), (0, .ref (ad 45)), (1, .ref (ad t1))]) hx hb dX6_readTerm_52 rfl hl (by decide) rfl (fun ls hl => ?_)
      refine lv_aload_n hx hb dX6_readTerm_53 rfl (lv_at hl 2 rfl) ?_
      refine lv_iload_n hx hb dX6_readTerm_54 rfl (lv_at hl 0 rfl) ?_
      refine tern (α := Int32) (cnd := (1 : Int32) = 0) (a := (0 : Int32)) (b := (1 : Int32)) (Wj := fun vj => W p l e (k2_rm 4 87) s m args below meth c H locs 0 0 Q (F0 m 63 ls [.int vj, .ref (ad 45)])) (fun k6a k6b => ?_) ?_
      · refine lv_if_eq (tgt := 62) hx hb dX6_readTerm_55 (by decide) (fun c5 => ?_) (fun c5 => ?_)
        · refine lv_iconst (v := 0) hx hb dX6_readTerm_62 (by decide) ?_
          exact k6a c5
        · refine lv_iconst (v := 1) hx hb dX6_readTerm_58 (by decide) ?_
          refine lv_goto (tgt := 63) hx hb dX6_readTerm_59 (by decide) ?_
          exact k6b c5
      · show W p l e (k2_rm 4 87) s m args below meth c H locs 0 0 Q (F0 m 63 ls [.int (if (1 : Int32) = 0 then (0 : Int32) else (1 : Int32)), .ref (ad 45)])
        refine lv_bipush (v := 99) hx hb dX6_readTerm_63 (by decide) ?_
        obtain ⟨⟨r7, I7, J7⟩, hc7, h⟩ := ob h
        dsimp only at h
        refine callWVi (As := [.int (if (1 : Int32) = 0 then (0 : Int32) else (1 : Int32)), .int (99 : Int32)]) (rest := []) hC (c_X6_numberOf l g ad (u2 (u2 I 45 2 (0 : Int32)) 45 2 (((u2 I 45 2 (0 : Int32)) 45 2) + (1 : Int32))) J (if (1 : Int32) = 0 then (0 : Int32) else (1 : Int32)) (99 : Int32)  H.size hc7) lk_X6_89 rfl rfl ⟨Nat.le_of_ble_eq_true rfl, Nat.le_of_ble_eq_true rfl⟩ hP hK hD hA hS xo_45 rfl rfl rfl hl (Nat.le_of_ble_eq_true rfl) dX6_readTerm_65 (fun H locs hP hD hS => ?_)
        refine lv_istore (lv' := [(4, .int r7), (3, .int (1 : Int32)), (2, .int r2), (0, .ref (ad 45)), (1, .ref (ad t1))]) hx hb dX6_readTerm_68 hl (by decide) rfl (fun ls hl => ?_)
        refine lv_iload hx hb dX6_readTerm_70 (lv_at hl 0 rfl) ?_
        refine lv_if_ge (tgt := 80) hx hb dX6_readTerm_72 (by decide) (fun c8 => ?_) (fun c8 => ?_)
        · replace h := (if_pos c8).symm.trans h
          refine lv_iconst (v := 0) hx hb dX6_readTerm_80 (by decide) ?_
          refine lv_istore (lv' := [(5, .int (0 : Int32)), (4, .int r7), (3, .int (1 : Int32)), (2, .int r2), (0, .ref (ad 45)), (1, .ref (ad t1))]) hx hb dX6_readTerm_81 hl (by decide) rfl (fun ls hl => ?_)
          refine lv_iload_n hx hb dX6_readTerm_83 rfl (lv_at hl 2 rfl) ?_
          refine lv_if_eq (tgt := 110) hx hb dX6_readTerm_84 (by decide) (fun c9 => ?_) (fun c9 => ?_)
          · replace h := (if_pos c9).symm.trans h
            refine lv_iload hx hb dX6_readTerm_110 (lv_at hl 0 rfl) ?_
            refine lv_if_ge (tgt := 120) hx hb dX6_readTerm_112 (by decide) (fun c10 => ?_) (fun c10 => ?_)
            · replace h := (if_pos c10).symm.trans h
              refine lv_iconst (v := 0) hx hb dX6_readTerm_120 (by decide) ?_
              refine lv_istore (lv' := [(6, .int (0 : Int32)), (5, .int (0 : Int32)), (4, .int r7), (3, .int (1 : Int32)), (2, .int r2), (0, .ref (ad 45)), (1, .ref (ad t1))]) hx hb dX6_readTerm_121 hl (by decide) rfl (fun ls hl => ?_)
              refine lv_iload_n hx hb dX6_readTerm_123 rfl (lv_at hl 4 rfl) ?_
              refine lv_iconst (v := 3) hx hb dX6_readTerm_124 (by decide) ?_
              refine lv_icmp_lt (tgt := 150) hx hb dX6_readTerm_125 (by decide) (fun c11 => ?_) (fun c11 => ?_)
              · replace h := (if_pos c11).symm.trans h
                refine lv_iload hx hb dX6_readTerm_150 (lv_at hl 0 rfl) ?_
                refine lv_if_lt (tgt := 166) hx hb dX6_readTerm_152 (by decide) (fun c12 => ?_) (fun c12 => ?_)
                · replace h := (if_pos c12).symm.trans h
                  refine lv_aload_n hx hb dX6_readTerm_166 rfl (lv_at hl 5 rfl) ?_
                  refine gt_X6_25 hC hK hP dX6_readTerm_167 ?_
                  obtain ⟨h1, h⟩ := Prod.mk.inj (Option.some.inj h)
                  obtain ⟨rfl, rfl⟩ := Prod.mk.inj h
                  exact hret _ _ _ _ _ dX6_readTerm_170 h1 hP hD hS
                · replace h := (if_neg c12).symm.trans h
                  refine lv_aload_n hx hb dX6_readTerm_155 rfl (lv_at hl 5 rfl) ?_
                  refine gt_X6_25 hC hK hP dX6_readTerm_156 ?_
                  refine lv_aload_n hx hb dX6_readTerm_159 rfl (lv_at hl 5 rfl) ?_
                  refine gt_X6_13 hC hK hP dX6_readTerm_160 ?_
                  refine lv_icmp_ge (tgt := 171) hx hb dX6_readTerm_163 (by decide) (fun c13 => ?_) (fun c13 => ?_)
                  · replace h := (if_pos c13).symm.trans h
                    refine lv_aload_n hx hb dX6_readTerm_171 rfl (lv_at hl 6 rfl) ?_
                    refine lv_iload_n hx hb dX6_readTerm_172 rfl (lv_at hl 4 rfl) ?_
                    refine lv_iload hx hb dX6_readTerm_173 (lv_at hl 2 rfl) ?_
                    refine lv_iload hx hb dX6_readTerm_175 (lv_at hl 1 rfl) ?_
                    refine lv_iload hx hb dX6_readTerm_177 (lv_at hl 0 rfl) ?_
                    obtain ⟨⟨I14, J14⟩, hc14, h⟩ := ob h
                    dsimp only at h
                    refine callWVv (As := [.int r2, .int r7, .int (0 : Int32), .int (0 : Int32)]) (rest := []) hC (c_X5_become l g ad I7 J7 t1 r2 r7 (0 : Int32) (0 : Int32) hT1 H.size hc14) lk_X6_92 rfl rfl ⟨Nat.le_of_ble_eq_true rfl, Nat.le_of_ble_eq_true rfl⟩ hP hK hD hA hS (xTo hT1) rfl rfl rfl hl (Nat.le_of_ble_eq_true rfl) dX6_readTerm_179 (fun H locs hP hD hS => ?_)
                    refine lv_iconst (v := -1) hx hb dX6_readTerm_182 (by decide) ?_
                    obtain ⟨h1, h⟩ := Prod.mk.inj (Option.some.inj h)
                    obtain ⟨rfl, rfl⟩ := Prod.mk.inj h
                    exact hret _ _ _ _ _ dX6_readTerm_183 h1 hP hD hS
                  · replace h := (if_neg c13).symm.trans h
                    refine lv_aload_n hx hb dX6_readTerm_166 rfl (lv_at hl 5 rfl) ?_
                    refine gt_X6_25 hC hK hP dX6_readTerm_167 ?_
                    obtain ⟨h1, h⟩ := Prod.mk.inj (Option.some.inj h)
                    obtain ⟨rfl, rfl⟩ := Prod.mk.inj h
                    exact hret _ _ _ _ _ dX6_readTerm_170 h1 hP hD hS
              · replace h := (if_neg c11).symm.trans h
                refine lv_aload_n hx hb dX6_readTerm_128 rfl (lv_at hl 5 rfl) ?_
                refine lv_bipush (v := 43) hx hb dX6_readTerm_129 (by decide) ?_
                obtain ⟨⟨r15, I15, J15⟩, hc15, h⟩ := ob h
                dsimp only at h
                refine callWVi (As := [.int (43 : Int32)]) (rest := []) hC (c_X6_skip l g ad I7 J7 (43 : Int32)  H.size hc15) lk_X6_60 rfl rfl ⟨Nat.le_of_ble_eq_true rfl, Nat.le_of_ble_eq_true rfl⟩ hP hK hD hA hS xo_45 rfl rfl rfl hl (Nat.le_of_ble_eq_true rfl) dX6_readTerm_131 (fun H locs hP hD hS => ?_)
                refine lv_if_eq (tgt := 147) hx hb dX6_readTerm_134 (by decide) (fun c16 => ?_) (fun c16 => ?_)
                · replace h := (if_pos c16).symm.trans h
                  refine lv_iconst (v := -1) hx hb dX6_readTerm_147 (by decide) ?_
                  refine lv_istore (lv' := [(6, .int (-1 : Int32)), (5, .int (0 : Int32)), (4, .int r7), (3, .int (1 : Int32)), (2, .int r2), (0, .ref (ad 45)), (1, .ref (ad t1))]) hx hb dX6_readTerm_148 hl (by decide) rfl (fun ls hl => ?_)
                  refine lv_iload hx hb dX6_readTerm_150 (lv_at hl 0 rfl) ?_
                  refine lv_if_lt (tgt := 166) hx hb dX6_readTerm_152 (by decide) (fun c17 => ?_) (fun c17 => ?_)
                  · replace h := (if_pos c17).symm.trans h
                    refine lv_aload_n hx hb dX6_readTerm_166 rfl (lv_at hl 5 rfl) ?_
                    refine gt_X6_25 hC hK hP dX6_readTerm_167 ?_
                    obtain ⟨h1, h⟩ := Prod.mk.inj (Option.some.inj h)
                    obtain ⟨rfl, rfl⟩ := Prod.mk.inj h
                    exact hret _ _ _ _ _ dX6_readTerm_170 h1 hP hD hS
                  · replace h := (if_neg c17).symm.trans h
                    refine lv_aload_n hx hb dX6_readTerm_155 rfl (lv_at hl 5 rfl) ?_
                    refine gt_X6_25 hC hK hP dX6_readTerm_156 ?_
                    refine lv_aload_n hx hb dX6_readTerm_159 rfl (lv_at hl 5 rfl) ?_
                    refine gt_X6_13 hC hK hP dX6_readTerm_160 ?_
                    refine lv_icmp_ge (tgt := 171) hx hb dX6_readTerm_163 (by decide) (fun c18 => ?_) (fun c18 => ?_)
                    · replace h := (if_pos c18).symm.trans h
                      refine lv_aload_n hx hb dX6_readTerm_171 rfl (lv_at hl 6 rfl) ?_
                      refine lv_iload_n hx hb dX6_readTerm_172 rfl (lv_at hl 4 rfl) ?_
                      refine lv_iload hx hb dX6_readTerm_173 (lv_at hl 2 rfl) ?_
                      refine lv_iload hx hb dX6_readTerm_175 (lv_at hl 1 rfl) ?_
                      refine lv_iload hx hb dX6_readTerm_177 (lv_at hl 0 rfl) ?_
                      obtain ⟨⟨I19, J19⟩, hc19, h⟩ := ob h
                      dsimp only at h
                      refine callWVv (As := [.int r2, .int r7, .int (0 : Int32), .int (-1 : Int32)]) (rest := []) hC (c_X5_become l g ad I15 J15 t1 r2 r7 (0 : Int32) (-1 : Int32) hT1 H.size hc19) lk_X6_92 rfl rfl ⟨Nat.le_of_ble_eq_true rfl, Nat.le_of_ble_eq_true rfl⟩ hP hK hD hA hS (xTo hT1) rfl rfl rfl hl (Nat.le_of_ble_eq_true rfl) dX6_readTerm_179 (fun H locs hP hD hS => ?_)
                      refine lv_iconst (v := -1) hx hb dX6_readTerm_182 (by decide) ?_
                      obtain ⟨h1, h⟩ := Prod.mk.inj (Option.some.inj h)
                      obtain ⟨rfl, rfl⟩ := Prod.mk.inj h
                      exact hret _ _ _ _ _ dX6_readTerm_183 h1 hP hD hS
                    · replace h := (if_neg c18).symm.trans h
                      refine lv_aload_n hx hb dX6_readTerm_166 rfl (lv_at hl 5 rfl) ?_
                      refine gt_X6_25 hC hK hP dX6_readTerm_167 ?_
                      obtain ⟨h1, h⟩ := Prod.mk.inj (Option.some.inj h)
                      obtain ⟨rfl, rfl⟩ := Prod.mk.inj h
                      exact hret _ _ _ _ _ dX6_readTerm_170 h1 hP hD hS
                · replace h := (if_neg c16).symm.trans h
                  refine lv_aload_n hx hb dX6_readTerm_137 rfl (lv_at hl 5 rfl) ?_
                  refine lv_iconst (v := 0) hx hb dX6_readTerm_138 (by decide) ?_
                  refine lv_bipush (v := 99) hx hb dX6_readTerm_139 (by decide) ?_
                  obtain ⟨⟨r20, I20, J20⟩, hc20, h⟩ := ob h
                  dsimp only at h
                  refine callWVi (As := [.int (0 : Int32), .int (99 : Int32)]) (rest := []) hC (c_X6_numberOf l g ad I15 J15 (0 : Int32) (99 : Int32)  H.size hc20) lk_X6_89 rfl rfl ⟨Nat.le_of_ble_eq_true rfl, Nat.le_of_ble_eq_true rfl⟩ hP hK hD hA hS xo_45 rfl rfl rfl hl (Nat.le_of_ble_eq_true rfl) dX6_readTerm_141 (fun H locs hP hD hS => ?_)
                  refine lv_goto (tgt := 148) hx hb dX6_readTerm_144 (by decide) ?_
                  refine lv_istore (lv' := [(6, .int r20), (5, .int (0 : Int32)), (4, .int r7), (3, .int (1 : Int32)), (2, .int r2), (0, .ref (ad 45)), (1, .ref (ad t1))]) hx hb dX6_readTerm_148 hl (by decide) rfl (fun ls hl => ?_)
                  refine lv_iload hx hb dX6_readTerm_150 (lv_at hl 0 rfl) ?_
                  refine lv_if_lt (tgt := 166) hx hb dX6_readTerm_152 (by decide) (fun c21 => ?_) (fun c21 => ?_)
                  · replace h := (if_pos c21).symm.trans h
                    refine lv_aload_n hx hb dX6_readTerm_166 rfl (lv_at hl 5 rfl) ?_
                    refine gt_X6_25 hC hK hP dX6_readTerm_167 ?_
                    obtain ⟨h1, h⟩ := Prod.mk.inj (Option.some.inj h)
                    obtain ⟨rfl, rfl⟩ := Prod.mk.inj h
                    exact hret _ _ _ _ _ dX6_readTerm_170 h1 hP hD hS
                  · replace h := (if_neg c21).symm.trans h
                    refine lv_aload_n hx hb dX6_readTerm_155 rfl (lv_at hl 5 rfl) ?_
                    refine gt_X6_25 hC hK hP dX6_readTerm_156 ?_
                    refine lv_aload_n hx hb dX6_readTerm_159 rfl (lv_at hl 5 rfl) ?_
                    refine gt_X6_13 hC hK hP dX6_readTerm_160 ?_
                    refine lv_icmp_ge (tgt := 171) hx hb dX6_readTerm_163 (by decide) (fun c22 => ?_) (fun c22 => ?_)
                    · replace h := (if_pos c22).symm.trans h
                      refine lv_aload_n hx hb dX6_readTerm_171 rfl (lv_at hl 6 rfl) ?_
                      refine lv_iload_n hx hb dX6_readTerm_172 rfl (lv_at hl 4 rfl) ?_
                      refine lv_iload hx hb dX6_readTerm_173 (lv_at hl 2 rfl) ?_
                      refine lv_iload hx hb dX6_readTerm_175 (lv_at hl 1 rfl) ?_
                      refine lv_iload hx hb dX6_readTerm_177 (lv_at hl 0 rfl) ?_
                      obtain ⟨⟨I23, J23⟩, hc23, h⟩ := ob h
                      dsimp only at h
                      refine callWVv (As := [.int r2, .int r7, .int (0 : Int32), .int r20]) (rest := []) hC (c_X5_become l g ad I20 J20 t1 r2 r7 (0 : Int32) r20 hT1 H.size hc23) lk_X6_92 rfl rfl ⟨Nat.le_of_ble_eq_true rfl, Nat.le_of_ble_eq_true rfl⟩ hP hK hD hA hS (xTo hT1) rfl rfl rfl hl (Nat.le_of_ble_eq_true rfl) dX6_readTerm_179 (fun H locs hP hD hS => ?_)
                      refine lv_iconst (v := -1) hx hb dX6_readTerm_182 (by decide) ?_
                      obtain ⟨h1, h⟩ := Prod.mk.inj (Option.some.inj h)
                      obtain ⟨rfl, rfl⟩ := Prod.mk.inj h
                      exact hret _ _ _ _ _ dX6_readTerm_183 h1 hP hD hS
                    · replace h := (if_neg c22).symm.trans h
                      refine lv_aload_n hx hb dX6_readTerm_166 rfl (lv_at hl 5 rfl) ?_
                      refine gt_X6_25 hC hK hP dX6_readTerm_167 ?_
                      obtain ⟨h1, h⟩ := Prod.mk.inj (Option.some.inj h)
                      obtain ⟨rfl, rfl⟩ := Prod.mk.inj h
                      exact hret _ _ _ _ _ dX6_readTerm_170 h1 hP hD hS
            · replace h := (if_neg c10).symm.trans h
              refine lv_aload_n hx hb dX6_readTerm_115 rfl (lv_at hl 4 rfl) ?_
              refine gt_X6_25 hC hK hP dX6_readTerm_116 ?_
              obtain ⟨h1, h⟩ := Prod.mk.inj (Option.some.inj h)
              obtain ⟨rfl, rfl⟩ := Prod.mk.inj h
              exact hret _ _ _ _ _ dX6_readTerm_119 h1 hP hD hS
          · replace h := (if_neg c9).symm.trans h
            refine lv_aload_n hx hb dX6_readTerm_87 rfl (lv_at hl 4 rfl) ?_
            refine lv_bipush (v := 47) hx hb dX6_readTerm_88 (by decide) ?_
            obtain ⟨⟨r24, I24, J24⟩, hc24, h⟩ := ob h
            dsimp only at h
            refine callWVi (As := [.int (47 : Int32)]) (rest := []) hC (c_X6_skip l g ad I7 J7 (47 : Int32)  H.size hc24) lk_X6_60 rfl rfl ⟨Nat.le_of_ble_eq_true rfl, Nat.le_of_ble_eq_true rfl⟩ hP hK hD hA hS xo_45 rfl rfl rfl hl (Nat.le_of_ble_eq_true rfl) dX6_readTerm_90 (fun H locs hP hD hS => ?_)
            refine lv_if_eq (tgt := 107) hx hb dX6_readTerm_93 (by decide) (fun c25 => ?_) (fun c25 => ?_)
            · replace h := (if_pos c25).symm.trans h
              refine lv_iconst (v := -1) hx hb dX6_readTerm_107 (by decide) ?_
              refine lv_istore (lv' := [(5, .int (-1 : Int32)), (4, .int r7), (3, .int (1 : Int32)), (2, .int r2), (0, .ref (ad 45)), (1, .ref (ad t1))]) hx hb dX6_readTerm_108 hl (by decide) rfl (fun ls hl => ?_)
              refine lv_iload hx hb dX6_readTerm_110 (lv_at hl 0 rfl) ?_
              refine lv_if_ge (tgt := 120) hx hb dX6_readTerm_112 (by decide) (fun c26 => ?_) (fun c26 => ?_)
              · replace h := (if_pos c26).symm.trans h
                refine lv_iconst (v := 0) hx hb dX6_readTerm_120 (by decide) ?_
                refine lv_istore (lv' := [(6, .int (0 : Int32)), (5, .int (-1 : Int32)), (4, .int r7), (3, .int (1 : Int32)), (2, .int r2), (0, .ref (ad 45)), (1, .ref (ad t1))]) hx hb dX6_readTerm_121 hl (by decide) rfl (fun ls hl => ?_)
                refine lv_iload_n hx hb dX6_readTerm_123 rfl (lv_at hl 4 rfl) ?_
                refine lv_iconst (v := 3) hx hb dX6_readTerm_124 (by decide) ?_
                refine lv_icmp_lt (tgt := 150) hx hb dX6_readTerm_125 (by decide) (fun c27 => ?_) (fun c27 => ?_)
                · replace h := (if_pos c27).symm.trans h
                  refine lv_iload hx hb dX6_readTerm_150 (lv_at hl 0 rfl) ?_
                  refine lv_if_lt (tgt := 166) hx hb dX6_readTerm_152 (by decide) (fun c28 => ?_) (fun c28 => ?_)
                  · replace h := (if_pos c28).symm.trans h
                    refine lv_aload_n hx hb dX6_readTerm_166 rfl (lv_at hl 5 rfl) ?_
                    refine gt_X6_25 hC hK hP dX6_readTerm_167 ?_
                    obtain ⟨h1, h⟩ := Prod.mk.inj (Option.some.inj h)
                    obtain ⟨rfl, rfl⟩ := Prod.mk.inj h
                    exact hret _ _ _ _ _ dX6_readTerm_170 h1 hP hD hS
                  · replace h := (if_neg c28).symm.trans h
                    refine lv_aload_n hx hb dX6_readTerm_155 rfl (lv_at hl 5 rfl) ?_
                    refine gt_X6_25 hC hK hP dX6_readTerm_156 ?_
                    refine lv_aload_n hx hb dX6_readTerm_159 rfl (lv_at hl 5 rfl) ?_
                    refine gt_X6_13 hC hK hP dX6_readTerm_160 ?_
                    refine lv_icmp_ge (tgt := 171) hx hb dX6_readTerm_163 (by decide) (fun c29 => ?_) (fun c29 => ?_)
                    · replace h := (if_pos c29).symm.trans h
                      refine lv_aload_n hx hb dX6_readTerm_171 rfl (lv_at hl 6 rfl) ?_
                      refine lv_iload_n hx hb dX6_readTerm_172 rfl (lv_at hl 4 rfl) ?_
                      refine lv_iload hx hb dX6_readTerm_173 (lv_at hl 2 rfl) ?_
                      refine lv_iload hx hb dX6_readTerm_175 (lv_at hl 1 rfl) ?_
                      refine lv_iload hx hb dX6_readTerm_177 (lv_at hl 0 rfl) ?_
                      obtain ⟨⟨I30, J30⟩, hc30, h⟩ := ob h
                      dsimp only at h
                      refine callWVv (As := [.int r2, .int r7, .int (-1 : Int32), .int (0 : Int32)]) (rest := []) hC (c_X5_become l g ad I24 J24 t1 r2 r7 (-1 : Int32) (0 : Int32) hT1 H.size hc30) lk_X6_92 rfl rfl ⟨Nat.le_of_ble_eq_true rfl, Nat.le_of_ble_eq_true rfl⟩ hP hK hD hA hS (xTo hT1) rfl rfl rfl hl (Nat.le_of_ble_eq_true rfl) dX6_readTerm_179 (fun H locs hP hD hS => ?_)
                      refine lv_iconst (v := -1) hx hb dX6_readTerm_182 (by decide) ?_
                      obtain ⟨h1, h⟩ := Prod.mk.inj (Option.some.inj h)
                      obtain ⟨rfl, rfl⟩ := Prod.mk.inj h
                      exact hret _ _ _ _ _ dX6_readTerm_183 h1 hP hD hS
                    · replace h := (if_neg c29).symm.trans h
                      refine lv_aload_n hx hb dX6_readTerm_166 rfl (lv_at hl 5 rfl) ?_
                      refine gt_X6_25 hC hK hP dX6_readTerm_167 ?_
                      obtain ⟨h1, h⟩ := Prod.mk.inj (Option.some.inj h)
                      obtain ⟨rfl, rfl⟩ := Prod.mk.inj h
                      exact hret _ _ _ _ _ dX6_readTerm_170 h1 hP hD hS
                · replace h := (if_neg c27).symm.trans h
                  refine lv_aload_n hx hb dX6_readTerm_128 rfl (lv_at hl 5 rfl) ?_
                  refine lv_bipush (v := 43) hx hb dX6_readTerm_129 (by decide) ?_
                  obtain ⟨⟨r31, I31, J31⟩, hc31, h⟩ := ob h
                  dsimp only at h
                  refine callWVi (As := [.int (43 : Int32)]) (rest := []) hC (c_X6_skip l g ad I24 J24 (43 : Int32)  H.size hc31) lk_X6_60 rfl rfl ⟨Nat.le_of_ble_eq_true rfl, Nat.le_of_ble_eq_true rfl⟩ hP hK hD hA hS xo_45 rfl rfl rfl hl (Nat.le_of_ble_eq_true rfl) dX6_readTerm_131 (fun H locs hP hD hS => ?_)
                  refine lv_if_eq (tgt := 147) hx hb dX6_readTerm_134 (by decide) (fun c32 => ?_) (fun c32 => ?_)
                  · replace h := (if_pos c32).symm.trans h
                    refine lv_iconst (v := -1) hx hb dX6_readTerm_147 (by decide) ?_
                    refine lv_istore (lv' := [(6, .int (-1 : Int32)), (5, .int (-1 : Int32)), (4, .int r7), (3, .int (1 : Int32)), (2, .int r2), (0, .ref (ad 45)), (1, .ref (ad t1))]) hx hb dX6_readTerm_148 hl (by decide) rfl (fun ls hl => ?_)
                    refine lv_iload hx hb dX6_readTerm_150 (lv_at hl 0 rfl) ?_
                    refine lv_if_lt (tgt := 166) hx hb dX6_readTerm_152 (by decide) (fun c33 => ?_) (fun c33 => ?_)
                    · replace h := (if_pos c33).symm.trans h
                      refine lv_aload_n hx hb dX6_readTerm_166 rfl (lv_at hl 5 rfl) ?_
                      refine gt_X6_25 hC hK hP dX6_readTerm_167 ?_
                      obtain ⟨h1, h⟩ := Prod.mk.inj (Option.some.inj h)
                      obtain ⟨rfl, rfl⟩ := Prod.mk.inj h
                      exact hret _ _ _ _ _ dX6_readTerm_170 h1 hP hD hS
                    · replace h := (if_neg c33).symm.trans h
                      refine lv_aload_n hx hb dX6_readTerm_155 rfl (lv_at hl 5 rfl) ?_
                      refine gt_X6_25 hC hK hP dX6_readTerm_156 ?_
                      refine lv_aload_n hx hb dX6_readTerm_159 rfl (lv_at hl 5 rfl) ?_
                      refine gt_X6_13 hC hK hP dX6_readTerm_160 ?_
                      refine lv_icmp_ge (tgt := 171) hx hb dX6_readTerm_163 (by decide) (fun c34 => ?_) (fun c34 => ?_)
                      · replace h := (if_pos c34).symm.trans h
                        refine lv_aload_n hx hb dX6_readTerm_171 rfl (lv_at hl 6 rfl) ?_
                        refine lv_iload_n hx hb dX6_readTerm_172 rfl (lv_at hl 4 rfl) ?_
                        refine lv_iload hx hb dX6_readTerm_173 (lv_at hl 2 rfl) ?_
                        refine lv_iload hx hb dX6_readTerm_175 (lv_at hl 1 rfl) ?_
                        refine lv_iload hx hb dX6_readTerm_177 (lv_at hl 0 rfl) ?_
                        obtain ⟨⟨I35, J35⟩, hc35, h⟩ := ob h
                        dsimp only at h
                        refine callWVv (As := [.int r2, .int r7, .int (-1 : Int32), .int (-1 : Int32)]) (rest := []) hC (c_X5_become l g ad I31 J31 t1 r2 r7 (-1 : Int32) (-1 : Int32) hT1 H.size hc35) lk_X6_92 rfl rfl ⟨Nat.le_of_ble_eq_true rfl, Nat.le_of_ble_eq_true rfl⟩ hP hK hD hA hS (xTo hT1) rfl rfl rfl hl (Nat.le_of_ble_eq_true rfl) dX6_readTerm_179 (fun H locs hP hD hS => ?_)
                        refine lv_iconst (v := -1) hx hb dX6_readTerm_182 (by decide) ?_
                        obtain ⟨h1, h⟩ := Prod.mk.inj (Option.some.inj h)
                        obtain ⟨rfl, rfl⟩ := Prod.mk.inj h
                        exact hret _ _ _ _ _ dX6_readTerm_183 h1 hP hD hS
                      · replace h := (if_neg c34).symm.trans h
                        refine lv_aload_n hx hb dX6_readTerm_166 rfl (lv_at hl 5 rfl) ?_
                        refine gt_X6_25 hC hK hP dX6_readTerm_167 ?_
                        obtain ⟨h1, h⟩ := Prod.mk.inj (Option.some.inj h)
                        obtain ⟨rfl, rfl⟩ := Prod.mk.inj h
                        exact hret _ _ _ _ _ dX6_readTerm_170 h1 hP hD hS
                  · replace h := (if_neg c32).symm.trans h
                    refine lv_aload_n hx hb dX6_readTerm_137 rfl (lv_at hl 5 rfl) ?_
                    refine lv_iconst (v := 0) hx hb dX6_readTerm_138 (by decide) ?_
                    refine lv_bipush (v := 99) hx hb dX6_readTerm_139 (by decide) ?_
                    obtain ⟨⟨r36, I36, J36⟩, hc36, h⟩ := ob h
                    dsimp only at h
                    refine callWVi (As := [.int (0 : Int32), .int (99 : Int32)]) (rest := []) hC (c_X6_numberOf l g ad I31 J31 (0 : Int32) (99 : Int32)  H.size hc36) lk_X6_89 rfl rfl ⟨Nat.le_of_ble_eq_true rfl, Nat.le_of_ble_eq_true rfl⟩ hP hK hD hA hS xo_45 rfl rfl rfl hl (Nat.le_of_ble_eq_true rfl) dX6_readTerm_141 (fun H locs hP hD hS => ?_)
                    refine lv_goto (tgt := 148) hx hb dX6_readTerm_144 (by decide) ?_
                    refine lv_istore (lv' := [(6, .int r36), (5, .int (-1 : Int32)), (4, .int r7), (3, .int (1 : Int32)), (2, .int r2), (0, .ref (ad 45)), (1, .ref (ad t1))]) hx hb dX6_readTerm_148 hl (by decide) rfl (fun ls hl => ?_)
                    refine lv_iload hx hb dX6_readTerm_150 (lv_at hl 0 rfl) ?_
                    refine lv_if_lt (tgt := 166) hx hb dX6_readTerm_152 (by decide) (fun c37 => ?_) (fun c37 => ?_)
                    · replace h := (if_pos c37).symm.trans h
                      refine lv_aload_n hx hb dX6_readTerm_166 rfl (lv_at hl 5 rfl) ?_
                      refine gt_X6_25 hC hK hP dX6_readTerm_167 ?_
                      obtain ⟨h1, h⟩ := Prod.mk.inj (Option.some.inj h)
                      obtain ⟨rfl, rfl⟩ := Prod.mk.inj h
                      exact hret _ _ _ _ _ dX6_readTerm_170 h1 hP hD hS
                    · replace h := (if_neg c37).symm.trans h
                      refine lv_aload_n hx hb dX6_readTerm_155 rfl (lv_at hl 5 rfl) ?_
                      refine gt_X6_25 hC hK hP dX6_readTerm_156 ?_
                      refine lv_aload_n hx hb dX6_readTerm_159 rfl (lv_at hl 5 rfl) ?_
                      refine gt_X6_13 hC hK hP dX6_readTerm_160 ?_
                      refine lv_icmp_ge (tgt := 171) hx hb dX6_readTerm_163 (by decide) (fun c38 => ?_) (fun c38 => ?_)
                      · replace h := (if_pos c38).symm.trans h
                        refine lv_aload_n hx hb dX6_readTerm_171 rfl (lv_at hl 6 rfl) ?_
                        refine lv_iload_n hx hb dX6_readTerm_172 rfl (lv_at hl 4 rfl) ?_
                        refine lv_iload hx hb dX6_readTerm_173 (lv_at hl 2 rfl) ?_
                        refine lv_iload hx hb dX6_readTerm_175 (lv_at hl 1 rfl) ?_
                        refine lv_iload hx hb dX6_readTerm_177 (lv_at hl 0 rfl) ?_
                        obtain ⟨⟨I39, J39⟩, hc39, h⟩ := ob h
                        dsimp only at h
                        refine callWVv (As := [.int r2, .int r7, .int (-1 : Int32), .int r36]) (rest := []) hC (c_X5_become l g ad I36 J36 t1 r2 r7 (-1 : Int32) r36 hT1 H.size hc39) lk_X6_92 rfl rfl ⟨Nat.le_of_ble_eq_true rfl, Nat.le_of_ble_eq_true rfl⟩ hP hK hD hA hS (xTo hT1) rfl rfl rfl hl (Nat.le_of_ble_eq_true rfl) dX6_readTerm_179 (fun H locs hP hD hS => ?_)
                        refine lv_iconst (v := -1) hx hb dX6_readTerm_182 (by decide) ?_
                        obtain ⟨h1, h⟩ := Prod.mk.inj (Option.some.inj h)
                        obtain ⟨rfl, rfl⟩ := Prod.mk.inj h
                        exact hret _ _ _ _ _ dX6_readTerm_183 h1 hP hD hS
                      · replace h := (if_neg c38).symm.trans h
                        refine lv_aload_n hx hb dX6_readTerm_166 rfl (lv_at hl 5 rfl) ?_
                        refine gt_X6_25 hC hK hP dX6_readTerm_167 ?_
                        obtain ⟨h1, h⟩ := Prod.mk.inj (Option.some.inj h)
                        obtain ⟨rfl, rfl⟩ := Prod.mk.inj h
                        exact hret _ _ _ _ _ dX6_readTerm_170 h1 hP hD hS
              · replace h := (if_neg c26).symm.trans h
                refine lv_aload_n hx hb dX6_readTerm_115 rfl (lv_at hl 4 rfl) ?_
                refine gt_X6_25 hC hK hP dX6_readTerm_116 ?_
                obtain ⟨h1, h⟩ := Prod.mk.inj (Option.some.inj h)
                obtain ⟨rfl, rfl⟩ := Prod.mk.inj h
                exact hret _ _ _ _ _ dX6_readTerm_119 h1 hP hD hS
            · replace h := (if_neg c25).symm.trans h
              refine lv_aload_n hx hb dX6_readTerm_96 rfl (lv_at hl 4 rfl) ?_
              refine lv_iload hx hb dX6_readTerm_97 (lv_at hl 1 rfl) ?_
              refine lv_bipush (v := 99) hx hb dX6_readTerm_99 (by decide) ?_
              obtain ⟨⟨r40, I40, J40⟩, hc40, h⟩ := ob h
              dsimp only at h
              refine callWVi (As := [.int r7, .int (99 : Int32)]) (rest := []) hC (c_X6_numberOf l g ad I24 J24 r7 (99 : Int32)  H.size hc40) lk_X6_89 rfl rfl ⟨Nat.le_of_ble_eq_true rfl, Nat.le_of_ble_eq_true rfl⟩ hP hK hD hA hS xo_45 rfl rfl rfl hl (Nat.le_of_ble_eq_true rfl) dX6_readTerm_101 (fun H locs hP hD hS => ?_)
              refine lv_goto (tgt := 108) hx hb dX6_readTerm_104 (by decide) ?_
              refine lv_istore (lv' := [(5, .int r40), (4, .int r7), (3, .int (1 : Int32)), (2, .int r2), (0, .ref (ad 45)), (1, .ref (ad t1))]) hx hb dX6_readTerm_108 hl (by decide) rfl (fun ls hl => ?_)
              refine lv_iload hx hb dX6_readTerm_110 (lv_at hl 0 rfl) ?_
              refine lv_if_ge (tgt := 120) hx hb dX6_readTerm_112 (by decide) (fun c41 => ?_) (fun c41 => ?_)
              · replace h := (if_pos c41).symm.trans h
                refine lv_iconst (v := 0) hx hb dX6_readTerm_120 (by decide) ?_
                refine lv_istore (lv' := [(6, .int (0 : Int32)), (5, .int r40), (4, .int r7), (3, .int (1 : Int32)), (2, .int r2), (0, .ref (ad 45)), (1, .ref (ad t1))]) hx hb dX6_readTerm_121 hl (by decide) rfl (fun ls hl => ?_)
                refine lv_iload_n hx hb dX6_readTerm_123 rfl (lv_at hl 4 rfl) ?_
                refine lv_iconst (v := 3) hx hb dX6_readTerm_124 (by decide) ?_
                refine lv_icmp_lt (tgt := 150) hx hb dX6_readTerm_125 (by decide) (fun c42 => ?_) (fun c42 => ?_)
                · replace h := (if_pos c42).symm.trans h
                  refine lv_iload hx hb dX6_readTerm_150 (lv_at hl 0 rfl) ?_
                  refine lv_if_lt (tgt := 166) hx hb dX6_readTerm_152 (by decide) (fun c43 => ?_) (fun c43 => ?_)
                  · replace h := (if_pos c43).symm.trans h
                    refine lv_aload_n hx hb dX6_readTerm_166 rfl (lv_at hl 5 rfl) ?_
                    refine gt_X6_25 hC hK hP dX6_readTerm_167 ?_
                    obtain ⟨h1, h⟩ := Prod.mk.inj (Option.some.inj h)
                    obtain ⟨rfl, rfl⟩ := Prod.mk.inj h
                    exact hret _ _ _ _ _ dX6_readTerm_170 h1 hP hD hS
                  · replace h := (if_neg c43).symm.trans h
                    refine lv_aload_n hx hb dX6_readTerm_155 rfl (lv_at hl 5 rfl) ?_
                    refine gt_X6_25 hC hK hP dX6_readTerm_156 ?_
                    refine lv_aload_n hx hb dX6_readTerm_159 rfl (lv_at hl 5 rfl) ?_
                    refine gt_X6_13 hC hK hP dX6_readTerm_160 ?_
                    refine lv_icmp_ge (tgt := 171) hx hb dX6_readTerm_163 (by decide) (fun c44 => ?_) (fun c44 => ?_)
                    · replace h := (if_pos c44).symm.trans h
                      refine lv_aload_n hx hb dX6_readTerm_171 rfl (lv_at hl 6 rfl) ?_
                      refine lv_iload_n hx hb dX6_readTerm_172 rfl (lv_at hl 4 rfl) ?_
                      refine lv_iload hx hb dX6_readTerm_173 (lv_at hl 2 rfl) ?_
                      refine lv_iload hx hb dX6_readTerm_175 (lv_at hl 1 rfl) ?_
                      refine lv_iload hx hb dX6_readTerm_177 (lv_at hl 0 rfl) ?_
                      obtain ⟨⟨I45, J45⟩, hc45, h⟩ := ob h
                      dsimp only at h
                      refine callWVv (As := [.int r2, .int r7, .int r40, .int (0 : Int32)]) (rest := []) hC (c_X5_become l g ad I40 J40 t1 r2 r7 r40 (0 : Int32) hT1 H.size hc45) lk_X6_92 rfl rfl ⟨Nat.le_of_ble_eq_true rfl, Nat.le_of_ble_eq_true rfl⟩ hP hK hD hA hS (xTo hT1) rfl rfl rfl hl (Nat.le_of_ble_eq_true rfl) dX6_readTerm_179 (fun H locs hP hD hS => ?_)
                      refine lv_iconst (v := -1) hx hb dX6_readTerm_182 (by decide) ?_
                      obtain ⟨h1, h⟩ := Prod.mk.inj (Option.some.inj h)
                      obtain ⟨rfl, rfl⟩ := Prod.mk.inj h
                      exact hret _ _ _ _ _ dX6_readTerm_183 h1 hP hD hS
                    · replace h := (if_neg c44).symm.trans h
                      refine lv_aload_n hx hb dX6_readTerm_166 rfl (lv_at hl 5 rfl) ?_
                      refine gt_X6_25 hC hK hP dX6_readTerm_167 ?_
                      obtain ⟨h1, h⟩ := Prod.mk.inj (Option.some.inj h)
                      obtain ⟨rfl, rfl⟩ := Prod.mk.inj h
                      exact hret _ _ _ _ _ dX6_readTerm_170 h1 hP hD hS
                · replace h := (if_neg c42).symm.trans h
                  refine lv_aload_n hx hb dX6_readTerm_128 rfl (lv_at hl 5 rfl) ?_
                  refine lv_bipush (v := 43) hx hb dX6_readTerm_129 (by decide) ?_
                  obtain ⟨⟨r46, I46, J46⟩, hc46, h⟩ := ob h
                  dsimp only at h
                  refine callWVi (As := [.int (43 : Int32)]) (rest := []) hC (c_X6_skip l g ad I40 J40 (43 : Int32)  H.size hc46) lk_X6_60 rfl rfl ⟨Nat.le_of_ble_eq_true rfl, Nat.le_of_ble_eq_true rfl⟩ hP hK hD hA hS xo_45 rfl rfl rfl hl (Nat.le_of_ble_eq_true rfl) dX6_readTerm_131 (fun H locs hP hD hS => ?_)
                  refine lv_if_eq (tgt := 147) hx hb dX6_readTerm_134 (by decide) (fun c47 => ?_) (fun c47 => ?_)
                  · replace h := (if_pos c47).symm.trans h
                    refine lv_iconst (v := -1) hx hb dX6_readTerm_147 (by decide) ?_
                    refine lv_istore (lv' := [(6, .int (-1 : Int32)), (5, .int r40), (4, .int r7), (3, .int (1 : Int32)), (2, .int r2), (0, .ref (ad 45)), (1, .ref (ad t1))]) hx hb dX6_readTerm_148 hl (by decide) rfl (fun ls hl => ?_)
                    refine lv_iload hx hb dX6_readTerm_150 (lv_at hl 0 rfl) ?_
                    refine lv_if_lt (tgt := 166) hx hb dX6_readTerm_152 (by decide) (fun c48 => ?_) (fun c48 => ?_)
                    · replace h := (if_pos c48).symm.trans h
                      refine lv_aload_n hx hb dX6_readTerm_166 rfl (lv_at hl 5 rfl) ?_
                      refine gt_X6_25 hC hK hP dX6_readTerm_167 ?_
                      obtain ⟨h1, h⟩ := Prod.mk.inj (Option.some.inj h)
                      obtain ⟨rfl, rfl⟩ := Prod.mk.inj h
                      exact hret _ _ _ _ _ dX6_readTerm_170 h1 hP hD hS
                    · replace h := (if_neg c48).symm.trans h
                      refine lv_aload_n hx hb dX6_readTerm_155 rfl (lv_at hl 5 rfl) ?_
                      refine gt_X6_25 hC hK hP dX6_readTerm_156 ?_
                      refine lv_aload_n hx hb dX6_readTerm_159 rfl (lv_at hl 5 rfl) ?_
                      refine gt_X6_13 hC hK hP dX6_readTerm_160 ?_
                      refine lv_icmp_ge (tgt := 171) hx hb dX6_readTerm_163 (by decide) (fun c49 => ?_) (fun c49 => ?_)
                      · replace h := (if_pos c49).symm.trans h
                        refine lv_aload_n hx hb dX6_readTerm_171 rfl (lv_at hl 6 rfl) ?_
                        refine lv_iload_n hx hb dX6_readTerm_172 rfl (lv_at hl 4 rfl) ?_
                        refine lv_iload hx hb dX6_readTerm_173 (lv_at hl 2 rfl) ?_
                        refine lv_iload hx hb dX6_readTerm_175 (lv_at hl 1 rfl) ?_
                        refine lv_iload hx hb dX6_readTerm_177 (lv_at hl 0 rfl) ?_
                        obtain ⟨⟨I50, J50⟩, hc50, h⟩ := ob h
                        dsimp only at h
                        refine callWVv (As := [.int r2, .int r7, .int r40, .int (-1 : Int32)]) (rest := []) hC (c_X5_become l g ad I46 J46 t1 r2 r7 r40 (-1 : Int32) hT1 H.size hc50) lk_X6_92 rfl rfl ⟨Nat.le_of_ble_eq_true rfl, Nat.le_of_ble_eq_true rfl⟩ hP hK hD hA hS (xTo hT1) rfl rfl rfl hl (Nat.le_of_ble_eq_true rfl) dX6_readTerm_179 (fun H locs hP hD hS => ?_)
                        refine lv_iconst (v := -1) hx hb dX6_readTerm_182 (by decide) ?_
                        obtain ⟨h1, h⟩ := Prod.mk.inj (Option.some.inj h)
                        obtain ⟨rfl, rfl⟩ := Prod.mk.inj h
                        exact hret _ _ _ _ _ dX6_readTerm_183 h1 hP hD hS
                      · replace h := (if_neg c49).symm.trans h
                        refine lv_aload_n hx hb dX6_readTerm_166 rfl (lv_at hl 5 rfl) ?_
                        refine gt_X6_25 hC hK hP dX6_readTerm_167 ?_
                        obtain ⟨h1, h⟩ := Prod.mk.inj (Option.some.inj h)
                        obtain ⟨rfl, rfl⟩ := Prod.mk.inj h
                        exact hret _ _ _ _ _ dX6_readTerm_170 h1 hP hD hS
                  · replace h := (if_neg c47).symm.trans h
                    refine lv_aload_n hx hb dX6_readTerm_137 rfl (lv_at hl 5 rfl) ?_
                    refine lv_iconst (v := 0) hx hb dX6_readTerm_138 (by decide) ?_
                    refine lv_bipush (v := 99) hx hb dX6_readTerm_139 (by decide) ?_
                    obtain ⟨⟨r51, I51, J51⟩, hc51, h⟩ := ob h
                    dsimp only at h
                    refine callWVi (As := [.int (0 : Int32), .int (99 : Int32)]) (rest := []) hC (c_X6_numberOf l g ad I46 J46 (0 : Int32) (99 : Int32)  H.size hc51) lk_X6_89 rfl rfl ⟨Nat.le_of_ble_eq_true rfl, Nat.le_of_ble_eq_true rfl⟩ hP hK hD hA hS xo_45 rfl rfl rfl hl (Nat.le_of_ble_eq_true rfl) dX6_readTerm_141 (fun H locs hP hD hS => ?_)
                    refine lv_goto (tgt := 148) hx hb dX6_readTerm_144 (by decide) ?_
                    refine lv_istore (lv' := [(6, .int r51), (5, .int r40), (4, .int r7), (3, .int (1 : Int32)), (2, .int r2), (0, .ref (ad 45)), (1, .ref (ad t1))]) hx hb dX6_readTerm_148 hl (by decide) rfl (fun ls hl => ?_)
                    refine lv_iload hx hb dX6_readTerm_150 (lv_at hl 0 rfl) ?_
                    refine lv_if_lt (tgt := 166) hx hb dX6_readTerm_152 (by decide) (fun c52 => ?_) (fun c52 => ?_)
                    · replace h := (if_pos c52).symm.trans h
                      refine lv_aload_n hx hb dX6_readTerm_166 rfl (lv_at hl 5 rfl) ?_
                      refine gt_X6_25 hC hK hP dX6_readTerm_167 ?_
                      obtain ⟨h1, h⟩ := Prod.mk.inj (Option.some.inj h)
                      obtain ⟨rfl, rfl⟩ := Prod.mk.inj h
                      exact hret _ _ _ _ _ dX6_readTerm_170 h1 hP hD hS
                    · replace h := (if_neg c52).symm.trans h
                      refine lv_aload_n hx hb dX6_readTerm_155 rfl (lv_at hl 5 rfl) ?_
                      refine gt_X6_25 hC hK hP dX6_readTerm_156 ?_
                      refine lv_aload_n hx hb dX6_readTerm_159 rfl (lv_at hl 5 rfl) ?_
                      refine gt_X6_13 hC hK hP dX6_readTerm_160 ?_
                      refine lv_icmp_ge (tgt := 171) hx hb dX6_readTerm_163 (by decide) (fun c53 => ?_) (fun c53 => ?_)
                      · replace h := (if_pos c53).symm.trans h
                        refine lv_aload_n hx hb dX6_readTerm_171 rfl (lv_at hl 6 rfl) ?_
                        refine lv_iload_n hx hb dX6_readTerm_172 rfl (lv_at hl 4 rfl) ?_
                        refine lv_iload hx hb dX6_readTerm_173 (lv_at hl 2 rfl) ?_
                        refine lv_iload hx hb dX6_readTerm_175 (lv_at hl 1 rfl) ?_
                        refine lv_iload hx hb dX6_readTerm_177 (lv_at hl 0 rfl) ?_
                        obtain ⟨⟨I54, J54⟩, hc54, h⟩ := ob h
                        dsimp only at h
                        refine callWVv (As := [.int r2, .int r7, .int r40, .int r51]) (rest := []) hC (c_X5_become l g ad I51 J51 t1 r2 r7 r40 r51 hT1 H.size hc54) lk_X6_92 rfl rfl ⟨Nat.le_of_ble_eq_true rfl, Nat.le_of_ble_eq_true rfl⟩ hP hK hD hA hS (xTo hT1) rfl rfl rfl hl (Nat.le_of_ble_eq_true rfl) dX6_readTerm_179 (fun H locs hP hD hS => ?_)
                        refine lv_iconst (v := -1) hx hb dX6_readTerm_182 (by decide) ?_
                        obtain ⟨h1, h⟩ := Prod.mk.inj (Option.some.inj h)
                        obtain ⟨rfl, rfl⟩ := Prod.mk.inj h
                        exact hret _ _ _ _ _ dX6_readTerm_183 h1 hP hD hS
                      · replace h := (if_neg c53).symm.trans h
                        refine lv_aload_n hx hb dX6_readTerm_166 rfl (lv_at hl 5 rfl) ?_
                        refine gt_X6_25 hC hK hP dX6_readTerm_167 ?_
                        obtain ⟨h1, h⟩ := Prod.mk.inj (Option.some.inj h)
                        obtain ⟨rfl, rfl⟩ := Prod.mk.inj h
                        exact hret _ _ _ _ _ dX6_readTerm_170 h1 hP hD hS
              · replace h := (if_neg c41).symm.trans h
                refine lv_aload_n hx hb dX6_readTerm_115 rfl (lv_at hl 4 rfl) ?_
                refine gt_X6_25 hC hK hP dX6_readTerm_116 ?_
                obtain ⟨h1, h⟩ := Prod.mk.inj (Option.some.inj h)
                obtain ⟨rfl, rfl⟩ := Prod.mk.inj h
                exact hret _ _ _ _ _ dX6_readTerm_119 h1 hP hD hS
        · replace h := (if_neg c8).symm.trans h
          refine lv_aload_n hx hb dX6_readTerm_75 rfl (lv_at hl 3 rfl) ?_
          refine gt_X6_25 hC hK hP dX6_readTerm_76 ?_
          obtain ⟨h1, h⟩ := Prod.mk.inj (Option.some.inj h)
          obtain ⟨rfl, rfl⟩ := Prod.mk.inj h
          exact hret _ _ _ _ _ dX6_readTerm_79 h1 hP hD hS
    · replace h := (if_neg c4).symm.trans h
      refine lv_iload_n hx hb dX6_readTerm_37 rfl (lv_at hl 0 rfl) ?_
      refine lv_iconst (v := 3) hx hb dX6_readTerm_38 (by decide) ?_
      refine lv_icmp_eq (tgt := 47) hx hb dX6_readTerm_39 (by decide) (fun c55 => ?_) (fun c55 => ?_)
      · replace h := (if_pos c55).symm.trans h
        refine lv_iconst (v := 1) hx hb dX6_readTerm_47 (by decide) ?_
        refine lv_goto (tgt := 52) hx hb dX6_readTerm_48 (by decide) ?_
        refine lv_istore_n (lv' := [(3, .int (1 : Int32)), (2, .int r2), (0, .ref (ad 45)), (1, .ref (ad t1))]) hx hb dX6_readTerm_52 rfl hl (by decide) rfl (fun ls hl => ?_)
        refine lv_aload_n hx hb dX6_readTerm_53 rfl (lv_at hl 2 rfl) ?_
        refine lv_iload_n hx hb dX6_readTerm_54 rfl (lv_at hl 0 rfl) ?_
        refine tern (α := Int32) (cnd := (1 : Int32) = 0) (a := (0 : Int32)) (b := (1 : Int32)) (Wj := fun vj => W p l e (k2_rm 4 87) s m args below meth c H locs 0 0 Q (F0 m 63 ls [.int vj, .ref (ad 45)])) (fun k57a k57b => ?_) ?_
        · refine lv_if_eq (tgt := 62) hx hb dX6_readTerm_55 (by decide) (fun c56 => ?_) (fun c56 => ?_)
          · refine lv_iconst (v := 0) hx hb dX6_readTerm_62 (by decide) ?_
            exact k57a c56
          · refine lv_iconst (v := 1) hx hb dX6_readTerm_58 (by decide) ?_
            refine lv_goto (tgt := 63) hx hb dX6_readTerm_59 (by decide) ?_
            exact k57b c56
        · show W p l e (k2_rm 4 87) s m args below meth c H locs 0 0 Q (F0 m 63 ls [.int (if (1 : Int32) = 0 then (0 : Int32) else (1 : Int32)), .ref (ad 45)])
          refine lv_bipush (v := 99) hx hb dX6_readTerm_63 (by decide) ?_
          obtain ⟨⟨r58, I58, J58⟩, hc58, h⟩ := ob h
          dsimp only at h
          refine callWVi (As := [.int (if (1 : Int32) = 0 then (0 : Int32) else (1 : Int32)), .int (99 : Int32)]) (rest := []) hC (c_X6_numberOf l g ad (u2 (u2 I 45 2 (0 : Int32)) 45 2 (((u2 I 45 2 (0 : Int32)) 45 2) + (1 : Int32))) J (if (1 : Int32) = 0 then (0 : Int32) else (1 : Int32)) (99 : Int32)  H.size hc58) lk_X6_89 rfl rfl ⟨Nat.le_of_ble_eq_true rfl, Nat.le_of_ble_eq_true rfl⟩ hP hK hD hA hS xo_45 rfl rfl rfl hl (Nat.le_of_ble_eq_true rfl) dX6_readTerm_65 (fun H locs hP hD hS => ?_)
          refine lv_istore (lv' := [(4, .int r58), (3, .int (1 : Int32)), (2, .int r2), (0, .ref (ad 45)), (1, .ref (ad t1))]) hx hb dX6_readTerm_68 hl (by decide) rfl (fun ls hl => ?_)
          refine lv_iload hx hb dX6_readTerm_70 (lv_at hl 0 rfl) ?_
          refine lv_if_ge (tgt := 80) hx hb dX6_readTerm_72 (by decide) (fun c59 => ?_) (fun c59 => ?_)
          · replace h := (if_pos c59).symm.trans h
            refine lv_iconst (v := 0) hx hb dX6_readTerm_80 (by decide) ?_
            refine lv_istore (lv' := [(5, .int (0 : Int32)), (4, .int r58), (3, .int (1 : Int32)), (2, .int r2), (0, .ref (ad 45)), (1, .ref (ad t1))]) hx hb dX6_readTerm_81 hl (by decide) rfl (fun ls hl => ?_)
            refine lv_iload_n hx hb dX6_readTerm_83 rfl (lv_at hl 2 rfl) ?_
            refine lv_if_eq (tgt := 110) hx hb dX6_readTerm_84 (by decide) (fun c60 => ?_) (fun c60 => ?_)
            · replace h := (if_pos c60).symm.trans h
              refine lv_iload hx hb dX6_readTerm_110 (lv_at hl 0 rfl) ?_
              refine lv_if_ge (tgt := 120) hx hb dX6_readTerm_112 (by decide) (fun c61 => ?_) (fun c61 => ?_)
              · replace h := (if_pos c61).symm.trans h
                refine lv_iconst (v := 0) hx hb dX6_readTerm_120 (by decide) ?_
                refine lv_istore (lv' := [(6, .int (0 : Int32)), (5, .int (0 : Int32)), (4, .int r58), (3, .int (1 : Int32)), (2, .int r2), (0, .ref (ad 45)), (1, .ref (ad t1))]) hx hb dX6_readTerm_121 hl (by decide) rfl (fun ls hl => ?_)
                refine lv_iload_n hx hb dX6_readTerm_123 rfl (lv_at hl 4 rfl) ?_
                refine lv_iconst (v := 3) hx hb dX6_readTerm_124 (by decide) ?_
                refine lv_icmp_lt (tgt := 150) hx hb dX6_readTerm_125 (by decide) (fun c62 => ?_) (fun c62 => ?_)
                · replace h := (if_pos c62).symm.trans h
                  refine lv_iload hx hb dX6_readTerm_150 (lv_at hl 0 rfl) ?_
                  refine lv_if_lt (tgt := 166) hx hb dX6_readTerm_152 (by decide) (fun c63 => ?_) (fun c63 => ?_)
                  · replace h := (if_pos c63).symm.trans h
                    refine lv_aload_n hx hb dX6_readTerm_166 rfl (lv_at hl 5 rfl) ?_
                    refine gt_X6_25 hC hK hP dX6_readTerm_167 ?_
                    obtain ⟨h1, h⟩ := Prod.mk.inj (Option.some.inj h)
                    obtain ⟨rfl, rfl⟩ := Prod.mk.inj h
                    exact hret _ _ _ _ _ dX6_readTerm_170 h1 hP hD hS
                  · replace h := (if_neg c63).symm.trans h
                    refine lv_aload_n hx hb dX6_readTerm_155 rfl (lv_at hl 5 rfl) ?_
                    refine gt_X6_25 hC hK hP dX6_readTerm_156 ?_
                    refine lv_aload_n hx hb dX6_readTerm_159 rfl (lv_at hl 5 rfl) ?_
                    refine gt_X6_13 hC hK hP dX6_readTerm_160 ?_
                    refine lv_icmp_ge (tgt := 171) hx hb dX6_readTerm_163 (by decide) (fun c64 => ?_) (fun c64 => ?_)
                    · replace h := (if_pos c64).symm.trans h
                      refine lv_aload_n hx hb dX6_readTerm_171 rfl (lv_at hl 6 rfl) ?_
                      refine lv_iload_n hx hb dX6_readTerm_172 rfl (lv_at hl 4 rfl) ?_
                      refine lv_iload hx hb dX6_readTerm_173 (lv_at hl 2 rfl) ?_
                      refine lv_iload hx hb dX6_readTerm_175 (lv_at hl 1 rfl) ?_
                      refine lv_iload hx hb dX6_readTerm_177 (lv_at hl 0 rfl) ?_
                      obtain ⟨⟨I65, J65⟩, hc65, h⟩ := ob h
                      dsimp only at h
                      refine callWVv (As := [.int r2, .int r58, .int (0 : Int32), .int (0 : Int32)]) (rest := []) hC (c_X5_become l g ad I58 J58 t1 r2 r58 (0 : Int32) (0 : Int32) hT1 H.size hc65) lk_X6_92 rfl rfl ⟨Nat.le_of_ble_eq_true rfl, Nat.le_of_ble_eq_true rfl⟩ hP hK hD hA hS (xTo hT1) rfl rfl rfl hl (Nat.le_of_ble_eq_true rfl) dX6_readTerm_179 (fun H locs hP hD hS => ?_)
                      refine lv_iconst (v := -1) hx hb dX6_readTerm_182 (by decide) ?_
                      obtain ⟨h1, h⟩ := Prod.mk.inj (Option.some.inj h)
                      obtain ⟨rfl, rfl⟩ := Prod.mk.inj h
                      exact hret _ _ _ _ _ dX6_readTerm_183 h1 hP hD hS
                    · replace h := (if_neg c64).symm.trans h
                      refine lv_aload_n hx hb dX6_readTerm_166 rfl (lv_at hl 5 rfl) ?_
                      refine gt_X6_25 hC hK hP dX6_readTerm_167 ?_
                      obtain ⟨h1, h⟩ := Prod.mk.inj (Option.some.inj h)
                      obtain ⟨rfl, rfl⟩ := Prod.mk.inj h
                      exact hret _ _ _ _ _ dX6_readTerm_170 h1 hP hD hS
                · replace h := (if_neg c62).symm.trans h
                  refine lv_aload_n hx hb dX6_readTerm_128 rfl (lv_at hl 5 rfl) ?_
                  refine lv_bipush (v := 43) hx hb dX6_readTerm_129 (by decide) ?_
                  obtain ⟨⟨r66, I66, J66⟩, hc66, h⟩ := ob h
                  dsimp only at h
                  refine callWVi (As := [.int (43 : Int32)]) (rest := []) hC (c_X6_skip l g ad I58 J58 (43 : Int32)  H.size hc66) lk_X6_60 rfl rfl ⟨Nat.le_of_ble_eq_true rfl, Nat.le_of_ble_eq_true rfl⟩ hP hK hD hA hS xo_45 rfl rfl rfl hl (Nat.le_of_ble_eq_true rfl) dX6_readTerm_131 (fun H locs hP hD hS => ?_)
                  refine lv_if_eq (tgt := 147) hx hb dX6_readTerm_134 (by decide) (fun c67 => ?_) (fun c67 => ?_)
                  · replace h := (if_pos c67).symm.trans h
                    refine lv_iconst (v := -1) hx hb dX6_readTerm_147 (by decide) ?_
                    refine lv_istore (lv' := [(6, .int (-1 : Int32)), (5, .int (0 : Int32)), (4, .int r58), (3, .int (1 : Int32)), (2, .int r2), (0, .ref (ad 45)), (1, .ref (ad t1))]) hx hb dX6_readTerm_148 hl (by decide) rfl (fun ls hl => ?_)
                    refine lv_iload hx hb dX6_readTerm_150 (lv_at hl 0 rfl) ?_
                    refine lv_if_lt (tgt := 166) hx hb dX6_readTerm_152 (by decide) (fun c68 => ?_) (fun c68 => ?_)
                    · replace h := (if_pos c68).symm.trans h
                      refine lv_aload_n hx hb dX6_readTerm_166 rfl (lv_at hl 5 rfl) ?_
                      refine gt_X6_25 hC hK hP dX6_readTerm_167 ?_
                      obtain ⟨h1, h⟩ := Prod.mk.inj (Option.some.inj h)
                      obtain ⟨rfl, rfl⟩ := Prod.mk.inj h
                      exact hret _ _ _ _ _ dX6_readTerm_170 h1 hP hD hS
                    · replace h := (if_neg c68).symm.trans h
                      refine lv_aload_n hx hb dX6_readTerm_155 rfl (lv_at hl 5 rfl) ?_
                      refine gt_X6_25 hC hK hP dX6_readTerm_156 ?_
                      refine lv_aload_n hx hb dX6_readTerm_159 rfl (lv_at hl 5 rfl) ?_
                      refine gt_X6_13 hC hK hP dX6_readTerm_160 ?_
                      refine lv_icmp_ge (tgt := 171) hx hb dX6_readTerm_163 (by decide) (fun c69 => ?_) (fun c69 => ?_)
                      · replace h := (if_pos c69).symm.trans h
                        refine lv_aload_n hx hb dX6_readTerm_171 rfl (lv_at hl 6 rfl) ?_
                        refine lv_iload_n hx hb dX6_readTerm_172 rfl (lv_at hl 4 rfl) ?_
                        refine lv_iload hx hb dX6_readTerm_173 (lv_at hl 2 rfl) ?_
                        refine lv_iload hx hb dX6_readTerm_175 (lv_at hl 1 rfl) ?_
                        refine lv_iload hx hb dX6_readTerm_177 (lv_at hl 0 rfl) ?_
                        obtain ⟨⟨I70, J70⟩, hc70, h⟩ := ob h
                        dsimp only at h
                        refine callWVv (As := [.int r2, .int r58, .int (0 : Int32), .int (-1 : Int32)]) (rest := []) hC (c_X5_become l g ad I66 J66 t1 r2 r58 (0 : Int32) (-1 : Int32) hT1 H.size hc70) lk_X6_92 rfl rfl ⟨Nat.le_of_ble_eq_true rfl, Nat.le_of_ble_eq_true rfl⟩ hP hK hD hA hS (xTo hT1) rfl rfl rfl hl (Nat.le_of_ble_eq_true rfl) dX6_readTerm_179 (fun H locs hP hD hS => ?_)
                        refine lv_iconst (v := -1) hx hb dX6_readTerm_182 (by decide) ?_
                        obtain ⟨h1, h⟩ := Prod.mk.inj (Option.some.inj h)
                        obtain ⟨rfl, rfl⟩ := Prod.mk.inj h
                        exact hret _ _ _ _ _ dX6_readTerm_183 h1 hP hD hS
                      · replace h := (if_neg c69).symm.trans h
                        refine lv_aload_n hx hb dX6_readTerm_166 rfl (lv_at hl 5 rfl) ?_
                        refine gt_X6_25 hC hK hP dX6_readTerm_167 ?_
                        obtain ⟨h1, h⟩ := Prod.mk.inj (Option.some.inj h)
                        obtain ⟨rfl, rfl⟩ := Prod.mk.inj h
                        exact hret _ _ _ _ _ dX6_readTerm_170 h1 hP hD hS
                  · replace h := (if_neg c67).symm.trans h
                    refine lv_aload_n hx hb dX6_readTerm_137 rfl (lv_at hl 5 rfl) ?_
                    refine lv_iconst (v := 0) hx hb dX6_readTerm_138 (by decide) ?_
                    refine lv_bipush (v := 99) hx hb dX6_readTerm_139 (by decide) ?_
                    obtain ⟨⟨r71, I71, J71⟩, hc71, h⟩ := ob h
                    dsimp only at h
                    refine callWVi (As := [.int (0 : Int32), .int (99 : Int32)]) (rest := []) hC (c_X6_numberOf l g ad I66 J66 (0 : Int32) (99 : Int32)  H.size hc71) lk_X6_89 rfl rfl ⟨Nat.le_of_ble_eq_true rfl, Nat.le_of_ble_eq_true rfl⟩ hP hK hD hA hS xo_45 rfl rfl rfl hl (Nat.le_of_ble_eq_true rfl) dX6_readTerm_141 (fun H locs hP hD hS => ?_)
                    refine lv_goto (tgt := 148) hx hb dX6_readTerm_144 (by decide) ?_
                    refine lv_istore (lv' := [(6, .int r71), (5, .int (0 : Int32)), (4, .int r58), (3, .int (1 : Int32)), (2, .int r2), (0, .ref (ad 45)), (1, .ref (ad t1))]) hx hb dX6_readTerm_148 hl (by decide) rfl (fun ls hl => ?_)
                    refine lv_iload hx hb dX6_readTerm_150 (lv_at hl 0 rfl) ?_
                    refine lv_if_lt (tgt := 166) hx hb dX6_readTerm_152 (by decide) (fun c72 => ?_) (fun c72 => ?_)
                    · replace h := (if_pos c72).symm.trans h
                      refine lv_aload_n hx hb dX6_readTerm_166 rfl (lv_at hl 5 rfl) ?_
                      refine gt_X6_25 hC hK hP dX6_readTerm_167 ?_
                      obtain ⟨h1, h⟩ := Prod.mk.inj (Option.some.inj h)
                      obtain ⟨rfl, rfl⟩ := Prod.mk.inj h
                      exact hret _ _ _ _ _ dX6_readTerm_170 h1 hP hD hS
                    · replace h := (if_neg c72).symm.trans h
                      refine lv_aload_n hx hb dX6_readTerm_155 rfl (lv_at hl 5 rfl) ?_
                      refine gt_X6_25 hC hK hP dX6_readTerm_156 ?_
                      refine lv_aload_n hx hb dX6_readTerm_159 rfl (lv_at hl 5 rfl) ?_
                      refine gt_X6_13 hC hK hP dX6_readTerm_160 ?_
                      refine lv_icmp_ge (tgt := 171) hx hb dX6_readTerm_163 (by decide) (fun c73 => ?_) (fun c73 => ?_)
                      · replace h := (if_pos c73).symm.trans h
                        refine lv_aload_n hx hb dX6_readTerm_171 rfl (lv_at hl 6 rfl) ?_
                        refine lv_iload_n hx hb dX6_readTerm_172 rfl (lv_at hl 4 rfl) ?_
                        refine lv_iload hx hb dX6_readTerm_173 (lv_at hl 2 rfl) ?_
                        refine lv_iload hx hb dX6_readTerm_175 (lv_at hl 1 rfl) ?_
                        refine lv_iload hx hb dX6_readTerm_177 (lv_at hl 0 rfl) ?_
                        obtain ⟨⟨I74, J74⟩, hc74, h⟩ := ob h
                        dsimp only at h
                        refine callWVv (As := [.int r2, .int r58, .int (0 : Int32), .int r71]) (rest := []) hC (c_X5_become l g ad I71 J71 t1 r2 r58 (0 : Int32) r71 hT1 H.size hc74) lk_X6_92 rfl rfl ⟨Nat.le_of_ble_eq_true rfl, Nat.le_of_ble_eq_true rfl⟩ hP hK hD hA hS (xTo hT1) rfl rfl rfl hl (Nat.le_of_ble_eq_true rfl) dX6_readTerm_179 (fun H locs hP hD hS => ?_)
                        refine lv_iconst (v := -1) hx hb dX6_readTerm_182 (by decide) ?_
                        obtain ⟨h1, h⟩ := Prod.mk.inj (Option.some.inj h)
                        obtain ⟨rfl, rfl⟩ := Prod.mk.inj h
                        exact hret _ _ _ _ _ dX6_readTerm_183 h1 hP hD hS
                      · replace h := (if_neg c73).symm.trans h
                        refine lv_aload_n hx hb dX6_readTerm_166 rfl (lv_at hl 5 rfl) ?_
                        refine gt_X6_25 hC hK hP dX6_readTerm_167 ?_
                        obtain ⟨h1, h⟩ := Prod.mk.inj (Option.some.inj h)
                        obtain ⟨rfl, rfl⟩ := Prod.mk.inj h
                        exact hret _ _ _ _ _ dX6_readTerm_170 h1 hP hD hS
              · replace h := (if_neg c61).symm.trans h
                refine lv_aload_n hx hb dX6_readTerm_115 rfl (lv_at hl 4 rfl) ?_
                refine gt_X6_25 hC hK hP dX6_readTerm_116 ?_
                obtain ⟨h1, h⟩ := Prod.mk.inj (Option.some.inj h)
                obtain ⟨rfl, rfl⟩ := Prod.mk.inj h
                exact hret _ _ _ _ _ dX6_readTerm_119 h1 hP hD hS
            · replace h := (if_neg c60).symm.trans h
              refine lv_aload_n hx hb dX6_readTerm_87 rfl (lv_at hl 4 rfl) ?_
              refine lv_bipush (v := 47) hx hb dX6_readTerm_88 (by decide) ?_
              obtain ⟨⟨r75, I75, J75⟩, hc75, h⟩ := ob h
              dsimp only at h
              refine callWVi (As := [.int (47 : Int32)]) (rest := []) hC (c_X6_skip l g ad I58 J58 (47 : Int32)  H.size hc75) lk_X6_60 rfl rfl ⟨Nat.le_of_ble_eq_true rfl, Nat.le_of_ble_eq_true rfl⟩ hP hK hD hA hS xo_45 rfl rfl rfl hl (Nat.le_of_ble_eq_true rfl) dX6_readTerm_90 (fun H locs hP hD hS => ?_)
              refine lv_if_eq (tgt := 107) hx hb dX6_readTerm_93 (by decide) (fun c76 => ?_) (fun c76 => ?_)
              · replace h := (if_pos c76).symm.trans h
                refine lv_iconst (v := -1) hx hb dX6_readTerm_107 (by decide) ?_
                refine lv_istore (lv' := [(5, .int (-1 : Int32)), (4, .int r58), (3, .int (1 : Int32)), (2, .int r2), (0, .ref (ad 45)), (1, .ref (ad t1))]) hx hb dX6_readTerm_108 hl (by decide) rfl (fun ls hl => ?_)
                refine lv_iload hx hb dX6_readTerm_110 (lv_at hl 0 rfl) ?_
                refine lv_if_ge (tgt := 120) hx hb dX6_readTerm_112 (by decide) (fun c77 => ?_) (fun c77 => ?_)
                · replace h := (if_pos c77).symm.trans h
                  refine lv_iconst (v := 0) hx hb dX6_readTerm_120 (by decide) ?_
                  refine lv_istore (lv' := [(6, .int (0 : Int32)), (5, .int (-1 : Int32)), (4, .int r58), (3, .int (1 : Int32)), (2, .int r2), (0, .ref (ad 45)), (1, .ref (ad t1))]) hx hb dX6_readTerm_121 hl (by decide) rfl (fun ls hl => ?_)
                  refine lv_iload_n hx hb dX6_readTerm_123 rfl (lv_at hl 4 rfl) ?_
                  refine lv_iconst (v := 3) hx hb dX6_readTerm_124 (by decide) ?_
                  refine lv_icmp_lt (tgt := 150) hx hb dX6_readTerm_125 (by decide) (fun c78 => ?_) (fun c78 => ?_)
                  · replace h := (if_pos c78).symm.trans h
                    refine lv_iload hx hb dX6_readTerm_150 (lv_at hl 0 rfl) ?_
                    refine lv_if_lt (tgt := 166) hx hb dX6_readTerm_152 (by decide) (fun c79 => ?_) (fun c79 => ?_)
                    · replace h := (if_pos c79).symm.trans h
                      refine lv_aload_n hx hb dX6_readTerm_166 rfl (lv_at hl 5 rfl) ?_
                      refine gt_X6_25 hC hK hP dX6_readTerm_167 ?_
                      obtain ⟨h1, h⟩ := Prod.mk.inj (Option.some.inj h)
                      obtain ⟨rfl, rfl⟩ := Prod.mk.inj h
                      exact hret _ _ _ _ _ dX6_readTerm_170 h1 hP hD hS
                    · replace h := (if_neg c79).symm.trans h
                      refine lv_aload_n hx hb dX6_readTerm_155 rfl (lv_at hl 5 rfl) ?_
                      refine gt_X6_25 hC hK hP dX6_readTerm_156 ?_
                      refine lv_aload_n hx hb dX6_readTerm_159 rfl (lv_at hl 5 rfl) ?_
                      refine gt_X6_13 hC hK hP dX6_readTerm_160 ?_
                      refine lv_icmp_ge (tgt := 171) hx hb dX6_readTerm_163 (by decide) (fun c80 => ?_) (fun c80 => ?_)
                      · replace h := (if_pos c80).symm.trans h
                        refine lv_aload_n hx hb dX6_readTerm_171 rfl (lv_at hl 6 rfl) ?_
                        refine lv_iload_n hx hb dX6_readTerm_172 rfl (lv_at hl 4 rfl) ?_
                        refine lv_iload hx hb dX6_readTerm_173 (lv_at hl 2 rfl) ?_
                        refine lv_iload hx hb dX6_readTerm_175 (lv_at hl 1 rfl) ?_
                        refine lv_iload hx hb dX6_readTerm_177 (lv_at hl 0 rfl) ?_
                        obtain ⟨⟨I81, J81⟩, hc81, h⟩ := ob h
                        dsimp only at h
                        refine callWVv (As := [.int r2, .int r58, .int (-1 : Int32), .int (0 : Int32)]) (rest := []) hC (c_X5_become l g ad I75 J75 t1 r2 r58 (-1 : Int32) (0 : Int32) hT1 H.size hc81) lk_X6_92 rfl rfl ⟨Nat.le_of_ble_eq_true rfl, Nat.le_of_ble_eq_true rfl⟩ hP hK hD hA hS (xTo hT1) rfl rfl rfl hl (Nat.le_of_ble_eq_true rfl) dX6_readTerm_179 (fun H locs hP hD hS => ?_)
                        refine lv_iconst (v := -1) hx hb dX6_readTerm_182 (by decide) ?_
                        obtain ⟨h1, h⟩ := Prod.mk.inj (Option.some.inj h)
                        obtain ⟨rfl, rfl⟩ := Prod.mk.inj h
                        exact hret _ _ _ _ _ dX6_readTerm_183 h1 hP hD hS
                      · replace h := (if_neg c80).symm.trans h
                        refine lv_aload_n hx hb dX6_readTerm_166 rfl (lv_at hl 5 rfl) ?_
                        refine gt_X6_25 hC hK hP dX6_readTerm_167 ?_
                        obtain ⟨h1, h⟩ := Prod.mk.inj (Option.some.inj h)
                        obtain ⟨rfl, rfl⟩ := Prod.mk.inj h
                        exact hret _ _ _ _ _ dX6_readTerm_170 h1 hP hD hS
                  · replace h := (if_neg c78).symm.trans h
                    refine lv_aload_n hx hb dX6_readTerm_128 rfl (lv_at hl 5 rfl) ?_
                    refine lv_bipush (v := 43) hx hb dX6_readTerm_129 (by decide) ?_
                    obtain ⟨⟨r82, I82, J82⟩, hc82, h⟩ := ob h
                    dsimp only at h
                    refine callWVi (As := [.int (43 : Int32)]) (rest := []) hC (c_X6_skip l g ad I75 J75 (43 : Int32)  H.size hc82) lk_X6_60 rfl rfl ⟨Nat.le_of_ble_eq_true rfl, Nat.le_of_ble_eq_true rfl⟩ hP hK hD hA hS xo_45 rfl rfl rfl hl (Nat.le_of_ble_eq_true rfl) dX6_readTerm_131 (fun H locs hP hD hS => ?_)
                    refine lv_if_eq (tgt := 147) hx hb dX6_readTerm_134 (by decide) (fun c83 => ?_) (fun c83 => ?_)
                    · replace h := (if_pos c83).symm.trans h
                      refine lv_iconst (v := -1) hx hb dX6_readTerm_147 (by decide) ?_
                      refine lv_istore (lv' := [(6, .int (-1 : Int32)), (5, .int (-1 : Int32)), (4, .int r58), (3, .int (1 : Int32)), (2, .int r2), (0, .ref (ad 45)), (1, .ref (ad t1))]) hx hb dX6_readTerm_148 hl (by decide) rfl (fun ls hl => ?_)
                      refine lv_iload hx hb dX6_readTerm_150 (lv_at hl 0 rfl) ?_
                      refine lv_if_lt (tgt := 166) hx hb dX6_readTerm_152 (by decide) (fun c84 => ?_) (fun c84 => ?_)
                      · replace h := (if_pos c84).symm.trans h
                        refine lv_aload_n hx hb dX6_readTerm_166 rfl (lv_at hl 5 rfl) ?_
                        refine gt_X6_25 hC hK hP dX6_readTerm_167 ?_
                        obtain ⟨h1, h⟩ := Prod.mk.inj (Option.some.inj h)
                        obtain ⟨rfl, rfl⟩ := Prod.mk.inj h
                        exact hret _ _ _ _ _ dX6_readTerm_170 h1 hP hD hS
                      · replace h := (if_neg c84).symm.trans h
                        refine lv_aload_n hx hb dX6_readTerm_155 rfl (lv_at hl 5 rfl) ?_
                        refine gt_X6_25 hC hK hP dX6_readTerm_156 ?_
                        refine lv_aload_n hx hb dX6_readTerm_159 rfl (lv_at hl 5 rfl) ?_
                        refine gt_X6_13 hC hK hP dX6_readTerm_160 ?_
                        refine lv_icmp_ge (tgt := 171) hx hb dX6_readTerm_163 (by decide) (fun c85 => ?_) (fun c85 => ?_)
                        · replace h := (if_pos c85).symm.trans h
                          refine lv_aload_n hx hb dX6_readTerm_171 rfl (lv_at hl 6 rfl) ?_
                          refine lv_iload_n hx hb dX6_readTerm_172 rfl (lv_at hl 4 rfl) ?_
                          refine lv_iload hx hb dX6_readTerm_173 (lv_at hl 2 rfl) ?_
                          refine lv_iload hx hb dX6_readTerm_175 (lv_at hl 1 rfl) ?_
                          refine lv_iload hx hb dX6_readTerm_177 (lv_at hl 0 rfl) ?_
                          obtain ⟨⟨I86, J86⟩, hc86, h⟩ := ob h
                          dsimp only at h
                          refine callWVv (As := [.int r2, .int r58, .int (-1 : Int32), .int (-1 : Int32)]) (rest := []) hC (c_X5_become l g ad I82 J82 t1 r2 r58 (-1 : Int32) (-1 : Int32) hT1 H.size hc86) lk_X6_92 rfl rfl ⟨Nat.le_of_ble_eq_true rfl, Nat.le_of_ble_eq_true rfl⟩ hP hK hD hA hS (xTo hT1) rfl rfl rfl hl (Nat.le_of_ble_eq_true rfl) dX6_readTerm_179 (fun H locs hP hD hS => ?_)
                          refine lv_iconst (v := -1) hx hb dX6_readTerm_182 (by decide) ?_
                          obtain ⟨h1, h⟩ := Prod.mk.inj (Option.some.inj h)
                          obtain ⟨rfl, rfl⟩ := Prod.mk.inj h
                          exact hret _ _ _ _ _ dX6_readTerm_183 h1 hP hD hS
                        · replace h := (if_neg c85).symm.trans h
                          refine lv_aload_n hx hb dX6_readTerm_166 rfl (lv_at hl 5 rfl) ?_
                          refine gt_X6_25 hC hK hP dX6_readTerm_167 ?_
                          obtain ⟨h1, h⟩ := Prod.mk.inj (Option.some.inj h)
                          obtain ⟨rfl, rfl⟩ := Prod.mk.inj h
                          exact hret _ _ _ _ _ dX6_readTerm_170 h1 hP hD hS
                    · replace h := (if_neg c83).symm.trans h
                      refine lv_aload_n hx hb dX6_readTerm_137 rfl (lv_at hl 5 rfl) ?_
                      refine lv_iconst (v := 0) hx hb dX6_readTerm_138 (by decide) ?_
                      refine lv_bipush (v := 99) hx hb dX6_readTerm_139 (by decide) ?_
                      obtain ⟨⟨r87, I87, J87⟩, hc87, h⟩ := ob h
                      dsimp only at h
                      refine callWVi (As := [.int (0 : Int32), .int (99 : Int32)]) (rest := []) hC (c_X6_numberOf l g ad I82 J82 (0 : Int32) (99 : Int32)  H.size hc87) lk_X6_89 rfl rfl ⟨Nat.le_of_ble_eq_true rfl, Nat.le_of_ble_eq_true rfl⟩ hP hK hD hA hS xo_45 rfl rfl rfl hl (Nat.le_of_ble_eq_true rfl) dX6_readTerm_141 (fun H locs hP hD hS => ?_)
                      refine lv_goto (tgt := 148) hx hb dX6_readTerm_144 (by decide) ?_
                      refine lv_istore (lv' := [(6, .int r87), (5, .int (-1 : Int32)), (4, .int r58), (3, .int (1 : Int32)), (2, .int r2), (0, .ref (ad 45)), (1, .ref (ad t1))]) hx hb dX6_readTerm_148 hl (by decide) rfl (fun ls hl => ?_)
                      refine lv_iload hx hb dX6_readTerm_150 (lv_at hl 0 rfl) ?_
                      refine lv_if_lt (tgt := 166) hx hb dX6_readTerm_152 (by decide) (fun c88 => ?_) (fun c88 => ?_)
                      · replace h := (if_pos c88).symm.trans h
                        refine lv_aload_n hx hb dX6_readTerm_166 rfl (lv_at hl 5 rfl) ?_
                        refine gt_X6_25 hC hK hP dX6_readTerm_167 ?_
                        obtain ⟨h1, h⟩ := Prod.mk.inj (Option.some.inj h)
                        obtain ⟨rfl, rfl⟩ := Prod.mk.inj h
                        exact hret _ _ _ _ _ dX6_readTerm_170 h1 hP hD hS
                      · replace h := (if_neg c88).symm.trans h
                        refine lv_aload_n hx hb dX6_readTerm_155 rfl (lv_at hl 5 rfl) ?_
                        refine gt_X6_25 hC hK hP dX6_readTerm_156 ?_
                        refine lv_aload_n hx hb dX6_readTerm_159 rfl (lv_at hl 5 rfl) ?_
                        refine gt_X6_13 hC hK hP dX6_readTerm_160 ?_
                        refine lv_icmp_ge (tgt := 171) hx hb dX6_readTerm_163 (by decide) (fun c89 => ?_) (fun c89 => ?_)
                        · replace h := (if_pos c89).symm.trans h
                          refine lv_aload_n hx hb dX6_readTerm_171 rfl (lv_at hl 6 rfl) ?_
                          refine lv_iload_n hx hb dX6_readTerm_172 rfl (lv_at hl 4 rfl) ?_
                          refine lv_iload hx hb dX6_readTerm_173 (lv_at hl 2 rfl) ?_
                          refine lv_iload hx hb dX6_readTerm_175 (lv_at hl 1 rfl) ?_
                          refine lv_iload hx hb dX6_readTerm_177 (lv_at hl 0 rfl) ?_
                          obtain ⟨⟨I90, J90⟩, hc90, h⟩ := ob h
                          dsimp only at h
                          refine callWVv (As := [.int r2, .int r58, .int (-1 : Int32), .int r87]) (rest := []) hC (c_X5_become l g ad I87 J87 t1 r2 r58 (-1 : Int32) r87 hT1 H.size hc90) lk_X6_92 rfl rfl ⟨Nat.le_of_ble_eq_true rfl, Nat.le_of_ble_eq_true rfl⟩ hP hK hD hA hS (xTo hT1) rfl rfl rfl hl (Nat.le_of_ble_eq_true rfl) dX6_readTerm_179 (fun H locs hP hD hS => ?_)
                          refine lv_iconst (v := -1) hx hb dX6_readTerm_182 (by decide) ?_
                          obtain ⟨h1, h⟩ := Prod.mk.inj (Option.some.inj h)
                          obtain ⟨rfl, rfl⟩ := Prod.mk.inj h
                          exact hret _ _ _ _ _ dX6_readTerm_183 h1 hP hD hS
                        · replace h := (if_neg c89).symm.trans h
                          refine lv_aload_n hx hb dX6_readTerm_166 rfl (lv_at hl 5 rfl) ?_
                          refine gt_X6_25 hC hK hP dX6_readTerm_167 ?_
                          obtain ⟨h1, h⟩ := Prod.mk.inj (Option.some.inj h)
                          obtain ⟨rfl, rfl⟩ := Prod.mk.inj h
                          exact hret _ _ _ _ _ dX6_readTerm_170 h1 hP hD hS
                · replace h := (if_neg c77).symm.trans h
                  refine lv_aload_n hx hb dX6_readTerm_115 rfl (lv_at hl 4 rfl) ?_
                  refine gt_X6_25 hC hK hP dX6_readTerm_116 ?_
                  obtain ⟨h1, h⟩ := Prod.mk.inj (Option.some.inj h)
                  obtain ⟨rfl, rfl⟩ := Prod.mk.inj h
                  exact hret _ _ _ _ _ dX6_readTerm_119 h1 hP hD hS
              · replace h := (if_neg c76).symm.trans h
                refine lv_aload_n hx hb dX6_readTerm_96 rfl (lv_at hl 4 rfl) ?_
                refine lv_iload hx hb dX6_readTerm_97 (lv_at hl 1 rfl) ?_
                refine lv_bipush (v := 99) hx hb dX6_readTerm_99 (by decide) ?_
                obtain ⟨⟨r91, I91, J91⟩, hc91, h⟩ := ob h
                dsimp only at h
                refine callWVi (As := [.int r58, .int (99 : Int32)]) (rest := []) hC (c_X6_numberOf l g ad I75 J75 r58 (99 : Int32)  H.size hc91) lk_X6_89 rfl rfl ⟨Nat.le_of_ble_eq_true rfl, Nat.le_of_ble_eq_true rfl⟩ hP hK hD hA hS xo_45 rfl rfl rfl hl (Nat.le_of_ble_eq_true rfl) dX6_readTerm_101 (fun H locs hP hD hS => ?_)
                refine lv_goto (tgt := 108) hx hb dX6_readTerm_104 (by decide) ?_
                refine lv_istore (lv' := [(5, .int r91), (4, .int r58), (3, .int (1 : Int32)), (2, .int r2), (0, .ref (ad 45)), (1, .ref (ad t1))]) hx hb dX6_readTerm_108 hl (by decide) rfl (fun ls hl => ?_)
                refine lv_iload hx hb dX6_readTerm_110 (lv_at hl 0 rfl) ?_
                refine lv_if_ge (tgt := 120) hx hb dX6_readTerm_112 (by decide) (fun c92 => ?_) (fun c92 => ?_)
                · replace h := (if_pos c92).symm.trans h
                  refine lv_iconst (v := 0) hx hb dX6_readTerm_120 (by decide) ?_
                  refine lv_istore (lv' := [(6, .int (0 : Int32)), (5, .int r91), (4, .int r58), (3, .int (1 : Int32)), (2, .int r2), (0, .ref (ad 45)), (1, .ref (ad t1))]) hx hb dX6_readTerm_121 hl (by decide) rfl (fun ls hl => ?_)
                  refine lv_iload_n hx hb dX6_readTerm_123 rfl (lv_at hl 4 rfl) ?_
                  refine lv_iconst (v := 3) hx hb dX6_readTerm_124 (by decide) ?_
                  refine lv_icmp_lt (tgt := 150) hx hb dX6_readTerm_125 (by decide) (fun c93 => ?_) (fun c93 => ?_)
                  · replace h := (if_pos c93).symm.trans h
                    refine lv_iload hx hb dX6_readTerm_150 (lv_at hl 0 rfl) ?_
                    refine lv_if_lt (tgt := 166) hx hb dX6_readTerm_152 (by decide) (fun c94 => ?_) (fun c94 => ?_)
                    · replace h := (if_pos c94).symm.trans h
                      refine lv_aload_n hx hb dX6_readTerm_166 rfl (lv_at hl 5 rfl) ?_
                      refine gt_X6_25 hC hK hP dX6_readTerm_167 ?_
                      obtain ⟨h1, h⟩ := Prod.mk.inj (Option.some.inj h)
                      obtain ⟨rfl, rfl⟩ := Prod.mk.inj h
                      exact hret _ _ _ _ _ dX6_readTerm_170 h1 hP hD hS
                    · replace h := (if_neg c94).symm.trans h
                      refine lv_aload_n hx hb dX6_readTerm_155 rfl (lv_at hl 5 rfl) ?_
                      refine gt_X6_25 hC hK hP dX6_readTerm_156 ?_
                      refine lv_aload_n hx hb dX6_readTerm_159 rfl (lv_at hl 5 rfl) ?_
                      refine gt_X6_13 hC hK hP dX6_readTerm_160 ?_
                      refine lv_icmp_ge (tgt := 171) hx hb dX6_readTerm_163 (by decide) (fun c95 => ?_) (fun c95 => ?_)
                      · replace h := (if_pos c95).symm.trans h
                        refine lv_aload_n hx hb dX6_readTerm_171 rfl (lv_at hl 6 rfl) ?_
                        refine lv_iload_n hx hb dX6_readTerm_172 rfl (lv_at hl 4 rfl) ?_
                        refine lv_iload hx hb dX6_readTerm_173 (lv_at hl 2 rfl) ?_
                        refine lv_iload hx hb dX6_readTerm_175 (lv_at hl 1 rfl) ?_
                        refine lv_iload hx hb dX6_readTerm_177 (lv_at hl 0 rfl) ?_
                        obtain ⟨⟨I96, J96⟩, hc96, h⟩ := ob h
                        dsimp only at h
                        refine callWVv (As := [.int r2, .int r58, .int r91, .int (0 : Int32)]) (rest := []) hC (c_X5_become l g ad I91 J91 t1 r2 r58 r91 (0 : Int32) hT1 H.size hc96) lk_X6_92 rfl rfl ⟨Nat.le_of_ble_eq_true rfl, Nat.le_of_ble_eq_true rfl⟩ hP hK hD hA hS (xTo hT1) rfl rfl rfl hl (Nat.le_of_ble_eq_true rfl) dX6_readTerm_179 (fun H locs hP hD hS => ?_)
                        refine lv_iconst (v := -1) hx hb dX6_readTerm_182 (by decide) ?_
                        obtain ⟨h1, h⟩ := Prod.mk.inj (Option.some.inj h)
                        obtain ⟨rfl, rfl⟩ := Prod.mk.inj h
                        exact hret _ _ _ _ _ dX6_readTerm_183 h1 hP hD hS
                      · replace h := (if_neg c95).symm.trans h
                        refine lv_aload_n hx hb dX6_readTerm_166 rfl (lv_at hl 5 rfl) ?_
                        refine gt_X6_25 hC hK hP dX6_readTerm_167 ?_
                        obtain ⟨h1, h⟩ := Prod.mk.inj (Option.some.inj h)
                        obtain ⟨rfl, rfl⟩ := Prod.mk.inj h
                        exact hret _ _ _ _ _ dX6_readTerm_170 h1 hP hD hS
                  · replace h := (if_neg c93).symm.trans h
                    refine lv_aload_n hx hb dX6_readTerm_128 rfl (lv_at hl 5 rfl) ?_
                    refine lv_bipush (v := 43) hx hb dX6_readTerm_129 (by decide) ?_
                    obtain ⟨⟨r97, I97, J97⟩, hc97, h⟩ := ob h
                    dsimp only at h
                    refine callWVi (As := [.int (43 : Int32)]) (rest := []) hC (c_X6_skip l g ad I91 J91 (43 : Int32)  H.size hc97) lk_X6_60 rfl rfl ⟨Nat.le_of_ble_eq_true rfl, Nat.le_of_ble_eq_true rfl⟩ hP hK hD hA hS xo_45 rfl rfl rfl hl (Nat.le_of_ble_eq_true rfl) dX6_readTerm_131 (fun H locs hP hD hS => ?_)
                    refine lv_if_eq (tgt := 147) hx hb dX6_readTerm_134 (by decide) (fun c98 => ?_) (fun c98 => ?_)
                    · replace h := (if_pos c98).symm.trans h
                      refine lv_iconst (v := -1) hx hb dX6_readTerm_147 (by decide) ?_
                      refine lv_istore (lv' := [(6, .int (-1 : Int32)), (5, .int r91), (4, .int r58), (3, .int (1 : Int32)), (2, .int r2), (0, .ref (ad 45)), (1, .ref (ad t1))]) hx hb dX6_readTerm_148 hl (by decide) rfl (fun ls hl => ?_)
                      refine lv_iload hx hb dX6_readTerm_150 (lv_at hl 0 rfl) ?_
                      refine lv_if_lt (tgt := 166) hx hb dX6_readTerm_152 (by decide) (fun c99 => ?_) (fun c99 => ?_)
                      · replace h := (if_pos c99).symm.trans h
                        refine lv_aload_n hx hb dX6_readTerm_166 rfl (lv_at hl 5 rfl) ?_
                        refine gt_X6_25 hC hK hP dX6_readTerm_167 ?_
                        obtain ⟨h1, h⟩ := Prod.mk.inj (Option.some.inj h)
                        obtain ⟨rfl, rfl⟩ := Prod.mk.inj h
                        exact hret _ _ _ _ _ dX6_readTerm_170 h1 hP hD hS
                      · replace h := (if_neg c99).symm.trans h
                        refine lv_aload_n hx hb dX6_readTerm_155 rfl (lv_at hl 5 rfl) ?_
                        refine gt_X6_25 hC hK hP dX6_readTerm_156 ?_
                        refine lv_aload_n hx hb dX6_readTerm_159 rfl (lv_at hl 5 rfl) ?_
                        refine gt_X6_13 hC hK hP dX6_readTerm_160 ?_
                        refine lv_icmp_ge (tgt := 171) hx hb dX6_readTerm_163 (by decide) (fun c100 => ?_) (fun c100 => ?_)
                        · replace h := (if_pos c100).symm.trans h
                          refine lv_aload_n hx hb dX6_readTerm_171 rfl (lv_at hl 6 rfl) ?_
                          refine lv_iload_n hx hb dX6_readTerm_172 rfl (lv_at hl 4 rfl) ?_
                          refine lv_iload hx hb dX6_readTerm_173 (lv_at hl 2 rfl) ?_
                          refine lv_iload hx hb dX6_readTerm_175 (lv_at hl 1 rfl) ?_
                          refine lv_iload hx hb dX6_readTerm_177 (lv_at hl 0 rfl) ?_
                          obtain ⟨⟨I101, J101⟩, hc101, h⟩ := ob h
                          dsimp only at h
                          refine callWVv (As := [.int r2, .int r58, .int r91, .int (-1 : Int32)]) (rest := []) hC (c_X5_become l g ad I97 J97 t1 r2 r58 r91 (-1 : Int32) hT1 H.size hc101) lk_X6_92 rfl rfl ⟨Nat.le_of_ble_eq_true rfl, Nat.le_of_ble_eq_true rfl⟩ hP hK hD hA hS (xTo hT1) rfl rfl rfl hl (Nat.le_of_ble_eq_true rfl) dX6_readTerm_179 (fun H locs hP hD hS => ?_)
                          refine lv_iconst (v := -1) hx hb dX6_readTerm_182 (by decide) ?_
                          obtain ⟨h1, h⟩ := Prod.mk.inj (Option.some.inj h)
                          obtain ⟨rfl, rfl⟩ := Prod.mk.inj h
                          exact hret _ _ _ _ _ dX6_readTerm_183 h1 hP hD hS
                        · replace h := (if_neg c100).symm.trans h
                          refine lv_aload_n hx hb dX6_readTerm_166 rfl (lv_at hl 5 rfl) ?_
                          refine gt_X6_25 hC hK hP dX6_readTerm_167 ?_
                          obtain ⟨h1, h⟩ := Prod.mk.inj (Option.some.inj h)
                          obtain ⟨rfl, rfl⟩ := Prod.mk.inj h
                          exact hret _ _ _ _ _ dX6_readTerm_170 h1 hP hD hS
                    · replace h := (if_neg c98).symm.trans h
                      refine lv_aload_n hx hb dX6_readTerm_137 rfl (lv_at hl 5 rfl) ?_
                      refine lv_iconst (v := 0) hx hb dX6_readTerm_138 (by decide) ?_
                      refine lv_bipush (v := 99) hx hb dX6_readTerm_139 (by decide) ?_
                      obtain ⟨⟨r102, I102, J102⟩, hc102, h⟩ := ob h
                      dsimp only at h
                      refine callWVi (As := [.int (0 : Int32), .int (99 : Int32)]) (rest := []) hC (c_X6_numberOf l g ad I97 J97 (0 : Int32) (99 : Int32)  H.size hc102) lk_X6_89 rfl rfl ⟨Nat.le_of_ble_eq_true rfl, Nat.le_of_ble_eq_true rfl⟩ hP hK hD hA hS xo_45 rfl rfl rfl hl (Nat.le_of_ble_eq_true rfl) dX6_readTerm_141 (fun H locs hP hD hS => ?_)
                      refine lv_goto (tgt := 148) hx hb dX6_readTerm_144 (by decide) ?_
                      refine lv_istore (lv' := [(6, .int r102), (5, .int r91), (4, .int r58), (3, .int (1 : Int32)), (2, .int r2), (0, .ref (ad 45)), (1, .ref (ad t1))]) hx hb dX6_readTerm_148 hl (by decide) rfl (fun ls hl => ?_)
                      refine lv_iload hx hb dX6_readTerm_150 (lv_at hl 0 rfl) ?_
                      refine lv_if_lt (tgt := 166) hx hb dX6_readTerm_152 (by decide) (fun c103 => ?_) (fun c103 => ?_)
                      · replace h := (if_pos c103).symm.trans h
                        refine lv_aload_n hx hb dX6_readTerm_166 rfl (lv_at hl 5 rfl) ?_
                        refine gt_X6_25 hC hK hP dX6_readTerm_167 ?_
                        obtain ⟨h1, h⟩ := Prod.mk.inj (Option.some.inj h)
                        obtain ⟨rfl, rfl⟩ := Prod.mk.inj h
                        exact hret _ _ _ _ _ dX6_readTerm_170 h1 hP hD hS
                      · replace h := (if_neg c103).symm.trans h
                        refine lv_aload_n hx hb dX6_readTerm_155 rfl (lv_at hl 5 rfl) ?_
                        refine gt_X6_25 hC hK hP dX6_readTerm_156 ?_
                        refine lv_aload_n hx hb dX6_readTerm_159 rfl (lv_at hl 5 rfl) ?_
                        refine gt_X6_13 hC hK hP dX6_readTerm_160 ?_
                        refine lv_icmp_ge (tgt := 171) hx hb dX6_readTerm_163 (by decide) (fun c104 => ?_) (fun c104 => ?_)
                        · replace h := (if_pos c104).symm.trans h
                          refine lv_aload_n hx hb dX6_readTerm_171 rfl (lv_at hl 6 rfl) ?_
                          refine lv_iload_n hx hb dX6_readTerm_172 rfl (lv_at hl 4 rfl) ?_
                          refine lv_iload hx hb dX6_readTerm_173 (lv_at hl 2 rfl) ?_
                          refine lv_iload hx hb dX6_readTerm_175 (lv_at hl 1 rfl) ?_
                          refine lv_iload hx hb dX6_readTerm_177 (lv_at hl 0 rfl) ?_
                          obtain ⟨⟨I105, J105⟩, hc105, h⟩ := ob h
                          dsimp only at h
                          refine callWVv (As := [.int r2, .int r58, .int r91, .int r102]) (rest := []) hC (c_X5_become l g ad I102 J102 t1 r2 r58 r91 r102 hT1 H.size hc105) lk_X6_92 rfl rfl ⟨Nat.le_of_ble_eq_true rfl, Nat.le_of_ble_eq_true rfl⟩ hP hK hD hA hS (xTo hT1) rfl rfl rfl hl (Nat.le_of_ble_eq_true rfl) dX6_readTerm_179 (fun H locs hP hD hS => ?_)
                          refine lv_iconst (v := -1) hx hb dX6_readTerm_182 (by decide) ?_
                          obtain ⟨h1, h⟩ := Prod.mk.inj (Option.some.inj h)
                          obtain ⟨rfl, rfl⟩ := Prod.mk.inj h
                          exact hret _ _ _ _ _ dX6_readTerm_183 h1 hP hD hS
                        · replace h := (if_neg c104).symm.trans h
                          refine lv_aload_n hx hb dX6_readTerm_166 rfl (lv_at hl 5 rfl) ?_
                          refine gt_X6_25 hC hK hP dX6_readTerm_167 ?_
                          obtain ⟨h1, h⟩ := Prod.mk.inj (Option.some.inj h)
                          obtain ⟨rfl, rfl⟩ := Prod.mk.inj h
                          exact hret _ _ _ _ _ dX6_readTerm_170 h1 hP hD hS
                · replace h := (if_neg c92).symm.trans h
                  refine lv_aload_n hx hb dX6_readTerm_115 rfl (lv_at hl 4 rfl) ?_
                  refine gt_X6_25 hC hK hP dX6_readTerm_116 ?_
                  obtain ⟨h1, h⟩ := Prod.mk.inj (Option.some.inj h)
                  obtain ⟨rfl, rfl⟩ := Prod.mk.inj h
                  exact hret _ _ _ _ _ dX6_readTerm_119 h1 hP hD hS
          · replace h := (if_neg c59).symm.trans h
            refine lv_aload_n hx hb dX6_readTerm_75 rfl (lv_at hl 3 rfl) ?_
            refine gt_X6_25 hC hK hP dX6_readTerm_76 ?_
            obtain ⟨h1, h⟩ := Prod.mk.inj (Option.some.inj h)
            obtain ⟨rfl, rfl⟩ := Prod.mk.inj h
            exact hret _ _ _ _ _ dX6_readTerm_79 h1 hP hD hS
      · replace h := (if_neg c55).symm.trans h
        refine lv_iload_n hx hb dX6_readTerm_42 rfl (lv_at hl 0 rfl) ?_
        refine lv_iconst (v := 4) hx hb dX6_readTerm_43 (by decide) ?_
        refine tern (α := Int32) (cnd := r2 = (4 : Int32)) (a := (1 : Int32)) (b := (0 : Int32)) (Wj := fun vj => W p l e (k2_rm 4 87) s m args below meth c H locs 0 0 Q (F0 m 52 ls [.int vj])) (fun k107a k107b => ?_) ?_
        · refine lv_icmp_ne (tgt := 51) hx hb dX6_readTerm_44 (by decide) (fun c106 => ?_) (fun c106 => ?_)
          · refine lv_iconst (v := 0) hx hb dX6_readTerm_51 (by decide) ?_
            exact k107b c106
          · refine lv_iconst (v := 1) hx hb dX6_readTerm_47 (by decide) ?_
            refine lv_goto (tgt := 52) hx hb dX6_readTerm_48 (by decide) ?_
            exact k107a c106
        · show W p l e (k2_rm 4 87) s m args below meth c H locs 0 0 Q (F0 m 52 ls [.int (if r2 = (4 : Int32) then (1 : Int32) else (0 : Int32))])
          refine lv_istore_n (lv' := [(3, .int (if r2 = (4 : Int32) then (1 : Int32) else (0 : Int32))), (2, .int r2), (0, .ref (ad 45)), (1, .ref (ad t1))]) hx hb dX6_readTerm_52 rfl hl (by decide) rfl (fun ls hl => ?_)
          refine lv_aload_n hx hb dX6_readTerm_53 rfl (lv_at hl 2 rfl) ?_
          refine lv_iload_n hx hb dX6_readTerm_54 rfl (lv_at hl 0 rfl) ?_
          refine tern (α := Int32) (cnd := (if r2 = (4 : Int32) then (1 : Int32) else (0 : Int32)) = 0) (a := (0 : Int32)) (b := (1 : Int32)) (Wj := fun vj => W p l e (k2_rm 4 87) s m args below meth c H locs 0 0 Q (F0 m 63 ls [.int vj, .ref (ad 45)])) (fun k109a k109b => ?_) ?_
          · refine lv_if_eq (tgt := 62) hx hb dX6_readTerm_55 (by decide) (fun c108 => ?_) (fun c108 => ?_)
            · refine lv_iconst (v := 0) hx hb dX6_readTerm_62 (by decide) ?_
              exact k109a c108
            · refine lv_iconst (v := 1) hx hb dX6_readTerm_58 (by decide) ?_
              refine lv_goto (tgt := 63) hx hb dX6_readTerm_59 (by decide) ?_
              exact k109b c108
          · show W p l e (k2_rm 4 87) s m args below meth c H locs 0 0 Q (F0 m 63 ls [.int (if (if r2 = (4 : Int32) then (1 : Int32) else (0 : Int32)) = 0 then (0 : Int32) else (1 : Int32)), .ref (ad 45)])
            refine lv_bipush (v := 99) hx hb dX6_readTerm_63 (by decide) ?_
            obtain ⟨⟨r110, I110, J110⟩, hc110, h⟩ := ob h
            dsimp only at h
            refine callWVi (As := [.int (if (if r2 = (4 : Int32) then (1 : Int32) else (0 : Int32)) = 0 then (0 : Int32) else (1 : Int32)), .int (99 : Int32)]) (rest := []) hC (c_X6_numberOf l g ad (u2 (u2 I 45 2 (0 : Int32)) 45 2 (((u2 I 45 2 (0 : Int32)) 45 2) + (1 : Int32))) J (if (if r2 = (4 : Int32) then (1 : Int32) else (0 : Int32)) = 0 then (0 : Int32) else (1 : Int32)) (99 : Int32)  H.size hc110) lk_X6_89 rfl rfl ⟨Nat.le_of_ble_eq_true rfl, Nat.le_of_ble_eq_true rfl⟩ hP hK hD hA hS xo_45 rfl rfl rfl hl (Nat.le_of_ble_eq_true rfl) dX6_readTerm_65 (fun H locs hP hD hS => ?_)
            refine lv_istore (lv' := [(4, .int r110), (3, .int (if r2 = (4 : Int32) then (1 : Int32) else (0 : Int32))), (2, .int r2), (0, .ref (ad 45)), (1, .ref (ad t1))]) hx hb dX6_readTerm_68 hl (by decide) rfl (fun ls hl => ?_)
            refine lv_iload hx hb dX6_readTerm_70 (lv_at hl 0 rfl) ?_
            refine lv_if_ge (tgt := 80) hx hb dX6_readTerm_72 (by decide) (fun c111 => ?_) (fun c111 => ?_)
            · replace h := (if_pos c111).symm.trans h
              refine lv_iconst (v := 0) hx hb dX6_readTerm_80 (by decide) ?_
              refine lv_istore (lv' := [(5, .int (0 : Int32)), (4, .int r110), (3, .int (if r2 = (4 : Int32) then (1 : Int32) else (0 : Int32))), (2, .int r2), (0, .ref (ad 45)), (1, .ref (ad t1))]) hx hb dX6_readTerm_81 hl (by decide) rfl (fun ls hl => ?_)
              refine lv_iload_n hx hb dX6_readTerm_83 rfl (lv_at hl 2 rfl) ?_
              refine lv_if_eq (tgt := 110) hx hb dX6_readTerm_84 (by decide) (fun c112 => ?_) (fun c112 => ?_)
              · replace h := (if_pos c112).symm.trans h
                refine lv_iload hx hb dX6_readTerm_110 (lv_at hl 0 rfl) ?_
                refine lv_if_ge (tgt := 120) hx hb dX6_readTerm_112 (by decide) (fun c113 => ?_) (fun c113 => ?_)
                · replace h := (if_pos c113).symm.trans h
                  refine lv_iconst (v := 0) hx hb dX6_readTerm_120 (by decide) ?_
                  refine lv_istore (lv' := [(6, .int (0 : Int32)), (5, .int (0 : Int32)), (4, .int r110), (3, .int (if r2 = (4 : Int32) then (1 : Int32) else (0 : Int32))), (2, .int r2), (0, .ref (ad 45)), (1, .ref (ad t1))]) hx hb dX6_readTerm_121 hl (by decide) rfl (fun ls hl => ?_)
                  refine lv_iload_n hx hb dX6_readTerm_123 rfl (lv_at hl 4 rfl) ?_
                  refine lv_iconst (v := 3) hx hb dX6_readTerm_124 (by decide) ?_
                  refine lv_icmp_lt (tgt := 150) hx hb dX6_readTerm_125 (by decide) (fun c114 => ?_) (fun c114 => ?_)
                  · replace h := (if_pos c114).symm.trans h
                    refine lv_iload hx hb dX6_readTerm_150 (lv_at hl 0 rfl) ?_
                    refine lv_if_lt (tgt := 166) hx hb dX6_readTerm_152 (by decide) (fun c115 => ?_) (fun c115 => ?_)
                    · replace h := (if_pos c115).symm.trans h
                      refine lv_aload_n hx hb dX6_readTerm_166 rfl (lv_at hl 5 rfl) ?_
                      refine gt_X6_25 hC hK hP dX6_readTerm_167 ?_
                      obtain ⟨h1, h⟩ := Prod.mk.inj (Option.some.inj h)
                      obtain ⟨rfl, rfl⟩ := Prod.mk.inj h
                      exact hret _ _ _ _ _ dX6_readTerm_170 h1 hP hD hS
                    · replace h := (if_neg c115).symm.trans h
                      refine lv_aload_n hx hb dX6_readTerm_155 rfl (lv_at hl 5 rfl) ?_
                      refine gt_X6_25 hC hK hP dX6_readTerm_156 ?_
                      refine lv_aload_n hx hb dX6_readTerm_159 rfl (lv_at hl 5 rfl) ?_
                      refine gt_X6_13 hC hK hP dX6_readTerm_160 ?_
                      refine lv_icmp_ge (tgt := 171) hx hb dX6_readTerm_163 (by decide) (fun c116 => ?_) (fun c116 => ?_)
                      · replace h := (if_pos c116).symm.trans h
                        refine lv_aload_n hx hb dX6_readTerm_171 rfl (lv_at hl 6 rfl) ?_
                        refine lv_iload_n hx hb dX6_readTerm_172 rfl (lv_at hl 4 rfl) ?_
                        refine lv_iload hx hb dX6_readTerm_173 (lv_at hl 2 rfl) ?_
                        refine lv_iload hx hb dX6_readTerm_175 (lv_at hl 1 rfl) ?_
                        refine lv_iload hx hb dX6_readTerm_177 (lv_at hl 0 rfl) ?_
                        obtain ⟨⟨I117, J117⟩, hc117, h⟩ := ob h
                        dsimp only at h
                        refine callWVv (As := [.int r2, .int r110, .int (0 : Int32), .int (0 : Int32)]) (rest := []) hC (c_X5_become l g ad I110 J110 t1 r2 r110 (0 : Int32) (0 : Int32) hT1 H.size hc117) lk_X6_92 rfl rfl ⟨Nat.le_of_ble_eq_true rfl, Nat.le_of_ble_eq_true rfl⟩ hP hK hD hA hS (xTo hT1) rfl rfl rfl hl (Nat.le_of_ble_eq_true rfl) dX6_readTerm_179 (fun H locs hP hD hS => ?_)
                        refine lv_iconst (v := -1) hx hb dX6_readTerm_182 (by decide) ?_
                        obtain ⟨h1, h⟩ := Prod.mk.inj (Option.some.inj h)
                        obtain ⟨rfl, rfl⟩ := Prod.mk.inj h
                        exact hret _ _ _ _ _ dX6_readTerm_183 h1 hP hD hS
                      · replace h := (if_neg c116).symm.trans h
                        refine lv_aload_n hx hb dX6_readTerm_166 rfl (lv_at hl 5 rfl) ?_
                        refine gt_X6_25 hC hK hP dX6_readTerm_167 ?_
                        obtain ⟨h1, h⟩ := Prod.mk.inj (Option.some.inj h)
                        obtain ⟨rfl, rfl⟩ := Prod.mk.inj h
                        exact hret _ _ _ _ _ dX6_readTerm_170 h1 hP hD hS
                  · replace h := (if_neg c114).symm.trans h
                    refine lv_aload_n hx hb dX6_readTerm_128 rfl (lv_at hl 5 rfl) ?_
                    refine lv_bipush (v := 43) hx hb dX6_readTerm_129 (by decide) ?_
                    obtain ⟨⟨r118, I118, J118⟩, hc118, h⟩ := ob h
                    dsimp only at h
                    refine callWVi (As := [.int (43 : Int32)]) (rest := []) hC (c_X6_skip l g ad I110 J110 (43 : Int32)  H.size hc118) lk_X6_60 rfl rfl ⟨Nat.le_of_ble_eq_true rfl, Nat.le_of_ble_eq_true rfl⟩ hP hK hD hA hS xo_45 rfl rfl rfl hl (Nat.le_of_ble_eq_true rfl) dX6_readTerm_131 (fun H locs hP hD hS => ?_)
                    refine lv_if_eq (tgt := 147) hx hb dX6_readTerm_134 (by decide) (fun c119 => ?_) (fun c119 => ?_)
                    · replace h := (if_pos c119).symm.trans h
                      refine lv_iconst (v := -1) hx hb dX6_readTerm_147 (by decide) ?_
                      refine lv_istore (lv' := [(6, .int (-1 : Int32)), (5, .int (0 : Int32)), (4, .int r110), (3, .int (if r2 = (4 : Int32) then (1 : Int32) else (0 : Int32))), (2, .int r2), (0, .ref (ad 45)), (1, .ref (ad t1))]) hx hb dX6_readTerm_148 hl (by decide) rfl (fun ls hl => ?_)
                      refine lv_iload hx hb dX6_readTerm_150 (lv_at hl 0 rfl) ?_
                      refine lv_if_lt (tgt := 166) hx hb dX6_readTerm_152 (by decide) (fun c120 => ?_) (fun c120 => ?_)
                      · replace h := (if_pos c120).symm.trans h
                        refine lv_aload_n hx hb dX6_readTerm_166 rfl (lv_at hl 5 rfl) ?_
                        refine gt_X6_25 hC hK hP dX6_readTerm_167 ?_
                        obtain ⟨h1, h⟩ := Prod.mk.inj (Option.some.inj h)
                        obtain ⟨rfl, rfl⟩ := Prod.mk.inj h
                        exact hret _ _ _ _ _ dX6_readTerm_170 h1 hP hD hS
                      · replace h := (if_neg c120).symm.trans h
                        refine lv_aload_n hx hb dX6_readTerm_155 rfl (lv_at hl 5 rfl) ?_
                        refine gt_X6_25 hC hK hP dX6_readTerm_156 ?_
                        refine lv_aload_n hx hb dX6_readTerm_159 rfl (lv_at hl 5 rfl) ?_
                        refine gt_X6_13 hC hK hP dX6_readTerm_160 ?_
                        refine lv_icmp_ge (tgt := 171) hx hb dX6_readTerm_163 (by decide) (fun c121 => ?_) (fun c121 => ?_)
                        · replace h := (if_pos c121).symm.trans h
                          refine lv_aload_n hx hb dX6_readTerm_171 rfl (lv_at hl 6 rfl) ?_
                          refine lv_iload_n hx hb dX6_readTerm_172 rfl (lv_at hl 4 rfl) ?_
                          refine lv_iload hx hb dX6_readTerm_173 (lv_at hl 2 rfl) ?_
                          refine lv_iload hx hb dX6_readTerm_175 (lv_at hl 1 rfl) ?_
                          refine lv_iload hx hb dX6_readTerm_177 (lv_at hl 0 rfl) ?_
                          obtain ⟨⟨I122, J122⟩, hc122, h⟩ := ob h
                          dsimp only at h
                          refine callWVv (As := [.int r2, .int r110, .int (0 : Int32), .int (-1 : Int32)]) (rest := []) hC (c_X5_become l g ad I118 J118 t1 r2 r110 (0 : Int32) (-1 : Int32) hT1 H.size hc122) lk_X6_92 rfl rfl ⟨Nat.le_of_ble_eq_true rfl, Nat.le_of_ble_eq_true rfl⟩ hP hK hD hA hS (xTo hT1) rfl rfl rfl hl (Nat.le_of_ble_eq_true rfl) dX6_readTerm_179 (fun H locs hP hD hS => ?_)
                          refine lv_iconst (v := -1) hx hb dX6_readTerm_182 (by decide) ?_
                          obtain ⟨h1, h⟩ := Prod.mk.inj (Option.some.inj h)
                          obtain ⟨rfl, rfl⟩ := Prod.mk.inj h
                          exact hret _ _ _ _ _ dX6_readTerm_183 h1 hP hD hS
                        · replace h := (if_neg c121).symm.trans h
                          refine lv_aload_n hx hb dX6_readTerm_166 rfl (lv_at hl 5 rfl) ?_
                          refine gt_X6_25 hC hK hP dX6_readTerm_167 ?_
                          obtain ⟨h1, h⟩ := Prod.mk.inj (Option.some.inj h)
                          obtain ⟨rfl, rfl⟩ := Prod.mk.inj h
                          exact hret _ _ _ _ _ dX6_readTerm_170 h1 hP hD hS
                    · replace h := (if_neg c119).symm.trans h
                      refine lv_aload_n hx hb dX6_readTerm_137 rfl (lv_at hl 5 rfl) ?_
                      refine lv_iconst (v := 0) hx hb dX6_readTerm_138 (by decide) ?_
                      refine lv_bipush (v := 99) hx hb dX6_readTerm_139 (by decide) ?_
                      obtain ⟨⟨r123, I123, J123⟩, hc123, h⟩ := ob h
                      dsimp only at h
                      refine callWVi (As := [.int (0 : Int32), .int (99 : Int32)]) (rest := []) hC (c_X6_numberOf l g ad I118 J118 (0 : Int32) (99 : Int32)  H.size hc123) lk_X6_89 rfl rfl ⟨Nat.le_of_ble_eq_true rfl, Nat.le_of_ble_eq_true rfl⟩ hP hK hD hA hS xo_45 rfl rfl rfl hl (Nat.le_of_ble_eq_true rfl) dX6_readTerm_141 (fun H locs hP hD hS => ?_)
                      refine lv_goto (tgt := 148) hx hb dX6_readTerm_144 (by decide) ?_
                      refine lv_istore (lv' := [(6, .int r123), (5, .int (0 : Int32)), (4, .int r110), (3, .int (if r2 = (4 : Int32) then (1 : Int32) else (0 : Int32))), (2, .int r2), (0, .ref (ad 45)), (1, .ref (ad t1))]) hx hb dX6_readTerm_148 hl (by decide) rfl (fun ls hl => ?_)
                      refine lv_iload hx hb dX6_readTerm_150 (lv_at hl 0 rfl) ?_
                      refine lv_if_lt (tgt := 166) hx hb dX6_readTerm_152 (by decide) (fun c124 => ?_) (fun c124 => ?_)
                      · replace h := (if_pos c124).symm.trans h
                        refine lv_aload_n hx hb dX6_readTerm_166 rfl (lv_at hl 5 rfl) ?_
                        refine gt_X6_25 hC hK hP dX6_readTerm_167 ?_
                        obtain ⟨h1, h⟩ := Prod.mk.inj (Option.some.inj h)
                        obtain ⟨rfl, rfl⟩ := Prod.mk.inj h
                        exact hret _ _ _ _ _ dX6_readTerm_170 h1 hP hD hS
                      · replace h := (if_neg c124).symm.trans h
                        refine lv_aload_n hx hb dX6_readTerm_155 rfl (lv_at hl 5 rfl) ?_
                        refine gt_X6_25 hC hK hP dX6_readTerm_156 ?_
                        refine lv_aload_n hx hb dX6_readTerm_159 rfl (lv_at hl 5 rfl) ?_
                        refine gt_X6_13 hC hK hP dX6_readTerm_160 ?_
                        refine lv_icmp_ge (tgt := 171) hx hb dX6_readTerm_163 (by decide) (fun c125 => ?_) (fun c125 => ?_)
                        · replace h := (if_pos c125).symm.trans h
                          refine lv_aload_n hx hb dX6_readTerm_171 rfl (lv_at hl 6 rfl) ?_
                          refine lv_iload_n hx hb dX6_readTerm_172 rfl (lv_at hl 4 rfl) ?_
                          refine lv_iload hx hb dX6_readTerm_173 (lv_at hl 2 rfl) ?_
                          refine lv_iload hx hb dX6_readTerm_175 (lv_at hl 1 rfl) ?_
                          refine lv_iload hx hb dX6_readTerm_177 (lv_at hl 0 rfl) ?_
                          obtain ⟨⟨I126, J126⟩, hc126, h⟩ := ob h
                          dsimp only at h
                          refine callWVv (As := [.int r2, .int r110, .int (0 : Int32), .int r123]) (rest := []) hC (c_X5_become l g ad I123 J123 t1 r2 r110 (0 : Int32) r123 hT1 H.size hc126) lk_X6_92 rfl rfl ⟨Nat.le_of_ble_eq_true rfl, Nat.le_of_ble_eq_true rfl⟩ hP hK hD hA hS (xTo hT1) rfl rfl rfl hl (Nat.le_of_ble_eq_true rfl) dX6_readTerm_179 (fun H locs hP hD hS => ?_)
                          refine lv_iconst (v := -1) hx hb dX6_readTerm_182 (by decide) ?_
                          obtain ⟨h1, h⟩ := Prod.mk.inj (Option.some.inj h)
                          obtain ⟨rfl, rfl⟩ := Prod.mk.inj h
                          exact hret _ _ _ _ _ dX6_readTerm_183 h1 hP hD hS
                        · replace h := (if_neg c125).symm.trans h
                          refine lv_aload_n hx hb dX6_readTerm_166 rfl (lv_at hl 5 rfl) ?_
                          refine gt_X6_25 hC hK hP dX6_readTerm_167 ?_
                          obtain ⟨h1, h⟩ := Prod.mk.inj (Option.some.inj h)
                          obtain ⟨rfl, rfl⟩ := Prod.mk.inj h
                          exact hret _ _ _ _ _ dX6_readTerm_170 h1 hP hD hS
                · replace h := (if_neg c113).symm.trans h
                  refine lv_aload_n hx hb dX6_readTerm_115 rfl (lv_at hl 4 rfl) ?_
                  refine gt_X6_25 hC hK hP dX6_readTerm_116 ?_
                  obtain ⟨h1, h⟩ := Prod.mk.inj (Option.some.inj h)
                  obtain ⟨rfl, rfl⟩ := Prod.mk.inj h
                  exact hret _ _ _ _ _ dX6_readTerm_119 h1 hP hD hS
              · replace h := (if_neg c112).symm.trans h
                refine lv_aload_n hx hb dX6_readTerm_87 rfl (lv_at hl 4 rfl) ?_
                refine lv_bipush (v := 47) hx hb dX6_readTerm_88 (by decide) ?_
                obtain ⟨⟨r127, I127, J127⟩, hc127, h⟩ := ob h
                dsimp only at h
                refine callWVi (As := [.int (47 : Int32)]) (rest := []) hC (c_X6_skip l g ad I110 J110 (47 : Int32)  H.size hc127) lk_X6_60 rfl rfl ⟨Nat.le_of_ble_eq_true rfl, Nat.le_of_ble_eq_true rfl⟩ hP hK hD hA hS xo_45 rfl rfl rfl hl (Nat.le_of_ble_eq_true rfl) dX6_readTerm_90 (fun H locs hP hD hS => ?_)
                refine lv_if_eq (tgt := 107) hx hb dX6_readTerm_93 (by decide) (fun c128 => ?_) (fun c128 => ?_)
                · replace h := (if_pos c128).symm.trans h
                  refine lv_iconst (v := -1) hx hb dX6_readTerm_107 (by decide) ?_
                  refine lv_istore (lv' := [(5, .int (-1 : Int32)), (4, .int r110), (3, .int (if r2 = (4 : Int32) then (1 : Int32) else (0 : Int32))), (2, .int r2), (0, .ref (ad 45)), (1, .ref (ad t1))]) hx hb dX6_readTerm_108 hl (by decide) rfl (fun ls hl => ?_)
                  refine lv_iload hx hb dX6_readTerm_110 (lv_at hl 0 rfl) ?_
                  refine lv_if_ge (tgt := 120) hx hb dX6_readTerm_112 (by decide) (fun c129 => ?_) (fun c129 => ?_)
                  · replace h := (if_pos c129).symm.trans h
                    refine lv_iconst (v := 0) hx hb dX6_readTerm_120 (by decide) ?_
                    refine lv_istore (lv' := [(6, .int (0 : Int32)), (5, .int (-1 : Int32)), (4, .int r110), (3, .int (if r2 = (4 : Int32) then (1 : Int32) else (0 : Int32))), (2, .int r2), (0, .ref (ad 45)), (1, .ref (ad t1))]) hx hb dX6_readTerm_121 hl (by decide) rfl (fun ls hl => ?_)
                    refine lv_iload_n hx hb dX6_readTerm_123 rfl (lv_at hl 4 rfl) ?_
                    refine lv_iconst (v := 3) hx hb dX6_readTerm_124 (by decide) ?_
                    refine lv_icmp_lt (tgt := 150) hx hb dX6_readTerm_125 (by decide) (fun c130 => ?_) (fun c130 => ?_)
                    · replace h := (if_pos c130).symm.trans h
                      refine lv_iload hx hb dX6_readTerm_150 (lv_at hl 0 rfl) ?_
                      refine lv_if_lt (tgt := 166) hx hb dX6_readTerm_152 (by decide) (fun c131 => ?_) (fun c131 => ?_)
                      · replace h := (if_pos c131).symm.trans h
                        refine lv_aload_n hx hb dX6_readTerm_166 rfl (lv_at hl 5 rfl) ?_
                        refine gt_X6_25 hC hK hP dX6_readTerm_167 ?_
                        obtain ⟨h1, h⟩ := Prod.mk.inj (Option.some.inj h)
                        obtain ⟨rfl, rfl⟩ := Prod.mk.inj h
                        exact hret _ _ _ _ _ dX6_readTerm_170 h1 hP hD hS
                      · replace h := (if_neg c131).symm.trans h
                        refine lv_aload_n hx hb dX6_readTerm_155 rfl (lv_at hl 5 rfl) ?_
                        refine gt_X6_25 hC hK hP dX6_readTerm_156 ?_
                        refine lv_aload_n hx hb dX6_readTerm_159 rfl (lv_at hl 5 rfl) ?_
                        refine gt_X6_13 hC hK hP dX6_readTerm_160 ?_
                        refine lv_icmp_ge (tgt := 171) hx hb dX6_readTerm_163 (by decide) (fun c132 => ?_) (fun c132 => ?_)
                        · replace h := (if_pos c132).symm.trans h
                          refine lv_aload_n hx hb dX6_readTerm_171 rfl (lv_at hl 6 rfl) ?_
                          refine lv_iload_n hx hb dX6_readTerm_172 rfl (lv_at hl 4 rfl) ?_
                          refine lv_iload hx hb dX6_readTerm_173 (lv_at hl 2 rfl) ?_
                          refine lv_iload hx hb dX6_readTerm_175 (lv_at hl 1 rfl) ?_
                          refine lv_iload hx hb dX6_readTerm_177 (lv_at hl 0 rfl) ?_
                          obtain ⟨⟨I133, J133⟩, hc133, h⟩ := ob h
                          dsimp only at h
                          refine callWVv (As := [.int r2, .int r110, .int (-1 : Int32), .int (0 : Int32)]) (rest := []) hC (c_X5_become l g ad I127 J127 t1 r2 r110 (-1 : Int32) (0 : Int32) hT1 H.size hc133) lk_X6_92 rfl rfl ⟨Nat.le_of_ble_eq_true rfl, Nat.le_of_ble_eq_true rfl⟩ hP hK hD hA hS (xTo hT1) rfl rfl rfl hl (Nat.le_of_ble_eq_true rfl) dX6_readTerm_179 (fun H locs hP hD hS => ?_)
                          refine lv_iconst (v := -1) hx hb dX6_readTerm_182 (by decide) ?_
                          obtain ⟨h1, h⟩ := Prod.mk.inj (Option.some.inj h)
                          obtain ⟨rfl, rfl⟩ := Prod.mk.inj h
                          exact hret _ _ _ _ _ dX6_readTerm_183 h1 hP hD hS
                        · replace h := (if_neg c132).symm.trans h
                          refine lv_aload_n hx hb dX6_readTerm_166 rfl (lv_at hl 5 rfl) ?_
                          refine gt_X6_25 hC hK hP dX6_readTerm_167 ?_
                          obtain ⟨h1, h⟩ := Prod.mk.inj (Option.some.inj h)
                          obtain ⟨rfl, rfl⟩ := Prod.mk.inj h
                          exact hret _ _ _ _ _ dX6_readTerm_170 h1 hP hD hS
                    · replace h := (if_neg c130).symm.trans h
                      refine lv_aload_n hx hb dX6_readTerm_128 rfl (lv_at hl 5 rfl) ?_
                      refine lv_bipush (v := 43) hx hb dX6_readTerm_129 (by decide) ?_
                      obtain ⟨⟨r134, I134, J134⟩, hc134, h⟩ := ob h
                      dsimp only at h
                      refine callWVi (As := [.int (43 : Int32)]) (rest := []) hC (c_X6_skip l g ad I127 J127 (43 : Int32)  H.size hc134) lk_X6_60 rfl rfl ⟨Nat.le_of_ble_eq_true rfl, Nat.le_of_ble_eq_true rfl⟩ hP hK hD hA hS xo_45 rfl rfl rfl hl (Nat.le_of_ble_eq_true rfl) dX6_readTerm_131 (fun H locs hP hD hS => ?_)
                      refine lv_if_eq (tgt := 147) hx hb dX6_readTerm_134 (by decide) (fun c135 => ?_) (fun c135 => ?_)
                      · replace h := (if_pos c135).symm.trans h
                        refine lv_iconst (v := -1) hx hb dX6_readTerm_147 (by decide) ?_
                        refine lv_istore (lv' := [(6, .int (-1 : Int32)), (5, .int (-1 : Int32)), (4, .int r110), (3, .int (if r2 = (4 : Int32) then (1 : Int32) else (0 : Int32))), (2, .int r2), (0, .ref (ad 45)), (1, .ref (ad t1))]) hx hb dX6_readTerm_148 hl (by decide) rfl (fun ls hl => ?_)
                        refine lv_iload hx hb dX6_readTerm_150 (lv_at hl 0 rfl) ?_
                        refine lv_if_lt (tgt := 166) hx hb dX6_readTerm_152 (by decide) (fun c136 => ?_) (fun c136 => ?_)
                        · replace h := (if_pos c136).symm.trans h
                          refine lv_aload_n hx hb dX6_readTerm_166 rfl (lv_at hl 5 rfl) ?_
                          refine gt_X6_25 hC hK hP dX6_readTerm_167 ?_
                          obtain ⟨h1, h⟩ := Prod.mk.inj (Option.some.inj h)
                          obtain ⟨rfl, rfl⟩ := Prod.mk.inj h
                          exact hret _ _ _ _ _ dX6_readTerm_170 h1 hP hD hS
                        · replace h := (if_neg c136).symm.trans h
                          refine lv_aload_n hx hb dX6_readTerm_155 rfl (lv_at hl 5 rfl) ?_
                          refine gt_X6_25 hC hK hP dX6_readTerm_156 ?_
                          refine lv_aload_n hx hb dX6_readTerm_159 rfl (lv_at hl 5 rfl) ?_
                          refine gt_X6_13 hC hK hP dX6_readTerm_160 ?_
                          refine lv_icmp_ge (tgt := 171) hx hb dX6_readTerm_163 (by decide) (fun c137 => ?_) (fun c137 => ?_)
                          · replace h := (if_pos c137).symm.trans h
                            refine lv_aload_n hx hb dX6_readTerm_171 rfl (lv_at hl 6 rfl) ?_
                            refine lv_iload_n hx hb dX6_readTerm_172 rfl (lv_at hl 4 rfl) ?_
                            refine lv_iload hx hb dX6_readTerm_173 (lv_at hl 2 rfl) ?_
                            refine lv_iload hx hb dX6_readTerm_175 (lv_at hl 1 rfl) ?_
                            refine lv_iload hx hb dX6_readTerm_177 (lv_at hl 0 rfl) ?_
                            obtain ⟨⟨I138, J138⟩, hc138, h⟩ := ob h
                            dsimp only at h
                            refine callWVv (As := [.int r2, .int r110, .int (-1 : Int32), .int (-1 : Int32)]) (rest := []) hC (c_X5_become l g ad I134 J134 t1 r2 r110 (-1 : Int32) (-1 : Int32) hT1 H.size hc138) lk_X6_92 rfl rfl ⟨Nat.le_of_ble_eq_true rfl, Nat.le_of_ble_eq_true rfl⟩ hP hK hD hA hS (xTo hT1) rfl rfl rfl hl (Nat.le_of_ble_eq_true rfl) dX6_readTerm_179 (fun H locs hP hD hS => ?_)
                            refine lv_iconst (v := -1) hx hb dX6_readTerm_182 (by decide) ?_
                            obtain ⟨h1, h⟩ := Prod.mk.inj (Option.some.inj h)
                            obtain ⟨rfl, rfl⟩ := Prod.mk.inj h
                            exact hret _ _ _ _ _ dX6_readTerm_183 h1 hP hD hS
                          · replace h := (if_neg c137).symm.trans h
                            refine lv_aload_n hx hb dX6_readTerm_166 rfl (lv_at hl 5 rfl) ?_
                            refine gt_X6_25 hC hK hP dX6_readTerm_167 ?_
                            obtain ⟨h1, h⟩ := Prod.mk.inj (Option.some.inj h)
                            obtain ⟨rfl, rfl⟩ := Prod.mk.inj h
                            exact hret _ _ _ _ _ dX6_readTerm_170 h1 hP hD hS
                      · replace h := (if_neg c135).symm.trans h
                        refine lv_aload_n hx hb dX6_readTerm_137 rfl (lv_at hl 5 rfl) ?_
                        refine lv_iconst (v := 0) hx hb dX6_readTerm_138 (by decide) ?_
                        refine lv_bipush (v := 99) hx hb dX6_readTerm_139 (by decide) ?_
                        obtain ⟨⟨r139, I139, J139⟩, hc139, h⟩ := ob h
                        dsimp only at h
                        refine callWVi (As := [.int (0 : Int32), .int (99 : Int32)]) (rest := []) hC (c_X6_numberOf l g ad I134 J134 (0 : Int32) (99 : Int32)  H.size hc139) lk_X6_89 rfl rfl ⟨Nat.le_of_ble_eq_true rfl, Nat.le_of_ble_eq_true rfl⟩ hP hK hD hA hS xo_45 rfl rfl rfl hl (Nat.le_of_ble_eq_true rfl) dX6_readTerm_141 (fun H locs hP hD hS => ?_)
                        refine lv_goto (tgt := 148) hx hb dX6_readTerm_144 (by decide) ?_
                        refine lv_istore (lv' := [(6, .int r139), (5, .int (-1 : Int32)), (4, .int r110), (3, .int (if r2 = (4 : Int32) then (1 : Int32) else (0 : Int32))), (2, .int r2), (0, .ref (ad 45)), (1, .ref (ad t1))]) hx hb dX6_readTerm_148 hl (by decide) rfl (fun ls hl => ?_)
                        refine lv_iload hx hb dX6_readTerm_150 (lv_at hl 0 rfl) ?_
                        refine lv_if_lt (tgt := 166) hx hb dX6_readTerm_152 (by decide) (fun c140 => ?_) (fun c140 => ?_)
                        · replace h := (if_pos c140).symm.trans h
                          refine lv_aload_n hx hb dX6_readTerm_166 rfl (lv_at hl 5 rfl) ?_
                          refine gt_X6_25 hC hK hP dX6_readTerm_167 ?_
                          obtain ⟨h1, h⟩ := Prod.mk.inj (Option.some.inj h)
                          obtain ⟨rfl, rfl⟩ := Prod.mk.inj h
                          exact hret _ _ _ _ _ dX6_readTerm_170 h1 hP hD hS
                        · replace h := (if_neg c140).symm.trans h
                          refine lv_aload_n hx hb dX6_readTerm_155 rfl (lv_at hl 5 rfl) ?_
                          refine gt_X6_25 hC hK hP dX6_readTerm_156 ?_
                          refine lv_aload_n hx hb dX6_readTerm_159 rfl (lv_at hl 5 rfl) ?_
                          refine gt_X6_13 hC hK hP dX6_readTerm_160 ?_
                          refine lv_icmp_ge (tgt := 171) hx hb dX6_readTerm_163 (by decide) (fun c141 => ?_) (fun c141 => ?_)
                          · replace h := (if_pos c141).symm.trans h
                            refine lv_aload_n hx hb dX6_readTerm_171 rfl (lv_at hl 6 rfl) ?_
                            refine lv_iload_n hx hb dX6_readTerm_172 rfl (lv_at hl 4 rfl) ?_
                            refine lv_iload hx hb dX6_readTerm_173 (lv_at hl 2 rfl) ?_
                            refine lv_iload hx hb dX6_readTerm_175 (lv_at hl 1 rfl) ?_
                            refine lv_iload hx hb dX6_readTerm_177 (lv_at hl 0 rfl) ?_
                            obtain ⟨⟨I142, J142⟩, hc142, h⟩ := ob h
                            dsimp only at h
                            refine callWVv (As := [.int r2, .int r110, .int (-1 : Int32), .int r139]) (rest := []) hC (c_X5_become l g ad I139 J139 t1 r2 r110 (-1 : Int32) r139 hT1 H.size hc142) lk_X6_92 rfl rfl ⟨Nat.le_of_ble_eq_true rfl, Nat.le_of_ble_eq_true rfl⟩ hP hK hD hA hS (xTo hT1) rfl rfl rfl hl (Nat.le_of_ble_eq_true rfl) dX6_readTerm_179 (fun H locs hP hD hS => ?_)
                            refine lv_iconst (v := -1) hx hb dX6_readTerm_182 (by decide) ?_
                            obtain ⟨h1, h⟩ := Prod.mk.inj (Option.some.inj h)
                            obtain ⟨rfl, rfl⟩ := Prod.mk.inj h
                            exact hret _ _ _ _ _ dX6_readTerm_183 h1 hP hD hS
                          · replace h := (if_neg c141).symm.trans h
                            refine lv_aload_n hx hb dX6_readTerm_166 rfl (lv_at hl 5 rfl) ?_
                            refine gt_X6_25 hC hK hP dX6_readTerm_167 ?_
                            obtain ⟨h1, h⟩ := Prod.mk.inj (Option.some.inj h)
                            obtain ⟨rfl, rfl⟩ := Prod.mk.inj h
                            exact hret _ _ _ _ _ dX6_readTerm_170 h1 hP hD hS
                  · replace h := (if_neg c129).symm.trans h
                    refine lv_aload_n hx hb dX6_readTerm_115 rfl (lv_at hl 4 rfl) ?_
                    refine gt_X6_25 hC hK hP dX6_readTerm_116 ?_
                    obtain ⟨h1, h⟩ := Prod.mk.inj (Option.some.inj h)
                    obtain ⟨rfl, rfl⟩ := Prod.mk.inj h
                    exact hret _ _ _ _ _ dX6_readTerm_119 h1 hP hD hS
                · replace h := (if_neg c128).symm.trans h
                  refine lv_aload_n hx hb dX6_readTerm_96 rfl (lv_at hl 4 rfl) ?_
                  refine lv_iload hx hb dX6_readTerm_97 (lv_at hl 1 rfl) ?_
                  refine lv_bipush (v := 99) hx hb dX6_readTerm_99 (by decide) ?_
                  obtain ⟨⟨r143, I143, J143⟩, hc143, h⟩ := ob h
                  dsimp only at h
                  refine callWVi (As := [.int r110, .int (99 : Int32)]) (rest := []) hC (c_X6_numberOf l g ad I127 J127 r110 (99 : Int32)  H.size hc143) lk_X6_89 rfl rfl ⟨Nat.le_of_ble_eq_true rfl, Nat.le_of_ble_eq_true rfl⟩ hP hK hD hA hS xo_45 rfl rfl rfl hl (Nat.le_of_ble_eq_true rfl) dX6_readTerm_101 (fun H locs hP hD hS => ?_)
                  refine lv_goto (tgt := 108) hx hb dX6_readTerm_104 (by decide) ?_
                  refine lv_istore (lv' := [(5, .int r143), (4, .int r110), (3, .int (if r2 = (4 : Int32) then (1 : Int32) else (0 : Int32))), (2, .int r2), (0, .ref (ad 45)), (1, .ref (ad t1))]) hx hb dX6_readTerm_108 hl (by decide) rfl (fun ls hl => ?_)
                  refine lv_iload hx hb dX6_readTerm_110 (lv_at hl 0 rfl) ?_
                  refine lv_if_ge (tgt := 120) hx hb dX6_readTerm_112 (by decide) (fun c144 => ?_) (fun c144 => ?_)
                  · replace h := (if_pos c144).symm.trans h
                    refine lv_iconst (v := 0) hx hb dX6_readTerm_120 (by decide) ?_
                    refine lv_istore (lv' := [(6, .int (0 : Int32)), (5, .int r143), (4, .int r110), (3, .int (if r2 = (4 : Int32) then (1 : Int32) else (0 : Int32))), (2, .int r2), (0, .ref (ad 45)), (1, .ref (ad t1))]) hx hb dX6_readTerm_121 hl (by decide) rfl (fun ls hl => ?_)
                    refine lv_iload_n hx hb dX6_readTerm_123 rfl (lv_at hl 4 rfl) ?_
                    refine lv_iconst (v := 3) hx hb dX6_readTerm_124 (by decide) ?_
                    refine lv_icmp_lt (tgt := 150) hx hb dX6_readTerm_125 (by decide) (fun c145 => ?_) (fun c145 => ?_)
                    · replace h := (if_pos c145).symm.trans h
                      refine lv_iload hx hb dX6_readTerm_150 (lv_at hl 0 rfl) ?_
                      refine lv_if_lt (tgt := 166) hx hb dX6_readTerm_152 (by decide) (fun c146 => ?_) (fun c146 => ?_)
                      · replace h := (if_pos c146).symm.trans h
                        refine lv_aload_n hx hb dX6_readTerm_166 rfl (lv_at hl 5 rfl) ?_
                        refine gt_X6_25 hC hK hP dX6_readTerm_167 ?_
                        obtain ⟨h1, h⟩ := Prod.mk.inj (Option.some.inj h)
                        obtain ⟨rfl, rfl⟩ := Prod.mk.inj h
                        exact hret _ _ _ _ _ dX6_readTerm_170 h1 hP hD hS
                      · replace h := (if_neg c146).symm.trans h
                        refine lv_aload_n hx hb dX6_readTerm_155 rfl (lv_at hl 5 rfl) ?_
                        refine gt_X6_25 hC hK hP dX6_readTerm_156 ?_
                        refine lv_aload_n hx hb dX6_readTerm_159 rfl (lv_at hl 5 rfl) ?_
                        refine gt_X6_13 hC hK hP dX6_readTerm_160 ?_
                        refine lv_icmp_ge (tgt := 171) hx hb dX6_readTerm_163 (by decide) (fun c147 => ?_) (fun c147 => ?_)
                        · replace h := (if_pos c147).symm.trans h
                          refine lv_aload_n hx hb dX6_readTerm_171 rfl (lv_at hl 6 rfl) ?_
                          refine lv_iload_n hx hb dX6_readTerm_172 rfl (lv_at hl 4 rfl) ?_
                          refine lv_iload hx hb dX6_readTerm_173 (lv_at hl 2 rfl) ?_
                          refine lv_iload hx hb dX6_readTerm_175 (lv_at hl 1 rfl) ?_
                          refine lv_iload hx hb dX6_readTerm_177 (lv_at hl 0 rfl) ?_
                          obtain ⟨⟨I148, J148⟩, hc148, h⟩ := ob h
                          dsimp only at h
                          refine callWVv (As := [.int r2, .int r110, .int r143, .int (0 : Int32)]) (rest := []) hC (c_X5_become l g ad I143 J143 t1 r2 r110 r143 (0 : Int32) hT1 H.size hc148) lk_X6_92 rfl rfl ⟨Nat.le_of_ble_eq_true rfl, Nat.le_of_ble_eq_true rfl⟩ hP hK hD hA hS (xTo hT1) rfl rfl rfl hl (Nat.le_of_ble_eq_true rfl) dX6_readTerm_179 (fun H locs hP hD hS => ?_)
                          refine lv_iconst (v := -1) hx hb dX6_readTerm_182 (by decide) ?_
                          obtain ⟨h1, h⟩ := Prod.mk.inj (Option.some.inj h)
                          obtain ⟨rfl, rfl⟩ := Prod.mk.inj h
                          exact hret _ _ _ _ _ dX6_readTerm_183 h1 hP hD hS
                        · replace h := (if_neg c147).symm.trans h
                          refine lv_aload_n hx hb dX6_readTerm_166 rfl (lv_at hl 5 rfl) ?_
                          refine gt_X6_25 hC hK hP dX6_readTerm_167 ?_
                          obtain ⟨h1, h⟩ := Prod.mk.inj (Option.some.inj h)
                          obtain ⟨rfl, rfl⟩ := Prod.mk.inj h
                          exact hret _ _ _ _ _ dX6_readTerm_170 h1 hP hD hS
                    · replace h := (if_neg c145).symm.trans h
                      refine lv_aload_n hx hb dX6_readTerm_128 rfl (lv_at hl 5 rfl) ?_
                      refine lv_bipush (v := 43) hx hb dX6_readTerm_129 (by decide) ?_
                      obtain ⟨⟨r149, I149, J149⟩, hc149, h⟩ := ob h
                      dsimp only at h
                      refine callWVi (As := [.int (43 : Int32)]) (rest := []) hC (c_X6_skip l g ad I143 J143 (43 : Int32)  H.size hc149) lk_X6_60 rfl rfl ⟨Nat.le_of_ble_eq_true rfl, Nat.le_of_ble_eq_true rfl⟩ hP hK hD hA hS xo_45 rfl rfl rfl hl (Nat.le_of_ble_eq_true rfl) dX6_readTerm_131 (fun H locs hP hD hS => ?_)
                      refine lv_if_eq (tgt := 147) hx hb dX6_readTerm_134 (by decide) (fun c150 => ?_) (fun c150 => ?_)
                      · replace h := (if_pos c150).symm.trans h
                        refine lv_iconst (v := -1) hx hb dX6_readTerm_147 (by decide) ?_
                        refine lv_istore (lv' := [(6, .int (-1 : Int32)), (5, .int r143), (4, .int r110), (3, .int (if r2 = (4 : Int32) then (1 : Int32) else (0 : Int32))), (2, .int r2), (0, .ref (ad 45)), (1, .ref (ad t1))]) hx hb dX6_readTerm_148 hl (by decide) rfl (fun ls hl => ?_)
                        refine lv_iload hx hb dX6_readTerm_150 (lv_at hl 0 rfl) ?_
                        refine lv_if_lt (tgt := 166) hx hb dX6_readTerm_152 (by decide) (fun c151 => ?_) (fun c151 => ?_)
                        · replace h := (if_pos c151).symm.trans h
                          refine lv_aload_n hx hb dX6_readTerm_166 rfl (lv_at hl 5 rfl) ?_
                          refine gt_X6_25 hC hK hP dX6_readTerm_167 ?_
                          obtain ⟨h1, h⟩ := Prod.mk.inj (Option.some.inj h)
                          obtain ⟨rfl, rfl⟩ := Prod.mk.inj h
                          exact hret _ _ _ _ _ dX6_readTerm_170 h1 hP hD hS
                        · replace h := (if_neg c151).symm.trans h
                          refine lv_aload_n hx hb dX6_readTerm_155 rfl (lv_at hl 5 rfl) ?_
                          refine gt_X6_25 hC hK hP dX6_readTerm_156 ?_
                          refine lv_aload_n hx hb dX6_readTerm_159 rfl (lv_at hl 5 rfl) ?_
                          refine gt_X6_13 hC hK hP dX6_readTerm_160 ?_
                          refine lv_icmp_ge (tgt := 171) hx hb dX6_readTerm_163 (by decide) (fun c152 => ?_) (fun c152 => ?_)
                          · replace h := (if_pos c152).symm.trans h
                            refine lv_aload_n hx hb dX6_readTerm_171 rfl (lv_at hl 6 rfl) ?_
                            refine lv_iload_n hx hb dX6_readTerm_172 rfl (lv_at hl 4 rfl) ?_
                            refine lv_iload hx hb dX6_readTerm_173 (lv_at hl 2 rfl) ?_
                            refine lv_iload hx hb dX6_readTerm_175 (lv_at hl 1 rfl) ?_
                            refine lv_iload hx hb dX6_readTerm_177 (lv_at hl 0 rfl) ?_
                            obtain ⟨⟨I153, J153⟩, hc153, h⟩ := ob h
                            dsimp only at h
                            refine callWVv (As := [.int r2, .int r110, .int r143, .int (-1 : Int32)]) (rest := []) hC (c_X5_become l g ad I149 J149 t1 r2 r110 r143 (-1 : Int32) hT1 H.size hc153) lk_X6_92 rfl rfl ⟨Nat.le_of_ble_eq_true rfl, Nat.le_of_ble_eq_true rfl⟩ hP hK hD hA hS (xTo hT1) rfl rfl rfl hl (Nat.le_of_ble_eq_true rfl) dX6_readTerm_179 (fun H locs hP hD hS => ?_)
                            refine lv_iconst (v := -1) hx hb dX6_readTerm_182 (by decide) ?_
                            obtain ⟨h1, h⟩ := Prod.mk.inj (Option.some.inj h)
                            obtain ⟨rfl, rfl⟩ := Prod.mk.inj h
                            exact hret _ _ _ _ _ dX6_readTerm_183 h1 hP hD hS
                          · replace h := (if_neg c152).symm.trans h
                            refine lv_aload_n hx hb dX6_readTerm_166 rfl (lv_at hl 5 rfl) ?_
                            refine gt_X6_25 hC hK hP dX6_readTerm_167 ?_
                            obtain ⟨h1, h⟩ := Prod.mk.inj (Option.some.inj h)
                            obtain ⟨rfl, rfl⟩ := Prod.mk.inj h
                            exact hret _ _ _ _ _ dX6_readTerm_170 h1 hP hD hS
                      · replace h := (if_neg c150).symm.trans h
                        refine lv_aload_n hx hb dX6_readTerm_137 rfl (lv_at hl 5 rfl) ?_
                        refine lv_iconst (v := 0) hx hb dX6_readTerm_138 (by decide) ?_
                        refine lv_bipush (v := 99) hx hb dX6_readTerm_139 (by decide) ?_
                        obtain ⟨⟨r154, I154, J154⟩, hc154, h⟩ := ob h
                        dsimp only at h
                        refine callWVi (As := [.int (0 : Int32), .int (99 : Int32)]) (rest := []) hC (c_X6_numberOf l g ad I149 J149 (0 : Int32) (99 : Int32)  H.size hc154) lk_X6_89 rfl rfl ⟨Nat.le_of_ble_eq_true rfl, Nat.le_of_ble_eq_true rfl⟩ hP hK hD hA hS xo_45 rfl rfl rfl hl (Nat.le_of_ble_eq_true rfl) dX6_readTerm_141 (fun H locs hP hD hS => ?_)
                        refine lv_goto (tgt := 148) hx hb dX6_readTerm_144 (by decide) ?_
                        refine lv_istore (lv' := [(6, .int r154), (5, .int r143), (4, .int r110), (3, .int (if r2 = (4 : Int32) then (1 : Int32) else (0 : Int32))), (2, .int r2), (0, .ref (ad 45)), (1, .ref (ad t1))]) hx hb dX6_readTerm_148 hl (by decide) rfl (fun ls hl => ?_)
                        refine lv_iload hx hb dX6_readTerm_150 (lv_at hl 0 rfl) ?_
                        refine lv_if_lt (tgt := 166) hx hb dX6_readTerm_152 (by decide) (fun c155 => ?_) (fun c155 => ?_)
                        · replace h := (if_pos c155).symm.trans h
                          refine lv_aload_n hx hb dX6_readTerm_166 rfl (lv_at hl 5 rfl) ?_
                          refine gt_X6_25 hC hK hP dX6_readTerm_167 ?_
                          obtain ⟨h1, h⟩ := Prod.mk.inj (Option.some.inj h)
                          obtain ⟨rfl, rfl⟩ := Prod.mk.inj h
                          exact hret _ _ _ _ _ dX6_readTerm_170 h1 hP hD hS
                        · replace h := (if_neg c155).symm.trans h
                          refine lv_aload_n hx hb dX6_readTerm_155 rfl (lv_at hl 5 rfl) ?_
                          refine gt_X6_25 hC hK hP dX6_readTerm_156 ?_
                          refine lv_aload_n hx hb dX6_readTerm_159 rfl (lv_at hl 5 rfl) ?_
                          refine gt_X6_13 hC hK hP dX6_readTerm_160 ?_
                          refine lv_icmp_ge (tgt := 171) hx hb dX6_readTerm_163 (by decide) (fun c156 => ?_) (fun c156 => ?_)
                          · replace h := (if_pos c156).symm.trans h
                            refine lv_aload_n hx hb dX6_readTerm_171 rfl (lv_at hl 6 rfl) ?_
                            refine lv_iload_n hx hb dX6_readTerm_172 rfl (lv_at hl 4 rfl) ?_
                            refine lv_iload hx hb dX6_readTerm_173 (lv_at hl 2 rfl) ?_
                            refine lv_iload hx hb dX6_readTerm_175 (lv_at hl 1 rfl) ?_
                            refine lv_iload hx hb dX6_readTerm_177 (lv_at hl 0 rfl) ?_
                            obtain ⟨⟨I157, J157⟩, hc157, h⟩ := ob h
                            dsimp only at h
                            refine callWVv (As := [.int r2, .int r110, .int r143, .int r154]) (rest := []) hC (c_X5_become l g ad I154 J154 t1 r2 r110 r143 r154 hT1 H.size hc157) lk_X6_92 rfl rfl ⟨Nat.le_of_ble_eq_true rfl, Nat.le_of_ble_eq_true rfl⟩ hP hK hD hA hS (xTo hT1) rfl rfl rfl hl (Nat.le_of_ble_eq_true rfl) dX6_readTerm_179 (fun H locs hP hD hS => ?_)
                            refine lv_iconst (v := -1) hx hb dX6_readTerm_182 (by decide) ?_
                            obtain ⟨h1, h⟩ := Prod.mk.inj (Option.some.inj h)
                            obtain ⟨rfl, rfl⟩ := Prod.mk.inj h
                            exact hret _ _ _ _ _ dX6_readTerm_183 h1 hP hD hS
                          · replace h := (if_neg c156).symm.trans h
                            refine lv_aload_n hx hb dX6_readTerm_166 rfl (lv_at hl 5 rfl) ?_
                            refine gt_X6_25 hC hK hP dX6_readTerm_167 ?_
                            obtain ⟨h1, h⟩ := Prod.mk.inj (Option.some.inj h)
                            obtain ⟨rfl, rfl⟩ := Prod.mk.inj h
                            exact hret _ _ _ _ _ dX6_readTerm_170 h1 hP hD hS
                  · replace h := (if_neg c144).symm.trans h
                    refine lv_aload_n hx hb dX6_readTerm_115 rfl (lv_at hl 4 rfl) ?_
                    refine gt_X6_25 hC hK hP dX6_readTerm_116 ?_
                    obtain ⟨h1, h⟩ := Prod.mk.inj (Option.some.inj h)
                    obtain ⟨rfl, rfl⟩ := Prod.mk.inj h
                    exact hret _ _ _ _ _ dX6_readTerm_119 h1 hP hD hS
            · replace h := (if_neg c111).symm.trans h
              refine lv_aload_n hx hb dX6_readTerm_75 rfl (lv_at hl 3 rfl) ?_
              refine gt_X6_25 hC hK hP dX6_readTerm_76 ?_
              obtain ⟨h1, h⟩ := Prod.mk.inj (Option.some.inj h)
              obtain ⟨rfl, rfl⟩ := Prod.mk.inj h
              exact hret _ _ _ _ _ dX6_readTerm_79 h1 hP hD hS
