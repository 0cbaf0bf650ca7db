def F_X8_numberIn (I : SI) (J : SJ) (v1 : Int32) (v2 : Int32) : Option (Int32 × SI × SJ) := ((F_X8_number I J).bind fun (r1, I1, J1) => (if r1 < 0 then (some (r1, I1, J1)) else ((F_X8_isIn r1 v1 v2).bind fun r3 => (if r3 = 0 then (some ((-1 : Int32), (u2 I1 0 15 (I 0 15)), J1)) else (some (r1, I1, J1))))))
set_option maxHeartbeats 4000000 in
set_option maxRecDepth 100000 in
theorem c_X8_numberIn (l : Launch) (g : Gx) (ad : Nat → Nat) (I : SI) (J : SJ) (v1 : Int32) (v2 : Int32)  (sz : Nat) {r : Int32} {rI : SI} {rJ : SJ} (h : F_X8_numberIn I J v1 v2 = some (r, rI, rJ)) : Met l yX8_numberIn (Cond.code yX8_numberIn cX8_numberIn 5 (some .int) :: BG) (k2_rm 2 44) (PcW [.ref (ad 0), .int v1, .int v2] g (mW ad g I J) sz) (QWi r g (mW ad g I J) (mW ad g rI rJ) sz) 0 0 (va_A (mW ad g I J) sz) := by
  refine mkWi (by decide) (Nat.le_of_ble_eq_true rfl) ?_
  intro p e s m args below meth c H locs ls A Q hC hK hP hD hA hS hl hret
  have hx := hC.1
  have hb := hC.2.1
  have hts := hC.2.2.2.2
  have hown := hC.2.2.2.1
  replace hl : lv_has ls 5 [(0, .ref (ad 0)), (1, .int v1), (2, .int v2)] := hl
  unfold F_X8_numberIn at h
  refine lv_aload_n hx hb dX8_numberIn_0 rfl (lv_at hl 0 rfl) ?_
  refine gt_X8_98 hC hK hP dX8_numberIn_1 ?_
  refine lv_istore_n (lv' := [(3, .int (I 0 15)), (0, .ref (ad 0)), (1, .int v1), (2, .int v2)]) hx hb dX8_numberIn_4 rfl hl (by decide) rfl (fun ls hl => ?_)
  refine lv_aload_n hx hb dX8_numberIn_5 rfl (lv_at hl 1 rfl) ?_
  obtain ⟨⟨r1, I1, J1⟩, hc1, h⟩ := ob h
  dsimp only at h
  refine callWVi (As := []) (rest := []) hC (c_X8_number l g ad I J   H.size hc1) lk_X8_115 rfl rfl ⟨Nat.le_of_ble_eq_true rfl, Nat.le_of_ble_eq_true rfl⟩ hP hK hD hA hS mo_0 rfl rfl rfl hl (Nat.le_of_ble_eq_true rfl) dX8_numberIn_6 (fun H locs hP hD hS => ?_)
  refine lv_istore (lv' := [(4, .int r1), (3, .int (I 0 15)), (0, .ref (ad 0)), (1, .int v1), (2, .int v2)]) hx hb dX8_numberIn_9 hl (by decide) rfl (fun ls hl => ?_)
  refine lv_iload hx hb dX8_numberIn_11 (lv_at hl 0 rfl) ?_
  refine lv_if_lt (tgt := 33) hx hb dX8_numberIn_13 (by decide) (fun c2 => ?_) (fun c2 => ?_)
  · replace h := (if_pos c2).symm.trans h
    refine lv_iload hx hb dX8_numberIn_33 (lv_at hl 0 rfl) ?_
    obtain ⟨h1, h⟩ := Prod.mk.inj (Option.some.inj h)
    obtain ⟨rfl, rfl⟩ := Prod.mk.inj h
    exact hret _ _ _ _ _ dX8_numberIn_35 h1 hP hD hS
  · replace h := (if_neg c2).symm.trans h
    refine lv_iload hx hb dX8_numberIn_16 (lv_at hl 0 rfl) ?_
    refine lv_iload_n hx hb dX8_numberIn_18 rfl (lv_at hl 3 rfl) ?_
    refine lv_iload_n hx hb dX8_numberIn_19 rfl (lv_at hl 4 rfl) ?_
    obtain ⟨r3, hc3, h⟩ := ob h
    refine callRS (As := [.int r1, .int v1, .int v2]) (rest := []) hC (c_X8_isIn l g (mW ad g I1 J1) r1 v1 v2 hc3) lk_X8_104 rfl rfl ⟨Nat.le_of_ble_eq_true rfl, Nat.le_of_ble_eq_true rfl⟩ hP hK rfl rfl hl (Nat.le_of_ble_eq_true rfl) dX8_numberIn_20 ?_
    refine lv_if_ne (tgt := 33) hx hb dX8_numberIn_23 (by decide) (fun c4 => ?_) (fun c4 => ?_)
    · replace h := (if_neg c4).symm.trans h
      refine lv_iload hx hb dX8_numberIn_33 (lv_at hl 0 rfl) ?_
      obtain ⟨h1, h⟩ := Prod.mk.inj (Option.some.inj h)
      obtain ⟨rfl, rfl⟩ := Prod.mk.inj h
      exact hret _ _ _ _ _ dX8_numberIn_35 h1 hP hD hS
    · replace h := (if_pos c4).symm.trans h
      refine lv_aload_n hx hb dX8_numberIn_26 rfl (lv_at hl 2 rfl) ?_
      refine lv_iload_n hx hb dX8_numberIn_27 rfl (lv_at hl 1 rfl) ?_
      refine pt_X8_98 hC hK hP hD hS dX8_numberIn_28 (fun H locs hP hD hS => ?_)
      refine lv_iconst (v := -1) hx hb dX8_numberIn_31 (by decide) ?_
      obtain ⟨h1, h⟩ := Prod.mk.inj (Option.some.inj h)
      obtain ⟨rfl, rfl⟩ := Prod.mk.inj h
      exact hret _ _ _ _ _ dX8_numberIn_32 h1 hP hD hS
def F_X8_kindOf (v1 : Int32) : Option (Int32) := (if v1 = 102 then (some (1 : Int32)) else (if v1 = 103 then (some (-1 : Int32)) else (if v1 = 104 then (some (-1 : Int32)) else (if v1 = 105 then (some (-1 : Int32)) else (if v1 = 106 then (some (-1 : Int32)) else (if v1 = 107 then (some (-1 : Int32)) else (if v1 = 108 then (some (-1 : Int32)) else (if v1 = 109 then (some (-1 : Int32)) else (if v1 = 110 then (some (-1 : Int32)) else (if v1 = 111 then (some (-1 : Int32)) else (if v1 = 112 then (some (0 : Int32)) else (if v1 = 113 then (some (-1 : Int32)) else (if v1 = 114 then (some (-1 : Int32)) else (if v1 = 115 then (some (-1 : Int32)) else (if v1 = 116 then (some (5 : Int32)) else (if v1 = 117 then (some (-1 : Int32)) else (if v1 = 118 then (some (-1 : Int32)) else (if v1 = 119 then (some (2 : Int32)) else (if v1 = 120 then (some (3 : Int32)) else (if v1 = 121 then (some (4 : Int32)) else (some (-1 : Int32))))))))))))))))))))))
set_option maxHeartbeats 4000000 in
set_option maxRecDepth 100000 in
theorem c_X8_kindOf (l : Launch) (g : Gx) (ws : va_W) (v1 : Int32)  {r : Int32} (h : F_X8_kindOf v1 = some r) : Met l yX8_kindOf (Cond.code yX8_kindOf cX8_kindOf 1 (some .int) :: BG) (k2_rm 0 0) (va_Pc [.int v1] (fun U => Pg g ws U.heap ∧ Kg g U)) (k2_QcV (.int r)) 0 0 (fun _ => False) := by
  refine mkRi (by decide) (Nat.le_of_ble_eq_true rfl) ?_
  intro p e s m args below meth c H locs ls Q hC hK hP hl hret
  have hx := hC.1
  have hb := hC.2.1
  have hts := hC.2.2.2.2
  have hown := hC.2.2.2.1
  replace hl : lv_has ls 1 [(0, .int v1)] := hl
  unfold F_X8_kindOf at h
  refine lv_iload_n hx hb dX8_kindOf_0 rfl (lv_at hl 0 rfl) ?_
  by_cases c1 : v1 = 102
  · replace h := (if_pos c1).symm.trans h
    refine lv_tableIn (off := 97) (tgt := 98) hx hb dX8_kindOf_1 (by rw [c1]; decide) (by rw [c1]; decide) (by rw [c1]; decide) (by decide) ?_
    refine lv_iconst (v := 1) hx hb dX8_kindOf_98 (by decide) ?_
    exact hret _ _ _ dX8_kindOf_99 (Option.some.inj h)
  · replace h := (if_neg c1).symm.trans h
    by_cases c2 : v1 = 103
    · replace h := (if_pos c2).symm.trans h
      refine lv_tableIn (off := 107) (tgt := 108) hx hb dX8_kindOf_1 (by rw [c2]; decide) (by rw [c2]; decide) (by rw [c2]; decide) (by decide) ?_
      refine lv_iconst (v := -1) hx hb dX8_kindOf_108 (by decide) ?_
      exact hret _ _ _ dX8_kindOf_109 (Option.some.inj h)
    · replace h := (if_neg c2).symm.trans h
      by_cases c3 : v1 = 104
      · replace h := (if_pos c3).symm.trans h
        refine lv_tableIn (off := 107) (tgt := 108) hx hb dX8_kindOf_1 (by rw [c3]; decide) (by rw [c3]; decide) (by rw [c3]; decide) (by decide) ?_
        refine lv_iconst (v := -1) hx hb dX8_kindOf_108 (by decide) ?_
        exact hret _ _ _ dX8_kindOf_109 (Option.some.inj h)
      · replace h := (if_neg c3).symm.trans h
        by_cases c4 : v1 = 105
        · replace h := (if_pos c4).symm.trans h
          refine lv_tableIn (off := 107) (tgt := 108) hx hb dX8_kindOf_1 (by rw [c4]; decide) (by rw [c4]; decide) (by rw [c4]; decide) (by decide) ?_
          refine lv_iconst (v := -1) hx hb dX8_kindOf_108 (by decide) ?_
          exact hret _ _ _ dX8_kindOf_109 (Option.some.inj h)
        · replace h := (if_neg c4).symm.trans h
          by_cases c5 : v1 = 106
          · replace h := (if_pos c5).symm.trans h
            refine lv_tableIn (off := 107) (tgt := 108) hx hb dX8_kindOf_1 (by rw [c5]; decide) (by rw [c5]; decide) (by rw [c5]; decide) (by decide) ?_
            refine lv_iconst (v := -1) hx hb dX8_kindOf_108 (by decide) ?_
            exact hret _ _ _ dX8_kindOf_109 (Option.some.inj h)
          · replace h := (if_neg c5).symm.trans h
            by_cases c6 : v1 = 107
            · replace h := (if_pos c6).symm.trans h
              refine lv_tableIn (off := 107) (tgt := 108) hx hb dX8_kindOf_1 (by rw [c6]; decide) (by rw [c6]; decide) (by rw [c6]; decide) (by decide) ?_
              refine lv_iconst (v := -1) hx hb dX8_kindOf_108 (by decide) ?_
              exact hret _ _ _ dX8_kindOf_109 (Option.some.inj h)
            · replace h := (if_neg c6).symm.trans h
              by_cases c7 : v1 = 108
              · replace h := (if_pos c7).symm.trans h
                refine lv_tableIn (off := 107) (tgt := 108) hx hb dX8_kindOf_1 (by rw [c7]; decide) (by rw [c7]; decide) (by rw [c7]; decide) (by decide) ?_
                refine lv_iconst (v := -1) hx hb dX8_kindOf_108 (by decide) ?_
                exact hret _ _ _ dX8_kindOf_109 (Option.some.inj h)
              · replace h := (if_neg c7).symm.trans h
                by_cases c8 : v1 = 109
                · replace h := (if_pos c8).symm.trans h
                  refine lv_tableIn (off := 107) (tgt := 108) hx hb dX8_kindOf_1 (by rw [c8]; decide) (by rw [c8]; decide) (by rw [c8]; decide) (by decide) ?_
                  refine lv_iconst (v := -1) hx hb dX8_kindOf_108 (by decide) ?_
                  exact hret _ _ _ dX8_kindOf_109 (Option.some.inj h)
                · replace h := (if_neg c8).symm.trans h
                  by_cases c9 : v1 = 110
                  · replace h := (if_pos c9).symm.trans h
                    refine lv_tableIn (off := 107) (tgt := 108) hx hb dX8_kindOf_1 (by rw [c9]; decide) (by rw [c9]; decide) (by rw [c9]; decide) (by decide) ?_
                    refine lv_iconst (v := -1) hx hb dX8_kindOf_108 (by decide) ?_
                    exact hret _ _ _ dX8_kindOf_109 (Option.some.inj h)
                  · replace h := (if_neg c9).symm.trans h
                    by_cases c10 : v1 = 111
                    · replace h := (if_pos c10).symm.trans h
                      refine lv_tableIn (off := 107) (tgt := 108) hx hb dX8_kindOf_1 (by rw [c10]; decide) (by rw [c10]; decide) (by rw [c10]; decide) (by decide) ?_
                      refine lv_iconst (v := -1) hx hb dX8_kindOf_108 (by decide) ?_
                      exact hret _ _ _ dX8_kindOf_109 (Option.some.inj h)
                    · replace h := (if_neg c10).symm.trans h
                      by_cases c11 : v1 = 112
                      · replace h := (if_pos c11).symm.trans h
                        refine lv_tableIn (off := 95) (tgt := 96) hx hb dX8_kindOf_1 (by rw [c11]; decide) (by rw [c11]; decide) (by rw [c11]; decide) (by decide) ?_
                        refine lv_iconst (v := 0) hx hb dX8_kindOf_96 (by decide) ?_
                        exact hret _ _ _ dX8_kindOf_97 (Option.some.inj h)
                      · replace h := (if_neg c11).symm.trans h
                        by_cases c12 : v1 = 113
                        · replace h := (if_pos c12).symm.trans h
                          refine lv_tableIn (off := 107) (tgt := 108) hx hb dX8_kindOf_1 (by rw [c12]; decide) (by rw [c12]; decide) (by rw [c12]; decide) (by decide) ?_
                          refine lv_iconst (v := -1) hx hb dX8_kindOf_108 (by decide) ?_
                          exact hret _ _ _ dX8_kindOf_109 (Option.some.inj h)
                        · replace h := (if_neg c12).symm.trans h
                          by_cases c13 : v1 = 114
                          · replace h := (if_pos c13).symm.trans h
                            refine lv_tableIn (off := 107) (tgt := 108) hx hb dX8_kindOf_1 (by rw [c13]; decide) (by rw [c13]; decide) (by rw [c13]; decide) (by decide) ?_
                            refine lv_iconst (v := -1) hx hb dX8_kindOf_108 (by decide) ?_
                            exact hret _ _ _ dX8_kindOf_109 (Option.some.inj h)
                          · replace h := (if_neg c13).symm.trans h
                            by_cases c14 : v1 = 115
                            · replace h := (if_pos c14).symm.trans h
                              refine lv_tableIn (off := 107) (tgt := 108) hx hb dX8_kindOf_1 (by rw [c14]; decide) (by rw [c14]; decide) (by rw [c14]; decide) (by decide) ?_
                              refine lv_iconst (v := -1) hx hb dX8_kindOf_108 (by decide) ?_
                              exact hret _ _ _ dX8_kindOf_109 (Option.some.inj h)
                            · replace h := (if_neg c14).symm.trans h
                              by_cases c15 : v1 = 116
                              · replace h := (if_pos c15).symm.trans h
                                refine lv_tableIn (off := 105) (tgt := 106) hx hb dX8_kindOf_1 (by rw [c15]; decide) (by rw [c15]; decide) (by rw [c15]; decide) (by decide) ?_
                                refine lv_iconst (v := 5) hx hb dX8_kindOf_106 (by decide) ?_
                                exact hret _ _ _ dX8_kindOf_107 (Option.some.inj h)
                              · replace h := (if_neg c15).symm.trans h
                                by_cases c16 : v1 = 117
                                · replace h := (if_pos c16).symm.trans h
                                  refine lv_tableIn (off := 107) (tgt := 108) hx hb dX8_kindOf_1 (by rw [c16]; decide) (by rw [c16]; decide) (by rw [c16]; decide) (by decide) ?_
                                  refine lv_iconst (v := -1) hx hb dX8_kindOf_108 (by decide) ?_
                                  exact hret _ _ _ dX8_kindOf_109 (Option.some.inj h)
                                · replace h := (if_neg c16).symm.trans h
                                  by_cases c17 : v1 = 118
                                  · replace h := (if_pos c17).symm.trans h
                                    refine lv_tableIn (off := 107) (tgt := 108) hx hb dX8_kindOf_1 (by rw [c17]; decide) (by rw [c17]; decide) (by rw [c17]; decide) (by decide) ?_
                                    refine lv_iconst (v := -1) hx hb dX8_kindOf_108 (by decide) ?_
                                    exact hret _ _ _ dX8_kindOf_109 (Option.some.inj h)
                                  · replace h := (if_neg c17).symm.trans h
                                    by_cases c18 : v1 = 119
                                    · replace h := (if_pos c18).symm.trans h
                                      refine lv_tableIn (off := 99) (tgt := 100) hx hb dX8_kindOf_1 (by rw [c18]; decide) (by rw [c18]; decide) (by rw [c18]; decide) (by decide) ?_
                                      refine lv_iconst (v := 2) hx hb dX8_kindOf_100 (by decide) ?_
                                      exact hret _ _ _ dX8_kindOf_101 (Option.some.inj h)
                                    · replace h := (if_neg c18).symm.trans h
                                      by_cases c19 : v1 = 120
                                      · replace h := (if_pos c19).symm.trans h
                                        refine lv_tableIn (off := 101) (tgt := 102) hx hb dX8_kindOf_1 (by rw [c19]; decide) (by rw [c19]; decide) (by rw [c19]; decide) (by decide) ?_
                                        refine lv_iconst (v := 3) hx hb dX8_kindOf_102 (by decide) ?_
                                        exact hret _ _ _ dX8_kindOf_103 (Option.some.inj h)
                                      · replace h := (if_neg c19).symm.trans h
                                        by_cases c20 : v1 = 121
                                        · replace h := (if_pos c20).symm.trans h
                                          refine lv_tableIn (off := 103) (tgt := 104) hx hb dX8_kindOf_1 (by rw [c20]; decide) (by rw [c20]; decide) (by rw [c20]; decide) (by decide) ?_
                                          refine lv_iconst (v := 4) hx hb dX8_kindOf_104 (by decide) ?_
                                          exact hret _ _ _ dX8_kindOf_105 (Option.some.inj h)
                                        · replace h := (if_neg c20).symm.trans h
                                          refine lv_tableOut (tgt := 108) hx hb dX8_kindOf_1 (by have ec1 := ti_ne (n := 102) (by decide) c1; have ec2 := ti_ne (n := 103) (by decide) c2; have ec3 := ti_ne (n := 104) (by decide) c3; have ec4 := ti_ne (n := 105) (by decide) c4; have ec5 := ti_ne (n := 106) (by decide) c5; have ec6 := ti_ne (n := 107) (by decide) c6; have ec7 := ti_ne (n := 108) (by decide) c7; have ec8 := ti_ne (n := 109) (by decide) c8; have ec9 := ti_ne (n := 110) (by decide) c9; have ec10 := ti_ne (n := 111) (by decide) c10; have ec11 := ti_ne (n := 112) (by decide) c11; have ec12 := ti_ne (n := 113) (by decide) c12; have ec13 := ti_ne (n := 114) (by decide) c13; have ec14 := ti_ne (n := 115) (by decide) c14; have ec15 := ti_ne (n := 116) (by decide) c15; have ec16 := ti_ne (n := 117) (by decide) c16; have ec17 := ti_ne (n := 118) (by decide) c17; have ec18 := ti_ne (n := 119) (by decide) c18; have ec19 := ti_ne (n := 120) (by decide) c19; have ec20 := ti_ne (n := 121) (by decide) c20; omega) (by decide) ?_
                                          refine lv_iconst (v := -1) hx hb dX8_kindOf_108 (by decide) ?_
                                          exact hret _ _ _ dX8_kindOf_109 (Option.some.inj h)
def F_X8_isParted (I : SI) (J : SJ) (v1 : Int32) : Option (Int32) := (if v1 = 0 then (some (1 : Int32)) else (if v1 = (3 : Int32) then (some (1 : Int32)) else (if v1 = (4 : Int32) then (some (1 : Int32)) else (some (0 : Int32)))))
set_option maxHeartbeats 4000000 in
set_option maxRecDepth 100000 in
theorem c_X8_isParted (l : Launch) (g : Gx) (ad : Nat → Nat) (I : SI) (J : SJ) (v1 : Int32)  {r : Int32} (h : F_X8_isParted I J v1 = some r) : Met l yX8_isParted (Cond.code yX8_isParted cX8_isParted 2 (some .boolean) :: BG) (k2_rm 0 0) (va_Pc [.ref (ad 0), .int v1] (fun U => Pg g (mW ad g I J) U.heap ∧ Kg g U)) (k2_QcV (.int r)) 0 0 (fun _ => False) := by
  refine mkRz (by decide) (Nat.le_of_ble_eq_true rfl) ?_
  intro p e s m args below meth c H locs ls Q hC hK hP hl hret
  have hx := hC.1
  have hb := hC.2.1
  have hts := hC.2.2.2.2
  have hown := hC.2.2.2.1
  replace hl : lv_has ls 2 [(0, .ref (ad 0)), (1, .int v1)] := hl
  unfold F_X8_isParted at h
  refine lv_iload_n hx hb dX8_isParted_0 rfl (lv_at hl 1 rfl) ?_
  refine lv_if_eq (tgt := 14) hx hb dX8_isParted_1 (by decide) (fun c1 => ?_) (fun c1 => ?_)
  · replace h := (if_pos c1).symm.trans h
    refine lv_iconst (v := 1) hx hb dX8_isParted_14 (by decide) ?_
    refine lv_goto (tgt := 19) hx hb dX8_isParted_15 (by decide) ?_
    exact hret _ _ _ dX8_isParted_19 rfl (Option.some.inj h)
  · replace h := (if_neg c1).symm.trans h
    refine lv_iload_n hx hb dX8_isParted_4 rfl (lv_at hl 1 rfl) ?_
    refine lv_iconst (v := 3) hx hb dX8_isParted_5 (by decide) ?_
    refine lv_icmp_eq (tgt := 14) hx hb dX8_isParted_6 (by decide) (fun c2 => ?_) (fun c2 => ?_)
    · replace h := (if_pos c2).symm.trans h
      refine lv_iconst (v := 1) hx hb dX8_isParted_14 (by decide) ?_
      refine lv_goto (tgt := 19) hx hb dX8_isParted_15 (by decide) ?_
      exact hret _ _ _ dX8_isParted_19 rfl (Option.some.inj h)
    · replace h := (if_neg c2).symm.trans h
      refine lv_iload_n hx hb dX8_isParted_9 rfl (lv_at hl 1 rfl) ?_
      refine lv_iconst (v := 4) hx hb dX8_isParted_10 (by decide) ?_
      refine lv_icmp_ne (tgt := 18) hx hb dX8_isParted_11 (by decide) (fun c3 => ?_) (fun c3 => ?_)
      · replace h := (if_neg c3).symm.trans h
        refine lv_iconst (v := 0) hx hb dX8_isParted_18 (by decide) ?_
        exact hret _ _ _ dX8_isParted_19 rfl (Option.some.inj h)
      · replace h := (if_pos c3).symm.trans h
        refine lv_iconst (v := 1) hx hb dX8_isParted_14 (by decide) ?_
        refine lv_goto (tgt := 19) hx hb dX8_isParted_15 (by decide) ?_
        exact hret _ _ _ dX8_isParted_19 rfl (Option.some.inj h)
def F_X8_readsTerm (I : SI) (J : SJ) : Option (Int32 × SI × SJ) := ((F_X8_nextByte (u2 I 0 15 (0 : Int32)) J).bind fun r1 => ((F_X8_kindOf r1).bind fun r2 => (if 0 ≤ r2 then ((F_X8_isParted (u2 (u2 I 0 15 (0 : Int32)) 0 15 (((u2 I 0 15 (0 : Int32)) 0 15) + (1 : Int32))) J r2).bind fun r4 => ((F_X8_numberIn (u2 (u2 I 0 15 (0 : Int32)) 0 15 (((u2 I 0 15 (0 : Int32)) 0 15) + (1 : Int32))) J (if r4 = 0 then (0 : Int32) else (1 : Int32)) (99 : Int32)).bind fun (r7, I7, J7) => (if 0 ≤ r7 then (if r4 = 0 then (if r2 < (3 : Int32) then (if (I7 0 14) ≤ (I7 0 15) then (if gin (I7 0 21) 8 = true then (if gin ((u1 I7 13 (upd (I7 13) (Int32.toNatClampNeg (I7 0 21)) r2)) 0 21) 8 = true then (if gin ((u1 (u1 I7 13 (upd (I7 13) (Int32.toNatClampNeg (I7 0 21)) r2)) 14 (upd ((u1 I7 13 (upd (I7 13) (Int32.toNatClampNeg (I7 0 21)) r2)) 14) (Int32.toNatClampNeg ((u1 I7 13 (upd (I7 13) (Int32.toNatClampNeg (I7 0 21)) r2)) 0 21)) r7)) 0 21) 8 = true then (if gin ((u1 (u1 (u1 I7 13 (upd (I7 13) (Int32.toNatClampNeg (I7 0 21)) r2)) 14 (upd ((u1 I7 13 (upd (I7 13) (Int32.toNatClampNeg (I7 0 21)) r2)) 14) (Int32.toNatClampNeg ((u1 I7 13 (upd (I7 13) (Int32.toNatClampNeg (I7 0 21)) r2)) 0 21)) r7)) 15 (upd ((u1 (u1 I7 13 (upd (I7 13) (Int32.toNatClampNeg (I7 0 21)) r2)) 14 (upd ((u1 I7 13 (upd (I7 13) (Int32.toNatClampNeg (I7 0 21)) r2)) 14) (Int32.toNatClampNeg ((u1 I7 13 (upd (I7 13) (Int32.toNatClampNeg (I7 0 21)) r2)) 0 21)) r7)) 15) (Int32.toNatClampNeg ((u1 (u1 I7 13 (upd (I7 13) (Int32.toNatClampNeg (I7 0 21)) r2)) 14 (upd ((u1 I7 13 (upd (I7 13) (Int32.toNatClampNeg (I7 0 21)) r2)) 14) (Int32.toNatClampNeg ((u1 I7 13 (upd (I7 13) (Int32.toNatClampNeg (I7 0 21)) r2)) 0 21)) r7)) 0 21)) (0 : Int32))) 0 21) 8 = true then (some ((1 : Int32), (u1 (u1 (u1 (u1 I7 13 (upd (I7 13) (Int32.toNatClampNeg (I7 0 21)) r2)) 14 (upd ((u1 I7 13 (upd (I7 13) (Int32.toNatClampNeg (I7 0 21)) r2)) 14) (Int32.toNatClampNeg ((u1 I7 13 (upd (I7 13) (Int32.toNatClampNeg (I7 0 21)) r2)) 0 21)) r7)) 15 (upd ((u1 (u1 I7 13 (upd (I7 13) (Int32.toNatClampNeg (I7 0 21)) r2)) 14 (upd ((u1 I7 13 (upd (I7 13) (Int32.toNatClampNeg (I7 0 21)) r2)) 14) (Int32.toNatClampNeg ((u1 I7 13 (upd (I7 13) (Int32.toNatClampNeg (I7 0 21)) r2)) 0 21)) r7)) 15) (Int32.toNatClampNeg ((u1 (u1 I7 13 (upd (I7 13) (Int32.toNatClampNeg (I7 0 21)) r2)) 14 (upd ((u1 I7 13 (upd (I7 13) (Int32.toNatClampNeg (I7 0 21)) r2)) 14) (Int32.toNatClampNeg ((u1 I7 13 (upd (I7 13) (Int32.toNatClampNeg (I7 0 21)) r2)) 0 21)) r7)) 0 21)) (0 : Int32))) 16 (upd ((u1 (u1 (u1 I7 13 (upd (I7 13) (Int32.toNatClampNeg (I7 0 21)) r2)) 14 (upd ((u1 I7 13 (upd (I7 13) (Int32.toNatClampNeg (I7 0 21)) r2)) 14) (Int32.toNatClampNeg ((u1 I7 13 (upd (I7 13) (Int32.toNatClampNeg (I7 0 21)) r2)) 0 21)) r7)) 15 (upd ((u1 (u1 I7 13 (upd (I7 13) (Int32.toNatClampNeg (I7 0 21)) r2)) 14 (upd ((u1 I7 13 (upd (I7 13) (Int32.toNatClampNeg (I7 0 21)) r2)) 14) (Int32.toNatClampNeg ((u1 I7 13 (upd (I7 13) (Int32.toNatClampNeg (I7 0 21)) r2)) 0 21)) r7)) 15) (Int32.toNatClampNeg ((u1 (u1 I7 13 (upd (I7 13) (Int32.toNatClampNeg (I7 0 21)) r2)) 14 (upd ((u1 I7 13 (upd (I7 13) (Int32.toNatClampNeg (I7 0 21)) r2)) 14) (Int32.toNatClampNeg ((u1 I7 13 (upd (I7 13) (Int32.toNatClampNeg (I7 0 21)) r2)) 0 21)) r7)) 0 21)) (0 : Int32))) 16) (Int32.toNatClampNeg ((u1 (u1 (u1 I7 13 (upd (I7 13) (Int32.toNatClampNeg (I7 0 21)) r2)) 14 (upd ((u1 I7 13 (upd (I7 13) (Int32.toNatClampNeg (I7 0 21)) r2)) 14) (Int32.toNatClampNeg ((u1 I7 13 (upd (I7 13) (Int32.toNatClampNeg (I7 0 21)) r2)) 0 21)) r7)) 15 (upd ((u1 (u1 I7 13 (upd (I7 13) (Int32.toNatClampNeg (I7 0 21)) r2)) 14 (upd ((u1 I7 13 (upd (I7 13) (Int32.toNatClampNeg (I7 0 21)) r2)) 14) (Int32.toNatClampNeg ((u1 I7 13 (upd (I7 13) (Int32.toNatClampNeg (I7 0 21)) r2)) 0 21)) r7)) 15) (Int32.toNatClampNeg ((u1 (u1 I7 13 (upd (I7 13) (Int32.toNatClampNeg (I7 0 21)) r2)) 14 (upd ((u1 I7 13 (upd (I7 13) (Int32.toNatClampNeg (I7 0 21)) r2)) 14) (Int32.toNatClampNeg ((u1 I7 13 (upd (I7 13) (Int32.toNatClampNeg (I7 0 21)) r2)) 0 21)) r7)) 0 21)) (0 : Int32))) 0 21)) (0 : Int32))), J7)) else none) else none) else none) else none) else (some ((0 : Int32), I7, J7))) else ((F_X8_isNext I7 J7 (43 : Int32)).bind fun (r16, I16, J16) => (if r16 = 0 then (some ((0 : Int32), I16, J16)) else ((F_X8_numberIn I16 J16 (0 : Int32) (99 : Int32)).bind fun (r18, I18, J18) => (if 0 ≤ r18 then (if (I18 0 14) ≤ (I18 0 15) then (if gin (I18 0 21) 8 = true then (if gin ((u1 I18 13 (upd (I18 13) (Int32.toNatClampNeg (I18 0 21)) r2)) 0 21) 8 = true then (if gin ((u1 (u1 I18 13 (upd (I18 13) (Int32.toNatClampNeg (I18 0 21)) r2)) 14 (upd ((u1 I18 13 (upd (I18 13) (Int32.toNatClampNeg (I18 0 21)) r2)) 14) (Int32.toNatClampNeg ((u1 I18 13 (upd (I18 13) (Int32.toNatClampNeg (I18 0 21)) r2)) 0 21)) r7)) 0 21) 8 = true then (if gin ((u1 (u1 (u1 I18 13 (upd (I18 13) (Int32.toNatClampNeg (I18 0 21)) r2)) 14 (upd ((u1 I18 13 (upd (I18 13) (Int32.toNatClampNeg (I18 0 21)) r2)) 14) (Int32.toNatClampNeg ((u1 I18 13 (upd (I18 13) (Int32.toNatClampNeg (I18 0 21)) r2)) 0 21)) r7)) 15 (upd ((u1 (u1 I18 13 (upd (I18 13) (Int32.toNatClampNeg (I18 0 21)) r2)) 14 (upd ((u1 I18 13 (upd (I18 13) (Int32.toNatClampNeg (I18 0 21)) r2)) 14) (Int32.toNatClampNeg ((u1 I18 13 (upd (I18 13) (Int32.toNatClampNeg (I18 0 21)) r2)) 0 21)) r7)) 15) (Int32.toNatClampNeg ((u1 (u1 I18 13 (upd (I18 13) (Int32.toNatClampNeg (I18 0 21)) r2)) 14 (upd ((u1 I18 13 (upd (I18 13) (Int32.toNatClampNeg (I18 0 21)) r2)) 14) (Int32.toNatClampNeg ((u1 I18 13 (upd (I18 13) (Int32.toNatClampNeg (I18 0 21)) r2)) 0 21)) r7)) 0 21)) (0 : Int32))) 0 21) 8 = true then (some ((1 : Int32), (u1 (u1 (u1 (u1 I18 13 (upd (I18 13) (Int32.toNatClampNeg (I18 0 21)) r2)) 14 (upd ((u1 I18 13 (upd (I18 13) (Int32.toNatClampNeg (I18 0 21)) r2)) 14) (Int32.toNatClampNeg ((u1 I18 13 (upd (I18 13) (Int32.toNatClampNeg (I18 0 21)) r2)) 0 21)) r7)) 15 (upd ((u1 (u1 I18 13 (upd (I18 13) (Int32.toNatClampNeg (I18 0 21)) r2)) 14 (upd ((u1 I18 13 (upd (I18 13) (Int32.toNatClampNeg (I18 0 21)) r2)) 14) (Int32.toNatClampNeg ((u1 I18 13 (upd (I18 13) (Int32.toNatClampNeg (I18 0 21)) r2)) 0 21)) r7)) 15) (Int32.toNatClampNeg ((u1 (u1 I18 13 (upd (I18 13) (Int32.toNatClampNeg (I18 0 21)) r2)) 14 (upd ((u1 I18 13 (upd (I18 13) (Int32.toNatClampNeg (I18 0 21)) r2)) 14) (Int32.toNatClampNeg ((u1 I18 13 (upd (I18 13) (Int32.toNatClampNeg (I18 0 21)) r2)) 0 21)) r7)) 0 21)) (0 : Int32))) 16 (upd ((u1 (u1 (u1 I18 13 (upd (I18 13) (Int32.toNatClampNeg (I18 0 21)) r2)) 14 (upd ((u1 I18 13 (upd (I18 13) (Int32.toNatClampNeg (I18 0 21)) r2)) 14) (Int32.toNatClampNeg ((u1 I18 13 (upd (I18 13) (Int32.toNatClampNeg (I18 0 21)) r2)) 0 21)) r7)) 15 (upd ((u1 (u1 I18 13 (upd (I18 13) (Int32.toNatClampNeg (I18 0 21)) r2)) 14 (upd ((u1 I18 13 (upd (I18 13) (Int32.toNatClampNeg (I18 0 21)) r2)) 14) (Int32.toNatClampNeg ((u1 I18 13 (upd (I18 13) (Int32.toNatClampNeg (I18 0 21)) r2)) 0 21)) r7)) 15) (Int32.toNatClampNeg ((u1 (u1 I18 13 (upd (I18 13) (Int32.toNatClampNeg (I18 0 21)) r2)) 14 (upd ((u1 I18 13 (upd (I18 13) (Int32.toNatClampNeg (I18 0 21)) r2)) 14) (Int32.toNatClampNeg ((u1 I18 13 (upd (I18 13) (Int32.toNatClampNeg (I18 0 21)) r2)) 0 21)) r7)) 0 21)) (0 : Int32))) 16) (Int32.toNatClampNeg ((u1 (u1 (u1 I18 13 (upd (I18 13) (Int32.toNatClampNeg (I18 0 21)) r2)) 14 (upd ((u1 I18 13 (upd (I18 13) (Int32.toNatClampNeg (I18 0 21)) r2)) 14) (Int32.toNatClampNeg ((u1 I18 13 (upd (I18 13) (Int32.toNatClampNeg (I18 0 21)) r2)) 0 21)) r7)) 15 (upd ((u1 (u1 I18 13 (upd (I18 13) (Int32.toNatClampNeg (I18 0 21)) r2)) 14 (upd ((u1 I18 13 (upd (I18 13) (Int32.toNatClampNeg (I18 0 21)) r2)) 14) (Int32.toNatClampNeg ((u1 I18 13 (upd (I18 13) (Int32.toNatClampNeg (I18 0 21)) r2)) 0 21)) r7)) 15) (Int32.toNatClampNeg ((u1 (u1 I18 13 (upd (I18 13) (Int32.toNatClampNeg (I18 0 21)) r2)) 14 (upd ((u1 I18 13 (upd (I18 13) (Int32.toNatClampNeg (I18 0 21)) r2)) 14) (Int32.toNatClampNeg ((u1 I18 13 (upd (I18 13) (Int32.toNatClampNeg (I18 0 21)) r2)) 0 21)) r7)) 0 21)) (0 : Int32))) 0 21)) r18)), J18)) else none) else none) else none) else none) else (some ((0 : Int32), I18, J18))) else (some ((0 : Int32), I18, J18))))))) else ((F_X8_isNext I7 J7 (47 : Int32)).bind fun (r25, I25, J25) => (if r25 = 0 then (some ((0 : Int32), I25, J25)) else ((F_X8_numberIn I25 J25 r7 (99 : Int32)).bind fun (r27, I27, J27) => (if 0 ≤ r27 then (if r2 < (3 : Int32) then (if (I27 0 14) ≤ (I27 0 15) then (if gin (I27 0 21) 8 = true then (if gin ((u1 I27 13 (upd (I27 13) (Int32.toNatClampNeg (I27 0 21)) r2)) 0 21) 8 = true then (if gin ((u1 (u1 I27 13 (upd (I27 13) (Int32.toNatClampNeg (I27 0 21)) r2)) 14 (upd ((u1 I27 13 (upd (I27 13) (Int32.toNatClampNeg (I27 0 21)) r2)) 14) (Int32.toNatClampNeg ((u1 I27 13 (upd (I27 13) (Int32.toNatClampNeg (I27 0 21)) r2)) 0 21)) r7)) 0 21) 8 = true then (if gin ((u1 (u1 (u1 I27 13 (upd (I27 13) (Int32.toNatClampNeg (I27 0 21)) r2)) 14 (upd ((u1 I27 13 (upd (I27 13) (Int32.toNatClampNeg (I27 0 21)) r2)) 14) (Int32.toNatClampNeg ((u1 I27 13 (upd (I27 13) (Int32.toNatClampNeg (I27 0 21)) r2)) 0 21)) r7)) 15 (upd ((u1 (u1 I27 13 (upd (I27 13) (Int32.toNatClampNeg (I27 0 21)) r2)) 14 (upd ((u1 I27 13 (upd (I27 13) (Int32.toNatClampNeg (I27 0 21)) r2)) 14) (Int32.toNatClampNeg ((u1 I27 13 (upd (I27 13) (Int32.toNatClampNeg (I27 0 21)) r2)) 0 21)) r7)) 15) (Int32.toNatClampNeg ((u1 (u1 I27 13 (upd (I27 13) (Int32.toNatClampNeg (I27 0 21)) r2)) 14 (upd ((u1 I27 13 (upd (I27 13) (Int32.toNatClampNeg (I27 0 21)) r2)) 14) (Int32.toNatClampNeg ((u1 I27 13 (upd (I27 13) (Int32.toNatClampNeg (I27 0 21)) r2)) 0 21)) r7)) 0 21)) r27)) 0 21) 8 = true then (some ((1 : Int32), (u1 (u1 (u1 (u1 I27 13 (upd (I27 13) (Int32.toNatClampNeg (I27 0 21)) r2)) 14 (upd ((u1 I27 13 (upd (I27 13) (Int32.toNatClampNeg (I27 0 21)) r2)) 14) (Int32.toNatClampNeg ((u1 I27 13 (upd (I27 13) (Int32.toNatClampNeg (I27 0 21)) r2)) 0 21)) r7)) 15 (upd ((u1 (u1 I27 13 (upd (I27 13) (Int32.toNatClampNeg (I27 0 21)) r2)) 14 (upd ((u1 I27 13 (upd (I27 13) (Int32.toNatClampNeg (I27 0 21)) r2)) 14) (Int32.toNatClampNeg ((u1 I27 13 (upd (I27 13) (Int32.toNatClampNeg (I27 0 21)) r2)) 0 21)) r7)) 15) (Int32.toNatClampNeg ((u1 (u1 I27 13 (upd (I27 13) (Int32.toNatClampNeg (I27 0 21)) r2)) 14 (upd ((u1 I27 13 (upd (I27 13) (Int32.toNatClampNeg (I27 0 21)) r2)) 14) (Int32.toNatClampNeg ((u1 I27 13 (upd (I27 13) (Int32.toNatClampNeg (I27 0 21)) r2)) 0 21)) r7)) 0 21)) r27)) 16 (upd ((u1 (u1 (u1 I27 13 (upd (I27 13) (Int32.toNatClampNeg (I27 0 21)) r2)) 14 (upd ((u1 I27 13 (upd (I27 13) (Int32.toNatClampNeg (I27 0 21)) r2)) 14) (Int32.toNatClampNeg ((u1 I27 13 (upd (I27 13) (Int32.toNatClampNeg (I27 0 21)) r2)) 0 21)) r7)) 15 (upd ((u1 (u1 I27 13 (upd (I27 13) (Int32.toNatClampNeg (I27 0 21)) r2)) 14 (upd ((u1 I27 13 (upd (I27 13) (Int32.toNatClampNeg (I27 0 21)) r2)) 14) (Int32.toNatClampNeg ((u1 I27 13 (upd (I27 13) (Int32.toNatClampNeg (I27 0 21)) r2)) 0 21)) r7)) 15) (Int32.toNatClampNeg ((u1 (u1 I27 13 (upd (I27 13) (Int32.toNatClampNeg (I27 0 21)) r2)) 14 (upd ((u1 I27 13 (upd (I27 13) (Int32.toNatClampNeg (I27 0 21)) r2)) 14) (Int32.toNatClampNeg ((u1 I27 13 (upd (I27 13) (Int32.toNatClampNeg (I27 0 21)) r2)) 0 21)) r7)) 0 21)) r27)) 16) (Int32.toNatClampNeg ((u1 (u1 (u1 I27 13 (upd (I27 13) (Int32.toNatClampNeg (I27 0 21)) r2)) 14 (upd ((u1 I27 13 (upd (I27 13) (Int32.toNatClampNeg (I27 0 21)) r2)) 14) (Int32.toNatClampNeg ((u1 I27 13 (upd (I27 13) (Int32.toNatClampNeg (I27 0 21)) r2)) 0 21)) r7)) 15 (upd ((u1 (u1 I27 13 (upd (I27 13) (Int32.toNatClampNeg (I27 0 21)) r2)) 14 (upd ((u1 I27 13 (upd (I27 13) (Int32.toNatClampNeg (I27 0 21)) r2)) 14) (Int32.toNatClampNeg ((u1 I27 13 (upd (I27 13) (Int32.toNatClampNeg (I27 0 21)) r2)) 0 21)) r7)) 15) (Int32.toNatClampNeg ((u1 (u1 I27 13 (upd (I27 13) (Int32.toNatClampNeg (I27 0 21)) r2)) 14 (upd ((u1 I27 13 (upd (I27 13) (Int32.toNatClampNeg (I27 0 21)) r2)) 14) (Int32.toNatClampNeg ((u1 I27 13 (upd (I27 13) (Int32.toNatClampNeg (I27 0 21)) r2)) 0 21)) r7)) 0 21)) r27)) 0 21)) (0 : Int32))), J27)) else none) else none) else none) else none) else (some ((0 : Int32), I27, J27))) else ((F_X8_isNext I27 J27 (43 : Int32)).bind fun (r35, I35, J35) => (if r35 = 0 then (some ((0 : Int32), I35, J35)) else ((F_X8_numberIn I35 J35 (0 : Int32) (99 : Int32)).bind fun (r37, I37, J37) => (if 0 ≤ r37 then (if (I37 0 14) ≤ (I37 0 15) then (if gin (I37 0 21) 8 = true then (if gin ((u1 I37 13 (upd (I37 13) (Int32.toNatClampNeg (I37 0 21)) r2)) 0 21) 8 = true then (if gin ((u1 (u1 I37 13 (upd (I37 13) (Int32.toNatClampNeg (I37 0 21)) r2)) 14 (upd ((u1 I37 13 (upd (I37 13) (Int32.toNatClampNeg (I37 0 21)) r2)) 14) (Int32.toNatClampNeg ((u1 I37 13 (upd (I37 13) (Int32.toNatClampNeg (I37 0 21)) r2)) 0 21)) r7)) 0 21) 8 = true then (if gin ((u1 (u1 (u1 I37 13 (upd (I37 13) (Int32.toNatClampNeg (I37 0 21)) r2)) 14 (upd ((u1 I37 13 (upd (I37 13) (Int32.toNatClampNeg (I37 0 21)) r2)) 14) (Int32.toNatClampNeg ((u1 I37 13 (upd (I37 13) (Int32.toNatClampNeg (I37 0 21)) r2)) 0 21)) r7)) 15 (upd ((u1 (u1 I37 13 (upd (I37 13) (Int32.toNatClampNeg (I37 0 21)) r2)) 14 (upd ((u1 I37 13 (upd (I37 13) (Int32.toNatClampNeg (I37 0 21)) r2)) 14) (Int32.toNatClampNeg ((u1 I37 13 (upd (I37 13) (Int32.toNatClampNeg (I37 0 21)) r2)) 0 21)) r7)) 15) (Int32.toNatClampNeg ((u1 (u1 I37 13 (upd (I37 13) (Int32.toNatClampNeg (I37 0 21)) r2)) 14 (upd ((u1 I37 13 (upd (I37 13) (Int32.toNatClampNeg (I37 0 21)) r2)) 14) (Int32.toNatClampNeg ((u1 I37 13 (upd (I37 13) (Int32.toNatClampNeg (I37 0 21)) r2)) 0 21)) r7)) 0 21)) r27)) 0 21) 8 = true then (some ((1 : Int32), (u1 (u1 (u1 (u1 I37 13 (upd (I37 13) (Int32.toNatClampNeg (I37 0 21)) r2)) 14 (upd ((u1 I37 13 (upd (I37 13) (Int32.toNatClampNeg (I37 0 21)) r2)) 14) (Int32.toNatClampNeg ((u1 I37 13 (upd (I37 13) (Int32.toNatClampNeg (I37 0 21)) r2)) 0 21)) r7)) 15 (upd ((u1 (u1 I37 13 (upd (I37 13) (Int32.toNatClampNeg (I37 0 21)) r2)) 14 (upd ((u1 I37 13 (upd (I37 13) (Int32.toNatClampNeg (I37 0 21)) r2)) 14) (Int32.toNatClampNeg ((u1 I37 13 (upd (I37 13) (Int32.toNatClampNeg (I37 0 21)) r2)) 0 21)) r7)) 15) (Int32.toNatClampNeg ((u1 (u1 I37 13 (upd (I37 13) (Int32.toNatClampNeg (I37 0 21)) r2)) 14 (upd ((u1 I37 13 (upd (I37 13) (Int32.toNatClampNeg (I37 0 21)) r2)) 14) (Int32.toNatClampNeg ((u1 I37 13 (upd (I37 13) (Int32.toNatClampNeg (I37 0 21)) r2)) 0 21)) r7)) 0 21)) r27)) 16 (upd ((u1 (u1 (u1 I37 13 (upd (I37 13) (Int32.toNatClampNeg (I37 0 21)) r2)) 14 (upd ((u1 I37 13 (upd (I37 13) (Int32.toNatClampNeg (I37 0 21)) r2)) 14) (Int32.toNatClampNeg ((u1 I37 13 (upd (I37 13) (Int32.toNatClampNeg (I37 0 21)) r2)) 0 21)) r7)) 15 (upd ((u1 (u1 I37 13 (upd (I37 13) (Int32.toNatClampNeg (I37 0 21)) r2)) 14 (upd ((u1 I37 13 (upd (I37 13) (Int32.toNatClampNeg (I37 0 21)) r2)) 14) (Int32.toNatClampNeg ((u1 I37 13 (upd (I37 13) (Int32.toNatClampNeg (I37 0 21)) r2)) 0 21)) r7)) 15) (Int32.toNatClampNeg ((u1 (u1 I37 13 (upd (I37 13) (Int32.toNatClampNeg (I37 0 21)) r2)) 14 (upd ((u1 I37 13 (upd (I37 13) (Int32.toNatClampNeg (I37 0 21)) r2)) 14) (Int32.toNatClampNeg ((u1 I37 13 (upd (I37 13) (Int32.toNatClampNeg (I37 0 21)) r2)) 0 21)) r7)) 0 21)) r27)) 16) (Int32.toNatClampNeg ((u1 (u1 (u1 I37 13 (upd (I37 13) (Int32.toNatClampNeg (I37 0 21)) r2)) 14 (upd ((u1 I37 13 (upd (I37 13) (Int32.toNatClampNeg (I37 0 21)) r2)) 14) (Int32.toNatClampNeg ((u1 I37 13 (upd (I37 13) (Int32.toNatClampNeg (I37 0 21)) r2)) 0 21)) r7)) 15 (upd ((u1 (u1 I37 13 (upd (I37 13) (Int32.toNatClampNeg (I37 0 21)) r2)) 14 (upd ((u1 I37 13 (upd (I37 13) (Int32.toNatClampNeg (I37 0 21)) r2)) 14) (Int32.toNatClampNeg ((u1 I37 13 (upd (I37 13) (Int32.toNatClampNeg (I37 0 21)) r2)) 0 21)) r7)) 15) (Int32.toNatClampNeg ((u1 (u1 I37 13 (upd (I37 13) (Int32.toNatClampNeg (I37 0 21)) r2)) 14 (upd ((u1 I37 13 (upd (I37 13) (Int32.toNatClampNeg (I37 0 21)) r2)) 14) (Int32.toNatClampNeg ((u1 I37 13 (upd (I37 13) (Int32.toNatClampNeg (I37 0 21)) r2)) 0 21)) r7)) 0 21)) r27)) 0 21)) r37)), J37)) else none) else none) else none) else none) else (some ((0 : Int32), I37, J37))) else (some ((0 : Int32), I37, J37))))))) else (some ((0 : Int32), I27, J27))))))) else (some ((0 : Int32), I7, J7))))) else (some ((0 : Int32), (u2 I 0 15 (0 : Int32)), J)))))
set_option maxHeartbeats 4000000 in
set_option maxRecDepth 100000 in
theorem c_X8_readsTerm (l : Launch) (g : Gx) (ad : Nat → Nat) (I : SI) (J : SJ)   (sz : Nat) {r : Int32} {rI : SI} {rJ : SJ} (h : F_X8_readsTerm I J = some (r, rI, rJ)) : Met l yX8_readsTerm (Cond.code yX8_readsTerm cX8_readsTerm 6 (some .boolean) :: BG) (k2_rm 3 68) (PcW [.ref (ad 0)] g (mW ad g I J) sz) (QWi r g (mW ad g I J) (mW ad g rI rJ) sz) 0 0 (va_A (mW ad g I J) sz) := by
  refine mkWz (by decide) (Nat.le_of_ble_eq_true rfl) ?_
  intro p e s m args below meth c H locs ls A Q hC hK hP hD hA hS hl hret
  have hx := hC.1
  have hb := hC.2.1
  have hts := hC.2.2.2.2
  have hown := hC.2.2.2.1
  replace hl : lv_has ls 6 [(0, .ref (ad 0))] := hl
  unfold F_X8_readsTerm at h
  refine lv_aload_n hx hb dX8_readsTerm_0 rfl (lv_at hl 0 rfl) ?_
  refine lv_iconst (v := 0) hx hb dX8_readsTerm_1 (by decide) ?_
  refine pt_X8_98 hC hK hP hD hS dX8_readsTerm_2 (fun H locs hP hD hS => ?_)
  refine lv_aload_n hx hb dX8_readsTerm_5 rfl (lv_at hl 0 rfl) ?_
  obtain ⟨r1, hc1, h⟩ := ob h
  refine callRV (As := []) (rest := []) hC (c_X8_nextByte l g ad (u2 I 0 15 (0 : Int32)) J   hc1) lk_X8_101 rfl rfl ⟨Nat.le_of_ble_eq_true rfl, Nat.le_of_ble_eq_true rfl⟩ hP hK mo_0 rfl rfl rfl hl (Nat.le_of_ble_eq_true rfl) dX8_readsTerm_6 ?_
  obtain ⟨r2, hc2, h⟩ := ob h
  refine callRS (As := [.int r1]) (rest := []) hC (c_X8_kindOf l g (mW ad g (u2 I 0 15 (0 : Int32)) J) r1 hc2) lk_X8_139 rfl rfl ⟨Nat.le_of_ble_eq_true rfl, Nat.le_of_ble_eq_true rfl⟩ hP hK rfl rfl hl (Nat.le_of_ble_eq_true rfl) dX8_readsTerm_9 ?_
  refine lv_istore_n (lv' := [(1, .int r2), (0, .ref (ad 0))]) hx hb dX8_readsTerm_12 rfl hl (by decide) rfl (fun ls hl => ?_)
  refine lv_iload_n hx hb dX8_readsTerm_13 rfl (lv_at hl 0 rfl) ?_
  refine lv_if_ge (tgt := 19) hx hb dX8_readsTerm_14 (by decide) (fun c3 => ?_) (fun c3 => ?_)
  · replace h := (if_pos c3).symm.trans h
    refine lv_aload_n hx hb dX8_readsTerm_19 rfl (lv_at hl 1 rfl) ?_
    refine lv_dup hx hb dX8_readsTerm_20 rfl ?_
    refine gt_X8_98 hC hK hP dX8_readsTerm_21 ?_
    refine lv_iconst (v := 1) hx hb dX8_readsTerm_24 (by decide) ?_
    refine lv_iadd hx hb dX8_readsTerm_25 ?_
    refine pt_X8_98 hC hK hP hD hS dX8_readsTerm_26 (fun H locs hP hD hS => ?_)
    refine lv_aload_n hx hb dX8_readsTerm_29 rfl (lv_at hl 1 rfl) ?_
    refine lv_iload_n hx hb dX8_readsTerm_30 rfl (lv_at hl 0 rfl) ?_
    obtain ⟨r4, hc4, h⟩ := ob h
    refine callRV (As := [.int r2]) (rest := []) hC (c_X8_isParted l g ad (u2 (u2 I 0 15 (0 : Int32)) 0 15 (((u2 I 0 15 (0 : Int32)) 0 15) + (1 : Int32))) J r2  hc4) lk_X8_142 rfl rfl ⟨Nat.le_of_ble_eq_true rfl, Nat.le_of_ble_eq_true rfl⟩ hP hK mo_0 rfl rfl rfl hl (Nat.le_of_ble_eq_true rfl) dX8_readsTerm_31 ?_
    refine lv_istore_n (lv' := [(2, .int r4), (1, .int r2), (0, .ref (ad 0))]) hx hb dX8_readsTerm_34 rfl hl (by decide) rfl (fun ls hl => ?_)
    refine lv_aload_n hx hb dX8_readsTerm_35 rfl (lv_at hl 2 rfl) ?_
    refine lv_iload_n hx hb dX8_readsTerm_36 rfl (lv_at hl 0 rfl) ?_
    refine tern (α := Int32) (cnd := r4 = 0) (a := (0 : Int32)) (b := (1 : Int32)) (Wj := fun vj => W p l e (k2_rm 3 68) s m args below meth c H locs 0 0 Q (F0 m 45 ls [.int vj, .ref (ad 0)])) (fun k6a k6b => ?_) ?_
    · refine lv_if_eq (tgt := 44) hx hb dX8_readsTerm_37 (by decide) (fun c5 => ?_) (fun c5 => ?_)
      · refine lv_iconst (v := 0) hx hb dX8_readsTerm_44 (by decide) ?_
        exact k6a c5
      · refine lv_iconst (v := 1) hx hb dX8_readsTerm_40 (by decide) ?_
        refine lv_goto (tgt := 45) hx hb dX8_readsTerm_41 (by decide) ?_
        exact k6b c5
    · show W p l e (k2_rm 3 68) s m args below meth c H locs 0 0 Q (F0 m 45 ls [.int (if r4 = 0 then (0 : Int32) else (1 : Int32)), .ref (ad 0)])
      refine lv_bipush (v := 99) hx hb dX8_readsTerm_45 (by decide) ?_
      obtain ⟨⟨r7, I7, J7⟩, hc7, h⟩ := ob h
      dsimp only at h
      refine callWVi (As := [.int (if r4 = 0 then (0 : Int32) else (1 : Int32)), .int (99 : Int32)]) (rest := []) hC (c_X8_numberIn l g ad (u2 (u2 I 0 15 (0 : Int32)) 0 15 (((u2 I 0 15 (0 : Int32)) 0 15) + (1 : Int32))) J (if r4 = 0 then (0 : Int32) else (1 : Int32)) (99 : Int32)  H.size hc7) lk_X8_145 rfl rfl ⟨Nat.le_of_ble_eq_true rfl, Nat.le_of_ble_eq_true rfl⟩ hP hK hD hA hS mo_0 rfl rfl rfl hl (Nat.le_of_ble_eq_true rfl) dX8_readsTerm_47 (fun H locs hP hD hS => ?_)
      refine lv_istore_n (lv' := [(3, .int r7), (2, .int r4), (1, .int r2), (0, .ref (ad 0))]) hx hb dX8_readsTerm_50 rfl hl (by decide) rfl (fun ls hl => ?_)
      refine lv_iload_n hx hb dX8_readsTerm_51 rfl (lv_at hl 0 rfl) ?_
      refine lv_if_ge (tgt := 57) hx hb dX8_readsTerm_52 (by decide) (fun c8 => ?_) (fun c8 => ?_)
      · replace h := (if_pos c8).symm.trans h
        refine lv_iconst (v := 0) hx hb dX8_readsTerm_57 (by decide) ?_
        refine lv_istore (lv' := [(4, .int (0 : Int32)), (3, .int r7), (2, .int r4), (1, .int r2), (0, .ref (ad 0))]) hx hb dX8_readsTerm_58 hl (by decide) rfl (fun ls hl => ?_)
        refine lv_iload_n hx hb dX8_readsTerm_60 rfl (lv_at hl 2 rfl) ?_
        refine lv_if_eq (tgt := 91) hx hb dX8_readsTerm_61 (by decide) (fun c9 => ?_) (fun c9 => ?_)
        · replace h := (if_pos c9).symm.trans h
          refine lv_iconst (v := 0) hx hb dX8_readsTerm_91 (by decide) ?_
          refine lv_istore (lv' := [(5, .int (0 : Int32)), (4, .int (0 : Int32)), (3, .int r7), (2, .int r4), (1, .int r2), (0, .ref (ad 0))]) hx hb dX8_readsTerm_92 hl (by decide) rfl (fun ls hl => ?_)
          refine lv_iload_n hx hb dX8_readsTerm_94 rfl (lv_at hl 4 rfl) ?_
          refine lv_iconst (v := 3) hx hb dX8_readsTerm_95 (by decide) ?_
          refine lv_icmp_lt (tgt := 126) hx hb dX8_readsTerm_96 (by decide) (fun c10 => ?_) (fun c10 => ?_)
          · replace h := (if_pos c10).symm.trans h
            refine lv_aload_n hx hb dX8_readsTerm_126 rfl (lv_at hl 5 rfl) ?_
            refine gt_X8_98 hC hK hP dX8_readsTerm_127 ?_
            refine lv_aload_n hx hb dX8_readsTerm_130 rfl (lv_at hl 5 rfl) ?_
            refine gt_X8_89 hC hK hP dX8_readsTerm_131 ?_
            refine lv_icmp_ge (tgt := 139) hx hb dX8_readsTerm_134 (by decide) (fun c11 => ?_) (fun c11 => ?_)
            · replace h := (if_pos c11).symm.trans h
              refine lv_aload_n hx hb dX8_readsTerm_139 rfl (lv_at hl 5 rfl) ?_
              refine gt_X8_46 hC hK hP dX8_readsTerm_140 ?_
              refine lv_aload_n hx hb dX8_readsTerm_143 rfl (lv_at hl 5 rfl) ?_
              refine gt_X8_149 hC hK hP dX8_readsTerm_144 ?_
              refine lv_iload_n hx hb dX8_readsTerm_147 rfl (lv_at hl 4 rfl) ?_
              obtain ⟨b12, h⟩ := og h
              refine as_m13 hC hK hP hD hS (gin_ok b12) dX8_readsTerm_148 (fun H locs hP hD hS => ?_)
              refine lv_aload_n hx hb dX8_readsTerm_149 rfl (lv_at hl 5 rfl) ?_
              refine gt_X8_49 hC hK hP dX8_readsTerm_150 ?_
              refine lv_aload_n hx hb dX8_readsTerm_153 rfl (lv_at hl 5 rfl) ?_
              refine gt_X8_149 hC hK hP dX8_readsTerm_154 ?_
              refine lv_iload_n hx hb dX8_readsTerm_157 rfl (lv_at hl 2 rfl) ?_
              obtain ⟨b13, h⟩ := og h
              refine as_m14 hC hK hP hD hS (gin_ok b13) dX8_readsTerm_158 (fun H locs hP hD hS => ?_)
              refine lv_aload_n hx hb dX8_readsTerm_159 rfl (lv_at hl 5 rfl) ?_
              refine gt_X8_52 hC hK hP dX8_readsTerm_160 ?_
              refine lv_aload_n hx hb dX8_readsTerm_163 rfl (lv_at hl 5 rfl) ?_
              refine gt_X8_149 hC hK hP dX8_readsTerm_164 ?_
              refine lv_iload hx hb dX8_readsTerm_167 (lv_at hl 1 rfl) ?_
              obtain ⟨b14, h⟩ := og h
              refine as_m15 hC hK hP hD hS (gin_ok b14) dX8_readsTerm_169 (fun H locs hP hD hS => ?_)
              refine lv_aload_n hx hb dX8_readsTerm_170 rfl (lv_at hl 5 rfl) ?_
              refine gt_X8_55 hC hK hP dX8_readsTerm_171 ?_
              refine lv_aload_n hx hb dX8_readsTerm_174 rfl (lv_at hl 5 rfl) ?_
              refine gt_X8_149 hC hK hP dX8_readsTerm_175 ?_
              refine lv_iload hx hb dX8_readsTerm_178 (lv_at hl 0 rfl) ?_
              obtain ⟨b15, h⟩ := og h
              refine as_m16 hC hK hP hD hS (gin_ok b15) dX8_readsTerm_180 (fun H locs hP hD hS => ?_)
              refine lv_iconst (v := 1) hx hb dX8_readsTerm_181 (by decide) ?_
              obtain ⟨h1, h⟩ := Prod.mk.inj (Option.some.inj h)
              obtain ⟨rfl, rfl⟩ := Prod.mk.inj h
              exact hret _ _ _ _ _ dX8_readsTerm_182 rfl h1 hP hD hS
            · replace h := (if_neg c11).symm.trans h
              refine lv_iconst (v := 0) hx hb dX8_readsTerm_137 (by decide) ?_
              obtain ⟨h1, h⟩ := Prod.mk.inj (Option.some.inj h)
              obtain ⟨rfl, rfl⟩ := Prod.mk.inj h
              exact hret _ _ _ _ _ dX8_readsTerm_138 rfl h1 hP hD hS
          · replace h := (if_neg c10).symm.trans h
            refine lv_aload_n hx hb dX8_readsTerm_99 rfl (lv_at hl 5 rfl) ?_
            refine lv_bipush (v := 43) hx hb dX8_readsTerm_100 (by decide) ?_
            obtain ⟨⟨r16, I16, J16⟩, hc16, h⟩ := ob h
            dsimp only at h
            refine callWVi (As := [.int (43 : Int32)]) (rest := []) hC (c_X8_isNext l g ad I7 J7 (43 : Int32)  H.size hc16) lk_X8_118 rfl rfl ⟨Nat.le_of_ble_eq_true rfl, Nat.le_of_ble_eq_true rfl⟩ hP hK hD hA hS mo_0 rfl rfl rfl hl (Nat.le_of_ble_eq_true rfl) dX8_readsTerm_102 (fun H locs hP hD hS => ?_)
            refine lv_if_ne (tgt := 110) hx hb dX8_readsTerm_105 (by decide) (fun c17 => ?_) (fun c17 => ?_)
            · replace h := (if_neg c17).symm.trans h
              refine lv_aload_n hx hb dX8_readsTerm_110 rfl (lv_at hl 5 rfl) ?_
              refine lv_iconst (v := 0) hx hb dX8_readsTerm_111 (by decide) ?_
              refine lv_bipush (v := 99) hx hb dX8_readsTerm_112 (by decide) ?_
              obtain ⟨⟨r18, I18, J18⟩, hc18, h⟩ := ob h
              dsimp only at h
              refine callWVi (As := [.int (0 : Int32), .int (99 : Int32)]) (rest := []) hC (c_X8_numberIn l g ad I16 J16 (0 : Int32) (99 : Int32)  H.size hc18) lk_X8_145 rfl rfl ⟨Nat.le_of_ble_eq_true rfl, Nat.le_of_ble_eq_true rfl⟩ hP hK hD hA hS mo_0 rfl rfl rfl hl (Nat.le_of_ble_eq_true rfl) dX8_readsTerm_114 (fun H locs hP hD hS => ?_)
              refine lv_istore (lv' := [(5, .int r18), (4, .int (0 : Int32)), (3, .int r7), (2, .int r4), (1, .int r2), (0, .ref (ad 0))]) hx hb dX8_readsTerm_117 hl (by decide) rfl (fun ls hl => ?_)
              refine lv_iload hx hb dX8_readsTerm_119 (lv_at hl 0 rfl) ?_
              refine lv_if_ge (tgt := 126) hx hb dX8_readsTerm_121 (by decide) (fun c19 => ?_) (fun c19 => ?_)
              · replace h := (if_pos c19).symm.trans h
                refine lv_aload_n hx hb dX8_readsTerm_126 rfl (lv_at hl 5 rfl) ?_
                refine gt_X8_98 hC hK hP dX8_readsTerm_127 ?_
                refine lv_aload_n hx hb dX8_readsTerm_130 rfl (lv_at hl 5 rfl) ?_
                refine gt_X8_89 hC hK hP dX8_readsTerm_131 ?_
                refine lv_icmp_ge (tgt := 139) hx hb dX8_readsTerm_134 (by decide) (fun c20 => ?_) (fun c20 => ?_)
                · replace h := (if_pos c20).symm.trans h
                  refine lv_aload_n hx hb dX8_readsTerm_139 rfl (lv_at hl 5 rfl) ?_
                  refine gt_X8_46 hC hK hP dX8_readsTerm_140 ?_
                  refine lv_aload_n hx hb dX8_readsTerm_143 rfl (lv_at hl 5 rfl) ?_
                  refine gt_X8_149 hC hK hP dX8_readsTerm_144 ?_
                  refine lv_iload_n hx hb dX8_readsTerm_147 rfl (lv_at hl 4 rfl) ?_
                  obtain ⟨b21, h⟩ := og h
                  refine as_m13 hC hK hP hD hS (gin_ok b21) dX8_readsTerm_148 (fun H locs hP hD hS => ?_)
                  refine lv_aload_n hx hb dX8_readsTerm_149 rfl (lv_at hl 5 rfl) ?_
                  refine gt_X8_49 hC hK hP dX8_readsTerm_150 ?_
                  refine lv_aload_n hx hb dX8_readsTerm_153 rfl (lv_at hl 5 rfl) ?_
                  refine gt_X8_149 hC hK hP dX8_readsTerm_154 ?_
                  refine lv_iload_n hx hb dX8_readsTerm_157 rfl (lv_at hl 2 rfl) ?_
                  obtain ⟨b22, h⟩ := og h
                  refine as_m14 hC hK hP hD hS (gin_ok b22) dX8_readsTerm_158 (fun H locs hP hD hS => ?_)
                  refine lv_aload_n hx hb dX8_readsTerm_159 rfl (lv_at hl 5 rfl) ?_
                  refine gt_X8_52 hC hK hP dX8_readsTerm_160 ?_
                  refine lv_aload_n hx hb dX8_readsTerm_163 rfl (lv_at hl 5 rfl) ?_
                  refine gt_X8_149 hC hK hP dX8_readsTerm_164 ?_
                  refine lv_iload hx hb dX8_readsTerm_167 (lv_at hl 1 rfl) ?_
                  obtain ⟨b23, h⟩ := og h
                  refine as_m15 hC hK hP hD hS (gin_ok b23) dX8_readsTerm_169 (fun H locs hP hD hS => ?_)
                  refine lv_aload_n hx hb dX8_readsTerm_170 rfl (lv_at hl 5 rfl) ?_
                  refine gt_X8_55 hC hK hP dX8_readsTerm_171 ?_
                  refine lv_aload_n hx hb dX8_readsTerm_174 rfl (lv_at hl 5 rfl) ?_
                  refine gt_X8_149 hC hK hP dX8_readsTerm_175 ?_
                  refine lv_iload hx hb dX8_readsTerm_178 (lv_at hl 0 rfl) ?_
                  obtain ⟨b24, h⟩ := og h
                  refine as_m16 hC hK hP hD hS (gin_ok b24) dX8_readsTerm_180 (fun H locs hP hD hS => ?_)
                  refine lv_iconst (v := 1) hx hb dX8_readsTerm_181 (by decide) ?_
                  obtain ⟨h1, h⟩ := Prod.mk.inj (Option.some.inj h)
                  obtain ⟨rfl, rfl⟩ := Prod.mk.inj h
                  exact hret _ _ _ _ _ dX8_readsTerm_182 rfl h1 hP hD hS
                · replace h := (if_neg c20).symm.trans h
                  refine lv_iconst (v := 0) hx hb dX8_readsTerm_137 (by decide) ?_
                  obtain ⟨h1, h⟩ := Prod.mk.inj (Option.some.inj h)
                  obtain ⟨rfl, rfl⟩ := Prod.mk.inj h
                  exact hret _ _ _ _ _ dX8_readsTerm_138 rfl h1 hP hD hS
              · replace h := (if_neg c19).symm.trans h
                refine lv_iconst (v := 0) hx hb dX8_readsTerm_124 (by decide) ?_
                obtain ⟨h1, h⟩ := Prod.mk.inj (Option.some.inj h)
                obtain ⟨rfl, rfl⟩ := Prod.mk.inj h
                exact hret _ _ _ _ _ dX8_readsTerm_125 rfl h1 hP hD hS
            · replace h := (if_pos c17).symm.trans h
              refine lv_iconst (v := 0) hx hb dX8_readsTerm_108 (by decide) ?_
              obtain ⟨h1, h⟩ := Prod.mk.inj (Option.some.inj h)
              obtain ⟨rfl, rfl⟩ := Prod.mk.inj h
              exact hret _ _ _ _ _ dX8_readsTerm_109 rfl h1 hP hD hS
        · replace h := (if_neg c9).symm.trans h
          refine lv_aload_n hx hb dX8_readsTerm_64 rfl (lv_at hl 4 rfl) ?_
          refine lv_bipush (v := 47) hx hb dX8_readsTerm_65 (by decide) ?_
          obtain ⟨⟨r25, I25, J25⟩, hc25, h⟩ := ob h
          dsimp only at h
          refine callWVi (As := [.int (47 : Int32)]) (rest := []) hC (c_X8_isNext l g ad I7 J7 (47 : Int32)  H.size hc25) lk_X8_118 rfl rfl ⟨Nat.le_of_ble_eq_true rfl, Nat.le_of_ble_eq_true rfl⟩ hP hK hD hA hS mo_0 rfl rfl rfl hl (Nat.le_of_ble_eq_true rfl) dX8_readsTerm_67 (fun H locs hP hD hS => ?_)
          refine lv_if_ne (tgt := 75) hx hb dX8_readsTerm_70 (by decide) (fun c26 => ?_) (fun c26 => ?_)
          · replace h := (if_neg c26).symm.trans h
            refine lv_aload_n hx hb dX8_readsTerm_75 rfl (lv_at hl 4 rfl) ?_
            refine lv_iload_n hx hb dX8_readsTerm_76 rfl (lv_at hl 1 rfl) ?_
            refine lv_bipush (v := 99) hx hb dX8_readsTerm_77 (by decide) ?_
            obtain ⟨⟨r27, I27, J27⟩, hc27, h⟩ := ob h
            dsimp only at h
            refine callWVi (As := [.int r7, .int (99 : Int32)]) (rest := []) hC (c_X8_numberIn l g ad I25 J25 r7 (99 : Int32)  H.size hc27) lk_X8_145 rfl rfl ⟨Nat.le_of_ble_eq_true rfl, Nat.le_of_ble_eq_true rfl⟩ hP hK hD hA hS mo_0 rfl rfl rfl hl (Nat.le_of_ble_eq_true rfl) dX8_readsTerm_79 (fun H locs hP hD hS => ?_)
            refine lv_istore (lv' := [(4, .int r27), (3, .int r7), (2, .int r4), (1, .int r2), (0, .ref (ad 0))]) hx hb dX8_readsTerm_82 hl (by decide) rfl (fun ls hl => ?_)
            refine lv_iload hx hb dX8_readsTerm_84 (lv_at hl 0 rfl) ?_
            refine lv_if_ge (tgt := 91) hx hb dX8_readsTerm_86 (by decide) (fun c28 => ?_) (fun c28 => ?_)
            · replace h := (if_pos c28).symm.trans h
              refine lv_iconst (v := 0) hx hb dX8_readsTerm_91 (by decide) ?_
              refine lv_istore (lv' := [(5, .int (0 : Int32)), (4, .int r27), (3, .int r7), (2, .int r4), (1, .int r2), (0, .ref (ad 0))]) hx hb dX8_readsTerm_92 hl (by decide) rfl (fun ls hl => ?_)
              refine lv_iload_n hx hb dX8_readsTerm_94 rfl (lv_at hl 4 rfl) ?_
              refine lv_iconst (v := 3) hx hb dX8_readsTerm_95 (by decide) ?_
              refine lv_icmp_lt (tgt := 126) hx hb dX8_readsTerm_96 (by decide) (fun c29 => ?_) (fun c29 => ?_)
              · replace h := (if_pos c29).symm.trans h
                refine lv_aload_n hx hb dX8_readsTerm_126 rfl (lv_at hl 5 rfl) ?_
                refine gt_X8_98 hC hK hP dX8_readsTerm_127 ?_
                refine lv_aload_n hx hb dX8_readsTerm_130 rfl (lv_at hl 5 rfl) ?_
                refine gt_X8_89 hC hK hP dX8_readsTerm_131 ?_
                refine lv_icmp_ge (tgt := 139) hx hb dX8_readsTerm_134 (by decide) (fun c30 => ?_) (fun c30 => ?_)
                · replace h := (if_pos c30).symm.trans h
                  refine lv_aload_n hx hb dX8_readsTerm_139 rfl (lv_at hl 5 rfl) ?_
                  refine gt_X8_46 hC hK hP dX8_readsTerm_140 ?_
                  refine lv_aload_n hx hb dX8_readsTerm_143 rfl (lv_at hl 5 rfl) ?_
                  refine gt_X8_149 hC hK hP dX8_readsTerm_144 ?_
                  refine lv_iload_n hx hb dX8_readsTerm_147 rfl (lv_at hl 4 rfl) ?_
                  obtain ⟨b31, h⟩ := og h
                  refine as_m13 hC hK hP hD hS (gin_ok b31) dX8_readsTerm_148 (fun H locs hP hD hS => ?_)
                  refine lv_aload_n hx hb dX8_readsTerm_149 rfl (lv_at hl 5 rfl) ?_
                  refine gt_X8_49 hC hK hP dX8_readsTerm_150 ?_
                  refine lv_aload_n hx hb dX8_readsTerm_153 rfl (lv_at hl 5 rfl) ?_
                  refine gt_X8_149 hC hK hP dX8_readsTerm_154 ?_
                  refine lv_iload_n hx hb dX8_readsTerm_157 rfl (lv_at hl 2 rfl) ?_
                  obtain ⟨b32, h⟩ := og h
                  refine as_m14 hC hK hP hD hS (gin_ok b32) dX8_readsTerm_158 (fun H locs hP hD hS => ?_)
                  refine lv_aload_n hx hb dX8_readsTerm_159 rfl (lv_at hl 5 rfl) ?_
                  refine gt_X8_52 hC hK hP dX8_readsTerm_160 ?_
                  refine lv_aload_n hx hb dX8_readsTerm_163 rfl (lv_at hl 5 rfl) ?_
                  refine gt_X8_149 hC hK hP dX8_readsTerm_164 ?_
                  refine lv_iload hx hb dX8_readsTerm_167 (lv_at hl 1 rfl) ?_
                  obtain ⟨b33, h⟩ := og h
                  refine as_m15 hC hK hP hD hS (gin_ok b33) dX8_readsTerm_169 (fun H locs hP hD hS => ?_)
                  refine lv_aload_n hx hb dX8_readsTerm_170 rfl (lv_at hl 5 rfl) ?_
                  refine gt_X8_55 hC hK hP dX8_readsTerm_171 ?_
                  refine lv_aload_n hx hb dX8_readsTerm_174 rfl (lv_at hl 5 rfl) ?_
                  refine gt_X8_149 hC hK hP dX8_readsTerm_175 ?_
                  refine lv_iload hx hb dX8_readsTerm_178 (lv_at hl 0 rfl) ?_
                  obtain ⟨b34, h⟩ := og h
                  refine as_m16 hC hK hP hD hS (gin_ok b34) dX8_readsTerm_180 (fun H locs hP hD hS => ?_)
                  refine lv_iconst (v := 1) hx hb dX8_readsTerm_181 (by decide) ?_
                  obtain ⟨h1, h⟩ := Prod.mk.inj (Option.some.inj h)
                  obtain ⟨rfl, rfl⟩ := Prod.mk.inj h
                  exact hret _ _ _ _ _ dX8_readsTerm_182 rfl h1 hP hD hS
                · replace h := (if_neg c30).symm.trans h
                  refine lv_iconst (v := 0) hx hb dX8_readsTerm_137 (by decide) ?_
                  obtain ⟨h1, h⟩ := Prod.mk.inj (Option.some.inj h)
                  obtain ⟨rfl, rfl⟩ := Prod.mk.inj h
                  exact hret _ _ _ _ _ dX8_readsTerm_138 rfl h1 hP hD hS
              · replace h := (if_neg c29).symm.trans h
                refine lv_aload_n hx hb dX8_readsTerm_99 rfl (lv_at hl 5 rfl) ?_
                refine lv_bipush (v := 43) hx hb dX8_readsTerm_100 (by decide) ?_
                obtain ⟨⟨r35, I35, J35⟩, hc35, h⟩ := ob h
                dsimp only at h
                refine callWVi (As := [.int (43 : Int32)]) (rest := []) hC (c_X8_isNext l g ad I27 J27 (43 : Int32)  H.size hc35) lk_X8_118 rfl rfl ⟨Nat.le_of_ble_eq_true rfl, Nat.le_of_ble_eq_true rfl⟩ hP hK hD hA hS mo_0 rfl rfl rfl hl (Nat.le_of_ble_eq_true rfl) dX8_readsTerm_102 (fun H locs hP hD hS => ?_)
                refine lv_if_ne (tgt := 110) hx hb dX8_readsTerm_105 (by decide) (fun c36 => ?_) (fun c36 => ?_)
                · replace h := (if_neg c36).symm.trans h
                  refine lv_aload_n hx hb dX8_readsTerm_110 rfl (lv_at hl 5 rfl) ?_
                  refine lv_iconst (v := 0) hx hb dX8_readsTerm_111 (by decide) ?_
                  refine lv_bipush (v := 99) hx hb dX8_readsTerm_112 (by decide) ?_
                  obtain ⟨⟨r37, I37, J37⟩, hc37, h⟩ := ob h
                  dsimp only at h
                  refine callWVi (As := [.int (0 : Int32), .int (99 : Int32)]) (rest := []) hC (c_X8_numberIn l g ad I35 J35 (0 : Int32) (99 : Int32)  H.size hc37) lk_X8_145 rfl rfl ⟨Nat.le_of_ble_eq_true rfl, Nat.le_of_ble_eq_true rfl⟩ hP hK hD hA hS mo_0 rfl rfl rfl hl (Nat.le_of_ble_eq_true rfl) dX8_readsTerm_114 (fun H locs hP hD hS => ?_)
                  refine lv_istore (lv' := [(5, .int r37), (4, .int r27), (3, .int r7), (2, .int r4), (1, .int r2), (0, .ref (ad 0))]) hx hb dX8_readsTerm_117 hl (by decide) rfl (fun ls hl => ?_)
                  refine lv_iload hx hb dX8_readsTerm_119 (lv_at hl 0 rfl) ?_
                  refine lv_if_ge (tgt := 126) hx hb dX8_readsTerm_121 (by decide) (fun c38 => ?_) (fun c38 => ?_)
                  · replace h := (if_pos c38).symm.trans h
                    refine lv_aload_n hx hb dX8_readsTerm_126 rfl (lv_at hl 5 rfl) ?_
                    refine gt_X8_98 hC hK hP dX8_readsTerm_127 ?_
                    refine lv_aload_n hx hb dX8_readsTerm_130 rfl (lv_at hl 5 rfl) ?_
                    refine gt_X8_89 hC hK hP dX8_readsTerm_131 ?_
                    refine lv_icmp_ge (tgt := 139) hx hb dX8_readsTerm_134 (by decide) (fun c39 => ?_) (fun c39 => ?_)
                    · replace h := (if_pos c39).symm.trans h
                      refine lv_aload_n hx hb dX8_readsTerm_139 rfl (lv_at hl 5 rfl) ?_
                      refine gt_X8_46 hC hK hP dX8_readsTerm_140 ?_
                      refine lv_aload_n hx hb dX8_readsTerm_143 rfl (lv_at hl 5 rfl) ?_
                      refine gt_X8_149 hC hK hP dX8_readsTerm_144 ?_
                      refine lv_iload_n hx hb dX8_readsTerm_147 rfl (lv_at hl 4 rfl) ?_
                      obtain ⟨b40, h⟩ := og h
                      refine as_m13 hC hK hP hD hS (gin_ok b40) dX8_readsTerm_148 (fun H locs hP hD hS => ?_)
                      refine lv_aload_n hx hb dX8_readsTerm_149 rfl (lv_at hl 5 rfl) ?_
                      refine gt_X8_49 hC hK hP dX8_readsTerm_150 ?_
                      refine lv_aload_n hx hb dX8_readsTerm_153 rfl (lv_at hl 5 rfl) ?_
                      refine gt_X8_149 hC hK hP dX8_readsTerm_154 ?_
                      refine lv_iload_n hx hb dX8_readsTerm_157 rfl (lv_at hl 2 rfl) ?_
                      obtain ⟨b41, h⟩ := og h
                      refine as_m14 hC hK hP hD hS (gin_ok b41) dX8_readsTerm_158 (fun H locs hP hD hS => ?_)
                      refine lv_aload_n hx hb dX8_readsTerm_159 rfl (lv_at hl 5 rfl) ?_
                      refine gt_X8_52 hC hK hP dX8_readsTerm_160 ?_
                      refine lv_aload_n hx hb dX8_readsTerm_163 rfl (lv_at hl 5 rfl) ?_
                      refine gt_X8_149 hC hK hP dX8_readsTerm_164 ?_
                      refine lv_iload hx hb dX8_readsTerm_167 (lv_at hl 1 rfl) ?_
                      obtain ⟨b42, h⟩ := og h
                      refine as_m15 hC hK hP hD hS (gin_ok b42) dX8_readsTerm_169 (fun H locs hP hD hS => ?_)
                      refine lv_aload_n hx hb dX8_readsTerm_170 rfl (lv_at hl 5 rfl) ?_
                      refine gt_X8_55 hC hK hP dX8_readsTerm_171 ?_
                      refine lv_aload_n hx hb dX8_readsTerm_174 rfl (lv_at hl 5 rfl) ?_
                      refine gt_X8_149 hC hK hP dX8_readsTerm_175 ?_
                      refine lv_iload hx hb dX8_readsTerm_178 (lv_at hl 0 rfl) ?_
                      obtain ⟨b43, h⟩ := og h
                      refine as_m16 hC hK hP hD hS (gin_ok b43) dX8_readsTerm_180 (fun H locs hP hD hS => ?_)
                      refine lv_iconst (v := 1) hx hb dX8_readsTerm_181 (by decide) ?_
                      obtain ⟨h1, h⟩ := Prod.mk.inj (Option.some.inj h)
                      obtain ⟨rfl, rfl⟩ := Prod.mk.inj h
                      exact hret _ _ _ _ _ dX8_readsTerm_182 rfl h1 hP hD hS
                    · replace h := (if_neg c39).symm.trans h
                      refine lv_iconst (v := 0) hx hb dX8_readsTerm_137 (by decide) ?_
                      obtain ⟨h1, h⟩ := Prod.mk.inj (Option.some.inj h)
                      obtain ⟨rfl, rfl⟩ := Prod.mk.inj h
                      exact hret _ _ _ _ _ dX8_readsTerm_138 rfl h1 hP hD hS
                  · replace h := (if_neg c38).symm.trans h
                    refine lv_iconst (v := 0) hx hb dX8_readsTerm_124 (by decide) ?_
                    obtain ⟨h1, h⟩ := Prod.mk.inj (Option.some.inj h)
                    obtain ⟨rfl, rfl⟩ := Prod.mk.inj h
                    exact hret _ _ _ _ _ dX8_readsTerm_125 rfl h1 hP hD hS
                · replace h := (if_pos c36).symm.trans h
                  refine lv_iconst (v := 0) hx hb dX8_readsTerm_108 (by decide) ?_
                  obtain ⟨h1, h⟩ := Prod.mk.inj (Option.some.inj h)
                  obtain ⟨rfl, rfl⟩ := Prod.mk.inj h
                  exact hret _ _ _ _ _ dX8_readsTerm_109 rfl h1 hP hD hS
            · replace h := (if_neg c28).symm.trans h
              refine lv_iconst (v := 0) hx hb dX8_readsTerm_89 (by decide) ?_
              obtain ⟨h1, h⟩ := Prod.mk.inj (Option.some.inj h)
              obtain ⟨rfl, rfl⟩ := Prod.mk.inj h
              exact hret _ _ _ _ _ dX8_readsTerm_90 rfl h1 hP hD hS
          · replace h := (if_pos c26).symm.trans h
            refine lv_iconst (v := 0) hx hb dX8_readsTerm_73 (by decide) ?_
            obtain ⟨h1, h⟩ := Prod.mk.inj (Option.some.inj h)
            obtain ⟨rfl, rfl⟩ := Prod.mk.inj h
            exact hret _ _ _ _ _ dX8_readsTerm_74 rfl h1 hP hD hS
      · replace h := (if_neg c8).symm.trans h
        refine lv_iconst (v := 0) hx hb dX8_readsTerm_55 (by decide) ?_
        obtain ⟨h1, h⟩ := Prod.mk.inj (Option.some.inj h)
        obtain ⟨rfl, rfl⟩ := Prod.mk.inj h
        exact hret _ _ _ _ _ dX8_readsTerm_56 rfl h1 hP hD hS
  · replace h := (if_neg c3).symm.trans h
    refine lv_iconst (v := 0) hx hb dX8_readsTerm_17 (by decide) ?_
    obtain ⟨h1, h⟩ := Prod.mk.inj (Option.some.inj h)
    obtain ⟨rfl, rfl⟩ := Prod.mk.inj h
    exact hret _ _ _ _ _ dX8_readsTerm_18 rfl h1 hP hD hS
def F_X8_term (I : SI) (J : SJ) : Option (Int32 × SI × SJ) := (if (I 0 21) = (8 : Int32) then ((F_X8_no I J (-6 : Int32)).bind fun (r4, I4, J4) => (some (r4, I4, J4))) else ((F_X8_readsTerm I J).bind fun (r2, I2, J2) => (if r2 = 0 then (some (((-20 : Int32) - ((u2 I2 0 14 (0 : Int32)) 0 15)), (u2 I2 0 14 (0 : Int32)), J2)) else (some ((((u2 (u2 I2 0 14 (0 : Int32)) 0 21 (((u2 I2 0 14 (0 : Int32)) 0 21) + (1 : Int32))) 0 21) - (1 : Int32)), (u2 (u2 I2 0 14 (0 : Int32)) 0 21 (((u2 I2 0 14 (0 : Int32)) 0 21) + (1 : Int32))), J2)))))
set_option maxHeartbeats 4000000 in
set_option maxRecDepth 100000 in
theorem c_X8_term (l : Launch) (g : Gx) (ad : Nat → Nat) (I : SI) (J : SJ)   (sz : Nat) {r : Int32} {rI : SI} {rJ : SJ} (h : F_X8_term I J = some (r, rI, rJ)) : Met l yX8_term (Cond.code yX8_term cX8_term 2 (some .int) :: BG) (k2_rm 4 93) (PcW [.ref (ad 0)] g (mW ad g I J) sz) (QWi r g (mW ad g I J) (mW ad g rI rJ) sz) 0 0 (va_A (mW ad g I J) sz) := by
  refine mkWi (by decide) (Nat.le_of_ble_eq_true rfl) ?_
  intro p e s m args below meth c H locs ls A Q hC hK hP hD hA hS hl hret
  have hx := hC.1
  have hb := hC.2.1
  have hts := hC.2.2.2.2
  have hown := hC.2.2.2.1
  replace hl : lv_has ls 2 [(0, .ref (ad 0))] := hl
  unfold F_X8_term at h
  refine lv_aload_n hx hb dX8_term_0 rfl (lv_at hl 0 rfl) ?_
  refine gt_X8_149 hC hK hP dX8_term_1 ?_
  refine lv_bipush (v := 8) hx hb dX8_term_4 (by decide) ?_
  refine lv_icmp_ne (tgt := 16) hx hb dX8_term_6 (by decide) (fun c1 => ?_) (fun c1 => ?_)
  · replace h := (if_neg c1).symm.trans h
    refine lv_aload_n hx hb dX8_term_16 rfl (lv_at hl 0 rfl) ?_
    obtain ⟨⟨r2, I2, J2⟩, hc2, h⟩ := ob h
    dsimp only at h
    refine callWVi (As := []) (rest := []) hC (c_X8_readsTerm l g ad I J   H.size hc2) lk_X8_152 rfl rfl ⟨Nat.le_of_ble_eq_true rfl, Nat.le_of_ble_eq_true rfl⟩ hP hK hD hA hS mo_0 rfl rfl rfl hl (Nat.le_of_ble_eq_true rfl) dX8_term_17 (fun H locs hP hD hS => ?_)
    refine lv_istore_n (lv' := [(1, .int r2), (0, .ref (ad 0))]) hx hb dX8_term_20 rfl hl (by decide) rfl (fun ls hl => ?_)
    refine lv_aload_n hx hb dX8_term_21 rfl (lv_at hl 1 rfl) ?_
    refine lv_iconst (v := 0) hx hb dX8_term_22 (by decide) ?_
    refine pt_X8_89 hC hK hP hD hS dX8_term_23 (fun H locs hP hD hS => ?_)
    refine lv_iload_n hx hb dX8_term_26 rfl (lv_at hl 0 rfl) ?_
    refine lv_if_ne (tgt := 38) hx hb dX8_term_27 (by decide) (fun c3 => ?_) (fun c3 => ?_)
    · replace h := (if_neg c3).symm.trans h
      refine lv_aload_n hx hb dX8_term_38 rfl (lv_at hl 1 rfl) ?_
      refine lv_dup hx hb dX8_term_39 rfl ?_
      refine gt_X8_149 hC hK hP dX8_term_40 ?_
      refine lv_iconst (v := 1) hx hb dX8_term_43 (by decide) ?_
      refine lv_iadd hx hb dX8_term_44 ?_
      refine pt_X8_149 hC hK hP hD hS dX8_term_45 (fun H locs hP hD hS => ?_)
      refine lv_aload_n hx hb dX8_term_48 rfl (lv_at hl 1 rfl) ?_
      refine gt_X8_149 hC hK hP dX8_term_49 ?_
      refine lv_iconst (v := 1) hx hb dX8_term_52 (by decide) ?_
      refine lv_isub hx hb dX8_term_53 ?_
      obtain ⟨h1, h⟩ := Prod.mk.inj (Option.some.inj h)
      obtain ⟨rfl, rfl⟩ := Prod.mk.inj h
      exact hret _ _ _ _ _ dX8_term_54 h1 hP hD hS
    · replace h := (if_pos c3).symm.trans h
      refine lv_bipush (v := -20) hx hb dX8_term_30 (by decide) ?_
      refine lv_aload_n hx hb dX8_term_32 rfl (lv_at hl 1 rfl) ?_
      refine gt_X8_98 hC hK hP dX8_term_33 ?_
      refine lv_isub hx hb dX8_term_36 ?_
      obtain ⟨h1, h⟩ := Prod.mk.inj (Option.some.inj h)
      obtain ⟨rfl, rfl⟩ := Prod.mk.inj h
      exact hret _ _ _ _ _ dX8_term_37 h1 hP hD hS
  · replace h := (if_pos c1).symm.trans h
    refine lv_aload_n hx hb dX8_term_9 rfl (lv_at hl 0 rfl) ?_
    refine lv_bipush (v := -6) hx hb dX8_term_10 (by decide) ?_
    obtain ⟨⟨r4, I4, J4⟩, hc4, h⟩ := ob h
    dsimp only at h
    refine callWVi (As := [.int (-6 : Int32)]) (rest := []) hC (c_X8_no l g ad I J (-6 : Int32)  H.size hc4) lk_X8_92 rfl rfl ⟨Nat.le_of_ble_eq_true rfl, Nat.le_of_ble_eq_true rfl⟩ hP hK hD hA hS mo_0 rfl rfl rfl hl (Nat.le_of_ble_eq_true rfl) dX8_term_12 (fun H locs hP hD hS => ?_)
    obtain ⟨h1, h⟩ := Prod.mk.inj (Option.some.inj h)
    obtain ⟨rfl, rfl⟩ := Prod.mk.inj h
    exact hret _ _ _ _ _ dX8_term_15 h1 hP hD hS
def F_X8_isTerm (I : SI) (J : SJ) (v1 : Int32) : Option (Int32) := (if v1 < 0 then (some (0 : Int32)) else (if (I 0 21) ≤ v1 then (some (0 : Int32)) else (some (1 : Int32))))
set_option maxHeartbeats 4000000 in
set_option maxRecDepth 100000 in
theorem c_X8_isTerm (l : Launch) (g : Gx) (ad : Nat → Nat) (I : SI) (J : SJ) (v1 : Int32)  {r : Int32} (h : F_X8_isTerm I J v1 = some r) : Met l yX8_isTerm (Cond.code yX8_isTerm cX8_isTerm 2 (some .boolean) :: BG) (k2_rm 0 0) (va_Pc [.ref (ad 0), .int v1] (fun U => Pg g (mW ad g I J) U.heap ∧ Kg g U)) (k2_QcV (.int r)) 0 0 (fun _ => False) := by
  refine mkRz (by decide) (Nat.le_of_ble_eq_true rfl) ?_
  intro p e s m args below meth c H locs ls Q hC hK hP hl hret
  have hx := hC.1
  have hb := hC.2.1
  have hts := hC.2.2.2.2
  have hown := hC.2.2.2.1
  replace hl : lv_has ls 2 [(0, .ref (ad 0)), (1, .int v1)] := hl
  unfold F_X8_isTerm at h
  refine lv_iload_n hx hb dX8_isTerm_0 rfl (lv_at hl 1 rfl) ?_
  refine lv_if_lt (tgt := 16) hx hb dX8_isTerm_1 (by decide) (fun c1 => ?_) (fun c1 => ?_)
  · replace h := (if_pos c1).symm.trans h
    refine lv_iconst (v := 0) hx hb dX8_isTerm_16 (by decide) ?_
    exact hret _ _ _ dX8_isTerm_17 rfl (Option.some.inj h)
  · replace h := (if_neg c1).symm.trans h
    refine lv_iload_n hx hb dX8_isTerm_4 rfl (lv_at hl 1 rfl) ?_
    refine lv_aload_n hx hb dX8_isTerm_5 rfl (lv_at hl 0 rfl) ?_
    refine gt_X8_149 hC hK hP dX8_isTerm_6 ?_
    refine lv_icmp_ge (tgt := 16) hx hb dX8_isTerm_9 (by decide) (fun c2 => ?_) (fun c2 => ?_)
    · replace h := (if_pos c2).symm.trans h
      refine lv_iconst (v := 0) hx hb dX8_isTerm_16 (by decide) ?_
      exact hret _ _ _ dX8_isTerm_17 rfl (Option.some.inj h)
    · replace h := (if_neg c2).symm.trans h
      refine lv_iconst (v := 1) hx hb dX8_isTerm_12 (by decide) ?_
      refine lv_goto (tgt := 17) hx hb dX8_isTerm_13 (by decide) ?_
      exact hret _ _ _ dX8_isTerm_17 rfl (Option.some.inj h)
def F_X8_termOf (I : SI) (J : SJ) (v1 : Int32) (v2 : Int32) : Option (Int32 × SI × SJ) := ((F_X8_isTerm I J v1).bind fun r1 => (if r1 = 0 then ((F_X8_no I J (-1 : Int32)).bind fun (r12, I12, J12) => (some (r12, I12, J12))) else (if v2 = 0 then (if gin v1 8 = true then (some ((I 13 (Int32.toNatClampNeg v1)), I, J)) else none) else (if v2 = 1 then (if gin v1 8 = true then (some ((I 14 (Int32.toNatClampNeg v1)), I, J)) else none) else (if v2 = 2 then (if gin v1 8 = true then (some ((I 15 (Int32.toNatClampNeg v1)), I, J)) else none) else (if v2 = 3 then (if gin v1 8 = true then (some ((I 16 (Int32.toNatClampNeg v1)), I, J)) else none) else ((F_X8_no I J (-2 : Int32)).bind fun (r11, I11, J11) => (some (r11, I11, J11)))))))))
set_option maxHeartbeats 4000000 in
set_option maxRecDepth 100000 in
theorem c_X8_termOf (l : Launch) (g : Gx) (ad : Nat → Nat) (I : SI) (J : SJ) (v1 : Int32) (v2 : Int32)  (sz : Nat) {r : Int32} {rI : SI} {rJ : SJ} (h : F_X8_termOf I J v1 v2 = some (r, rI, rJ)) : Met l yX8_termOf (Cond.code yX8_termOf cX8_termOf 3 (some .int) :: BG) (k2_rm 1 21) (PcW [.ref (ad 0), .int v1, .int v2] g (mW ad g I J) sz) (QWi r g (mW ad g I J) (mW ad g rI rJ) sz) 0 0 (va_A (mW ad g I J) sz) := by
  refine mkWi (by decide) (Nat.le_of_ble_eq_true rfl) ?_
  intro p e s m args below meth c H locs ls A Q hC hK hP hD hA hS hl hret
  have hx := hC.1
  have hb := hC.2.1
  have hts := hC.2.2.2.2
  have hown := hC.2.2.2.1
  replace hl : lv_has ls 3 [(0, .ref (ad 0)), (1, .int v1), (2, .int v2)] := hl
  unfold F_X8_termOf at h
  refine lv_aload_n hx hb dX8_termOf_0 rfl (lv_at hl 0 rfl) ?_
  refine lv_iload_n hx hb dX8_termOf_1 rfl (lv_at hl 1 rfl) ?_
  obtain ⟨r1, hc1, h⟩ := ob h
  refine callRV (As := [.int v1]) (rest := []) hC (c_X8_isTerm l g ad I J v1  hc1) lk_X8_155 rfl rfl ⟨Nat.le_of_ble_eq_true rfl, Nat.le_of_ble_eq_true rfl⟩ hP hK mo_0 rfl rfl rfl hl (Nat.le_of_ble_eq_true rfl) dX8_termOf_2 ?_
  refine lv_if_ne (tgt := 14) hx hb dX8_termOf_5 (by decide) (fun c2 => ?_) (fun c2 => ?_)
  · replace h := (if_neg c2).symm.trans h
    refine lv_iload_n hx hb dX8_termOf_14 rfl (lv_at hl 2 rfl) ?_
    by_cases c3 : v2 = 0
    · replace h := (if_pos c3).symm.trans h
      refine lv_tableIn (off := 29) (tgt := 44) hx hb dX8_termOf_15 (by rw [c3]; decide) (by rw [c3]; decide) (by rw [c3]; decide) (by decide) ?_
      refine lv_aload_n hx hb dX8_termOf_44 rfl (lv_at hl 0 rfl) ?_
      refine gt_X8_46 hC hK hP dX8_termOf_45 ?_
      refine lv_iload_n hx hb dX8_termOf_48 rfl (lv_at hl 1 rfl) ?_
      obtain ⟨b4, h⟩ := og h
      refine al_m13 hC hK hP (gin_ok b4) dX8_termOf_49 ?_
      obtain ⟨h1, h⟩ := Prod.mk.inj (Option.some.inj h)
      obtain ⟨rfl, rfl⟩ := Prod.mk.inj h
      exact hret _ _ _ _ _ dX8_termOf_50 h1 hP hD hS
    · replace h := (if_neg c3).symm.trans h
      by_cases c5 : v2 = 1
      · replace h := (if_pos c5).symm.trans h
        refine lv_tableIn (off := 36) (tgt := 51) hx hb dX8_termOf_15 (by rw [c5]; decide) (by rw [c5]; decide) (by rw [c5]; decide) (by decide) ?_
        refine lv_aload_n hx hb dX8_termOf_51 rfl (lv_at hl 0 rfl) ?_
        refine gt_X8_49 hC hK hP dX8_termOf_52 ?_
        refine lv_iload_n hx hb dX8_termOf_55 rfl (lv_at hl 1 rfl) ?_
        obtain ⟨b6, h⟩ := og h
        refine al_m14 hC hK hP (gin_ok b6) dX8_termOf_56 ?_
        obtain ⟨h1, h⟩ := Prod.mk.inj (Option.some.inj h)
        obtain ⟨rfl, rfl⟩ := Prod.mk.inj h
        exact hret _ _ _ _ _ dX8_termOf_57 h1 hP hD hS
      · replace h := (if_neg c5).symm.trans h
        by_cases c7 : v2 = 2
        · replace h := (if_pos c7).symm.trans h
          refine lv_tableIn (off := 43) (tgt := 58) hx hb dX8_termOf_15 (by rw [c7]; decide) (by rw [c7]; decide) (by rw [c7]; decide) (by decide) ?_
          refine lv_aload_n hx hb dX8_termOf_58 rfl (lv_at hl 0 rfl) ?_
          refine gt_X8_52 hC hK hP dX8_termOf_59 ?_
          refine lv_iload_n hx hb dX8_termOf_62 rfl (lv_at hl 1 rfl) ?_
          obtain ⟨b8, h⟩ := og h
          refine al_m15 hC hK hP (gin_ok b8) dX8_termOf_63 ?_
          obtain ⟨h1, h⟩ := Prod.mk.inj (Option.some.inj h)
          obtain ⟨rfl, rfl⟩ := Prod.mk.inj h
          exact hret _ _ _ _ _ dX8_termOf_64 h1 hP hD hS
        · replace h := (if_neg c7).symm.trans h
          by_cases c9 : v2 = 3
          · replace h := (if_pos c9).symm.trans h
            refine lv_tableIn (off := 50) (tgt := 65) hx hb dX8_termOf_15 (by rw [c9]; decide) (by rw [c9]; decide) (by rw [c9]; decide) (by decide) ?_
            refine lv_aload_n hx hb dX8_termOf_65 rfl (lv_at hl 0 rfl) ?_
            refine gt_X8_55 hC hK hP dX8_termOf_66 ?_
            refine lv_iload_n hx hb dX8_termOf_69 rfl (lv_at hl 1 rfl) ?_
            obtain ⟨b10, h⟩ := og h
            refine al_m16 hC hK hP (gin_ok b10) dX8_termOf_70 ?_
            obtain ⟨h1, h⟩ := Prod.mk.inj (Option.some.inj h)
            obtain ⟨rfl, rfl⟩ := Prod.mk.inj h
            exact hret _ _ _ _ _ dX8_termOf_71 h1 hP hD hS
          · replace h := (if_neg c9).symm.trans h
            refine lv_tableOut (tgt := 72) hx hb dX8_termOf_15 (by have ec3 := ti_ne (n := 0) (by decide) c3; have ec5 := ti_ne (n := 1) (by decide) c5; have ec7 := ti_ne (n := 2) (by decide) c7; have ec9 := ti_ne (n := 3) (by decide) c9; omega) (by decide) ?_
            refine lv_aload_n hx hb dX8_termOf_72 rfl (lv_at hl 0 rfl) ?_
            refine lv_bipush (v := -2) hx hb dX8_termOf_73 (by decide) ?_
            obtain ⟨⟨r11, I11, J11⟩, hc11, h⟩ := ob h
            dsimp only at h
            refine callWVi (As := [.int (-2 : Int32)]) (rest := []) hC (c_X8_no l g ad I J (-2 : Int32)  H.size hc11) lk_X8_92 rfl rfl ⟨Nat.le_of_ble_eq_true rfl, Nat.le_of_ble_eq_true rfl⟩ hP hK hD hA hS mo_0 rfl rfl rfl hl (Nat.le_of_ble_eq_true rfl) dX8_termOf_75 (fun H locs hP hD hS => ?_)
            obtain ⟨h1, h⟩ := Prod.mk.inj (Option.some.inj h)
            obtain ⟨rfl, rfl⟩ := Prod.mk.inj h
            exact hret _ _ _ _ _ dX8_termOf_78 h1 hP hD hS
  · replace h := (if_pos c2).symm.trans h
    refine lv_aload_n hx hb dX8_termOf_8 rfl (lv_at hl 0 rfl) ?_
    refine lv_iconst (v := -1) hx hb dX8_termOf_9 (by decide) ?_
    obtain ⟨⟨r12, I12, J12⟩, hc12, h⟩ := ob h
    dsimp only at h
    refine callWVi (As := [.int (-1 : Int32)]) (rest := []) hC (c_X8_no l g ad I J (-1 : Int32)  H.size hc12) lk_X8_92 rfl rfl ⟨Nat.le_of_ble_eq_true rfl, Nat.le_of_ble_eq_true rfl⟩ hP hK hD hA hS mo_0 rfl rfl rfl hl (Nat.le_of_ble_eq_true rfl) dX8_termOf_10 (fun H locs hP hD hS => ?_)
    obtain ⟨h1, h⟩ := Prod.mk.inj (Option.some.inj h)
    obtain ⟨rfl, rfl⟩ := Prod.mk.inj h
    exact hret _ _ _ _ _ dX8_termOf_13 h1 hP hD hS
def F_X8_set (I : SI) (J : SJ) (v1 : Int32) (v2 : Int32) : Option (Int32 × SI × SJ) := ((F_X8_isIn v1 (0 : Int32) (7 : Int32)).bind fun r1 => (if r1 = 0 then ((F_X8_no I J (-2 : Int32)).bind fun (r9, I9, J9) => (some (r9, I9, J9))) else (if gin v1 8 = true then ((F_X8_bound v2 (0 : Int32) (I 3 (Int32.toNatClampNeg v1))).bind fun r4 => (if r4 = 0 then (if gin v1 8 = true then (if gin v1 8 = true then (some ((I 2 (Int32.toNatClampNeg v1)), (u1 I 2 (upd (I 2) (Int32.toNatClampNeg v1) v2)), J)) else none) else none) else ((F_X8_no I J r4).bind fun (r8, I8, J8) => (some (r8, I8, J8))))) else none)))
set_option maxHeartbeats 4000000 in
set_option maxRecDepth 100000 in
theorem c_X8_set (l : Launch) (g : Gx) (ad : Nat → Nat) (I : SI) (J : SJ) (v1 : Int32) (v2 : Int32)  (sz : Nat) {r : Int32} {rI : SI} {rJ : SJ} (h : F_X8_set I J v1 v2 = some (r, rI, rJ)) : Met l yX8_set (Cond.code yX8_set cX8_set 5 (some .int) :: BG) (k2_rm 1 22) (PcW [.ref (ad 0), .int v1, .int v2] g (mW ad g I J) sz) (QWi r g (mW ad g I J) (mW ad g rI rJ) sz) 0 0 (va_A (mW ad g I J) sz) := by
  refine mkWi (by decide) (Nat.le_of_ble_eq_true rfl) ?_
  intro p e s m args below meth c H locs ls A Q hC hK hP hD hA hS hl hret
  have hx := hC.1
  have hb := hC.2.1
  have hts := hC.2.2.2.2
  have hown := hC.2.2.2.1
  replace hl : lv_has ls 5 [(0, .ref (ad 0)), (1, .int v1), (2, .int v2)] := hl
  unfold F_X8_set at h
  refine lv_iload_n hx hb dX8_set_0 rfl (lv_at hl 1 rfl) ?_
  refine lv_iconst (v := 0) hx hb dX8_set_1 (by decide) ?_
  refine lv_bipush (v := 7) hx hb dX8_set_2 (by decide) ?_
  obtain ⟨r1, hc1, h⟩ := ob h
  refine callRS (As := [.int v1, .int (0 : Int32), .int (7 : Int32)]) (rest := []) hC (c_X8_isIn l g (mW ad g I J) v1 (0 : Int32) (7 : Int32) hc1) lk_X8_104 rfl rfl ⟨Nat.le_of_ble_eq_true rfl, Nat.le_of_ble_eq_true rfl⟩ hP hK rfl rfl hl (Nat.le_of_ble_eq_true rfl) dX8_set_4 ?_
  refine lv_if_ne (tgt := 17) hx hb dX8_set_7 (by decide) (fun c2 => ?_) (fun c2 => ?_)
  · replace h := (if_neg c2).symm.trans h
    refine lv_iload_n hx hb dX8_set_17 rfl (lv_at hl 2 rfl) ?_
    refine lv_iconst (v := 0) hx hb dX8_set_18 (by decide) ?_
    refine lv_aload_n hx hb dX8_set_19 rfl (lv_at hl 0 rfl) ?_
    refine gt_X8_16 hC hK hP dX8_set_20 ?_
    refine lv_iload_n hx hb dX8_set_23 rfl (lv_at hl 1 rfl) ?_
    obtain ⟨b3, h⟩ := og h
    refine al_m3 hC hK hP (gin_ok b3) dX8_set_24 ?_
    obtain ⟨r4, hc4, h⟩ := ob h
    refine callRS (As := [.int v2, .int (0 : Int32), .int (I 3 (Int32.toNatClampNeg v1))]) (rest := []) hC (c_X8_bound l g (mW ad g I J) v2 (0 : Int32) (I 3 (Int32.toNatClampNeg v1)) hc4) lk_X8_85 rfl rfl ⟨Nat.le_of_ble_eq_true rfl, Nat.le_of_ble_eq_true rfl⟩ hP hK rfl rfl hl (Nat.le_of_ble_eq_true rfl) dX8_set_25 ?_
    refine lv_istore_n (lv' := [(3, .int r4), (0, .ref (ad 0)), (1, .int v1), (2, .int v2)]) hx hb dX8_set_28 rfl hl (by decide) rfl (fun ls hl => ?_)
    refine lv_iload_n hx hb dX8_set_29 rfl (lv_at hl 0 rfl) ?_
    refine lv_if_eq (tgt := 39) hx hb dX8_set_30 (by decide) (fun c5 => ?_) (fun c5 => ?_)
    · replace h := (if_pos c5).symm.trans h
      refine lv_aload_n hx hb dX8_set_39 rfl (lv_at hl 1 rfl) ?_
      refine gt_X8_13 hC hK hP dX8_set_40 ?_
      refine lv_iload_n hx hb dX8_set_43 rfl (lv_at hl 2 rfl) ?_
      obtain ⟨b6, h⟩ := og h
      refine al_m2 hC hK hP (gin_ok b6) dX8_set_44 ?_
      refine lv_istore (lv' := [(4, .int (I 2 (Int32.toNatClampNeg v1))), (3, .int r4), (0, .ref (ad 0)), (1, .int v1), (2, .int v2)]) hx hb dX8_set_45 hl (by decide) rfl (fun ls hl => ?_)
      refine lv_aload_n hx hb dX8_set_47 rfl (lv_at hl 2 rfl) ?_
      refine gt_X8_13 hC hK hP dX8_set_48 ?_
      refine lv_iload_n hx hb dX8_set_51 rfl (lv_at hl 3 rfl) ?_
      refine lv_iload_n hx hb dX8_set_52 rfl (lv_at hl 4 rfl) ?_
      obtain ⟨b7, h⟩ := og h
      refine as_m2 hC hK hP hD hS (gin_ok b7) dX8_set_53 (fun H locs hP hD hS => ?_)
      refine lv_iload hx hb dX8_set_54 (lv_at hl 0 rfl) ?_
      obtain ⟨h1, h⟩ := Prod.mk.inj (Option.some.inj h)
      obtain ⟨rfl, rfl⟩ := Prod.mk.inj h
      exact hret _ _ _ _ _ dX8_set_56 h1 hP hD hS
    · replace h := (if_neg c5).symm.trans h
      refine lv_aload_n hx hb dX8_set_33 rfl (lv_at hl 1 rfl) ?_
      refine lv_iload_n hx hb dX8_set_34 rfl (lv_at hl 0 rfl) ?_
      obtain ⟨⟨r8, I8, J8⟩, hc8, h⟩ := ob h
      dsimp only at h
      refine callWVi (As := [.int r4]) (rest := []) hC (c_X8_no l g ad I J r4  H.size hc8) lk_X8_92 rfl rfl ⟨Nat.le_of_ble_eq_true rfl, Nat.le_of_ble_eq_true rfl⟩ hP hK hD hA hS mo_0 rfl rfl rfl hl (Nat.le_of_ble_eq_true rfl) dX8_set_35 (fun H locs hP hD hS => ?_)
      obtain ⟨h1, h⟩ := Prod.mk.inj (Option.some.inj h)
      obtain ⟨rfl, rfl⟩ := Prod.mk.inj h
      exact hret _ _ _ _ _ dX8_set_38 h1 hP hD hS
  · replace h := (if_pos c2).symm.trans h
    refine lv_aload_n hx hb dX8_set_10 rfl (lv_at hl 0 rfl) ?_
    refine lv_bipush (v := -2) hx hb dX8_set_11 (by decide) ?_
    obtain ⟨⟨r9, I9, J9⟩, hc9, h⟩ := ob h
    dsimp only at h
    refine callWVi (As := [.int (-2 : Int32)]) (rest := []) hC (c_X8_no l g ad I J (-2 : Int32)  H.size hc9) lk_X8_92 rfl rfl ⟨Nat.le_of_ble_eq_true rfl, Nat.le_of_ble_eq_true rfl⟩ hP hK hD hA hS mo_0 rfl rfl rfl hl (Nat.le_of_ble_eq_true rfl) dX8_set_13 (fun H locs hP hD hS => ?_)
    obtain ⟨h1, h⟩ := Prod.mk.inj (Option.some.inj h)
    obtain ⟨rfl, rfl⟩ := Prod.mk.inj h
    exact hret _ _ _ _ _ dX8_set_16 h1 hP hD hS
def F_X8_weather (I : SI) (J : SJ) (v1 : Int32) (v2 : Int32) : Option (Int32 × SI × SJ) := ((F_X8_allWeathers I J).bind fun r1 => ((F_X8_isIn v1 (0 : Int32) (r1 - (1 : Int32))).bind fun r2 => (if r2 = 0 then ((F_X8_no I J (-1 : Int32)).bind fun (r10, I10, J10) => (some (r10, I10, J10))) else ((F_X8_isIn v2 (0 : Int32) (1 : Int32)).bind fun r4 => (if r4 = 0 then ((F_X8_no I J (-2 : Int32)).bind fun (r9, I9, J9) => (some (r9, I9, J9))) else (if v2 = 0 then ((F_X8_chanceOf I J v1).bind fun r8 => (some (r8, I, J))) else ((F_X8_timesOf I J v1).bind fun r7 => (some (r7, I, J)))))))))
set_option maxHeartbeats 4000000 in
set_option maxRecDepth 100000 in
theorem c_X8_weather (l : Launch) (g : Gx) (ad : Nat → Nat) (I : SI) (J : SJ) (v1 : Int32) (v2 : Int32)  (sz : Nat) {r : Int32} {rI : SI} {rJ : SJ} (h : F_X8_weather I J v1 v2 = some (r, rI, rJ)) : Met l yX8_weather (Cond.code yX8_weather cX8_weather 3 (some .int) :: BG) (k2_rm 2 43) (PcW [.ref (ad 0), .int v1, .int v2] g (mW ad g I J) sz) (QWi r g (mW ad g I J) (mW ad g rI rJ) sz) 0 0 (va_A (mW ad g I J) sz) := by
  refine mkWi (by decide) (Nat.le_of_ble_eq_true rfl) ?_
  intro p e s m args below meth c H locs ls A Q hC hK hP hD hA hS hl hret
  have hx := hC.1
  have hb := hC.2.1
  have hts := hC.2.2.2.2
  have hown := hC.2.2.2.1
  replace hl : lv_has ls 3 [(0, .ref (ad 0)), (1, .int v1), (2, .int v2)] := hl
  unfold F_X8_weather at h
  refine lv_iload_n hx hb dX8_weather_0 rfl (lv_at hl 1 rfl) ?_
  refine lv_iconst (v := 0) hx hb dX8_weather_1 (by decide) ?_
  refine lv_aload_n hx hb dX8_weather_2 rfl (lv_at hl 0 rfl) ?_
  obtain ⟨r1, hc1, h⟩ := ob h
  refine callRV (As := []) (rest := [.int (0 : Int32), .int v1]) hC (c_X8_allWeathers l g ad I J   hc1) lk_X8_158 rfl rfl ⟨Nat.le_of_ble_eq_true rfl, Nat.le_of_ble_eq_true rfl⟩ hP hK mo_0 rfl rfl rfl hl (Nat.le_of_ble_eq_true rfl) dX8_weather_3 ?_
  refine lv_iconst (v := 1) hx hb dX8_weather_6 (by decide) ?_
  refine lv_isub hx hb dX8_weather_7 ?_
  obtain ⟨r2, hc2, h⟩ := ob h
  refine callRS (As := [.int v1, .int (0 : Int32), .int (r1 - (1 : Int32))]) (rest := []) hC (c_X8_isIn l g (mW ad g I J) v1 (0 : Int32) (r1 - (1 : Int32)) hc2) lk_X8_104 rfl rfl ⟨Nat.le_of_ble_eq_true rfl, Nat.le_of_ble_eq_true rfl⟩ hP hK rfl rfl hl (Nat.le_of_ble_eq_true rfl) dX8_weather_8 ?_
  refine lv_if_ne (tgt := 20) hx hb dX8_weather_11 (by decide) (fun c3 => ?_) (fun c3 => ?_)
  · replace h := (if_neg c3).symm.trans h
    refine lv_iload_n hx hb dX8_weather_20 rfl (lv_at hl 2 rfl) ?_
    refine lv_iconst (v := 0) hx hb dX8_weather_21 (by decide) ?_
    refine lv_iconst (v := 1) hx hb dX8_weather_22 (by decide) ?_
    obtain ⟨r4, hc4, h⟩ := ob h
    refine callRS (As := [.int v2, .int (0 : Int32), .int (1 : Int32)]) (rest := []) hC (c_X8_isIn l g (mW ad g I J) v2 (0 : Int32) (1 : Int32) hc4) lk_X8_104 rfl rfl ⟨Nat.le_of_ble_eq_true rfl, Nat.le_of_ble_eq_true rfl⟩ hP hK rfl rfl hl (Nat.le_of_ble_eq_true rfl) dX8_weather_23 ?_
    refine lv_if_ne (tgt := 36) hx hb dX8_weather_26 (by decide) (fun c5 => ?_) (fun c5 => ?_)
    · replace h := (if_neg c5).symm.trans h
      refine lv_iload_n hx hb dX8_weather_36 rfl (lv_at hl 2 rfl) ?_
      refine lv_if_ne (tgt := 48) hx hb dX8_weather_37 (by decide) (fun c6 => ?_) (fun c6 => ?_)
      · replace h := (if_neg c6).symm.trans h
        refine lv_aload_n hx hb dX8_weather_48 rfl (lv_at hl 0 rfl) ?_
        refine lv_iload_n hx hb dX8_weather_49 rfl (lv_at hl 1 rfl) ?_
        obtain ⟨r7, hc7, h⟩ := ob h
        refine callRV (As := [.int v1]) (rest := []) hC (c_X8_timesOf l g ad I J v1  hc7) lk_X8_164 rfl rfl ⟨Nat.le_of_ble_eq_true rfl, Nat.le_of_ble_eq_true rfl⟩ hP hK mo_0 rfl rfl rfl hl (Nat.le_of_ble_eq_true rfl) dX8_weather_50 ?_
        obtain ⟨h1, h⟩ := Prod.mk.inj (Option.some.inj h)
        obtain ⟨rfl, rfl⟩ := Prod.mk.inj h
        exact hret _ _ _ _ _ dX8_weather_53 h1 hP hD hS
      · replace h := (if_pos c6).symm.trans h
        refine lv_aload_n hx hb dX8_weather_40 rfl (lv_at hl 0 rfl) ?_
        refine lv_iload_n hx hb dX8_weather_41 rfl (lv_at hl 1 rfl) ?_
        obtain ⟨r8, hc8, h⟩ := ob h
        refine callRV (As := [.int v1]) (rest := []) hC (c_X8_chanceOf l g ad I J v1  hc8) lk_X8_161 rfl rfl ⟨Nat.le_of_ble_eq_true rfl, Nat.le_of_ble_eq_true rfl⟩ hP hK mo_0 rfl rfl rfl hl (Nat.le_of_ble_eq_true rfl) dX8_weather_42 ?_
        refine lv_goto (tgt := 53) hx hb dX8_weather_45 (by decide) ?_
        obtain ⟨h1, h⟩ := Prod.mk.inj (Option.some.inj h)
        obtain ⟨rfl, rfl⟩ := Prod.mk.inj h
        exact hret _ _ _ _ _ dX8_weather_53 h1 hP hD hS
    · replace h := (if_pos c5).symm.trans h
      refine lv_aload_n hx hb dX8_weather_29 rfl (lv_at hl 0 rfl) ?_
      refine lv_bipush (v := -2) hx hb dX8_weather_30 (by decide) ?_
      obtain ⟨⟨r9, I9, J9⟩, hc9, h⟩ := ob h
      dsimp only at h
      refine callWVi (As := [.int (-2 : Int32)]) (rest := []) hC (c_X8_no l g ad I J (-2 : Int32)  H.size hc9) lk_X8_92 rfl rfl ⟨Nat.le_of_ble_eq_true rfl, Nat.le_of_ble_eq_true rfl⟩ hP hK hD hA hS mo_0 rfl rfl rfl hl (Nat.le_of_ble_eq_true rfl) dX8_weather_32 (fun H locs hP hD hS => ?_)
      obtain ⟨h1, h⟩ := Prod.mk.inj (Option.some.inj h)
      obtain ⟨rfl, rfl⟩ := Prod.mk.inj h
      exact hret _ _ _ _ _ dX8_weather_35 h1 hP hD hS
  · replace h := (if_pos c3).symm.trans h
    refine lv_aload_n hx hb dX8_weather_14 rfl (lv_at hl 0 rfl) ?_
    refine lv_iconst (v := -1) hx hb dX8_weather_15 (by decide) ?_
    obtain ⟨⟨r10, I10, J10⟩, hc10, h⟩ := ob h
    dsimp only at h
    refine callWVi (As := [.int (-1 : Int32)]) (rest := []) hC (c_X8_no l g ad I J (-1 : Int32)  H.size hc10) lk_X8_92 rfl rfl ⟨Nat.le_of_ble_eq_true rfl, Nat.le_of_ble_eq_true rfl⟩ hP hK hD hA hS mo_0 rfl rfl rfl hl (Nat.le_of_ble_eq_true rfl) dX8_weather_16 (fun H locs hP hD hS => ?_)
    obtain ⟨h1, h⟩ := Prod.mk.inj (Option.some.inj h)
    obtain ⟨rfl, rfl⟩ := Prod.mk.inj h
    exact hret _ _ _ _ _ dX8_weather_19 h1 hP hD hS
