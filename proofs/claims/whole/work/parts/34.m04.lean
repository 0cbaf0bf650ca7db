def F_X6_kindOf (v1 : Int32) : Option (Int32) := (if v1 = 102 then (some (1 : Int32)) else (if v1 = 103 then (some (-1 : Int32)) else (if v1 = 104 then (some (-1 : Int32)) else (if v1 = 105 then (some (-1 : Int32)) else (if v1 = 106 then (some (-1 : Int32)) else (if v1 = 107 then (some (-1 : Int32)) else (if v1 = 108 then (some (-1 : Int32)) else (if v1 = 109 then (some (-1 : Int32)) else (if v1 = 110 then (some (-1 : Int32)) else (if v1 = 111 then (some (-1 : Int32)) else (if v1 = 112 then (some (0 : Int32)) else (if v1 = 113 then (some (-1 : Int32)) else (if v1 = 114 then (some (-1 : Int32)) else (if v1 = 115 then (some (-1 : Int32)) else (if v1 = 116 then (some (5 : Int32)) else (if v1 = 117 then (some (-1 : Int32)) else (if v1 = 118 then (some (-1 : Int32)) else (if v1 = 119 then (some (2 : Int32)) else (if v1 = 120 then (some (3 : Int32)) else (if v1 = 121 then (some (4 : Int32)) else (some (-1 : Int32))))))))))))))))))))))
set_option maxHeartbeats 4000000 in
set_option maxRecDepth 100000 in
theorem c_X6_kindOf (l : Launch) (g : Gx) (ws : va_W) (v1 : Int32)  {r : Int32} (h : F_X6_kindOf v1 = some r) : Met l yX6_kindOf (Cond.code yX6_kindOf cX6_kindOf 1 (some .int) :: BG) (k2_rm 0 0) (va_Pc [.int v1] (fun U => Pg g ws U.heap ∧ Kg g U)) (k2_QcV (.int r)) 0 0 (fun _ => False) := by
  refine mkRi (by decide) (Nat.le_of_ble_eq_true rfl) ?_
  intro p e s m args below meth c H locs ls Q hC hK hP hl hret
  have hx := hC.1
  have hb := hC.2.1
  have hts := hC.2.2.2.2
  have hown := hC.2.2.2.1
  replace hl : lv_has ls 1 [(0, .int v1)] := hl
  unfold F_X6_kindOf at h
  refine lv_iload_n hx hb dX6_kindOf_0 rfl (lv_at hl 0 rfl) ?_
  by_cases c1 : v1 = 102
  · replace h := (if_pos c1).symm.trans h
    refine lv_tableIn (off := 97) (tgt := 98) hx hb dX6_kindOf_1 (by rw [c1]; decide) (by rw [c1]; decide) (by rw [c1]; decide) (by decide) ?_
    refine lv_iconst (v := 1) hx hb dX6_kindOf_98 (by decide) ?_
    exact hret _ _ _ dX6_kindOf_99 (Option.some.inj h)
  · replace h := (if_neg c1).symm.trans h
    by_cases c2 : v1 = 103
    · replace h := (if_pos c2).symm.trans h
      refine lv_tableIn (off := 107) (tgt := 108) hx hb dX6_kindOf_1 (by rw [c2]; decide) (by rw [c2]; decide) (by rw [c2]; decide) (by decide) ?_
      refine lv_iconst (v := -1) hx hb dX6_kindOf_108 (by decide) ?_
      exact hret _ _ _ dX6_kindOf_109 (Option.some.inj h)
    · replace h := (if_neg c2).symm.trans h
      by_cases c3 : v1 = 104
      · replace h := (if_pos c3).symm.trans h
        refine lv_tableIn (off := 107) (tgt := 108) hx hb dX6_kindOf_1 (by rw [c3]; decide) (by rw [c3]; decide) (by rw [c3]; decide) (by decide) ?_
        refine lv_iconst (v := -1) hx hb dX6_kindOf_108 (by decide) ?_
        exact hret _ _ _ dX6_kindOf_109 (Option.some.inj h)
      · replace h := (if_neg c3).symm.trans h
        by_cases c4 : v1 = 105
        · replace h := (if_pos c4).symm.trans h
          refine lv_tableIn (off := 107) (tgt := 108) hx hb dX6_kindOf_1 (by rw [c4]; decide) (by rw [c4]; decide) (by rw [c4]; decide) (by decide) ?_
          refine lv_iconst (v := -1) hx hb dX6_kindOf_108 (by decide) ?_
          exact hret _ _ _ dX6_kindOf_109 (Option.some.inj h)
        · replace h := (if_neg c4).symm.trans h
          by_cases c5 : v1 = 106
          · replace h := (if_pos c5).symm.trans h
            refine lv_tableIn (off := 107) (tgt := 108) hx hb dX6_kindOf_1 (by rw [c5]; decide) (by rw [c5]; decide) (by rw [c5]; decide) (by decide) ?_
            refine lv_iconst (v := -1) hx hb dX6_kindOf_108 (by decide) ?_
            exact hret _ _ _ dX6_kindOf_109 (Option.some.inj h)
          · replace h := (if_neg c5).symm.trans h
            by_cases c6 : v1 = 107
            · replace h := (if_pos c6).symm.trans h
              refine lv_tableIn (off := 107) (tgt := 108) hx hb dX6_kindOf_1 (by rw [c6]; decide) (by rw [c6]; decide) (by rw [c6]; decide) (by decide) ?_
              refine lv_iconst (v := -1) hx hb dX6_kindOf_108 (by decide) ?_
              exact hret _ _ _ dX6_kindOf_109 (Option.some.inj h)
            · replace h := (if_neg c6).symm.trans h
              by_cases c7 : v1 = 108
              · replace h := (if_pos c7).symm.trans h
                refine lv_tableIn (off := 107) (tgt := 108) hx hb dX6_kindOf_1 (by rw [c7]; decide) (by rw [c7]; decide) (by rw [c7]; decide) (by decide) ?_
                refine lv_iconst (v := -1) hx hb dX6_kindOf_108 (by decide) ?_
                exact hret _ _ _ dX6_kindOf_109 (Option.some.inj h)
              · replace h := (if_neg c7).symm.trans h
                by_cases c8 : v1 = 109
                · replace h := (if_pos c8).symm.trans h
                  refine lv_tableIn (off := 107) (tgt := 108) hx hb dX6_kindOf_1 (by rw [c8]; decide) (by rw [c8]; decide) (by rw [c8]; decide) (by decide) ?_
                  refine lv_iconst (v := -1) hx hb dX6_kindOf_108 (by decide) ?_
                  exact hret _ _ _ dX6_kindOf_109 (Option.some.inj h)
                · replace h := (if_neg c8).symm.trans h
                  by_cases c9 : v1 = 110
                  · replace h := (if_pos c9).symm.trans h
                    refine lv_tableIn (off := 107) (tgt := 108) hx hb dX6_kindOf_1 (by rw [c9]; decide) (by rw [c9]; decide) (by rw [c9]; decide) (by decide) ?_
                    refine lv_iconst (v := -1) hx hb dX6_kindOf_108 (by decide) ?_
                    exact hret _ _ _ dX6_kindOf_109 (Option.some.inj h)
                  · replace h := (if_neg c9).symm.trans h
                    by_cases c10 : v1 = 111
                    · replace h := (if_pos c10).symm.trans h
                      refine lv_tableIn (off := 107) (tgt := 108) hx hb dX6_kindOf_1 (by rw [c10]; decide) (by rw [c10]; decide) (by rw [c10]; decide) (by decide) ?_
                      refine lv_iconst (v := -1) hx hb dX6_kindOf_108 (by decide) ?_
                      exact hret _ _ _ dX6_kindOf_109 (Option.some.inj h)
                    · replace h := (if_neg c10).symm.trans h
                      by_cases c11 : v1 = 112
                      · replace h := (if_pos c11).symm.trans h
                        refine lv_tableIn (off := 95) (tgt := 96) hx hb dX6_kindOf_1 (by rw [c11]; decide) (by rw [c11]; decide) (by rw [c11]; decide) (by decide) ?_
                        refine lv_iconst (v := 0) hx hb dX6_kindOf_96 (by decide) ?_
                        exact hret _ _ _ dX6_kindOf_97 (Option.some.inj h)
                      · replace h := (if_neg c11).symm.trans h
                        by_cases c12 : v1 = 113
                        · replace h := (if_pos c12).symm.trans h
                          refine lv_tableIn (off := 107) (tgt := 108) hx hb dX6_kindOf_1 (by rw [c12]; decide) (by rw [c12]; decide) (by rw [c12]; decide) (by decide) ?_
                          refine lv_iconst (v := -1) hx hb dX6_kindOf_108 (by decide) ?_
                          exact hret _ _ _ dX6_kindOf_109 (Option.some.inj h)
                        · replace h := (if_neg c12).symm.trans h
                          by_cases c13 : v1 = 114
                          · replace h := (if_pos c13).symm.trans h
                            refine lv_tableIn (off := 107) (tgt := 108) hx hb dX6_kindOf_1 (by rw [c13]; decide) (by rw [c13]; decide) (by rw [c13]; decide) (by decide) ?_
                            refine lv_iconst (v := -1) hx hb dX6_kindOf_108 (by decide) ?_
                            exact hret _ _ _ dX6_kindOf_109 (Option.some.inj h)
                          · replace h := (if_neg c13).symm.trans h
                            by_cases c14 : v1 = 115
                            · replace h := (if_pos c14).symm.trans h
                              refine lv_tableIn (off := 107) (tgt := 108) hx hb dX6_kindOf_1 (by rw [c14]; decide) (by rw [c14]; decide) (by rw [c14]; decide) (by decide) ?_
                              refine lv_iconst (v := -1) hx hb dX6_kindOf_108 (by decide) ?_
                              exact hret _ _ _ dX6_kindOf_109 (Option.some.inj h)
                            · replace h := (if_neg c14).symm.trans h
                              by_cases c15 : v1 = 116
                              · replace h := (if_pos c15).symm.trans h
                                refine lv_tableIn (off := 105) (tgt := 106) hx hb dX6_kindOf_1 (by rw [c15]; decide) (by rw [c15]; decide) (by rw [c15]; decide) (by decide) ?_
                                refine lv_iconst (v := 5) hx hb dX6_kindOf_106 (by decide) ?_
                                exact hret _ _ _ dX6_kindOf_107 (Option.some.inj h)
                              · replace h := (if_neg c15).symm.trans h
                                by_cases c16 : v1 = 117
                                · replace h := (if_pos c16).symm.trans h
                                  refine lv_tableIn (off := 107) (tgt := 108) hx hb dX6_kindOf_1 (by rw [c16]; decide) (by rw [c16]; decide) (by rw [c16]; decide) (by decide) ?_
                                  refine lv_iconst (v := -1) hx hb dX6_kindOf_108 (by decide) ?_
                                  exact hret _ _ _ dX6_kindOf_109 (Option.some.inj h)
                                · replace h := (if_neg c16).symm.trans h
                                  by_cases c17 : v1 = 118
                                  · replace h := (if_pos c17).symm.trans h
                                    refine lv_tableIn (off := 107) (tgt := 108) hx hb dX6_kindOf_1 (by rw [c17]; decide) (by rw [c17]; decide) (by rw [c17]; decide) (by decide) ?_
                                    refine lv_iconst (v := -1) hx hb dX6_kindOf_108 (by decide) ?_
                                    exact hret _ _ _ dX6_kindOf_109 (Option.some.inj h)
                                  · replace h := (if_neg c17).symm.trans h
                                    by_cases c18 : v1 = 119
                                    · replace h := (if_pos c18).symm.trans h
                                      refine lv_tableIn (off := 99) (tgt := 100) hx hb dX6_kindOf_1 (by rw [c18]; decide) (by rw [c18]; decide) (by rw [c18]; decide) (by decide) ?_
                                      refine lv_iconst (v := 2) hx hb dX6_kindOf_100 (by decide) ?_
                                      exact hret _ _ _ dX6_kindOf_101 (Option.some.inj h)
                                    · replace h := (if_neg c18).symm.trans h
                                      by_cases c19 : v1 = 120
                                      · replace h := (if_pos c19).symm.trans h
                                        refine lv_tableIn (off := 101) (tgt := 102) hx hb dX6_kindOf_1 (by rw [c19]; decide) (by rw [c19]; decide) (by rw [c19]; decide) (by decide) ?_
                                        refine lv_iconst (v := 3) hx hb dX6_kindOf_102 (by decide) ?_
                                        exact hret _ _ _ dX6_kindOf_103 (Option.some.inj h)
                                      · replace h := (if_neg c19).symm.trans h
                                        by_cases c20 : v1 = 121
                                        · replace h := (if_pos c20).symm.trans h
                                          refine lv_tableIn (off := 103) (tgt := 104) hx hb dX6_kindOf_1 (by rw [c20]; decide) (by rw [c20]; decide) (by rw [c20]; decide) (by decide) ?_
                                          refine lv_iconst (v := 4) hx hb dX6_kindOf_104 (by decide) ?_
                                          exact hret _ _ _ dX6_kindOf_105 (Option.some.inj h)
                                        · replace h := (if_neg c20).symm.trans h
                                          refine lv_tableOut (tgt := 108) hx hb dX6_kindOf_1 (by have ec1 := ti_ne (n := 102) (by decide) c1; have ec2 := ti_ne (n := 103) (by decide) c2; have ec3 := ti_ne (n := 104) (by decide) c3; have ec4 := ti_ne (n := 105) (by decide) c4; have ec5 := ti_ne (n := 106) (by decide) c5; have ec6 := ti_ne (n := 107) (by decide) c6; have ec7 := ti_ne (n := 108) (by decide) c7; have ec8 := ti_ne (n := 109) (by decide) c8; have ec9 := ti_ne (n := 110) (by decide) c9; have ec10 := ti_ne (n := 111) (by decide) c10; have ec11 := ti_ne (n := 112) (by decide) c11; have ec12 := ti_ne (n := 113) (by decide) c12; have ec13 := ti_ne (n := 114) (by decide) c13; have ec14 := ti_ne (n := 115) (by decide) c14; have ec15 := ti_ne (n := 116) (by decide) c15; have ec16 := ti_ne (n := 117) (by decide) c16; have ec17 := ti_ne (n := 118) (by decide) c17; have ec18 := ti_ne (n := 119) (by decide) c18; have ec19 := ti_ne (n := 120) (by decide) c19; have ec20 := ti_ne (n := 121) (by decide) c20; omega) (by decide) ?_
                                          refine lv_iconst (v := -1) hx hb dX6_kindOf_108 (by decide) ?_
                                          exact hret _ _ _ dX6_kindOf_109 (Option.some.inj h)
