theorem rng_lo {v lo hi : Int32} (h : v < lo) : rng v lo hi = -4 := if_pos h
theorem rng_hi {v lo hi : Int32} (h : ¬ v < lo) (h2 : hi < v) : rng v lo hi = -6 := (if_neg h).trans (if_pos h2)
theorem rng_ok {v lo hi : Int32} (h : ¬ v < lo) (h2 : ¬ hi < v) : rng v lo hi = 0 := (if_neg h).trans (if_neg h2)
theorem fst_l (y : Int32) : F_X7_first (-4) y = some (-4) := if_pos rfl
theorem fst_r (x : Int32) : F_X7_first x (-4) = some (-4) := by
  unfold F_X7_first
  by_cases c : x = -4
  · rw [if_pos c]
  · rw [if_neg c, if_pos rfl]
theorem f00 : F_X7_first 0 0 = some 0 := by decide
theorem f06 : F_X7_first 0 (-6) = some (-6) := by decide
theorem f60 : F_X7_first (-6) 0 = some (-6) := by decide
theorem f66 : F_X7_first (-6) (-6) = some (-6) := by decide
section S5
variable {I M : SI} {J N : SJ} {a : NN} {st wn te tl rl k A B Q t nw y : Nat} {tx : Nat → Nat} {ch : Nat → Nat} {hv : Nat → Nat → Nat} {cost : Nat → Nat}
theorem xOther (hO : OkF a st wn) (hX : XE I 0 a st wn) : F_X1_otherWorth 0 I J = some (1000 * (nI (a 0 1)).toInt64) := by
  unfold F_X1_otherWorth
  have e : F_X1_setting 0 I J (1 : Int32) = some (nI (a 0 1)) := xSet hX (j := 1) (by omega)
  rw [e]
  rfl
theorem xTaken (hO : OkF a st wn) (ht : t ≠ 47) (hX : XE I 0 a st wn) (hT : OkT k A B Q) (hXT : XT I t k A B Q) (hS : SL I st nw y ch hv cost) (hnw : nw ≤ 8) (hv1 : ∀ p w, p ≤ st → w < nw → hv p w ≤ 5100) (hy : y ≤ 9) :
    ∃ (I' : SI) (J' : SJ), F_X7_isTaken t I J = some (if (bp (fun p => worthG a nw ch (hv p) (cost p) k A B Q 0 y) st).2 < 1000 * (nI (a 0 1)).toInt64 then 0 else 1, I', J') ∧ FrB I I' J J' ∧ I' 47 8 = nI (bp (fun p => worthG a nw ch (hv p) (cost p) k A B Q 0 y) st).1 ∧ J' 47 9 = (bp (fun p => worthG a nw ch (hv p) (cost p) k A B Q 0 y) st).2 := by
  obtain ⟨I', J', r1, r2, r3, r4⟩ := xBest (J := J) hO ht hX hT hXT hS hnw hv1 hy
  refine ⟨I', J', ?_, r2, r3, r4⟩
  unfold F_X7_isTaken
  simp only [r1, Option.bind_some, xOther (J := J') hO (hX.fr (fun z hz => r2.1 z (by omega))), r4]
  by_cases c : (bp (fun p => worthG a nw ch (hv p) (cost p) k A B Q 0 y) st).2 < 1000 * (nI (a 0 1)).toInt64
  · rw [if_pos c, if_pos c]
  · rw [if_neg c, if_neg c]
theorem xOwner (hO : OkF a st wn) (ht : t ≠ 47) (hX : XE I 0 a st wn) (hT : OkT k A B Q) (hXT : XT I t k A B Q) (hS : SL I st nw y ch hv cost) (hnw : nw ≤ 8) (hv1 : ∀ p w, p ≤ st → w < nw → hv p w ≤ 5100) (hy : y ≤ 9) :
    ∃ (I' : SI) (J' : SJ), F_X7_ownerWorth t I J = some (worthG a nw ch (hv (bp (fun p => worthG a nw ch (hv p) (cost p) k A B Q 0 y) st).1) (cost (bp (fun p => worthG a nw ch (hv p) (cost p) k A B Q 0 y) st).1) k A B Q 1 y, I', J') ∧ FrB I I' J J' := by
  obtain ⟨I', J', r1, r2, r3, r4⟩ := xBest (J := J) hO ht hX hT hXT hS hnw hv1 hy
  refine ⟨I', J', ?_, r2⟩
  unfold F_X7_ownerWorth
  have e : F_X4_worthOf t I' J' (nI (bp (fun p => worthG a nw ch (hv p) (cost p) k A B Q 0 y) st).1) (1 : Int32) = _ := xWorth (who := 1) hO (hX.fr (fun z hz => r2.1 z (by omega))) hT (hXT.fr ht r2) (hS.fr r2) hnw hv1 hy (bp_le _ _) (by omega)
  simp only [r1, Option.bind_some, r3, e]
theorem hv_ok (hO : OkF a st wn) {d gd : Nat} (hd : d ≤ 3) (hg : gd ≤ 9) : ∀ p w, p ≤ st → w < nW a wn → (fun p w => harv a wn d gd p w) p w ≤ 5100 := fun _ w hp _ => (harv_le (w := w) hO hd hg hp).2
theorem st8 : St8 Rl := by
  intro I J M N v1 v2 hR
  obtain ⟨a, st, wn, te, tl, tx, rl, h⟩ := id hR
  rcases whoC v1 with ⟨hx, hm⟩ | ⟨w, hw, rfl, hx, hm⟩
  · obtain ⟨I1, M1, h1, h2, h3⟩ := bNoT hR (v := -1) (by decide)
    exact ⟨_, I1, J, M1, N, (by simp only [F_X7_mind, hx, Option.bind_some, i00, ↓reduceIte, h1] : F_X7_mind I J v1 v2 = some ((1000000000 : Int32) - (-1), I1, J)), by simp only [F_X8_mind, hm, Option.bind_some, i00, ↓reduceIte, h2], h3⟩
  · rcases rng_c v2 (-999) 999 with ⟨r0, _, _⟩ | ⟨r4, _⟩ | ⟨r6, _, _⟩
    · exact ⟨_, I, J, M, N, (by simp only [F_X7_mind, hx, Option.bind_some, i10, i00, ↓reduceIte, rngX, r0, xMind (J := J) h.1.1 h.2.1.1 hw v2] : F_X7_mind I J (nI w) v2 = some (mind a w v2, I, J)), by simp only [F_X8_mind, hm, Option.bind_some, i10, i00, ↓reduceIte, rngM, r0, mMind (N := N) h.1.1 h.2.2.1.1 hw v2], hR⟩
    · obtain ⟨I1, M1, h1, h2, h3⟩ := bNoT hR (v := -4) (by decide)
      exact ⟨_, I1, J, M1, N, (by simp only [F_X7_mind, hx, Option.bind_some, i10, i40, ↓reduceIte, rngX, r4, h1] : F_X7_mind I J (nI w) v2 = some ((1000000000 : Int32) - (-4), I1, J)), by simp only [F_X8_mind, hm, Option.bind_some, i10, i40, ↓reduceIte, rngM, r4, h2], h3⟩
    · obtain ⟨I1, M1, h1, h2, h3⟩ := bNoT hR (v := -6) (by decide)
      exact ⟨_, I1, J, M1, N, (by simp only [F_X7_mind, hx, Option.bind_some, i10, i60, ↓reduceIte, rngX, r6, h1] : F_X7_mind I J (nI w) v2 = some ((1000000000 : Int32) - (-6), I1, J)), by simp only [F_X8_mind, hm, Option.bind_some, i10, i60, ↓reduceIte, rngM, r6, h2], h3⟩
theorem st7 : St7 Rl := by
  intro I J M N v1 v2 v3 v4 hR
  obtain ⟨a, st, wn, te, tl, tx, rl, h⟩ := id hR
  rcases termC (J := J) (N := N) h v1 with ⟨hx, hm⟩ | ⟨i, hi, rfl, hx, hm⟩
  · obtain ⟨I1, M1, h1, h2, h3⟩ := bNoT hR (v := -1) (by decide)
    exact ⟨_, I1, J, M1, N, (by simp only [F_X7_whose, hx, Option.bind_some, h1] : F_X7_whose I J v1 v2 v3 v4 = some ((1000000000 : Int32) - (-1), I1, J)), by simp only [F_X8_whose, hm, Option.bind_some, i00, ↓reduceIte, h2], h3⟩
  rcases whoC v4 with ⟨gx, gm⟩ | ⟨w, hw, rfl, gx, gm⟩
  · obtain ⟨I1, M1, h1, h2, h3⟩ := bNoT hR (v := -1) (by decide)
    exact ⟨_, I1, J, M1, N, (by simp only [F_X7_whose, hx, gx, Option.bind_some, i00, ↓reduceIte, h1] : F_X7_whose I J (nI i) v2 v3 v4 = some ((1000000000 : Int32) - (-1), I1, J)), by simp only [F_X8_whose, hm, gm, Option.bind_some, i10, i00, ↓reduceIte, h2], h3⟩
  have no4 : ∃ (I1 M1 : SI), F_X7_refuseAsTold I J (-4) = some ((1000000000 : Int32) - (-4), I1, J) ∧ F_X8_lower M N (-4) = some ((1000000000 : Int32) - (-4), M1, N) ∧ Rl I1 J M1 N := bNoT hR (by decide)
  have no6 : ∃ (I1 M1 : SI), F_X7_refuseAsTold I J (-6) = some ((1000000000 : Int32) - (-6), I1, J) ∧ F_X8_lower M N (-6) = some ((1000000000 : Int32) - (-6), M1, N) ∧ Rl I1 J M1 N := bNoT hR (by decide)
  by_cases c2 : v2 < 0
  · obtain ⟨I1, M1, h1, h2, h3⟩ := no4
    exact ⟨_, I1, J, M1, N, (by simp only [F_X7_whose, hx, gx, Option.bind_some, i10, i40, ↓reduceIte, rngX, rng_lo c2, fst_l, h1] : F_X7_whose I J (nI i) v2 v3 (nI w) = some ((1000000000 : Int32) - (-4), I1, J)), by simp only [F_X8_whose, hm, gm, Option.bind_some, i10, if_pos c2, i40, ↓reduceIte, h2], h3⟩
  by_cases c3 : v3 < 0
  · obtain ⟨I1, M1, h1, h2, h3⟩ := no4
    exact ⟨_, I1, J, M1, N, (by simp only [F_X7_whose, hx, gx, Option.bind_some, i10, i40, ↓reduceIte, rngX, rng_lo c3, fst_r, h1] : F_X7_whose I J (nI i) v2 v3 (nI w) = some ((1000000000 : Int32) - (-4), I1, J)), by simp only [F_X8_whose, hm, gm, Option.bind_some, i10, if_neg c2, if_neg (Int32.not_le.mpr c3), i40, ↓reduceIte, h2], h3⟩
  have g3 := Int32.not_lt.mp c3
  by_cases d2 : (999 : Int32) < v2
  · obtain ⟨I1, M1, h1, h2, h3⟩ := no6
    have ef : F_X7_first (rng v2 0 999) (rng v3 0 9) = some (-6) := by
      rw [rng_hi c2 d2]
      by_cases d3 : (9 : Int32) < v3
      · rw [rng_hi c3 d3]; exact f66
      · rw [rng_ok c3 d3]; exact f60
    exact ⟨_, I1, J, M1, N, (by simp only [F_X7_whose, hx, gx, Option.bind_some, i10, i60, ↓reduceIte, rngX, ef, h1] : F_X7_whose I J (nI i) v2 v3 (nI w) = some ((1000000000 : Int32) - (-6), I1, J)), by simp only [F_X8_whose, hm, gm, Option.bind_some, i10, if_neg c2, if_pos g3, if_pos d2, i60, ↓reduceIte, h2], h3⟩
  by_cases d3 : (9 : Int32) < v3
  · obtain ⟨I1, M1, h1, h2, h3⟩ := no6
    exact ⟨_, I1, J, M1, N, (by simp only [F_X7_whose, hx, gx, Option.bind_some, i10, i60, ↓reduceIte, rngX, rng_ok c2 d2, rng_hi c3 d3, f06, h1] : F_X7_whose I J (nI i) v2 v3 (nI w) = some ((1000000000 : Int32) - (-6), I1, J)), by simp only [F_X8_whose, hm, gm, Option.bind_some, i10, if_neg c2, if_pos g3, if_neg d2, if_neg (Int32.not_le.mpr d3), i60, ↓reduceIte, h2], h3⟩
  obtain ⟨hh, q2, rfl⟩ := nI_of2 (n := 999) (M := 999) (by decide) c2 (Int32.not_lt.mp d2)
  obtain ⟨yy, q3, rfl⟩ := nI_of2 (n := 9) (M := 9) (by decide) c3 (Int32.not_lt.mp d3)
  obtain ⟨M1, t1, t2, t3⟩ := takeM (N := N) h hi
  have hXT := h.2.1.2.1 i hi
  rw [Nat.zero_add] at hXT
  have e1 : F_X1_bushelsOf 0 (7 + i) I J (nI hh) (nI yy) (nI w) = _ := xBush h.1.1 h.2.1.1 (h.1.2.2.2 i hi) hXT hw (by omega) q3
  have e2 : F_X8_hasOf M1 N (nI w) (nI hh) (nI yy) = _ := mHas h.1.1 (h.2.2.1.sm t3).1 t2 (h.1.2.2.2 i hi) hw (by omega) q3
  exact ⟨_, I, J, M1, N, (by simp only [F_X7_whose, hx, gx, Option.bind_some, i10, i00, ↓reduceIte, rngX, rng_ok c2 d2, rng_ok c3 d3, f00, e1] : F_X7_whose I J (nI i) (nI hh) (nI yy) (nI w) = some (has a (a 5 i) (a 6 i) (a 7 i) (a 8 i) w hh yy, I, J)), by simp only [F_X8_whose, hm, gm, Option.bind_some, i10, i00, if_neg c2, if_pos g3, if_neg d2, if_pos (Int32.not_lt.mp d3), ↓reduceIte, t1, e2], hR.same SX.rf t3⟩
theorem st9 : St9 Rl := by
  intro I J M N v1 v2 v3 hR
  obtain ⟨a, st, wn, te, tl, tx, rl, h⟩ := id hR
  have no1 : ∃ (I1 M1 : SI), F_X7_refuseAsToldLong I J (-1) = some ((4000000000000000000 : Int64) - Int32.toInt64 (-1), I1, J) ∧ F_X8_noLong M N (-1) = some ((4000000000000000000 : Int64) - Int32.toInt64 (-1), M1, N) ∧ Rl I1 J M1 N := bNoL hR (by decide)
  rcases termC (J := J) (N := N) h v1 with ⟨hx, hm⟩ | ⟨i, hi, rfl, hx, hm⟩
  · obtain ⟨I1, M1, h1, h2, h3⟩ := no1
    exact ⟨_, I1, J, M1, N, (by simp only [F_X7_worth, hx, Option.bind_some, h1] : F_X7_worth I J v1 v2 v3 = some ((4000000000000000000 : Int64) - Int32.toInt64 (-1), I1, J)), by simp only [F_X8_worth, hm, Option.bind_some, i00, ↓reduceIte, h2], h3⟩
  rcases painsC (J := J) h I rfl v2 with ⟨px, pm⟩ | ⟨p, hp, rfl, px, pm⟩
  · obtain ⟨I1, M1, h1, h2, h3⟩ := no1
    exact ⟨_, I1, J, M1, N, (by simp only [F_X7_worth, hx, px, Option.bind_some, i00, ↓reduceIte, h1] : F_X7_worth I J (nI i) v2 v3 = some ((4000000000000000000 : Int64) - Int32.toInt64 (-1), I1, J)), by simp only [F_X8_worth, hm, pm, Option.bind_some, i10, i00, ↓reduceIte, h2], h3⟩
  rcases whoC v3 with ⟨gx, gm⟩ | ⟨w, hw, rfl, gx, gm⟩
  · obtain ⟨I1, M1, h1, h2, h3⟩ := no1
    exact ⟨_, I1, J, M1, N, (by simp only [F_X7_worth, hx, px, gx, Option.bind_some, i10, i00, ↓reduceIte, h1] : F_X7_worth I J (nI i) (nI p) v3 = some ((4000000000000000000 : Int64) - Int32.toInt64 (-1), I1, J)), by simp only [F_X8_worth, hm, pm, gm, Option.bind_some, i10, i00, ↓reduceIte, h2], h3⟩
  obtain ⟨I', l1, l2, l3, l4, l5⟩ := layR (d := 0) (gd := 0) h (by omega) (by omega) SX.rf J
  have l1' : F_X4_lay I J (0 : Int32) (0 : Int32) (0 : Int32) = some (I', J) := l1
  obtain ⟨M1, t1, t2, t3⟩ := takeM (N := N) h hi
  have hXT := h.2.1.2.1 i hi
  rw [Nat.zero_add] at hXT
  have t8 := h.1.2.2.1
  have hXT' : XT I' (7 + i) (a 5 i) (a 6 i) (a 7 i) (a 8 i) := by unfold XT; rw [l2.1 (7 + i) (by omega)]; exact hXT
  have e1 : F_X4_worthOf (7 + i) I' J (nI p) (nI w) = some (worth a wn 0 0 (a 5 i) (a 6 i) (a 7 i) (a 8 i) w p 0) := xWorth h.1.1 l3 (h.1.2.2.2 i hi) hXT' l4 (nW_le h.1.1).1 (hv_ok h.1.1 (by omega) (by omega)) (by omega) hp hw
  have e2 : F_X8_worthOf M1 N (nI w) (nI p) (0 : Int32) = some (worth a wn 0 0 (a 5 i) (a 6 i) (a 7 i) (a 8 i) w p 0) := mWorth (y := 0) h.1.1 (h.2.2.1.sm t3).1 t2 (h.1.2.2.2 i hi) (by omega) (by omega) hp hw (by omega)
  exact ⟨_, I', J, M1, N, (by simp only [F_X7_worth, hx, px, gx, Option.bind_some, i10, ↓reduceIte, l1', e1] : F_X7_worth I J (nI i) (nI p) (nI w) = some (worth a wn 0 0 (a 5 i) (a 6 i) (a 7 i) (a 8 i) w p 0, I', J)), by simp only [F_X8_worth, hm, pm, gm, Option.bind_some, i10, ↓reduceIte, t1, e2], hR.same l2 t3⟩
theorem st10 : St10 Rl := by
  intro I J M N v1 hR
  obtain ⟨a, st, wn, te, tl, tx, rl, h⟩ := id hR
  rcases termC (J := J) (N := N) h v1 with ⟨hx, hm⟩ | ⟨i, hi, rfl, hx, hm⟩
  · obtain ⟨I1, M1, h1, h2, h3⟩ := bNo hR (v := -1) (by decide)
    exact ⟨_, I1, J, M1, N, (by simp only [F_X7_pains, hx, Option.bind_some, h1] : F_X7_pains I J v1 = some ((-1 : Int32), I1, J)), by simp only [F_X8_pains, hm, Option.bind_some, i00, ↓reduceIte, h2], h3⟩
  obtain ⟨I', l1, l2, l3, l4, l5⟩ := layR (d := 0) (gd := 0) h (by omega) (by omega) SX.rf J
  have l1' : F_X4_lay I J (0 : Int32) (0 : Int32) (0 : Int32) = some (I', J) := l1
  obtain ⟨M1, t1, t2, t3⟩ := takeM (N := N) h hi
  have hXT := h.2.1.2.1 i hi
  rw [Nat.zero_add] at hXT
  have t8 := h.1.2.2.1
  have hXT' : XT I' (7 + i) (a 5 i) (a 6 i) (a 7 i) (a 8 i) := by unfold XT; rw [l2.1 (7 + i) (by omega)]; exact hXT
  obtain ⟨I2, J2, r1, r2, r3, r4⟩ := xBest (J := J) h.1.1 (by omega) l3 (h.1.2.2.2 i hi) hXT' l4 (nW_le h.1.1).1 (hv_ok h.1.1 (by omega) (by omega)) (by omega)
  have e2 : F_X8_bestPains M1 N (0 : Int32) = some (nI (bp (fun p => worth a wn 0 0 (a 5 i) (a 6 i) (a 7 i) (a 8 i) 0 p 0) st).1) := mBest (y := 0) h.1.1 (h.2.2.1.sm t3).1 t2 (h.1.2.2.2 i hi) (by omega) (by omega) (by omega)
  have r3' : I2 47 8 = nI (bp (fun p => worth a wn 0 0 (a 5 i) (a 6 i) (a 7 i) (a 8 i) 0 p 0) st).1 := r3
  exact ⟨_, I2, J2, M1, N, (by simp only [F_X7_pains, hx, Option.bind_some, l1', r1, r3'] : F_X7_pains I J (nI i) = some (nI (bp (fun p => worth a wn 0 0 (a 5 i) (a 6 i) (a 7 i) (a 8 i) 0 p 0) st).1, I2, J2)), by simp only [F_X8_pains, hm, Option.bind_some, i10, ↓reduceIte, t1, e2], hR.same (l2.tr r2.sx) t3⟩
theorem st11 : St11 Rl := by
  intro I J M N v1 hR
  obtain ⟨a, st, wn, te, tl, tx, rl, h⟩ := id hR
  rcases termC (J := J) (N := N) h v1 with ⟨hx, hm⟩ | ⟨i, hi, rfl, hx, hm⟩
  · obtain ⟨I1, M1, h1, h2, h3⟩ := bNo hR (v := -1) (by decide)
    exact ⟨_, I1, J, M1, N, (by simp only [F_X7_takes, hx, Option.bind_some, h1] : F_X7_takes I J v1 = some ((-1 : Int32), I1, J)), by simp only [F_X8_takes, hm, Option.bind_some, i00, ↓reduceIte, h2], h3⟩
  obtain ⟨I', l1, l2, l3, l4, l5⟩ := layR (d := 0) (gd := 0) h (by omega) (by omega) SX.rf J
  have l1' : F_X4_lay I J (0 : Int32) (0 : Int32) (0 : Int32) = some (I', J) := l1
  obtain ⟨M1, t1, t2, t3⟩ := takeM (N := N) h hi
  have hXT := h.2.1.2.1 i hi
  rw [Nat.zero_add] at hXT
  have t8 := h.1.2.2.1
  have hXT' : XT I' (7 + i) (a 5 i) (a 6 i) (a 7 i) (a 8 i) := by unfold XT; rw [l2.1 (7 + i) (by omega)]; exact hXT
  obtain ⟨I2, J2, r1, r2, r3, r4⟩ := xTaken (J := J) h.1.1 (by omega) l3 (h.1.2.2.2 i hi) hXT' l4 (nW_le h.1.1).1 (hv_ok h.1.1 (by omega) (by omega)) (by omega)
  have r1' : F_X7_isTaken (7 + i) I' J = some (if (bp (fun p => worth a wn 0 0 (a 5 i) (a 6 i) (a 7 i) (a 8 i) 0 p 0) st).2 < 1000 * (nI (a 0 1)).toInt64 then 0 else 1, I2, J2) := r1
  have e2 := mTakes (N := N) h.1.1 (h.2.2.1.sm t3).1 t2 (h.1.2.2.2 i hi) (by omega) (by omega)
  exact ⟨_, I2, J2, M1, N, (by simp only [F_X7_takes, hx, Option.bind_some, l1', r1'] : F_X7_takes I J (nI i) = some (if (if (bp (fun p => worth a wn 0 0 (a 5 i) (a 6 i) (a 7 i) (a 8 i) 0 p 0) st).2 < 1000 * (nI (a 0 1)).toInt64 then (0 : Int32) else 1) = 0 then (0 : Int32) else 1, I2, J2)), by simp only [F_X8_takes, hm, Option.bind_some, i10, ↓reduceIte, t1, e2], hR.same (l2.tr r2.sx) t3⟩
end S5
