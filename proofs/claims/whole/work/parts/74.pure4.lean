/-! ===== pure: the calls, one after the other ===== -/
theorem i00 : ((0 : Int32) = 0) = True := eq_true rfl
theorem i10 : ((1 : Int32) = 0) = False := eq_false (by decide)
theorem i40 : ((-4 : Int32) = 0) = False := eq_false (by decide)
theorem i60 : ((-6 : Int32) = 0) = False := eq_false (by decide)
section ST
variable {I M : SI} {J N : SJ} {a : NN} {st wn te tl rl : Nat} {tx : Nat → Nat}
theorem nW_pos {a : NN} {wn : Nat} : 1 ≤ nW a wn := by
  unfold nW
  by_cases c : sm (a 3) wn < 100
  · rw [if_pos c]; omega
  · rw [if_neg c]
    rcases Nat.eq_zero_or_pos wn with h | h
    · subst h
      exact absurd (show sm (a 3) 0 < 100 from by show 0 < 100; omega) c
    · exact h
theorem weathC (h : Ro I M a st wn te tl tx rl) {I' : SI} (h6 : I' 47 6 = nI (nW a wn)) (v : Int32) : (F_X4_hasWeather I' J v = some 0 ∧ F_X8_isIn v 0 (nI (nW a wn) - 1) = some 0) ∨ ∃ w, w < nW a wn ∧ v = nI w ∧ F_X4_hasWeather I' J v = some 1 ∧ F_X8_isIn v 0 (nI (nW a wn) - 1) = some 1 := by
  have h8 := (nW_le h.1.1).1
  have h1 := nW_pos (a := a) (wn := wn)
  have e1 : nI (nW a wn) - (1 : Int32) = nI (nW a wn - 1) := pk_sub (b := 1) h1
  unfold F_X4_hasWeather
  rw [inM, h6, e1]
  by_cases c1 : v < 0
  · rw [if_pos c1, if_pos c1]
    exact Or.inl ⟨rfl, rfl⟩
  · rw [if_neg c1, if_neg c1]
    obtain ⟨i, hi, rfl⟩ := nI_of c1
    by_cases c2 : nW a wn ≤ i
    · rw [if_pos (nI_le c2 hi), if_pos (nI_lt (by omega) hi)]
      exact Or.inl ⟨rfl, rfl⟩
    · rw [if_neg (nI_ge (by omega) (by omega)), if_neg (nI_nlt (by omega) (by omega))]
      exact Or.inr ⟨i, by omega, rfl, rfl, rfl⟩
theorem st3 : St3 Rl := by
  intro I J M N v1 v2 hR
  obtain ⟨a, st, wn, te, tl, tx, rl, h⟩ := id hR
  rcases termC (J := J) (N := N) h v1 with ⟨hx, hm⟩ | ⟨i, hi, rfl, hx, hm⟩
  · obtain ⟨I1, M1, h1, h2, h3⟩ := bNo hR (v := -1) (by decide)
    exact ⟨(-1 : Int32), I1, J, M1, N, by simp only [F_X7_termOf, hx, Option.bind_some, h1], by simp only [F_X8_termOf, hm, Option.bind_some, i00, ↓reduceIte, h2], h3⟩
  · have t8 := h.1.2.2.1
    have hg : gin (nI i) 8 = true := gin_nI (by omega) (by omega)
    have hc : (nI i).toNatClampNeg = i := nI_clamp (by omega)
    obtain ⟨x1, x2, x3, x4⟩ := h.2.1.2.1 i hi
    obtain ⟨m1, m2, m3, m4⟩ := h.2.2.1.2.1 i hi
    rw [Nat.zero_add] at x1 x2 x3 x4
    by_cases c0 : v2 = 0
    · subst c0
      exact ⟨nI (a 5 i), I, J, M, N, by simp only [F_X7_termOf, hx, Option.bind_some, i00, ↓reduceIte, x1], by simp only [F_X8_termOf, hm, Option.bind_some, i10, i00, ↓reduceIte, hg, hc, m1, x1], hR⟩
    by_cases c1 : v2 = 1
    · subst c1
      exact ⟨nI (a 6 i), I, J, M, N, by simp only [F_X7_termOf, hx, Option.bind_some, i10, ↓reduceIte, x2], by simp only [F_X8_termOf, hm, Option.bind_some, i10, i00, ↓reduceIte, hg, hc, m2, x2], hR⟩
    by_cases c2 : v2 = 2
    · subst c2
      exact ⟨nI (a 7 i), I, J, M, N, by simp only [F_X7_termOf, hx, Option.bind_some, if_neg c0, if_neg c1, ↓reduceIte, x3], by simp only [F_X8_termOf, hm, Option.bind_some, i10, if_neg c0, if_neg c1, ↓reduceIte, hg, hc, m3, x3], hR⟩
    by_cases c3 : v2 = 3
    · subst c3
      exact ⟨nI (a 8 i), I, J, M, N, by simp only [F_X7_termOf, hx, Option.bind_some, if_neg c0, if_neg c1, if_neg c2, ↓reduceIte, x4], by simp only [F_X8_termOf, hm, Option.bind_some, i10, if_neg c0, if_neg c1, if_neg c2, ↓reduceIte, hg, hc, m4, x4], hR⟩
    obtain ⟨I1, M1, h1, h2, h3⟩ := bNo hR (v := -2) (by decide)
    exact ⟨(-2 : Int32), I1, J, M1, N, by simp only [F_X7_termOf, hx, Option.bind_some, if_neg c0, if_neg c1, if_neg c2, if_neg c3, h1], by simp only [F_X8_termOf, hm, Option.bind_some, i10, if_neg c0, if_neg c1, if_neg c2, if_neg c3, ↓reduceIte, h2], h3⟩
theorem st5 : St5 Rl := by
  intro I J M N v1 v2 hR
  obtain ⟨a, st, wn, te, tl, tx, rl, h⟩ := id hR
  obtain ⟨I', l1, l2, l3, l4, l5⟩ := layR (d := 0) (gd := 0) h (by omega) (by omega) SX.rf J
  have l1' : F_X4_lay I J (0 : Int32) (0 : Int32) (0 : Int32) = some (I', J) := l1
  have hR' : Rl I' J M N := hR.same l2 SM.rf
  have hw : F_X8_allWeathers M N = some (nI (nW a wn)) := mAllW h.1.1 h.2.2.1.1
  have h8 := (nW_le h.1.1).1
  rcases weathC (J := J) h l4.2.1 v1 with ⟨hx, hm⟩ | ⟨w, hw1, rfl, hx, hm⟩
  · obtain ⟨I1, M1, h1, h2, h3⟩ := bNo hR' (v := -1) (by decide)
    exact ⟨(-1 : Int32), I1, J, M1, N, by simp only [F_X7_weather, l1', Option.bind_some, hx, i00, ↓reduceIte, h1], by simp only [F_X8_weather, hw, Option.bind_some, hm, i00, ↓reduceIte, h2], h3⟩
  · have e1 : F_X4_chanceOf I' J (nI w) = some (nI (chA a wn w)) := by
      unfold F_X4_chanceOf
      rw [pAt (by omega) (by omega), l4.2.2.2.1 w hw1]
      rfl
    have e2 : F_X4_timesOf I' J (nI w) = some (nI (tiA a wn w)) := by
      unfold F_X4_timesOf
      rw [pAt (by omega) (by omega), l5 w hw1]
      rfl
    have e3 : F_X8_chanceOf M N (nI w) = some (nI (chA a wn w)) := mChance h.1.1 h.2.2.1.1 (by omega)
    have e4 : F_X8_timesOf M N (nI w) = some (nI (tiA a wn w)) := mTimes h.1.1 h.2.2.1.1 (by omega)
    by_cases c0 : v2 = 0
    · subst c0
      have q : F_X8_isIn (0 : Int32) 0 1 = some 1 := rfl
      exact ⟨nI (chA a wn w), I', J, M, N, by simp only [F_X7_weather, l1', Option.bind_some, hx, i10, i00, ↓reduceIte, e1], by simp only [F_X8_weather, hw, Option.bind_some, hm, i10, i00, ↓reduceIte, q, e3], hR'⟩
    by_cases c1 : v2 = 1
    · subst c1
      have q : F_X8_isIn (1 : Int32) 0 1 = some 1 := rfl
      exact ⟨nI (tiA a wn w), I', J, M, N, by simp only [F_X7_weather, l1', Option.bind_some, hx, i10, ↓reduceIte, e2], by simp only [F_X8_weather, hw, Option.bind_some, hm, i10, ↓reduceIte, q, e4], hR'⟩
    have q : F_X8_isIn v2 0 1 = some 0 := by
      rcases whoC v2 with ⟨_, hq⟩ | ⟨z, hz, rfl, _, _⟩
      · exact hq
      · rcases (show z = 0 ∨ z = 1 by omega) with rfl | rfl
        · exact absurd rfl c0
        · exact absurd rfl c1
    obtain ⟨I1, M1, h1, h2, h3⟩ := bNo hR' (v := -2) (by decide)
    exact ⟨(-2 : Int32), I1, J, M1, N, by simp only [F_X7_weather, l1', Option.bind_some, hx, i10, if_neg c0, if_neg c1, ↓reduceIte, h1], by simp only [F_X8_weather, hw, Option.bind_some, hm, i10, i00, ↓reduceIte, q, h2], h3⟩
theorem st6 : St6 Rl := by
  intro I J M N v1 v2 hR
  obtain ⟨a, st, wn, te, tl, tx, rl, h⟩ := id hR
  obtain ⟨I', l1, l2, l3, l4, l5⟩ := layR (d := 0) (gd := 0) h (by omega) (by omega) SX.rf J
  have l1' : F_X4_lay I J (0 : Int32) (0 : Int32) (0 : Int32) = some (I', J) := l1
  have hR' : Rl I' J M N := hR.same l2 SM.rf
  have hw : F_X8_allWeathers M N = some (nI (nW a wn)) := mAllW h.1.1 h.2.2.1.1
  have h8 := (nW_le h.1.1).1
  have hst := h.1.1.1
  rcases painsC (J := J) h I' (l2.1 0 (by omega)) v1 with ⟨hx, hm⟩ | ⟨p, hp, rfl, hx, hm⟩
  · obtain ⟨I1, M1, h1, h2, h3⟩ := bNo hR' (v := -1) (by decide)
    exact ⟨(-1 : Int32), I1, J, M1, N, by simp only [F_X7_harvest, l1', Option.bind_some, hx, i00, ↓reduceIte, h1], by simp only [F_X8_harvest, Option.bind_some, hm, i00, ↓reduceIte, h2], h3⟩
  · rcases weathC (J := J) h l4.2.1 v2 with ⟨gx, gm⟩ | ⟨w, hw1, rfl, gx, gm⟩
    · obtain ⟨I1, M1, h1, h2, h3⟩ := bNo hR' (v := -1) (by decide)
      exact ⟨(-1 : Int32), I1, J, M1, N, by simp only [F_X7_harvest, l1', Option.bind_some, hx, gx, i10, i00, ↓reduceIte, h1], by simp only [F_X8_harvest, hw, Option.bind_some, hm, gm, i10, i00, ↓reduceIte, h2], h3⟩
    · have e1 : F_X4_harvestOf I' J (nI p) (nI w) = some (nI (harv a wn 0 0 p w)) := by
        unfold F_X4_harvestOf
        have e2 : nI p * (8 : Int32) + nI w = nI (p * 8 + w) := by
          show nI p * nI 8 + nI w = _
          rw [pk_mul, nI_add]
        rw [e2, pAt (by omega) (by omega), l4.2.2.2.2.2 p w hp hw1]
        rfl
      have hsm : SM M (u2 (u2 M 0 26 (0 : Int32)) 0 27 (0 : Int32)) := ⟨fun z z0 _ => (u1_ne z0).trans (u1_ne z0), fun j hj => by rcases hj with rfl | rfl | rfl | rfl | rfl | rfl <;> rfl⟩
      have hmf := h.2.2.1.sm hsm
      have e3 : F_X8_reaped (u2 (u2 M 0 26 (0 : Int32)) 0 27 (0 : Int32)) N (nI p) (nI w) = some (nI (harv a wn 0 0 p w)) := by
        exact mReapG h.1.1 hmf.1 (show (u2 (u2 M 0 26 (0 : Int32)) 0 27 (0 : Int32)) 0 26 = nI 0 from rfl) (show (u2 (u2 M 0 26 (0 : Int32)) 0 27 (0 : Int32)) 0 27 = nI 0 from rfl) (by omega) (by omega) hp (by omega)
      exact ⟨nI (harv a wn 0 0 p w), I', J, u2 (u2 M 0 26 (0 : Int32)) 0 27 (0 : Int32), N, by simp only [F_X7_harvest, l1', Option.bind_some, hx, gx, i10, ↓reduceIte, e1], by simp only [F_X8_harvest, hw, Option.bind_some, hm, gm, i10, ↓reduceIte, e3], hR.same l2 hsm⟩
end ST
