/-- which of two TERMS the other person takes -/
def chosen (o r1 r2 : Int64) : Int32 := if o ≤ (if r2 ≤ r1 then r1 else r2) then (if r2 ≤ r1 then 0 else 1) else -9
theorem mx2 (r1 r2 : Int64) : (if r2 < r1 then r1 else r2) = if r2 ≤ r1 then r1 else r2 := by
  by_cases c : r2 ≤ r1
  · rw [if_pos c]
    by_cases c2 : r2 < r1
    · rw [if_pos c2]
    · rw [if_neg c2]
      exact Int64.le_antisymm c (Int64.not_lt.mp c2)
  · rw [if_neg c, if_neg (fun q => c (Int64.le_of_lt q))]
section S7
variable {I M : SI} {J N : SJ} {a : NN} {st wn te tl rl k A B Q t nw y : Nat} {tx : Nat → Nat} {ch : Nat → Nat} {hv : Nat → Nat → Nat} {cost : Nat → Nat}
/-- the best worth of TERM i for the other person, goods y -/
def bw (a : NN) (st wn y i : Nat) : Nat × Int64 := bp (fun p => worth a wn 0 y (a 5 i) (a 6 i) (a 7 i) (a 8 i) 0 p 0) st
theorem xtL (h : Ro I M a st wn te tl tx rl) {I' : SI} (hs : SX I I') {i : Nat} (hi : i < te) : XT I' (7 + i) (a 5 i) (a 6 i) (a 7 i) (a 8 i) := by
  have q := h.2.1.2.1 i hi
  have t8 := h.1.2.2.1
  rw [Nat.zero_add] at q
  unfold XT
  rw [hs.1 (7 + i) (by omega)]
  exact q
theorem xChosen (h : Ro I M a st wn te tl tx rl) {i i' : Nat} (hi : i < te) (hi' : i' < te) (hy : y ≤ 9) (J : SJ) : ∃ (I' : SI) (J' : SJ), F_X7_chosenOf (7 + i) (7 + i') I J (nI y) = some (chosen (1000 * (nI (a 0 1)).toInt64) (bw a st wn y i).2 (bw a st wn y i').2, I', J') ∧ SX I I' := by
  obtain ⟨I1, l1, l2, l3, l4, l5⟩ := layR (d := 0) (gd := y) h (by omega) hy SX.rf J
  have l1' : F_X4_lay I J (0 : Int32) (nI y) (0 : Int32) = some (I1, J) := l1
  have t8 := h.1.2.2.1
  obtain ⟨I2, J2, r1, r2, r3, r4⟩ := xBest (t := 7 + i) (J := J) h.1.1 (by omega) l3 (h.1.2.2.2 i hi) (xtL h l2 hi) l4 (nW_le h.1.1).1 (hv_ok h.1.1 (by omega) hy) (by omega)
  have q2 := l3.fr (fun z hz => r2.1 z (by omega))
  obtain ⟨I3, J3, s1, s2, s3, s4⟩ := xBest (t := 7 + i') (J := J2) h.1.1 (by omega) q2 (h.1.2.2.2 i' hi') ((xtL h l2 hi').fr (by omega) r2) (l4.fr r2) (nW_le h.1.1).1 (hv_ok h.1.1 (by omega) hy) (by omega)
  have q3 := q2.fr (fun z hz => s2.1 z (by omega))
  have r4' : J2 47 9 = (bw a st wn y i).2 := r4
  have s4' : J3 47 9 = (bw a st wn y i').2 := s4
  refine ⟨I3, J3, ?_, (l2.tr r2.sx).tr s2.sx⟩
  unfold F_X7_chosenOf chosen
  simp only [l1', Option.bind_some, r1, s1, xOther (J := J3) h.1.1 q3, r4', s4', mx2]
  by_cases c : 1000 * (nI (a 0 1)).toInt64 ≤ (if (bw a st wn y i').2 ≤ (bw a st wn y i).2 then (bw a st wn y i).2 else (bw a st wn y i').2)
  · rw [if_pos c, if_pos c]
  · rw [if_neg c, if_neg c]
theorem HD.good {M : SI} {d g0 : Nat} (h : HD M k A B Q d g0) (y : Nat) : HD (u2 M 0 27 (nI y)) k A B Q d y := by
  obtain ⟨h1, h2, h3, h4, h5, h6⟩ := h
  refine ⟨?_, ?_, ?_, ?_, ?_, ?_⟩
  · exact h1
  · exact h2
  · exact h3
  · exact h4
  · exact h5
  · rfl
theorem sm0 {M : SI} {j : Nat} (hj : ¬ (j = 7 ∨ j = 8 ∨ j = 14 ∨ j = 21 ∨ j = 36 ∨ j = 38)) (v : Int32) : SM M (u2 M 0 j v) := by
  refine ⟨fun z z0 _ => u1_ne z0, fun i hi => ?_⟩
  show u1 M 0 (upd (M 0) j v) 0 i = M 0 i
  rw [u1_at, pk_un (fun q => hj (by rw [← q]; exact hi))]
theorem mGood (h : Ro I M a st wn te tl tx rl) {i : Nat} (hi : i < te) (hy : y ≤ 9) : ∃ M' : SI, F_X8_worthGood M N (nI i) (nI y) = some ((bw a st wn y i).2, M', N) ∧ SM M M' := by
  obtain ⟨M1, t1, t2, t3⟩ := takeM (N := N) h hi
  have t4 := t2.good y
  have t5 : SM M (u2 M1 0 27 (nI y)) := t3.tr (sm0 (by omega) _)
  have mE := (h.2.2.1.sm t5).1
  have e1 : F_X8_bestPains (u2 M1 0 27 (nI y)) N (0 : Int32) = some (nI (bw a st wn y i).1) := mBest (y := 0) h.1.1 mE t4 (h.1.2.2.2 i hi) (by omega) hy (by omega)
  have e2 : F_X8_worthOf (u2 M1 0 27 (nI y)) N (0 : Int32) (nI (bw a st wn y i).1) (0 : Int32) = some (worth a wn 0 y (a 5 i) (a 6 i) (a 7 i) (a 8 i) 0 (bw a st wn y i).1 0) := mWorth (who := 0) (y := 0) h.1.1 mE t4 (h.1.2.2.2 i hi) (by omega) hy (bp_le _ _) (by omega) (by omega)
  have e3 : worth a wn 0 y (a 5 i) (a 6 i) (a 7 i) (a 8 i) 0 (bw a st wn y i).1 0 = (bw a st wn y i).2 := (bp_val (fun p => worth a wn 0 y (a 5 i) (a 6 i) (a 7 i) (a 8 i) 0 p 0) st).symm
  rw [e3] at e2
  refine ⟨_, ?_, t5⟩
  unfold F_X8_worthGood
  simp only [t1, Option.bind_some, e1, e2]
theorem mOffered (h : Ro I M a st wn te tl tx rl) {i i' : Nat} (hi : i < te) (hi' : i' < te) (hy : y ≤ 9) (N : SJ) : ∃ M' : SI, F_X8_offered M N (nI i) (nI i') (nI y) = some (chosen (1000 * (nI (a 0 1)).toInt64) (bw a st wn y i).2 (bw a st wn y i').2, M', N) ∧ SM M M' := by
  obtain ⟨M1, t1, t2⟩ := mGood (N := N) h hi hy
  obtain ⟨M2, s1, s2⟩ := mGood (N := N) (h.same SX.rf t2) hi' hy
  have e1 : M2 2 (Int32.toNatClampNeg 1) = nI (a 0 1) := (h.2.2.1.sm (t2.tr s2)).1.1 1 (by omega)
  refine ⟨M2, ?_, t2.tr s2⟩
  unfold F_X8_offered chosen
  simp only [t1, s1, Option.bind_some, e1]
  by_cases c : 1000 * (nI (a 0 1)).toInt64 ≤ (if (bw a st wn y i').2 ≤ (bw a st wn y i).2 then (bw a st wn y i).2 else (bw a st wn y i').2)
  · rw [if_pos c, if_pos c]
  · rw [if_neg c, if_neg c]
theorem st20 : St20 Rl := by
  intro I J M N v1 v2 v3 hR
  obtain ⟨a, st, wn, te, tl, tx, rl, h⟩ := id hR
  have no1 : ∃ (I1 M1 : SI), F_X7_refuse I J (-1) = some (-1, I1, J) ∧ F_X8_no M N (-1) = some (-1, M1, N) ∧ Rl I1 J M1 N := bNo hR (by decide)
  rcases termC (J := J) (N := N) h v1 with ⟨hx, hm⟩ | ⟨i, hi, rfl, hx, hm⟩
  · obtain ⟨I1, M1, h1, h2, h3⟩ := no1
    rcases termC (J := J) (N := N) h v2 with ⟨gx, gm⟩ | ⟨i', hi', rfl, gx, gm⟩
    · exact ⟨_, I1, J, M1, N, (by simp only [F_X7_offer, hx, gx, Option.bind_some, h1] : F_X7_offer I J v1 v2 v3 = some (-1, I1, J)), by simp only [F_X8_offer, hm, Option.bind_some, i00, ↓reduceIte, h2], h3⟩
    · exact ⟨_, I1, J, M1, N, (by simp only [F_X7_offer, hx, gx, Option.bind_some, h1] : F_X7_offer I J v1 (nI i') v3 = some (-1, I1, J)), by simp only [F_X8_offer, hm, Option.bind_some, i00, ↓reduceIte, h2], h3⟩
  rcases termC (J := J) (N := N) h v2 with ⟨gx, gm⟩ | ⟨i', hi', rfl, gx, gm⟩
  · obtain ⟨I1, M1, h1, h2, h3⟩ := no1
    exact ⟨_, I1, J, M1, N, (by simp only [F_X7_offer, hx, gx, Option.bind_some, h1] : F_X7_offer I J (nI i) v2 v3 = some (-1, I1, J)), by simp only [F_X8_offer, hm, gm, Option.bind_some, i10, i00, ↓reduceIte, h2], h3⟩
  by_cases c1 : v3 < 0
  · obtain ⟨I1, M1, h1, h2, h3⟩ := no1
    exact ⟨_, I1, J, M1, N, (by simp only [F_X7_offer, hx, gx, if_pos c1, Option.bind_some, h1] : F_X7_offer I J (nI i) (nI i') v3 = some (-1, I1, J)), by simp only [F_X8_offer, hm, gm, isLo c1, Option.bind_some, i10, i00, ↓reduceIte, h2], h3⟩
  by_cases c2 : (9 : Int32) < v3
  · obtain ⟨I1, M1, h1, h2, h3⟩ := no1
    exact ⟨_, I1, J, M1, N, (by simp only [F_X7_offer, hx, gx, if_neg c1, if_neg (Int32.not_le.mpr c2), Option.bind_some, h1] : F_X7_offer I J (nI i) (nI i') v3 = some (-1, I1, J)), by simp only [F_X8_offer, hm, gm, isHi c2, Option.bind_some, i10, i00, ↓reduceIte, h2], h3⟩
  obtain ⟨y, hy, rfl⟩ := nI_of2 (n := 9) (M := 9) (by decide) c1 (Int32.not_lt.mp c2)
  obtain ⟨I1, J1, e1, e2⟩ := xChosen h hi hi' hy J
  obtain ⟨M1, f1, f2⟩ := mOffered h hi hi' hy N
  exact ⟨_, I1, J1, M1, N, (by simp only [F_X7_offer, hx, gx, if_neg c1, if_pos (Int32.not_lt.mp c2), Option.bind_some, e1] : F_X7_offer I J (nI i) (nI i') (nI y) = some (chosen (1000 * (nI (a 0 1)).toInt64) (bw a st wn y i).2 (bw a st wn y i').2, I1, J1)), by simp only [F_X8_offer, hm, gm, isOk c1 c2, Option.bind_some, i10, ↓reduceIte, f1], hR.same e2 f2⟩
theorem st21 : St21 Rl := by
  intro I J M N v1 v2 v3 hR
  obtain ⟨a, st, wn, te, tl, tx, rl, h⟩ := id hR
  have no1 : ∃ (I1 M1 : SI), F_X7_refuse I J (-1) = some (-1, I1, J) ∧ F_X8_no M N (-1) = some (-1, M1, N) ∧ Rl I1 J M1 N := bNo hR (by decide)
  rcases termC (J := J) (N := N) h v1 with ⟨hx, hm⟩ | ⟨i, hi, rfl, hx, hm⟩
  · obtain ⟨I1, M1, h1, h2, h3⟩ := no1
    rcases termC (J := J) (N := N) h v2 with ⟨gx, gm⟩ | ⟨i', hi', rfl, gx, gm⟩
    · exact ⟨_, I1, J, M1, N, (by simp only [F_X7_parts, hx, gx, Option.bind_some, h1] : F_X7_parts I J v1 v2 v3 = some (-1, I1, J)), by simp only [F_X8_parts, hm, Option.bind_some, i00, ↓reduceIte, h2], h3⟩
    · exact ⟨_, I1, J, M1, N, (by simp only [F_X7_parts, hx, gx, Option.bind_some, h1] : F_X7_parts I J v1 (nI i') v3 = some (-1, I1, J)), by simp only [F_X8_parts, hm, Option.bind_some, i00, ↓reduceIte, h2], h3⟩
  rcases termC (J := J) (N := N) h v2 with ⟨gx, gm⟩ | ⟨i', hi', rfl, gx, gm⟩
  · obtain ⟨I1, M1, h1, h2, h3⟩ := no1
    exact ⟨_, I1, J, M1, N, (by simp only [F_X7_parts, hx, gx, Option.bind_some, h1] : F_X7_parts I J (nI i) v2 v3 = some (-1, I1, J)), by simp only [F_X8_parts, hm, gm, Option.bind_some, i10, i00, ↓reduceIte, h2], h3⟩
  by_cases c1 : v3 < 1
  · obtain ⟨I1, M1, h1, h2, h3⟩ := no1
    exact ⟨_, I1, J, M1, N, (by simp only [F_X7_parts, hx, gx, if_pos c1, Option.bind_some, h1] : F_X7_parts I J (nI i) (nI i') v3 = some (-1, I1, J)), by simp only [F_X8_parts, hm, gm, isLo c1, Option.bind_some, i10, i00, ↓reduceIte, h2], h3⟩
  by_cases c2 : (9 : Int32) < v3
  · obtain ⟨I1, M1, h1, h2, h3⟩ := no1
    exact ⟨_, I1, J, M1, N, (by simp only [F_X7_parts, hx, gx, if_neg c1, if_neg (Int32.not_le.mpr c2), Option.bind_some, h1] : F_X7_parts I J (nI i) (nI i') v3 = some (-1, I1, J)), by simp only [F_X8_parts, hm, gm, isHi c2, Option.bind_some, i10, i00, ↓reduceIte, h2], h3⟩
  obtain ⟨y, hy, rfl⟩ := nI_of2 (n := 9) (M := 9) (by decide) (fun q => c1 (Int32.lt_trans q (by decide))) (Int32.not_lt.mp c2)
  obtain ⟨I1, J1, e1, e2⟩ := xChosen (y := 0) h hi hi' (by omega) J
  obtain ⟨M1, f1, f2⟩ := mOffered (y := 0) h hi hi' (by omega) N
  obtain ⟨I2, J2, g1, g2⟩ := xChosen (h.same e2 f2) hi hi' hy J1
  obtain ⟨M2, k1, k2⟩ := mOffered (h.same e2 f2) hi hi' hy N
  have e1' : F_X7_chosenOf (7 + i) (7 + i') I J (0 : Int32) = _ := e1
  have f1' : F_X8_offered M N (nI i) (nI i') (0 : Int32) = _ := f1
  exact ⟨_, I2, J2, M2, N, (by simp only [F_X7_parts, hx, gx, if_neg c1, if_pos (Int32.not_lt.mp c2), Option.bind_some, e1', g1] : F_X7_parts I J (nI i) (nI i') (nI y) = some (if chosen (1000 * (nI (a 0 1)).toInt64) (bw a st wn 0 i).2 (bw a st wn 0 i').2 = chosen (1000 * (nI (a 0 1)).toInt64) (bw a st wn y i).2 (bw a st wn y i').2 then (0 : Int32) else 1, I2, J2)), by simp only [F_X8_parts, hm, gm, isOk c1 c2, Option.bind_some, i10, ↓reduceIte, f1', k1], hR.same (e2.tr g2) (f2.tr k2)⟩
end S7
