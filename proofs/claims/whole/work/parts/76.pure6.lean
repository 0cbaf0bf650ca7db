theorem isLo {v lo hi : Int32} (h : v < lo) : F_X8_isIn v lo hi = some 0 := by rw [inM, if_pos h]
theorem isHi {v lo hi : Int32} (h : hi < v) : F_X8_isIn v lo hi = some 0 := by
  rw [inM]
  by_cases c : v < lo
  · rw [if_pos c]
  · rw [if_neg c, if_pos h]
theorem isOk {v lo hi : Int32} (h : ¬ v < lo) (h2 : ¬ hi < v) : F_X8_isIn v lo hi = some 1 := by rw [inM, if_neg h, if_neg h2]
theorem mostFN (k : Nat) : mostF k = nI (mostN k) := match k with
  | 0 => rfl
  | 1 => rfl
  | 2 => rfl
  | 3 => rfl
  | 4 => rfl
  | 5 => rfl
  | 6 => rfl
  | _ + 7 => rfl
theorem mostN_le (k : Nat) : mostN k ≤ 999 := by
  unfold mostN
  split <;> decide
theorem pSum_l {f : Nat → Int32} {g : Nat → Nat} {n0 p : Nat} (hp : p ≤ n0) (hn0 : n0 < 2 ^ 31) (hf : ∀ k, k < p → f k = nI (g k)) : ∀ (j n i : Nat), i + j = p → j < n → FL_X2_sum_4 n0 f n (nI p) (nI (sm g i)) (nI i) = some (nI (sm g p)) := by
  intro j
  induction j with
  | zero =>
    intro n i hi hn
    obtain ⟨n, rfl⟩ := suc hn
    rw [FL_X2_sum_4, if_pos (nI_le (by omega) (by omega)), show i = p by omega]
  | succ j ih =>
    intro n i hi hn
    obtain ⟨n, rfl⟩ := suc hn
    rw [FL_X2_sum_4, if_neg (nI_ge (by omega) (by omega)), pAt (by omega) hn0, hf i (by omega)]
    show FL_X2_sum_4 n0 f n (nI p) (nI (sm g i) + nI (g i)) (nI i + 1) = _
    rw [nI_add, nI_1]
    exact ih n (i + 1) (by omega) (by omega)
theorem pSum {f : Nat → Int32} {g : Nat → Nat} {n0 p : Nat} (hp : p ≤ n0) (hn0 : n0 ≤ 2000) (hf : ∀ k, k < p → f k = nI (g k)) : F_X2_sum n0 f (nI p) = some (nI (sm g p)) := pSum_l hp (by omega) hf p 3000 0 (by omega) (by omega)
section S6
variable {I M : SI} {J N : SJ} {a : NN} {st wn te tl rl k A B Q t nw y : Nat} {tx : Nat → Nat} {ch : Nat → Nat} {hv : Nat → Nat → Nat} {cost : Nat → Nat}
/-- a setting put -/
def aSet (a : NN) (k x : Nat) : NN
  | 0 => fun i => if i = k then x else a 0 i
  | j + 1 => a (j + 1)
theorem aSet_ok (h : OkA a st wn te) {k x : Nat} (hx : x ≤ mostN k) : OkA (aSet a k x) st wn te := by
  obtain ⟨⟨h1, h2, h3, h4, h5, h6⟩, h7, h8, h9⟩ := h
  refine ⟨⟨h1, h2, fun i hi => ?_, h4, h5, h6⟩, h7, h8, h9⟩
  show (if i = k then x else a 0 i) ≤ mostN i
  by_cases c : i = k
  · rw [if_pos c, c]; exact hx
  · rw [if_neg c]; exact h3 i hi
theorem Ro.set (h : Ro I M a st wn te tl tx rl) {k x : Nat} (hk : k < 8) (hx : x ≤ mostN k) : Ro (u1 I 1 (upd (I 1) k (nI x))) (u1 M 2 (upd (M 2) k (nI x))) (aSet a k x) st wn te tl tx rl := by
  obtain ⟨hO, hX, hM, hT, hW, hr, ht, hi, h48⟩ := h
  have ex : ∀ z, z ≠ 1 → u1 I 1 (upd (I 1) k (nI x)) z = I z := fun z hz => u1_ne hz
  have em : ∀ z, z ≠ 2 → u1 M 2 (upd (M 2) k (nI x)) z = M z := fun z hz => u1_ne hz
  refine ⟨aSet_ok hO hx, ⟨⟨fun i hi => ?_, fun i hi => ?_, fun i hi => ?_, ?_, ?_⟩, fun i hi => ?_, ?_⟩, ⟨⟨fun i hi => ?_, fun i hi => ?_, fun i hi => ?_, ?_, ?_⟩, fun i hi => ?_, ?_⟩, ?_, ?_, fun j hj => ?_, fun j hj => ?_, ?_, ?_⟩
  · show u1 I 1 (upd (I 1) k (nI x)) (0 + 1) i = nI (if i = k then x else a 0 i)
    rw [Nat.zero_add, u1_at]
    unfold upd
    by_cases c : i = k
    · rw [if_pos c, if_pos c]
    · rw [if_neg c, if_neg c]
      exact hX.1.1 i hi
  · rw [ex (0 + 2) (by omega), ex (0 + 3) (by omega)]; exact hX.1.2.1 i hi
  · rw [ex (0 + 4) (by omega), ex (0 + 5) (by omega)]; exact hX.1.2.2.1 i hi
  · rw [ex 0 (by omega)]; exact hX.1.2.2.2.1
  · rw [ex 0 (by omega)]; exact hX.1.2.2.2.2
  · unfold XT
    rw [ex (0 + 7 + i) (by omega)]
    exact hX.2.1 i hi
  · rw [ex 0 (by omega)]; exact hX.2.2
  · show u1 M 2 (upd (M 2) k (nI x)) 2 i = nI (if i = k then x else a 0 i)
    rw [u1_at]
    unfold upd
    by_cases c : i = k
    · rw [if_pos c, if_pos c]
    · rw [if_neg c, if_neg c]
      exact hM.1.1 i hi
  · rw [em 4 (by omega), em 5 (by omega)]; exact hM.1.2.1 i hi
  · rw [em 6 (by omega), em 7 (by omega)]; exact hM.1.2.2.1 i hi
  · rw [em 0 (by omega)]; exact hM.1.2.2.2.1
  · rw [em 0 (by omega)]; exact hM.1.2.2.2.2
  · rw [em 13 (by omega), em 14 (by omega), em 15 (by omega), em 16 (by omega)]; exact hM.2.1 i hi
  · rw [em 0 (by omega)]; exact hM.2.2
  · refine ⟨hT.1, by rw [ex 45 (by omega)]; exact hT.2.1, by rw [em 0 (by omega)]; exact hT.2.2.1, fun j hj => ?_⟩
    rw [ex 46 (by omega), em 8 (by omega)]
    exact hT.2.2.2 j hj
  · refine ⟨hW.1, by rw [ex 59 (by omega)]; exact hW.2.1, by rw [em 0 (by omega)]; exact hW.2.2.1, fun j hj => ?_⟩
    rw [ex 60 (by omega), em 20 (by omega)]
    exact hW.2.2.2 j hj
  · rw [ex 61 (by omega), em 1 (by omega)]; exact hr j hj
  · rw [em 3 (by omega)]; exact ht j hj
  · unfold IM
    rw [ex 59 (by omega), em 0 (by omega), em 21 (by omega)]
    rcases hi with h1 | ⟨h1, h2, b, st', wn', te', g1, g2, g3⟩
    · exact Or.inl h1
    · exact Or.inr ⟨h1, h2, b, st', wn', te', g1, g2.at g1.2.2.1 (fun z _ hz => ex z (by omega)), g3⟩
  · rw [ex 48 (by omega)]; exact h48
theorem st4 : St4 Rl := by
  intro I J M N v1 v2 hR
  obtain ⟨a, st, wn, te, tl, tx, rl, h⟩ := id hR
  have no2 : ∃ (I1 M1 : SI), F_X7_refuse I J (-2) = some (-2, I1, J) ∧ F_X8_no M N (-2) = some (-2, M1, N) ∧ Rl I1 J M1 N := bNo hR (by decide)
  by_cases c1 : v1 < 0
  · obtain ⟨I1, M1, h1, h2, h3⟩ := no2
    exact ⟨_, I1, J, M1, N, (by simp only [F_X7_set, F_X1_isSetting, if_pos c1, Option.bind_some, ↓reduceIte, h1] : F_X7_set I J v1 v2 = some (-2, I1, J)), by simp only [F_X8_set, isLo c1, Option.bind_some, ↓reduceIte, h2], h3⟩
  obtain ⟨k, hk, rfl⟩ := nI_of c1
  by_cases c2 : 8 ≤ k
  · obtain ⟨I1, M1, h1, h2, h3⟩ := no2
    have e1 : (8 : Int32) ≤ nI k := nI_le (a := 8) c2 hk
    have e2 : (7 : Int32) < nI k := nI_lt (a := 7) (by omega) hk
    exact ⟨_, I1, J, M1, N, (by simp only [F_X7_set, F_X1_isSetting, if_neg c1, if_pos e1, Option.bind_some, ↓reduceIte, h1] : F_X7_set I J (nI k) v2 = some (-2, I1, J)), by simp only [F_X8_set, isHi e2, Option.bind_some, ↓reduceIte, h2], h3⟩
  have e1 : ¬ (8 : Int32) ≤ nI k := nI_ge (b := 8) (by omega) (by omega)
  have e2 : ¬ (7 : Int32) < nI k := nI_nlt (b := k) (a := 7) (by omega) (by omega)
  have eg : gin (nI k) 8 = true := gin_nI (by omega) (by omega)
  have ec : (nI k).toNatClampNeg = k := nI_clamp hk
  have em : M 3 k = nI (mostN k) := h.2.2.2.2.2.2.1 k (by omega)
  have x1 : F_X1_setting 0 I J (nI k) = some (nI (a 0 k)) := xSet h.2.1.1 (by omega)
  rcases rng_c v2 0 (nI (mostN k)) with ⟨r0, r1, r2⟩ | ⟨r4, _⟩ | ⟨r6, _, _⟩
  · obtain ⟨x, hx, rfl⟩ := of_rng (nI_toInt (by have := mostN_le k; omega)) r1 r2
    exact ⟨_, _, J, _, N, (by simp only [F_X7_set, F_X1_isSetting, F_X1_mostOf, F_X1_putSetting, if_neg c1, if_neg e1, eg, ec, mostFN, rngX, r0, x1, Option.bind_some, i10, i00, ↓reduceIte] : F_X7_set I J (nI k) (nI x) = some (nI (a 0 k), u1 I (0 + 1) (upd (I (0 + 1)) k (nI x)), J)), by simp only [F_X8_set, isOk c1 e2, eg, ec, em, rngM, r0, h.2.2.1.1.1 k (by omega), Option.bind_some, i10, i00, ↓reduceIte], ⟨_, _, _, _, _, _, _, h.set (by omega) hx⟩⟩
  · obtain ⟨I1, M1, h1, h2, h3⟩ := bNo hR (v := -4) (by decide)
    exact ⟨_, I1, J, M1, N, (by simp only [F_X7_set, F_X1_isSetting, F_X1_mostOf, if_neg c1, if_neg e1, eg, ec, mostFN, rngX, r4, Option.bind_some, i10, i40, ↓reduceIte, h1] : F_X7_set I J (nI k) v2 = some (-4, I1, J)), by simp only [F_X8_set, isOk c1 e2, eg, ec, em, rngM, r4, Option.bind_some, i10, i40, ↓reduceIte, h2], h3⟩
  · obtain ⟨I1, M1, h1, h2, h3⟩ := bNo hR (v := -6) (by decide)
    exact ⟨_, I1, J, M1, N, (by simp only [F_X7_set, F_X1_isSetting, F_X1_mostOf, if_neg c1, if_neg e1, eg, ec, mostFN, rngX, r6, Option.bind_some, i10, i60, ↓reduceIte, h1] : F_X7_set I J (nI k) v2 = some (-6, I1, J)), by simp only [F_X8_set, isOk c1 e2, eg, ec, em, rngM, r6, Option.bind_some, i10, i60, ↓reduceIte, h2], h3⟩
theorem Ro.row (h : Ro I M a st wn te tl tx rl) (hl : rl < 16) (v : Int32) : Ro (u2 (u1 I 60 (upd (I 60) rl v)) 59 10 (nI (rl + 1))) (u2 (u1 M 20 (upd (M 20) rl v)) 0 36 (nI (rl + 1))) a st wn te tl tx (rl + 1) := by
  obtain ⟨hO, hX, hM, hT, hW, hr, ht, hi, h48⟩ := h
  have ex : ∀ z, z ≠ 60 → z ≠ 59 → u2 (u1 I 60 (upd (I 60) rl v)) 59 10 (nI (rl + 1)) z = I z := fun z hz hz2 => (u1_ne hz2).trans (u1_ne hz)
  have em : ∀ z, z ≠ 20 → z ≠ 0 → u2 (u1 M 20 (upd (M 20) rl v)) 0 36 (nI (rl + 1)) z = M z := fun z hz hz2 => (u1_ne hz2).trans (u1_ne hz)
  have e59 : ∀ j, j ≠ 10 → u2 (u1 I 60 (upd (I 60) rl v)) 59 10 (nI (rl + 1)) 59 j = I 59 j := fun j hj => by
    show u1 _ 59 (upd _ 10 _) 59 j = _
    rw [u1_at, pk_un hj, u1_ne (by omega)]
  have e0 : ∀ j, j ≠ 36 → u2 (u1 M 20 (upd (M 20) rl v)) 0 36 (nI (rl + 1)) 0 j = M 0 j := fun j hj => by
    show u1 _ 0 (upd _ 36 _) 0 j = _
    rw [u1_at, pk_un hj, u1_ne (by omega)]
  refine ⟨hO, ⟨⟨fun i hi => ?_, fun i hi => ?_, fun i hi => ?_, ?_, ?_⟩, fun i hi => ?_, ?_⟩, ⟨⟨fun i hi => ?_, fun i hi => ?_, fun i hi => ?_, ?_, ?_⟩, fun i hi => ?_, ?_⟩, ?_, ?_, fun j hj => ?_, fun j hj => ?_, ?_, ?_⟩
  · rw [ex (0 + 1) (by omega) (by omega)]; exact hX.1.1 i hi
  · rw [ex (0 + 2) (by omega) (by omega), ex (0 + 3) (by omega) (by omega)]; exact hX.1.2.1 i hi
  · rw [ex (0 + 4) (by omega) (by omega), ex (0 + 5) (by omega) (by omega)]; exact hX.1.2.2.1 i hi
  · rw [ex 0 (by omega) (by omega)]; exact hX.1.2.2.2.1
  · rw [ex 0 (by omega) (by omega)]; exact hX.1.2.2.2.2
  · unfold XT
    rw [ex (0 + 7 + i) (by have := hO.2.2.1; omega) (by have := hO.2.2.1; omega)]
    exact hX.2.1 i hi
  · rw [ex 0 (by omega) (by omega)]; exact hX.2.2
  · rw [em 2 (by omega) (by omega)]; exact hM.1.1 i hi
  · rw [em 4 (by omega) (by omega), em 5 (by omega) (by omega)]; exact hM.1.2.1 i hi
  · rw [em 6 (by omega) (by omega), em 7 (by omega) (by omega)]; exact hM.1.2.2.1 i hi
  · rw [e0 7 (by omega)]; exact hM.1.2.2.2.1
  · rw [e0 8 (by omega)]; exact hM.1.2.2.2.2
  · rw [em 13 (by omega) (by omega), em 14 (by omega) (by omega), em 15 (by omega) (by omega), em 16 (by omega) (by omega)]; exact hM.2.1 i hi
  · rw [e0 21 (by omega)]; exact hM.2.2
  · refine ⟨hT.1, by rw [ex 45 (by omega) (by omega)]; exact hT.2.1, by rw [e0 14 (by omega)]; exact hT.2.2.1, fun j hj => ?_⟩
    rw [ex 46 (by omega) (by omega), em 8 (by omega) (by omega)]
    exact hT.2.2.2 j hj
  · refine ⟨hl, ?_, ?_, fun j hj => ?_⟩
    · show u1 _ 59 (upd _ 10 _) 59 10 = _
      rw [u1_at, pk_us]
    · show u1 _ 0 (upd _ 36 _) 0 36 = _
      rw [u1_at, pk_us]
    · show u1 (u1 I 60 _) 59 _ 60 j = u1 (u1 M 20 _) 0 _ 20 j
      rw [u1_ne (by omega), u1_at, u1_ne (by omega), u1_at]
      unfold upd
      by_cases c : j = rl
      · rw [if_pos c, if_pos c]
      · rw [if_neg c, if_neg c]
        exact hW.2.2.2 j (by omega)
  · rw [ex 61 (by omega) (by omega), em 1 (by omega) (by omega)]; exact hr j hj
  · rw [em 3 (by omega) (by omega)]; exact ht j hj
  · unfold IM
    rw [e59 11 (by omega), e0 38 (by omega), em 21 (by omega) (by omega)]
    rcases hi with h1 | ⟨h1, h2, b, st', wn', te', g1, g2, g3⟩
    · exact Or.inl h1
    · exact Or.inr ⟨h1, h2, b, st', wn', te', g1, g2.at g1.2.2.1 (fun z _ hz => ex z (by omega) (by omega)), g3⟩
  · rw [ex 48 (by omega) (by omega)]; exact h48
theorem st27 : St27 Rl := by
  intro I J M N v1 hR
  obtain ⟨a, st, wn, te, tl, tx, rl, h⟩ := id hR
  obtain ⟨w1, w2, w3, w4⟩ := h.2.2.2.2.1
  rcases rng_c v1 0 999 with ⟨r0, r1, r2⟩ | ⟨r4, _⟩ | ⟨r6, _, _⟩
  · by_cases c : rl = 16
    · obtain ⟨I1, M1, h1, h2, h3⟩ := bNo hR (v := -6) (by decide)
      have e1 : ¬ I 59 10 < (16 : Int32) := by rw [w2, c]; exact fun q => absurd q (by decide)
      have e2 : M 0 36 = (16 : Int32) := by rw [w3, c]; rfl
      exact ⟨_, I1, J, M1, N, (by simp only [F_X7_row, rngX, r0, Option.bind_some, ↓reduceIte, if_neg e1, i60, h1] : F_X7_row I J v1 = some (-6, I1, J)), by simp only [F_X8_row, rngM, r0, Option.bind_some, ↓reduceIte, if_pos e2, i60, h2], h3⟩
    have e1 : nI rl < (16 : Int32) := nI_lt (b := 16) (by omega) (by omega)
    have e2 : ¬ nI rl = (16 : Int32) := fun q => c ((nI_eL (n := 16) rfl (by omega) (by omega)).mp q)
    have e3 : gin (nI rl) 16 = true := gin_nI (by omega) (by omega)
    have e4 : (nI rl).toNatClampNeg = rl := nI_clamp (by omega)
    have e5 : F_X2_put 16 (I 60) (nI rl) v1 = some (upd (I 60) rl v1) := pPut (by omega) (by omega)
    have e6 : u1 I 60 (upd (I 60) rl v1) 59 10 = nI rl := (congrFun (u1_ne (by omega)) 10).trans w2
    have e7 : u1 M 20 (upd (M 20) rl v1) 0 36 = nI rl := (congrFun (u1_ne (by omega)) 36).trans w3
    have e8 : u2 (u1 I 60 (upd (I 60) rl v1)) 59 10 (nI (rl + 1)) 59 10 = nI (rl + 1) := by
      show u1 _ 59 (upd _ 10 _) 59 10 = _
      rw [u1_at, pk_us]
    have e9 : u2 (u1 M 20 (upd (M 20) rl v1)) 0 36 (nI (rl + 1)) 0 36 = nI (rl + 1) := by
      show u1 _ 0 (upd _ 36 _) 0 36 = _
      rw [u1_at, pk_us]
    refine ⟨nI (rl + 1), _, J, _, N, ?_, ?_, ⟨_, _, _, _, _, _, _, h.row (by omega) v1⟩⟩
    · simp only [F_X7_row, rngX, r0, Option.bind_some, ↓reduceIte, w2, if_pos e1, e5, e6, nI_1, e8]
    · simp only [F_X8_row, rngM, r0, Option.bind_some, ↓reduceIte, w3, if_neg e2, e3, e4, e7, nI_1, e9]
  · obtain ⟨I1, M1, h1, h2, h3⟩ := bNo hR (v := -4) (by decide)
    exact ⟨_, I1, J, M1, N, (by simp only [F_X7_row, rngX, r4, Option.bind_some, i40, ↓reduceIte, h1] : F_X7_row I J v1 = some (-4, I1, J)), by simp only [F_X8_row, rngM, r4, Option.bind_some, i40, ↓reduceIte, h2], h3⟩
  · obtain ⟨I1, M1, h1, h2, h3⟩ := bNo hR (v := -6) (by decide)
    exact ⟨_, I1, J, M1, N, (by simp only [F_X7_row, rngX, r6, Option.bind_some, i60, ↓reduceIte, h1] : F_X7_row I J v1 = some (-6, I1, J)), by simp only [F_X8_row, rngM, r6, Option.bind_some, i60, ↓reduceIte, h2], h3⟩
theorem mGives_l (hO : OkF a st wn) (hM : ME M a st wn) : ∀ (j n i : Nat), i + j = st → j < n → FL_X8_count_94 n M N (nI (sm (a 2) i)) (nI i) = some (nI (sm (a 2) st)) := by
  have hst := hO.1
  intro j
  induction j with
  | zero =>
    intro n i hi hn
    obtain ⟨n, rfl⟩ := suc hn
    rw [FL_X8_count_94, hM.2.2.2.1, if_pos (nI_le (by omega) (by omega)), show i = st by omega]
  | succ j ih =>
    intro n i hi hn
    obtain ⟨n, rfl⟩ := suc hn
    rw [FL_X8_count_94, hM.2.2.2.1, if_neg (nI_ge (by omega) (by omega)), if_pos (gin_nI (by omega) (by omega)), nI_clamp (by omega), (hM.2.1 i (by omega)).2, nI_add, nI_1]
    exact ih n (i + 1) (by omega) (by omega)
theorem st31 : St31 Rl := by
  intro I J M N v1 hR
  obtain ⟨a, st, wn, te, tl, tx, rl, h⟩ := id hR
  obtain ⟨w1, w2, w3, w4⟩ := h.2.2.2.2.1
  obtain ⟨t1, t2, t3, t4⟩ := h.2.2.2.1
  have hst := h.1.1.1
  by_cases c0 : v1 = 0
  · subst c0
    refine ⟨nI te, I, J, M, N, ?_, ⟨?_, rfl, rfl⟩, hR⟩
    · simp only [F_X7_count, ↓reduceIte, h.2.1.2.2]
    · simp only [F_X8_count, isLo (show (0 : Int32) < 11 from by decide), Option.bind_some, ↓reduceIte, h.2.2.1.2.2]
  by_cases c1 : v1 = 1
  · subst c1
    refine ⟨nI st, I, J, M, N, ?_, ⟨?_, rfl, rfl⟩, hR⟩
    · simp only [F_X7_count, if_neg c0, ↓reduceIte, h.2.1.1.2.2.2.1]
    · simp only [F_X8_count, isLo (show (1 : Int32) < 11 from by decide), Option.bind_some, if_neg c0, ↓reduceIte, h.2.2.1.1.2.2.2.1]
  by_cases c2 : v1 = 2
  · subst c2
    obtain ⟨I', l1, l2, l3, l4, l5⟩ := layR (d := 0) (gd := 0) h (by omega) (by omega) SX.rf J
    have l1' : F_X4_lay I J (0 : Int32) (0 : Int32) (0 : Int32) = some (I', J) := l1
    refine ⟨nI (nW a wn), I', J, M, N, ?_, ⟨?_, rfl, rfl⟩, hR.same l2 SM.rf⟩
    · simp only [F_X7_count, F_X7_countWeathers, if_neg c0, if_neg c1, ↓reduceIte, l1', Option.bind_some, l4.2.1]
    · simp only [F_X8_count, isLo (show (2 : Int32) < 11 from by decide), Option.bind_some, if_neg c0, if_neg c1, ↓reduceIte, mAllW h.1.1 h.2.2.1.1]
  by_cases c3 : v1 = 3
  · subst c3
    have e1 : F_X2_sum 8 (I 2) (nI st) = some (nI (sm (a 1) st)) := pSum (by omega) (by omega) (fun k hk => (h.2.1.1.2.1 k hk).1)
    refine ⟨nI (sm (a 1) st), I, J, M, N, ?_, ⟨?_, rfl, rfl⟩, hR⟩
    · simp only [F_X7_count, if_neg c0, if_neg c1, if_neg c2, ↓reduceIte, h.2.1.1.2.2.2.1, e1, Option.bind_some]
    · simp only [F_X8_count, isLo (show (3 : Int32) < 11 from by decide), Option.bind_some, if_neg c0, if_neg c1, if_neg c2, ↓reduceIte, h.2.2.1.1.2.2.2.1, mCost (N := N) h.1.1 h.2.2.1.1 (Nat.le_refl st)]
  by_cases c4 : v1 = 4
  · subst c4
    have e1 : F_X2_sum 8 (I 3) (nI st) = some (nI (sm (a 2) st)) := pSum (by omega) (by omega) (fun k hk => (h.2.1.1.2.1 k hk).2)
    have e2 : FL_X8_count_94 3000 M N (0 : Int32) (0 : Int32) = some (nI (sm (a 2) st)) := mGives_l h.1.1 h.2.2.1.1 st 3000 0 (by omega) (by omega)
    refine ⟨nI (sm (a 2) st), I, J, M, N, ?_, ⟨?_, rfl, rfl⟩, hR⟩
    · simp only [F_X7_count, if_neg c0, if_neg c1, if_neg c2, if_neg c3, ↓reduceIte, h.2.1.1.2.2.2.1, e1, Option.bind_some]
    · simp only [F_X8_count, isLo (show (4 : Int32) < 11 from by decide), Option.bind_some, if_neg c0, if_neg c1, if_neg c2, if_neg c3, ↓reduceIte, e2]
  by_cases c5 : v1 = 5
  · subst c5
    refine ⟨nI rl, I, J, M, N, ?_, ⟨?_, rfl, rfl⟩, hR⟩
    · simp only [F_X7_count, if_neg c0, if_neg c1, if_neg c2, if_neg c3, if_neg c4, ↓reduceIte, w2]
    · simp only [F_X8_count, isLo (show (5 : Int32) < 11 from by decide), Option.bind_some, if_neg c0, if_neg c1, if_neg c2, if_neg c3, if_neg c4, ↓reduceIte, w3]
  by_cases c6 : v1 = 6
  · subst c6
    refine ⟨nI tl, I, J, M, N, ?_, ⟨?_, rfl, rfl⟩, hR⟩
    · simp only [F_X7_count, if_neg c0, if_neg c1, if_neg c2, if_neg c3, if_neg c4, if_neg c5, ↓reduceIte, t2]
    · simp only [F_X8_count, isLo (show (6 : Int32) < 11 from by decide), Option.bind_some, if_neg c0, if_neg c1, if_neg c2, if_neg c3, if_neg c4, if_neg c5, ↓reduceIte, t3]
  by_cases d1 : v1 < 11
  · refine ⟨-9, I, J, M, N, ?_, ⟨?_, rfl, rfl⟩, hR⟩
    · simp only [F_X7_count, if_neg c0, if_neg c1, if_neg c2, if_neg c3, if_neg c4, if_neg c5, if_neg c6, if_pos d1]
    · simp only [F_X8_count, isLo d1, Option.bind_some, if_neg c0, if_neg c1, if_neg c2, if_neg c3, if_neg c4, if_neg c5, if_neg c6, ↓reduceIte]
  by_cases d2 : (16 : Int32) < v1
  · refine ⟨-9, I, J, M, N, ?_, ⟨?_, rfl, rfl⟩, hR⟩
    · simp only [F_X7_count, if_neg c0, if_neg c1, if_neg c2, if_neg c3, if_neg c4, if_neg c5, if_neg c6, if_neg d1, if_pos d2]
    · simp only [F_X8_count, isHi d2, Option.bind_some, if_neg c0, if_neg c1, if_neg c2, if_neg c3, if_neg c4, if_neg c5, if_neg c6, ↓reduceIte]
  have d0 : ¬ v1 < 0 := fun q => d1 (Int32.lt_trans q (by decide))
  obtain ⟨x, hx, rfl⟩ := nI_of2 (n := 16) (M := 16) (by decide) d0 (Int32.not_lt.mp d2)
  have hx2 : 11 ≤ x := Nat.not_lt.mp (fun q => d1 (nI_lt (b := 11) q (by omega)))
  have s1 : nI x - (11 : Int32) = nI (x - 11) := pk_sub (b := 11) hx2
  have s2 : nI x - (10 : Int32) = nI (x - 10) := pk_sub (b := 10) (by omega)
  have p1 : F_X2_at 6 (I 61) (nI (x - 11)) = some (I 61 (x - 11)) := pAt (by omega) (by omega)
  have g1 : gin (nI (x - 10)) 7 = true := gin_nI (by omega) (by omega)
  have g2 : (nI (x - 10)).toNatClampNeg = x - 10 := nI_clamp (by omega)
  have g3 : I 61 (x - 11) = M 1 (x - 10) := (h.2.2.2.2.2.1 (x - 11) (by omega)).trans (by rw [show x - 11 + 1 = x - 10 by omega])
  refine ⟨I 61 (x - 11), I, J, M, N, ?_, ⟨?_, rfl, rfl⟩, hR⟩
  · simp only [F_X7_count, if_neg c0, if_neg c1, if_neg c2, if_neg c3, if_neg c4, if_neg c5, if_neg c6, if_neg d1, if_neg d2, s1, p1, Option.bind_some]
  · simp only [F_X8_count, isOk d1 d2, Option.bind_some, i10, ↓reduceIte, s2, g1, g2, g3]
end S6
