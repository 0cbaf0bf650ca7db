theorem pOneS {M : SI} {N : SJ} {o : Nat} (ho : o < 200) (h39 : M 0 39 = 1) (h40 : M 0 40 = nI o) (v : Int32) : ∃ M' : SI, F_X8_passOne M N v = some (v, M', N) ∧ (∀ z, z ≠ 0 → z ≠ 21 → M' z = M z) ∧ (∀ j, j ≠ 40 → M' 0 j = M 0 j) ∧ M' 0 40 = nI (o + 1) ∧ M' 21 o = v ∧ ∀ k, k ≠ o → M' 21 k = M 21 k := by
  have g40 : u1 M 21 (upd (M 21) o v) 0 40 = nI o := (congrFun (u1_ne (by omega)) 40).trans h40
  refine ⟨u2 (u1 M 21 (upd (M 21) o v)) 0 40 (nI (o + 1)), ?_, fun z a b => (u1_ne a).trans (u1_ne b), fun j hj => ?_, rfl, ?_, fun k hk => ?_⟩
  · rw [F_X8_passOne, h39, if_neg (show ¬ (1 : Int32) = 0 by decide), if_neg (show ¬ (1 : Int32) = 0 by decide), h40, if_pos (gin_nI (by omega) (by omega)), nI_clamp (by omega), g40, nI_1]
  · show u1 _ 0 (upd _ 40 _) 0 j = _
    rw [u1_at, pk_un hj, u1_ne (by omega)]
  · show u1 _ 0 (upd _ 40 _) 21 o = _
    rw [u1_ne (by omega), u1_at, pk_us]
  · show u1 _ 0 (upd _ 40 _) 21 k = _
    rw [u1_ne (by omega), u1_at, pk_un hk]
theorem pOneR {M : SI} {N : SJ} {o : Nat} (ho : o < 200) (h39 : M 0 39 = 0) (h40 : M 0 40 = nI o) (v : Int32) : ∃ M' : SI, F_X8_passOne M N v = some (M 21 o, M', N) ∧ (∀ z, z ≠ 0 → M' z = M z) ∧ (∀ j, j ≠ 40 → M' 0 j = M 0 j) ∧ M' 0 40 = nI (o + 1) := by
  refine ⟨u2 M 0 40 (nI (o + 1)), ?_, fun z a => u1_ne a, fun j hj => ?_, rfl⟩
  · rw [F_X8_passOne, h39, if_pos rfl, h40, if_pos (gin_nI (by omega) (by omega)), if_pos rfl, nI_clamp (by omega), nI_1]
  · show u1 _ 0 (upd _ 40 _) 0 j = _
    rw [u1_at, pk_un hj]
theorem u2z {M : SI} {j : Nat} {v : Int32} : (∀ z, z ≠ 0 → u2 M 0 j v z = M z) ∧ (∀ i, i ≠ j → u2 M 0 j v 0 i = M 0 i) ∧ u2 M 0 j v 0 j = v := by
  refine ⟨fun z hz => u1_ne hz, fun i hi => ?_, ?_⟩
  · show u1 _ 0 (upd _ j _) 0 i = _
    rw [u1_at, pk_un hi]
  · show u1 _ 0 (upd _ j _) 0 j = _
    rw [u1_at, pk_us]
section S14
variable {M : SI} {N : SJ} {a b : NN} {st wn te v : Nat}
theorem passS (hv : v ≤ 1) (h : MF M a st wn te) (hO : OkA a st wn te) (N : SJ) : ∃ M' : SI, F_X8_passesAll M N (nI v) (1 : Int32) = some (M', N) ∧ KF (M' 21) (100 * v) a st wn te ∧ (∀ z, z ≠ 0 → z ≠ 21 → M' z = M z) ∧ (∀ j, j ≠ 39 → j ≠ 40 → M' 0 j = M 0 j) ∧ ∀ k, (k < 100 * v ∨ 100 * v + 75 ≤ k) → M' 21 k = M 21 k := by
  obtain ⟨⟨h1, h2, h3, h4, h5⟩, h6, h7⟩ := h
  have hs := hO.1.1
  have hw := hO.2.1
  have ht := hO.2.2.1
  have e0 : (100 : Int32) * nI v = nI (100 * v) := pk_mul 100 v
  generalize ho : 100 * v = o at *
  have eg : (gbo 1 = true) = True := eq_true (by decide)
  obtain ⟨x1, x2, x3⟩ := u2z (M := u2 M 0 40 (nI o)) (j := 39) (v := (1 : Int32))
  obtain ⟨y1, y2, y3⟩ := u2z (M := M) (j := 40) (v := nI o)
  generalize hM0 : u2 (u2 M 0 40 (nI o)) 0 39 1 = M0 at x1 x2 x3
  have e_0 : ∀ z, z ≠ 0 → z ≠ 21 → M0 z = M z := fun z a _ => (x1 z a).trans (y1 z a)
  have f_0 : ∀ j, j ≠ 39 → j ≠ 40 → M0 0 j = M 0 j := fun j a b => (x2 j a).trans (y2 j b)
  have g_0 : M0 0 40 = nI (o + 0) := (x2 40 (by omega)).trans y3
  have p_0 : M0 0 39 = 1 := x3
  have k_0 : M0 21 = M 21 := (x1 21 (by omega)).trans (y1 21 (by omega))
  obtain ⟨M1, r1, s11, s12, s13, s14, s15⟩ := ps2 (N := N) (o := o + 0) (by omega) p_0 g_0
  have e_1 : ∀ z, z ≠ 0 → z ≠ 21 → M1 z = M z := fun z a b => (s11 z a b).trans (e_0 z a b)
  have f_1 : ∀ j, j ≠ 39 → j ≠ 40 → M1 0 j = M 0 j := fun j a b => (s12 j b).trans (f_0 j a b)
  have g_1 : M1 0 40 = nI (o + 8) := s13
  have p_1 : M1 0 39 = 1 := (s12 39 (by omega)).trans p_0
  obtain ⟨M2, r2, s21, s22, s23, s24, s25⟩ := ps4 (N := N) (o := o + 8) (by omega) p_1 g_1
  have e_2 : ∀ z, z ≠ 0 → z ≠ 21 → M2 z = M z := fun z a b => (s21 z a b).trans (e_1 z a b)
  have f_2 : ∀ j, j ≠ 39 → j ≠ 40 → M2 0 j = M 0 j := fun j a b => (s22 j b).trans (f_1 j a b)
  have g_2 : M2 0 40 = nI (o + 16) := s23
  have p_2 : M2 0 39 = 1 := (s22 39 (by omega)).trans p_1
  obtain ⟨M3, r3, s31, s32, s33, s34, s35⟩ := ps5 (N := N) (o := o + 16) (by omega) p_2 g_2
  have e_3 : ∀ z, z ≠ 0 → z ≠ 21 → M3 z = M z := fun z a b => (s31 z a b).trans (e_2 z a b)
  have f_3 : ∀ j, j ≠ 39 → j ≠ 40 → M3 0 j = M 0 j := fun j a b => (s32 j b).trans (f_2 j a b)
  have g_3 : M3 0 40 = nI (o + 24) := s33
  have p_3 : M3 0 39 = 1 := (s32 39 (by omega)).trans p_2
  obtain ⟨M4, r4, s41, s42, s43, s44, s45⟩ := ps6 (N := N) (o := o + 24) (by omega) p_3 g_3
  have e_4 : ∀ z, z ≠ 0 → z ≠ 21 → M4 z = M z := fun z a b => (s41 z a b).trans (e_3 z a b)
  have f_4 : ∀ j, j ≠ 39 → j ≠ 40 → M4 0 j = M 0 j := fun j a b => (s42 j b).trans (f_3 j a b)
  have g_4 : M4 0 40 = nI (o + 32) := s43
  have p_4 : M4 0 39 = 1 := (s42 39 (by omega)).trans p_3
  obtain ⟨M5, r5, s51, s52, s53, s54, s55⟩ := ps7 (N := N) (o := o + 32) (by omega) p_4 g_4
  have e_5 : ∀ z, z ≠ 0 → z ≠ 21 → M5 z = M z := fun z a b => (s51 z a b).trans (e_4 z a b)
  have f_5 : ∀ j, j ≠ 39 → j ≠ 40 → M5 0 j = M 0 j := fun j a b => (s52 j b).trans (f_4 j a b)
  have g_5 : M5 0 40 = nI (o + 40) := s53
  have p_5 : M5 0 39 = 1 := (s52 39 (by omega)).trans p_4
  obtain ⟨M6, r6, s61, s62, s63, s64, s65⟩ := ps13 (N := N) (o := o + 40) (by omega) p_5 g_5
  have e_6 : ∀ z, z ≠ 0 → z ≠ 21 → M6 z = M z := fun z a b => (s61 z a b).trans (e_5 z a b)
  have f_6 : ∀ j, j ≠ 39 → j ≠ 40 → M6 0 j = M 0 j := fun j a b => (s62 j b).trans (f_5 j a b)
  have g_6 : M6 0 40 = nI (o + 48) := s63
  have p_6 : M6 0 39 = 1 := (s62 39 (by omega)).trans p_5
  obtain ⟨M7, r7, s71, s72, s73, s74, s75⟩ := ps14 (N := N) (o := o + 48) (by omega) p_6 g_6
  have e_7 : ∀ z, z ≠ 0 → z ≠ 21 → M7 z = M z := fun z a b => (s71 z a b).trans (e_6 z a b)
  have f_7 : ∀ j, j ≠ 39 → j ≠ 40 → M7 0 j = M 0 j := fun j a b => (s72 j b).trans (f_6 j a b)
  have g_7 : M7 0 40 = nI (o + 56) := s73
  have p_7 : M7 0 39 = 1 := (s72 39 (by omega)).trans p_6
  obtain ⟨M8, r8, s81, s82, s83, s84, s85⟩ := ps15 (N := N) (o := o + 56) (by omega) p_7 g_7
  have e_8 : ∀ z, z ≠ 0 → z ≠ 21 → M8 z = M z := fun z a b => (s81 z a b).trans (e_7 z a b)
  have f_8 : ∀ j, j ≠ 39 → j ≠ 40 → M8 0 j = M 0 j := fun j a b => (s82 j b).trans (f_7 j a b)
  have g_8 : M8 0 40 = nI (o + 64) := s83
  have p_8 : M8 0 39 = 1 := (s82 39 (by omega)).trans p_7
  obtain ⟨M9, r9, s91, s92, s93, s94, s95⟩ := ps16 (N := N) (o := o + 64) (by omega) p_8 g_8
  have e_9 : ∀ z, z ≠ 0 → z ≠ 21 → M9 z = M z := fun z a b => (s91 z a b).trans (e_8 z a b)
  have f_9 : ∀ j, j ≠ 39 → j ≠ 40 → M9 0 j = M 0 j := fun j a b => (s92 j b).trans (f_8 j a b)
  have g_9 : M9 0 40 = nI (o + 72) := s93
  have p_9 : M9 0 39 = 1 := (s92 39 (by omega)).trans p_8
  obtain ⟨K1, q1, a11, a12, a13, a14, a15⟩ := pOneS (N := N) (o := o + 72) (by omega) p_9 g_9 (M9 0 7)
  obtain ⟨b11, b12, b13⟩ := u2z (M := K1) (j := 7) (v := M9 0 7)
  obtain ⟨K2, q2, a21, a22, a23, a24, a25⟩ := pOneS (M := u2 K1 0 7 (M9 0 7)) (N := N) (o := o + 73) (by omega) ((b12 39 (by omega)).trans ((a12 39 (by omega)).trans p_9)) ((b12 40 (by omega)).trans a13) (u2 K1 0 7 (M9 0 7) 0 8)
  obtain ⟨b21, b22, b23⟩ := u2z (M := K2) (j := 8) (v := u2 K1 0 7 (M9 0 7) 0 8)
  obtain ⟨K3, q3, a31, a32, a33, a34, a35⟩ := pOneS (M := u2 K2 0 8 (u2 K1 0 7 (M9 0 7) 0 8)) (N := N) (o := o + 74) (by omega) ((b22 39 (by omega)).trans ((a22 39 (by omega)).trans ((b12 39 (by omega)).trans ((a12 39 (by omega)).trans p_9)))) ((b22 40 (by omega)).trans a23) (u2 K2 0 8 (u2 K1 0 7 (M9 0 7) 0 8) 0 21)
  obtain ⟨b31, b32, b33⟩ := u2z (M := K3) (j := 21) (v := u2 K2 0 8 (u2 K1 0 7 (M9 0 7) 0 8) 0 21)
  have v7 : M9 0 7 = M 0 7 := f_9 7 (by omega) (by omega)
  have v8 : u2 K1 0 7 (M9 0 7) 0 8 = M 0 8 := (b12 8 (by omega)).trans ((a12 8 (by omega)).trans (f_9 8 (by omega) (by omega)))
  have v21 : u2 K2 0 8 (u2 K1 0 7 (M9 0 7) 0 8) 0 21 = M 0 21 := (b22 21 (by omega)).trans ((a22 21 (by omega)).trans ((b12 21 (by omega)).trans ((a12 21 (by omega)).trans (f_9 21 (by omega) (by omega)))))
  have w74 : u2 K3 0 21 (u2 K2 0 8 (u2 K1 0 7 (M9 0 7) 0 8) 0 21) 21 (o + 74) = M 0 21 := by rw [b31 21 (by omega), a34, v21]
  have w73 : u2 K3 0 21 (u2 K2 0 8 (u2 K1 0 7 (M9 0 7) 0 8) 0 21) 21 (o + 73) = M 0 8 := by rw [b31 21 (by omega), a35 (o + 73) (by omega), b21 21 (by omega), a24, v8]
  have w72 : u2 K3 0 21 (u2 K2 0 8 (u2 K1 0 7 (M9 0 7) 0 8) 0 21) 21 (o + 72) = M 0 7 := by rw [b31 21 (by omega), a35 (o + 72) (by omega), b21 21 (by omega), a25 (o + 72) (by omega), b11 21 (by omega), a14, v7]
  have t_9 : ∀ k, k ≠ o + 72 → k ≠ o + 73 → k ≠ o + 74 → u2 K3 0 21 (u2 K2 0 8 (u2 K1 0 7 (M9 0 7) 0 8) 0 21) 21 k = M9 21 k := fun k c1 c2 c3 => by rw [b31 21 (by omega), a35 k c3, b21 21 (by omega), a25 k c2, b11 21 (by omega), a15 k c1]
  have c2 : ∀ k, k < 8 → u2 K3 0 21 (u2 K2 0 8 (u2 K1 0 7 (M9 0 7) 0 8) 0 21) 21 (o + 0 + k) = M 2 k := fun k hk => by rw [t_9 _ (by omega) (by omega) (by omega), s95 (o + 0 + k) (by omega), s85 (o + 0 + k) (by omega), s75 (o + 0 + k) (by omega), s65 (o + 0 + k) (by omega), s55 (o + 0 + k) (by omega), s45 (o + 0 + k) (by omega), s35 (o + 0 + k) (by omega), s25 (o + 0 + k) (by omega), s14 k (by omega) hk, e_0 2 (by omega) (by omega)]
  have c4 : ∀ k, k < 8 → u2 K3 0 21 (u2 K2 0 8 (u2 K1 0 7 (M9 0 7) 0 8) 0 21) 21 (o + 8 + k) = M 4 k := fun k hk => by rw [t_9 _ (by omega) (by omega) (by omega), s95 (o + 8 + k) (by omega), s85 (o + 8 + k) (by omega), s75 (o + 8 + k) (by omega), s65 (o + 8 + k) (by omega), s55 (o + 8 + k) (by omega), s45 (o + 8 + k) (by omega), s35 (o + 8 + k) (by omega), s24 k (by omega) hk, e_1 4 (by omega) (by omega)]
  have c5 : ∀ k, k < 8 → u2 K3 0 21 (u2 K2 0 8 (u2 K1 0 7 (M9 0 7) 0 8) 0 21) 21 (o + 16 + k) = M 5 k := fun k hk => by rw [t_9 _ (by omega) (by omega) (by omega), s95 (o + 16 + k) (by omega), s85 (o + 16 + k) (by omega), s75 (o + 16 + k) (by omega), s65 (o + 16 + k) (by omega), s55 (o + 16 + k) (by omega), s45 (o + 16 + k) (by omega), s34 k (by omega) hk, e_2 5 (by omega) (by omega)]
  have c6 : ∀ k, k < 8 → u2 K3 0 21 (u2 K2 0 8 (u2 K1 0 7 (M9 0 7) 0 8) 0 21) 21 (o + 24 + k) = M 6 k := fun k hk => by rw [t_9 _ (by omega) (by omega) (by omega), s95 (o + 24 + k) (by omega), s85 (o + 24 + k) (by omega), s75 (o + 24 + k) (by omega), s65 (o + 24 + k) (by omega), s55 (o + 24 + k) (by omega), s44 k (by omega) hk, e_3 6 (by omega) (by omega)]
  have c7 : ∀ k, k < 8 → u2 K3 0 21 (u2 K2 0 8 (u2 K1 0 7 (M9 0 7) 0 8) 0 21) 21 (o + 32 + k) = M 7 k := fun k hk => by rw [t_9 _ (by omega) (by omega) (by omega), s95 (o + 32 + k) (by omega), s85 (o + 32 + k) (by omega), s75 (o + 32 + k) (by omega), s65 (o + 32 + k) (by omega), s54 k (by omega) hk, e_4 7 (by omega) (by omega)]
  have c13 : ∀ k, k < 8 → u2 K3 0 21 (u2 K2 0 8 (u2 K1 0 7 (M9 0 7) 0 8) 0 21) 21 (o + 40 + k) = M 13 k := fun k hk => by rw [t_9 _ (by omega) (by omega) (by omega), s95 (o + 40 + k) (by omega), s85 (o + 40 + k) (by omega), s75 (o + 40 + k) (by omega), s64 k (by omega) hk, e_5 13 (by omega) (by omega)]
  have c14 : ∀ k, k < 8 → u2 K3 0 21 (u2 K2 0 8 (u2 K1 0 7 (M9 0 7) 0 8) 0 21) 21 (o + 48 + k) = M 14 k := fun k hk => by rw [t_9 _ (by omega) (by omega) (by omega), s95 (o + 48 + k) (by omega), s85 (o + 48 + k) (by omega), s74 k (by omega) hk, e_6 14 (by omega) (by omega)]
  have c15 : ∀ k, k < 8 → u2 K3 0 21 (u2 K2 0 8 (u2 K1 0 7 (M9 0 7) 0 8) 0 21) 21 (o + 56 + k) = M 15 k := fun k hk => by rw [t_9 _ (by omega) (by omega) (by omega), s95 (o + 56 + k) (by omega), s84 k (by omega) hk, e_7 15 (by omega) (by omega)]
  have c16 : ∀ k, k < 8 → u2 K3 0 21 (u2 K2 0 8 (u2 K1 0 7 (M9 0 7) 0 8) 0 21) 21 (o + 64 + k) = M 16 k := fun k hk => by rw [t_9 _ (by omega) (by omega) (by omega), s94 k (by omega) hk, e_8 16 (by omega) (by omega)]
  have cO : ∀ k, (k < o ∨ o + 75 ≤ k) → u2 K3 0 21 (u2 K2 0 8 (u2 K1 0 7 (M9 0 7) 0 8) 0 21) 21 k = M 21 k := fun k hk => by rw [t_9 _ (by omega) (by omega) (by omega), s95 k (by omega), s85 k (by omega), s75 k (by omega), s65 k (by omega), s55 k (by omega), s45 k (by omega), s35 k (by omega), s25 k (by omega), s15 k (by omega), k_0]
  have fM : ∀ j, j ≠ 39 → j ≠ 40 → u2 K3 0 21 (u2 K2 0 8 (u2 K1 0 7 (M9 0 7) 0 8) 0 21) 0 j = M 0 j := fun j c1 c2 => by
    by_cases d1 : j = 21
    · subst d1; rw [b33, v21]
    · rw [b32 j d1, a32 j c2]
      by_cases d2 : j = 8
      · subst d2; rw [b23, v8]
      · rw [b22 j d2, a22 j c2]
        by_cases d3 : j = 7
        · subst d3; rw [b13, v7]
        · rw [b12 j d3, a12 j c2, f_9 j c1 c2]
  have eM : ∀ z, z ≠ 0 → z ≠ 21 → u2 K3 0 21 (u2 K2 0 8 (u2 K1 0 7 (M9 0 7) 0 8) 0 21) z = M z := fun z c1 c2 => by rw [b31 z c1, a31 z c1 c2, b21 z c1, a21 z c1 c2, b11 z c1, a11 z c1 c2, e_9 z c1 c2]
  refine ⟨u2 K3 0 21 (u2 K2 0 8 (u2 K1 0 7 (M9 0 7) 0 8) 0 21), ?_, ⟨fun k hk => ?_, fun k hk => ⟨?_, ?_⟩, fun k hk => ⟨?_, ?_⟩, fun i hi => ⟨?_, ?_, ?_, ?_⟩, ?_, ?_, ?_⟩, eM, fM, cO⟩
  · unfold F_X8_passesAll
    simp only [eg, ↓reduceIte, e0, hM0, r1, r2, r3, r4, r5, r6, r7, r8, r9, q1, q2, q3, Option.bind_some]
  · exact (c2 k hk).trans (h1 k hk)
  · exact (c4 k (by omega)).trans (h2 k hk).1
  · exact (c5 k (by omega)).trans (h2 k hk).2
  · exact (c6 k (by omega)).trans (h3 k hk).1
  · exact (c7 k (by omega)).trans (h3 k hk).2
  · exact (c13 i (by omega)).trans (h6 i hi).1
  · exact (c14 i (by omega)).trans (h6 i hi).2.1
  · exact (c15 i (by omega)).trans (h6 i hi).2.2.1
  · exact (c16 i (by omega)).trans (h6 i hi).2.2.2
  · exact w72.trans h4
  · exact w73.trans h5
  · exact w74.trans h7
theorem passR (hv : v ≤ 1) (h : KF (M 21) (100 * v) a st wn te) (hO : OkA a st wn te) (N : SJ) : ∃ M' : SI, F_X8_passesAll M N (nI v) (0 : Int32) = some (M', N) ∧ MF M' a st wn te ∧ (∀ z, (z = 1 ∨ z = 3 ∨ (8 ≤ z ∧ z ≤ 12) ∨ 17 ≤ z) → M' z = M z) ∧ ∀ j, j ≠ 7 → j ≠ 8 → j ≠ 21 → j ≠ 39 → j ≠ 40 → M' 0 j = M 0 j := by
  obtain ⟨h1, h2, h3, h6, h4, h5, h7⟩ := h
  have hs := hO.1.1
  have hw := hO.2.1
  have ht := hO.2.2.1
  have e0 : (100 : Int32) * nI v = nI (100 * v) := pk_mul 100 v
  generalize ho : 100 * v = o at *
  have eg : (gbo 0 = true) = True := eq_true (by decide)
  obtain ⟨x1, x2, x3⟩ := u2z (M := u2 M 0 40 (nI o)) (j := 39) (v := (0 : Int32))
  obtain ⟨y1, y2, y3⟩ := u2z (M := M) (j := 40) (v := nI o)
  generalize hM0 : u2 (u2 M 0 40 (nI o)) 0 39 0 = M0 at x1 x2 x3
  have e_0 : ∀ z, z ≠ 0 → M0 z = M z := fun z a => (x1 z a).trans (y1 z a)
  have f_0 : ∀ j, j ≠ 39 → j ≠ 40 → M0 0 j = M 0 j := fun j a b => (x2 j a).trans (y2 j b)
  have g_0 : M0 0 40 = nI (o + 0) := (x2 40 (by omega)).trans y3
  have p_0 : M0 0 39 = 0 := x3
  have k_0 : M0 21 = M 21 := e_0 21 (by omega)
  obtain ⟨M1, r1, s11, s12, s13, s14, s15⟩ := pr2 (N := N) (o := o + 0) (by omega) p_0 g_0
  have f_1 : ∀ j, j ≠ 39 → j ≠ 40 → M1 0 j = M 0 j := fun j a b => (s12 j b).trans (f_0 j a b)
  have g_1 : M1 0 40 = nI (o + 8) := s13
  have p_1 : M1 0 39 = 0 := (s12 39 (by omega)).trans p_0
  have k_1 : M1 21 = M 21 := (s11 21 (by omega) (by omega)).trans k_0
  obtain ⟨M2, r2, s21, s22, s23, s24, s25⟩ := pr4 (N := N) (o := o + 8) (by omega) p_1 g_1
  have f_2 : ∀ j, j ≠ 39 → j ≠ 40 → M2 0 j = M 0 j := fun j a b => (s22 j b).trans (f_1 j a b)
  have g_2 : M2 0 40 = nI (o + 16) := s23
  have p_2 : M2 0 39 = 0 := (s22 39 (by omega)).trans p_1
  have k_2 : M2 21 = M 21 := (s21 21 (by omega) (by omega)).trans k_1
  obtain ⟨M3, r3, s31, s32, s33, s34, s35⟩ := pr5 (N := N) (o := o + 16) (by omega) p_2 g_2
  have f_3 : ∀ j, j ≠ 39 → j ≠ 40 → M3 0 j = M 0 j := fun j a b => (s32 j b).trans (f_2 j a b)
  have g_3 : M3 0 40 = nI (o + 24) := s33
  have p_3 : M3 0 39 = 0 := (s32 39 (by omega)).trans p_2
  have k_3 : M3 21 = M 21 := (s31 21 (by omega) (by omega)).trans k_2
  obtain ⟨M4, r4, s41, s42, s43, s44, s45⟩ := pr6 (N := N) (o := o + 24) (by omega) p_3 g_3
  have f_4 : ∀ j, j ≠ 39 → j ≠ 40 → M4 0 j = M 0 j := fun j a b => (s42 j b).trans (f_3 j a b)
  have g_4 : M4 0 40 = nI (o + 32) := s43
  have p_4 : M4 0 39 = 0 := (s42 39 (by omega)).trans p_3
  have k_4 : M4 21 = M 21 := (s41 21 (by omega) (by omega)).trans k_3
  obtain ⟨M5, r5, s51, s52, s53, s54, s55⟩ := pr7 (N := N) (o := o + 32) (by omega) p_4 g_4
  have f_5 : ∀ j, j ≠ 39 → j ≠ 40 → M5 0 j = M 0 j := fun j a b => (s52 j b).trans (f_4 j a b)
  have g_5 : M5 0 40 = nI (o + 40) := s53
  have p_5 : M5 0 39 = 0 := (s52 39 (by omega)).trans p_4
  have k_5 : M5 21 = M 21 := (s51 21 (by omega) (by omega)).trans k_4
  obtain ⟨M6, r6, s61, s62, s63, s64, s65⟩ := pr13 (N := N) (o := o + 40) (by omega) p_5 g_5
  have f_6 : ∀ j, j ≠ 39 → j ≠ 40 → M6 0 j = M 0 j := fun j a b => (s62 j b).trans (f_5 j a b)
  have g_6 : M6 0 40 = nI (o + 48) := s63
  have p_6 : M6 0 39 = 0 := (s62 39 (by omega)).trans p_5
  have k_6 : M6 21 = M 21 := (s61 21 (by omega) (by omega)).trans k_5
  obtain ⟨M7, r7, s71, s72, s73, s74, s75⟩ := pr14 (N := N) (o := o + 48) (by omega) p_6 g_6
  have f_7 : ∀ j, j ≠ 39 → j ≠ 40 → M7 0 j = M 0 j := fun j a b => (s72 j b).trans (f_6 j a b)
  have g_7 : M7 0 40 = nI (o + 56) := s73
  have p_7 : M7 0 39 = 0 := (s72 39 (by omega)).trans p_6
  have k_7 : M7 21 = M 21 := (s71 21 (by omega) (by omega)).trans k_6
  obtain ⟨M8, r8, s81, s82, s83, s84, s85⟩ := pr15 (N := N) (o := o + 56) (by omega) p_7 g_7
  have f_8 : ∀ j, j ≠ 39 → j ≠ 40 → M8 0 j = M 0 j := fun j a b => (s82 j b).trans (f_7 j a b)
  have g_8 : M8 0 40 = nI (o + 64) := s83
  have p_8 : M8 0 39 = 0 := (s82 39 (by omega)).trans p_7
  have k_8 : M8 21 = M 21 := (s81 21 (by omega) (by omega)).trans k_7
  obtain ⟨M9, r9, s91, s92, s93, s94, s95⟩ := pr16 (N := N) (o := o + 64) (by omega) p_8 g_8
  have f_9 : ∀ j, j ≠ 39 → j ≠ 40 → M9 0 j = M 0 j := fun j a b => (s92 j b).trans (f_8 j a b)
  have g_9 : M9 0 40 = nI (o + 72) := s93
  have p_9 : M9 0 39 = 0 := (s92 39 (by omega)).trans p_8
  have k_9 : M9 21 = M 21 := (s91 21 (by omega) (by omega)).trans k_8
  obtain ⟨K1, q1, a11, a12, a13⟩ := pOneR (N := N) (o := o + 72) (by omega) p_9 g_9 (M9 0 7)
  obtain ⟨b11, b12, b13⟩ := u2z (M := K1) (j := 7) (v := M9 21 (o + 72))
  generalize hA : u2 K1 0 7 (M9 21 (o + 72)) = A at b11 b12 b13
  obtain ⟨K2, q2, a21, a22, a23⟩ := pOneR (M := A) (N := N) (o := o + 73) (by omega) ((b12 39 (by omega)).trans ((a12 39 (by omega)).trans p_9)) ((b12 40 (by omega)).trans a13) (A 0 8)
  obtain ⟨b21, b22, b23⟩ := u2z (M := K2) (j := 8) (v := A 21 (o + 73))
  generalize hB : u2 K2 0 8 (A 21 (o + 73)) = B at b21 b22 b23
  obtain ⟨K3, q3, a31, a32, a33⟩ := pOneR (M := B) (N := N) (o := o + 74) (by omega) ((b22 39 (by omega)).trans ((a22 39 (by omega)).trans ((b12 39 (by omega)).trans ((a12 39 (by omega)).trans p_9)))) ((b22 40 (by omega)).trans a23) (B 0 21)
  obtain ⟨b31, b32, b33⟩ := u2z (M := K3) (j := 21) (v := B 21 (o + 74))
  generalize hC : u2 K3 0 21 (B 21 (o + 74)) = C at b31 b32 b33
  have kA : A 21 = M 21 := (b11 21 (by omega)).trans ((a11 21 (by omega)).trans k_9)
  have kB : B 21 = M 21 := (b21 21 (by omega)).trans ((a21 21 (by omega)).trans kA)
  have w9 : ∀ z, z ≠ 0 → C z = M9 z := fun z c => (b31 z c).trans ((a31 z c).trans ((b21 z c).trans ((a21 z c).trans ((b11 z c).trans (a11 z c)))))
  have c2 : ∀ k, k < 8 → C 2 k = M 21 (o + 0 + k) := fun k hk => by rw [w9 2 (by omega), s91 2 (by omega) (by omega), s81 2 (by omega) (by omega), s71 2 (by omega) (by omega), s61 2 (by omega) (by omega), s51 2 (by omega) (by omega), s41 2 (by omega) (by omega), s31 2 (by omega) (by omega), s21 2 (by omega) (by omega), s14 k (by omega) hk, k_0]
  have c4 : ∀ k, k < 8 → C 4 k = M 21 (o + 8 + k) := fun k hk => by rw [w9 4 (by omega), s91 4 (by omega) (by omega), s81 4 (by omega) (by omega), s71 4 (by omega) (by omega), s61 4 (by omega) (by omega), s51 4 (by omega) (by omega), s41 4 (by omega) (by omega), s31 4 (by omega) (by omega), s24 k (by omega) hk, k_1]
  have c5 : ∀ k, k < 8 → C 5 k = M 21 (o + 16 + k) := fun k hk => by rw [w9 5 (by omega), s91 5 (by omega) (by omega), s81 5 (by omega) (by omega), s71 5 (by omega) (by omega), s61 5 (by omega) (by omega), s51 5 (by omega) (by omega), s41 5 (by omega) (by omega), s34 k (by omega) hk, k_2]
  have c6 : ∀ k, k < 8 → C 6 k = M 21 (o + 24 + k) := fun k hk => by rw [w9 6 (by omega), s91 6 (by omega) (by omega), s81 6 (by omega) (by omega), s71 6 (by omega) (by omega), s61 6 (by omega) (by omega), s51 6 (by omega) (by omega), s44 k (by omega) hk, k_3]
  have c7 : ∀ k, k < 8 → C 7 k = M 21 (o + 32 + k) := fun k hk => by rw [w9 7 (by omega), s91 7 (by omega) (by omega), s81 7 (by omega) (by omega), s71 7 (by omega) (by omega), s61 7 (by omega) (by omega), s54 k (by omega) hk, k_4]
  have c13 : ∀ k, k < 8 → C 13 k = M 21 (o + 40 + k) := fun k hk => by rw [w9 13 (by omega), s91 13 (by omega) (by omega), s81 13 (by omega) (by omega), s71 13 (by omega) (by omega), s64 k (by omega) hk, k_5]
  have c14 : ∀ k, k < 8 → C 14 k = M 21 (o + 48 + k) := fun k hk => by rw [w9 14 (by omega), s91 14 (by omega) (by omega), s81 14 (by omega) (by omega), s74 k (by omega) hk, k_6]
  have c15 : ∀ k, k < 8 → C 15 k = M 21 (o + 56 + k) := fun k hk => by rw [w9 15 (by omega), s91 15 (by omega) (by omega), s84 k (by omega) hk, k_7]
  have c16 : ∀ k, k < 8 → C 16 k = M 21 (o + 64 + k) := fun k hk => by rw [w9 16 (by omega), s94 k (by omega) hk, k_8]
  refine ⟨C, ?_, ⟨⟨fun k hk => ?_, fun k hk => ⟨?_, ?_⟩, fun k hk => ⟨?_, ?_⟩, ?_, ?_⟩, fun i hi => ⟨?_, ?_, ?_, ?_⟩, ?_⟩, fun z hz => ?_, fun j d1 d2 d3 d4 d5 => ?_⟩
  · unfold F_X8_passesAll
    simp only [eg, ↓reduceIte, e0, hM0, r1, r2, r3, r4, r5, r6, r7, r8, r9, q1, hA, q2, hB, q3, hC, Option.bind_some]
  · exact (c2 k hk).trans (h1 k hk)
  · exact (c4 k (by omega)).trans (h2 k hk).1
  · exact (c5 k (by omega)).trans (h2 k hk).2
  · exact (c6 k (by omega)).trans (h3 k hk).1
  · exact (c7 k (by omega)).trans (h3 k hk).2
  · rw [b32 7 (by omega), a32 7 (by omega), b22 7 (by omega), a22 7 (by omega), b13, k_9]; exact h4
  · rw [b32 8 (by omega), a32 8 (by omega), b23, kA]; exact h5
  · exact (c13 i (by omega)).trans (h6 i hi).1
  · exact (c14 i (by omega)).trans (h6 i hi).2.1
  · exact (c15 i (by omega)).trans (h6 i hi).2.2.1
  · exact (c16 i (by omega)).trans (h6 i hi).2.2.2
  · rw [b33, kB]; exact h7
  · rw [w9 z (by omega), s91 z (by omega) (by omega), s81 z (by omega) (by omega), s71 z (by omega) (by omega), s61 z (by omega) (by omega), s51 z (by omega) (by omega), s41 z (by omega) (by omega), s31 z (by omega) (by omega), s21 z (by omega) (by omega), s11 z (by omega) (by omega), e_0 z (by omega)]
  · rw [b32 j d3, a32 j d5, b22 j d2, a22 j d5, b12 j d1, a12 j d5, f_9 j d4 d5]
end S14
