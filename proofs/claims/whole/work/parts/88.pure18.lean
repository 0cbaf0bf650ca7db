section S18
variable {I M : SI} {J N : SJ} {tl p : Nat} {tx : Nat → Nat}
theorem digM {c : Nat} (hc : c < 256) : F_X8_isIn (nI c) 48 57 = some (if 48 ≤ c ∧ c ≤ 57 then 1 else 0) := by
  obtain ⟨d1, d2⟩ := digC hc
  by_cases c1 : c < 48
  · rw [isLo (d1.mpr c1), if_neg (fun z => absurd z.1 (by omega))]
  · by_cases c2 : 57 < c
    · rw [isHi (d2.mpr c2), if_neg (fun z => absurd z.2 (by omega))]
    · rw [isOk (fun z => c1 (d1.mp z)) (fun z => c2 (d2.mp z)), if_pos (show 48 ≤ c ∧ c ≤ 57 from ⟨by omega, by omega⟩)]
theorem numM_l (h : MTx M tl tx) : ∀ (d n c v p : Nat), c + d = 3 → d < n → p + d ≤ 64 + 3 → p ≤ 64 → v < 10000 → FL_X8_number_36 n (u2 M 0 15 (nI p)) N (nI v) (nI c) = some (nI (nmL tx tl d v p).1, u2 M 0 15 (nI (nmL tx tl d v p).2), N) ∨ 10 ^ c ≤ v := by
  intro d
  induction d with
  | zero =>
    intro n c v p hc hn hp hp2 hv
    obtain ⟨n, rfl⟩ := suc hn
    refine Or.inl ?_
    rw [FL_X8_number_36, if_pos (show (3 : Int32) ≤ nI c from nI_le (a := 3) (by omega) (by omega))]
    rfl
  | succ d ih =>
    intro n c v p hc hn hp hp2 hv
    obtain ⟨n, rfl⟩ := suc hn
    by_cases hb : 10 ^ c ≤ v
    · exact Or.inr hb
    refine Or.inl ?_
    rw [FL_X8_number_36, if_neg (show ¬ (3 : Int32) ≤ nI c from nI_ge (b := 3) (by omega) (by omega))]
    unfold nmL
    by_cases c0 : v = 0
    · rw [if_pos (show nI v ≤ 0 by rw [c0]; decide), if_pos c0]
    rw [if_neg (nI_nle (Nat.pos_of_ne_zero c0) (by omega)), if_neg c0]
    simp only [hereM (N := N) h hp2, Option.bind_some]
    by_cases c1 : p < tl
    · obtain ⟨g1, g2⟩ := h.2.2 p c1
      rw [if_pos c1, digM g2, Option.bind_some]
      by_cases c2 : 48 ≤ tx p ∧ tx p ≤ 57
      · rw [if_pos c2, if_neg (show ¬ (1 : Int32) = 0 by decide), if_pos (show p < tl ∧ 48 ≤ tx p ∧ tx p ≤ 57 from ⟨c1, c2⟩), digV c2.1, (u2z (M := M) (j := 15) (v := nI p)).2.2, nI_1, nI_1, u2u2]
        have hp10 : 10 ^ (c + 1) = 10 * 10 ^ c := by rw [Nat.pow_succ, Nat.mul_comm]
        have hc3 : 10 ^ c ≤ 1000 := Nat.pow_le_pow_right (by omega) (show c ≤ 3 by omega)
        rcases ih n (c + 1) (10 * v + (tx p - 48)) (p + 1) (by omega) (by omega) (by omega) (by have := h.1; omega) (by omega) with e | e
        · exact e
        · exact absurd e (by omega)
      · rw [if_neg c2, if_pos (show (0 : Int32) = 0 from rfl), if_neg (fun z => c2 z.2)]
    · rw [if_neg c1, isLo (show (-1 : Int32) < 48 by decide), Option.bind_some, if_pos (show (0 : Int32) = 0 from rfl), if_neg (fun z => c1 z.1)]
theorem numM (h : MTx M tl tx) (hp : p ≤ 64) : F_X8_number (u2 M 0 15 (nI p)) N = some ((nm tx tl p).1, u2 M 0 15 (nI (nm tx tl p).2), N) := by
  unfold F_X8_number nm
  rw [hereM h hp, Option.bind_some]
  by_cases c1 : p < tl
  · obtain ⟨g1, g2⟩ := h.2.2 p c1
    rw [if_pos c1, digM g2, Option.bind_some]
    by_cases c2 : 48 ≤ tx p ∧ tx p ≤ 57
    · have ev : nI (tx p) - (48 : Int32) = nI (tx p - 48) := pk_sub (b := 48) c2.1
      rw [if_pos c2, if_neg (show ¬ (1 : Int32) = 0 by decide), if_pos (show p < tl ∧ 48 ≤ tx p ∧ tx p ≤ 57 from ⟨c1, c2⟩), Option.bind_some, ev, (u2z (M := M) (j := 15) (v := nI p)).2.2, nI_1, u2u2]
      rcases numM_l (N := N) h 2 3000 1 (tx p - 48) (p + 1) (by omega) (by omega) (by have := h.1; omega) (by have := h.1; omega) (by omega) with e | e
      · exact e
      · exact absurd e (by omega)
    · rw [if_neg c2, if_pos (show (0 : Int32) = 0 from rfl), if_neg (fun z => c2 z.2)]
  · rw [if_neg c1, isLo (show (-1 : Int32) < 48 by decide), Option.bind_some, if_pos (show (0 : Int32) = 0 from rfl), if_neg (fun z => c1 z.1)]
theorem numX (h : XTx I tl tx) (hp : p ≤ 64) : F_X6_number (u2 I 45 2 (nI p)) J = some ((nm tx tl p).1, u2 I 45 2 (nI (nm tx tl p).2), J) := by
  unfold F_X6_number nm
  rw [show FL_X6_number_4 3000 (u2 I 45 2 (nI p)) J (-1) 0 = FL_X6_number_4 (2999 + 1) (u2 I 45 2 (nI p)) J (-1) 0 from rfl, FL_X6_number_4, if_neg (show ¬ (3 : Int32) ≤ 0 by decide), if_neg (show ¬ (-1 : Int32) = 0 by decide)]
  simp only [hereX (J := J) h hp, Option.bind_some]
  by_cases c1 : p < tl
  · obtain ⟨g1, g2⟩ := h.2.2 p c1
    obtain ⟨d1, d2⟩ := digC g2
    rw [if_pos c1]
    by_cases c2 : tx p < 48
    · rw [if_pos (d1.mpr c2), if_neg (fun z => absurd z.2.1 (by omega))]
    rw [if_neg (fun z => c2 (d1.mp z))]
    by_cases c3 : 57 < tx p
    · rw [if_pos (d2.mpr c3), if_neg (fun z => absurd z.2.2 (by omega))]
    have ev : (10 : Int32) * (if (-1 : Int32) < 0 then (0 : Int32) else -1) + nI (tx p) - (48 : Int32) = nI (tx p - 48) := by
      rw [if_pos (by decide)]
      exact (digV (v := 0) (by omega)).trans (by rw [show 10 * 0 + (tx p - 48) = tx p - 48 by omega])
    rw [if_neg (fun z => c3 (d2.mp z)), if_pos (show p < tl ∧ 48 ≤ tx p ∧ tx p ≤ 57 from ⟨c1, by omega, by omega⟩), ev, (at45 (I := I) (nI p)).2.1, nI_1, u2u2]
    rcases numX_l (J := J) h 2 2999 1 (tx p - 48) (p + 1) (by omega) (by omega) (by have := h.1; omega) (by have := h.1; omega) (by omega) with e | e
    · exact e
    · exact absurd e (by omega)
  · rw [if_neg c1, if_pos (show (-1 : Int32) < 48 by decide), if_neg (fun z => c1 z.1)]
end S18
