/-- reading a NUMBER: its value and where it ends -/
def nmL (tx : Nat → Nat) (tl : Nat) : Nat → Nat → Nat → Nat × Nat
  | 0, v, p => (v, p)
  | d + 1, v, p => if v = 0 then (v, p) else if p < tl ∧ 48 ≤ tx p ∧ tx p ≤ 57 then nmL tx tl d (10 * v + (tx p - 48)) (p + 1) else (v, p)
def nm (tx : Nat → Nat) (tl p : Nat) : Int32 × Nat := if p < tl ∧ 48 ≤ tx p ∧ tx p ≤ 57 then (nI (nmL tx tl 2 (tx p - 48) (p + 1)).1, (nmL tx tl 2 (tx p - 48) (p + 1)).2) else (-1, p)
theorem u2u2 {M : SI} {k j : Nat} {v w : Int32} : u2 (u2 M k j v) k j w = u2 M k j w := by
  show u1 (u1 M k (upd (M k) j v)) k (upd (u1 M k (upd (M k) j v) k) j w) = u1 M k (upd (M k) j w)
  rw [u1_u1, u1_at]
  congr 1
  funext i
  unfold upd
  by_cases c : i = j
  · rw [if_pos c, if_pos c]
  · rw [if_neg c, if_neg c, if_neg c]
section S17
variable {I M : SI} {J N : SJ} {tl p : Nat} {tx : Nat → Nat}
def XTx (I : SI) (tl : Nat) (tx : Nat → Nat) : Prop := tl ≤ 64 ∧ I 45 1 = nI tl ∧ ∀ k, k < tl → I 46 k = nI (tx k) ∧ tx k < 256
def MTx (M : SI) (tl : Nat) (tx : Nat → Nat) : Prop := tl ≤ 64 ∧ M 0 14 = nI tl ∧ ∀ k, k < tl → M 8 k = nI (tx k) ∧ tx k < 256
theorem at45 (v : Int32) : u2 I 45 2 v 45 1 = I 45 1 ∧ u2 I 45 2 v 45 2 = v ∧ u2 I 45 2 v 46 = I 46 := by
  refine ⟨?_, ?_, u1_ne (by omega)⟩
  · show u1 _ 45 (upd _ 2 _) 45 1 = _
    rw [u1_at, pk_un (by omega)]
  · show u1 _ 45 (upd _ 2 _) 45 2 = _
    rw [u1_at, pk_us]
theorem hereX (h : XTx I tl tx) (hp : p ≤ 64) : F_X6_here (u2 I 45 2 (nI p)) J = some (if p < tl then nI (tx p) else -1) := by
  obtain ⟨e1, e2, e3⟩ := at45 (I := I) (nI p)
  obtain ⟨h1, h2, h3⟩ := h
  unfold F_X6_here
  rw [e1, e2, e3, h2]
  by_cases c : p < tl
  · rw [if_pos c, if_neg (nI_ge c (by omega)), pAt (by omega) (by omega), Option.bind_some, (h3 p c).1]
  · rw [if_neg c, if_pos (nI_le (by omega) (by omega))]
theorem hereM (h : MTx M tl tx) (hp : p ≤ 64) : F_X8_nextByte (u2 M 0 15 (nI p)) N = some (if p < tl then nI (tx p) else -1) := by
  obtain ⟨z1, z2, z3⟩ := u2z (M := M) (j := 15) (v := nI p)
  obtain ⟨h1, h2, h3⟩ := h
  unfold F_X8_nextByte
  rw [z3, z2 14 (by omega), z1 8 (by omega), h2]
  by_cases c : p < tl
  · rw [if_pos c, if_neg (nI_ge c (by omega)), if_pos (gin_nI (by omega) (by omega)), nI_clamp (by omega), (h3 p c).1]
  · rw [if_neg c, if_pos (nI_le (by omega) (by omega))]
theorem digC {c : Nat} (hc : c < 256) : (nI c < (48 : Int32) ↔ c < 48) ∧ ((57 : Int32) < nI c ↔ 57 < c) := ⟨nI_ltI (b := 48) (by omega) (by omega), nI_ltI (a := 57) (by omega) (by omega)⟩
theorem digV {v c : Nat} (hc : 48 ≤ c) : (10 : Int32) * nI v + nI c - (48 : Int32) = nI (10 * v + (c - 48)) := by
  show nI 10 * nI v + nI c - nI 48 = _
  rw [pk_mul, nI_add, pk_sub (by omega), show 10 * v + c - 48 = 10 * v + (c - 48) by omega]
theorem numX_l (h : XTx I tl tx) : ∀ (d n c v p : Nat), c + d = 3 → d < n → p + d ≤ 64 + 3 → p ≤ 64 → v < 10000 → FL_X6_number_4 n (u2 I 45 2 (nI p)) J (nI v) (nI c) = some (nI (nmL tx tl d v p).1, u2 I 45 2 (nI (nmL tx tl d v p).2), J) ∨ 10 ^ c ≤ v := by
  intro d
  induction d with
  | zero =>
    intro n c v p hc hn hp hp2 hv
    obtain ⟨n, rfl⟩ := suc hn
    refine Or.inl ?_
    rw [FL_X6_number_4, if_pos (show (3 : Int32) ≤ nI c from nI_le (a := 3) (by omega) (by omega))]
    rfl
  | succ d ih =>
    intro n c v p hc hn hp hp2 hv
    obtain ⟨n, rfl⟩ := suc hn
    by_cases hb : 10 ^ c ≤ v
    · exact Or.inr hb
    refine Or.inl ?_
    have q0 : (nI v = 0) ↔ v = 0 := nI_eL (n := 0) rfl (by omega) (by omega)
    rw [FL_X6_number_4, if_neg (show ¬ (3 : Int32) ≤ nI c from nI_ge (b := 3) (by omega) (by omega))]
    unfold nmL
    by_cases c0 : v = 0
    · rw [if_pos (q0.mpr c0), if_pos c0]
    rw [if_neg (fun z => c0 (q0.mp z)), if_neg c0]
    simp only [hereX (J := J) h hp2, Option.bind_some]
    by_cases c1 : p < tl
    · obtain ⟨g1, g2⟩ := h.2.2 p c1
      obtain ⟨d1, d2⟩ := digC g2
      rw [if_pos c1]
      by_cases c2 : tx p < 48
      · rw [if_pos (d1.mpr c2), if_neg (fun z => absurd z.2.1 (by omega))]
      rw [if_neg (fun z => c2 (d1.mp z))]
      by_cases c3 : 57 < tx p
      · rw [if_pos (d2.mpr c3), if_neg (fun z => absurd z.2.2 (by omega))]
      rw [if_neg (fun z => c3 (d2.mp z)), if_pos (show p < tl ∧ 48 ≤ tx p ∧ tx p ≤ 57 from ⟨c1, by omega, by omega⟩), if_neg (show ¬ nI v < 0 from nI_pos (by omega)), digV (by omega), (at45 (I := I) (nI p)).2.1, nI_1, nI_1, u2u2]
      have hp10 : 10 ^ (c + 1) = 10 * 10 ^ c := by rw [Nat.pow_succ, Nat.mul_comm]
      have hc3 : 10 ^ c ≤ 1000 := Nat.pow_le_pow_right (by omega) (show c ≤ 3 by omega)
      rcases ih n (c + 1) (10 * v + (tx p - 48)) (p + 1) (by omega) (by omega) (by omega) (by have := h.1; omega) (by omega) with e | e
      · exact e
      · exact absurd e (by omega)
    · rw [if_neg c1, if_pos (show (-1 : Int32) < 48 by decide), if_neg (fun z => c1 z.1)]
end S17
