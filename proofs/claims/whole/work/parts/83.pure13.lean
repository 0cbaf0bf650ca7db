/-- the reference's 'passes': a row goes out to place 21, or comes back -/
def PS (M M' : SI) (X o i : Nat) : Prop := (∀ z, z ≠ 0 → z ≠ 21 → M' z = M z) ∧ (∀ j, j ≠ 40 → M' 0 j = M 0 j) ∧ M' 0 40 = nI (o + 8) ∧ (∀ k, i ≤ k → k < 8 → M' 21 (o + k) = M X k) ∧ ∀ k, (k < o + i ∨ o + 8 ≤ k) → M' 21 k = M 21 k
def PR (M M' : SI) (X o i : Nat) : Prop := (∀ z, z ≠ 0 → z ≠ X → M' z = M z) ∧ (∀ j, j ≠ 40 → M' 0 j = M 0 j) ∧ M' 0 40 = nI (o + 8) ∧ (∀ k, i ≤ k → k < 8 → M' X k = M 21 (o + k)) ∧ ∀ k, k < i → M' X k = M X k
section S13
variable {M : SI} {N : SJ} {o : Nat}
theorem psE {M : SI} {X o i : Nat} {v : Int32} (e : v = M X i) (hX : X ≠ 0) (hX1 : X ≠ 21) {M' : SI} (h : PS (u2 (u1 M 21 (upd (M 21) (o + i) v)) 0 40 (nI (o + (i + 1)))) M' X o (i + 1)) (hi : i < 8) : PS M M' X o i := by
  obtain ⟨h1, h2, h3, h4, h5⟩ := h
  have z1 : ∀ z, z ≠ 0 → z ≠ 21 → u2 (u1 M 21 (upd (M 21) (o + i) v)) 0 40 (nI (o + (i + 1))) z = M z := fun z a b => (u1_ne a).trans (u1_ne b)
  have z2 : ∀ j, j ≠ 40 → u2 (u1 M 21 (upd (M 21) (o + i) v)) 0 40 (nI (o + (i + 1))) 0 j = M 0 j := fun j hj => by
    show u1 _ 0 (upd _ 40 _) 0 j = _
    rw [u1_at, pk_un hj, u1_ne (by omega)]
  have z3 : ∀ k, u2 (u1 M 21 (upd (M 21) (o + i) v)) 0 40 (nI (o + (i + 1))) 21 k = upd (M 21) (o + i) v k := fun k => by
    show u1 _ 0 (upd _ 40 _) 21 k = _
    rw [u1_ne (by omega), u1_at]
  refine ⟨fun z a b => (h1 z a b).trans (z1 z a b), fun j hj => (h2 j hj).trans (z2 j hj), h3, fun k ha hb => ?_, fun k hk => ?_⟩
  · by_cases c : k = i
    · subst c
      rw [h5 (o + k) (by omega), z3, pk_us, e]
    · rw [h4 k (by omega) hb, z1 X hX hX1]
  · rw [h5 k (by omega), z3, pk_un (by omega)]
theorem prE {M : SI} {X o i : Nat} {v : Int32} (e : v = M 21 (o + i)) (hX : X ≠ 0) (hX1 : X ≠ 21) {M' : SI} (h : PR (u2 (u1 M X (upd (M X) i v)) 0 40 (nI (o + (i + 1)))) M' X o (i + 1)) (hi : i < 8) : PR M M' X o i := by
  obtain ⟨h1, h2, h3, h4, h5⟩ := h
  have z1 : ∀ z, z ≠ 0 → z ≠ X → u2 (u1 M X (upd (M X) i v)) 0 40 (nI (o + (i + 1))) z = M z := fun z a b => (u1_ne a).trans (u1_ne b)
  have z2 : ∀ j, j ≠ 40 → u2 (u1 M X (upd (M X) i v)) 0 40 (nI (o + (i + 1))) 0 j = M 0 j := fun j hj => by
    show u1 _ 0 (upd _ 40 _) 0 j = _
    rw [u1_at, pk_un hj, u1_ne (fun q => hX q.symm)]
  have z3 : ∀ k, u2 (u1 M X (upd (M X) i v)) 0 40 (nI (o + (i + 1))) X k = upd (M X) i v k := fun k => by
    show u1 _ 0 (upd _ 40 _) X k = _
    rw [u1_ne hX, u1_at]
  refine ⟨fun z a b => (h1 z a b).trans (z1 z a b), fun j hj => (h2 j hj).trans (z2 j hj), h3, fun k ha hb => ?_, fun k hk => ?_⟩
  · by_cases c : k = i
    · subst c
      rw [h5 k (by omega), z3, pk_us, e]
    · rw [h4 k (by omega) hb, z1 21 (by omega) (fun q => hX1 q.symm)]
  · rw [h5 k (by omega), z3, pk_un (by omega)]
theorem ps2_l : ∀ (j n i : Nat) (M : SI), i + j = 8 → j < n → o + 8 ≤ 200 → M 0 39 = 1 → M 0 40 = nI (o + i) → ∃ M' : SI, FL_X8_passes_m2_2 n M N (nI i) = some (M', N) ∧ PS M M' 2 o i := by
  intro j
  induction j with
  | zero =>
    intro n i M hi hn ho h39 h40
    obtain ⟨n, rfl⟩ := suc hn
    refine ⟨M, ?_, fun _ _ _ => rfl, fun _ _ => rfl, by rw [h40, show i = 8 by omega], fun k a b => absurd a (by omega), fun _ _ => rfl⟩
    rw [FL_X8_passes_m2_2, if_pos (show (8 : Int32) ≤ nI i from nI_le (a := 8) (by omega) (by omega))]
  | succ j ih =>
    intro n i M hi hn ho h39 h40
    obtain ⟨n, rfl⟩ := suc hn
    have g40 : u1 M 21 (upd (M 21) (o + i) (M 2 i)) 0 40 = nI (o + i) := (congrFun (u1_ne (by omega)) 40).trans h40
    obtain ⟨M', a1, a2⟩ := ih n (i + 1) (u2 (u1 M 21 (upd (M 21) (o + i) (M 2 i))) 0 40 (nI (o + (i + 1)))) (by omega) (by omega) ho h39 rfl
    refine ⟨M', ?_, psE rfl (by omega) (by omega) a2 (by omega)⟩
    rw [FL_X8_passes_m2_2, if_neg (show ¬ (8 : Int32) ≤ nI i from nI_ge (b := 8) (by omega) (by omega)), h39, if_neg (show ¬ (1 : Int32) = 0 by decide), if_pos (gin_nI (by omega) (by omega)), h40, if_pos (gin_nI (by omega) (by omega)), nI_clamp (by omega), nI_clamp (by omega), g40, nI_1, nI_1]
    exact a1
theorem pr2_l : ∀ (j n i : Nat) (M : SI), i + j = 8 → j < n → o + 8 ≤ 200 → M 0 39 = 0 → M 0 40 = nI (o + i) → ∃ M' : SI, FL_X8_passes_m2_2 n M N (nI i) = some (M', N) ∧ PR M M' 2 o i := by
  intro j
  induction j with
  | zero =>
    intro n i M hi hn ho h39 h40
    obtain ⟨n, rfl⟩ := suc hn
    refine ⟨M, ?_, fun _ _ _ => rfl, fun _ _ => rfl, by rw [h40, show i = 8 by omega], fun k a b => absurd a (by omega), fun _ _ => rfl⟩
    rw [FL_X8_passes_m2_2, if_pos (show (8 : Int32) ≤ nI i from nI_le (a := 8) (by omega) (by omega))]
  | succ j ih =>
    intro n i M hi hn ho h39 h40
    obtain ⟨n, rfl⟩ := suc hn
    have g40 : u1 M 2 (upd (M 2) i (M 21 (o + i))) 0 40 = nI (o + i) := (congrFun (u1_ne (by omega)) 40).trans h40
    obtain ⟨M', a1, a2⟩ := ih n (i + 1) (u2 (u1 M 2 (upd (M 2) i (M 21 (o + i)))) 0 40 (nI (o + (i + 1)))) (by omega) (by omega) ho h39 rfl
    refine ⟨M', ?_, prE rfl (by omega) (by omega) a2 (by omega)⟩
    rw [FL_X8_passes_m2_2, if_neg (show ¬ (8 : Int32) ≤ nI i from nI_ge (b := 8) (by omega) (by omega)), h39, if_pos (show (0 : Int32) = 0 from rfl), h40, if_pos (gin_nI (by omega) (by omega)), if_pos (gin_nI (by omega) (by omega)), nI_clamp (by omega), nI_clamp (by omega), g40, nI_1, nI_1]
    exact a1
theorem ps2 (ho : o + 8 ≤ 200) (h39 : M 0 39 = 1) (h40 : M 0 40 = nI o) : ∃ M' : SI, F_X8_passes_m2 M N = some (M', N) ∧ PS M M' 2 o 0 := by
  obtain ⟨M', a1, a2⟩ := ps2_l (N := N) 8 3000 0 M (by omega) (by omega) ho h39 h40
  rw [show nI 0 = (0 : Int32) from rfl] at a1
  exact ⟨M', a1, a2⟩
theorem pr2 (ho : o + 8 ≤ 200) (h39 : M 0 39 = 0) (h40 : M 0 40 = nI o) : ∃ M' : SI, F_X8_passes_m2 M N = some (M', N) ∧ PR M M' 2 o 0 := by
  obtain ⟨M', a1, a2⟩ := pr2_l (N := N) 8 3000 0 M (by omega) (by omega) ho h39 h40
  rw [show nI 0 = (0 : Int32) from rfl] at a1
  exact ⟨M', a1, a2⟩
theorem ps4_l : ∀ (j n i : Nat) (M : SI), i + j = 8 → j < n → o + 8 ≤ 200 → M 0 39 = 1 → M 0 40 = nI (o + i) → ∃ M' : SI, FL_X8_passes_m4_2 n M N (nI i) = some (M', N) ∧ PS M M' 4 o i := by
  intro j
  induction j with
  | zero =>
    intro n i M hi hn ho h39 h40
    obtain ⟨n, rfl⟩ := suc hn
    refine ⟨M, ?_, fun _ _ _ => rfl, fun _ _ => rfl, by rw [h40, show i = 8 by omega], fun k a b => absurd a (by omega), fun _ _ => rfl⟩
    rw [FL_X8_passes_m4_2, if_pos (show (8 : Int32) ≤ nI i from nI_le (a := 8) (by omega) (by omega))]
  | succ j ih =>
    intro n i M hi hn ho h39 h40
    obtain ⟨n, rfl⟩ := suc hn
    have g40 : u1 M 21 (upd (M 21) (o + i) (M 4 i)) 0 40 = nI (o + i) := (congrFun (u1_ne (by omega)) 40).trans h40
    obtain ⟨M', a1, a2⟩ := ih n (i + 1) (u2 (u1 M 21 (upd (M 21) (o + i) (M 4 i))) 0 40 (nI (o + (i + 1)))) (by omega) (by omega) ho h39 rfl
    refine ⟨M', ?_, psE rfl (by omega) (by omega) a2 (by omega)⟩
    rw [FL_X8_passes_m4_2, if_neg (show ¬ (8 : Int32) ≤ nI i from nI_ge (b := 8) (by omega) (by omega)), h39, if_neg (show ¬ (1 : Int32) = 0 by decide), if_pos (gin_nI (by omega) (by omega)), h40, if_pos (gin_nI (by omega) (by omega)), nI_clamp (by omega), nI_clamp (by omega), g40, nI_1, nI_1]
    exact a1
theorem pr4_l : ∀ (j n i : Nat) (M : SI), i + j = 8 → j < n → o + 8 ≤ 200 → M 0 39 = 0 → M 0 40 = nI (o + i) → ∃ M' : SI, FL_X8_passes_m4_2 n M N (nI i) = some (M', N) ∧ PR M M' 4 o i := by
  intro j
  induction j with
  | zero =>
    intro n i M hi hn ho h39 h40
    obtain ⟨n, rfl⟩ := suc hn
    refine ⟨M, ?_, fun _ _ _ => rfl, fun _ _ => rfl, by rw [h40, show i = 8 by omega], fun k a b => absurd a (by omega), fun _ _ => rfl⟩
    rw [FL_X8_passes_m4_2, if_pos (show (8 : Int32) ≤ nI i from nI_le (a := 8) (by omega) (by omega))]
  | succ j ih =>
    intro n i M hi hn ho h39 h40
    obtain ⟨n, rfl⟩ := suc hn
    have g40 : u1 M 4 (upd (M 4) i (M 21 (o + i))) 0 40 = nI (o + i) := (congrFun (u1_ne (by omega)) 40).trans h40
    obtain ⟨M', a1, a2⟩ := ih n (i + 1) (u2 (u1 M 4 (upd (M 4) i (M 21 (o + i)))) 0 40 (nI (o + (i + 1)))) (by omega) (by omega) ho h39 rfl
    refine ⟨M', ?_, prE rfl (by omega) (by omega) a2 (by omega)⟩
    rw [FL_X8_passes_m4_2, if_neg (show ¬ (8 : Int32) ≤ nI i from nI_ge (b := 8) (by omega) (by omega)), h39, if_pos (show (0 : Int32) = 0 from rfl), h40, if_pos (gin_nI (by omega) (by omega)), if_pos (gin_nI (by omega) (by omega)), nI_clamp (by omega), nI_clamp (by omega), g40, nI_1, nI_1]
    exact a1
theorem ps4 (ho : o + 8 ≤ 200) (h39 : M 0 39 = 1) (h40 : M 0 40 = nI o) : ∃ M' : SI, F_X8_passes_m4 M N = some (M', N) ∧ PS M M' 4 o 0 := by
  obtain ⟨M', a1, a2⟩ := ps4_l (N := N) 8 3000 0 M (by omega) (by omega) ho h39 h40
  rw [show nI 0 = (0 : Int32) from rfl] at a1
  exact ⟨M', a1, a2⟩
theorem pr4 (ho : o + 8 ≤ 200) (h39 : M 0 39 = 0) (h40 : M 0 40 = nI o) : ∃ M' : SI, F_X8_passes_m4 M N = some (M', N) ∧ PR M M' 4 o 0 := by
  obtain ⟨M', a1, a2⟩ := pr4_l (N := N) 8 3000 0 M (by omega) (by omega) ho h39 h40
  rw [show nI 0 = (0 : Int32) from rfl] at a1
  exact ⟨M', a1, a2⟩
theorem ps5_l : ∀ (j n i : Nat) (M : SI), i + j = 8 → j < n → o + 8 ≤ 200 → M 0 39 = 1 → M 0 40 = nI (o + i) → ∃ M' : SI, FL_X8_passes_m5_2 n M N (nI i) = some (M', N) ∧ PS M M' 5 o i := by
  intro j
  induction j with
  | zero =>
    intro n i M hi hn ho h39 h40
    obtain ⟨n, rfl⟩ := suc hn
    refine ⟨M, ?_, fun _ _ _ => rfl, fun _ _ => rfl, by rw [h40, show i = 8 by omega], fun k a b => absurd a (by omega), fun _ _ => rfl⟩
    rw [FL_X8_passes_m5_2, if_pos (show (8 : Int32) ≤ nI i from nI_le (a := 8) (by omega) (by omega))]
  | succ j ih =>
    intro n i M hi hn ho h39 h40
    obtain ⟨n, rfl⟩ := suc hn
    have g40 : u1 M 21 (upd (M 21) (o + i) (M 5 i)) 0 40 = nI (o + i) := (congrFun (u1_ne (by omega)) 40).trans h40
    obtain ⟨M', a1, a2⟩ := ih n (i + 1) (u2 (u1 M 21 (upd (M 21) (o + i) (M 5 i))) 0 40 (nI (o + (i + 1)))) (by omega) (by omega) ho h39 rfl
    refine ⟨M', ?_, psE rfl (by omega) (by omega) a2 (by omega)⟩
    rw [FL_X8_passes_m5_2, if_neg (show ¬ (8 : Int32) ≤ nI i from nI_ge (b := 8) (by omega) (by omega)), h39, if_neg (show ¬ (1 : Int32) = 0 by decide), if_pos (gin_nI (by omega) (by omega)), h40, if_pos (gin_nI (by omega) (by omega)), nI_clamp (by omega), nI_clamp (by omega), g40, nI_1, nI_1]
    exact a1
theorem pr5_l : ∀ (j n i : Nat) (M : SI), i + j = 8 → j < n → o + 8 ≤ 200 → M 0 39 = 0 → M 0 40 = nI (o + i) → ∃ M' : SI, FL_X8_passes_m5_2 n M N (nI i) = some (M', N) ∧ PR M M' 5 o i := by
  intro j
  induction j with
  | zero =>
    intro n i M hi hn ho h39 h40
    obtain ⟨n, rfl⟩ := suc hn
    refine ⟨M, ?_, fun _ _ _ => rfl, fun _ _ => rfl, by rw [h40, show i = 8 by omega], fun k a b => absurd a (by omega), fun _ _ => rfl⟩
    rw [FL_X8_passes_m5_2, if_pos (show (8 : Int32) ≤ nI i from nI_le (a := 8) (by omega) (by omega))]
  | succ j ih =>
    intro n i M hi hn ho h39 h40
    obtain ⟨n, rfl⟩ := suc hn
    have g40 : u1 M 5 (upd (M 5) i (M 21 (o + i))) 0 40 = nI (o + i) := (congrFun (u1_ne (by omega)) 40).trans h40
    obtain ⟨M', a1, a2⟩ := ih n (i + 1) (u2 (u1 M 5 (upd (M 5) i (M 21 (o + i)))) 0 40 (nI (o + (i + 1)))) (by omega) (by omega) ho h39 rfl
    refine ⟨M', ?_, prE rfl (by omega) (by omega) a2 (by omega)⟩
    rw [FL_X8_passes_m5_2, if_neg (show ¬ (8 : Int32) ≤ nI i from nI_ge (b := 8) (by omega) (by omega)), h39, if_pos (show (0 : Int32) = 0 from rfl), h40, if_pos (gin_nI (by omega) (by omega)), if_pos (gin_nI (by omega) (by omega)), nI_clamp (by omega), nI_clamp (by omega), g40, nI_1, nI_1]
    exact a1
theorem ps5 (ho : o + 8 ≤ 200) (h39 : M 0 39 = 1) (h40 : M 0 40 = nI o) : ∃ M' : SI, F_X8_passes_m5 M N = some (M', N) ∧ PS M M' 5 o 0 := by
  obtain ⟨M', a1, a2⟩ := ps5_l (N := N) 8 3000 0 M (by omega) (by omega) ho h39 h40
  rw [show nI 0 = (0 : Int32) from rfl] at a1
  exact ⟨M', a1, a2⟩
theorem pr5 (ho : o + 8 ≤ 200) (h39 : M 0 39 = 0) (h40 : M 0 40 = nI o) : ∃ M' : SI, F_X8_passes_m5 M N = some (M', N) ∧ PR M M' 5 o 0 := by
  obtain ⟨M', a1, a2⟩ := pr5_l (N := N) 8 3000 0 M (by omega) (by omega) ho h39 h40
  rw [show nI 0 = (0 : Int32) from rfl] at a1
  exact ⟨M', a1, a2⟩
theorem ps6_l : ∀ (j n i : Nat) (M : SI), i + j = 8 → j < n → o + 8 ≤ 200 → M 0 39 = 1 → M 0 40 = nI (o + i) → ∃ M' : SI, FL_X8_passes_m6_2 n M N (nI i) = some (M', N) ∧ PS M M' 6 o i := by
  intro j
  induction j with
  | zero =>
    intro n i M hi hn ho h39 h40
    obtain ⟨n, rfl⟩ := suc hn
    refine ⟨M, ?_, fun _ _ _ => rfl, fun _ _ => rfl, by rw [h40, show i = 8 by omega], fun k a b => absurd a (by omega), fun _ _ => rfl⟩
    rw [FL_X8_passes_m6_2, if_pos (show (8 : Int32) ≤ nI i from nI_le (a := 8) (by omega) (by omega))]
  | succ j ih =>
    intro n i M hi hn ho h39 h40
    obtain ⟨n, rfl⟩ := suc hn
    have g40 : u1 M 21 (upd (M 21) (o + i) (M 6 i)) 0 40 = nI (o + i) := (congrFun (u1_ne (by omega)) 40).trans h40
    obtain ⟨M', a1, a2⟩ := ih n (i + 1) (u2 (u1 M 21 (upd (M 21) (o + i) (M 6 i))) 0 40 (nI (o + (i + 1)))) (by omega) (by omega) ho h39 rfl
    refine ⟨M', ?_, psE rfl (by omega) (by omega) a2 (by omega)⟩
    rw [FL_X8_passes_m6_2, if_neg (show ¬ (8 : Int32) ≤ nI i from nI_ge (b := 8) (by omega) (by omega)), h39, if_neg (show ¬ (1 : Int32) = 0 by decide), if_pos (gin_nI (by omega) (by omega)), h40, if_pos (gin_nI (by omega) (by omega)), nI_clamp (by omega), nI_clamp (by omega), g40, nI_1, nI_1]
    exact a1
theorem pr6_l : ∀ (j n i : Nat) (M : SI), i + j = 8 → j < n → o + 8 ≤ 200 → M 0 39 = 0 → M 0 40 = nI (o + i) → ∃ M' : SI, FL_X8_passes_m6_2 n M N (nI i) = some (M', N) ∧ PR M M' 6 o i := by
  intro j
  induction j with
  | zero =>
    intro n i M hi hn ho h39 h40
    obtain ⟨n, rfl⟩ := suc hn
    refine ⟨M, ?_, fun _ _ _ => rfl, fun _ _ => rfl, by rw [h40, show i = 8 by omega], fun k a b => absurd a (by omega), fun _ _ => rfl⟩
    rw [FL_X8_passes_m6_2, if_pos (show (8 : Int32) ≤ nI i from nI_le (a := 8) (by omega) (by omega))]
  | succ j ih =>
    intro n i M hi hn ho h39 h40
    obtain ⟨n, rfl⟩ := suc hn
    have g40 : u1 M 6 (upd (M 6) i (M 21 (o + i))) 0 40 = nI (o + i) := (congrFun (u1_ne (by omega)) 40).trans h40
    obtain ⟨M', a1, a2⟩ := ih n (i + 1) (u2 (u1 M 6 (upd (M 6) i (M 21 (o + i)))) 0 40 (nI (o + (i + 1)))) (by omega) (by omega) ho h39 rfl
    refine ⟨M', ?_, prE rfl (by omega) (by omega) a2 (by omega)⟩
    rw [FL_X8_passes_m6_2, if_neg (show ¬ (8 : Int32) ≤ nI i from nI_ge (b := 8) (by omega) (by omega)), h39, if_pos (show (0 : Int32) = 0 from rfl), h40, if_pos (gin_nI (by omega) (by omega)), if_pos (gin_nI (by omega) (by omega)), nI_clamp (by omega), nI_clamp (by omega), g40, nI_1, nI_1]
    exact a1
theorem ps6 (ho : o + 8 ≤ 200) (h39 : M 0 39 = 1) (h40 : M 0 40 = nI o) : ∃ M' : SI, F_X8_passes_m6 M N = some (M', N) ∧ PS M M' 6 o 0 := by
  obtain ⟨M', a1, a2⟩ := ps6_l (N := N) 8 3000 0 M (by omega) (by omega) ho h39 h40
  rw [show nI 0 = (0 : Int32) from rfl] at a1
  exact ⟨M', a1, a2⟩
theorem pr6 (ho : o + 8 ≤ 200) (h39 : M 0 39 = 0) (h40 : M 0 40 = nI o) : ∃ M' : SI, F_X8_passes_m6 M N = some (M', N) ∧ PR M M' 6 o 0 := by
  obtain ⟨M', a1, a2⟩ := pr6_l (N := N) 8 3000 0 M (by omega) (by omega) ho h39 h40
  rw [show nI 0 = (0 : Int32) from rfl] at a1
  exact ⟨M', a1, a2⟩
theorem ps7_l : ∀ (j n i : Nat) (M : SI), i + j = 8 → j < n → o + 8 ≤ 200 → M 0 39 = 1 → M 0 40 = nI (o + i) → ∃ M' : SI, FL_X8_passes_m7_2 n M N (nI i) = some (M', N) ∧ PS M M' 7 o i := by
  intro j
  induction j with
  | zero =>
    intro n i M hi hn ho h39 h40
    obtain ⟨n, rfl⟩ := suc hn
    refine ⟨M, ?_, fun _ _ _ => rfl, fun _ _ => rfl, by rw [h40, show i = 8 by omega], fun k a b => absurd a (by omega), fun _ _ => rfl⟩
    rw [FL_X8_passes_m7_2, if_pos (show (8 : Int32) ≤ nI i from nI_le (a := 8) (by omega) (by omega))]
  | succ j ih =>
    intro n i M hi hn ho h39 h40
    obtain ⟨n, rfl⟩ := suc hn
    have g40 : u1 M 21 (upd (M 21) (o + i) (M 7 i)) 0 40 = nI (o + i) := (congrFun (u1_ne (by omega)) 40).trans h40
    obtain ⟨M', a1, a2⟩ := ih n (i + 1) (u2 (u1 M 21 (upd (M 21) (o + i) (M 7 i))) 0 40 (nI (o + (i + 1)))) (by omega) (by omega) ho h39 rfl
    refine ⟨M', ?_, psE rfl (by omega) (by omega) a2 (by omega)⟩
    rw [FL_X8_passes_m7_2, if_neg (show ¬ (8 : Int32) ≤ nI i from nI_ge (b := 8) (by omega) (by omega)), h39, if_neg (show ¬ (1 : Int32) = 0 by decide), if_pos (gin_nI (by omega) (by omega)), h40, if_pos (gin_nI (by omega) (by omega)), nI_clamp (by omega), nI_clamp (by omega), g40, nI_1, nI_1]
    exact a1
theorem pr7_l : ∀ (j n i : Nat) (M : SI), i + j = 8 → j < n → o + 8 ≤ 200 → M 0 39 = 0 → M 0 40 = nI (o + i) → ∃ M' : SI, FL_X8_passes_m7_2 n M N (nI i) = some (M', N) ∧ PR M M' 7 o i := by
  intro j
  induction j with
  | zero =>
    intro n i M hi hn ho h39 h40
    obtain ⟨n, rfl⟩ := suc hn
    refine ⟨M, ?_, fun _ _ _ => rfl, fun _ _ => rfl, by rw [h40, show i = 8 by omega], fun k a b => absurd a (by omega), fun _ _ => rfl⟩
    rw [FL_X8_passes_m7_2, if_pos (show (8 : Int32) ≤ nI i from nI_le (a := 8) (by omega) (by omega))]
  | succ j ih =>
    intro n i M hi hn ho h39 h40
    obtain ⟨n, rfl⟩ := suc hn
    have g40 : u1 M 7 (upd (M 7) i (M 21 (o + i))) 0 40 = nI (o + i) := (congrFun (u1_ne (by omega)) 40).trans h40
    obtain ⟨M', a1, a2⟩ := ih n (i + 1) (u2 (u1 M 7 (upd (M 7) i (M 21 (o + i)))) 0 40 (nI (o + (i + 1)))) (by omega) (by omega) ho h39 rfl
    refine ⟨M', ?_, prE rfl (by omega) (by omega) a2 (by omega)⟩
    rw [FL_X8_passes_m7_2, if_neg (show ¬ (8 : Int32) ≤ nI i from nI_ge (b := 8) (by omega) (by omega)), h39, if_pos (show (0 : Int32) = 0 from rfl), h40, if_pos (gin_nI (by omega) (by omega)), if_pos (gin_nI (by omega) (by omega)), nI_clamp (by omega), nI_clamp (by omega), g40, nI_1, nI_1]
    exact a1
theorem ps7 (ho : o + 8 ≤ 200) (h39 : M 0 39 = 1) (h40 : M 0 40 = nI o) : ∃ M' : SI, F_X8_passes_m7 M N = some (M', N) ∧ PS M M' 7 o 0 := by
  obtain ⟨M', a1, a2⟩ := ps7_l (N := N) 8 3000 0 M (by omega) (by omega) ho h39 h40
  rw [show nI 0 = (0 : Int32) from rfl] at a1
  exact ⟨M', a1, a2⟩
theorem pr7 (ho : o + 8 ≤ 200) (h39 : M 0 39 = 0) (h40 : M 0 40 = nI o) : ∃ M' : SI, F_X8_passes_m7 M N = some (M', N) ∧ PR M M' 7 o 0 := by
  obtain ⟨M', a1, a2⟩ := pr7_l (N := N) 8 3000 0 M (by omega) (by omega) ho h39 h40
  rw [show nI 0 = (0 : Int32) from rfl] at a1
  exact ⟨M', a1, a2⟩
theorem ps13_l : ∀ (j n i : Nat) (M : SI), i + j = 8 → j < n → o + 8 ≤ 200 → M 0 39 = 1 → M 0 40 = nI (o + i) → ∃ M' : SI, FL_X8_passes_m13_2 n M N (nI i) = some (M', N) ∧ PS M M' 13 o i := by
  intro j
  induction j with
  | zero =>
    intro n i M hi hn ho h39 h40
    obtain ⟨n, rfl⟩ := suc hn
    refine ⟨M, ?_, fun _ _ _ => rfl, fun _ _ => rfl, by rw [h40, show i = 8 by omega], fun k a b => absurd a (by omega), fun _ _ => rfl⟩
    rw [FL_X8_passes_m13_2, if_pos (show (8 : Int32) ≤ nI i from nI_le (a := 8) (by omega) (by omega))]
  | succ j ih =>
    intro n i M hi hn ho h39 h40
    obtain ⟨n, rfl⟩ := suc hn
    have g40 : u1 M 21 (upd (M 21) (o + i) (M 13 i)) 0 40 = nI (o + i) := (congrFun (u1_ne (by omega)) 40).trans h40
    obtain ⟨M', a1, a2⟩ := ih n (i + 1) (u2 (u1 M 21 (upd (M 21) (o + i) (M 13 i))) 0 40 (nI (o + (i + 1)))) (by omega) (by omega) ho h39 rfl
    refine ⟨M', ?_, psE rfl (by omega) (by omega) a2 (by omega)⟩
    rw [FL_X8_passes_m13_2, if_neg (show ¬ (8 : Int32) ≤ nI i from nI_ge (b := 8) (by omega) (by omega)), h39, if_neg (show ¬ (1 : Int32) = 0 by decide), if_pos (gin_nI (by omega) (by omega)), h40, if_pos (gin_nI (by omega) (by omega)), nI_clamp (by omega), nI_clamp (by omega), g40, nI_1, nI_1]
    exact a1
theorem pr13_l : ∀ (j n i : Nat) (M : SI), i + j = 8 → j < n → o + 8 ≤ 200 → M 0 39 = 0 → M 0 40 = nI (o + i) → ∃ M' : SI, FL_X8_passes_m13_2 n M N (nI i) = some (M', N) ∧ PR M M' 13 o i := by
  intro j
  induction j with
  | zero =>
    intro n i M hi hn ho h39 h40
    obtain ⟨n, rfl⟩ := suc hn
    refine ⟨M, ?_, fun _ _ _ => rfl, fun _ _ => rfl, by rw [h40, show i = 8 by omega], fun k a b => absurd a (by omega), fun _ _ => rfl⟩
    rw [FL_X8_passes_m13_2, if_pos (show (8 : Int32) ≤ nI i from nI_le (a := 8) (by omega) (by omega))]
  | succ j ih =>
    intro n i M hi hn ho h39 h40
    obtain ⟨n, rfl⟩ := suc hn
    have g40 : u1 M 13 (upd (M 13) i (M 21 (o + i))) 0 40 = nI (o + i) := (congrFun (u1_ne (by omega)) 40).trans h40
    obtain ⟨M', a1, a2⟩ := ih n (i + 1) (u2 (u1 M 13 (upd (M 13) i (M 21 (o + i)))) 0 40 (nI (o + (i + 1)))) (by omega) (by omega) ho h39 rfl
    refine ⟨M', ?_, prE rfl (by omega) (by omega) a2 (by omega)⟩
    rw [FL_X8_passes_m13_2, if_neg (show ¬ (8 : Int32) ≤ nI i from nI_ge (b := 8) (by omega) (by omega)), h39, if_pos (show (0 : Int32) = 0 from rfl), h40, if_pos (gin_nI (by omega) (by omega)), if_pos (gin_nI (by omega) (by omega)), nI_clamp (by omega), nI_clamp (by omega), g40, nI_1, nI_1]
    exact a1
theorem ps13 (ho : o + 8 ≤ 200) (h39 : M 0 39 = 1) (h40 : M 0 40 = nI o) : ∃ M' : SI, F_X8_passes_m13 M N = some (M', N) ∧ PS M M' 13 o 0 := by
  obtain ⟨M', a1, a2⟩ := ps13_l (N := N) 8 3000 0 M (by omega) (by omega) ho h39 h40
  rw [show nI 0 = (0 : Int32) from rfl] at a1
  exact ⟨M', a1, a2⟩
theorem pr13 (ho : o + 8 ≤ 200) (h39 : M 0 39 = 0) (h40 : M 0 40 = nI o) : ∃ M' : SI, F_X8_passes_m13 M N = some (M', N) ∧ PR M M' 13 o 0 := by
  obtain ⟨M', a1, a2⟩ := pr13_l (N := N) 8 3000 0 M (by omega) (by omega) ho h39 h40
  rw [show nI 0 = (0 : Int32) from rfl] at a1
  exact ⟨M', a1, a2⟩
theorem ps14_l : ∀ (j n i : Nat) (M : SI), i + j = 8 → j < n → o + 8 ≤ 200 → M 0 39 = 1 → M 0 40 = nI (o + i) → ∃ M' : SI, FL_X8_passes_m14_2 n M N (nI i) = some (M', N) ∧ PS M M' 14 o i := by
  intro j
  induction j with
  | zero =>
    intro n i M hi hn ho h39 h40
    obtain ⟨n, rfl⟩ := suc hn
    refine ⟨M, ?_, fun _ _ _ => rfl, fun _ _ => rfl, by rw [h40, show i = 8 by omega], fun k a b => absurd a (by omega), fun _ _ => rfl⟩
    rw [FL_X8_passes_m14_2, if_pos (show (8 : Int32) ≤ nI i from nI_le (a := 8) (by omega) (by omega))]
  | succ j ih =>
    intro n i M hi hn ho h39 h40
    obtain ⟨n, rfl⟩ := suc hn
    have g40 : u1 M 21 (upd (M 21) (o + i) (M 14 i)) 0 40 = nI (o + i) := (congrFun (u1_ne (by omega)) 40).trans h40
    obtain ⟨M', a1, a2⟩ := ih n (i + 1) (u2 (u1 M 21 (upd (M 21) (o + i) (M 14 i))) 0 40 (nI (o + (i + 1)))) (by omega) (by omega) ho h39 rfl
    refine ⟨M', ?_, psE rfl (by omega) (by omega) a2 (by omega)⟩
    rw [FL_X8_passes_m14_2, if_neg (show ¬ (8 : Int32) ≤ nI i from nI_ge (b := 8) (by omega) (by omega)), h39, if_neg (show ¬ (1 : Int32) = 0 by decide), if_pos (gin_nI (by omega) (by omega)), h40, if_pos (gin_nI (by omega) (by omega)), nI_clamp (by omega), nI_clamp (by omega), g40, nI_1, nI_1]
    exact a1
theorem pr14_l : ∀ (j n i : Nat) (M : SI), i + j = 8 → j < n → o + 8 ≤ 200 → M 0 39 = 0 → M 0 40 = nI (o + i) → ∃ M' : SI, FL_X8_passes_m14_2 n M N (nI i) = some (M', N) ∧ PR M M' 14 o i := by
  intro j
  induction j with
  | zero =>
    intro n i M hi hn ho h39 h40
    obtain ⟨n, rfl⟩ := suc hn
    refine ⟨M, ?_, fun _ _ _ => rfl, fun _ _ => rfl, by rw [h40, show i = 8 by omega], fun k a b => absurd a (by omega), fun _ _ => rfl⟩
    rw [FL_X8_passes_m14_2, if_pos (show (8 : Int32) ≤ nI i from nI_le (a := 8) (by omega) (by omega))]
  | succ j ih =>
    intro n i M hi hn ho h39 h40
    obtain ⟨n, rfl⟩ := suc hn
    have g40 : u1 M 14 (upd (M 14) i (M 21 (o + i))) 0 40 = nI (o + i) := (congrFun (u1_ne (by omega)) 40).trans h40
    obtain ⟨M', a1, a2⟩ := ih n (i + 1) (u2 (u1 M 14 (upd (M 14) i (M 21 (o + i)))) 0 40 (nI (o + (i + 1)))) (by omega) (by omega) ho h39 rfl
    refine ⟨M', ?_, prE rfl (by omega) (by omega) a2 (by omega)⟩
    rw [FL_X8_passes_m14_2, if_neg (show ¬ (8 : Int32) ≤ nI i from nI_ge (b := 8) (by omega) (by omega)), h39, if_pos (show (0 : Int32) = 0 from rfl), h40, if_pos (gin_nI (by omega) (by omega)), if_pos (gin_nI (by omega) (by omega)), nI_clamp (by omega), nI_clamp (by omega), g40, nI_1, nI_1]
    exact a1
theorem ps14 (ho : o + 8 ≤ 200) (h39 : M 0 39 = 1) (h40 : M 0 40 = nI o) : ∃ M' : SI, F_X8_passes_m14 M N = some (M', N) ∧ PS M M' 14 o 0 := by
  obtain ⟨M', a1, a2⟩ := ps14_l (N := N) 8 3000 0 M (by omega) (by omega) ho h39 h40
  rw [show nI 0 = (0 : Int32) from rfl] at a1
  exact ⟨M', a1, a2⟩
theorem pr14 (ho : o + 8 ≤ 200) (h39 : M 0 39 = 0) (h40 : M 0 40 = nI o) : ∃ M' : SI, F_X8_passes_m14 M N = some (M', N) ∧ PR M M' 14 o 0 := by
  obtain ⟨M', a1, a2⟩ := pr14_l (N := N) 8 3000 0 M (by omega) (by omega) ho h39 h40
  rw [show nI 0 = (0 : Int32) from rfl] at a1
  exact ⟨M', a1, a2⟩
theorem ps15_l : ∀ (j n i : Nat) (M : SI), i + j = 8 → j < n → o + 8 ≤ 200 → M 0 39 = 1 → M 0 40 = nI (o + i) → ∃ M' : SI, FL_X8_passes_m15_2 n M N (nI i) = some (M', N) ∧ PS M M' 15 o i := by
  intro j
  induction j with
  | zero =>
    intro n i M hi hn ho h39 h40
    obtain ⟨n, rfl⟩ := suc hn
    refine ⟨M, ?_, fun _ _ _ => rfl, fun _ _ => rfl, by rw [h40, show i = 8 by omega], fun k a b => absurd a (by omega), fun _ _ => rfl⟩
    rw [FL_X8_passes_m15_2, if_pos (show (8 : Int32) ≤ nI i from nI_le (a := 8) (by omega) (by omega))]
  | succ j ih =>
    intro n i M hi hn ho h39 h40
    obtain ⟨n, rfl⟩ := suc hn
    have g40 : u1 M 21 (upd (M 21) (o + i) (M 15 i)) 0 40 = nI (o + i) := (congrFun (u1_ne (by omega)) 40).trans h40
    obtain ⟨M', a1, a2⟩ := ih n (i + 1) (u2 (u1 M 21 (upd (M 21) (o + i) (M 15 i))) 0 40 (nI (o + (i + 1)))) (by omega) (by omega) ho h39 rfl
    refine ⟨M', ?_, psE rfl (by omega) (by omega) a2 (by omega)⟩
    rw [FL_X8_passes_m15_2, if_neg (show ¬ (8 : Int32) ≤ nI i from nI_ge (b := 8) (by omega) (by omega)), h39, if_neg (show ¬ (1 : Int32) = 0 by decide), if_pos (gin_nI (by omega) (by omega)), h40, if_pos (gin_nI (by omega) (by omega)), nI_clamp (by omega), nI_clamp (by omega), g40, nI_1, nI_1]
    exact a1
theorem pr15_l : ∀ (j n i : Nat) (M : SI), i + j = 8 → j < n → o + 8 ≤ 200 → M 0 39 = 0 → M 0 40 = nI (o + i) → ∃ M' : SI, FL_X8_passes_m15_2 n M N (nI i) = some (M', N) ∧ PR M M' 15 o i := by
  intro j
  induction j with
  | zero =>
    intro n i M hi hn ho h39 h40
    obtain ⟨n, rfl⟩ := suc hn
    refine ⟨M, ?_, fun _ _ _ => rfl, fun _ _ => rfl, by rw [h40, show i = 8 by omega], fun k a b => absurd a (by omega), fun _ _ => rfl⟩
    rw [FL_X8_passes_m15_2, if_pos (show (8 : Int32) ≤ nI i from nI_le (a := 8) (by omega) (by omega))]
  | succ j ih =>
    intro n i M hi hn ho h39 h40
    obtain ⟨n, rfl⟩ := suc hn
    have g40 : u1 M 15 (upd (M 15) i (M 21 (o + i))) 0 40 = nI (o + i) := (congrFun (u1_ne (by omega)) 40).trans h40
    obtain ⟨M', a1, a2⟩ := ih n (i + 1) (u2 (u1 M 15 (upd (M 15) i (M 21 (o + i)))) 0 40 (nI (o + (i + 1)))) (by omega) (by omega) ho h39 rfl
    refine ⟨M', ?_, prE rfl (by omega) (by omega) a2 (by omega)⟩
    rw [FL_X8_passes_m15_2, if_neg (show ¬ (8 : Int32) ≤ nI i from nI_ge (b := 8) (by omega) (by omega)), h39, if_pos (show (0 : Int32) = 0 from rfl), h40, if_pos (gin_nI (by omega) (by omega)), if_pos (gin_nI (by omega) (by omega)), nI_clamp (by omega), nI_clamp (by omega), g40, nI_1, nI_1]
    exact a1
theorem ps15 (ho : o + 8 ≤ 200) (h39 : M 0 39 = 1) (h40 : M 0 40 = nI o) : ∃ M' : SI, F_X8_passes_m15 M N = some (M', N) ∧ PS M M' 15 o 0 := by
  obtain ⟨M', a1, a2⟩ := ps15_l (N := N) 8 3000 0 M (by omega) (by omega) ho h39 h40
  rw [show nI 0 = (0 : Int32) from rfl] at a1
  exact ⟨M', a1, a2⟩
theorem pr15 (ho : o + 8 ≤ 200) (h39 : M 0 39 = 0) (h40 : M 0 40 = nI o) : ∃ M' : SI, F_X8_passes_m15 M N = some (M', N) ∧ PR M M' 15 o 0 := by
  obtain ⟨M', a1, a2⟩ := pr15_l (N := N) 8 3000 0 M (by omega) (by omega) ho h39 h40
  rw [show nI 0 = (0 : Int32) from rfl] at a1
  exact ⟨M', a1, a2⟩
theorem ps16_l : ∀ (j n i : Nat) (M : SI), i + j = 8 → j < n → o + 8 ≤ 200 → M 0 39 = 1 → M 0 40 = nI (o + i) → ∃ M' : SI, FL_X8_passes_m16_2 n M N (nI i) = some (M', N) ∧ PS M M' 16 o i := by
  intro j
  induction j with
  | zero =>
    intro n i M hi hn ho h39 h40
    obtain ⟨n, rfl⟩ := suc hn
    refine ⟨M, ?_, fun _ _ _ => rfl, fun _ _ => rfl, by rw [h40, show i = 8 by omega], fun k a b => absurd a (by omega), fun _ _ => rfl⟩
    rw [FL_X8_passes_m16_2, if_pos (show (8 : Int32) ≤ nI i from nI_le (a := 8) (by omega) (by omega))]
  | succ j ih =>
    intro n i M hi hn ho h39 h40
    obtain ⟨n, rfl⟩ := suc hn
    have g40 : u1 M 21 (upd (M 21) (o + i) (M 16 i)) 0 40 = nI (o + i) := (congrFun (u1_ne (by omega)) 40).trans h40
    obtain ⟨M', a1, a2⟩ := ih n (i + 1) (u2 (u1 M 21 (upd (M 21) (o + i) (M 16 i))) 0 40 (nI (o + (i + 1)))) (by omega) (by omega) ho h39 rfl
    refine ⟨M', ?_, psE rfl (by omega) (by omega) a2 (by omega)⟩
    rw [FL_X8_passes_m16_2, if_neg (show ¬ (8 : Int32) ≤ nI i from nI_ge (b := 8) (by omega) (by omega)), h39, if_neg (show ¬ (1 : Int32) = 0 by decide), if_pos (gin_nI (by omega) (by omega)), h40, if_pos (gin_nI (by omega) (by omega)), nI_clamp (by omega), nI_clamp (by omega), g40, nI_1, nI_1]
    exact a1
theorem pr16_l : ∀ (j n i : Nat) (M : SI), i + j = 8 → j < n → o + 8 ≤ 200 → M 0 39 = 0 → M 0 40 = nI (o + i) → ∃ M' : SI, FL_X8_passes_m16_2 n M N (nI i) = some (M', N) ∧ PR M M' 16 o i := by
  intro j
  induction j with
  | zero =>
    intro n i M hi hn ho h39 h40
    obtain ⟨n, rfl⟩ := suc hn
    refine ⟨M, ?_, fun _ _ _ => rfl, fun _ _ => rfl, by rw [h40, show i = 8 by omega], fun k a b => absurd a (by omega), fun _ _ => rfl⟩
    rw [FL_X8_passes_m16_2, if_pos (show (8 : Int32) ≤ nI i from nI_le (a := 8) (by omega) (by omega))]
  | succ j ih =>
    intro n i M hi hn ho h39 h40
    obtain ⟨n, rfl⟩ := suc hn
    have g40 : u1 M 16 (upd (M 16) i (M 21 (o + i))) 0 40 = nI (o + i) := (congrFun (u1_ne (by omega)) 40).trans h40
    obtain ⟨M', a1, a2⟩ := ih n (i + 1) (u2 (u1 M 16 (upd (M 16) i (M 21 (o + i)))) 0 40 (nI (o + (i + 1)))) (by omega) (by omega) ho h39 rfl
    refine ⟨M', ?_, prE rfl (by omega) (by omega) a2 (by omega)⟩
    rw [FL_X8_passes_m16_2, if_neg (show ¬ (8 : Int32) ≤ nI i from nI_ge (b := 8) (by omega) (by omega)), h39, if_pos (show (0 : Int32) = 0 from rfl), h40, if_pos (gin_nI (by omega) (by omega)), if_pos (gin_nI (by omega) (by omega)), nI_clamp (by omega), nI_clamp (by omega), g40, nI_1, nI_1]
    exact a1
theorem ps16 (ho : o + 8 ≤ 200) (h39 : M 0 39 = 1) (h40 : M 0 40 = nI o) : ∃ M' : SI, F_X8_passes_m16 M N = some (M', N) ∧ PS M M' 16 o 0 := by
  obtain ⟨M', a1, a2⟩ := ps16_l (N := N) 8 3000 0 M (by omega) (by omega) ho h39 h40
  rw [show nI 0 = (0 : Int32) from rfl] at a1
  exact ⟨M', a1, a2⟩
theorem pr16 (ho : o + 8 ≤ 200) (h39 : M 0 39 = 0) (h40 : M 0 40 = nI o) : ∃ M' : SI, F_X8_passes_m16 M N = some (M', N) ∧ PR M M' 16 o 0 := by
  obtain ⟨M', a1, a2⟩ := pr16_l (N := N) 8 3000 0 M (by omega) (by omega) ho h39 h40
  rw [show nI 0 = (0 : Int32) from rfl] at a1
  exact ⟨M', a1, a2⟩
end S13
