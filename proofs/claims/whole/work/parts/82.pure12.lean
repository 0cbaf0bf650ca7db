/-- a row copied -/
def cpF (n : Nat) (f g : Nat → Int32) : Nat → Int32 := fun k => if k < n then f k else g k
theorem cpF_lt {n k : Nat} {f g : Nat → Int32} (h : k < n) : cpF n f g k = f k := if_pos h
theorem cpF_s (n : Nat) (f g : Nat → Int32) : upd (cpF n f g) n (f n) = cpF (n + 1) f g := by
  funext k
  unfold upd cpF
  by_cases c : k = n
  · rw [if_pos c, if_pos (by omega), c]
  · rw [if_neg c]
    by_cases c2 : k < n
    · rw [if_pos c2, if_pos (by omega)]
    · rw [if_neg c2, if_neg (by omega)]
theorem pCopy_l {n0 : Nat} (h0 : n0 ≤ 2000) (f g : Nat → Int32) : ∀ (j n i : Nat), i + j = n0 → j < n → FL_X2_copy_11 n0 f n0 n (cpF i f g) (nI i) = some (cpF n0 f g) := by
  intro j
  induction j with
  | zero =>
    intro n i hi hn
    obtain ⟨n, rfl⟩ := suc hn
    rw [FL_X2_copy_11, if_pos (show Int32.ofNat n0 ≤ nI i from nI_le (by omega) (by omega)), show i = n0 by omega]
  | succ j ih =>
    intro n i hi hn
    obtain ⟨n, rfl⟩ := suc hn
    have e : ¬ Int32.ofNat n0 ≤ nI i := nI_ge (b := n0) (by omega) (by omega)
    rw [FL_X2_copy_11, if_neg e, if_neg e, if_pos (gin_nI (by omega) (by omega)), if_pos (gin_nI (by omega) (by omega)), nI_clamp (by omega), cpF_s, nI_1]
    exact ih n (i + 1) (by omega) (by omega)
theorem cpF_0 (f g : Nat → Int32) : cpF 0 f g = g := by
  funext k
  exact if_neg (by omega)
theorem pCopy {n0 : Nat} (h0 : n0 ≤ 2000) (f g : Nat → Int32) : F_X2_copy n0 f n0 g = some (cpF n0 f g) := by
  have e := pCopy_l h0 f g n0 3000 0 (by omega) (by omega)
  rw [cpF_0, show nI 0 = (0 : Int32) from rfl] at e
  exact e
section S12
variable {I M : SI} {J N : SJ} {a b : NN} {st wn te tl rl k A B Q t nw y d gd p l q q1 : Nat} {tx : Nat → Nat}
theorem xCopyT (t t1 : Nat) (h : t ≠ t1) : ∃ I' : SI, F_X5_copyFrom t t1 I J = some (I', J) ∧ (∀ z, z ≠ t → I' z = I z) ∧ I' t 0 = I t1 0 ∧ I' t 1 = I t1 1 ∧ I' t 2 = I t1 2 ∧ I' t 3 = I t1 3 := by
  refine ⟨_, rfl, fun z hz => ?_, ?_, ?_, ?_, ?_⟩
  · exact (u1_ne hz).trans ((u1_ne hz).trans ((u1_ne hz).trans (u1_ne hz)))
  · show u1 _ t (upd (u1 _ t (upd (u1 _ t (upd (u1 I t (upd (I t) 0 (I t1 0)) t) 1 (I t1 1)) t) 2 (I t1 2)) t) 3 (I t1 3)) t 0 = _
    rw [u1_at, pk_un (by omega), u1_at, pk_un (by omega), u1_at, pk_un (by omega), u1_at, pk_us]
  · show u1 _ t (upd (u1 _ t (upd (u1 _ t (upd (u1 I t (upd (I t) 0 (I t1 0)) t) 1 (I t1 1)) t) 2 (I t1 2)) t) 3 (I t1 3)) t 1 = _
    rw [u1_at, pk_un (by omega), u1_at, pk_un (by omega), u1_at, pk_us]
  · show u1 _ t (upd (u1 _ t (upd (u1 _ t (upd (u1 I t (upd (I t) 0 (I t1 0)) t) 1 (I t1 1)) t) 2 (I t1 2)) t) 3 (I t1 3)) t 2 = _
    rw [u1_at, pk_un (by omega), u1_at, pk_us]
  · show u1 _ t (upd (u1 _ t (upd (u1 _ t (upd (u1 I t (upd (I t) 0 (I t1 0)) t) 1 (I t1 1)) t) 2 (I t1 2)) t) 3 (I t1 3)) t 3 = _
    rw [u1_at, pk_us]
theorem xCopy_l (hq : q + 15 ≤ q1 ∨ q1 + 15 ≤ q) : ∀ (j n i : Nat) (I : SI), i + j = 8 → j < n → ∃ I' : SI, FL_X1_copyFrom_62 n I J q q1 (nI i) = some (I', J) ∧ (∀ z, (z < q ∨ (q < z ∧ z < q + 7 + i) ∨ q + 15 ≤ z) → I' z = I z) ∧ (∀ x, i ≤ x → x < 8 → I' (q + 7 + x) 0 = I (q1 + 7 + x) 0 ∧ I' (q + 7 + x) 1 = I (q1 + 7 + x) 1 ∧ I' (q + 7 + x) 2 = I (q1 + 7 + x) 2 ∧ I' (q + 7 + x) 3 = I (q1 + 7 + x) 3) ∧ I' q 6 = I q1 6 ∧ I' q 7 = I q1 7 ∧ I' q 8 = I q1 8 := by
  intro j
  induction j with
  | zero =>
    intro n i I hi hn
    obtain ⟨n, rfl⟩ := suc hn
    rw [FL_X1_copyFrom_62, if_pos (show (8 : Int32) ≤ nI i from nI_le (a := 8) (by omega) (by omega))]
    refine ⟨_, rfl, fun z hz => ?_, fun x h1 h2 => absurd h1 (by omega), ?_, ?_, ?_⟩
    · have hz' : z ≠ q := by omega
      exact (u1_ne hz').trans ((u1_ne hz').trans (u1_ne hz'))
    · show u1 _ q (upd (u1 _ q (upd (u1 I q (upd (I q) 6 (I q1 6)) q) 7 _) q) 8 _) q 6 = _
      rw [u1_at, pk_un (by omega), u1_at, pk_un (by omega), u1_at, pk_us]
    · show u1 _ q (upd (u1 _ q (upd (u1 I q (upd (I q) 6 (I q1 6)) q) 7 (u1 I q _ q1 7)) q) 8 _) q 7 = _
      rw [u1_at, pk_un (by omega), u1_at, pk_us, u1_ne (by omega)]
    · show u1 _ q (upd (u1 _ q (upd (u1 I q (upd (I q) 6 (I q1 6)) q) 7 (u1 I q _ q1 7)) q) 8 (u1 (u1 I q _) q _ q1 8)) q 8 = _
      rw [u1_at, pk_us, u1_ne (by omega), u1_ne (by omega)]
  | succ j ih =>
    intro n i I hi hn
    obtain ⟨n, rfl⟩ := suc hn
    have e : ¬ (8 : Int32) ≤ nI i := nI_ge (b := 8) (by omega) (by omega)
    have g : gin (nI i) 8 = true := gin_nI (by omega) (by omega)
    obtain ⟨I1, a1, a2, a3, a4, a5, a6⟩ := xCopyT (I := I) (J := J) (q + 7 + i) (q1 + 7 + i) (by omega)
    obtain ⟨I2, b1, b2, b3, b4⟩ := ih n (i + 1) I1 (by omega) (by omega)
    rw [FL_X1_copyFrom_62, if_neg e, if_neg e, if_pos g, if_pos g, if_pos g, nI_clamp (by omega), a1, Option.bind_some, nI_1]
    refine ⟨I2, b1, fun z hz => (b2 z (by omega)).trans (a2 z (by omega)), fun x h1 h2 => ?_, ?_⟩
    · by_cases c : x = i
      · subst c
        rw [b2 (q + 7 + x) (by omega)]
        exact ⟨a3, a4, a5, a6⟩
      · have := b3 x (by omega) h2
        rw [a2 (q1 + 7 + x) (by omega)] at this
        exact this
    · rw [a2 q1 (by omega)] at b4
      exact b4
theorem cpTail (hq : q + 15 ≤ q1 ∨ q1 + 15 ≤ q) (I : SI) (J : SJ) (F : SI → SJ → Nat → Nat → Int32 → Option (SI × SJ)) : ((F_X2_copy 8 (I (q1 + 1)) 8 (I (q + 1))).bind fun f_1 => ((F_X2_copy 8 ((u1 I (q + 1) f_1) (q1 + 2)) 8 ((u1 I (q + 1) f_1) (q + 2))).bind fun f_2 => ((F_X2_copy 8 ((u1 (u1 I (q + 1) f_1) (q + 2) f_2) (q1 + 3)) 8 ((u1 (u1 I (q + 1) f_1) (q + 2) f_2) (q + 3))).bind fun f_3 => ((F_X2_copy 6 ((u1 (u1 (u1 I (q + 1) f_1) (q + 2) f_2) (q + 3) f_3) (q1 + 4)) 6 ((u1 (u1 (u1 I (q + 1) f_1) (q + 2) f_2) (q + 3) f_3) (q + 4))).bind fun f_4 => ((F_X2_copy 6 ((u1 (u1 (u1 (u1 I (q + 1) f_1) (q + 2) f_2) (q + 3) f_3) (q + 4) f_4) (q1 + 5)) 6 ((u1 (u1 (u1 (u1 I (q + 1) f_1) (q + 2) f_2) (q + 3) f_3) (q + 4) f_4) (q + 5))).bind fun f_5 => (F (u1 (u1 (u1 (u1 (u1 I (q + 1) f_1) (q + 2) f_2) (q + 3) f_3) (q + 4) f_4) (q + 5) f_5) J q q1 (0 : Int32))))))) = F (u1 (u1 (u1 (u1 (u1 I (q + 1) (cpF 8 (I (q1 + 1)) (I (q + 1)))) (q + 2) (cpF 8 (I (q1 + 2)) (I (q + 2)))) (q + 3) (cpF 8 (I (q1 + 3)) (I (q + 3)))) (q + 4) (cpF 6 (I (q1 + 4)) (I (q + 4)))) (q + 5) (cpF 6 (I (q1 + 5)) (I (q + 5)))) J q q1 (0 : Int32) := by
  have c8 : ∀ f g : Nat → Int32, F_X2_copy 8 f 8 g = some (cpF 8 f g) := fun f g => pCopy (by omega) f g
  have c6 : ∀ f g : Nat → Int32, F_X2_copy 6 f 6 g = some (cpF 6 f g) := fun f g => pCopy (by omega) f g
  have n1 : ∀ (x y : Nat) (f : Nat → Int32) (K : SI), x < 15 → y < 15 → u1 K (q + y) f (q1 + x) = K (q1 + x) := fun x y f K hx hy => u1_ne (by omega)
  have n2 : ∀ (x y : Nat) (f : Nat → Int32) (K : SI), x ≠ y → u1 K (q + y) f (q + x) = K (q + x) := fun x y f K hx => u1_ne (by omega)
  have m21 := fun (f : Nat → Int32) (K : SI) => n1 2 1 f K (by omega) (by omega)
  have k21 := fun (f : Nat → Int32) (K : SI) => n2 2 1 f K (by omega)
  have m31 := fun (f : Nat → Int32) (K : SI) => n1 3 1 f K (by omega) (by omega)
  have k31 := fun (f : Nat → Int32) (K : SI) => n2 3 1 f K (by omega)
  have m32 := fun (f : Nat → Int32) (K : SI) => n1 3 2 f K (by omega) (by omega)
  have k32 := fun (f : Nat → Int32) (K : SI) => n2 3 2 f K (by omega)
  have m41 := fun (f : Nat → Int32) (K : SI) => n1 4 1 f K (by omega) (by omega)
  have k41 := fun (f : Nat → Int32) (K : SI) => n2 4 1 f K (by omega)
  have m42 := fun (f : Nat → Int32) (K : SI) => n1 4 2 f K (by omega) (by omega)
  have k42 := fun (f : Nat → Int32) (K : SI) => n2 4 2 f K (by omega)
  have m43 := fun (f : Nat → Int32) (K : SI) => n1 4 3 f K (by omega) (by omega)
  have k43 := fun (f : Nat → Int32) (K : SI) => n2 4 3 f K (by omega)
  have m51 := fun (f : Nat → Int32) (K : SI) => n1 5 1 f K (by omega) (by omega)
  have k51 := fun (f : Nat → Int32) (K : SI) => n2 5 1 f K (by omega)
  have m52 := fun (f : Nat → Int32) (K : SI) => n1 5 2 f K (by omega) (by omega)
  have k52 := fun (f : Nat → Int32) (K : SI) => n2 5 2 f K (by omega)
  have m53 := fun (f : Nat → Int32) (K : SI) => n1 5 3 f K (by omega) (by omega)
  have k53 := fun (f : Nat → Int32) (K : SI) => n2 5 3 f K (by omega)
  have m54 := fun (f : Nat → Int32) (K : SI) => n1 5 4 f K (by omega) (by omega)
  have k54 := fun (f : Nat → Int32) (K : SI) => n2 5 4 f K (by omega)
  simp only [c8, c6, Option.bind_some, m21, k21, m31, k31, m32, k32, m41, k41, m42, k42, m43, k43, m51, k51, m52, k52, m53, k53, m54, k54]
theorem xCopy (hq : q + 15 ≤ q1 ∨ q1 + 15 ≤ q) (h : XF I q1 b st wn te) (hO : OkA b st wn te) (J : SJ) :
    ∃ I' : SI, F_X1_copyFrom q q1 I J = some (I', J) ∧ XF I' q b st wn te ∧ ∀ z, (z < q ∨ q + 15 ≤ z) → I' z = I z := by
  obtain ⟨⟨h1, h2, h3, h4, h5⟩, h6, h7⟩ := h
  have hs := hO.1.1
  have hw := hO.2.1
  have ht := hO.2.2.1
  unfold F_X1_copyFrom
  rw [cpTail hq I J (FL_X1_copyFrom_62 3000)]
  generalize hI5 : (u1 (u1 (u1 (u1 (u1 I (q + 1) (cpF 8 (I (q1 + 1)) (I (q + 1)))) (q + 2) (cpF 8 (I (q1 + 2)) (I (q + 2)))) (q + 3) (cpF 8 (I (q1 + 3)) (I (q + 3)))) (q + 4) (cpF 6 (I (q1 + 4)) (I (q + 4)))) (q + 5) (cpF 6 (I (q1 + 5)) (I (q + 5))) : SI) = I5
  have o5 : ∀ z, (z < q ∨ q = z ∨ q + 6 ≤ z) → I5 z = I z := fun z hz => by
    rw [← hI5]
    rw [u1_ne (by omega), u1_ne (by omega), u1_ne (by omega), u1_ne (by omega), u1_ne (by omega)]
  have p1 : I5 (q + 1) = cpF 8 (I (q1 + 1)) (I (q + 1)) := by
    rw [← hI5, u1_ne (by omega), u1_ne (by omega), u1_ne (by omega), u1_ne (by omega), u1_at]
  have p2 : ∃ g, I5 (q + 2) = cpF 8 (I (q1 + 2)) g := by
    rw [← hI5, u1_ne (by omega), u1_ne (by omega), u1_ne (by omega), u1_at]
    exact ⟨_, rfl⟩
  have p3 : ∃ g, I5 (q + 3) = cpF 8 (I (q1 + 3)) g := by
    rw [← hI5, u1_ne (by omega), u1_ne (by omega), u1_at]
    exact ⟨_, rfl⟩
  have p4 : ∃ g, I5 (q + 4) = cpF 6 (I (q1 + 4)) g := by
    rw [← hI5, u1_ne (by omega), u1_at]
    exact ⟨_, rfl⟩
  have p5 : ∃ g, I5 (q + 5) = cpF 6 (I (q1 + 5)) g := by
    rw [← hI5, u1_at]
    exact ⟨_, rfl⟩
  obtain ⟨g2, p2⟩ := p2
  obtain ⟨g3, p3⟩ := p3
  obtain ⟨g4, p4⟩ := p4
  obtain ⟨g5, p5⟩ := p5
  obtain ⟨I', r1, r2, r3, r4, r5, r6⟩ := xCopy_l (J := J) hq 8 3000 0 I5 (by omega) (by omega)
  rw [show nI 0 = (0 : Int32) from rfl] at r1
  refine ⟨I', r1, ⟨⟨fun i hi => ?_, fun i hi => ⟨?_, ?_⟩, fun i hi => ⟨?_, ?_⟩, ?_, ?_⟩, fun i hi => ?_, ?_⟩, fun z hz => ?_⟩
  · rw [r2 (q + 1) (by omega), p1, cpF_lt hi]; exact h1 i hi
  · rw [r2 (q + 2) (by omega), p2, cpF_lt (by omega)]; exact (h2 i hi).1
  · rw [r2 (q + 3) (by omega), p3, cpF_lt (by omega)]; exact (h2 i hi).2
  · rw [r2 (q + 4) (by omega), p4, cpF_lt (by omega)]; exact (h3 i hi).1
  · rw [r2 (q + 5) (by omega), p5, cpF_lt (by omega)]; exact (h3 i hi).2
  · rw [r4, o5 q1 (by omega)]; exact h4
  · rw [r5, o5 q1 (by omega)]; exact h5
  · have e := r3 i (by omega) (by omega)
    rw [o5 (q1 + 7 + i) (by omega)] at e
    obtain ⟨w1, w2, w3, w4⟩ := h6 i hi
    exact ⟨e.1.trans w1, e.2.1.trans w2, e.2.2.1.trans w3, e.2.2.2.trans w4⟩
  · rw [r6, o5 q1 (by omega)]; exact h7
  · rw [r2 z (by omega), o5 z (by omega)]
end S12
