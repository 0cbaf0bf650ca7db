/-! ===== pure: the two states side by side ===== -/
def OkA (a : NN) (st wn te : Nat) : Prop := OkF a st wn ∧ wn ≤ 6 ∧ te ≤ 8 ∧ ∀ i, i < te → OkT (a 5 i) (a 6 i) (a 7 i) (a 8 i)
def XF (I : SI) (q : Nat) (a : NN) (st wn te : Nat) : Prop := XE I q a st wn ∧ (∀ i, i < te → XT I (q + 7 + i) (a 5 i) (a 6 i) (a 7 i) (a 8 i)) ∧ I q 8 = nI te
def MF (M : SI) (a : NN) (st wn te : Nat) : Prop := ME M a st wn ∧ (∀ i, i < te → M 13 i = nI (a 5 i) ∧ M 14 i = nI (a 6 i) ∧ M 15 i = nI (a 7 i) ∧ M 16 i = nI (a 8 i)) ∧ M 0 21 = nI te
/-- what is kept at a place of the reference's row 'kept' -/
def KF (f : Nat → Int32) (o : Nat) (a : NN) (st wn te : Nat) : Prop := (∀ k, k < 8 → f (o + k) = nI (a 0 k)) ∧ (∀ k, k < st → f (o + 8 + k) = nI (a 1 k) ∧ f (o + 16 + k) = nI (a 2 k)) ∧ (∀ k, k < wn → f (o + 24 + k) = nI (a 3 k) ∧ f (o + 32 + k) = nI (a 4 k)) ∧ (∀ i, i < te → f (o + 40 + i) = nI (a 5 i) ∧ f (o + 48 + i) = nI (a 6 i) ∧ f (o + 56 + i) = nI (a 7 i) ∧ f (o + 64 + i) = nI (a 8 i)) ∧ f (o + 72) = nI st ∧ f (o + 73) = nI wn ∧ f (o + 74) = nI te
def TX (I M : SI) (tl : Nat) (tx : Nat → Nat) : Prop := tl ≤ 64 ∧ I 45 1 = nI tl ∧ M 0 14 = nI tl ∧ ∀ k, k < tl → I 46 k = nI (tx k) ∧ M 8 k = nI (tx k) ∧ tx k < 256
def RW (I M : SI) (rl : Nat) : Prop := rl ≤ 16 ∧ I 59 10 = nI rl ∧ M 0 36 = nI rl ∧ ∀ k, k < rl → I 60 k = M 20 k
def IM (I M : SI) : Prop := (I 59 11 = 0 ∧ M 0 38 = 0) ∨ (I 59 11 = 1 ∧ M 0 38 = 1 ∧ ∃ (b : NN) (st wn te : Nat), OkA b st wn te ∧ XF I 15 b st wn te ∧ KF (M 21) 0 b st wn te)
def Ro (I : SI) (M : SI) (a : NN) (st wn te tl : Nat) (tx : Nat → Nat) (rl : Nat) : Prop := OkA a st wn te ∧ XF I 0 a st wn te ∧ MF M a st wn te ∧ TX I M tl tx ∧ RW I M rl ∧ (∀ k, k < 6 → I 61 k = M 1 (k + 1)) ∧ (∀ k, k < 8 → M 3 k = nI (mostN k)) ∧ IM I M ∧ I 48 0 = nI 0
def Rl (I : SI) (_ : SJ) (M : SI) (_ : SJ) : Prop := ∃ (a : NN) (st wn te tl : Nat) (tx : Nat → Nat) (rl : Nat), Ro I M a st wn te tl tx rl
/-- scratch alone has changed -/
def SX (I I' : SI) : Prop := (∀ z, (z < 47 ∨ 58 < z) → I' z = I z) ∧ I' 48 0 = I 48 0
def SM (M M' : SI) : Prop := (∀ z, z ≠ 0 → z ≠ 18 → M' z = M z) ∧ ∀ j, (j = 7 ∨ j = 8 ∨ j = 14 ∨ j = 21 ∨ j = 36 ∨ j = 38) → M' 0 j = M 0 j
theorem SX.rf {I : SI} : SX I I := ⟨fun _ _ => rfl, rfl⟩
theorem SX.tr {I I' I2 : SI} (h : SX I I') (h2 : SX I' I2) : SX I I2 := ⟨fun z a => (h2.1 z a).trans (h.1 z a), h2.2.trans h.2⟩
theorem SM.rf {I : SI} : SM I I := ⟨fun _ _ _ => rfl, fun _ _ => rfl⟩
theorem SM.tr {I I' I2 : SI} (h : SM I I') (h2 : SM I' I2) : SM I I2 := ⟨fun z a b => (h2.1 z a b).trans (h.1 z a b), fun j a => (h2.2 j a).trans (h.2 j a)⟩
theorem FrL.sx {I I' : SI} (h : FrL I I') : SX I I' := ⟨fun z hz => h.1 z (by omega), h.2⟩
theorem FrB.sx {I I' : SI} {J J' : SJ} (h : FrB I I' J J') : SX I I' := ⟨fun z hz => h.1 z (by omega), by rw [h.1 48 (by omega)]⟩
theorem XE.at {I I' : SI} {q st wn : Nat} {a : NN} (h : XE I q a st wn) (e : ∀ z, q ≤ z → z < q + 15 → I' z = I z) : XE I' q a st wn := by
  obtain ⟨h1, h2, h3, h4, h5⟩ := h
  refine ⟨fun k hk => ?_, fun k hk => ?_, fun k hk => ?_, ?_, ?_⟩
  · rw [e (q + 1) (by omega) (by omega)]; exact h1 k hk
  · rw [e (q + 2) (by omega) (by omega), e (q + 3) (by omega) (by omega)]; exact h2 k hk
  · rw [e (q + 4) (by omega) (by omega), e (q + 5) (by omega) (by omega)]; exact h3 k hk
  · rw [e q (by omega) (by omega)]; exact h4
  · rw [e q (by omega) (by omega)]; exact h5
theorem XF.at {I I' : SI} {q st wn te : Nat} {a : NN} (h : XF I q a st wn te) (ht : te ≤ 8) (e : ∀ z, q ≤ z → z < q + 15 → I' z = I z) : XF I' q a st wn te := by
  obtain ⟨h1, h2, h3⟩ := h
  refine ⟨h1.at e, fun i hi => ?_, ?_⟩
  · unfold XT
    rw [e (q + 7 + i) (by omega) (by omega)]
    exact h2 i hi
  · rw [e q (by omega) (by omega)]; exact h3
theorem MF.sm {M M' : SI} {st wn te : Nat} {a : NN} (h : MF M a st wn te) (e : SM M M') : MF M' a st wn te := by
  obtain ⟨⟨h1, h2, h3, h4, h5⟩, h6, h7⟩ := h
  refine ⟨⟨fun k hk => ?_, fun k hk => ?_, fun k hk => ?_, ?_, ?_⟩, fun i hi => ?_, ?_⟩
  · rw [e.1 2 (by omega) (by omega)]; exact h1 k hk
  · rw [e.1 4 (by omega) (by omega), e.1 5 (by omega) (by omega)]; exact h2 k hk
  · rw [e.1 6 (by omega) (by omega), e.1 7 (by omega) (by omega)]; exact h3 k hk
  · rw [e.2 7 (by omega)]; exact h4
  · rw [e.2 8 (by omega)]; exact h5
  · rw [e.1 13 (by omega) (by omega), e.1 14 (by omega) (by omega), e.1 15 (by omega) (by omega), e.1 16 (by omega) (by omega)]; exact h6 i hi
  · rw [e.2 21 (by omega)]; exact h7
theorem Ro.same {I I' M M' : SI} {a : NN} {st wn te tl rl : Nat} {tx : Nat → Nat} (h : Ro I M a st wn te tl tx rl) (hx : SX I I') (hm : SM M M') : Ro I' M' a st wn te tl tx rl := by
  obtain ⟨hO, hX, hM, hT, hW, hr, ht, hi, h48⟩ := h
  refine ⟨hO, hX.at hO.2.2.1 (fun z _ hz => hx.1 z (by omega)), hM.sm hm, ?_, ?_, fun k hk => ?_, fun k hk => ?_, ?_, hx.2.trans h48⟩
  · refine ⟨hT.1, by rw [hx.1 45 (by omega)]; exact hT.2.1, by rw [hm.2 14 (by omega)]; exact hT.2.2.1, fun k hk => ?_⟩
    rw [hx.1 46 (by omega), hm.1 8 (by omega) (by omega)]
    exact hT.2.2.2 k hk
  · refine ⟨hW.1, by rw [hx.1 59 (by omega)]; exact hW.2.1, by rw [hm.2 36 (by omega)]; exact hW.2.2.1, fun k hk => ?_⟩
    rw [hx.1 60 (by omega), hm.1 20 (by omega) (by omega)]
    exact hW.2.2.2 k hk
  · rw [hx.1 61 (by omega), hm.1 1 (by omega) (by omega)]
    exact hr k hk
  · rw [hm.1 3 (by omega) (by omega)]
    exact ht k hk
  · unfold IM
    rw [hx.1 59 (by omega), hm.2 38 (by omega), hm.1 21 (by omega) (by omega)]
    rcases hi with h1 | ⟨h1, h2, b, st', wn', te', g1, g2, g3⟩
    · exact Or.inl h1
    · exact Or.inr ⟨h1, h2, b, st', wn', te', g1, g2.at g1.2.2.1 (fun z _ hz => hx.1 z (by omega)), g3⟩
section RF
variable {I M : SI} {J N J' N' : SJ} {v : Int32} {k : Nat}
theorem Rl.same {I' M' : SI} (h : Rl I J M N) (hx : SX I I') (hm : SM M M') : Rl I' J' M' N' := by
  obtain ⟨a, st, wn, te, tl, tx, rl, h⟩ := h
  exact ⟨a, st, wn, te, tl, tx, rl, h.same hx hm⟩
/-- a REFUSAL more -/
def rI (I : SI) (k : Nat) : SI := u1 I 61 (upd (I 61) k (I 61 k + 1))
def rM (M : SI) (k : Nat) : SI := u1 M 1 (upd (M 1) (k + 1) (M 1 (k + 1) + 1))
theorem Rl.ref (h : Rl I J M N) (hk : k < 6) : Rl (rI I k) J' (rM M k) N' := by
  obtain ⟨a, st, wn, te, tl, tx, rl, hO, hX, hM, hT, hW, hr, ht, hi, h48⟩ := h
  have ex : ∀ z, z ≠ 61 → rI I k z = I z := fun z hz => u1_ne hz
  have em : ∀ z, z ≠ 1 → rM M k z = M z := fun z hz => u1_ne hz
  refine ⟨a, st, wn, te, tl, tx, rl, hO, hX.at hO.2.2.1 (fun z _ hz => ex z (by omega)), ?_, ?_, ?_, fun j hj => ?_, fun j hj => ?_, ?_, by rw [ex 48 (by omega)]; exact h48⟩
  · obtain ⟨⟨h1, h2, h3, h4, h5⟩, h6, h7⟩ := hM
    refine ⟨⟨fun k hk => ?_, fun k hk => ?_, fun k hk => ?_, ?_, ?_⟩, fun i hi => ?_, ?_⟩
    · rw [em 2 (by omega)]; exact h1 k hk
    · rw [em 4 (by omega), em 5 (by omega)]; exact h2 k hk
    · rw [em 6 (by omega), em 7 (by omega)]; exact h3 k hk
    · rw [em 0 (by omega)]; exact h4
    · rw [em 0 (by omega)]; exact h5
    · rw [em 13 (by omega), em 14 (by omega), em 15 (by omega), em 16 (by omega)]; exact h6 i hi
    · rw [em 0 (by omega)]; exact h7
  · refine ⟨hT.1, by rw [ex 45 (by omega)]; exact hT.2.1, by rw [em 0 (by omega)]; exact hT.2.2.1, fun k hk => ?_⟩
    rw [ex 46 (by omega), em 8 (by omega)]
    exact hT.2.2.2 k hk
  · refine ⟨hW.1, by rw [ex 59 (by omega)]; exact hW.2.1, by rw [em 0 (by omega)]; exact hW.2.2.1, fun k hk => ?_⟩
    rw [ex 60 (by omega), em 20 (by omega)]
    exact hW.2.2.2 k hk
  · unfold rI rM
    rw [u1_at, u1_at]
    unfold upd
    by_cases c : j = k
    · subst c
      rw [if_pos rfl, if_pos rfl, hr j hj]
    · rw [if_neg c, if_neg (by omega)]
      exact hr j hj
  · rw [em 3 (by omega)]
    exact ht j hj
  · unfold IM
    rw [ex 59 (by omega), em 0 (by omega), em 21 (by omega)]
    rcases hi with h1 | ⟨h1, h2, b, st', wn', te', g1, g2, g3⟩
    · exact Or.inl h1
    · exact Or.inr ⟨h1, h2, b, st', wn', te', g1, g2.at g1.2.2.1 (fun z _ hz => ex z (by omega)), g3⟩
theorem refX (hv : -v = nI (k + 1)) (hk : k < 6) : F_X7_refuse I J v = some (v, rI I k, J) := by
  unfold F_X7_refuse
  have e1 : (-v) - (1 : Int32) = nI k := by
    rw [hv]
    exact pk_sub (a := k + 1) (b := 1) (by omega)
  rw [e1, pAt (by omega) (by omega)]
  simp only [Option.bind_some]
  rw [pPut (by omega) (by omega)]
  rfl
theorem refXT (hv : -v = nI (k + 1)) (hk : k < 6) : F_X7_refuseAsTold I J v = some ((1000000000 : Int32) - v, rI I k, J) := by
  unfold F_X7_refuseAsTold
  rw [refX hv hk]
  rfl
theorem refXL (hv : -v = nI (k + 1)) (hk : k < 6) : F_X7_refuseAsToldLong I J v = some ((4000000000000000000 : Int64) - v.toInt64, rI I k, J) := by
  unfold F_X7_refuseAsToldLong
  rw [refX hv hk]
  rfl
theorem refM (hv : -v = nI (k + 1)) (hk : k < 6) : F_X8_no M N v = some (v, rM M k, N) := by
  unfold F_X8_no
  rw [hv, if_pos (gin_nI (by omega) (by omega)), if_pos (gin_nI (by omega) (by omega)), nI_clamp (by omega)]
  rfl
theorem refMT (hv : -v = nI (k + 1)) (hk : k < 6) : F_X8_lower M N v = some ((1000000000 : Int32) - v, rM M k, N) := by
  unfold F_X8_lower
  rw [hv, if_pos (gin_nI (by omega) (by omega)), if_pos (gin_nI (by omega) (by omega)), nI_clamp (by omega)]
  rfl
theorem refML (hv : -v = nI (k + 1)) (hk : k < 6) : F_X8_noLong M N v = some ((4000000000000000000 : Int64) - v.toInt64, rM M k, N) := by
  unfold F_X8_noLong
  rw [hv, if_pos (gin_nI (by omega) (by omega)), if_pos (gin_nI (by omega) (by omega)), nI_clamp (by omega)]
  rfl
/-- which REFUSAL: its row -/
def kOf (v : Int32) : Nat := (-v).toNatClampNeg - 1
theorem kOf_ok (h : v = -1 ∨ v = -2 ∨ v = -3 ∨ v = -4 ∨ v = -6) : -v = nI (kOf v + 1) ∧ kOf v < 6 := by
  rcases h with rfl | rfl | rfl | rfl | rfl <;> exact ⟨by decide, by decide⟩
theorem bNo (h : Rl I J M N) (hv : v = -1 ∨ v = -2 ∨ v = -3 ∨ v = -4 ∨ v = -6) : ∃ (I1 M1 : SI), F_X7_refuse I J v = some (v, I1, J) ∧ F_X8_no M N v = some (v, M1, N) ∧ Rl I1 J M1 N :=
  ⟨_, _, refX (kOf_ok hv).1 (kOf_ok hv).2, refM (kOf_ok hv).1 (kOf_ok hv).2, h.ref (kOf_ok hv).2⟩
theorem bNoT (h : Rl I J M N) (hv : v = -1 ∨ v = -2 ∨ v = -3 ∨ v = -4 ∨ v = -6) : ∃ (I1 M1 : SI), F_X7_refuseAsTold I J v = some ((1000000000 : Int32) - v, I1, J) ∧ F_X8_lower M N v = some ((1000000000 : Int32) - v, M1, N) ∧ Rl I1 J M1 N :=
  ⟨_, _, refXT (kOf_ok hv).1 (kOf_ok hv).2, refMT (kOf_ok hv).1 (kOf_ok hv).2, h.ref (kOf_ok hv).2⟩
theorem bNoL (h : Rl I J M N) (hv : v = -1 ∨ v = -2 ∨ v = -3 ∨ v = -4 ∨ v = -6) : ∃ (I1 M1 : SI), F_X7_refuseAsToldLong I J v = some ((4000000000000000000 : Int64) - v.toInt64, I1, J) ∧ F_X8_noLong M N v = some ((4000000000000000000 : Int64) - v.toInt64, M1, N) ∧ Rl I1 J M1 N :=
  ⟨_, _, refXL (kOf_ok hv).1 (kOf_ok hv).2, refML (kOf_ok hv).1 (kOf_ok hv).2, h.ref (kOf_ok hv).2⟩
/-- the refusal of a number that must be lo .. hi -/
def rng (v lo hi : Int32) : Int32 := if v < lo then -4 else if hi < v then -6 else 0
theorem rng_c (v lo hi : Int32) : (rng v lo hi = 0 ∧ lo ≤ v ∧ v ≤ hi) ∨ (rng v lo hi = -4 ∧ v < lo) ∨ (rng v lo hi = -6 ∧ lo ≤ v ∧ hi < v) := by
  unfold rng
  by_cases c1 : v < lo
  · rw [if_pos c1]
    exact Or.inr (Or.inl ⟨rfl, c1⟩)
  · rw [if_neg c1]
    by_cases c2 : hi < v
    · rw [if_pos c2]
      exact Or.inr (Or.inr ⟨rfl, Int32.not_lt.mp c1, c2⟩)
    · rw [if_neg c2]
      exact Or.inl ⟨rfl, Int32.not_lt.mp c1, Int32.not_lt.mp c2⟩
theorem rngX (v lo hi : Int32) : F_X7_inRange v lo hi = some (rng v lo hi) := by
  unfold F_X7_inRange rng
  by_cases c1 : v < lo
  · rw [if_pos c1, if_neg (Int32.not_le.mpr c1)]
  · rw [if_neg c1, if_pos (Int32.not_lt.mp c1)]
    by_cases c2 : hi < v
    · rw [if_pos c2, if_neg (Int32.not_le.mpr c2)]
    · rw [if_neg c2, if_pos (Int32.not_lt.mp c2)]
theorem rngM (v lo hi : Int32) : F_X8_bound v lo hi = some (rng v lo hi) := by
  unfold F_X8_bound rng
  by_cases c1 : v < lo
  · rw [if_pos c1, if_neg (Int32.not_le.mpr c1)]
  · rw [if_neg c1, if_pos (Int32.not_lt.mp c1)]
    by_cases c2 : hi < v
    · rw [if_pos c2, if_neg (Int32.not_le.mpr c2)]
    · rw [if_neg c2, if_pos (Int32.not_lt.mp c2)]
theorem inM (v lo hi : Int32) : F_X8_isIn v lo hi = some (if v < lo then 0 else if hi < v then 0 else 1) := by
  unfold F_X8_isIn
  by_cases c1 : v < lo
  · rw [if_pos c1, if_pos c1]
  · rw [if_neg c1, if_neg c1]
    by_cases c2 : hi < v
    · rw [if_pos c2, if_pos c2]
    · rw [if_neg c2, if_neg c2]
theorem of_rng {hi : Int32} {n : Nat} (hh : hi.toInt = n) (h0 : (0 : Int32) ≤ v) (h1 : v ≤ hi) : ∃ j : Nat, j ≤ n ∧ v = nI j := nI_of2 hh (Int32.not_lt.mpr h0) h1
end RF
section RC
variable {I M : SI} {J N : SJ} {a : NN} {st wn te tl rl : Nat} {tx : Nat → Nat}
theorem termC (h : Ro I M a st wn te tl tx rl) (v : Int32) : (F_X1_termAt 0 I J v = some none ∧ F_X8_isTerm M N v = some 0) ∨ ∃ i, i < te ∧ v = nI i ∧ F_X1_termAt 0 I J v = some (some (7 + i)) ∧ F_X8_isTerm M N v = some 1 := by
  obtain ⟨hO, hX, hM, -⟩ := h
  have ht := hO.2.2.1
  unfold F_X1_termAt F_X8_isTerm
  rw [hX.2.2, hM.2.2]
  by_cases c1 : v < 0
  · rw [if_pos c1, if_pos c1]
    exact Or.inl ⟨rfl, rfl⟩
  · rw [if_neg c1, if_neg c1]
    obtain ⟨i, hi, rfl⟩ := nI_of c1
    by_cases c2 : te ≤ i
    · rw [if_pos (nI_le c2 hi), if_pos (nI_le c2 hi)]
      exact Or.inl ⟨rfl, rfl⟩
    · rw [if_neg (nI_ge (by omega) (by omega)), if_neg (nI_ge (by omega) (by omega)), if_neg (show ¬ (8 : Int32) ≤ nI i from nI_ge (b := 8) (by omega) (by omega)), if_pos (gin_nI (by omega) (by omega)), nI_clamp hi]
      exact Or.inr ⟨i, by omega, rfl, rfl, rfl⟩
theorem painsC (h : Ro I M a st wn te tl tx rl) (I' : SI) (hI : I' 0 = I 0) (v : Int32) : (F_X1_hasPains 0 I' J v = some 0 ∧ F_X8_isIn v 0 (M 0 7) = some 0) ∨ ∃ p, p ≤ st ∧ v = nI p ∧ F_X1_hasPains 0 I' J v = some 1 ∧ F_X8_isIn v 0 (M 0 7) = some 1 := by
  obtain ⟨hO, hX, hM, -⟩ := h
  have hs := hO.1.1
  unfold F_X1_hasPains
  rw [inM, hI, hX.1.2.2.2.1, hM.1.2.2.2.1]
  by_cases c1 : v < 0
  · rw [if_pos c1, if_pos c1]
    exact Or.inl ⟨rfl, rfl⟩
  · rw [if_neg c1, if_neg c1]
    obtain ⟨i, hi, rfl⟩ := nI_of c1
    by_cases c2 : st < i
    · rw [if_pos (nI_lt c2 hi), if_pos (nI_lt c2 hi)]
      exact Or.inl ⟨rfl, rfl⟩
    · rw [if_neg (nI_nlt (by omega) (by omega)), if_neg (nI_nlt (by omega) (by omega))]
      exact Or.inr ⟨i, by omega, rfl, rfl, rfl⟩
theorem whoC (v : Int32) : (F_X7_isWho v = some 0 ∧ F_X8_isIn v 0 1 = some 0) ∨ ∃ w, w < 2 ∧ v = nI w ∧ F_X7_isWho v = some 1 ∧ F_X8_isIn v 0 1 = some 1 := by
  unfold F_X7_isWho
  rw [inM]
  by_cases c1 : v < 0
  · rw [if_pos c1, if_neg (fun q => by rw [q] at c1; exact absurd c1 (by decide)), if_neg (fun q => by rw [q] at c1; exact absurd c1 (by decide))]
    exact Or.inl ⟨rfl, rfl⟩
  · rw [if_neg c1]
    obtain ⟨i, hi, rfl⟩ := nI_of c1
    by_cases c2 : 1 < i
    · rw [if_pos (show (1 : Int32) < nI i from nI_lt (a := 1) c2 hi), if_neg (fun q => by have := (nI_eL (n := 0) rfl hi (by omega)).mp q; omega), if_neg (fun q => by have := (nI_eL (n := 1) rfl hi (by omega)).mp q; omega)]
      exact Or.inl ⟨rfl, rfl⟩
    · rw [if_neg (show ¬ (1 : Int32) < nI i from nI_nlt (b := i) (a := 1) (by omega) (by omega))]
      refine Or.inr ⟨i, by omega, rfl, ?_, rfl⟩
      by_cases c3 : i = 0
      · subst c3
        exact if_pos rfl
      · rw [show i = 1 by omega]
        exact (if_neg (by decide)).trans (if_pos rfl)
theorem takeM (h : Ro I M a st wn te tl tx rl) {i : Nat} (hi : i < te) : ∃ M' : SI, F_X8_takesTerm M N (nI i) = some (M', N) ∧ HD M' (a 5 i) (a 6 i) (a 7 i) (a 8 i) 0 0 ∧ SM M M' := by
  obtain ⟨hO, hX, hM, -⟩ := h
  have ht := hO.2.2.1
  obtain ⟨m1, m2, m3, m4⟩ := hM.2.1 i hi
  unfold F_X8_takesTerm
  rw [if_pos (gin_nI (by omega) (by omega)), if_pos (gin_nI (by omega) (by omega)), if_pos (gin_nI (by omega) (by omega)), if_pos (gin_nI (by omega) (by omega)), nI_clamp (by omega)]
  refine ⟨_, rfl, ⟨m1, m2, m3, m4, rfl, rfl⟩, ⟨fun z z0 _ => ?_, fun j hj => ?_⟩⟩
  · exact (u1_ne z0).trans ((u1_ne z0).trans ((u1_ne z0).trans ((u1_ne z0).trans ((u1_ne z0).trans (u1_ne z0)))))
  · rcases hj with rfl | rfl | rfl | rfl | rfl | rfl <;> rfl
/-- what a SEASON without DUNG, GOOD and HAIL is, in the reference's words -/
theorem nwX0 {a : NN} {wn : Nat} (hs : sm (a 3) wn ≤ 100) : nwX a wn 0 = nW a wn ∧ (∀ w, chX a wn 0 w = chA a wn w) ∧ ∀ w, tiX a wn 0 w = tiA a wn w := by
  have e0 : oX 0 = 0 := rfl
  have ec : ∀ i, ccX a 0 i = a 3 i := fun i => by unfold ccX; omega
  have es : sm (ccX a 0) wn = sm (a 3) wn := sm_congr wn (fun k _ => ec k)
  have el : lfX a wn 0 = 100 - sm (a 3) wn := by unfold lfX; rw [es]
  refine ⟨?_, fun w => ?_, fun w => ?_⟩
  · unfold nwX nW
    rw [e0, el]
    by_cases c : sm (a 3) wn < 100
    · rw [if_pos c, if_neg (by omega)]; omega
    · rw [if_neg c, if_pos (by omega)]; omega
  · unfold chX chA
    rw [e0, if_neg (by omega), el, ec]
    by_cases c : w < wn
    · rw [if_pos (by omega), if_pos c]; rfl
    · rw [if_neg (by omega), if_neg c]
  · unfold tiX tiA
    rw [e0, if_neg (by omega)]
    by_cases c : w < wn
    · rw [if_pos (by omega), if_pos c]; rfl
    · rw [if_neg (by omega), if_neg c]
theorem hvX0 {a : NN} {wn d gd p w : Nat} (hs : sm (a 3) wn ≤ 100) : hvX a wn d gd 0 p w = harv a wn d gd p w := by
  unfold hvX harv
  rw [(nwX0 hs).2.2 w]
theorem sl_fun {f f' : Nat → Int64} (h : ∀ k, f k = f' k) : f = f' := funext h
/-- a SEASON laid, in the reference's words -/
theorem layR (h : Ro I M a st wn te tl tx rl) {d gd : Nat} (hd : d ≤ 3) (hg : gd ≤ 9) {I0 : SI} (hs : SX I I0) (J : SJ) :
    ∃ I' : SI, F_X4_lay I0 J (nI d) (nI gd) (0 : Int32) = some (I', J) ∧ SX I I' ∧ XE I' 0 a st wn ∧ SL I' st (nW a wn) 0 (chA a wn) (fun p w => harv a wn d gd p w) (sm (a 1)) ∧ ∀ w, w < nW a wn → I' 50 w = nI (tiA a wn w) := by
  obtain ⟨hO, hX, hM, hT, hW, hr, ht, hi, h48⟩ := h
  obtain ⟨e1, e2, e3⟩ := nwX0 (a := a) (wn := wn) hO.1.2.2.2.2.2
  obtain ⟨I', r1, r2, r3, r4⟩ := xLay (I := I0) (J := J) (hl := 0) hO.1 hO.2.1 hd hg (by omega) (hX.1.fr (fun z hz => hs.1 z (by omega))) (hs.2.trans h48)
  refine ⟨I', r1, hs.tr r2.sx, hX.1.fr (fun z hz => (r2.1 z (by omega)).trans (hs.1 z (by omega))), ?_, fun w hw => ?_⟩
  · obtain ⟨g1, g2, g3, g4, g5, g6⟩ := r3
    refine ⟨g1, by rw [g2, e1], g3, fun w hw => by rw [g4 w (by rw [e1]; exact hw), e2], g5, fun p w hp hw => by rw [g6 p w hp (by rw [e1]; exact hw), hvX0 hO.1.2.2.2.2.2]⟩
  · rw [r4 w (by rw [e1]; exact hw), e3]
end RC
