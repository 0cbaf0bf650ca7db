/-- OWN: the worth with q STEPS' worth of wages behind p -/
def ownV (a : NN) (wn k A B Q : Nat) (v : Int32) (p q : Nat) : Int64 :=
  -(1000 * (nI (sm (a 1) (p + q))).toInt64) + wsum (nW a wn) (chA a wn) (fun w => mind a 0 (has a k A B Q 0 (harv a wn 0 0 p w) 0 + v * nI q))
def oq (f : Nat → Nat → Int64) (p : Nat) : Nat → Nat → Nat × Int64 → Nat × Int64
  | 0, _, s => s
  | n + 1, q, s => oq f p n (q + 1) (if f p q ≤ s.2 then s else (10 * p + q, f p q))
def oo (f : Nat → Nat → Int64) (st : Nat) : Nat → Nat → Nat × Int64 → Nat × Int64
  | 0, _, s => s
  | n + 1, p, s => oo f st n (p + 1) (oq f p (st + 1 - p) 0 s)
theorem oq_le {f : Nat → Nat → Int64} {p st : Nat} : ∀ (n q : Nat) (s : Nat × Int64), p + q + n = st + 1 → s.1 ≤ 10 * st → (oq f p n q s).1 ≤ 10 * st := by
  intro n
  induction n with
  | zero => intro q s _ h; exact h
  | succ n ih =>
    intro q s hq h
    refine ih (q + 1) _ (by omega) ?_
    by_cases c : f p q ≤ s.2
    · rw [if_pos c]; exact h
    · rw [if_neg c]
      show 10 * p + q ≤ _
      omega
section S8
variable {I M : SI} {J N : SJ} {a : NN} {st wn te tl rl k A B Q t nw y : Nat} {tx : Nat → Nat}
theorem wsum_s (n : Nat) (ch : Nat → Nat) (f : Nat → Int32) : wsum (n + 1) ch f = wsum n ch f + (nI (ch n)).toInt64 * (f n).toInt64 := rfl
theorem xOwnW_l (hO : OkF a st wn) (hX : XE I 0 a st wn) (hT : OkT k A B Q) (hXT : XT I t k A B Q) (hS : SL I st (nW a wn) 0 (chA a wn) (fun p w => harv a wn 0 0 p w) (sm (a 1))) {p : Nat} (q : Int32) (v : Int32) (hp : p ≤ st) (s0 : Int64) :
    ∀ (j n i : Nat), i + j = nW a wn → j < n → FL_X4_worthWithOwn_13 n I J t (nI p) q v (s0 + wsum i (chA a wn) (fun w => mind a 0 (has a k A B Q 0 (harv a wn 0 0 p w) 0 + v * q))) (nI i) = some (s0 + wsum (nW a wn) (chA a wn) (fun w => mind a 0 (has a k A B Q 0 (harv a wn 0 0 p w) 0 + v * q))) := by
  have hst := hO.1
  have hnw := (nW_le hO).1
  obtain ⟨g1, g2, g3, g4, g5, g6⟩ := hS
  intro j
  induction j with
  | zero =>
    intro n i hi hn
    obtain ⟨n, rfl⟩ := suc hn
    rw [FL_X4_worthWithOwn_13, g2, if_pos (nI_le (by omega) (by omega)), show i = nW a wn by omega]
  | succ j ih =>
    intro n i hi hn
    obtain ⟨n, rfl⟩ := suc hn
    have e1 : F_X4_harvestOf I J (nI p) (nI i) = some (nI (harv a wn 0 0 p i)) := by
      unfold F_X4_harvestOf
      have e2 : nI p * (8 : Int32) + nI i = nI (p * 8 + i) := by
        show nI p * nI 8 + nI i = _
        rw [pk_mul, nI_add]
      rw [e2, pAt (by omega) (by omega), g6 p i hp (by omega)]
      rfl
    have e3 : F_X4_chanceOf I J (nI i) = some (nI (chA a wn i)) := by
      unfold F_X4_chanceOf
      rw [pAt (by omega) (by omega), g4 i (by omega)]
      rfl
    have e4 : F_X1_bushelsOf 0 t I J (nI (harv a wn 0 0 p i)) (nI 0) (0 : Int32) = some (has a k A B Q 0 (harv a wn 0 0 p i) 0) := xBush (who := 0) hO hX hT hXT (by omega) (harv_le hO (by omega) (by omega) hp).2 (by omega)
    have e5 : F_X1_mindOf 0 I J (0 : Int32) (has a k A B Q 0 (harv a wn 0 0 p i) 0 + v * q) = some (mind a 0 (has a k A B Q 0 (harv a wn 0 0 p i) 0 + v * q)) := xMind (who := 0) hO hX (by omega) _
    rw [FL_X4_worthWithOwn_13, g2, if_neg (nI_ge (by omega) (by omega)), g3]
    simp only [e1, e4, e3, e5, Option.bind_some]
    rw [nI_1, Int64.add_assoc, ← wsum_s i (chA a wn) (fun w => mind a 0 (has a k A B Q 0 (harv a wn 0 0 p w) 0 + v * q))]
    exact ih n (i + 1) (by omega) (by omega)
theorem xOwnW (hO : OkF a st wn) (hX : XE I 0 a st wn) (hT : OkT k A B Q) (hXT : XT I t k A B Q) (hS : SL I st (nW a wn) 0 (chA a wn) (fun p w => harv a wn 0 0 p w) (sm (a 1))) {p q : Nat} (v : Int32) (hp : p + q ≤ st) :
    F_X4_worthWithOwn t I J (nI p) (nI q) v = some (ownV a wn k A B Q v p q) := by
  have hst := hO.1
  have hnw := (nW_le hO).1
  have e1 : F_X4_costWorth I J (nI (p + q)) = some (1000 * (nI (sm (a 1) (p + q))).toInt64) := by
    unfold F_X4_costWorth
    rw [pAt (by omega) (by omega), hS.2.2.2.2.1 (p + q) hp]
    rfl
  have e2 := xOwnW_l (J := J) hO hX hT hXT hS (nI q) v (p := p) (by omega) (-(1000 * (nI (sm (a 1) (p + q))).toInt64)) (nW a wn) 3000 0 (by omega) (by omega)
  rw [show wsum 0 (chA a wn) (fun w => mind a 0 (has a k A B Q 0 (harv a wn 0 0 p w) 0 + v * nI q)) = 0 from rfl, Int64.add_zero, show nI 0 = (0 : Int32) from rfl] at e2
  unfold F_X4_worthWithOwn
  simp only [nI_add, e1, Option.bind_some]
  exact e2
theorem xOwnQ_l (hO : OkF a st wn) (hX : XE I 0 a st wn) (hT : OkT k A B Q) (hXT : XT I t k A B Q) (hS : SL I st (nW a wn) 0 (chA a wn) (fun p w => harv a wn 0 0 p w) (sm (a 1))) {p : Nat} (v : Int32) (hp : p ≤ st) :
    ∀ (j n q : Nat) (s : Nat × Int64), p + q + j = st + 1 → j < n → FS_X4_bestWithOwn_27 n I J t v (nI s.1) s.2 (nI p) (nI q) = some (v, nI (oq (ownV a wn k A B Q v) p j q s).1, (oq (ownV a wn k A B Q v) p j q s).2, nI p, nI (q + j)) := by
  have hst := hO.1
  intro j
  induction j with
  | zero =>
    intro n q s hq hn
    obtain ⟨n, rfl⟩ := suc hn
    rw [FS_X4_bestWithOwn_27, hS.1, nI_add, if_pos (nI_lt (by omega) (by omega))]
    rfl
  | succ j ih =>
    intro n q s hq hn
    obtain ⟨n, rfl⟩ := suc hn
    have e0 : (10 : Int32) * nI p + nI q = nI (10 * p + q) := by
      show nI 10 * nI p + nI q = _
      rw [pk_mul, nI_add]
    rw [FS_X4_bestWithOwn_27, hS.1, nI_add, if_neg (nI_nlt (by omega) (by omega)), xOwnW hO hX hT hXT hS v (by omega)]
    simp only [Option.bind_some, e0, nI_1]
    by_cases c : ownV a wn k A B Q v p q ≤ s.2
    · rw [if_pos c, ih n (q + 1) s (by omega) (by omega)]
      show _ = some (v, nI (oq (ownV a wn k A B Q v) p j (q + 1) (if ownV a wn k A B Q v p q ≤ s.2 then s else _)).1, (oq (ownV a wn k A B Q v) p j (q + 1) (if ownV a wn k A B Q v p q ≤ s.2 then s else _)).2, nI p, _)
      rw [if_pos c, show q + 1 + j = q + (j + 1) by omega]
    · rw [if_neg c, ih n (q + 1) (10 * p + q, ownV a wn k A B Q v p q) (by omega) (by omega)]
      show _ = some (v, nI (oq (ownV a wn k A B Q v) p j (q + 1) (if ownV a wn k A B Q v p q ≤ s.2 then s else _)).1, (oq (ownV a wn k A B Q v) p j (q + 1) (if ownV a wn k A B Q v p q ≤ s.2 then s else _)).2, nI p, _)
      rw [if_neg c, show q + 1 + j = q + (j + 1) by omega]
theorem xOwnP_l (hO : OkF a st wn) (hX : XE I 0 a st wn) (hT : OkT k A B Q) (hXT : XT I t k A B Q) (hS : SL I st (nW a wn) 0 (chA a wn) (fun p w => harv a wn 0 0 p w) (sm (a 1))) (v : Int32) :
    ∀ (j n p : Nat) (s : Nat × Int64), p + j = st + 1 → j < n → FL_X4_bestWithOwn_15 n I J t v (nI s.1) s.2 (nI p) = some (nI (oo (ownV a wn k A B Q v) st j p s).1) := by
  have hst := hO.1
  intro j
  induction j with
  | zero =>
    intro n p s hq hn
    obtain ⟨n, rfl⟩ := suc hn
    rw [FL_X4_bestWithOwn_15, hS.1, if_pos (nI_lt (by omega) (by omega))]
    rfl
  | succ j ih =>
    intro n p s hq hn
    obtain ⟨n, rfl⟩ := suc hn
    have e1 : FS_X4_bestWithOwn_27 3000 I J t v (nI s.1) s.2 (nI p) (0 : Int32) = _ := xOwnQ_l (J := J) hO hX hT hXT hS v (p := p) (by omega) (st + 1 - p) 3000 0 s (by omega) (by omega)
    rw [FL_X4_bestWithOwn_15, hS.1, if_neg (nI_nlt (by omega) (by omega)), e1]
    simp only [Option.bind_some, nI_1]
    exact ih n (p + 1) _ (by omega) (by omega)
theorem mOwnW_l (hO : OkF a st wn) (hM : ME M a st wn) (hH : HD M k A B Q 0 0) (hT : OkT k A B Q) {p : Nat} (q v c5 : Int32) (x5 : Int64) (hp : p ≤ st) (s0 : Int64) :
    ∀ (j n i : Nat), i + j = nW a wn → j < n → FS_X8_own_90 n M N v c5 x5 (nI p) q (s0 + wsum i (chA a wn) (fun w => mind a 0 (has a k A B Q 0 (harv a wn 0 0 p w) 0 + v * q))) (nI i) = some (M, N, v, c5, x5, nI p, q, s0 + wsum (nW a wn) (chA a wn) (fun w => mind a 0 (has a k A B Q 0 (harv a wn 0 0 p w) 0 + v * q)), nI (nW a wn)) := by
  have hnw := (nW_le hO).1
  intro j
  induction j with
  | zero =>
    intro n i hi hn
    obtain ⟨n, rfl⟩ := suc hn
    rw [FS_X8_own_90, mAllW hO hM, Option.bind_some, if_pos (nI_le (by omega) (by omega)), show i = nW a wn by omega]
  | succ j ih =>
    intro n i hi hn
    obtain ⟨n, rfl⟩ := suc hn
    have e4 : F_X8_hasOf M N (0 : Int32) (nI (harv a wn 0 0 p i)) (0 : Int32) = some (has a k A B Q 0 (harv a wn 0 0 p i) 0) := mHas (who := 0) (y := 0) hO hM hH hT (by omega) (harv_le hO (by omega) (by omega) hp).2 (by omega)
    have e5 : F_X8_mindOf M N (0 : Int32) (has a k A B Q 0 (harv a wn 0 0 p i) 0 + v * q) = some (mind a 0 (has a k A B Q 0 (harv a wn 0 0 p i) 0 + v * q)) := mMind (who := 0) hO hM (by omega) _
    rw [FS_X8_own_90, mAllW hO hM, Option.bind_some, if_neg (nI_ge (by omega) (by omega)), mChance hO hM (by omega), mReap hO hM hH (by omega) (by omega) hp (by omega)]
    simp only [e4, e5, Option.bind_some]
    rw [nI_1, Int64.add_assoc, ← wsum_s i (chA a wn) (fun w => mind a 0 (has a k A B Q 0 (harv a wn 0 0 p w) 0 + v * q))]
    exact ih n (i + 1) (by omega) (by omega)
theorem mOwnW (hO : OkF a st wn) (hM : ME M a st wn) (hH : HD M k A B Q 0 0) (hT : OkT k A B Q) {p q : Nat} (v c5 : Int32) (x5 : Int64) (hp : p ≤ st) :
    FS_X8_own_90 3000 M N v c5 x5 (nI p) (nI q) ((-1000 : Int64) * Int32.toInt64 (nI (sm (a 1) (p + q)))) (0 : Int32) = some (M, N, v, c5, x5, nI p, nI q, ownV a wn k A B Q v p q, nI (nW a wn)) := by
  have hnw := (nW_le hO).1
  have e2 := mOwnW_l (N := N) hO hM hH hT (nI q) v c5 x5 (p := p) hp ((-1000 : Int64) * Int32.toInt64 (nI (sm (a 1) (p + q)))) (nW a wn) 3000 0 (by omega) (by omega)
  rw [show wsum 0 (chA a wn) (fun w => mind a 0 (has a k A B Q 0 (harv a wn 0 0 p w) 0 + v * nI q)) = 0 from rfl, Int64.add_zero, show nI 0 = (0 : Int32) from rfl] at e2
  rw [e2]
  unfold ownV
  rw [show (-1000 : Int64) * Int32.toInt64 (nI (sm (a 1) (p + q))) = -(1000 * Int32.toInt64 (nI (sm (a 1) (p + q)))) from Int64.neg_mul _ _]
theorem mOwnQ_l (hO : OkF a st wn) (hM : ME M a st wn) (hH : HD M k A B Q 0 0) (hT : OkT k A B Q) {p : Nat} (v : Int32) (hp : p ≤ st) :
    ∀ (j n q : Nat) (s : Nat × Int64), p + q + j = st + 1 → j < n → s.1 ≤ 10 * st → FS_X8_own_59 n M N v (nI s.1) s.2 (nI p) (nI q) = some (M, N, v, nI (oq (ownV a wn k A B Q v) p j q s).1, (oq (ownV a wn k A B Q v) p j q s).2, nI p, nI (q + j)) := by
  have hst := hO.1
  intro j
  induction j with
  | zero =>
    intro n q s hq hn hs
    obtain ⟨n, rfl⟩ := suc hn
    rw [FS_X8_own_59, hM.2.2.2.1, nI_add, if_pos (nI_lt (by omega) (by omega))]
    rfl
  | succ j ih =>
    intro n q s hq hn hs
    obtain ⟨n, rfl⟩ := suc hn
    have e0 : (10 : Int32) * nI p + nI q = nI (10 * p + q) := by
      show nI 10 * nI p + nI q = _
      rw [pk_mul, nI_add]
    rw [FS_X8_own_59, hM.2.2.2.1, nI_add, if_neg (nI_nlt (by omega) (by omega)), mCost hO hM (by omega), Option.bind_some, mOwnW hO hM hH hT v (nI s.1) s.2 hp]
    simp only [Option.bind_some, e0, nI_1]
    rw [if_neg (nI_pos (by omega))]
    by_cases c : ownV a wn k A B Q v p q ≤ s.2
    · rw [if_neg (Int64.not_lt.mpr c), ih n (q + 1) s (by omega) (by omega) hs]
      show _ = some (M, N, v, nI (oq (ownV a wn k A B Q v) p j (q + 1) (if ownV a wn k A B Q v p q ≤ s.2 then s else _)).1, (oq (ownV a wn k A B Q v) p j (q + 1) (if ownV a wn k A B Q v p q ≤ s.2 then s else _)).2, nI p, _)
      rw [if_pos c, show q + 1 + j = q + (j + 1) by omega]
    · rw [if_pos (Int64.not_le.mp c), ih n (q + 1) (10 * p + q, ownV a wn k A B Q v p q) (by omega) (by omega) (by show 10 * p + q ≤ _; omega)]
      show _ = some (M, N, v, nI (oq (ownV a wn k A B Q v) p j (q + 1) (if ownV a wn k A B Q v p q ≤ s.2 then s else _)).1, (oq (ownV a wn k A B Q v) p j (q + 1) (if ownV a wn k A B Q v p q ≤ s.2 then s else _)).2, nI p, _)
      rw [if_neg c, show q + 1 + j = q + (j + 1) by omega]
theorem mOwnQ0 (hO : OkF a st wn) (hM : ME M a st wn) (hH : HD M k A B Q 0 0) (hT : OkT k A B Q) (v : Int32) :
    FS_X8_own_59 3000 M N v (-9 : Int32) (0 : Int64) (nI 0) (0 : Int32) = some (M, N, v, nI (oq (ownV a wn k A B Q v) 0 (st + 1) 0 (0, ownV a wn k A B Q v 0 0)).1, (oq (ownV a wn k A B Q v) 0 (st + 1) 0 (0, ownV a wn k A B Q v 0 0)).2, nI 0, nI (st + 1)) := by
  have hst := hO.1
  have e3 := mOwnQ_l (N := N) hO hM hH hT (p := 0) v (by omega) st 2999 1 (0, ownV a wn k A B Q v 0 0) (by omega) (by omega) (by show 0 ≤ _; omega)
  have e4 : FS_X8_own_90 3000 M N v (-9 : Int32) (0 : Int64) (nI 0) (nI 0) ((-1000 : Int64) * Int32.toInt64 (nI (sm (a 1) (0 + 0)))) (0 : Int32) = _ := mOwnW (N := N) hO hM hH hT v (-9) 0 (p := 0) (q := 0) (by omega)
  rw [show (0 : Int32) = nI 0 from rfl] at e4 ⊢
  rw [FS_X8_own_59, hM.2.2.2.1, nI_add, if_neg (nI_nlt (by omega) (by omega)), mCost hO hM (by omega), Option.bind_some, show (0 : Int32) = nI 0 from rfl, e4]
  simp only [Option.bind_some]
  rw [if_pos (by decide)]
  have e5 : oq (ownV a wn k A B Q v) 0 (st + 1) 0 (0, ownV a wn k A B Q v 0 0) = oq (ownV a wn k A B Q v) 0 st 1 (0, ownV a wn k A B Q v 0 0) := by
    show oq (ownV a wn k A B Q v) 0 st (0 + 1) (if ownV a wn k A B Q v 0 0 ≤ ownV a wn k A B Q v 0 0 then _ else _) = _
    rw [if_pos (Int64.le_refl _)]
  rw [e5]
  refine Eq.trans ?_ (e3.trans ?_)
  · rfl
  · rw [Nat.add_comm 1 st]
theorem mOwnP_l (hO : OkF a st wn) (hM : ME M a st wn) (hH : HD M k A B Q 0 0) (hT : OkT k A B Q) (v : Int32) :
    ∀ (j n p : Nat) (s : Nat × Int64), p + j = st + 1 → j < n → s.1 ≤ 10 * st → FL_X8_own_47 n M N v (nI s.1) s.2 (nI p) = some (nI (oo (ownV a wn k A B Q v) st j p s).1, M, N) := by
  have hst := hO.1
  intro j
  induction j with
  | zero =>
    intro n p s hq hn hs
    obtain ⟨n, rfl⟩ := suc hn
    rw [FL_X8_own_47, hM.2.2.2.1, if_pos (nI_lt (by omega) (by omega))]
    rfl
  | succ j ih =>
    intro n p s hq hn hs
    obtain ⟨n, rfl⟩ := suc hn
    have e1 : FS_X8_own_59 3000 M N v (nI s.1) s.2 (nI p) (0 : Int32) = _ := mOwnQ_l (N := N) hO hM hH hT v (p := p) (by omega) (st + 1 - p) 3000 0 s (by omega) (by omega) hs
    rw [FL_X8_own_47, hM.2.2.2.1, if_neg (nI_nlt (by omega) (by omega)), e1]
    simp only [Option.bind_some, nI_1]
    exact ih n (p + 1) _ (by omega) (by omega) (oq_le _ _ _ (by omega) hs)
theorem mOwn (hO : OkF a st wn) (hM : ME M a st wn) (hH : HD M k A B Q 0 0) (hT : OkT k A B Q) (v : Int32) :
    FL_X8_own_47 3000 M N v (-9 : Int32) (0 : Int64) (0 : Int32) = some (nI (oo (ownV a wn k A B Q v) st (st + 1) 0 (0, ownV a wn k A B Q v 0 0)).1, M, N) := by
  have hst := hO.1
  have e0 := mOwnQ0 (N := N) hO hM hH hT v
  have e1 := mOwnP_l (N := N) hO hM hH hT v st 2999 1 (oq (ownV a wn k A B Q v) 0 (st + 1) 0 (0, ownV a wn k A B Q v 0 0)) (by omega) (by omega) (oq_le _ _ _ (by omega) (by show 0 ≤ _; omega))
  have e2 : FL_X8_own_47 3000 M N v (-9 : Int32) (0 : Int64) (nI 0) = some (nI (oo (ownV a wn k A B Q v) st (st + 1) 0 (0, ownV a wn k A B Q v 0 0)).1, M, N) := by
    rw [FL_X8_own_47, hM.2.2.2.1, if_neg (nI_nlt (by omega) (by omega)), e0]
    simp only [Option.bind_some, nI_1]
    exact e1
  exact e2
theorem xOwn (hO : OkF a st wn) (hX : XE I 0 a st wn) (hT : OkT k A B Q) (hXT : XT I t k A B Q) (hS : SL I st (nW a wn) 0 (chA a wn) (fun p w => harv a wn 0 0 p w) (sm (a 1))) (v : Int32) :
    F_X4_bestWithOwn t I J v = some (nI (oo (ownV a wn k A B Q v) st (st + 1) 0 (0, ownV a wn k A B Q v 0 0)).1) := by
  have hst := hO.1
  have e0 : F_X4_worthWithOwn t I J (0 : Int32) (0 : Int32) v = some (ownV a wn k A B Q v 0 0) := xOwnW (J := J) (p := 0) (q := 0) hO hX hT hXT hS v (by omega)
  have e1 : FL_X4_bestWithOwn_15 3000 I J t v (0 : Int32) (ownV a wn k A B Q v 0 0) (0 : Int32) = _ := xOwnP_l (J := J) hO hX hT hXT hS v (st + 1) 3000 0 (0, ownV a wn k A B Q v 0 0) (by omega) (by omega)
  unfold F_X4_bestWithOwn
  rw [e0, Option.bind_some]
  exact e1
theorem st22 : St22 Rl := by
  intro I J M N v1 v2 hR
  obtain ⟨a, st, wn, te, tl, tx, rl, h⟩ := id hR
  rcases termC (J := J) (N := N) h v1 with ⟨hx, hm⟩ | ⟨i, hi, rfl, hx, hm⟩
  · obtain ⟨I1, M1, h1, h2, h3⟩ := bNo hR (v := -1) (by decide)
    exact ⟨_, I1, J, M1, N, (by simp only [F_X7_own, hx, Option.bind_some, h1] : F_X7_own I J v1 v2 = some ((-1 : Int32), I1, J)), by simp only [F_X8_own, hm, Option.bind_some, i00, ↓reduceIte, h2], h3⟩
  rcases rng_c v2 0 99 with ⟨r0, r1, r2⟩ | ⟨r4, _⟩ | ⟨r6, _, _⟩
  · obtain ⟨I', l1, l2, l3, l4, l5⟩ := layR (d := 0) (gd := 0) h (by omega) (by omega) SX.rf J
    have l1' : F_X4_lay I J (0 : Int32) (0 : Int32) (0 : Int32) = some (I', J) := l1
    obtain ⟨M1, t1, t2, t3⟩ := takeM (N := N) h hi
    have e1 := xOwn (J := J) h.1.1 l3 (h.1.2.2.2 i hi) (xtL h l2 hi) l4 v2
    have e2 := mOwn (N := N) h.1.1 (h.2.2.1.sm t3).1 t2 (h.1.2.2.2 i hi) v2
    exact ⟨_, I', J, M1, N, (by simp only [F_X7_own, hx, rngX, r0, Option.bind_some, ↓reduceIte, l1', e1] : F_X7_own I J (nI i) v2 = some (nI (oo (ownV a wn (a 5 i) (a 6 i) (a 7 i) (a 8 i) v2) st (st + 1) 0 (0, ownV a wn (a 5 i) (a 6 i) (a 7 i) (a 8 i) v2 0 0)).1, I', J)), by simp only [F_X8_own, hm, rngM, r0, Option.bind_some, i10, ↓reduceIte, t1, e2], hR.same l2 t3⟩
  · obtain ⟨I1, M1, h1, h2, h3⟩ := bNo hR (v := -4) (by decide)
    exact ⟨_, I1, J, M1, N, (by simp only [F_X7_own, hx, rngX, r4, Option.bind_some, i40, ↓reduceIte, h1] : F_X7_own I J (nI i) v2 = some (-4, I1, J)), by simp only [F_X8_own, hm, rngM, r4, Option.bind_some, i10, i40, ↓reduceIte, h2], h3⟩
  · obtain ⟨I1, M1, h1, h2, h3⟩ := bNo hR (v := -6) (by decide)
    exact ⟨_, I1, J, M1, N, (by simp only [F_X7_own, hx, rngX, r6, Option.bind_some, i60, ↓reduceIte, h1] : F_X7_own I J (nI i) v2 = some (-6, I1, J)), by simp only [F_X8_own, hm, rngM, r6, Option.bind_some, i10, i60, ↓reduceIte, h2], h3⟩
end S8
