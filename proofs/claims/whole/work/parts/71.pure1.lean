/-! ===== pure: the class's functions over a FIELD ===== -/
def XE (I : SI) (q : Nat) (a : NN) (st wn : Nat) : Prop := (∀ k, k < 8 → I (q + 1) k = nI (a 0 k)) ∧ (∀ k, k < st → I (q + 2) k = nI (a 1 k) ∧ I (q + 3) k = nI (a 2 k)) ∧ (∀ k, k < wn → I (q + 4) k = nI (a 3 k) ∧ I (q + 5) k = nI (a 4 k)) ∧ I q 6 = nI st ∧ I q 7 = nI wn
def XT (I : SI) (t k A B Q : Nat) : Prop := I t 0 = nI k ∧ I t 1 = nI A ∧ I t 2 = nI B ∧ I t 3 = nI Q
theorem pAt {n k : Nat} {f : Nat → Int32} (hk : k < n) (hn : n < 2 ^ 31) : F_X2_at n f (nI k) = some (f k) := by
  unfold F_X2_at
  rw [if_neg (nI_pos (by omega)), if_neg (show ¬ Int32.ofNat n ≤ nI k from nI_ge hk hn), if_pos (gin_nI hk hn), nI_clamp (by omega)]
theorem pAtL {n k : Nat} {f : Nat → Int64} (hk : k < n) (hn : n < 2 ^ 31) : F_X2_at_ n f (nI k) = some (f k) := by
  unfold F_X2_at_
  rw [if_neg (nI_pos (by omega)), if_neg (show ¬ Int32.ofNat n ≤ nI k from nI_ge hk hn), if_pos (gin_nI hk hn), nI_clamp (by omega)]
theorem pPut {n k : Nat} {f : Nat → Int32} {v : Int32} (hk : k < n) (hn : n < 2 ^ 31) : F_X2_put n f (nI k) v = some (upd f k v) := by
  unfold F_X2_put
  rw [if_neg (nI_pos (by omega)), if_neg (show ¬ Int32.ofNat n ≤ nI k from nI_ge hk hn), if_pos (gin_nI hk hn), nI_clamp (by omega)]
theorem pPutL {n k : Nat} {f : Nat → Int64} {v : Int64} (hk : k < n) (hn : n < 2 ^ 31) : F_X2_put_ n f (nI k) v = some (vp_updL f k v) := by
  unfold F_X2_put_
  rw [if_neg (nI_pos (by omega)), if_neg (show ¬ Int32.ofNat n ≤ nI k from nI_ge hk hn), if_pos (gin_nI hk hn), nI_clamp (by omega)]
theorem pCut {x : Int32} {b : Nat} (h0 : 0 < b) (hb : b < 2 ^ 31) : F_X2_cut x (nI b) = some (x / nI b) := by
  unfold F_X2_cut
  rw [if_neg (nI_nle h0 hb), if_neg (nI_ne0 h0 hb)]
section PX
variable {I : SI} {J : SJ} {a : NN} {st wn k A B Q t q : Nat}
theorem xSet (hX : XE I q a st wn) {j : Nat} (hj : j < 8) : F_X1_setting q I J (nI j) = some (nI (a 0 j)) := by
  unfold F_X1_setting
  rw [if_neg (nI_pos (by omega)), if_neg (show ¬ (8 : Int32) ≤ nI j from nI_ge (b := 8) hj (by omega)), if_pos (gin_nI hj (by omega)), nI_clamp (by omega), hX.1 j hj]
theorem xShare (hT : OkT k A B Q) (hX : XT I t k A B Q) {h y : Nat} (hh : h ≤ 5100) (hy : y ≤ 9) : F_X5_shareOf t I J (nI h) (nI y) = some (share k A B Q h y) := by
  obtain ⟨t1, t2, t3, t4, t5⟩ := hT
  obtain ⟨h1, h2, h3, h4⟩ := hX
  unfold F_X5_shareOf share
  rw [h1, h2, h3, h4]
  have m1 : h * A ≤ 5100 * 100 := Nat.mul_le_mul hh t2
  have m2 : Q * y ≤ 99 * 9 := Nat.mul_le_mul t4 hy
  have k0 : (nI k = 0) ↔ k = 0 := nI_eL (n := 0) rfl (by omega) (by omega)
  have k1 : (nI k = 1) ↔ k = 1 := nI_eL (n := 1) rfl (by omega) (by omega)
  have k2 : (nI k = 2) ↔ k = 2 := nI_eL (n := 2) rfl (by omega) (by omega)
  have k3 : (nI k = 3) ↔ k = 3 := nI_eL (n := 3) rfl (by omega) (by omega)
  have k4 : (nI k = 4) ↔ k = 4 := nI_eL (n := 4) rfl (by omega) (by omega)
  by_cases c0 : k = 0
  · have bp := t5 (Or.inl c0)
    rw [if_pos (k0.mpr c0), if_pos c0, pk_mul, pCut (by omega) (by omega), pk_div (by omega) (by omega) (by omega)]
    rfl
  rw [if_neg (fun q => c0 (k0.mp q)), if_neg c0]
  by_cases c1 : k = 1
  · rw [if_pos (k1.mpr c1), if_pos c1]
  rw [if_neg (fun q => c1 (k1.mp q)), if_neg c1]
  by_cases c2 : k = 2
  · rw [if_pos (k2.mpr c2), if_pos c2]
  rw [if_neg (fun q => c2 (k2.mp q)), if_neg c2]
  by_cases c3 : k = 3
  · have bp := t5 (Or.inr (Or.inl c3))
    rw [if_pos (k3.mpr c3), if_pos c3, pk_mul, pCut (by omega) (by omega), pk_div (by omega) (by omega) (by omega)]
    rfl
  rw [if_neg (fun q => c3 (k3.mp q)), if_neg c3]
  by_cases c4 : k = 4
  · have bp := t5 (Or.inr (Or.inr c4))
    have e1 : nI A + nI Q * nI y = nI (A + Q * y) := by rw [pk_mul, nI_add]
    rw [if_pos (k4.mpr c4), if_pos c4, e1]
    by_cases cc : B < A + Q * y
    · have e2 : h * B ≤ 5100 * 99 := Nat.mul_le_mul hh t3
      rw [if_pos cc, if_pos (nI_lt cc (by omega)), pk_mul, pCut (by omega) (by omega), pk_div (by omega) (by omega) (by omega)]
      rfl
    · have e2 : h * (A + Q * y) ≤ 5100 * 99 := Nat.mul_le_mul hh (by omega)
      rw [if_neg cc, if_neg (nI_nlt (by omega) (by omega)), pk_mul, pCut (by omega) (by omega), pk_div (by omega) (by omega) (by omega)]
      rfl
  rw [if_neg (fun q => c4 (k4.mp q)), if_neg c4]
  have e1 : (2 : Int32) * nI A = nI (2 * A) := pk_mul 2 A
  rw [e1]
  by_cases cc : 2 * A ≤ h
  · rw [if_pos cc, if_neg (nI_nlt cc (by omega))]
  · rw [if_neg cc, if_pos (nI_lt (by omega) (by omega))]
theorem xSeed (hO : OkF a st wn) (hX : XE I q a st wn) {who : Nat} (hw : who < 2) : F_X1_seedOf q I J (nI who) = some (nI (seed a who)) := by
  unfold F_X1_seedOf seed
  have e3 : F_X1_setting q I J (3 : Int32) = some (nI (a 0 3)) := xSet hX (j := 3) (by omega)
  have e2 : F_X1_setting q I J (2 : Int32) = some (nI (a 0 2)) := xSet hX (j := 2) (by omega)
  have l3 : a 0 3 ≤ 1 := hO.2.2.1 3 (by omega)
  have q3 : (nI (a 0 3) = nI who) ↔ a 0 3 = who := nI_eq (by omega) (by omega)
  rw [e3]
  show (if nI (a 0 3) = nI who then _ else _) = _
  by_cases c : a 0 3 = who
  · rw [if_pos (q3.mpr c), if_pos c, e2]
    rfl
  · rw [if_neg (fun z => c (q3.mp z)), if_neg c]
    rfl
theorem xBush (hO : OkF a st wn) (hX : XE I q a st wn) (hT : OkT k A B Q) (hXT : XT I t k A B Q) {who h y : Nat} (hw : who < 2) (hh : h ≤ 5100) (hy : y ≤ 9) : F_X1_bushelsOf q t I J (nI h) (nI y) (nI who) = some (has a k A B Q who h y) := by
  unfold F_X1_bushelsOf has
  have q0 : (nI who = 0) ↔ who = 0 := nI_eL (n := 0) rfl (by omega) (by omega)
  rw [xShare hT hXT hh hy]
  show ((F_X1_seedOf q I J (nI who)).bind _) = _
  rw [xSeed hO hX hw]
  show some ((if nI who = 0 then _ else _) - _) = _
  by_cases c0 : who = 0
  · rw [if_pos (q0.mpr c0), if_pos c0]
  · rw [if_neg (fun z => c0 (q0.mp z)), if_neg c0]
theorem xMind (hO : OkF a st wn) (hX : XE I q a st wn) {who : Nat} (hw : who < 2) (x : Int32) : F_X1_mindOf q I J (nI who) x = some (mind a who x) := by
  unfold F_X1_mindOf mind
  have q0 : (nI who = 0) ↔ who = 0 := nI_eL (n := 0) rfl (by omega) (by omega)
  have e4 : (if nI who = 0 then (4 : Int32) else (6 : Int32)) = nI (4 + 2 * who) := by
    by_cases c0 : who = 0
    · rw [if_pos (q0.mpr c0), c0]; rfl
    · rw [if_neg (fun z => c0 (q0.mp z)), show who = 1 by omega]; rfl
  have e5 : nI (4 + 2 * who) + (1 : Int32) = nI (5 + 2 * who) := by rw [nI_1, show 4 + 2 * who + 1 = 5 + 2 * who by omega]
  rw [e4, xSet hX (by omega)]
  show (if 0 ≤ x then (if nI (a 0 (4 + 2 * who)) < x then ((F_X1_setting q I J (nI (4 + 2 * who) + (1 : Int32))).bind _) else _) else _) = _
  rw [e5, xSet hX (by omega)]
  by_cases c : x < 0
  · rw [if_pos c, if_neg (Int32.not_le.mpr c)]
  · rw [if_neg c, if_pos (Int32.not_lt.mp c)]
    by_cases c2 : x ≤ nI (a 0 (4 + 2 * who))
    · rw [if_pos c2, if_neg (Int32.not_lt.mpr c2)]
    · rw [if_neg c2, if_pos (Int32.not_le.mp c2)]
      rfl
/-- the SEASON as it lies: WEATHERS, CHANCES, HARVESTS, COSTS; the YEAR -/
def SL (I : SI) (st nw y : Nat) (ch : Nat → Nat) (hv : Nat → Nat → Nat) (cost : Nat → Nat) : Prop := I 47 5 = nI st ∧ I 47 6 = nI nw ∧ I 47 7 = nI y ∧ (∀ w, w < nw → I 49 w = nI (ch w)) ∧ (∀ p, p ≤ st → I 48 p = nI (cost p)) ∧ ∀ p w, p ≤ st → w < nw → I 51 (p * 8 + w) = nI (hv p w)
variable {nw y : Nat} {ch : Nat → Nat} {hv : Nat → Nat → Nat} {cost : Nat → Nat}
theorem xWorth_l (hO : OkF a st wn) (hX : XE I 0 a st wn) (hT : OkT k A B Q) (hXT : XT I t k A B Q) (hS : SL I st nw y ch hv cost) (hnw : nw ≤ 8) (hv1 : ∀ p w, p ≤ st → w < nw → hv p w ≤ 5100) (hy : y ≤ 9) {p who : Nat} (hp : p ≤ st) (hw : who < 2) (s0 : Int64) : ∀ (j n i : Nat), i + j = nw → j < n → FL_X4_worthOf_19 n I J t (nI p) (nI who) (s0 + wsum i ch (fun w => mind a who (has a k A B Q who (hv p w) y))) (nI i) = some (s0 + wsum nw ch (fun w => mind a who (has a k A B Q who (hv p w) y))) := by
  have hst := hO.1
  obtain ⟨g1, g2, g3, g4, g5, g6⟩ := hS
  intro j
  induction j with
  | zero =>
    intro n i hi hn
    obtain ⟨n, rfl⟩ := suc hn
    rw [FL_X4_worthOf_19, g2, if_pos (nI_le (by omega) (by omega)), show i = nw by omega]
  | succ j ih =>
    intro n i hi hn
    obtain ⟨n, rfl⟩ := suc hn
    have e1 : F_X4_harvestOf I J (nI p) (nI i) = some (nI (hv p i)) := by
      unfold F_X4_harvestOf
      have e2 : nI p * (8 : Int32) + nI i = nI (p * 8 + i) := by
        show nI p * nI 8 + nI i = _
        rw [pk_mul, nI_add]
      rw [e2, pAt (by omega) (by omega), g6 p i hp (by omega)]
      rfl
    have e3 : F_X4_chanceOf I J (nI i) = some (nI (ch i)) := by
      unfold F_X4_chanceOf
      rw [pAt (by omega) (by omega), g4 i (by omega)]
      rfl
    rw [FL_X4_worthOf_19, g2, if_neg (nI_ge (by omega) (by omega)), e1]
    show ((F_X1_bushelsOf 0 t I J (nI (hv p i)) (I 47 7) (nI who)).bind _) = _
    rw [g3, xBush hO hX hT hXT hw (hv1 p i hp (by omega)) hy]
    show ((F_X4_chanceOf I J (nI i)).bind _) = _
    rw [e3]
    show ((F_X1_mindOf 0 I J (nI who) (has a k A B Q who (hv p i) y)).bind _) = _
    rw [xMind hO hX hw, nI_1]
    show FL_X4_worthOf_19 n I J t (nI p) (nI who) (s0 + wsum i ch (fun w => mind a who (has a k A B Q who (hv p w) y)) + (nI (ch i)).toInt64 * (mind a who (has a k A B Q who (hv p i) y)).toInt64) (nI (i + 1)) = _
    rw [Int64.add_assoc]
    exact ih n (i + 1) (by omega) (by omega)
theorem xWorth (hO : OkF a st wn) (hX : XE I 0 a st wn) (hT : OkT k A B Q) (hXT : XT I t k A B Q) (hS : SL I st nw y ch hv cost) (hnw : nw ≤ 8) (hv1 : ∀ p w, p ≤ st → w < nw → hv p w ≤ 5100) (hy : y ≤ 9) {p who : Nat} (hp : p ≤ st) (hw : who < 2) : F_X4_worthOf t I J (nI p) (nI who) = some (worthG a nw ch (hv p) (cost p) k A B Q who y) := by
  have hst := hO.1
  unfold F_X4_worthOf worthG
  have q0 : (nI who = 0) ↔ who = 0 := nI_eL (n := 0) rfl (by omega) (by omega)
  by_cases c0 : who = 0
  · rw [if_pos (q0.mpr c0), if_pos c0]
    have e1 : F_X4_costWorth I J (nI p) = some (1000 * (nI (cost p)).toInt64) := by
      unfold F_X4_costWorth
      rw [pAt (by omega) (by omega), hS.2.2.2.2.1 p hp]
      rfl
    rw [e1]
    have e2 := xWorth_l (J := J) hO hX hT hXT hS hnw hv1 hy hp hw (-(1000 * (nI (cost p)).toInt64)) nw 3000 0 (by omega) (by omega)
    rw [show wsum 0 ch (fun w => mind a who (has a k A B Q who (hv p w) y)) = 0 from rfl, Int64.add_zero, show nI 0 = (0 : Int32) from rfl] at e2
    refine e2.trans ?_
    rw [c0, Int64.sub_eq_add_neg, Int64.add_comm]
  · rw [if_neg (fun z => c0 (q0.mp z)), if_neg c0]
    have e2 := xWorth_l (J := J) hO hX hT hXT hS hnw hv1 hy hp hw 0 nw 3000 0 (by omega) (by omega)
    rw [show wsum 0 ch (fun w => mind a who (has a k A B Q who (hv p w) y)) = 0 from rfl, Int64.add_zero, show nI 0 = (0 : Int32) from rfl] at e2
    refine e2.trans ?_
    rw [Int64.zero_add]
/-- only BEST PAINS and their WORTH have changed -/
def FrB (I I' : SI) (J J' : SJ) : Prop := (∀ z, z ≠ 47 → I' z = I z) ∧ (∀ j, j ≠ 8 → I' 47 j = I 47 j) ∧ (∀ z, z ≠ 47 → J' z = J z)
theorem XE.fr {I I' : SI} (h : XE I 0 a st wn) (e : ∀ z, z < 15 → I' z = I z) : XE I' 0 a st wn := by
  obtain ⟨h1, h2, h3, h4, h5⟩ := h
  refine ⟨fun k hk => ?_, fun k hk => ?_, fun k hk => ?_, ?_, ?_⟩
  · rw [e 1 (by omega)]; exact h1 k hk
  · rw [e 2 (by omega), e 3 (by omega)]; exact h2 k hk
  · rw [e 4 (by omega), e 5 (by omega)]; exact h3 k hk
  · rw [e 0 (by omega)]; exact h4
  · rw [e 0 (by omega)]; exact h5
theorem SL.fr {I I' : SI} {J J' : SJ} (h : SL I st nw y ch hv cost) (e : FrB I I' J J') : SL I' st nw y ch hv cost := by
  obtain ⟨h1, h2, h3, h4, h5, h6⟩ := h
  refine ⟨by rw [e.2.1 5 (by omega)]; exact h1, by rw [e.2.1 6 (by omega)]; exact h2, by rw [e.2.1 7 (by omega)]; exact h3, fun w hw => ?_, fun p hp => ?_, fun p w hp hw => ?_⟩
  · rw [e.1 49 (by omega)]; exact h4 w hw
  · rw [e.1 48 (by omega)]; exact h5 p hp
  · rw [e.1 51 (by omega)]; exact h6 p w hp hw
theorem XT.fr {I I' : SI} {J J' : SJ} (h : XT I t k A B Q) (ht : t ≠ 47) (e : FrB I I' J J') : XT I' t k A B Q := by
  unfold XT
  rw [e.1 t ht]
  exact h
theorem xBest_l (hO : OkF a st wn) (ht : t ≠ 47) (hT : OkT k A B Q) (hnw : nw ≤ 8) (hv1 : ∀ p w, p ≤ st → w < nw → hv p w ≤ 5100) (hy : y ≤ 9) : ∀ (j n i : Nat) (I : SI) (J : SJ), i + j = st → j < n → XE I 0 a st wn → XT I t k A B Q → SL I st nw y ch hv cost → I 47 8 = nI (bp (fun p => worthG a nw ch (hv p) (cost p) k A B Q 0 y) i).1 → J 47 9 = (bp (fun p => worthG a nw ch (hv p) (cost p) k A B Q 0 y) i).2 →
    ∃ (I' : SI) (J' : SJ), FL_X4_findBest_18 n I J t (nI (i + 1)) = some (I', J') ∧ FrB I I' J J' ∧ I' 47 8 = nI (bp (fun p => worthG a nw ch (hv p) (cost p) k A B Q 0 y) st).1 ∧ J' 47 9 = (bp (fun p => worthG a nw ch (hv p) (cost p) k A B Q 0 y) st).2 := by
  have hst := hO.1
  intro j
  induction j with
  | zero =>
    intro n i I J hi hn hX hXT hS h8 h9
    obtain ⟨n, rfl⟩ := suc hn
    refine ⟨I, J, ?_, ⟨fun _ _ => rfl, fun _ _ => rfl, fun _ _ => rfl⟩, ?_, ?_⟩
    · rw [FL_X4_findBest_18, hS.1, if_pos (nI_lt (by omega) (by omega))]
    · rw [h8, show i = st by omega]
    · rw [h9, show i = st by omega]
  | succ j ih =>
    intro n i I J hi hn hX hXT hS h8 h9
    obtain ⟨n, rfl⟩ := suc hn
    have e1 : F_X4_worthOf t I J (nI (i + 1)) (0 : Int32) = some (worthG a nw ch (hv (i + 1)) (cost (i + 1)) k A B Q 0 y) := xWorth (who := 0) hO hX hT hXT hS hnw hv1 hy (by omega) (by omega)
    have e2 : bp (fun p => worthG a nw ch (hv p) (cost p) k A B Q 0 y) (i + 1) = if (bp (fun p => worthG a nw ch (hv p) (cost p) k A B Q 0 y) i).2 < worthG a nw ch (hv (i + 1)) (cost (i + 1)) k A B Q 0 y then (i + 1, worthG a nw ch (hv (i + 1)) (cost (i + 1)) k A B Q 0 y) else bp (fun p => worthG a nw ch (hv p) (cost p) k A B Q 0 y) i := rfl
    rw [FL_X4_findBest_18, hS.1, if_neg (nI_nlt (by omega) (by omega)), e1]
    show ∃ (I' : SI) (J' : SJ), (if worthG a nw ch (hv (i + 1)) (cost (i + 1)) k A B Q 0 y ≤ J 47 9 then _ else _) = some (I', J') ∧ _
    rw [h9]
    by_cases c : (bp (fun p => worthG a nw ch (hv p) (cost p) k A B Q 0 y) i).2 < worthG a nw ch (hv (i + 1)) (cost (i + 1)) k A B Q 0 y
    · rw [if_neg (Int64.not_le.mpr c), nI_1]
      rw [if_pos c] at e2
      have f1 : FrB I (u2 I 47 8 (nI (i + 1))) J (u2L J 47 9 (worthG a nw ch (hv (i + 1)) (cost (i + 1)) k A B Q 0 y)) := by
        refine ⟨fun z hz => u1_ne hz, fun j hj => ?_, fun z hz => u1_ne hz⟩
        show (u1 I 47 (upd (I 47) 8 _)) 47 j = _
        rw [u1_at]
        exact if_neg hj
      obtain ⟨I', J', r1, r2, r3, r4⟩ := ih n (i + 1) (u2 I 47 8 (nI (i + 1))) (u2L J 47 9 (worthG a nw ch (hv (i + 1)) (cost (i + 1)) k A B Q 0 y)) (by omega) (by omega) (hX.fr (fun z hz => f1.1 z (by omega))) (hXT.fr ht f1) (hS.fr f1) (by rw [e2]; rfl) (by rw [e2]; rfl)
      exact ⟨I', J', r1, ⟨fun z hz => (r2.1 z hz).trans (f1.1 z hz), fun j hj => (r2.2.1 j hj).trans (f1.2.1 j hj), fun z hz => (r2.2.2 z hz).trans (f1.2.2 z hz)⟩, r3, r4⟩
    · rw [if_pos (Int64.not_lt.mp c), nI_1]
      rw [if_neg c] at e2
      exact ih n (i + 1) I J (by omega) (by omega) hX hXT hS (by rw [e2]; exact h8) (by rw [e2]; exact h9)
theorem xBest (hO : OkF a st wn) (ht : t ≠ 47) (hX : XE I 0 a st wn) (hT : OkT k A B Q) (hXT : XT I t k A B Q) (hS : SL I st nw y ch hv cost) (hnw : nw ≤ 8) (hv1 : ∀ p w, p ≤ st → w < nw → hv p w ≤ 5100) (hy : y ≤ 9) :
    ∃ (I' : SI) (J' : SJ), F_X4_findBest t I J = some (I', J') ∧ FrB I I' J J' ∧ I' 47 8 = nI (bp (fun p => worthG a nw ch (hv p) (cost p) k A B Q 0 y) st).1 ∧ J' 47 9 = (bp (fun p => worthG a nw ch (hv p) (cost p) k A B Q 0 y) st).2 := by
  have hst := hO.1
  have f1 : FrB I (u2 I 47 8 (0 : Int32)) J J := by
    refine ⟨fun z hz => u1_ne hz, fun j hj => ?_, fun _ _ => rfl⟩
    show (u1 I 47 (upd (I 47) 8 _)) 47 j = _
    rw [u1_at]
    exact if_neg hj
  have e1 : F_X4_worthOf t (u2 I 47 8 (0 : Int32)) J (0 : Int32) (0 : Int32) = some (worthG a nw ch (hv 0) (cost 0) k A B Q 0 y) := xWorth (who := 0) (p := 0) hO (hX.fr (fun z hz => f1.1 z (by omega))) hT (hXT.fr ht f1) (hS.fr f1) hnw hv1 hy (by omega) (by omega)
  unfold F_X4_findBest
  rw [e1]
  have f2 : FrB I (u2 I 47 8 (0 : Int32)) J (u2L J 47 9 (worthG a nw ch (hv 0) (cost 0) k A B Q 0 y)) := ⟨f1.1, f1.2.1, fun z hz => u1_ne hz⟩
  obtain ⟨I', J', r1, r2, r3, r4⟩ := xBest_l hO ht hT hnw hv1 hy st 3000 0 (u2 I 47 8 (0 : Int32)) (u2L J 47 9 (worthG a nw ch (hv 0) (cost 0) k A B Q 0 y)) (by omega) (by omega) (hX.fr (fun z hz => f2.1 z (by omega))) (hXT.fr ht f2) (hS.fr f2) rfl rfl
  rw [show nI (0 + 1) = (1 : Int32) from rfl] at r1
  exact ⟨I', J', r1, ⟨fun z hz => (r2.1 z hz).trans (f2.1 z hz), fun j hj => (r2.2.1 j hj).trans (f2.2.1 j hj), fun z hz => (r2.2.2 z hz).trans (f2.2.2 z hz)⟩, r3, r4⟩
end PX
