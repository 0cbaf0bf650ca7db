/-- a bound on a long: sums and products in it don't wrap -/
def BdL (x : Int64) (n : Nat) : Prop := x.toInt.natAbs ≤ n
theorem BdL.mono {x : Int64} {m n : Nat} (h : BdL x m) (hmn : m ≤ n) : BdL x n := Nat.le_trans h hmn
theorem bd_add {x y : Int64} {m n : Nat} (hx : BdL x m) (hy : BdL y n) (h : m + n < 2 ^ 63) : (x + y).toInt = x.toInt + y.toInt ∧ BdL (x + y) (m + n) := by
  unfold BdL at *
  have e : (x + y).toInt = x.toInt + y.toInt := by
    rw [Int64.toInt_add]
    exact Int.bmod_eq_of_le (by omega) (by omega)
  refine ⟨e, ?_⟩
  rw [e]
  omega
theorem bd_sub {x y : Int64} {m n : Nat} (hx : BdL x m) (hy : BdL y n) (h : m + n < 2 ^ 63) : (x - y).toInt = x.toInt - y.toInt ∧ BdL (x - y) (m + n) := by
  unfold BdL at *
  have e : (x - y).toInt = x.toInt - y.toInt := by
    rw [Int64.toInt_sub]
    exact Int.bmod_eq_of_le (by omega) (by omega)
  refine ⟨e, ?_⟩
  rw [e]
  omega
theorem bd_mul {x y : Int64} {m n : Nat} (hx : BdL x m) (hy : BdL y n) (h : m * n < 2 ^ 63) : (x * y).toInt = x.toInt * y.toInt ∧ BdL (x * y) (m * n) := by
  unfold BdL at *
  have ha : (x.toInt * y.toInt).natAbs ≤ m * n := by
    rw [Int.natAbs_mul]
    exact Nat.mul_le_mul hx hy
  have e : (x * y).toInt = x.toInt * y.toInt := by
    rw [Int64.toInt_mul]
    generalize x.toInt * y.toInt = p at ha
    generalize m * n = q at ha h
    exact Int.bmod_eq_of_le (by omega) (by omega)
  refine ⟨e, ?_⟩
  rw [e]
  exact ha
theorem bd_i (x : Int32) : BdL x.toInt64 (2 ^ 31) := by
  unfold BdL
  rw [Int32.toInt_toInt64]
  have h1 := Int32.le_toInt x
  have h2 := Int32.toInt_lt x
  omega
theorem bd_n {n : Nat} (h : n < 2 ^ 31) : BdL (nI n).toInt64 n := by
  unfold BdL
  rw [Int32.toInt_toInt64, nI_toInt h]
  omega
theorem bd_sl {f : Nat → Int64} {c : Nat} : ∀ n : Nat, n * c < 2 ^ 63 → (∀ k, k < n → BdL (f k) c) → BdL (sl f n) (n * c) := by
  intro n
  induction n with
  | zero => intro _ _; show (0 : Int64).toInt.natAbs ≤ _; rw [show (0 : Int64).toInt = 0 from by decide]; exact Nat.zero_le _
  | succ n ih =>
    intro h hf
    rw [Nat.succ_mul] at h ⊢
    exact (bd_add (ih (by omega) (fun k hk => hf k (by omega))) (hf n (by omega)) h).2
section S24
variable {a : NN} {st wn k A B Q : Nat}
theorem chA_le (hO : OkF a st wn) (w : Nat) : chA a wn w ≤ 100 := by
  unfold chA
  by_cases c : w < wn
  · rw [if_pos c]
    exact (hO.2.2.2.2.1 w c).1
  · rw [if_neg c]; omega
theorem bd_wsum {nw : Nat} {ch : Nat → Nat} (hn : nw ≤ 8) (hc : ∀ w, ch w ≤ 100) (v : Nat → Int32) : BdL (wsum nw ch v) (2 ^ 41) := by
  have e := bd_sl (f := fun w => (nI (ch w)).toInt64 * (v w).toInt64) (c := 100 * 2 ^ 31) nw (by have : nw * (100 * 2 ^ 31) ≤ 8 * (100 * 2 ^ 31) := Nat.mul_le_mul_right _ hn; omega) (fun w _ => (bd_mul ((bd_n (by have := hc w; omega)).mono (hc w)) (bd_i (v w)) (by omega)).2)
  refine BdL.mono e ?_
  have : nw * (100 * 2 ^ 31) ≤ 8 * (100 * 2 ^ 31) := Nat.mul_le_mul_right _ hn
  omega
theorem bd_worth (hO : OkF a st wn) {d gd who p y : Nat} (hp : p ≤ st) : BdL (worth a wn d gd k A B Q who p y) (2 ^ 42) := by
  have h8 := (nW_le hO).1
  have hst := hO.1
  unfold worth worthG
  by_cases c : who = 0
  · rw [if_pos c]
    have hs : sm (a 1) p ≤ p * 99 := sm_le p (fun k hk => (hO.2.2.2.1 k (by omega)).1)
    have h1 := bd_wsum (nw := nW a wn) (ch := chA a wn) h8 (chA_le hO) (fun w => mind a 0 (has a k A B Q 0 (harv a wn d gd p w) y))
    have h2 : BdL ((1000 : Int64) * (nI (sm (a 1) p)).toInt64) (1000 * 1000) := (bd_mul (show BdL (1000 : Int64) 1000 by unfold BdL; decide) ((bd_n (n := sm (a 1) p) (by omega)).mono (show sm (a 1) p ≤ 1000 by omega)) (by omega)).2
    exact BdL.mono (bd_sub h1 h2 (by omega)).2 (by omega)
  · rw [if_neg c]
    exact BdL.mono (bd_wsum h8 (chA_le hO) _) (by omega)
end S24
/-- YEARS with DUNG: the greatest sum from a YEAR on, told from the end; which YEARS -/
def upD (d : Nat) : Nat := if 3 ≤ d then 3 else d + 1
def yS (W : Nat → Nat → Int64) (n py : Nat) : Nat → Nat → Int64
  | 0, d => 1000 * (nI py).toInt64 * (nI d).toInt64
  | e + 1, d => W (n - (e + 1)) d + (if yS W n py e (upD d) - 4000 ≤ yS W n py e (d - 1) then yS W n py e (d - 1) else yS W n py e (upD d) - 4000)
def yb (S : Nat → Nat → Int64) : Nat → Nat → Nat → Int32 → Int32
  | 0, _, _, b => b
  | e + 1, y, d, b => if S e (upD d) - 4000 ≤ S e (d - 1) then yb S e (y + 1) (d - 1) b else yb S e (y + 1) (upD d) (b ||| ((1 : Int32) <<< (nI y &&& 31)))
theorem upD_le (d : Nat) : upD d ≤ 3 := by
  unfold upD
  by_cases c : 3 ≤ d
  · rw [if_pos c]; omega
  · rw [if_neg c]; omega
theorem yS_bd {W : Nat → Nat → Int64} {n py : Nat} (hW : ∀ y d, y < n → d < 4 → BdL (W y d) (2 ^ 42)) (hp : py ≤ 99) : ∀ (e d : Nat), e ≤ n → e ≤ 10 → d < 4 → BdL (yS W n py e d) ((e + 1) * 2 ^ 43) := by
  intro e
  induction e with
  | zero =>
    intro d _ _ hd
    have h1 : BdL ((1000 : Int64) * (nI py).toInt64) (1000 * 99) := (bd_mul (show BdL (1000 : Int64) 1000 by unfold BdL; decide) ((bd_n (n := py) (by omega)).mono hp) (by omega)).2
    exact BdL.mono (bd_mul h1 ((bd_n (n := d) (by omega)).mono (show d ≤ 3 by omega)) (by omega)).2 (by omega)
  | succ e ih =>
    intro d he h10 hd
    have hu := upD_le d
    have i1 := ih (d - 1) (by omega) (by omega) (by omega)
    have i2 := ih (upD d) (by omega) (by omega) (by omega)
    have i3 := (bd_sub i2 (show BdL (4000 : Int64) 4000 by unfold BdL; decide) (by omega)).2
    have w1 := hW (n - (e + 1)) d (by omega) hd
    have m : BdL (if yS W n py e (upD d) - 4000 ≤ yS W n py e (d - 1) then yS W n py e (d - 1) else yS W n py e (upD d) - 4000) ((e + 1) * 2 ^ 43 + 4000) := by
      by_cases c : yS W n py e (upD d) - 4000 ≤ yS W n py e (d - 1)
      · rw [if_pos c]; exact i1.mono (by omega)
      · rw [if_neg c]; exact i3
    exact BdL.mono (bd_add w1 m (by omega)).2 (by omega)
/-- with the YEAR's own WORTH on both sides the same is greater -/
theorem mxE {w x y : Int64} (hw : BdL w (2 ^ 42)) (hx : BdL x (11 * 2 ^ 43)) (hy : BdL y (11 * 2 ^ 43)) : (w - 4000 + x = w + (x - 4000)) ∧ ((w + (x - 4000) ≤ w + y) ↔ x - 4000 ≤ y) := by
  refine ⟨?_, ?_⟩
  · rw [Int64.sub_eq_add_neg, Int64.sub_eq_add_neg, Int64.add_assoc, Int64.add_comm (-4000) x]
  · have h1 := bd_sub hx (show BdL (4000 : Int64) 4000 by unfold BdL; decide) (by omega)
    have h2 := bd_add hw h1.2 (by omega)
    have h3 := bd_add hw hy (by omega)
    rw [Int64.le_iff_toInt_le, Int64.le_iff_toInt_le, h2.1, h3.1]
    omega
section S24b
variable {I M : SI} {J N : SJ} {a : NN} {st wn te tl rl k A B Q t p i n py : Nat} {tx : Nat → Nat}
theorem layRF (h : Ro I M a st wn te tl tx rl) {d gd : Nat} (hd : d ≤ 3) (hg : gd ≤ 9) {I0 : SI} (hs : SX I I0) (J : SJ) :
    ∃ I' : SI, F_X4_lay I0 J (nI d) (nI gd) (0 : Int32) = some (I', J) ∧ SX I I' ∧ XE I' 0 a st wn ∧ SL I' st (nW a wn) 0 (chA a wn) (fun p w => harv a wn d gd p w) (sm (a 1)) ∧ FrL I0 I' := by
  obtain ⟨hO, hX, hM, hT, hW, hr, ht, hi, h48⟩ := h
  obtain ⟨e1, e2, e3⟩ := nwX0 (a := a) (wn := wn) hO.1.2.2.2.2.2
  obtain ⟨I', r1, r2, r3, r4⟩ := xLay (I := I0) (J := J) (hl := 0) hO.1 hO.2.1 hd hg (by omega) (hX.1.fr (fun z hz => hs.1 z (by omega))) (hs.2.trans h48)
  refine ⟨I', r1, hs.tr r2.sx, hX.1.fr (fun z hz => (r2.1 z (by omega)).trans (hs.1 z (by omega))), ?_, r2⟩
  obtain ⟨g1, g2, g3, g4, g5, g6⟩ := r3
  exact ⟨g1, by rw [g2, e1], g3, fun w hw => by rw [g4 w (by rw [e1]; exact hw), e2], g5, fun p w hp hw => by rw [g6 p w hp (by rw [e1]; exact hw), hvX0 hO.1.2.2.2.2.2]⟩
theorem SL.yr {nw y0 : Nat} {ch : Nat → Nat} {hv : Nat → Nat → Nat} {cost : Nat → Nat} (h : SL I st nw y0 ch hv cost) (y : Nat) : SL (u2 I 47 7 (nI y)) st nw y ch hv cost := by
  obtain ⟨h1, h2, h3, h4, h5, h6⟩ := h
  refine ⟨h1, h2, rfl, fun w hw => ?_, fun p hp => ?_, fun p w hp hw => ?_⟩
  · rw [show u2 I 47 7 (nI y) 49 = I 49 from u1_ne (by omega)]; exact h4 w hw
  · rw [show u2 I 47 7 (nI y) 48 = I 48 from u1_ne (by omega)]; exact h5 p hp
  · rw [show u2 I 47 7 (nI y) 51 = I 51 from u1_ne (by omega)]; exact h6 p w hp hw
theorem yrSX (y : Nat) : SX I (u2 I 47 7 (nI y)) := ⟨fun z hz => u1_ne (by omega), by rw [show u2 I 47 7 (nI y) 48 = I 48 from u1_ne (by omega)]⟩
/-- his WORTH in a YEAR with so much DUNG, with his BEST PAINS -/
def yW (a : NN) (st wn k A B Q y d : Nat) : Int64 := (bp (fun p => worth a wn d 0 k A B Q 0 p y) st).2
theorem yW_bd (hO : OkF a st wn) (y d : Nat) : BdL (yW a st wn k A B Q y d) (2 ^ 42) := by
  unfold yW
  rw [bp_val]
  exact bd_worth hO (bp_le _ _)
theorem xYI_l (hO : OkF a st wn) (hT : OkT k A B Q) (ht : t < 47) (hn : n ≤ 10) {d : Nat} (hd : d < 4) : ∀ (j m y : Nat) (I : SI) (J : SJ) (y0 : Nat), y + j = n → j < m → XE I 0 a st wn → XT I t k A B Q → SL I st (nW a wn) y0 (chA a wn) (fun p w => harv a wn d 0 p w) (sm (a 1)) → (∀ y', y' < y → J 56 (y' * 4 + d) = yW a st wn k A B Q y' d) →
    ∃ (I' : SI) (J' : SJ), FS_X0_lay_30 m I J t (nI n) (nI d) (nI y) = some (I', J', nI n, nI d, nI n) ∧ SX I I' ∧ I' 55 = I 55 ∧ (∀ y', y' < n → J' 56 (y' * 4 + d) = yW a st wn k A B Q y' d) ∧ ∀ z, z % 4 ≠ d → J' 56 z = J 56 z := by
  intro j
  induction j with
  | zero =>
    intro m y I J y0 hy hm hX hXT hS hJ
    obtain ⟨m, rfl⟩ := suc hm
    rw [FS_X0_lay_30, if_pos (nI_le (by omega) (by omega))]
    have e : y = n := by omega
    subst e
    exact ⟨I, J, rfl, SX.rf, rfl, hJ, fun _ _ => rfl⟩
  | succ j ih =>
    intro m y I J y0 hy hm hX hXT hS hJ
    obtain ⟨m, rfl⟩ := suc hm
    have f1 : ∀ z, z ≠ 47 → u2 I 47 7 (nI y) z = I z := fun z hz => u1_ne hz
    have hX1 : XE (u2 I 47 7 (nI y)) 0 a st wn := hX.fr (fun z hz => f1 z (by omega))
    have hXT1 : XT (u2 I 47 7 (nI y)) t k A B Q := by unfold XT; rw [f1 t (by omega)]; exact hXT
    obtain ⟨I1, J1, b1, b2, b3, b4⟩ := xBest (J := J) hO (by omega) hX1 hT hXT1 (hS.yr y) (nW_le hO).1 (hv_ok hO (by omega) (by omega)) (by omega)
    have b4' : J1 47 9 = yW a st wn k A B Q y d := b4
    have e56 : J1 56 = J 56 := b2.2.2 56 (by omega)
    have ei : nI y * (4 : Int32) + nI d = nI (y * 4 + d) := by
      show nI y * nI 4 + nI d = _
      rw [pk_mul, nI_add]
    rw [FS_X0_lay_30, if_neg (nI_ge (by omega) (by omega)), b1, Option.bind_some]
    show ∃ (I' : SI) (J' : SJ), ((F_X2_put_ 40 (J1 56) ((nI y * (4 : Int32)) + nI d) (J1 47 9)).bind fun f_5 => (FS_X0_lay_30 m I1 (u1 J1 56 f_5) t (nI n) (nI d) (nI y + 1))) = _ ∧ _
    rw [ei, pPutL (by omega) (by omega), Option.bind_some, b4', e56, nI_1]
    have hXT2 : XT I1 t k A B Q := hXT1.fr (by omega) b2
    have s1 : SX I I1 := (yrSX y).tr b2.sx
    obtain ⟨I2, J2, g1, g2, g3, g4, g5⟩ := ih m (y + 1) I1 (u1 J1 56 (vp_updL (J 56) (y * 4 + d) (yW a st wn k A B Q y d))) y (by omega) (by omega) (hX1.fr (fun z hz => b2.1 z (by omega))) hXT2 ((hS.yr y).fr b2) (fun y' hy' => by
      rw [u1_at]
      by_cases c : y' = y
      · rw [c, pk_uLs]
      · rw [pk_uLn (by omega)]
        exact hJ y' (by omega))
    refine ⟨I2, J2, g1, s1.tr g2, g3.trans ((b2.1 55 (by omega)).trans (f1 55 (by omega))), g4, fun z hz => (g5 z hz).trans ?_⟩
    rw [u1_at, pk_uLn (by omega)]
theorem xYO_l (h : Ro I M a st wn te tl tx rl) (hi : i < te) (hn : n ≤ 10) : ∀ (j m d : Nat) (I0 : SI) (J : SJ), d + j = 4 → j < m → SX I I0 → I0 55 2 = nI n → (∀ y d', y < n → d' < d → J 56 (y * 4 + d') = yW a st wn (a 5 i) (a 6 i) (a 7 i) (a 8 i) y d') →
    ∃ (I' : SI) (J' : SJ), FL_X0_lay_13 m I0 J (7 + i) (nI n) (nI d) = some (I', J') ∧ SX I I' ∧ I' 55 2 = nI n ∧ ∀ y d', y < n → d' < 4 → J' 56 (y * 4 + d') = yW a st wn (a 5 i) (a 6 i) (a 7 i) (a 8 i) y d' := by
  have ht8 := h.1.2.2.1
  have hT := h.1.2.2.2 i hi
  intro j
  induction j with
  | zero =>
    intro m d I0 J hd hm hs h55 hJ
    obtain ⟨m, rfl⟩ := suc hm
    have e : d = 4 := by omega
    subst e
    rw [FL_X0_lay_13, if_pos (show (3 : Int32) < nI 4 by decide)]
    exact ⟨I0, J, rfl, hs, h55, hJ⟩
  | succ j ih =>
    intro m d I0 J hd hm hs h55 hJ
    obtain ⟨m, rfl⟩ := suc hm
    obtain ⟨I1, l1, l2, l3, l4, l5⟩ := layRF (d := d) (gd := 0) h (by omega) (by omega) hs J
    have l1' : F_X4_lay I0 J (nI d) (0 : Int32) (0 : Int32) = some (I1, J) := l1
    obtain ⟨I2, J2, g1, g2, g3, g4, g5⟩ := xYI_l (n := n) h.1.1 hT (t := 7 + i) (by omega) hn (d := d) (by omega) n 3000 0 I1 J 0 (by omega) (by omega) l3 (xtL h l2 hi) l4 (fun y' hy' => absurd hy' (by omega))
    rw [show nI 0 = (0 : Int32) from rfl] at g1
    rw [FL_X0_lay_13, if_neg (show ¬ (3 : Int32) < nI d from nI_nlt (b := d) (a := 3) (by omega) (by omega)), l1', Option.bind_some]
    show ∃ (I' : SI) (J' : SJ), ((FS_X0_lay_30 3000 I1 J (7 + i) (nI n) (nI d) (0 : Int32)).bind fun (I6, J6, u3_6, u4_6, u5_6) => (FL_X0_lay_13 m I6 J6 (7 + i) u3_6 (u4_6 + 1))) = _ ∧ _
    rw [g1, Option.bind_some]
    show ∃ (I' : SI) (J' : SJ), FL_X0_lay_13 m I2 J2 (7 + i) (nI n) (nI d + 1) = _ ∧ _
    rw [nI_1]
    have h55' : I2 55 2 = nI n := by rw [g3, l5.1 55 (by omega)]; exact h55
    refine ih m (d + 1) I2 J2 (by omega) (by omega) (l2.tr g2) h55' (fun y d' hy hd' => ?_)
    by_cases c : d' = d
    · rw [c]; exact g4 y hy
    · rw [g5 _ (by omega)]
      exact hJ y d' hy (by omega)
theorem xYL (h : Ro I M a st wn te tl tx rl) (hi : i < te) (hn : n ≤ 10) (J : SJ) :
    ∃ (I' : SI) (J' : SJ), F_X0_lay (7 + i) I J (nI n) = some (I', J') ∧ SX I I' ∧ I' 55 2 = nI n ∧ ∀ y d', y < n → d' < 4 → J' 56 (y * 4 + d') = yW a st wn (a 5 i) (a 6 i) (a 7 i) (a 8 i) y d' := by
  have s : SX I (u2 I 55 2 (nI n)) := ⟨fun z hz => u1_ne (by omega), by rw [show u2 I 55 2 (nI n) 48 = I 48 from u1_ne (by omega)]⟩
  have e : u2 I 55 2 (nI n) 55 2 = nI n := rfl
  unfold F_X0_lay
  exact xYO_l h hi hn 4 3000 0 (u2 I 55 2 (nI n)) J (by omega) (by omega) s e (fun y d' _ hd' => absurd hd' (by omega))
end S24b
