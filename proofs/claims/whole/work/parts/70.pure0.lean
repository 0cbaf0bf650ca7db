/-! ===== pure: sums, what a FIELD says, and the reference's functions over it ===== -/
def sm (f : Nat → Nat) : Nat → Nat
  | 0 => 0
  | n + 1 => sm f n + f n
def sl (f : Nat → Int64) : Nat → Int64
  | 0 => 0
  | n + 1 => sl f n + f n
theorem sm_le {f : Nat → Nat} {c : Nat} : ∀ n : Nat, (∀ k, k < n → f k ≤ c) → sm f n ≤ n * c := by
  intro n
  induction n with
  | zero => intro _; exact Nat.le_of_eq (Nat.zero_mul c).symm
  | succ n ih =>
    intro h
    have h1 := ih (fun k hk => h k (by omega))
    have h2 := h n (by omega)
    show sm f n + f n ≤ (n + 1) * c
    rw [Nat.succ_mul]
    omega
theorem sm_congr {f f' : Nat → Nat} : ∀ n : Nat, (∀ k, k < n → f k = f' k) → sm f n = sm f' n := by
  intro n
  induction n with
  | zero => intro _; rfl
  | succ n ih =>
    intro h
    show sm f n + f n = sm f' n + f' n
    rw [ih (fun k hk => h k (by omega)), h n (by omega)]
theorem sl_congr {f f' : Nat → Int64} : ∀ n : Nat, (∀ k, k < n → f k = f' k) → sl f n = sl f' n := by
  intro n
  induction n with
  | zero => intro _; rfl
  | succ n ih =>
    intro h
    show sl f n + f n = sl f' n + f' n
    rw [ih (fun k hk => h k (by omega)), h n (by omega)]
theorem sm_mono {f : Nat → Nat} {m : Nat} : ∀ n : Nat, m ≤ n → sm f m ≤ sm f n := by
  intro n
  induction n with
  | zero => intro h; rw [Nat.le_zero.mp h]; exact Nat.le_refl _
  | succ n ih =>
    intro h
    rcases Nat.lt_or_ge m (n + 1) with h1 | h1
    · exact Nat.le_trans (ih (by omega)) (Nat.le_add_right _ _)
    · rw [show m = n + 1 by omega]
      exact Nat.le_refl _
theorem gin_nI {k n : Nat} (h : k < n) (hn : n < 2 ^ 31) : gin (nI k) n = true := decide_eq_true (nI_in h hn)
theorem nI_eL {k n : Nat} {x : Int32} (hx : x = nI n) (hk : k < 2 ^ 31) (hn : n < 2 ^ 31) : (nI k = x) ↔ k = n := by rw [hx]; exact nI_eq hk hn
theorem suc {n d : Nat} (h : d < n) : ∃ m : Nat, n = m + 1 := ⟨n - 1, by omega⟩
abbrev NN : Type := Nat → Nat → Nat
/-- a FIELD in numbers: a 0 the settings, a 1 COSTS, a 2 GIVES, a 3 CHANCES, a 4 TIMES; a 5 .. a 8 the TERMS' kinds, A, B, N -/
def nW (a : NN) (wn : Nat) : Nat := if sm (a 3) wn < 100 then wn + 1 else wn
def chA (a : NN) (wn w : Nat) : Nat := if w < wn then a 3 w else 100 - sm (a 3) wn
def tiA (a : NN) (wn w : Nat) : Nat := if w < wn then a 4 w else 100
def grow (a : NN) (dung good p : Nat) : Nat := a 0 0 + 5 * dung + sm (fun s => a 2 s * (10 + good) / 10) p
theorem grow_s (a : NN) (d gd i : Nat) : grow a d gd (i + 1) = grow a d gd i + a 2 i * (10 + gd) / 10 := by
  unfold grow
  show a 0 0 + 5 * d + (sm (fun s => a 2 s * (10 + gd) / 10) i + a 2 i * (10 + gd) / 10) = _
  omega
def harv (a : NN) (wn dung good p w : Nat) : Nat := grow a dung good p * tiA a wn w / 100
def share (k A B Q h y : Nat) : Int32 :=
  if k = 0 then nI (h * A / B) else if k = 1 then nI h - nI A else if k = 2 then nI A else if k = 3 then nI (h * A / B) - nI Q
  else if k = 4 then nI (h * (if B < A + Q * y then B else A + Q * y) / B) else if 2 * A ≤ h then nI h - nI A - nI Q else nI h - nI A
def seed (a : NN) (who : Nat) : Nat := if a 0 3 = who then a 0 2 else 0
def has (a : NN) (k A B Q who h y : Nat) : Int32 := (if who = 0 then share k A B Q h y else nI h - share k A B Q h y) - nI (seed a who)
def mind (a : NN) (who : Nat) (x : Int32) : Int32 :=
  if x < 0 then 20 * x else if x ≤ nI (a 0 (4 + 2 * who)) then 10 * x else 10 * nI (a 0 (4 + 2 * who)) + nI (a 0 (5 + 2 * who)) * (x - nI (a 0 (4 + 2 * who)))
def wsum (nw : Nat) (ch : Nat → Nat) (v : Nat → Int32) : Int64 := sl (fun w => (nI (ch w)).toInt64 * (v w).toInt64) nw
/-- WORTH: of so many WEATHERS, their CHANCES, HARVESTS by them, what the STEPS cost -/
def worthG (a : NN) (nw : Nat) (ch hv : Nat → Nat) (cost : Nat) (k A B Q who y : Nat) : Int64 :=
  if who = 0 then wsum nw ch (fun w => mind a 0 (has a k A B Q 0 (hv w) y)) - 1000 * (nI cost).toInt64 else wsum nw ch (fun w => mind a who (has a k A B Q who (hv w) y))
def worth (a : NN) (wn dung good k A B Q who p y : Nat) : Int64 :=
  worthG a (nW a wn) (chA a wn) (fun w => harv a wn dung good p w) (sm (a 1) p) k A B Q who y
/-- the best of f 0 .. f n: where, how much (the first of several) -/
def bp (f : Nat → Int64) : Nat → Nat × Int64
  | 0 => (0, f 0)
  | n + 1 => if (bp f n).2 < f (n + 1) then (n + 1, f (n + 1)) else bp f n
theorem bp_le (f : Nat → Int64) : ∀ n : Nat, (bp f n).1 ≤ n := by
  intro n
  induction n with
  | zero => exact Nat.le_refl 0
  | succ n ih =>
    show (if (bp f n).2 < f (n + 1) then (n + 1, f (n + 1)) else bp f n).1 ≤ n + 1
    by_cases h : (bp f n).2 < f (n + 1)
    · rw [if_pos h]
      exact Nat.le_refl _
    · rw [if_neg h]
      omega
theorem bp_val (f : Nat → Int64) : ∀ n : Nat, (bp f n).2 = f (bp f n).1 := by
  intro n
  induction n with
  | zero => rfl
  | succ n ih =>
    show (if (bp f n).2 < f (n + 1) then (n + 1, f (n + 1)) else bp f n).2 = f (if (bp f n).2 < f (n + 1) then (n + 1, f (n + 1)) else bp f n).1
    by_cases h : (bp f n).2 < f (n + 1)
    · rw [if_pos h]
    · rw [if_neg h]
      exact ih
def mostN (k : Nat) : Nat := match k with
  | 0 => 99 | 1 => 999 | 2 => 99 | 3 => 1 | 4 => 99 | 5 => 10 | 6 => 99 | _ => 10
/-- the numbers of a FIELD are as they must be (six WEATHERS at most; seven with HAIL) -/
def OkF (a : NN) (st wn : Nat) : Prop := st ≤ 8 ∧ wn ≤ 7 ∧ (∀ k, k < 8 → a 0 k ≤ mostN k) ∧ (∀ k, k < st → a 1 k ≤ 99 ∧ a 2 k ≤ 99) ∧ (∀ k, k < wn → a 3 k ≤ 100 ∧ a 4 k ≤ 300) ∧ sm (a 3) wn ≤ 100
/-- a TERM's numbers: B isn't 0 where it divides -/
def OkT (k A B Q : Nat) : Prop := k ≤ 5 ∧ A ≤ 100 ∧ B ≤ 99 ∧ Q ≤ 99 ∧ ((k = 0 ∨ k = 3 ∨ k = 4) → 0 < B)
theorem grow_le {a : NN} {st wn dung good p : Nat} (h : OkF a st wn) (hd : dung ≤ 3) (hg : good ≤ 9) (hp : p ≤ st) : grow a dung good p ≤ 1700 := by
  obtain ⟨h1, h2, h3, h4, h5, h6⟩ := h
  have e1 : sm (fun s => a 2 s * (10 + good) / 10) p ≤ p * 189 := by
    refine sm_le p (fun k hk => ?_)
    have q1 := (h4 k (by omega)).2
    have q2 : a 2 k * (10 + good) ≤ 99 * 19 := Nat.mul_le_mul q1 (by omega)
    show a 2 k * (10 + good) / 10 ≤ 189
    omega
  have e2 : p * 189 ≤ 8 * 189 := Nat.mul_le_mul_right _ (by omega)
  have e3 : a 0 0 ≤ 99 := h3 0 (by omega)
  unfold grow
  omega
theorem tiA_le {a : NN} {st wn w : Nat} (h : OkF a st wn) : tiA a wn w ≤ 300 := by
  unfold tiA
  by_cases c : w < wn
  · rw [if_pos c]
    exact (h.2.2.2.2.1 w c).2
  · rw [if_neg c]
    omega
theorem harv_le {a : NN} {st wn dung good p w : Nat} (h : OkF a st wn) (hd : dung ≤ 3) (hg : good ≤ 9) (hp : p ≤ st) : grow a dung good p * tiA a wn w ≤ 510000 ∧ harv a wn dung good p w ≤ 5100 := by
  have e1 := grow_le (good := good) h hd hg hp
  have e2 : tiA a wn w ≤ 300 := tiA_le h
  have e3 : grow a dung good p * tiA a wn w ≤ 1700 * 300 := Nat.mul_le_mul e1 e2
  refine ⟨by omega, ?_⟩
  unfold harv
  omega
/-- the reference's FIELD -/
def ME (M : SI) (a : NN) (st wn : Nat) : Prop := (∀ k, k < 8 → M 2 k = nI (a 0 k)) ∧ (∀ k, k < st → M 4 k = nI (a 1 k) ∧ M 5 k = nI (a 2 k)) ∧ (∀ k, k < wn → M 6 k = nI (a 3 k) ∧ M 7 k = nI (a 4 k)) ∧ M 0 7 = nI st ∧ M 0 8 = nI wn
/-- the TERM in the reference's hand, with DUNG and GOOD -/
def HD (M : SI) (k A B Q d gd : Nat) : Prop := M 0 22 = nI k ∧ M 0 23 = nI A ∧ M 0 24 = nI B ∧ M 0 25 = nI Q ∧ M 0 26 = nI d ∧ M 0 27 = nI gd
section PM
variable {M : SI} {N : SJ} {a : NN} {st wn k A B Q d gd : Nat}
theorem mAllCh_l (hw : wn ≤ 7) (hM : ME M a st wn) : ∀ (d n i : Nat), i + d = wn → d < n → FL_X8_allChances_4 n M N (nI (sm (a 3) i)) (nI i) = some (nI (sm (a 3) wn)) := by
  obtain ⟨-, -, h3, -, h5⟩ := hM
  intro d
  induction d with
  | zero =>
    intro n i hi hn
    obtain ⟨n, rfl⟩ := suc hn
    rw [FL_X8_allChances_4, h5, if_pos (nI_le (by omega) (by omega)), show i = wn by omega]
  | succ d ih =>
    intro n i hi hn
    obtain ⟨n, rfl⟩ := suc hn
    rw [FL_X8_allChances_4, h5, if_neg (nI_ge (by omega) (by omega)), if_pos (gin_nI (by omega) (by omega)), nI_clamp (by omega), (h3 i (by omega)).1, nI_add, nI_1]
    exact ih n (i + 1) (by omega) (by omega)
theorem mAllCh (hw : wn ≤ 7) (hM : ME M a st wn) : F_X8_allChances M N = some (nI (sm (a 3) wn)) := mAllCh_l hw hM wn 3000 0 (by omega) (by omega)
theorem mAllW (hO : OkF a st wn) (hM : ME M a st wn) : F_X8_allWeathers M N = some (nI (nW a wn)) := by
  unfold F_X8_allWeathers
  rw [mAllCh hO.2.1 hM]
  obtain ⟨-, -, -, -, h5⟩ := hM
  show some (M 0 8 + (if (nI 100) ≤ nI (sm (a 3) wn) then nI 0 else nI 1)) = _
  have h6 := hO.2.2.2.2.2
  have h7 := hO.2.1
  rw [h5]
  unfold nW
  by_cases c : sm (a 3) wn < 100
  · rw [if_pos c, if_neg (nI_ge c (by omega)), nI_add]
  · rw [if_neg c, if_pos (nI_le (by omega) (by omega)), nI_add]
    rfl
theorem nW_le (hO : OkF a st wn) : nW a wn ≤ 8 ∧ wn ≤ nW a wn := by
  have := hO.2.1
  unfold nW
  by_cases c : sm (a 3) wn < 100
  · rw [if_pos c]; omega
  · rw [if_neg c]; omega
theorem mChance (hO : OkF a st wn) (hM : ME M a st wn) {w : Nat} (hw : w < 8) : F_X8_chanceOf M N (nI w) = some (nI (chA a wn w)) := by
  unfold F_X8_chanceOf chA
  have h7 := hO.2.1
  by_cases c : w < wn
  · rw [if_pos c, hM.2.2.2.2, if_neg (nI_ge c (by omega)), if_pos (gin_nI hw (by omega)), nI_clamp (by omega), (hM.2.2.1 w c).1]
  · rw [if_neg c, hM.2.2.2.2, if_pos (nI_le (by omega) (by omega)), mAllCh hO.2.1 hM]
    exact congrArg some (pk_sub hO.2.2.2.2.2)
theorem mTimes (hO : OkF a st wn) (hM : ME M a st wn) {w : Nat} (hw : w < 8) : F_X8_timesOf M N (nI w) = some (nI (tiA a wn w)) := by
  unfold F_X8_timesOf tiA
  have h7 := hO.2.1
  by_cases c : w < wn
  · rw [if_pos c, hM.2.2.2.2, if_neg (nI_ge c (by omega)), if_pos (gin_nI hw (by omega)), nI_clamp (by omega), (hM.2.2.1 w c).2]
  · rw [if_neg c, hM.2.2.2.2, if_pos (nI_le (by omega) (by omega))]
    rfl
theorem mReapG_l (hO : OkF a st wn) (hM : ME M a st wn) (hg27 : M 0 27 = nI gd) (hd : d ≤ 3) (hg : gd ≤ 9) {p w : Nat} (hp : p ≤ st) (hw : w < 8) : ∀ (j n i : Nat), i + j = p → j < n → FL_X8_reaped_17 n M N (nI p) (nI w) (nI (grow a d gd i)) (nI i) = some (nI (harv a wn d gd p w)) := by
  have hst := hO.1
  intro j
  induction j with
  | zero =>
    intro n i hi hn
    obtain ⟨n, rfl⟩ := suc hn
    rw [FL_X8_reaped_17, if_pos (nI_le (by omega) (by omega)), mTimes hO hM hw, show i = p by omega]
    have e1 := (harv_le (w := w) hO hd hg hp).1
    show some (nI (grow a d gd p) * nI (tiA a wn w) / nI 100) = _
    rw [pk_mul, pk_div (by omega) (by omega) (by omega)]
    rfl
  | succ j ih =>
    intro n i hi hn
    obtain ⟨n, rfl⟩ := suc hn
    have e2 := (hO.2.2.2.1 i (by omega)).2
    have e3 : a 2 i * (10 + gd) ≤ 99 * 19 := Nat.mul_le_mul e2 (by omega)
    rw [FL_X8_reaped_17, if_neg (nI_ge (by omega) (by omega)), if_pos (gin_nI (by omega) (by omega)), nI_clamp (by omega), (hM.2.1 i (by omega)).2, hg27, nI_1]
    have e4 : nI (grow a d gd i) + nI (a 2 i) * ((10 : Int32) + nI gd) / (10 : Int32) = nI (grow a d gd (i + 1)) := by
      show nI (grow a d gd i) + nI (a 2 i) * (nI 10 + nI gd) / nI 10 = nI (grow a d gd (i + 1))
      rw [nI_add, pk_mul, pk_div (by omega) (by omega) (by omega), nI_add, grow_s]
    rw [e4]
    exact ih n (i + 1) (by omega) (by omega)
theorem mReapG (hO : OkF a st wn) (hM : ME M a st wn) (hd26 : M 0 26 = nI d) (hg27 : M 0 27 = nI gd) (hd : d ≤ 3) (hg : gd ≤ 9) {p w : Nat} (hp : p ≤ st) (hw : w < 8) : F_X8_reaped M N (nI p) (nI w) = some (nI (harv a wn d gd p w)) := by
  unfold F_X8_reaped
  have hst := hO.1
  have e1 : (M 2 (Int32.toNatClampNeg (0 : Int32))) + ((5 : Int32) * (M 0 26)) = nI (grow a d gd 0) := by
    rw [show Int32.toNatClampNeg (0 : Int32) = 0 from nI_clamp (n := 0) (by omega), hM.1 0 (by omega), hd26]
    show nI (a 0 0) + nI 5 * nI d = _
    rw [pk_mul, nI_add]
    rfl
  rw [e1]
  exact mReapG_l hO hM hg27 hd hg hp hw p 3000 0 (by omega) (by omega)
theorem mReap (hO : OkF a st wn) (hM : ME M a st wn) (hH : HD M k A B Q d gd) (hd : d ≤ 3) (hg : gd ≤ 9) {p w : Nat} (hp : p ≤ st) (hw : w < 8) : F_X8_reaped M N (nI p) (nI w) = some (nI (harv a wn d gd p w)) := mReapG hO hM hH.2.2.2.2.1 hH.2.2.2.2.2 hd hg hp hw
theorem mShare (hH : HD M k A B Q d gd) (hT : OkT k A B Q) {h y : Nat} (hh : h ≤ 5100) (hy : y ≤ 9) : F_X8_shareOf M N (nI h) (nI y) = some (share k A B Q h y) := by
  obtain ⟨t1, t2, t3, t4, t5⟩ := hT
  obtain ⟨h1, h2, h3, h4, -, -⟩ := hH
  unfold F_X8_shareOf share
  rw [h1, h2, h3, h4]
  have m1 : h * A ≤ 5100 * 100 := Nat.mul_le_mul hh t2
  have m2 : Q * y ≤ 99 * 9 := Nat.mul_le_mul t4 hy
  have z : (0 : Int32) = nI 0 := rfl
  have k0 : (nI k = 0) ↔ k = 0 := nI_eL (n := 0) rfl (by omega) (by omega)
  have k1 : (nI k = 1) ↔ k = 1 := nI_eL (n := 1) rfl (by omega) (by omega)
  have k2 : (nI k = 2) ↔ k = 2 := nI_eL (n := 2) rfl (by omega) (by omega)
  have k3 : (nI k = 3) ↔ k = 3 := nI_eL (n := 3) rfl (by omega) (by omega)
  have k4 : (nI k = 4) ↔ k = 4 := nI_eL (n := 4) rfl (by omega) (by omega)
  have b0 : (nI B = 0) ↔ B = 0 := nI_eL (n := 0) rfl (by omega) (by omega)
  by_cases c0 : k = 0
  · have bp := t5 (Or.inl c0)
    rw [if_pos (k0.mpr c0), if_pos c0, if_neg (fun q => by have := b0.mp q; omega), pk_mul, pk_div (by omega) (by omega) (by omega)]
  rw [if_neg (fun q => c0 (k0.mp q)), if_neg c0]
  by_cases c1 : k = 1
  · rw [if_pos (k1.mpr c1), if_pos c1]
  rw [if_neg (fun q => c1 (k1.mp q)), if_neg c1]
  by_cases c2 : k = 2
  · rw [if_pos (k2.mpr c2), if_pos c2]
  rw [if_neg (fun q => c2 (k2.mp q)), if_neg c2]
  by_cases c3 : k = 3
  · have bp := t5 (Or.inr (Or.inl c3))
    rw [if_pos (k3.mpr c3), if_pos c3, if_neg (fun q => by have := b0.mp q; omega), pk_mul, pk_div (by omega) (by omega) (by omega)]
  rw [if_neg (fun q => c3 (k3.mp q)), if_neg c3]
  by_cases c4 : k = 4
  · have bp := t5 (Or.inr (Or.inr c4))
    have e1 : nI A + nI Q * nI y = nI (A + Q * y) := by rw [pk_mul, nI_add]
    rw [if_pos (k4.mpr c4), if_pos c4, if_neg (fun q => by have := b0.mp q; omega), e1]
    by_cases cc : B < A + Q * y
    · have e2 : h * B ≤ 5100 * 99 := Nat.mul_le_mul hh t3
      rw [if_pos cc, if_neg (nI_ge cc (by omega)), pk_mul, pk_div (by omega) (by omega) (by omega)]
    · have e2 : h * (A + Q * y) ≤ 5100 * 99 := Nat.mul_le_mul hh (by omega)
      rw [if_neg cc, if_pos (nI_le (by omega) (by omega)), pk_mul, pk_div (by omega) (by omega) (by omega)]
  rw [if_neg (fun q => c4 (k4.mp q)), if_neg c4]
  have e1 : (2 : Int32) * nI A = nI (2 * A) := pk_mul 2 A
  rw [e1]
  by_cases cc : 2 * A ≤ h
  · rw [if_pos cc, if_neg (nI_nlt cc (by omega))]
  · rw [if_neg cc, if_pos (nI_lt (by omega) (by omega)), Int32.sub_zero]
theorem mHas (hO : OkF a st wn) (hM : ME M a st wn) (hH : HD M k A B Q d gd) (hT : OkT k A B Q) {who h y : Nat} (hw : who < 2) (hh : h ≤ 5100) (hy : y ≤ 9) : F_X8_hasOf M N (nI who) (nI h) (nI y) = some (has a k A B Q who h y) := by
  unfold F_X8_hasOf has seed
  have e3 : M 2 (Int32.toNatClampNeg (3 : Int32)) = nI (a 0 3) := hM.1 3 (by omega)
  have e2 : M 2 (Int32.toNatClampNeg (2 : Int32)) = nI (a 0 2) := hM.1 2 (by omega)
  have l3 : a 0 3 ≤ 1 := hO.2.2.1 3 (by omega)
  have q3 : (nI (a 0 3) = nI who) ↔ a 0 3 = who := nI_eq (by omega) (by omega)
  have q0 : (nI who = 0) ↔ who = 0 := nI_eL (n := 0) rfl (by omega) (by omega)
  rw [e3, e2, mShare (N := N) hH hT hh hy]
  by_cases c3 : a 0 3 = who
  · rw [if_pos (q3.mpr c3), if_pos c3]
    by_cases c0 : who = 0
    · rw [if_pos (q0.mpr c0), if_pos c0]
      rfl
    · rw [if_neg (fun q => c0 (q0.mp q)), if_neg c0]
      rfl
  · rw [if_neg (fun q => c3 (q3.mp q)), if_neg c3]
    by_cases c0 : who = 0
    · rw [if_pos (q0.mpr c0), if_pos c0]
      rfl
    · rw [if_neg (fun q => c0 (q0.mp q)), if_neg c0]
      rfl
theorem i32_lt {x y : Int32} : ¬ x ≤ y ↔ y < x := Int32.not_le
theorem mMind (hO : OkF a st wn) (hM : ME M a st wn) {who : Nat} (hw : who < 2) (x : Int32) : F_X8_mindOf M N (nI who) x = some (mind a who x) := by
  unfold F_X8_mindOf mind
  have e4 : (4 : Int32) + (2 : Int32) * nI who = nI (4 + 2 * who) := by
    show nI 4 + nI 2 * nI who = _
    rw [pk_mul, nI_add]
  have e5 : (5 : Int32) + (2 : Int32) * nI who = nI (5 + 2 * who) := by
    show nI 5 + nI 2 * nI who = _
    rw [pk_mul, nI_add]
  rw [e4, e5, if_pos (gin_nI (by omega) (by omega)), nI_clamp (by omega), nI_clamp (by omega), hM.1 (4 + 2 * who) (by omega), hM.1 (5 + 2 * who) (by omega)]
  by_cases c : x < 0
  · rw [if_pos c, if_neg (Int32.not_le.mpr c)]
  · rw [if_neg c, if_pos (Int32.not_lt.mp c)]
    by_cases c2 : x ≤ nI (a 0 (4 + 2 * who))
    · rw [if_pos c2, if_neg (Int32.not_lt.mpr c2)]
    · rw [if_neg c2, if_pos (Int32.not_le.mp c2), if_pos (gin_nI (by omega) (by omega))]
theorem mCost_l (hO : OkF a st wn) (hM : ME M a st wn) {p : Nat} (hp : p ≤ st) : ∀ (j n i : Nat), i + j = p → j < n → FL_X8_costOf_4 n M N (nI p) (nI (sm (a 1) i)) (nI i) = some (nI (sm (a 1) p)) := by
  have hst := hO.1
  intro j
  induction j with
  | zero =>
    intro n i hi hn
    obtain ⟨n, rfl⟩ := suc hn
    rw [FL_X8_costOf_4, if_pos (nI_le (by omega) (by omega)), show i = p by omega]
  | succ j ih =>
    intro n i hi hn
    obtain ⟨n, rfl⟩ := suc hn
    rw [FL_X8_costOf_4, if_neg (nI_ge (by omega) (by omega)), if_pos (gin_nI (by omega) (by omega)), nI_clamp (by omega), (hM.2.1 i (by omega)).1, nI_add, nI_1]
    exact ih n (i + 1) (by omega) (by omega)
theorem mCost (hO : OkF a st wn) (hM : ME M a st wn) {p : Nat} (hp : p ≤ st) : F_X8_costOf M N (nI p) = some (nI (sm (a 1) p)) := mCost_l hO hM hp p 3000 0 (by omega) (by have := hO.1; omega)
theorem mWorth_l (hO : OkF a st wn) (hM : ME M a st wn) (hH : HD M k A B Q d gd) (hT : OkT k A B Q) (hd : d ≤ 3) (hg : gd ≤ 9) {p who y : Nat} (hp : p ≤ st) (hw : who < 2) (hy : y ≤ 9) : ∀ (j n i : Nat), i + j = nW a wn → j < n → FL_X8_worthOf_6 n M N (nI who) (nI p) (nI y) (wsum i (chA a wn) (fun w => mind a who (has a k A B Q who (harv a wn d gd p w) y))) (nI i) = some (worth a wn d gd k A B Q who p y) := by
  have hn8 := (nW_le hO).1
  intro j
  induction j with
  | zero =>
    intro n i hi hn
    obtain ⟨n, rfl⟩ := suc hn
    rw [FL_X8_worthOf_6, mAllW hO hM]
    show (if nI (nW a wn) ≤ nI i then _ else _) = _
    rw [if_pos (nI_le (by omega) (by omega))]
    have q0 : (nI who = 0) ↔ who = 0 := nI_eL (n := 0) rfl (by omega) (by omega)
    unfold worth worthG
    by_cases c0 : who = 0
    · rw [if_pos (q0.mpr c0), if_pos c0, mCost hO hM hp, show i = nW a wn by omega, c0]
      rfl
    · rw [if_neg (fun q => c0 (q0.mp q)), if_neg c0, show i = nW a wn by omega]
  | succ j ih =>
    intro n i hi hn
    obtain ⟨n, rfl⟩ := suc hn
    rw [FL_X8_worthOf_6, mAllW hO hM]
    show (if nI (nW a wn) ≤ nI i then _ else _) = _
    rw [if_neg (nI_ge (by omega) (by omega)), mChance hO hM (by omega), mReap hO hM hH hd hg hp (by omega)]
    show ((F_X8_hasOf M N (nI who) (nI (harv a wn d gd p i)) (nI y)).bind _) = _
    rw [mHas hO hM hH hT hw (harv_le hO hd hg hp).2 hy]
    show ((F_X8_mindOf M N (nI who) (has a k A B Q who (harv a wn d gd p i) y)).bind _) = _
    rw [mMind hO hM hw, nI_1]
    exact ih n (i + 1) (by omega) (by omega)
theorem mWorth (hO : OkF a st wn) (hM : ME M a st wn) (hH : HD M k A B Q d gd) (hT : OkT k A B Q) (hd : d ≤ 3) (hg : gd ≤ 9) {p who y : Nat} (hp : p ≤ st) (hw : who < 2) (hy : y ≤ 9) : F_X8_worthOf M N (nI who) (nI p) (nI y) = some (worth a wn d gd k A B Q who p y) := by
  have hn8 := (nW_le hO).1
  exact mWorth_l hO hM hH hT hd hg hp hw hy (nW a wn) 3000 0 (by omega) (by omega)
theorem mBest_l (hO : OkF a st wn) (hM : ME M a st wn) (hH : HD M k A B Q d gd) (hT : OkT k A B Q) (hd : d ≤ 3) (hg : gd ≤ 9) {y : Nat} (hy : y ≤ 9) : ∀ (j n i : Nat), i + j = st → j < n → FL_X8_bestPains_13 n M N (nI y) (nI (bp (fun p => worth a wn d gd k A B Q 0 p y) i).1) (bp (fun p => worth a wn d gd k A B Q 0 p y) i).2 (nI (i + 1)) = some (nI (bp (fun p => worth a wn d gd k A B Q 0 p y) st).1) := by
  have hst := hO.1
  intro j
  induction j with
  | zero =>
    intro n i hi hn
    obtain ⟨n, rfl⟩ := suc hn
    rw [FL_X8_bestPains_13, hM.2.2.2.1, if_pos (nI_lt (by omega) (by omega)), show i = st by omega]
  | succ j ih =>
    intro n i hi hn
    obtain ⟨n, rfl⟩ := suc hn
    rw [FL_X8_bestPains_13, hM.2.2.2.1, if_neg (nI_nlt (by omega) (by omega))]
    have e1 : F_X8_worthOf M N (0 : Int32) (nI (i + 1)) (nI y) = some (worth a wn d gd k A B Q 0 (i + 1) y) := mWorth (who := 0) hO hM hH hT hd hg (by omega) (by omega) hy
    rw [e1]
    have e2 : bp (fun p => worth a wn d gd k A B Q 0 p y) (i + 1) = if (bp (fun p => worth a wn d gd k A B Q 0 p y) i).2 < worth a wn d gd k A B Q 0 (i + 1) y then (i + 1, worth a wn d gd k A B Q 0 (i + 1) y) else bp (fun p => worth a wn d gd k A B Q 0 p y) i := rfl
    have e3 := ih n (i + 1) (by omega) (by omega)
    rw [e2] at e3
    show (if (bp (fun p => worth a wn d gd k A B Q 0 p y) i).2 < worth a wn d gd k A B Q 0 (i + 1) y then _ else _) = _
    by_cases c : (bp (fun p => worth a wn d gd k A B Q 0 p y) i).2 < worth a wn d gd k A B Q 0 (i + 1) y
    · rw [if_pos c] at e3 ⊢
      rw [nI_1]
      exact e3
    · rw [if_neg c] at e3 ⊢
      rw [nI_1]
      exact e3
theorem mBest (hO : OkF a st wn) (hM : ME M a st wn) (hH : HD M k A B Q d gd) (hT : OkT k A B Q) (hd : d ≤ 3) (hg : gd ≤ 9) {y : Nat} (hy : y ≤ 9) : F_X8_bestPains M N (nI y) = some (nI (bp (fun p => worth a wn d gd k A B Q 0 p y) st).1) := by
  have hst := hO.1
  unfold F_X8_bestPains
  have e1 : F_X8_worthOf M N (0 : Int32) (0 : Int32) (nI y) = some (worth a wn d gd k A B Q 0 0 y) := mWorth (who := 0) (p := 0) hO hM hH hT hd hg (by omega) (by omega) hy
  rw [e1]
  have e2 := mBest_l (N := N) hO hM hH hT hd hg hy st 3000 0 (by omega) (by omega)
  rw [show nI (bp (fun p => worth a wn d gd k A B Q 0 p y) 0).1 = (0 : Int32) from rfl, show (bp (fun p => worth a wn d gd k A B Q 0 p y) 0).2 = worth a wn d gd k A B Q 0 0 y from rfl, show nI (0 + 1) = (1 : Int32) from rfl] at e2
  exact e2
theorem mTakes (hO : OkF a st wn) (hM : ME M a st wn) (hH : HD M k A B Q d gd) (hT : OkT k A B Q) (hd : d ≤ 3) (hg : gd ≤ 9) : F_X8_doesTake M N = some (if (bp (fun p => worth a wn d gd k A B Q 0 p 0) st).2 < 1000 * (nI (a 0 1)).toInt64 then 0 else 1) := by
  have hst := hO.1
  unfold F_X8_doesTake
  have e0 : F_X8_bestPains M N (0 : Int32) = _ := mBest (y := 0) hO hM hH hT hd hg (by omega)
  rw [e0]
  have hb := bp_le (fun p => worth a wn d gd k A B Q 0 p 0) st
  have e1 : F_X8_worthOf M N (0 : Int32) (nI (bp (fun p => worth a wn d gd k A B Q 0 p 0) st).1) (0 : Int32) = some (worth a wn d gd k A B Q 0 (bp (fun p => worth a wn d gd k A B Q 0 p 0) st).1 0) := mWorth (who := 0) (y := 0) hO hM hH hT hd hg hb (by omega) (by omega)
  show ((F_X8_worthOf M N (0 : Int32) (nI (bp (fun p => worth a wn d gd k A B Q 0 p 0) st).1) (0 : Int32)).bind _) = _
  rw [e1, bp_val]
  have e2 : M 2 (Int32.toNatClampNeg (1 : Int32)) = nI (a 0 1) := hM.1 1 (by omega)
  show (if _ < 1000 * (M 2 (Int32.toNatClampNeg (1 : Int32))).toInt64 then _ else _) = _
  rw [e2]
  split <;> rfl
end PM
