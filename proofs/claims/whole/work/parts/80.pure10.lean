/-- the sum of CHANCES times BUSHELS -/
def hsum (ch : Nat → Nat) (f : Nat → Int32) : Nat → Int32
  | 0 => 0
  | n + 1 => hsum ch f n + nI (ch n) * f n
theorem div_l : ∀ (n a b : Nat), b < n → a < 2 ^ 31 → b < 2 ^ 31 → FL_X8_divisor_4 n (nI a) (nI b) = some (nI (Nat.gcd a b)) := by
  intro n
  induction n with
  | zero => intro a b h; omega
  | succ n ih =>
    intro a b hn ha hb
    rw [FL_X8_divisor_4]
    by_cases c : b = 0
    · subst c
      rw [if_pos (show nI 0 = (0 : Int32) from rfl), Nat.gcd_zero_right]
    · have hb0 : 0 < b := Nat.pos_of_ne_zero c
      have hm := Nat.mod_lt a hb0
      rw [if_neg (nI_ne0 hb0 hb), if_neg (nI_ne0 hb0 hb), pk_rem ha hb0 hb, ih b (a % b) (by omega) hb (by omega), Nat.gcd_comm a b, Nat.gcd_rec b a, Nat.gcd_comm b (a % b)]
theorem com_l {s : Int32} {m : Nat} (hs : ∀ d, 0 < d → d ≤ 100 → ((s - s / nI d * nI d = 0) ↔ m % d = 0)) : ∀ (w n : Nat), 0 < w → w ≤ 100 → w < n → Nat.gcd m 100 ≤ w → FL_X7_commonWithHundred_3 n s (nI w) = some (nI (Nat.gcd m 100)) := by
  have h1 : 0 < Nat.gcd m 100 := Nat.gcd_pos_of_pos_right m (by omega)
  intro w
  induction w with
  | zero => intro n h; omega
  | succ w ih =>
    intro n h0 h100 hn hg
    obtain ⟨n, rfl⟩ := suc hn
    rw [FL_X7_commonWithHundred_3]
    by_cases c : w = 0
    · subst c
      rw [if_pos (show nI (0 + 1) ≤ (1 : Int32) from nI_le (b := 1) (by omega) (by omega)), show Nat.gcd m 100 = 1 by omega]
      rfl
    · have e1 : (100 : Int32) - 100 / nI (w + 1) * nI (w + 1) = nI (100 % (w + 1)) := pk_rem (a := 100) (by omega) (by omega) (by omega)
      rw [if_neg (show ¬ nI (w + 1) ≤ (1 : Int32) from nI_ge (a := 1) (by omega) (by omega)), if_neg (nI_ne0 (by omega) (by omega)), e1, pk_m1]
      have hm := Nat.mod_lt 100 (show 0 < w + 1 by omega)
      have q1 : (nI (100 % (w + 1)) = 0) ↔ 100 % (w + 1) = 0 := nI_eL (n := 0) rfl (by omega) (by omega)
      have go : Nat.gcd m 100 ≠ w + 1 → FL_X7_commonWithHundred_3 n s (nI w) = some (nI (Nat.gcd m 100)) := fun q => ih n (by omega) (by omega) (by omega) (by omega)
      by_cases c1 : 100 % (w + 1) = 0
      · rw [if_pos (q1.mpr c1), if_neg (nI_ne0 (by omega) (by omega))]
        by_cases c2 : m % (w + 1) = 0
        · rw [if_pos ((hs (w + 1) (by omega) h100).mpr c2)]
          have h2 : w + 1 ∣ Nat.gcd m 100 := Nat.dvd_gcd (Nat.dvd_of_mod_eq_zero c2) (Nat.dvd_of_mod_eq_zero c1)
          have h3 := Nat.le_of_dvd h1 h2
          rw [show w + 1 = Nat.gcd m 100 by omega]
        · rw [if_neg (fun q => c2 ((hs (w + 1) (by omega) h100).mp q))]
          refine go (fun q => c2 ?_)
          rw [← q]
          exact Nat.mod_eq_zero_of_dvd (Nat.gcd_dvd_left m 100)
      · rw [if_neg (fun q => c1 (q1.mp q))]
        refine go (fun q => c1 ?_)
        rw [← q]
        exact Nat.mod_eq_zero_of_dvd (Nat.gcd_dvd_right m 100)
theorem gcd_ok (m : Nat) : 0 < Nat.gcd m 100 ∧ Nat.gcd m 100 ≤ 100 := ⟨Nat.gcd_pos_of_pos_right m (by omega), Nat.le_of_dvd (by omega) (Nat.gcd_dvd_right m 100)⟩
theorem neg_toInt {m : Nat} (hm : m < 2 ^ 31) : (-(nI m)).toInt = -(m : Int) := by
  rw [Int32.toInt_neg, nI_toInt hm, Int.bmod_def]
  split <;> omega
theorem neg_divN {m d : Nat} (hm : m < 2 ^ 31) (h0 : 0 < d) (hd : d ≤ 100) : -(nI m) / nI d = -(nI (m / d)) := by
  have h1 : m / d ≤ m := Nat.div_le_self m d
  apply Int32.toInt_inj.mp
  rw [Int32.toInt_div_of_ne_right _ _ (fun q => by have := nI_pos (n := d) (by omega); rw [q] at this; exact this (by decide)), neg_toInt hm, nI_toInt (by omega), neg_toInt (by omega), Int.neg_tdiv]
  rfl
theorem common (s : Int32) : ∃ g, 0 < g ∧ g ≤ 100 ∧ F_X7_commonWithHundred s = some (nI g) ∧ F_X8_divisor (if 0 ≤ s then s else -s) (100 : Int32) = some (nI g) := by
  by_cases c : s < 0
  · rw [if_neg (Int32.not_le.mpr c)]
    by_cases c2 : s = Int32.minValue
    · subst c2
      exact ⟨4, by omega, by omega, by decide +kernel, by decide +kernel⟩
    · have c3 : ¬ -s < 0 := fun q => by
        have h1 : -s ≤ 0 := Int32.le_of_lt q
        rcases (Int32.neg_nonpos_iff s).mp h1 with h | h
        · exact c2 h
        · exact Int32.not_le.mpr c h
      obtain ⟨m, hm, e⟩ := nI_of c3
      have es : s = -(nI m) := by rw [← e, Int32.neg_neg]
      have hg := gcd_ok m
      refine ⟨Nat.gcd m 100, hg.1, hg.2, com_l (m := m) (fun d h0 hd => ?_) 100 3000 (by omega) (by omega) (by omega) hg.2, by rw [e]; exact div_l 3000 m 100 (by omega) hm (by omega)⟩
      have h2 := Nat.mod_lt m h0
      have h3 : -(nI m) - -(nI (m / d)) * nI d = -(nI (m % d)) := by
        rw [Int32.neg_mul, ← pk_rem hm h0 (by omega), pk_div hm h0 (by omega)]
        grind
      rw [es, neg_divN hm h0 hd, h3]
      refine Iff.trans ?_ (nI_eL (k := m % d) (n := 0) rfl (by omega) (by omega))
      exact Int32.neg_inj (a := nI (m % d)) (b := 0)
  · rw [if_pos (Int32.not_lt.mp c)]
    obtain ⟨m, hm, rfl⟩ := nI_of c
    have hg := gcd_ok m
    refine ⟨Nat.gcd m 100, hg.1, hg.2, com_l (m := m) (fun d h0 hd => ?_) 100 3000 (by omega) (by omega) (by omega) hg.2, div_l 3000 m 100 (by omega) hm (by omega)⟩
    have h2 := Nat.mod_lt m h0
    rw [pk_rem hm h0 (by omega)]
    exact nI_eL (n := 0) rfl (by omega) (by omega)
section S10
variable {I M : SI} {J N : SJ} {a : NN} {st wn te tl rl k A B Q t nw y d gd : Nat} {tx : Nat → Nat}
theorem xHund_l (hO : OkF a st wn) (hX : XE I 0 a st wn) (hS : SL0 I a st wn) (hT : OkT k A B Q) (hXT : XT I t k A B Q) {p who : Nat} (hp : p ≤ st) (hw : who < 2) : ∀ (j n i : Nat), i + j = nW a wn → j < n → FL_X4_hundredBushels_6 n I J t (nI p) (nI who) (hsum (chA a wn) (fun w => has a k A B Q who (harv a wn 0 0 p w) 0) i) (nI i) = some (hsum (chA a wn) (fun w => has a k A B Q who (harv a wn 0 0 p w) 0) (nW a wn)) := by
  have hst := hO.1
  have hnw := (nW_le hO).1
  obtain ⟨g1, g2, g3, g4, g5, g6⟩ := hS
  intro j
  induction j with
  | zero =>
    intro n i hi hn
    obtain ⟨n, rfl⟩ := suc hn
    rw [FL_X4_hundredBushels_6, g2, if_pos (nI_le (by omega) (by omega)), show i = nW a wn by omega]
  | succ j ih =>
    intro n i hi hn
    obtain ⟨n, rfl⟩ := suc hn
    have e1 : F_X4_harvestOf I J (nI p) (nI i) = some (nI (harv a wn 0 0 p i)) := by
      unfold F_X4_harvestOf
      have e2 : nI p * (8 : Int32) + nI i = nI (p * 8 + i) := by
        show nI p * nI 8 + nI i = _
        rw [pk_mul, nI_add]
      rw [e2, pAt (by omega) (by omega), g6 p i hp (by omega)]
      rfl
    have e3 : F_X4_chanceOf I J (nI i) = some (nI (chA a wn i)) := by
      unfold F_X4_chanceOf
      rw [pAt (by omega) (by omega), g4 i (by omega)]
      rfl
    have e4 : F_X1_bushelsOf 0 t I J (nI (harv a wn 0 0 p i)) (nI 0) (nI who) = some (has a k A B Q who (harv a wn 0 0 p i) 0) := xBush hO hX hT hXT hw (harv_le hO (by omega) (by omega) hp).2 (by omega)
    rw [FL_X4_hundredBushels_6, g2, if_neg (nI_ge (by omega) (by omega)), g3]
    simp only [e1, e4, e3, Option.bind_some, nI_1]
    exact ih n (i + 1) (by omega) (by omega)
theorem mMean_l (hO : OkF a st wn) (hM : ME M a st wn) (hH : HD M k A B Q 0 0) (hT : OkT k A B Q) {p who : Nat} {v3 : Int32} {g : Nat} (hg0 : 0 < g) (hg1 : g ≤ 100) (hp : p ≤ st) (hw : who < 2)
    (hgd : F_X8_divisor (if 0 ≤ hsum (chA a wn) (fun w => has a k A B Q who (harv a wn 0 0 p w) 0) (nW a wn) then hsum (chA a wn) (fun w => has a k A B Q who (harv a wn 0 0 p w) 0) (nW a wn) else -hsum (chA a wn) (fun w => has a k A B Q who (harv a wn 0 0 p w) 0) (nW a wn)) (100 : Int32) = some (nI g)) :
    ∀ (j n i : Nat), i + j = nW a wn → j < n → FL_X8_mean_57 n M N (nI who) v3 (nI p) (hsum (chA a wn) (fun w => has a k A B Q who (harv a wn 0 0 p w) 0) i) (nI i) = some ((if v3 = 0 then hsum (chA a wn) (fun w => has a k A B Q who (harv a wn 0 0 p w) 0) (nW a wn) else 100) / nI g, M, N) := by
  have hnw := (nW_le hO).1
  intro j
  induction j with
  | zero =>
    intro n i hi hn
    obtain ⟨n, rfl⟩ := suc hn
    rw [FL_X8_mean_57, mAllW hO hM, Option.bind_some, if_pos (nI_le (by omega) (by omega)), show i = nW a wn by omega, hgd, Option.bind_some, if_neg (nI_ne0 hg0 (by omega)), if_neg (nI_ne0 hg0 (by omega))]
    by_cases c : v3 = 0
    · rw [if_pos c, if_pos c]
    · rw [if_neg c, if_neg c]
  | succ j ih =>
    intro n i hi hn
    obtain ⟨n, rfl⟩ := suc hn
    have e4 : F_X8_hasOf M N (nI who) (nI (harv a wn 0 0 p i)) (0 : Int32) = some (has a k A B Q who (harv a wn 0 0 p i) 0) := mHas (y := 0) hO hM hH hT hw (harv_le hO (by omega) (by omega) hp).2 (by omega)
    rw [FL_X8_mean_57, mAllW hO hM, Option.bind_some, if_neg (nI_ge (by omega) (by omega)), mChance hO hM (by omega), mReap hO hM hH (by omega) (by omega) hp (by omega)]
    simp only [e4, Option.bind_some, nI_1]
    exact ih n (i + 1) (by omega) (by omega)
theorem st12 : St12 Rl := by
  intro I J M N v1 v2 v3 hR
  obtain ⟨a, st, wn, te, tl, tx, rl, h⟩ := id hR
  have no1 : ∃ (I1 M1 : SI), F_X7_refuseAsTold I J (-1) = some ((1000000000 : Int32) - (-1), I1, J) ∧ F_X8_lower M N (-1) = some ((1000000000 : Int32) - (-1), M1, N) ∧ Rl I1 J M1 N := bNoT hR (by decide)
  rcases termC (J := J) (N := N) h v1 with ⟨hx, hm⟩ | ⟨i, hi, rfl, hx, hm⟩
  · obtain ⟨I1, M1, h1, h2, h3⟩ := no1
    exact ⟨_, I1, J, M1, N, (by simp only [F_X7_mean, hx, Option.bind_some, h1] : F_X7_mean I J v1 v2 v3 = some ((1000000000 : Int32) - (-1), I1, J)), by simp only [F_X8_mean, hm, Option.bind_some, i00, ↓reduceIte, h2], h3⟩
  rcases whoC v2 with ⟨gx, gm⟩ | ⟨w, hw, rfl, gx, gm⟩
  · obtain ⟨I1, M1, h1, h2, h3⟩ := no1
    exact ⟨_, I1, J, M1, N, (by simp only [F_X7_mean, hx, gx, Option.bind_some, i00, ↓reduceIte, h1] : F_X7_mean I J (nI i) v2 v3 = some ((1000000000 : Int32) - (-1), I1, J)), by simp only [F_X8_mean, hm, gm, Option.bind_some, i10, i00, ↓reduceIte, h2], h3⟩
  obtain ⟨I1, l1, l2, l3, l4, l5⟩ := layR (d := 0) (gd := 0) h (by omega) (by omega) SX.rf J
  have l1' : F_X4_lay I J (0 : Int32) (0 : Int32) (0 : Int32) = some (I1, J) := l1
  obtain ⟨M1, t1, t2, t3⟩ := takeM (N := N) h hi
  have t8 := h.1.2.2.1
  have hT := h.1.2.2.2 i hi
  obtain ⟨I2, J2, r1, r2, r3, r4⟩ := xBest (t := 7 + i) (J := J) h.1.1 (by omega) l3 hT (xtL h l2 hi) l4 (nW_le h.1.1).1 (hv_ok h.1.1 (by omega) (by omega)) (by omega)
  have e2 : F_X8_bestPains M1 N (0 : Int32) = some (nI (bp (fun p => worth a wn 0 0 (a 5 i) (a 6 i) (a 7 i) (a 8 i) 0 p 0) st).1) := mBest (y := 0) h.1.1 (h.2.2.1.sm t3).1 t2 hT (by omega) (by omega) (by omega)
  have r3' : I2 47 8 = nI (bp (fun p => worth a wn 0 0 (a 5 i) (a 6 i) (a 7 i) (a 8 i) 0 p 0) st).1 := r3
  have hp : (bp (fun p => worth a wn 0 0 (a 5 i) (a 6 i) (a 7 i) (a 8 i) 0 p 0) st).1 ≤ st := bp_le _ _
  generalize (bp (fun p => worth a wn 0 0 (a 5 i) (a 6 i) (a 7 i) (a 8 i) 0 p 0) st).1 = p at *
  have e3 : F_X4_hundredBushels (7 + i) I2 J2 (nI p) (nI w) = some (hsum (chA a wn) (fun q => has a (a 5 i) (a 6 i) (a 7 i) (a 8 i) w (harv a wn 0 0 p q) 0) (nW a wn)) := xHund_l (J := J2) h.1.1 (l3.fp r2.fp) (l4.fp r2.fp) hT ((xtL h l2 hi).fr (by omega) r2) hp hw (nW a wn) 3000 0 (by omega) (by have := (nW_le h.1.1).1; omega)
  obtain ⟨g, g0, g1, g2, g3⟩ := common (hsum (chA a wn) (fun q => has a (a 5 i) (a 6 i) (a 7 i) (a 8 i) w (harv a wn 0 0 p q) 0) (nW a wn))
  have e4 : FL_X8_mean_57 3000 M1 N (nI w) v3 (nI p) (0 : Int32) (0 : Int32) = _ := mMean_l (N := N) (v3 := v3) h.1.1 (h.2.2.1.sm t3).1 t2 hT g0 g1 hp hw g3 (nW a wn) 3000 0 (by omega) (by have := (nW_le h.1.1).1; omega)
  have hc : ∀ x : Int32, F_X2_cut x (nI g) = some (x / nI g) := fun x => pCut g0 (by omega)
  by_cases c0 : v3 = 0
  · subst c0
    exact ⟨_, I2, J2, M1, N, (by simp only [F_X7_mean, hx, gx, Option.bind_some, i10, ↓reduceIte, l1', r1, r3', e3, g2, hc] : F_X7_mean I J (nI i) (nI w) 0 = some (hsum (chA a wn) (fun q => has a (a 5 i) (a 6 i) (a 7 i) (a 8 i) w (harv a wn 0 0 p q) 0) (nW a wn) / nI g, I2, J2)), by simp only [F_X8_mean, hm, gm, isOk (show ¬ (0 : Int32) < 0 by decide) (show ¬ (1 : Int32) < 0 by decide), Option.bind_some, i10, ↓reduceIte, t1, e2, e4], hR.same (l2.tr r2.sx) t3⟩
  by_cases c1 : v3 = 1
  · subst c1
    exact ⟨_, I2, J2, M1, N, (by simp only [F_X7_mean, hx, gx, Option.bind_some, i10, ↓reduceIte, l1', r1, r3', e3, g2, hc] : F_X7_mean I J (nI i) (nI w) 1 = some (100 / nI g, I2, J2)), by simp only [F_X8_mean, hm, gm, isOk (show ¬ (1 : Int32) < 0 by decide) (show ¬ (1 : Int32) < 1 by decide), Option.bind_some, i10, ↓reduceIte, t1, e2, e4], hR.same (l2.tr r2.sx) t3⟩
  obtain ⟨I3, M3, h1, h2, h3⟩ := bNoT hR (v := -2) (by decide)
  have em : F_X8_isIn v3 0 1 = some 0 := by
    by_cases d1 : v3 < 0
    · exact isLo d1
    · by_cases d2 : 1 < v3
      · exact isHi d2
      · obtain ⟨x, hx2, rfl⟩ := nI_of2 (n := 1) (M := 1) (by decide) d1 (Int32.not_lt.mp d2)
        rcases (show x = 0 ∨ x = 1 by omega) with rfl | rfl
        · exact absurd rfl c0
        · exact absurd rfl c1
  exact ⟨_, I3, J, M3, N, (by simp only [F_X7_mean, hx, gx, Option.bind_some, i10, if_neg c0, if_neg c1, ↓reduceIte, h1] : F_X7_mean I J (nI i) (nI w) v3 = some ((1000000000 : Int32) - (-2), I3, J)), by simp only [F_X8_mean, hm, gm, em, Option.bind_some, i10, i00, ↓reduceIte, h2], h3⟩
end S10
