/-- SAYING less: what is held back; the mind without and with a finding -/
def gS (h l : Nat) : Nat := if h < l then h else l
theorem gS_le (h l : Nat) : gS h l ≤ h := by
  unfold gS
  by_cases c : h < l
  · rw [if_pos c]; omega
  · rw [if_neg c]; omega
section S11
variable {I M : SI} {J N : SJ} {a : NN} {st wn te tl rl k A B Q t nw y d gd p l q : Nat} {tx : Nat → Nat} {v : Int32}
def mS (a : NN) (wn k A B Q p l w : Nat) : Int32 := mind a 0 (has a k A B Q 0 (harv a wn 0 0 p w - gS (harv a wn 0 0 p w) l) 0 + nI (gS (harv a wn 0 0 p w) l))
def dS (a : NN) (wn k A B Q p : Nat) (v : Int32) (l w : Nat) : Int32 := if gS (harv a wn 0 0 p w) l = 0 then mS a wn k A B Q p l w else mind a 0 (-v - nI (seed a 0))
def s53 (a : NN) (wn k A B Q p : Nat) (v : Int32) (l : Nat) : Int64 := wsum (nW a wn) (chA a wn) (fun w => dS a wn k A B Q p v l w)
def s54 (a : NN) (wn k A B Q p : Nat) (l : Nat) : Int64 := wsum (nW a wn) (chA a wn) (fun w => mS a wn k A B Q p l w)
def sv (a : NN) (wn k A B Q p : Nat) (v : Int32) (q l : Nat) : Int64 := (nI q).toInt64 * s53 a wn k A B Q p v l + ((100 : Int32) - nI q).toInt64 * s54 a wn k A B Q p l
theorem xSay1 (hO : OkF a st wn) (hX : XE I 0 a st wn) (hS : SL0 I a st wn) (hT : OkT k A B Q) (hXT : XT I t k A B Q) (hp : p ≤ st) (hl : l ≤ 20) {w : Nat} (hw : w < nW a wn) (J : SJ) :
    ∃ J' : SJ, F_X3_addWeather t I J (nI p) v (nI l) (nI w) = some (I, J') ∧ J' 54 l = J 54 l + (nI (chA a wn w)).toInt64 * (mS a wn k A B Q p l w).toInt64 ∧ J' 53 l = J 53 l + (nI (chA a wn w)).toInt64 * (dS a wn k A B Q p v l w).toInt64 ∧ ∀ i, i ≠ l → J' 53 i = J 53 i ∧ J' 54 i = J 54 i := by
  have hst := hO.1
  have hnw := (nW_le hO).1
  obtain ⟨g1, g2, g3, g4, g5, g6⟩ := hS
  have hh := (harv_le (w := w) hO (show 0 ≤ 3 by omega) (show 0 ≤ 9 by omega) hp).2
  have e1 : F_X4_harvestOf I J (nI p) (nI w) = some (nI (harv a wn 0 0 p w)) := by
    unfold F_X4_harvestOf
    have e2 : nI p * (8 : Int32) + nI w = nI (p * 8 + w) := by
      show nI p * nI 8 + nI w = _
      rw [pk_mul, nI_add]
    rw [e2, pAt (by omega) (by omega), g6 p w hp (by omega)]
    rfl
  have e3 : F_X4_chanceOf I J (nI w) = some (nI (chA a wn w)) := by
    unfold F_X4_chanceOf
    rw [pAt (by omega) (by omega), g4 w (by omega)]
    rfl
  unfold F_X3_addWeather dS mS
  rw [e1, Option.bind_some]
  generalize harv a wn 0 0 p w = h at *
  have hg := gS_le h l
  have eg : (if nI h < nI l then nI h else nI l) = nI (gS h l) := by
    unfold gS
    by_cases c : h < l
    · rw [if_pos (nI_lt c (by omega)), if_pos c]
    · rw [if_neg (nI_nlt (by omega) (by omega)), if_neg c]
  rw [eg, pk_sub hg]
  have e4 : F_X1_bushelsOf 0 t I J (nI (h - gS h l)) (0 : Int32) (0 : Int32) = some (has a k A B Q 0 (h - gS h l) 0) := xBush (who := 0) (y := 0) hO hX hT hXT (by omega) (by omega) (by omega)
  have e5 : F_X1_mindOf 0 I J (0 : Int32) (has a k A B Q 0 (h - gS h l) 0 + nI (gS h l)) = some (mind a 0 (has a k A B Q 0 (h - gS h l) 0 + nI (gS h l))) := xMind (who := 0) hO hX (by omega) _
  have e6 : F_X1_seedOf 0 I J (0 : Int32) = some (nI (seed a 0)) := xSeed (who := 0) hO hX (by omega)
  have e7 : F_X1_mindOf 0 I J (0 : Int32) (-v - nI (seed a 0)) = some (mind a 0 (-v - nI (seed a 0))) := xMind (who := 0) hO hX (by omega) _
  have p1 : ∀ f : Nat → Int64, F_X2_at_ 21 f (nI l) = some (f l) := fun f => pAtL (by omega) (by omega)
  have p2 : ∀ (f : Nat → Int64) (x : Int64), F_X2_put_ 21 f (nI l) x = some (vp_updL f l x) := fun f x => pPutL (by omega) (by omega)
  simp only [e3, e4, e5, e6, e7, p1, p2, Option.bind_some]
  by_cases c : gS h l = 0
  · rw [if_pos c, if_pos (show nI (gS h l) ≤ 0 by rw [c]; decide)]
    refine ⟨_, rfl, ?_, ?_, fun i hi => ⟨?_, ?_⟩⟩
    · rw [u1_ne (show (54 : Nat) ≠ 53 by omega), u1_at, pk_uLs]
    · rw [u1_at, pk_uLs, u1_ne (show (53 : Nat) ≠ 54 by omega)]
    · rw [u1_at, pk_uLn hi, u1_ne (show (53 : Nat) ≠ 54 by omega)]
    · rw [u1_ne (show (54 : Nat) ≠ 53 by omega), u1_at, pk_uLn hi]
  · rw [if_neg c, if_neg (nI_nle (Nat.pos_of_ne_zero c) (by omega))]
    refine ⟨_, rfl, ?_, ?_, fun i hi => ⟨?_, ?_⟩⟩
    · rw [u1_ne (show (54 : Nat) ≠ 53 by omega), u1_at, pk_uLs]
    · rw [u1_at, pk_uLs, u1_ne (show (53 : Nat) ≠ 54 by omega)]
    · rw [u1_at, pk_uLn hi, u1_ne (show (53 : Nat) ≠ 54 by omega)]
    · rw [u1_ne (show (54 : Nat) ≠ 53 by omega), u1_at, pk_uLn hi]
theorem xSayW_l (hO : OkF a st wn) (hX : XE I 0 a st wn) (hS : SL0 I a st wn) (hT : OkT k A B Q) (hXT : XT I t k A B Q) (hp : p ≤ st) (hl : l ≤ 20) : ∀ (j n i : Nat) (J : SJ), i + j = nW a wn → j < n →
    J 54 l = wsum i (chA a wn) (fun w => mS a wn k A B Q p l w) → J 53 l = wsum i (chA a wn) (fun w => dS a wn k A B Q p v l w) →
    ∃ J' : SJ, FS_X3_lay_37 n I J t (nI p) v (nI l) (nI i) = some (I, J', nI p, v, nI l, nI (nW a wn)) ∧ J' 54 l = s54 a wn k A B Q p l ∧ J' 53 l = s53 a wn k A B Q p v l ∧ ∀ i, i ≠ l → J' 53 i = J 53 i ∧ J' 54 i = J 54 i := by
  have hnw := (nW_le hO).1
  have g2 := hS.2.1
  intro j
  induction j with
  | zero =>
    intro n i J hi hn h4 h3
    obtain ⟨n, rfl⟩ := suc hn
    have hi' : i = nW a wn := by omega
    subst hi'
    refine ⟨J, ?_, h4, h3, fun _ _ => ⟨rfl, rfl⟩⟩
    rw [FS_X3_lay_37, g2, if_pos (nI_le (by omega) (by omega))]
  | succ j ih =>
    intro n i J hi hn h4 h3
    obtain ⟨n, rfl⟩ := suc hn
    obtain ⟨J1, a1, a2, a3, a4⟩ := xSay1 (v := v) hO hX hS hT hXT hp hl (show i < nW a wn by omega) J
    rw [h4] at a2
    rw [h3] at a3
    obtain ⟨J2, b1, b2, b3, b4⟩ := ih n (i + 1) J1 (by omega) (by omega) a2 a3
    refine ⟨J2, ?_, b2, b3, fun x hx => ⟨(b4 x hx).1.trans (a4 x hx).1, (b4 x hx).2.trans (a4 x hx).2⟩⟩
    rw [FS_X3_lay_37, g2, if_neg (nI_ge (by omega) (by omega)), a1, Option.bind_some, nI_1]
    exact b1
def SY (J : SJ) (a : NN) (wn k A B Q p : Nat) (v : Int32) (n : Nat) : Prop := ∀ l, l < n → J 53 l = s53 a wn k A B Q p v l ∧ J 54 l = s54 a wn k A B Q p l
theorem xSayL_l (hO : OkF a st wn) (hX : XE I 0 a st wn) (hS : SL0 I a st wn) (hT : OkT k A B Q) (hXT : XT I t k A B Q) (hp : p ≤ st) : ∀ (j n l : Nat) (J : SJ), l + j = 21 → j < n → SY J a wn k A B Q p v l →
    ∃ J' : SJ, FL_X3_lay_3 n I J t (nI p) v (nI l) = some (I, J') ∧ SY J' a wn k A B Q p v 21 := by
  have hnw := (nW_le hO).1
  intro j
  induction j with
  | zero =>
    intro n l J hl hn hy
    obtain ⟨n, rfl⟩ := suc hn
    refine ⟨J, ?_, by rw [show 21 = l by omega]; exact hy⟩
    rw [FL_X3_lay_3, if_pos (show (20 : Int32) < nI l from nI_lt (a := 20) (by omega) (by omega))]
  | succ j ih =>
    intro n l J hl hn hy
    obtain ⟨n, rfl⟩ := suc hn
    have p2 : ∀ (f : Nat → Int64) (x : Int64), F_X2_put_ 21 f (nI l) x = some (vp_updL f l x) := fun f x => pPutL (by omega) (by omega)
    have q4 : u1 (u1 J 53 (vp_updL (J 53) l 0)) 54 (vp_updL (u1 J 53 (vp_updL (J 53) l 0) 54) l 0) 54 l = 0 := by rw [u1_at, pk_uLs]
    have q3 : u1 (u1 J 53 (vp_updL (J 53) l 0)) 54 (vp_updL (u1 J 53 (vp_updL (J 53) l 0) 54) l 0) 53 l = 0 := by rw [u1_ne (show (53 : Nat) ≠ 54 by omega), u1_at, pk_uLs]
    obtain ⟨J1, a1, a2, a3, a4⟩ := xSayW_l (v := v) hO hX hS hT hXT hp (show l ≤ 20 by omega) (nW a wn) 3000 0 _ (by omega) (by omega) q4 q3
    have a1' : FS_X3_lay_37 3000 I (u1 (u1 J 53 (vp_updL (J 53) l 0)) 54 (vp_updL (u1 J 53 (vp_updL (J 53) l 0) 54) l 0)) t (nI p) v (nI l) (0 : Int32) = _ := a1
    have hy1 : SY J1 a wn k A B Q p v (l + 1) := by
      intro x hx
      by_cases c : x = l
      · subst c; exact ⟨a3, a2⟩
      · obtain ⟨b1, b2⟩ := a4 x c
        obtain ⟨b3, b4⟩ := hy x (by omega)
        refine ⟨b1.trans ?_, b2.trans ?_⟩
        · rw [u1_ne (show (53 : Nat) ≠ 54 by omega), u1_at, pk_uLn c]; exact b3
        · rw [u1_at, pk_uLn c, u1_ne (show (54 : Nat) ≠ 53 by omega)]; exact b4
    obtain ⟨J2, c1, c2⟩ := ih n (l + 1) J1 (by omega) (by omega) hy1
    refine ⟨J2, ?_, c2⟩
    rw [FL_X3_lay_3, if_neg (show ¬ (20 : Int32) < nI l from nI_nlt (b := l) (a := 20) (by omega) (by omega))]
    simp only [p2, Option.bind_some, a1', nI_1]
    exact c1
theorem xSayL (hO : OkF a st wn) (hX : XE I 0 a st wn) (hS : SL0 I a st wn) (hT : OkT k A B Q) (hXT : XT I t k A B Q) (hp : p ≤ st) (v : Int32) (J : SJ) :
    ∃ J' : SJ, F_X3_lay t I J (nI p) v = some (I, J') ∧ SY J' a wn k A B Q p v 21 := xSayL_l hO hX hS hT hXT hp 21 3000 0 J (by omega) (by omega) (fun l hl => absurd hl (by omega))
theorem xSv (hy : SY J a wn k A B Q p v 21) (hl : l ≤ 20) : F_X3_worthOf I J (nI l) (nI q) = some (sv a wn k A B Q p v q l) := by
  have p1 : ∀ f : Nat → Int64, F_X2_at_ 21 f (nI l) = some (f l) := fun f => pAtL (by omega) (by omega)
  unfold F_X3_worthOf
  simp only [p1, Option.bind_some, (hy l (by omega)).1, (hy l (by omega)).2]
  rfl
theorem xBl_l (hy : SY J a wn k A B Q p v 21) : ∀ (j n i : Nat), i + j = 20 → j < n → FL_X3_bestLess_12 n I J (nI q) (nI (bp (sv a wn k A B Q p v q) i).1) (bp (sv a wn k A B Q p v q) i).2 (nI (i + 1)) = some (nI (bp (sv a wn k A B Q p v q) 20).1) := by
  intro j
  induction j with
  | zero =>
    intro n i hi hn
    obtain ⟨n, rfl⟩ := suc hn
    rw [FL_X3_bestLess_12, if_pos (show (20 : Int32) < nI (i + 1) from nI_lt (a := 20) (by omega) (by omega)), show i = 20 by omega]
  | succ j ih =>
    intro n i hi hn
    obtain ⟨n, rfl⟩ := suc hn
    rw [FL_X3_bestLess_12, if_neg (show ¬ (20 : Int32) < nI (i + 1) from nI_nlt (b := i + 1) (a := 20) (by omega) (by omega)), xSv hy (by omega), Option.bind_some, nI_1]
    have e := ih n (i + 1) (by omega) (by omega)
    have e1 : bp (sv a wn k A B Q p v q) (i + 1) = if (bp (sv a wn k A B Q p v q) i).2 < sv a wn k A B Q p v q (i + 1) then (i + 1, sv a wn k A B Q p v q (i + 1)) else bp (sv a wn k A B Q p v q) i := rfl
    by_cases c : sv a wn k A B Q p v q (i + 1) ≤ (bp (sv a wn k A B Q p v q) i).2
    · rw [if_pos c]
      rw [e1, if_neg (Int64.not_lt.mpr c)] at e
      exact e
    · rw [if_neg c]
      rw [e1, if_pos (Int64.not_le.mp c)] at e
      exact e
theorem xBl (hy : SY J a wn k A B Q p v 21) (q : Nat) : F_X3_bestLess I J (nI q) = some (nI (bp (sv a wn k A B Q p v q) 20).1) := by
  have e : F_X3_worthOf I J (0 : Int32) (nI q) = some (sv a wn k A B Q p v q 0) := xSv (l := 0) hy (by omega)
  unfold F_X3_bestLess
  rw [e, Option.bind_some]
  exact xBl_l hy 20 3000 0 (by omega) (by omega)
/-- the reference's sum over the WEATHERS -/
def sayT (a : NN) (wn k A B Q p : Nat) (v : Int32) (q l w : Nat) : Int64 :=
  (nI (chA a wn w)).toInt64 * (if gS (harv a wn 0 0 p w) l = 0 then 100 * (mS a wn k A B Q p l w).toInt64 else ((100 : Int32) - nI q).toInt64 * (mS a wn k A B Q p l w).toInt64 + (nI q).toInt64 * (mind a 0 (-v - nI (seed a 0))).toInt64)
theorem hund {q : Nat} (hq : q ≤ 100) : ((100 : Int32) - nI q).toInt64 + (nI q).toInt64 = 100 := by
  rw [show (100 : Int32) - nI q = nI (100 - q) from pk_sub (a := 100) hq, nI_l (by omega), nI_l (by omega)]
  show Int64.ofNat (100 - q) + Int64.ofNat q = 100
  rw [← Int64.ofNat_add, show 100 - q + q = 100 by omega]
  rfl
theorem say_eq (hq : q ≤ 100) : ∀ n : Nat, sl (fun w => sayT a wn k A B Q p v q l w) n = (nI q).toInt64 * wsum n (chA a wn) (fun w => dS a wn k A B Q p v l w) + ((100 : Int32) - nI q).toInt64 * wsum n (chA a wn) (fun w => mS a wn k A B Q p l w) := by
  have hh := hund hq
  intro n
  induction n with
  | zero =>
    show (0 : Int64) = (nI q).toInt64 * 0 + ((100 : Int32) - nI q).toInt64 * 0
    rw [Int64.mul_zero, Int64.mul_zero]
    rfl
  | succ n ih =>
    rw [wsum_s, wsum_s]
    show sl (fun w => sayT a wn k A B Q p v q l w) n + sayT a wn k A B Q p v q l n = _
    rw [ih]
    unfold sayT dS
    generalize ((100 : Int32) - nI q).toInt64 = x at *
    generalize (nI q).toInt64 = z at *
    generalize (nI (chA a wn n)).toInt64 = c
    by_cases c0 : gS (harv a wn 0 0 p n) l = 0
    · rw [if_pos c0, if_pos c0]
      generalize (mS a wn k A B Q p l n).toInt64 = m
      rw [← hh]
      grind
    · rw [if_neg c0, if_neg c0]
      generalize (mS a wn k A B Q p l n).toInt64 = m
      generalize (mind a 0 (-v - nI (seed a 0))).toInt64 = m2
      grind
theorem mSay_l (hO : OkF a st wn) (hM : ME M a st wn) (hH : HD M k A B Q 0 0) (hT : OkT k A B Q) (hp : p ≤ st) (hl : l ≤ 20) (hq : q ≤ 100) : ∀ (j n i : Nat), i + j = nW a wn → j < n →
    FL_X8_worthSaying_27 n M N (nI p) (nI l) (nI q) v (sl (fun w => sayT a wn k A B Q p v q l w) i) (nI (seed a 0)) (nI i) = some (sl (fun w => sayT a wn k A B Q p v q l w) (nW a wn)) := by
  have hnw := (nW_le hO).1
  intro j
  induction j with
  | zero =>
    intro n i hi hn
    obtain ⟨n, rfl⟩ := suc hn
    rw [FL_X8_worthSaying_27, mAllW hO hM, Option.bind_some, if_pos (nI_le (by omega) (by omega)), show i = nW a wn by omega]
  | succ j ih =>
    intro n i hi hn
    obtain ⟨n, rfl⟩ := suc hn
    have e := ih n (i + 1) (by omega) (by omega)
    have es : sl (fun w => sayT a wn k A B Q p v q l w) (i + 1) = sl (fun w => sayT a wn k A B Q p v q l w) i + sayT a wn k A B Q p v q l i := rfl
    rw [es] at e
    generalize sl (fun w => sayT a wn k A B Q p v q l w) i = s0 at *
    generalize sl (fun w => sayT a wn k A B Q p v q l w) (nW a wn) = s1 at *
    unfold sayT mS at e
    have hh := (harv_le (w := i) hO (show 0 ≤ 3 by omega) (show 0 ≤ 9 by omega) hp).2
    rw [FL_X8_worthSaying_27, mAllW hO hM, Option.bind_some, if_neg (nI_ge (by omega) (by omega)), mReap hO hM hH (by omega) (by omega) hp (by omega), Option.bind_some]
    generalize harv a wn 0 0 p i = h at *
    have hg := gS_le h l
    have eg : (if nI l ≤ nI h then nI h - nI l else (0 : Int32)) = nI (h - gS h l) := by
      unfold gS
      by_cases c : h < l
      · rw [if_neg (nI_ge c (by omega)), if_pos c, Nat.sub_self]
        rfl
      · rw [if_pos (nI_le (by omega) (by omega)), if_neg c, pk_sub (by omega)]
    have e4 : F_X8_shareOf M N (nI (h - gS h l)) (0 : Int32) = some (share k A B Q (h - gS h l) 0) := mShare (y := 0) hH hT (by omega) (by omega)
    have ez : share k A B Q (h - gS h l) 0 + nI h - nI (h - gS h l) - nI (seed a 0) = has a k A B Q 0 (h - gS h l) 0 + nI (gS h l) := by
      have e8 : nI h = nI (h - gS h l) + nI (gS h l) := by rw [nI_add, show h - gS h l + gS h l = h by omega]
      unfold has
      rw [if_pos rfl, e8]
      generalize nI (gS h l) = x1
      generalize nI (h - gS h l) = x2
      generalize share k A B Q (h - gS h l) 0 = x3
      generalize nI (seed a 0) = x4
      grind
    have e5 : ∀ x : Int32, F_X8_mindOf M N (0 : Int32) x = some (mind a 0 x) := fun x => mMind (who := 0) hO hM (by omega) x
    rw [eg]
    simp only [e4, ez, e5, mChance hO hM (show i < 8 by omega), Option.bind_some, nI_1]
    by_cases c : gS h l = 0
    · rw [if_pos c] at e
      rw [if_pos (nI_le (by omega) (by omega))]
      exact e
    · rw [if_neg c] at e
      rw [if_neg (nI_ge (by omega) (by omega))]
      exact e
theorem mSay (hO : OkF a st wn) (hM : ME M a st wn) (hH : HD M k A B Q 0 0) (hT : OkT k A B Q) (hp : p ≤ st) (hl : l ≤ 20) (hq : q ≤ 100) :
    F_X8_worthSaying M N (nI p) (nI l) (nI q) v = some (sv a wn k A B Q p v q l) := by
  have hnw := (nW_le hO).1
  have e := mSay_l (N := N) (v := v) hO hM hH hT hp hl hq (nW a wn) 3000 0 (by omega) (by omega)
  rw [say_eq hq (nW a wn)] at e
  have e2 : M 2 (Int32.toNatClampNeg 3) = nI (a 0 3) := hM.1 3 (by omega)
  have e3 : M 2 (Int32.toNatClampNeg 2) = nI (a 0 2) := hM.1 2 (by omega)
  have h3 := hO.2.2.1 3 (by omega)
  have h3' : a 0 3 ≤ 1 := h3
  have q0 : (nI (a 0 3) = 0) ↔ a 0 3 = 0 := nI_eL (n := 0) rfl (by omega) (by omega)
  unfold F_X8_worthSaying
  rw [e2, e3]
  unfold seed at e
  by_cases c : a 0 3 = 0
  · rw [if_pos c] at e
    rw [if_pos (q0.mpr c)]
    exact e
  · rw [if_neg c] at e
    rw [if_neg (fun z => c (q0.mp z))]
    exact e
theorem mBl_l (hO : OkF a st wn) (hM : ME M a st wn) (hH : HD M k A B Q 0 0) (hT : OkT k A B Q) (hp : p ≤ st) (hq : q ≤ 100) : ∀ (j n i : Nat), i + j = 20 → j < n → FL_X8_bestLess_16 n M N (nI p) (nI q) v (nI (bp (sv a wn k A B Q p v q) i).1) (bp (sv a wn k A B Q p v q) i).2 (nI (i + 1)) = some (nI (bp (sv a wn k A B Q p v q) 20).1) := by
  intro j
  induction j with
  | zero =>
    intro n i hi hn
    obtain ⟨n, rfl⟩ := suc hn
    rw [FL_X8_bestLess_16, if_pos (show (20 : Int32) < nI (i + 1) from nI_lt (a := 20) (by omega) (by omega)), show i = 20 by omega]
  | succ j ih =>
    intro n i hi hn
    obtain ⟨n, rfl⟩ := suc hn
    rw [FL_X8_bestLess_16, if_neg (show ¬ (20 : Int32) < nI (i + 1) from nI_nlt (b := i + 1) (a := 20) (by omega) (by omega)), mSay hO hM hH hT hp (by omega) hq, Option.bind_some, nI_1]
    have e := ih n (i + 1) (by omega) (by omega)
    have e1 : bp (sv a wn k A B Q p v q) (i + 1) = if (bp (sv a wn k A B Q p v q) i).2 < sv a wn k A B Q p v q (i + 1) then (i + 1, sv a wn k A B Q p v q (i + 1)) else bp (sv a wn k A B Q p v q) i := rfl
    by_cases c : (bp (sv a wn k A B Q p v q) i).2 < sv a wn k A B Q p v q (i + 1)
    · rw [if_pos c]
      rw [e1, if_pos c] at e
      exact e
    · rw [if_neg c]
      rw [e1, if_neg c] at e
      exact e
theorem mBl (hO : OkF a st wn) (hM : ME M a st wn) (hH : HD M k A B Q 0 0) (hT : OkT k A B Q) (hp : p ≤ st) (hq : q ≤ 100) : F_X8_bestLess M N (nI p) (nI q) v = some (nI (bp (sv a wn k A B Q p v q) 20).1) := by
  have e : F_X8_worthSaying M N (nI p) (0 : Int32) (nI q) v = some (sv a wn k A B Q p v q 0) := mSay (l := 0) hO hM hH hT hp (by omega) hq
  unfold F_X8_bestLess
  rw [e, Option.bind_some]
  exact mBl_l hO hM hH hT hp hq 20 3000 0 (by omega) (by omega)
theorem st16 : St16 Rl := by
  intro I J M N v1 v2 v3 v4 hR
  obtain ⟨a, st, wn, te, tl, tx, rl, h⟩ := id hR
  have no1 : ∃ (I1 M1 : SI), F_X7_refuse I J (-1) = some (-1, I1, J) ∧ F_X8_no M N (-1) = some (-1, M1, N) ∧ Rl I1 J M1 N := bNo hR (by decide)
  rcases termC (J := J) (N := N) h v1 with ⟨hx, hm⟩ | ⟨i, hi, rfl, hx, hm⟩
  · obtain ⟨I1, M1, h1, h2, h3⟩ := no1
    exact ⟨_, I1, J, M1, N, (by simp only [F_X7_less, hx, Option.bind_some, h1] : F_X7_less I J v1 v2 v3 v4 = some (-1, I1, J)), by simp only [F_X8_less, F_X8_isPains, hm, Option.bind_some, i00, ↓reduceIte, h2], h3⟩
  rcases painsC (J := J) h I rfl v2 with ⟨px, pm⟩ | ⟨p, hp, rfl, px, pm⟩
  · obtain ⟨I1, M1, h1, h2, h3⟩ := no1
    have pm' := pm
    exact ⟨_, I1, J, M1, N, (by simp only [F_X7_less, hx, px, Option.bind_some, i00, ↓reduceIte, h1] : F_X7_less I J (nI i) v2 v3 v4 = some (-1, I1, J)), by simp only [F_X8_less, F_X8_isPains, hm, pm', Option.bind_some, i10, i00, ↓reduceIte, h2], h3⟩
  have ep : F_X8_isPains M N (nI i) (nI p) = some 1 := by simp only [F_X8_isPains, hm, pm, Option.bind_some, i10, ↓reduceIte]
  have no4 : ∃ (I1 M1 : SI), F_X7_refuse I J (-4) = some (-4, I1, J) ∧ F_X8_no M N (-4) = some (-4, M1, N) ∧ Rl I1 J M1 N := bNo hR (by decide)
  have no6 : ∃ (I1 M1 : SI), F_X7_refuse I J (-6) = some (-6, I1, J) ∧ F_X8_no M N (-6) = some (-6, M1, N) ∧ Rl I1 J M1 N := bNo hR (by decide)
  by_cases c2 : v3 < 0
  · obtain ⟨I1, M1, h1, h2, h3⟩ := no4
    exact ⟨_, I1, J, M1, N, (by simp only [F_X7_less, hx, px, Option.bind_some, i10, i40, ↓reduceIte, rngX, rng_lo c2, fst_l, h1] : F_X7_less I J (nI i) (nI p) v3 v4 = some (-4, I1, J)), by simp only [F_X8_less, ep, Option.bind_some, i10, if_pos c2, i40, ↓reduceIte, h2], h3⟩
  by_cases c3 : v4 < 0
  · obtain ⟨I1, M1, h1, h2, h3⟩ := no4
    exact ⟨_, I1, J, M1, N, (by simp only [F_X7_less, hx, px, Option.bind_some, i10, i40, ↓reduceIte, rngX, rng_lo c3, fst_r, h1] : F_X7_less I J (nI i) (nI p) v3 v4 = some (-4, I1, J)), by simp only [F_X8_less, ep, Option.bind_some, i10, if_neg c2, if_neg (Int32.not_le.mpr c3), i40, ↓reduceIte, h2], h3⟩
  have g3 := Int32.not_lt.mp c3
  by_cases d2 : (100 : Int32) < v3
  · obtain ⟨I1, M1, h1, h2, h3⟩ := no6
    have ef : F_X7_first (rng v3 0 100) (rng v4 0 99) = some (-6) := by
      rw [rng_hi c2 d2]
      by_cases d3 : (99 : Int32) < v4
      · rw [rng_hi c3 d3]; exact f66
      · rw [rng_ok c3 d3]; exact f60
    exact ⟨_, I1, J, M1, N, (by simp only [F_X7_less, hx, px, Option.bind_some, i10, i60, ↓reduceIte, rngX, ef, h1] : F_X7_less I J (nI i) (nI p) v3 v4 = some (-6, I1, J)), by simp only [F_X8_less, ep, Option.bind_some, i10, if_neg c2, if_pos g3, if_pos d2, i60, ↓reduceIte, h2], h3⟩
  by_cases d3 : (99 : Int32) < v4
  · obtain ⟨I1, M1, h1, h2, h3⟩ := no6
    exact ⟨_, I1, J, M1, N, (by simp only [F_X7_less, hx, px, Option.bind_some, i10, i60, ↓reduceIte, rngX, rng_ok c2 d2, rng_hi c3 d3, f06, h1] : F_X7_less I J (nI i) (nI p) v3 v4 = some (-6, I1, J)), by simp only [F_X8_less, ep, Option.bind_some, i10, if_neg c2, if_pos g3, if_neg d2, if_neg (Int32.not_le.mpr d3), i60, ↓reduceIte, h2], h3⟩
  obtain ⟨q, hq, rfl⟩ := nI_of2 (n := 100) (M := 100) (by decide) c2 (Int32.not_lt.mp d2)
  obtain ⟨I', l1, l2, l3, l4, l5⟩ := layR (d := 0) (gd := 0) h (by omega) (by omega) SX.rf J
  have l1' : F_X4_lay I J (0 : Int32) (0 : Int32) (0 : Int32) = some (I', J) := l1
  obtain ⟨M1, t1, t2, t3⟩ := takeM (N := N) h hi
  have hT := h.1.2.2.2 i hi
  obtain ⟨J', s1, s2⟩ := xSayL h.1.1 l3 l4 hT (xtL h l2 hi) hp v4 J
  have e1 := xBl (I := I') s2 q
  have e2 := mBl (N := N) (v := v4) h.1.1 (h.2.2.1.sm t3).1 t2 hT hp hq
  exact ⟨_, I', J', M1, N, (by simp only [F_X7_less, hx, px, Option.bind_some, i10, i00, ↓reduceIte, rngX, rng_ok c2 d2, rng_ok c3 d3, f00, l1', s1, e1] : F_X7_less I J (nI i) (nI p) (nI q) v4 = some (nI (bp (sv a wn (a 5 i) (a 6 i) (a 7 i) (a 8 i) p v4 q) 20).1, I', J')), by simp only [F_X8_less, ep, Option.bind_some, i10, i00, if_neg c2, if_pos g3, if_neg d2, if_pos (Int32.not_lt.mp d3), ↓reduceIte, t1, e2], hR.same l2 t3⟩
def lk (f : Nat → Nat) : Nat → Nat → Int32
  | 0, _ => -9
  | n + 1, q => if f q = 0 then nI q else lk f n (q + 1)
theorem xLk_l (hy : SY J a wn k A B Q p v 21) : ∀ (j n q : Nat), q + j = 101 → j < n → FL_X7_looks_81 n I J (nI q) = some (lk (fun q => (bp (sv a wn k A B Q p v q) 20).1) j q, I, J) := by
  intro j
  induction j with
  | zero =>
    intro n q hq hn
    obtain ⟨n, rfl⟩ := suc hn
    rw [FL_X7_looks_81, if_pos (show (100 : Int32) < nI q from nI_lt (a := 100) (by omega) (by omega))]
    rfl
  | succ j ih =>
    intro n q hq hn
    obtain ⟨n, rfl⟩ := suc hn
    have hb := bp_le (sv a wn k A B Q p v q) 20
    have q0 : (nI (bp (sv a wn k A B Q p v q) 20).1 = 0) ↔ (bp (sv a wn k A B Q p v q) 20).1 = 0 := nI_eL (n := 0) rfl (by omega) (by omega)
    rw [FL_X7_looks_81, if_neg (show ¬ (100 : Int32) < nI q from nI_nlt (b := q) (a := 100) (by omega) (by omega)), xBl hy q, Option.bind_some, nI_1]
    unfold lk
    by_cases c : (bp (sv a wn k A B Q p v q) 20).1 = 0
    · rw [if_pos c, if_pos (q0.mpr c)]
    · rw [if_neg c, if_neg (fun z => c (q0.mp z))]
      exact ih n (q + 1) (by omega) (by omega)
theorem mLk_l (hO : OkF a st wn) (hM : ME M a st wn) (hH : HD M k A B Q 0 0) (hT : OkT k A B Q) (hp : p ≤ st) : ∀ (j n q : Nat), q + j = 101 → j < n → FL_X8_looks_44 n M N (nI p) v (nI q) = some (lk (fun q => (bp (sv a wn k A B Q p v q) 20).1) j q, M, N) := by
  intro j
  induction j with
  | zero =>
    intro n q hq hn
    obtain ⟨n, rfl⟩ := suc hn
    rw [FL_X8_looks_44, if_pos (show (100 : Int32) < nI q from nI_lt (a := 100) (by omega) (by omega))]
    rfl
  | succ j ih =>
    intro n q hq hn
    obtain ⟨n, rfl⟩ := suc hn
    have hb := bp_le (sv a wn k A B Q p v q) 20
    have q0 : (nI (bp (sv a wn k A B Q p v q) 20).1 = 0) ↔ (bp (sv a wn k A B Q p v q) 20).1 = 0 := nI_eL (n := 0) rfl (by omega) (by omega)
    rw [FL_X8_looks_44, if_neg (show ¬ (100 : Int32) < nI q from nI_nlt (b := q) (a := 100) (by omega) (by omega)), mBl hO hM hH hT hp (by omega), Option.bind_some, nI_1]
    unfold lk
    by_cases c : (bp (sv a wn k A B Q p v q) 20).1 = 0
    · rw [if_pos c, if_pos (q0.mpr c)]
    · rw [if_neg c, if_neg (fun z => c (q0.mp z))]
      exact ih n (q + 1) (by omega) (by omega)
theorem xLk (hy : SY J a wn k A B Q p v 21) : FL_X7_looks_81 3000 I J (nI 0) = some (lk (fun q => (bp (sv a wn k A B Q p v q) 20).1) 101 0, I, J) := xLk_l hy 101 3000 0 (by omega) (by omega)
theorem mLk (hO : OkF a st wn) (hM : ME M a st wn) (hH : HD M k A B Q 0 0) (hT : OkT k A B Q) (hp : p ≤ st) : FL_X8_looks_44 3000 M N (nI p) v (nI 0) = some (lk (fun q => (bp (sv a wn k A B Q p v q) 20).1) 101 0, M, N) := mLk_l hO hM hH hT hp 101 3000 0 (by omega) (by omega)
theorem xmLk (hy : SY J a wn k A B Q p v 21) (hO : OkF a st wn) (hM : ME M a st wn) (hH : HD M k A B Q 0 0) (hT : OkT k A B Q) (hp : p ≤ st) : ∃ r : Int32, FL_X7_looks_81 3000 I J (0 : Int32) = some (r, I, J) ∧ FL_X8_looks_44 3000 M N (nI p) v (0 : Int32) = some (r, M, N) := by
  have g1 := xLk (I := I) hy
  have g2 := mLk (N := N) (v := v) hO hM hH hT hp
  rw [show nI 0 = (0 : Int32) from rfl] at g1 g2
  exact ⟨_, g1, g2⟩
theorem tailX0 {I I' I2 : SI} {J J' J2 : SJ} {t : Nat} {v1 v2 v3 r : Int32} (F : SI → SJ → Int32 → Option (Int32 × SI × SJ)) (h1 : F_X1_termAt 0 I J v1 = some (some t)) (h2 : F_X1_hasPains 0 I J v2 = some 1) (h3 : F_X7_inRange v3 0 99 = some 0) (h4 : F_X4_lay I J 0 0 0 = some (I', J')) (h5 : F_X3_lay t I' J' v2 v3 = some (I2, J2)) (h6 : F I2 J2 (0 : Int32) = some (r, I2, J2)) :
    ((F_X1_termAt 0 I J v1).bind fun r1 => (match r1 with | none => ((F_X7_refuse I J (-1 : Int32)).bind fun (r2, I2, J2) => (some (r2, I2, J2))) | some t1 => ((F_X1_hasPains 0 I J v2).bind fun r3 => (if r3 = 0 then ((F_X7_refuse I J (-1 : Int32)).bind fun (r13, I13, J13) => (some (r13, I13, J13))) else ((F_X7_inRange v3 (0 : Int32) (99 : Int32)).bind fun r5 => (if r5 = 0 then ((F_X4_lay I J (0 : Int32) (0 : Int32) (0 : Int32)).bind fun (I7, J7) => ((F_X3_lay t1 I7 J7 v2 v3).bind fun (I8, J8) => (F I8 J8 (0 : Int32)))) else ((F_X7_refuse I J r5).bind fun (r12, I12, J12) => (some (r12, I12, J12))))))))) = some (r, I2, J2) := by
  simp only [h1, h2, h3, h4, h5, h6, Option.bind_some, i10, ↓reduceIte]
theorem tailX {I I' I2 : SI} {J J' J2 : SJ} {t : Nat} {v1 v2 v3 r : Int32} (h1 : F_X1_termAt 0 I J v1 = some (some t)) (h2 : F_X1_hasPains 0 I J v2 = some 1) (h3 : F_X7_inRange v3 0 99 = some 0) (h4 : F_X4_lay I J 0 0 0 = some (I', J')) (h5 : F_X3_lay t I' J' v2 v3 = some (I2, J2)) (h6 : FL_X7_looks_81 3000 I2 J2 (0 : Int32) = some (r, I2, J2)) : F_X7_looks I J v1 v2 v3 = some (r, I2, J2) := by
  unfold F_X7_looks
  exact tailX0 (FL_X7_looks_81 3000) h1 h2 h3 h4 h5 h6
theorem tailM0 {M M2 : SI} {N : SJ} {v1 v2 v3 r : Int32} (F : SI → SJ → Int32 → Int32 → Int32 → Option (Int32 × SI × SJ)) (h1 : F_X8_isPains M N v1 v2 = some 1) (h3 : F_X8_bound v3 0 99 = some 0) (h5 : F_X8_takesTerm M N v1 = some (M2, N)) (h6 : F M2 N v2 v3 (0 : Int32) = some (r, M2, N)) : ((F_X8_isPains M N v1 v2).bind fun r1 => (if r1 = 0 then ((F_X8_no M N (-1 : Int32)).bind fun (r10, I10, J10) => (some (r10, I10, J10))) else ((F_X8_bound v3 (0 : Int32) (99 : Int32)).bind fun r3 => (if r3 = 0 then ((F_X8_takesTerm M N v1).bind fun (I5, J5) => (F I5 J5 v2 v3 (0 : Int32))) else ((F_X8_no M N r3).bind fun (r9, I9, J9) => (some (r9, I9, J9))))))) = some (r, M2, N) := by
  simp only [h1, h3, h5, h6, Option.bind_some, i10, ↓reduceIte]
theorem tailM {M M2 : SI} {N : SJ} {v1 v2 v3 r : Int32} (h1 : F_X8_isPains M N v1 v2 = some 1) (h3 : F_X8_bound v3 0 99 = some 0) (h5 : F_X8_takesTerm M N v1 = some (M2, N)) (h6 : FL_X8_looks_44 3000 M2 N v2 v3 (0 : Int32) = some (r, M2, N)) : F_X8_looks M N v1 v2 v3 = some (r, M2, N) := by
  unfold F_X8_looks
  exact tailM0 (FL_X8_looks_44 3000) h1 h3 h5 h6
theorem st17 : St17 Rl := by
  intro I J M N v1 v2 v3 hR
  obtain ⟨a, st, wn, te, tl, tx, rl, h⟩ := id hR
  have no1 : ∃ (I1 M1 : SI), F_X7_refuse I J (-1) = some (-1, I1, J) ∧ F_X8_no M N (-1) = some (-1, M1, N) ∧ Rl I1 J M1 N := bNo hR (by decide)
  rcases termC (J := J) (N := N) h v1 with ⟨hx, hm⟩ | ⟨i, hi, rfl, hx, hm⟩
  · obtain ⟨I1, M1, h1, h2, h3⟩ := no1
    exact ⟨_, I1, J, M1, N, (by simp only [F_X7_looks, hx, Option.bind_some, h1] : F_X7_looks I J v1 v2 v3 = some (-1, I1, J)), by simp only [F_X8_looks, F_X8_isPains, hm, Option.bind_some, i00, ↓reduceIte, h2], h3⟩
  rcases painsC (J := J) h I rfl v2 with ⟨px, pm⟩ | ⟨p, hp, rfl, px, pm⟩
  · obtain ⟨I1, M1, h1, h2, h3⟩ := no1
    exact ⟨_, I1, J, M1, N, (by simp only [F_X7_looks, hx, px, Option.bind_some, i00, ↓reduceIte, h1] : F_X7_looks I J (nI i) v2 v3 = some (-1, I1, J)), by simp only [F_X8_looks, F_X8_isPains, hm, pm, Option.bind_some, i10, i00, ↓reduceIte, h2], h3⟩
  have ep : F_X8_isPains M N (nI i) (nI p) = some 1 := by simp only [F_X8_isPains, hm, pm, Option.bind_some, i10, ↓reduceIte]
  rcases rng_c v3 0 99 with ⟨r0, r1, r2⟩ | ⟨r4, _⟩ | ⟨r6, _, _⟩
  · obtain ⟨I', l1, l2, l3, l4, l5⟩ := layR (d := 0) (gd := 0) h (by omega) (by omega) SX.rf J
    have l1' : F_X4_lay I J (0 : Int32) (0 : Int32) (0 : Int32) = some (I', J) := l1
    obtain ⟨M1, t1, t2, t3⟩ := takeM (N := N) h hi
    have hT := h.1.2.2.2 i hi
    obtain ⟨J', s1, s2⟩ := xSayL h.1.1 l3 l4 hT (xtL h l2 hi) hp v3 J
    obtain ⟨r, g1, g2⟩ := xmLk (I := I') (N := N) s2 h.1.1 (h.2.2.1.sm t3).1 t2 hT hp
    exact ⟨r, I', J', M1, N, (tailX hx px (by rw [rngX, r0]) l1' s1 g1 : F_X7_looks I J (nI i) (nI p) v3 = some (r, I', J')), tailM ep (by rw [rngM, r0]) t1 g2, hR.same l2 t3⟩
  · obtain ⟨I1, M1, h1, h2, h3⟩ := bNo hR (v := -4) (by decide)
    exact ⟨_, I1, J, M1, N, (by simp only [F_X7_looks, hx, px, Option.bind_some, i10, i40, ↓reduceIte, rngX, r4, h1] : F_X7_looks I J (nI i) (nI p) v3 = some (-4, I1, J)), by simp only [F_X8_looks, ep, Option.bind_some, i10, i40, ↓reduceIte, rngM, r4, h2], h3⟩
  · obtain ⟨I1, M1, h1, h2, h3⟩ := bNo hR (v := -6) (by decide)
    exact ⟨_, I1, J, M1, N, (by simp only [F_X7_looks, hx, px, Option.bind_some, i10, i60, ↓reduceIte, rngX, r6, h1] : F_X7_looks I J (nI i) (nI p) v3 = some (-6, I1, J)), by simp only [F_X8_looks, ep, Option.bind_some, i10, i60, ↓reduceIte, rngM, r6, h2], h3⟩
end S11
