/-- the proofs that are tried: kind, A, B, code -/
def pk_ (j : Nat) : Nat := if j < 13 then 0 else 1
def pA_ (j : Nat) : Nat := if j < 13 then j else j - 13
def pB_ (j : Nat) : Nat := if j < 13 then 12 else 0
def cd_ (j : Nat) : Nat := if 12 < j then 87 + j else j
def pstep (T W : Nat → Int64) (o1 : Int64) (j : Nat) (s : Option (Nat × Int64)) : Option (Nat × Int64) :=
  if T j < o1 then s else match s with
    | none => some (cd_ j, W j)
    | some (c, o) => if W j ≤ o then some (c, o) else some (cd_ j, W j)
def pfold (T W : Nat → Int64) (o1 : Int64) : Nat → Nat → Option (Nat × Int64) → Option (Nat × Int64)
  | 0, _, s => s
  | n + 1, j, s => pfold T W o1 n (j + 1) (pstep T W o1 j s)
def pcode : Option (Nat × Int64) → Int32
  | none => -9
  | some (c, _) => nI c
def pgood (W : Nat → Int64) (s : Option (Nat × Int64)) : Prop := ∀ c o, s = some (c, o) → ∃ j, j < 74 ∧ c = cd_ j ∧ o = W j
theorem pstep_n {T W : Nat → Int64} {o1 : Int64} {j : Nat} (h : ¬ T j < o1) : pstep T W o1 j none = some (cd_ j, W j) := if_neg h
theorem pstep_s {T W : Nat → Int64} {o1 o : Int64} {j c : Nat} (h : ¬ T j < o1) : pstep T W o1 j (some (c, o)) = if W j ≤ o then some (c, o) else some (cd_ j, W j) := if_neg h
theorem pstep_good {T W : Nat → Int64} {o1 : Int64} {j : Nat} {s : Option (Nat × Int64)} (h : pgood W s) (hj : j < 74) : pgood W (pstep T W o1 j s) := by
  unfold pstep
  by_cases c1 : T j < o1
  · rw [if_pos c1]; exact h
  · rw [if_neg c1]
    match s, h with
    | none, _ => intro c o e; cases e; exact ⟨j, hj, rfl, rfl⟩
    | some (c, o), h =>
      show pgood W (if W j ≤ o then some (c, o) else some (cd_ j, W j))
      by_cases c2 : W j ≤ o
      · rw [if_pos c2]; exact h
      · rw [if_neg c2]; intro c o e; cases e; exact ⟨j, hj, rfl, rfl⟩
theorem pfold_good {T W : Nat → Int64} {o1 : Int64} : ∀ (n j : Nat) (s : Option (Nat × Int64)), j + n = 74 → pgood W s → pgood W (pfold T W o1 n j s) := by
  intro n
  induction n with
  | zero => intro j s _ h; exact h
  | succ n ih => intro j s hj h; exact ih (j + 1) _ (by omega) (pstep_good h (by omega))
theorem cd_le {j : Nat} (h : j < 74) : cd_ j < 200 := by
  unfold cd_
  by_cases c : 12 < j
  · rw [if_pos c]; omega
  · rw [if_neg c]; omega
theorem n9 {c : Nat} (h : c < 2 ^ 31) : ¬ nI c = (-9 : Int32) := fun q => by
  have := nI_pos h
  rw [q] at this
  exact this (by decide)
def FrP (I I' : SI) : Prop := (∀ z, z ≠ 47 → z ≠ 58 → I' z = I z) ∧ ∀ j, j ≠ 8 → I' 47 j = I 47 j
theorem FrP.rf {I : SI} : FrP I I := ⟨fun _ _ _ => rfl, fun _ _ => rfl⟩
theorem FrP.tr {I I' I2 : SI} (h : FrP I I') (h2 : FrP I' I2) : FrP I I2 := ⟨fun z a b => (h2.1 z a b).trans (h.1 z a b), fun j a => (h2.2 j a).trans (h.2 j a)⟩
theorem FrP.sx {I I' : SI} (h : FrP I I') : SX I I' := ⟨fun z hz => h.1 z (by omega) (by omega), by rw [h.1 48 (by omega) (by omega)]⟩
theorem FrB.fp {I I' : SI} {J J' : SJ} (h : FrB I I' J J') : FrP I I' := ⟨fun z a _ => h.1 z a, h.2.1⟩
section S9
variable {I M : SI} {J N : SJ} {a : NN} {st wn te tl rl k A B Q t nw y : Nat} {tx : Nat → Nat} {ch : Nat → Nat} {hv : Nat → Nat → Nat} {cost : Nat → Nat}
theorem SL.fp {I' : SI} (h : SL I st nw y ch hv cost) (e : FrP I I') : SL I' st nw y ch hv cost := by
  obtain ⟨h1, h2, h3, h4, h5, h6⟩ := h
  refine ⟨?_, ?_, ?_, ?_, ?_, ?_⟩
  · rw [e.2 5 (by omega)]; exact h1
  · rw [e.2 6 (by omega)]; exact h2
  · rw [e.2 7 (by omega)]; exact h3
  · rw [e.1 49 (by omega) (by omega)]; exact h4
  · rw [e.1 48 (by omega) (by omega)]; exact h5
  · rw [e.1 51 (by omega) (by omega)]; exact h6
theorem XE.fp {I' : SI} (h : XE I 0 a st wn) (e : FrP I I') : XE I' 0 a st wn := h.fr (fun z hz => e.1 z (by omega) (by omega))
/-- the SEASON of the asking as it lies, without DUNG, GOOD and HAIL -/
abbrev SL0 (I : SI) (a : NN) (st wn : Nat) : Prop := SL I st (nW a wn) 0 (chA a wn) (fun p w => harv a wn 0 0 p w) (sm (a 1))
/-- best of a TERM; its worth for the owner -/
def tw (a : NN) (st wn k A B : Nat) : Nat × Int64 := bp (fun p => worth a wn 0 0 k A B 0 0 p 0) st
def ww (a : NN) (st wn k A B : Nat) : Int64 := worth a wn 0 0 k A B 0 1 (tw a st wn k A B).1 0
theorem xMake {kk aa bb : Int32} (hk : kk = nI k) (ha : aa = nI A) (hb : bb = nI B) : ∃ I' : SI, F_X5_become 58 I J kk aa bb (0 : Int32) = some (I', J) ∧ XT I' 58 k A B 0 ∧ FrP I I' := by
  subst hk ha hb
  refine ⟨_, rfl, ⟨rfl, rfl, rfl, rfl⟩, fun z h1 h2 => ?_, fun j hj => ?_⟩
  · exact (u1_ne h2).trans ((u1_ne h2).trans ((u1_ne h2).trans (u1_ne h2)))
  · rfl
theorem xTk (hO : OkF a st wn) (hX : XE I 0 a st wn) (hS : SL0 I a st wn) (hT : OkT k A B 0) (hXT : XT I 58 k A B 0) :
    ∃ (I' : SI) (J' : SJ), F_X7_isTaken 58 I J = some (if (tw a st wn k A B).2 < 1000 * (nI (a 0 1)).toInt64 then 0 else 1, I', J') ∧ FrP I I' ∧ XT I' 58 k A B 0 ∧ I' 47 8 = nI (tw a st wn k A B).1 := by
  obtain ⟨I', J', r1, r2, r3, r4⟩ := xTaken (J := J) hO (by omega) hX hT hXT hS (nW_le hO).1 (hv_ok hO (by omega) (by omega)) (by omega)
  exact ⟨I', J', r1, r2.fp, hXT.fr (by omega) r2, r3⟩
theorem xWw (hO : OkF a st wn) (hX : XE I 0 a st wn) (hS : SL0 I a st wn) (hT : OkT k A B 0) (hXT : XT I 58 k A B 0) : F_X4_worthOf 58 I J (nI (tw a st wn k A B).1) (1 : Int32) = some (ww a st wn k A B) :=
  xWorth (who := 1) hO hX hT hXT hS (nW_le hO).1 (hv_ok hO (by omega) (by omega)) (by omega) (bp_le _ _) (by omega)
theorem xOw (hO : OkF a st wn) (hX : XE I 0 a st wn) (hS : SL0 I a st wn) (hT : OkT k A B 0) (hXT : XT I 58 k A B 0) :
    ∃ (I' : SI) (J' : SJ), F_X7_ownerWorth 58 I J = some (ww a st wn k A B, I', J') ∧ FrP I I' := by
  obtain ⟨I', J', r1, r2⟩ := xOwner (J := J) hO (by omega) hX hT hXT hS (nW_le hO).1 (hv_ok hO (by omega) (by omega)) (by omega)
  exact ⟨I', J', r1, r2.fp⟩
theorem mMake {kk aa bb : Int32} (hk : kk = nI k) (ha : aa = nI A) (hb : bb = nI B) : ∃ M' : SI, F_X8_takesMade M N kk aa bb = some (M', N) ∧ HD M' k A B 0 0 0 ∧ SM M M' := by
  subst hk ha hb
  refine ⟨_, rfl, ⟨rfl, rfl, rfl, rfl, rfl, rfl⟩, fun z z0 _ => ?_, fun j hj => ?_⟩
  · exact (u1_ne z0).trans ((u1_ne z0).trans ((u1_ne z0).trans ((u1_ne z0).trans ((u1_ne z0).trans (u1_ne z0)))))
  · rcases hj with rfl | rfl | rfl | rfl | rfl | rfl <;> rfl
theorem mTk (hO : OkF a st wn) (hM : ME M a st wn) (hT : OkT k A B 0) {kk aa bb : Int32} (hk : kk = nI k) (ha : aa = nI A) (hb : bb = nI B) (hm : ∀ M', SM M M' → ME M' a st wn) :
    ∃ M' : SI, F_X8_isTaken M N kk aa bb = some (if (tw a st wn k A B).2 < 1000 * (nI (a 0 1)).toInt64 then 0 else 1, M', N) ∧ SM M M' := by
  obtain ⟨M', r1, r2, r3⟩ := mMake (M := M) (N := N) hk ha hb
  have e1 : F_X8_doesTake M' N = some (if (tw a st wn k A B).2 < 1000 * (nI (a 0 1)).toInt64 then 0 else 1) := mTakes hO (hm M' r3) r2 hT (by omega) (by omega)
  refine ⟨M', ?_, r3⟩
  unfold F_X8_isTaken
  by_cases c : (tw a st wn k A B).2 < 1000 * (nI (a 0 1)).toInt64
  · rw [if_pos c] at e1 ⊢
    simp only [r1, e1, Option.bind_some]
    rfl
  · rw [if_neg c] at e1 ⊢
    simp only [r1, e1, Option.bind_some]
    rfl
theorem mOw (hO : OkF a st wn) (hT : OkT k A B 0) {kk aa bb : Int32} (hk : kk = nI k) (ha : aa = nI A) (hb : bb = nI B) (hm : ∀ M', SM M M' → ME M' a st wn) :
    ∃ M' : SI, F_X8_ownerBy M N kk aa bb = some (ww a st wn k A B, M', N) ∧ SM M M' := by
  obtain ⟨M', r1, r2, r3⟩ := mMake (M := M) (N := N) hk ha hb
  have e1 : F_X8_bestPains M' N (0 : Int32) = some (nI (tw a st wn k A B).1) := mBest (y := 0) hO (hm M' r3) r2 hT (by omega) (by omega) (by omega)
  have e2 : F_X8_worthOf M' N (1 : Int32) (nI (tw a st wn k A B).1) (0 : Int32) = some (ww a st wn k A B) := mWorth (who := 1) (y := 0) hO (hm M' r3) r2 hT (by omega) (by omega) (bp_le _ _) (by omega) (by omega)
  refine ⟨M', ?_, r3⟩
  unfold F_X8_ownerBy
  simp only [r1, e1, e2, Option.bind_some]
abbrev pT (a : NN) (st wn j : Nat) : Int64 := (tw a st wn (pk_ j) (pA_ j) (pB_ j)).2
abbrev pW (a : NN) (st wn j : Nat) : Int64 := ww a st wn (pk_ j) (pA_ j) (pB_ j)
theorem pOkT {j : Nat} (h : j < 74) : OkT (pk_ j) (pA_ j) (pB_ j) 0 := by
  unfold pk_ pA_ pB_ OkT
  by_cases c : j < 13
  · rw [if_pos c, if_pos c, if_pos c]; omega
  · rw [if_neg c, if_neg c, if_neg c]; omega
theorem xLayP {j : Nat} (h : j < 74) : ∃ I' : SI, F_X7_layProof I J (nI (cd_ j)) = some (I', J) ∧ XT I' 58 (pk_ j) (pA_ j) (pB_ j) 0 ∧ FrP I I' := by
  unfold F_X7_layProof
  by_cases c : 12 < j
  · have e1 : cd_ j = 87 + j := if_pos c
    have e2 : pk_ j = 1 := if_neg (by omega)
    have e3 : pA_ j = j - 13 := if_neg (by omega)
    have e4 : pB_ j = 0 := if_neg (by omega)
    have e5 : nI (87 + j) - (100 : Int32) = nI (j - 13) := (pk_sub (a := 87 + j) (b := 100) (by omega)).trans (by rw [show 87 + j - 100 = j - 13 by omega])
    obtain ⟨I', r1, r2, r3⟩ := xMake (I := I) (J := J) (k := 1) (A := j - 13) (B := 0) (kk := 1) (aa := nI (j - 13)) (bb := 0) rfl rfl rfl
    rw [e1, e2, e3, e4, if_pos (show (100 : Int32) ≤ nI (87 + j) from nI_le (a := 100) (by omega) (by omega)), e5]
    exact ⟨I', by rw [r1]; rfl, r2, r3⟩
  · have e1 : cd_ j = j := if_neg c
    have e2 : pk_ j = 0 := if_pos (by omega)
    have e3 : pA_ j = j := if_pos (by omega)
    have e4 : pB_ j = 12 := if_pos (by omega)
    obtain ⟨I', r1, r2, r3⟩ := xMake (I := I) (J := J) (k := 0) (A := j) (B := 12) (kk := 0) (aa := nI j) (bb := 12) rfl rfl rfl
    rw [e1, e2, e3, e4, if_neg (show ¬ (100 : Int32) ≤ nI j from nI_ge (b := 100) (by omega) (by omega))]
    exact ⟨I', by rw [r1]; rfl, r2, r3⟩
def Rs (s : Option (Nat × Int64)) (w1 : Int32) (w2 : Int64) : Prop := match s with
  | none => w1 = -9
  | some (c, o) => w1 = nI c ∧ w2 = o
theorem cdX {j : Nat} (h : j < 74) : (if (12 : Int32) < nI j then (100 : Int32) + nI j - (13 : Int32) else nI j) = nI (cd_ j) := by
  unfold cd_
  by_cases c : 12 < j
  · rw [if_pos (show (12 : Int32) < nI j from nI_lt (a := 12) c (by omega)), if_pos c]
    show nI 100 + nI j - nI 13 = _
    rw [nI_add, pk_sub (by omega), show 100 + j - 13 = 87 + j by omega]
  · rw [if_neg (show ¬ (12 : Int32) < nI j from nI_nlt (b := j) (a := 12) (by omega) (by omega)), if_neg c]
theorem xFind_l (hO : OkF a st wn) : ∀ (d n j : Nat) (I : SI) (J : SJ) (s : Option (Nat × Int64)) (w1 : Int32) (w2 : Int64), j + d = 74 → d < n → XE I 0 a st wn → SL0 I a st wn → pgood (pW a st wn) s → Rs s w1 w2 →
    ∃ (I' : SI) (J' : SJ), FL_X7_findProof_8 n I J w1 w2 (nI j) = some (pcode (pfold (pT a st wn) (pW a st wn) (1000 * (nI (a 0 1)).toInt64) d j s), I', J') ∧ FrP I I' := by
  intro d
  induction d with
  | zero =>
    intro n j I J s w1 w2 hj hn hX hS hg hr
    obtain ⟨n, rfl⟩ := suc hn
    refine ⟨I, J, ?_, FrP.rf⟩
    rw [FL_X7_findProof_8, if_pos (show (74 : Int32) ≤ nI j from nI_le (a := 74) (by omega) (by omega))]
    match s, hr with
    | none, hr => rw [show w1 = -9 from hr]; rfl
    | some (c, o), hr => rw [hr.1]; rfl
  | succ d ih =>
    intro n j I J s w1 w2 hj hn hX hS hg hr
    obtain ⟨n, rfl⟩ := suc hn
    have hj74 : j < 74 := by omega
    obtain ⟨I1, a1, a2, a3⟩ := xLayP (I := I) (J := J) hj74
    obtain ⟨I2, J2, b1, b2, b3, b4⟩ := xTk (J := J) hO (hX.fp a3) (hS.fp a3) (pOkT hj74) a2
    have f2 := a3.tr b2
    have ew : F_X4_worthOf 58 I2 J2 (nI (tw a st wn (pk_ j) (pA_ j) (pB_ j)).1) (1 : Int32) = some (pW a st wn j) := xWw hO (hX.fp f2) (hS.fp f2) (pOkT hj74) b3
    have hg' : pgood (pW a st wn) (pstep (pT a st wn) (pW a st wn) (1000 * (nI (a 0 1)).toInt64) j s) := pstep_good hg hj74
    rw [FL_X7_findProof_8, if_neg (show ¬ (74 : Int32) ≤ nI j from nI_ge (b := 74) hj74 (by omega)), cdX hj74, nI_1]
    simp only [a1, b1, Option.bind_some, b4, ew]
    have go : ∀ (w1' : Int32) (w2' : Int64), Rs (pstep (pT a st wn) (pW a st wn) (1000 * (nI (a 0 1)).toInt64) j s) w1' w2' → ∃ (I' : SI) (J' : SJ), FL_X7_findProof_8 n I2 J2 w1' w2' (nI (j + 1)) = some (pcode (pfold (pT a st wn) (pW a st wn) (1000 * (nI (a 0 1)).toInt64) (d + 1) j s), I', J') ∧ FrP I I' := fun w1' w2' hr' => by
      obtain ⟨I3, J3, c1, c2⟩ := ih n (j + 1) I2 J2 _ w1' w2' (by omega) (by omega) (hX.fp f2) (hS.fp f2) hg' hr'
      exact ⟨I3, J3, c1, f2.tr c2⟩
    by_cases c1 : pT a st wn j < 1000 * (nI (a 0 1)).toInt64
    · rw [if_pos c1, if_pos rfl]
      refine go w1 w2 ?_
      unfold pstep
      rw [if_pos c1]
      exact hr
    · rw [if_neg c1, if_neg (by decide)]
      rcases s with _ | ⟨c, o⟩
      · have ep := pstep_n (W := pW a st wn) c1
        rw [if_pos (show w1 = -9 from hr)]
        refine go _ _ ?_
        rw [ep]
        exact ⟨rfl, rfl⟩
      · have ep' := pstep_s (W := pW a st wn) (c := c) (o := o) c1
        obtain ⟨jj, g1, g2, g3⟩ := hg c o rfl
        have g4 := cd_le g1
        rw [hr.1, hr.2, if_neg (n9 (by omega))]
        by_cases c2 : pW a st wn j ≤ o
        · rw [if_pos c2]
          refine go _ _ ?_
          rw [ep', if_pos c2]
          exact ⟨rfl, rfl⟩
        · rw [if_neg c2]
          refine go _ _ ?_
          rw [ep', if_neg c2]
          exact ⟨rfl, rfl⟩
theorem xFind (hO : OkF a st wn) (hX : XE I 0 a st wn) (hS : SL0 I a st wn) (J : SJ) :
    ∃ (I' : SI) (J' : SJ), F_X7_findProof I J = some (pcode (pfold (pT a st wn) (pW a st wn) (1000 * (nI (a 0 1)).toInt64) 74 0 none), I', J') ∧ FrP I I' :=
  xFind_l hO 74 3000 0 I J none (-9) 0 (by omega) (by omega) hX hS (fun _ _ e => by cases e) rfl
theorem share1 (A B Q B' : Nat) : share 1 A B Q = share 1 A B' Q := rfl
theorem worth1 (a : NN) (wn A B B' who p : Nat) : worth a wn 0 0 1 A B 0 who p 0 = worth a wn 0 0 1 A B' 0 who p 0 := by
  unfold worth worthG has
  rw [share1 A B 0 B']
theorem tw1 {j : Nat} : tw a st wn (pk_ j) (pA_ j) 12 = tw a st wn (pk_ j) (pA_ j) (pB_ j) ∧ ww a st wn (pk_ j) (pA_ j) 12 = ww a st wn (pk_ j) (pA_ j) (pB_ j) := by
  by_cases c : j < 13
  · rw [show pB_ j = 12 from if_pos c]
    exact ⟨rfl, rfl⟩
  · rw [show pk_ j = 1 from if_neg c]
    have e : tw a st wn 1 (pA_ j) 12 = tw a st wn 1 (pA_ j) (pB_ j) := by
      unfold tw
      rw [show (fun p => worth a wn 0 0 1 (pA_ j) 12 0 0 p 0) = fun p => worth a wn 0 0 1 (pA_ j) (pB_ j) 0 0 p 0 from funext (fun p => worth1 a wn (pA_ j) 12 (pB_ j) 0 p)]
    refine ⟨e, ?_⟩
    unfold ww
    rw [e]
    exact worth1 a wn (pA_ j) 12 (pB_ j) 1 _
theorem pOkM {j : Nat} (h : j < 74) : OkT (pk_ j) (pA_ j) 12 0 := by
  unfold pk_ pA_ OkT
  by_cases c : j < 13
  · rw [if_pos c, if_pos c]; omega
  · rw [if_neg c, if_neg c]; omega
theorem pkM {j : Nat} (h : j < 74) : (if (13 : Int32) ≤ nI j then (1 : Int32) else 0) = nI (pk_ j) ∧ (if (13 : Int32) ≤ nI j then nI j - (13 : Int32) else nI j) = nI (pA_ j) := by
  unfold pk_ pA_
  by_cases c : j < 13
  · rw [if_pos c, if_pos c, if_neg (show ¬ (13 : Int32) ≤ nI j from nI_ge (b := 13) c (by omega)), if_neg (show ¬ (13 : Int32) ≤ nI j from nI_ge (b := 13) c (by omega))]
    exact ⟨rfl, rfl⟩
  · rw [if_neg c, if_neg c, if_pos (show (13 : Int32) ≤ nI j from nI_le (a := 13) (by omega) (by omega)), if_pos (show (13 : Int32) ≤ nI j from nI_le (a := 13) (by omega) (by omega))]
    exact ⟨rfl, pk_sub (b := 13) (by omega)⟩
theorem cdM {j : Nat} (h : j < 74) : (if nI (pk_ j) = (0 : Int32) then nI (pA_ j) else (100 : Int32) + nI (pA_ j)) = nI (cd_ j) := by
  unfold pk_ pA_ cd_
  by_cases c : j < 13
  · rw [if_pos c, if_pos c, if_neg (show ¬ 12 < j by omega)]
    rfl
  · rw [if_neg c, if_neg c, if_pos (show 12 < j by omega), if_neg (by decide)]
    show nI 100 + nI (j - 13) = _
    rw [nI_add, show 100 + (j - 13) = 87 + j by omega]
def Rt (s : Option (Nat × Int64)) (w1 : Int32) (N : SJ) : Prop := match s with
  | none => w1 = -9
  | some (c, o) => w1 = nI c ∧ N 0 28 = o
theorem mFind_l (hO : OkF a st wn) : ∀ (d n j : Nat) (M : SI) (N : SJ) (s : Option (Nat × Int64)) (w1 : Int32), j + d = 74 → d < n → (∀ M', SM M M' → ME M' a st wn) → pgood (pW a st wn) s → Rt s w1 N →
    ∃ (M' : SI) (N' : SJ), FL_X8_findProof_5 n M N w1 (nI j) = some (pcode (pfold (pT a st wn) (pW a st wn) (1000 * (nI (a 0 1)).toInt64) d j s), M', N') ∧ SM M M' ∧ Rt (pfold (pT a st wn) (pW a st wn) (1000 * (nI (a 0 1)).toInt64) d j s) (pcode (pfold (pT a st wn) (pW a st wn) (1000 * (nI (a 0 1)).toInt64) d j s)) N' := by
  intro d
  induction d with
  | zero =>
    intro n j M N s w1 hj hn hM hg hr
    obtain ⟨n, rfl⟩ := suc hn
    rw [FL_X8_findProof_5, if_pos (show (74 : Int32) ≤ nI j from nI_le (a := 74) (by omega) (by omega))]
    match s, hr with
    | none, hr => exact ⟨M, N, by rw [show w1 = -9 from hr]; rfl, SM.rf, rfl⟩
    | some (c, o), hr => exact ⟨M, N, by rw [hr.1]; rfl, SM.rf, rfl, hr.2⟩
  | succ d ih =>
    intro n j M N s w1 hj hn hM hg hr
    obtain ⟨n, rfl⟩ := suc hn
    have hj74 : j < 74 := by omega
    obtain ⟨M1, a1, a2⟩ := mTk (N := N) hO (hM M SM.rf) (pOkM hj74) (pkM hj74).1 (pkM hj74).2 (show (12 : Int32) = nI 12 from rfl) hM
    obtain ⟨M2, b1, b2⟩ := mOw (M := M1) (N := N) hO (pOkM hj74) (pkM hj74).1 (pkM hj74).2 (show (12 : Int32) = nI 12 from rfl) (fun M' h' => hM M' (a2.tr h'))
    rw [(tw1 (a := a) (st := st) (wn := wn) (j := j)).1] at a1
    rw [(tw1 (a := a) (st := st) (wn := wn) (j := j)).2] at b1
    have hg' : pgood (pW a st wn) (pstep (pT a st wn) (pW a st wn) (1000 * (nI (a 0 1)).toInt64) j s) := pstep_good hg hj74
    rw [FL_X8_findProof_5, if_neg (show ¬ (74 : Int32) ≤ nI j from nI_ge (b := 74) hj74 (by omega)), a1, nI_1]
    simp only [Option.bind_some, b1]
    rw [(pkM hj74).1, (pkM hj74).2, cdM hj74]
    have go : ∀ (M3 : SI) (w1' : Int32) (N3 : SJ), SM M M3 → Rt (pstep (pT a st wn) (pW a st wn) (1000 * (nI (a 0 1)).toInt64) j s) w1' N3 → ∃ (M' : SI) (N' : SJ), FL_X8_findProof_5 n M3 N3 w1' (nI (j + 1)) = some (pcode (pfold (pT a st wn) (pW a st wn) (1000 * (nI (a 0 1)).toInt64) (d + 1) j s), M', N') ∧ SM M M' ∧ Rt (pfold (pT a st wn) (pW a st wn) (1000 * (nI (a 0 1)).toInt64) (d + 1) j s) (pcode (pfold (pT a st wn) (pW a st wn) (1000 * (nI (a 0 1)).toInt64) (d + 1) j s)) N' := fun M3 w1' N3 hs hr' => by
      obtain ⟨M', N', c1, c2, c3⟩ := ih n (j + 1) M3 N3 _ w1' (by omega) (by omega) (fun M' h' => hM M' (hs.tr h')) hg' hr'
      exact ⟨M', N', c1, hs.tr c2, c3⟩
    by_cases c1 : pT a st wn j < 1000 * (nI (a 0 1)).toInt64
    · rw [if_pos c1, if_pos rfl]
      refine go M1 w1 N a2 ?_
      unfold pstep
      rw [if_pos c1]
      exact hr
    · rw [if_neg c1, if_neg (by decide)]
      rcases s with _ | ⟨c, o⟩
      · have ep := pstep_n (W := pW a st wn) c1
        rw [if_pos (show w1 < 0 by rw [show w1 = -9 from hr]; decide)]
        refine go _ _ _ (a2.tr b2) ?_
        rw [ep]
        exact ⟨rfl, rfl⟩
      · have ep' := pstep_s (W := pW a st wn) (c := c) (o := o) c1
        obtain ⟨jj, g1, g2, g3⟩ := hg c o rfl
        have g4 := cd_le g1
        rw [hr.1, hr.2, if_neg (nI_pos (by omega))]
        by_cases c2 : pW a st wn j ≤ o
        · rw [if_neg (Int64.not_lt.mpr c2)]
          refine go _ _ _ (a2.tr b2) ?_
          rw [ep', if_pos c2]
          exact ⟨rfl, hr.2⟩
        · rw [if_pos (Int64.not_le.mp c2)]
          refine go _ _ _ (a2.tr b2) ?_
          rw [ep', if_neg c2]
          exact ⟨rfl, rfl⟩
theorem mFind (hO : OkF a st wn) (hM : ∀ M', SM M M' → ME M' a st wn) (N : SJ) :
    ∃ (M' : SI) (N' : SJ), F_X8_findProof M N = some (pcode (pfold (pT a st wn) (pW a st wn) (1000 * (nI (a 0 1)).toInt64) 74 0 none), M', N') ∧ SM M M' ∧ Rt (pfold (pT a st wn) (pW a st wn) (1000 * (nI (a 0 1)).toInt64) 74 0 none) (pcode (pfold (pT a st wn) (pW a st wn) (1000 * (nI (a 0 1)).toInt64) 74 0 none)) N' :=
  mFind_l hO 74 3000 0 M N none (-9) (by omega) (by omega) hM (fun _ _ e => by cases e) rfl
theorem st13 : St13 Rl := by
  intro I J M N hR
  obtain ⟨a, st, wn, te, tl, tx, rl, h⟩ := id hR
  obtain ⟨I1, l1, l2, l3, l4, l5⟩ := layR (d := 0) (gd := 0) h (by omega) (by omega) SX.rf J
  have l1' : F_X4_lay I J (0 : Int32) (0 : Int32) (0 : Int32) = some (I1, J) := l1
  obtain ⟨I2, J2, e1, e2⟩ := xFind h.1.1 l3 l4 J
  obtain ⟨M2, N2, g1, g2, g3⟩ := mFind h.1.1 (fun M' h' => (h.2.2.1.sm h').1) N
  exact ⟨_, I2, J2, M2, N2, (by simp only [F_X7_proof, l1', e1, Option.bind_some] : F_X7_proof I J = some (pcode (pfold (pT a st wn) (pW a st wn) (1000 * (nI (a 0 1)).toInt64) 74 0 none), I2, J2)), by simp only [F_X8_proof, g1, Option.bind_some], hR.same (l2.tr e2.sx) g2⟩
theorem st15 : St15 Rl := by
  intro I J M N hR
  obtain ⟨a, st, wn, te, tl, tx, rl, h⟩ := id hR
  obtain ⟨I1, l1, l2, l3, l4, l5⟩ := layR (d := 0) (gd := 0) h (by omega) (by omega) SX.rf J
  have l1' : F_X4_lay I J (0 : Int32) (0 : Int32) (0 : Int32) = some (I1, J) := l1
  obtain ⟨I2, J2, e1, e2⟩ := xFind h.1.1 l3 l4 J
  obtain ⟨M2, N2, g1, g2, g3⟩ := mFind h.1.1 (fun M' h' => (h.2.2.1.sm h').1) N
  have gd := pfold_good (T := pT a st wn) (W := pW a st wn) (o1 := 1000 * (nI (a 0 1)).toInt64) 74 0 none (by omega) (fun _ _ e => by cases e)
  generalize pfold (pT a st wn) (pW a st wn) (1000 * (nI (a 0 1)).toInt64) 74 0 none = s at *
  match s with
  | none =>
    have e1' : F_X7_findProof I1 J = some (-9, I2, J2) := e1
    have g1' : F_X8_findProof M N = some (-9, M2, N2) := g1
    exact ⟨_, I2, J2, M2, N2, (by simp only [F_X7_half, l1', e1', Option.bind_some, ↓reduceIte] : F_X7_half I J = some (-9, I2, J2)), by simp only [F_X8_half, g1', Option.bind_some, if_pos (show (-9 : Int32) < 0 by decide)], hR.same (l2.tr e2.sx) g2⟩
  | some (c, o) =>
    obtain ⟨j, j1, j2, j3⟩ := gd c o rfl
    have e1' : F_X7_findProof I1 J = some (nI c, I2, J2) := e1
    have g1' : F_X8_findProof M N = some (nI c, M2, N2) := g1
    have g3' : N2 0 28 = o := g3.2
    have hc := cd_le j1
    obtain ⟨I3, a1, a2, a3⟩ := xLayP (I := I2) (J := J2) j1
    rw [← j2] at a1
    have f3 := e2.tr a3
    obtain ⟨I4, J4, b1, b2⟩ := xOw (J := J2) h.1.1 (l3.fp f3) (l4.fp f3) (pOkT j1) a2
    have f4 := f3.tr b2
    obtain ⟨I5, c1, c2, c3⟩ := xMake (I := I4) (J := J4) (k := 0) (A := 1) (B := 2) (kk := 0) (aa := 1) (bb := 2) rfl rfl rfl
    have f5 := f4.tr c3
    have okh : OkT 0 1 2 0 := ⟨by omega, by omega, by omega, by omega, fun _ => by omega⟩
    obtain ⟨I6, J6, d1, d2, d3, d4⟩ := xTk (J := J4) h.1.1 (l3.fp f5) (l4.fp f5) okh c2
    have f6 := f5.tr d2
    obtain ⟨I7, J7, k1, k2⟩ := xOw (J := J6) h.1.1 (l3.fp f6) (l4.fp f6) okh d3
    obtain ⟨M3, m1, m2⟩ := mTk (M := M2) (N := N2) h.1.1 (h.2.2.1.sm g2).1 okh (kk := 0) (aa := 1) (bb := 2) rfl rfl rfl (fun M' h' => (h.2.2.1.sm (g2.tr h')).1)
    obtain ⟨M4, n1, n2⟩ := mOw (M := M3) (N := N2) h.1.1 okh (kk := 0) (aa := 1) (bb := 2) rfl rfl rfl (fun M' h' => (h.2.2.1.sm ((g2.tr m2).tr h')).1)
    have b1' : F_X7_ownerWorth 58 I3 J2 = some (o, I4, J4) := by rw [b1, j3]
    by_cases q : (tw a st wn 0 1 2).2 < 1000 * (nI (a 0 1)).toInt64
    · rw [if_pos q] at d1 m1
      exact ⟨_, I6, J6, M3, N2, (by simp only [F_X7_half, l1', e1', a1, b1', c1, d1, Option.bind_some, if_neg (n9 (show c < 2 ^ 31 by omega)), ↓reduceIte] : F_X7_half I J = some (-9, I6, J6)), by simp only [F_X8_half, g1', m1, Option.bind_some, if_neg (nI_pos (show c < 2 ^ 31 by omega)), ↓reduceIte], hR.same (l2.tr f6.sx) (g2.tr m2)⟩
    · rw [if_neg q] at d1 m1
      exact ⟨_, I7, J7, M4, N2, (by simp only [F_X7_half, l1', e1', a1, b1', c1, d1, k1, Option.bind_some, if_neg (n9 (show c < 2 ^ 31 by omega)), i10, ↓reduceIte] : F_X7_half I J = some (o - ww a st wn 0 1 2, I7, J7)), by simp only [F_X8_half, g1', m1, n1, g3', Option.bind_some, if_neg (nI_pos (show c < 2 ^ 31 by omega)), i10, ↓reduceIte], hR.same (l2.tr (f6.tr k2).sx) ((g2.tr m2).tr n2)⟩
end S9
