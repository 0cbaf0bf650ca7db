/-- reading a TERM, in named pieces: the class's -/
def cFa (I : SI) (J : SJ) : Option (Int32 × SI × SJ) := some ((I 45 2), I, J)
def cEn (t1 : Nat) (I : SI) (J : SJ) (kk aa bb nn : Int32) : Option (Int32 × SI × SJ) := (if (I 45 1) ≤ (I 45 2) then ((F_X5_become t1 I J kk aa bb nn).bind fun (I14, J14) => (some ((-1 : Int32), I14, J14))) else (some ((I 45 2), I, J)))
def cTl (t1 : Nat) (I : SI) (J : SJ) (kk aa bb : Int32) : Option (Int32 × SI × SJ) := (if kk < (3 : Int32) then (if (0 : Int32) < 0 then (some ((I 45 2), I, J)) else cEn t1 I J kk aa bb (0 : Int32)) else ((F_X6_skip I J (43 : Int32)).bind fun (r15, I15, J15) => (if r15 = 0 then (if (-1 : Int32) < 0 then (some ((I15 45 2), I15, J15)) else cEn t1 I15 J15 kk aa bb (-1 : Int32)) else ((F_X6_numberOf I15 J15 (0 : Int32) (99 : Int32)).bind fun (r20, I20, J20) => (if r20 < 0 then (some ((I20 45 2), I20, J20)) else cEn t1 I20 J20 kk aa bb r20)))))
def cPt (t1 : Nat) (I : SI) (J : SJ) (kk pb : Int32) : Option (Int32 × SI × SJ) := ((F_X6_numberOf I J (if pb = 0 then (0 : Int32) else (1 : Int32)) (99 : Int32)).bind fun (r7, I7, J7) => (if 0 ≤ r7 then (if pb = 0 then (if 0 ≤ (0 : Int32) then cTl t1 I7 J7 kk r7 (0 : Int32) else (some ((I7 45 2), I7, J7))) else ((F_X6_skip I7 J7 (47 : Int32)).bind fun (r24, I24, J24) => (if r24 = 0 then (if 0 ≤ (-1 : Int32) then cTl t1 I24 J24 kk r7 (-1 : Int32) else (some ((I24 45 2), I24, J24))) else ((F_X6_numberOf I24 J24 r7 (99 : Int32)).bind fun (r40, I40, J40) => (if 0 ≤ r40 then cTl t1 I40 J40 kk r7 r40 else (some ((I40 45 2), I40, J40))))))) else (some ((I7 45 2), I7, J7))))
theorem rtX (t1 : Nat) (I : SI) (J : SJ) : F_X6_readTerm t1 I J = ((F_X6_here (u2 I 45 2 (0 : Int32)) J).bind fun r1 => ((F_X6_kindOf r1).bind fun r2 => (if r2 < 0 then (some ((0 : Int32), (u2 I 45 2 (0 : Int32)), J)) else (if r2 = 0 then cPt t1 (u2 (u2 I 45 2 (0 : Int32)) 45 2 (((u2 I 45 2 (0 : Int32)) 45 2) + (1 : Int32))) J r2 1 else (if r2 = (3 : Int32) then cPt t1 (u2 (u2 I 45 2 (0 : Int32)) 45 2 (((u2 I 45 2 (0 : Int32)) 45 2) + (1 : Int32))) J r2 1 else cPt t1 (u2 (u2 I 45 2 (0 : Int32)) 45 2 (((u2 I 45 2 (0 : Int32)) 45 2) + (1 : Int32))) J r2 (if r2 = (4 : Int32) then (1 : Int32) else (0 : Int32))))))) := rfl
/-- the reference's -/
def mSt (I : SI) (J : SJ) (kk aa bb nn : Int32) : Option (Int32 × SI × SJ) := (if gin (I 0 21) 8 = true then (if gin ((u1 I 13 (upd (I 13) (Int32.toNatClampNeg (I 0 21)) kk)) 0 21) 8 = true then (if gin ((u1 (u1 I 13 (upd (I 13) (Int32.toNatClampNeg (I 0 21)) kk)) 14 (upd ((u1 I 13 (upd (I 13) (Int32.toNatClampNeg (I 0 21)) kk)) 14) (Int32.toNatClampNeg ((u1 I 13 (upd (I 13) (Int32.toNatClampNeg (I 0 21)) kk)) 0 21)) aa)) 0 21) 8 = true then (if gin ((u1 (u1 (u1 I 13 (upd (I 13) (Int32.toNatClampNeg (I 0 21)) kk)) 14 (upd ((u1 I 13 (upd (I 13) (Int32.toNatClampNeg (I 0 21)) kk)) 14) (Int32.toNatClampNeg ((u1 I 13 (upd (I 13) (Int32.toNatClampNeg (I 0 21)) kk)) 0 21)) aa)) 15 (upd ((u1 (u1 I 13 (upd (I 13) (Int32.toNatClampNeg (I 0 21)) kk)) 14 (upd ((u1 I 13 (upd (I 13) (Int32.toNatClampNeg (I 0 21)) kk)) 14) (Int32.toNatClampNeg ((u1 I 13 (upd (I 13) (Int32.toNatClampNeg (I 0 21)) kk)) 0 21)) aa)) 15) (Int32.toNatClampNeg ((u1 (u1 I 13 (upd (I 13) (Int32.toNatClampNeg (I 0 21)) kk)) 14 (upd ((u1 I 13 (upd (I 13) (Int32.toNatClampNeg (I 0 21)) kk)) 14) (Int32.toNatClampNeg ((u1 I 13 (upd (I 13) (Int32.toNatClampNeg (I 0 21)) kk)) 0 21)) aa)) 0 21)) bb)) 0 21) 8 = true then (some ((1 : Int32), (u1 (u1 (u1 (u1 I 13 (upd (I 13) (Int32.toNatClampNeg (I 0 21)) kk)) 14 (upd ((u1 I 13 (upd (I 13) (Int32.toNatClampNeg (I 0 21)) kk)) 14) (Int32.toNatClampNeg ((u1 I 13 (upd (I 13) (Int32.toNatClampNeg (I 0 21)) kk)) 0 21)) aa)) 15 (upd ((u1 (u1 I 13 (upd (I 13) (Int32.toNatClampNeg (I 0 21)) kk)) 14 (upd ((u1 I 13 (upd (I 13) (Int32.toNatClampNeg (I 0 21)) kk)) 14) (Int32.toNatClampNeg ((u1 I 13 (upd (I 13) (Int32.toNatClampNeg (I 0 21)) kk)) 0 21)) aa)) 15) (Int32.toNatClampNeg ((u1 (u1 I 13 (upd (I 13) (Int32.toNatClampNeg (I 0 21)) kk)) 14 (upd ((u1 I 13 (upd (I 13) (Int32.toNatClampNeg (I 0 21)) kk)) 14) (Int32.toNatClampNeg ((u1 I 13 (upd (I 13) (Int32.toNatClampNeg (I 0 21)) kk)) 0 21)) aa)) 0 21)) bb)) 16 (upd ((u1 (u1 (u1 I 13 (upd (I 13) (Int32.toNatClampNeg (I 0 21)) kk)) 14 (upd ((u1 I 13 (upd (I 13) (Int32.toNatClampNeg (I 0 21)) kk)) 14) (Int32.toNatClampNeg ((u1 I 13 (upd (I 13) (Int32.toNatClampNeg (I 0 21)) kk)) 0 21)) aa)) 15 (upd ((u1 (u1 I 13 (upd (I 13) (Int32.toNatClampNeg (I 0 21)) kk)) 14 (upd ((u1 I 13 (upd (I 13) (Int32.toNatClampNeg (I 0 21)) kk)) 14) (Int32.toNatClampNeg ((u1 I 13 (upd (I 13) (Int32.toNatClampNeg (I 0 21)) kk)) 0 21)) aa)) 15) (Int32.toNatClampNeg ((u1 (u1 I 13 (upd (I 13) (Int32.toNatClampNeg (I 0 21)) kk)) 14 (upd ((u1 I 13 (upd (I 13) (Int32.toNatClampNeg (I 0 21)) kk)) 14) (Int32.toNatClampNeg ((u1 I 13 (upd (I 13) (Int32.toNatClampNeg (I 0 21)) kk)) 0 21)) aa)) 0 21)) bb)) 16) (Int32.toNatClampNeg ((u1 (u1 (u1 I 13 (upd (I 13) (Int32.toNatClampNeg (I 0 21)) kk)) 14 (upd ((u1 I 13 (upd (I 13) (Int32.toNatClampNeg (I 0 21)) kk)) 14) (Int32.toNatClampNeg ((u1 I 13 (upd (I 13) (Int32.toNatClampNeg (I 0 21)) kk)) 0 21)) aa)) 15 (upd ((u1 (u1 I 13 (upd (I 13) (Int32.toNatClampNeg (I 0 21)) kk)) 14 (upd ((u1 I 13 (upd (I 13) (Int32.toNatClampNeg (I 0 21)) kk)) 14) (Int32.toNatClampNeg ((u1 I 13 (upd (I 13) (Int32.toNatClampNeg (I 0 21)) kk)) 0 21)) aa)) 15) (Int32.toNatClampNeg ((u1 (u1 I 13 (upd (I 13) (Int32.toNatClampNeg (I 0 21)) kk)) 14 (upd ((u1 I 13 (upd (I 13) (Int32.toNatClampNeg (I 0 21)) kk)) 14) (Int32.toNatClampNeg ((u1 I 13 (upd (I 13) (Int32.toNatClampNeg (I 0 21)) kk)) 0 21)) aa)) 0 21)) bb)) 0 21)) nn)), J)) else none) else none) else none) else none)
def mEn (I : SI) (J : SJ) (kk aa bb nn : Int32) : Option (Int32 × SI × SJ) := (if (I 0 14) ≤ (I 0 15) then mSt I J kk aa bb nn else (some ((0 : Int32), I, J)))
def mTl (I : SI) (J : SJ) (kk aa bb : Int32) : Option (Int32 × SI × SJ) := (if kk < (3 : Int32) then mEn I J kk aa bb (0 : Int32) else ((F_X8_isNext I J (43 : Int32)).bind fun (r16, I16, J16) => (if r16 = 0 then (some ((0 : Int32), I16, J16)) else ((F_X8_numberIn I16 J16 (0 : Int32) (99 : Int32)).bind fun (r18, I18, J18) => (if 0 ≤ r18 then mEn I18 J18 kk aa bb r18 else (some ((0 : Int32), I18, J18)))))))
def mPt (I : SI) (J : SJ) (kk pb : Int32) : Option (Int32 × SI × SJ) := ((F_X8_numberIn I J (if pb = 0 then (0 : Int32) else (1 : Int32)) (99 : Int32)).bind fun (r7, I7, J7) => (if 0 ≤ r7 then (if pb = 0 then mTl I7 J7 kk r7 (0 : Int32) else ((F_X8_isNext I7 J7 (47 : Int32)).bind fun (r25, I25, J25) => (if r25 = 0 then (some ((0 : Int32), I25, J25)) else ((F_X8_numberIn I25 J25 r7 (99 : Int32)).bind fun (r27, I27, J27) => (if 0 ≤ r27 then mTl I27 J27 kk r7 r27 else (some ((0 : Int32), I27, J27))))))) else (some ((0 : Int32), I7, J7))))
theorem rtM (I : SI) (J : SJ) : F_X8_readsTerm I J = ((F_X8_nextByte (u2 I 0 15 (0 : Int32)) J).bind fun r1 => ((F_X8_kindOf r1).bind fun r2 => (if 0 ≤ r2 then ((F_X8_isParted (u2 (u2 I 0 15 (0 : Int32)) 0 15 (((u2 I 0 15 (0 : Int32)) 0 15) + (1 : Int32))) J r2).bind fun r4 => mPt (u2 (u2 I 0 15 (0 : Int32)) 0 15 (((u2 I 0 15 (0 : Int32)) 0 15) + (1 : Int32))) J r2 r4) else (some ((0 : Int32), (u2 I 0 15 (0 : Int32)), J))))) := rfl
theorem nm1 {tx : Nat → Nat} {tl v p : Nat} (hp : p ≤ tl) : (nmL tx tl 1 v p).1 ≤ 10 * v + 9 ∧ (nmL tx tl 1 v p).2 ≤ tl := by
  unfold nmL
  by_cases c : v = 0
  · rw [if_pos c]; exact ⟨by show v ≤ _; omega, hp⟩
  · rw [if_neg c]
    by_cases d : p < tl ∧ 48 ≤ tx p ∧ tx p ≤ 57
    · rw [if_pos d]
      exact ⟨by show 10 * v + (tx p - 48) ≤ _; omega, by show p + 1 ≤ tl; omega⟩
    · rw [if_neg d]; exact ⟨by show v ≤ _; omega, hp⟩
theorem nm2 {tx : Nat → Nat} {tl v p : Nat} (hp : p ≤ tl) : (nmL tx tl 2 v p).1 ≤ 100 * v + 99 ∧ (nmL tx tl 2 v p).2 ≤ tl := by
  unfold nmL
  by_cases c : v = 0
  · rw [if_pos c]; exact ⟨by show v ≤ _; omega, hp⟩
  · rw [if_neg c]
    by_cases d : p < tl ∧ 48 ≤ tx p ∧ tx p ≤ 57
    · rw [if_pos d]
      have := nm1 (tx := tx) (v := 10 * v + (tx p - 48)) (show p + 1 ≤ tl by omega)
      exact ⟨Nat.le_trans this.1 (by omega), this.2⟩
    · rw [if_neg d]; exact ⟨by show v ≤ _; omega, hp⟩
theorem nm_c {tx : Nat → Nat} {tl p : Nat} (hp : p ≤ tl) : nm tx tl p = (-1, p) ∨ ∃ v q, nm tx tl p = (nI v, q) ∧ v < 1000 ∧ q ≤ tl := by
  unfold nm
  by_cases d : p < tl ∧ 48 ≤ tx p ∧ tx p ≤ 57
  · rw [if_pos d]
    have := nm2 (tx := tx) (v := tx p - 48) (show p + 1 ≤ tl by omega)
    exact Or.inr ⟨_, _, rfl, Nat.lt_of_le_of_lt this.1 (by omega), this.2⟩
  · rw [if_neg d]
    exact Or.inl rfl
theorem iteP {α : Type} {P : α → Prop} {c : Prop} [Decidable c] {x y : α} (hx : P x) (hy : P y) : P (if c then x else y) := by
  by_cases h : c
  · rw [if_pos h]; exact hx
  · rw [if_neg h]; exact hy
def KD (r : Option Int32) : Prop := r = some (-1) ∨ ∃ k, k ≤ 5 ∧ r = some (nI k)
theorem kd_c (v : Int32) : KD (F_X6_kindOf v) := by
  unfold F_X6_kindOf
  repeat' (apply iteP (P := KD))
  all_goals first | exact Or.inl rfl | exact Or.inr ⟨0, by omega, rfl⟩ | exact Or.inr ⟨1, by omega, rfl⟩ | exact Or.inr ⟨2, by omega, rfl⟩ | exact Or.inr ⟨3, by omega, rfl⟩ | exact Or.inr ⟨4, by omega, rfl⟩ | exact Or.inr ⟨5, by omega, rfl⟩
theorem kd_e (v : Int32) : F_X8_kindOf v = F_X6_kindOf v := rfl
def pbN (k : Nat) : Nat := if k = 0 ∨ k = 3 ∨ k = 4 then 1 else 0
section S29
variable {I M : SI} {J N : SJ} {a : NN} {st wn te tl rl k A B Q t p q : Nat} {tx : Nat → Nat}
theorem nmoX (hx : XTx I tl tx) (hp : p ≤ tl) {lo : Nat} {r : Int32} (hn : nm tx tl p = (r, q)) : F_X6_numberOf (u2 I 45 2 (nI p)) J (nI lo) 99 = if r < nI lo then some (-1, u2 I 45 2 (nI p), J) else if r ≤ 99 then some (r, u2 I 45 2 (nI q), J) else some (-1, u2 I 45 2 (nI p), J) := by
  have h64 := hx.1
  unfold F_X6_numberOf
  rw [numX hx (by omega), hn, Option.bind_some]
  show (if r < nI lo then some ((-1 : Int32), u2 (u2 I 45 2 (nI q)) 45 2 (u2 I 45 2 (nI p) 45 2), J) else if r ≤ 99 then some (r, u2 I 45 2 (nI q), J) else some ((-1 : Int32), u2 (u2 I 45 2 (nI q)) 45 2 (u2 I 45 2 (nI p) 45 2), J)) = _
  rw [(at45 (I := I) (nI p)).2.1, u2u2]
theorem nmoM (hm : MTx M tl tx) (hp : p ≤ tl) {lo : Nat} {r : Int32} (hn : nm tx tl p = (r, q)) : F_X8_numberIn (u2 M 0 15 (nI p)) N (nI lo) 99 = if r < 0 then some (r, u2 M 0 15 (nI q), N) else (F_X8_isIn r (nI lo) 99).bind fun r3 => if r3 = 0 then some (-1, u2 M 0 15 (nI p), N) else some (r, u2 M 0 15 (nI q), N) := by
  have h64 := hm.1
  unfold F_X8_numberIn
  rw [numM hm (by omega), hn, Option.bind_some]
  show (if r < 0 then some (r, u2 M 0 15 (nI q), N) else (F_X8_isIn r (nI lo) 99).bind fun r3 => if r3 = 0 then some (-1, u2 (u2 M 0 15 (nI q)) 0 15 (u2 M 0 15 (nI p) 0 15), N) else some (r, u2 M 0 15 (nI q), N)) = _
  rw [(u2z (M := M) (j := 15) (v := nI p)).2.2, u2u2]
theorem numC (hx : XTx I tl tx) (hm : MTx M tl tx) (hp : p ≤ tl) {lo : Nat} (hlo : lo ≤ 99) (J N : SJ) :
    (F_X6_numberOf (u2 I 45 2 (nI p)) J (nI lo) 99 = some (-1, u2 I 45 2 (nI p), J) ∧ F_X8_numberIn (u2 M 0 15 (nI p)) N (nI lo) 99 = some (-1, u2 M 0 15 (nI p), N)) ∨ ∃ v q, lo ≤ v ∧ v ≤ 99 ∧ q ≤ tl ∧ F_X6_numberOf (u2 I 45 2 (nI p)) J (nI lo) 99 = some (nI v, u2 I 45 2 (nI q), J) ∧ F_X8_numberIn (u2 M 0 15 (nI p)) N (nI lo) 99 = some (nI v, u2 M 0 15 (nI q), N) := by
  rcases nm_c (tx := tx) hp with h | ⟨v, q, h, hv, hq⟩
  · rw [nmoX hx hp h, nmoM hm hp h, if_pos (show (-1 : Int32) < nI lo from Int32.lt_of_lt_of_le (show (-1 : Int32) < 0 by decide) (nI_pos' (by omega))), if_pos (show (-1 : Int32) < 0 by decide)]
    exact Or.inl ⟨rfl, rfl⟩
  · rw [nmoX hx hp h, nmoM hm hp h, if_neg (nI_pos (show v < 2 ^ 31 by omega))]
    by_cases c1 : v < lo
    · rw [if_pos (nI_lt c1 (by omega)), isLo (nI_lt c1 (by omega)), Option.bind_some, if_pos rfl]
      exact Or.inl ⟨rfl, rfl⟩
    · have n1 : ¬ nI v < nI lo := nI_nlt (by omega) (by omega)
      rw [if_neg n1]
      by_cases c2 : 99 < v
      · have n2 : (99 : Int32) < nI v := nI_lt (a := 99) c2 (by omega)
        rw [if_neg (Int32.not_le.mpr n2), isHi n2, Option.bind_some, if_pos rfl]
        exact Or.inl ⟨rfl, rfl⟩
      · have n2 : ¬ (99 : Int32) < nI v := nI_nlt (b := v) (a := 99) (by omega) (by omega)
        rw [if_pos (Int32.not_lt.mp n2), isOk n1 n2, Option.bind_some, if_neg (show ¬ (1 : Int32) = 0 by decide)]
        exact Or.inr ⟨v, q, by omega, by omega, hq, rfl, rfl⟩
theorem skC (hx : XTx I tl tx) (hm : MTx M tl tx) (hp : p ≤ tl) {s : Int32} {c : Nat} (hs : s = nI c) (hc : c < 256) (J N : SJ) :
    (F_X6_skip (u2 I 45 2 (nI p)) J s = some (0, u2 I 45 2 (nI p), J) ∧ F_X8_isNext (u2 M 0 15 (nI p)) N s = some (0, u2 M 0 15 (nI p), N)) ∨ (p + 1 ≤ tl ∧ tx p = c ∧ F_X6_skip (u2 I 45 2 (nI p)) J s = some (1, u2 I 45 2 (nI (p + 1)), J) ∧ F_X8_isNext (u2 M 0 15 (nI p)) N s = some (1, u2 M 0 15 (nI (p + 1)), N)) := by
  have h64 := hx.1
  unfold F_X6_skip F_X8_isNext
  rw [hereX hx (by omega), hereM hm (by omega), Option.bind_some, Option.bind_some, (at45 (I := I) (nI p)).2.1, (u2z (M := M) (j := 15) (v := nI p)).2.2, u2u2, u2u2, nI_1]
  by_cases c1 : p < tl
  · rw [if_pos c1]
    have g := (hx.2.2 p c1).2
    by_cases c2 : nI (tx p) = s
    · rw [if_pos c2, if_pos c2]
      rw [hs] at c2
      exact Or.inr ⟨by omega, (nI_eq (by omega) (by omega)).mp c2, rfl, rfl⟩
    · rw [if_neg c2, if_neg c2]
      exact Or.inl ⟨rfl, rfl⟩
  · rw [if_neg c1]
    have n : ¬ (-1 : Int32) = s := fun e => by
      have := nI_pos (show c < 2 ^ 31 by omega)
      rw [← hs, ← e] at this
      exact this (by decide)
    rw [if_neg n, if_neg n]
    exact Or.inl ⟨rfl, rfl⟩
/-- what reading a TERM leaves in the reference -/
def TQ (M M' : SI) (te k A B Q : Nat) : Prop := M' 13 = upd (M 13) te (nI k) ∧ M' 14 = upd (M 14) te (nI A) ∧ M' 15 = upd (M 15) te (nI B) ∧ M' 16 = upd (M 16) te (nI Q) ∧ (∀ z, z ≠ 0 → (z < 13 ∨ 16 < z) → M' z = M z) ∧ ∀ j, j ≠ 15 → M' 0 j = M 0 j
def OT (I M : SI) (J N : SJ) (te : Nat) (rx rm : Option (Int32 × SI × SJ)) : Prop := (∃ q, q ≤ 64 ∧ rx = some (nI q, u2 I 45 2 (nI q), J) ∧ rm = some (0, u2 M 0 15 (nI q), N)) ∨ ∃ (k A B Q : Nat) (I' M' : SI), OkT k A B Q ∧ rx = some (-1, I', J) ∧ rm = some (1, M', N) ∧ XT I' 58 k A B Q ∧ (∀ z, z ≠ 58 → z ≠ 45 → I' z = I z) ∧ TQ M M' te k A B Q
theorem xBec (K : SI) (J : SJ) (kk aa bb nn : Int32) : ∃ I' : SI, F_X5_become 58 K J kk aa bb nn = some (I', J) ∧ (I' 58 0 = kk ∧ I' 58 1 = aa ∧ I' 58 2 = bb ∧ I' 58 3 = nn) ∧ ∀ z, z ≠ 58 → I' z = K z := by
  refine ⟨_, rfl, ⟨rfl, rfl, rfl, rfl⟩, fun z h2 => ?_⟩
  exact (u1_ne h2).trans ((u1_ne h2).trans ((u1_ne h2).trans (u1_ne h2)))
theorem mStE {K : SI} (h21 : K 0 21 = nI te) (ht : te < 8) (kk aa bb nn : Int32) (N : SJ) : mSt K N kk aa bb nn = some (1, u1 (u1 (u1 (u1 K 13 (upd (K 13) te kk)) 14 (upd (K 14) te aa)) 15 (upd (K 15) te bb)) 16 (upd (K 16) te nn), N) := by
  have g : gin (nI te) 8 = true := gin_nI ht (by omega)
  have c : (nI te).toNatClampNeg = te := nI_clamp (by omega)
  have f1 : ∀ f, u1 K 13 f 0 21 = nI te := fun f => (congrFun (u1_ne (by omega)) 21).trans h21
  have f2 : ∀ f f', u1 (u1 K 13 f) 14 f' 0 21 = nI te := fun f f' => (congrFun (u1_ne (by omega)) 21).trans (f1 f)
  have f3 : ∀ f f' f3, u1 (u1 (u1 K 13 f) 14 f') 15 f3 0 21 = nI te := fun f f' f3 => (congrFun (u1_ne (by omega)) 21).trans (f2 f f')
  have e14 : ∀ f, u1 K 13 f 14 = K 14 := fun f => u1_ne (by omega)
  have e15 : ∀ f f', u1 (u1 K 13 f) 14 f' 15 = K 15 := fun f f' => (u1_ne (by omega)).trans (u1_ne (by omega))
  have e16 : ∀ f f' f3, u1 (u1 (u1 K 13 f) 14 f') 15 f3 16 = K 16 := fun f f' f3 => (u1_ne (by omega)).trans ((u1_ne (by omega)).trans (u1_ne (by omega)))
  unfold mSt
  simp only [h21, g, c, f1, f2, f3, e14, e15, e16, ↓reduceIte]
theorem enT (hx : XTx I tl tx) (hm : MTx M tl tx) (h21 : M 0 21 = nI te) (ht : te < 8) (hq : q ≤ tl) (hT : OkT k A B Q) (J N : SJ) : OT I M J N te (cEn 58 (u2 I 45 2 (nI q)) J (nI k) (nI A) (nI B) (nI Q)) (mEn (u2 M 0 15 (nI q)) N (nI k) (nI A) (nI B) (nI Q)) := by
  have h64 := hx.1
  obtain ⟨e1, e2, e3⟩ := at45 (I := I) (nI q)
  obtain ⟨z1, z2, z3⟩ := u2z (M := M) (j := 15) (v := nI q)
  unfold cEn mEn
  rw [e1, e2, z2 14 (by omega), z3, hx.2.1, hm.2.1]
  by_cases c : tl ≤ q
  · rw [if_pos (nI_le c (by omega)), if_pos (nI_le c (by omega))]
    obtain ⟨I', a1, ⟨a2, a3, a4, a5⟩, a6⟩ := xBec (u2 I 45 2 (nI q)) J (nI k) (nI A) (nI B) (nI Q)
    have z21 : u2 M 0 15 (nI q) 0 21 = nI te := (z2 21 (by omega)).trans h21
    rw [a1, Option.bind_some, mStE z21 ht]
    refine Or.inr ⟨k, A, B, Q, I', _, hT, rfl, rfl, ⟨a2, a3, a4, a5⟩, fun z hz hz2 => (a6 z hz).trans (u1_ne hz2), ?_⟩
    have y : ∀ z, z ≠ 0 → u2 M 0 15 (nI q) z = M z := z1
    refine ⟨?_, ?_, ?_, ?_, fun z hz hz2 => ?_, fun j hj => ?_⟩
    · rw [u1_ne (by omega), u1_ne (by omega), u1_ne (by omega), u1_at, y 13 (by omega)]
    · rw [u1_ne (by omega), u1_ne (by omega), u1_at, y 14 (by omega)]
    · rw [u1_ne (by omega), u1_at, y 15 (by omega)]
    · rw [u1_at, y 16 (by omega)]
    · rw [u1_ne (by omega), u1_ne (by omega), u1_ne (by omega), u1_ne (by omega), y z hz]
    · rw [u1_ne (by omega), u1_ne (by omega), u1_ne (by omega), u1_ne (by omega), z2 j hj]
  · rw [if_neg (nI_ge (by omega) (by omega)), if_neg (nI_ge (by omega) (by omega))]
    exact Or.inl ⟨q, by omega, rfl, rfl⟩
theorem tlT (hx : XTx I tl tx) (hm : MTx M tl tx) (h21 : M 0 21 = nI te) (ht : te < 8) (hq : q ≤ tl) (hk : k ≤ 5) (hA : A ≤ 99) (hB : B ≤ 99) (h0 : (k = 0 ∨ k = 3 ∨ k = 4) → 0 < B) (J N : SJ) : OT I M J N te (cTl 58 (u2 I 45 2 (nI q)) J (nI k) (nI A) (nI B)) (mTl (u2 M 0 15 (nI q)) N (nI k) (nI A) (nI B)) := by
  have h64 := hx.1
  unfold cTl mTl
  by_cases c : k < 3
  · have c' : nI k < (3 : Int32) := nI_lt (b := 3) c (by omega)
    rw [if_pos c', if_pos c', if_neg (show ¬ (0 : Int32) < 0 by decide)]
    exact enT (Q := 0) hx hm h21 ht hq ⟨hk, by omega, hB, by omega, h0⟩ J N
  · have c' : ¬ nI k < (3 : Int32) := nI_nlt (a := k) (b := 3) (by omega) (by omega)
    rw [if_neg c', if_neg c']
    rcases skC hx hm hq (s := 43) (c := 43) rfl (by omega) J N with ⟨s1, s2⟩ | ⟨g1, g2, s1, s2⟩
    · rw [s1, s2, Option.bind_some, Option.bind_some]
      show OT I M J N te (if (0 : Int32) = 0 then (if (-1 : Int32) < 0 then some ((u2 I 45 2 (nI q)) 45 2, u2 I 45 2 (nI q), J) else _) else _) (if (0 : Int32) = 0 then some (0, u2 M 0 15 (nI q), N) else _)
      rw [if_pos rfl, if_pos rfl, if_pos (by decide), (at45 (I := I) (nI q)).2.1]
      exact Or.inl ⟨q, by omega, rfl, rfl⟩
    · rw [s1, s2, Option.bind_some, Option.bind_some]
      show OT I M J N te (if (1 : Int32) = 0 then _ else ((F_X6_numberOf (u2 I 45 2 (nI (q + 1))) J (0 : Int32) (99 : Int32)).bind fun (r20, I20, J20) => (if r20 < 0 then (some ((I20 45 2), I20, J20)) else cEn 58 I20 J20 (nI k) (nI A) (nI B) r20))) (if (1 : Int32) = 0 then _ else ((F_X8_numberIn (u2 M 0 15 (nI (q + 1))) N (0 : Int32) (99 : Int32)).bind fun (r18, I18, J18) => (if 0 ≤ r18 then mEn I18 J18 (nI k) (nI A) (nI B) r18 else (some ((0 : Int32), I18, J18)))))
      rw [if_neg (by decide), if_neg (by decide)]
      have nc := numC hx hm g1 (lo := 0) (by omega) J N
      rw [show nI 0 = (0 : Int32) from rfl] at nc
      rcases nc with ⟨s1, s2⟩ | ⟨v, q', _, g3, g4, s1, s2⟩
      · rw [s1, s2, Option.bind_some, Option.bind_some]
        show OT I M J N te (if (-1 : Int32) < 0 then some ((u2 I 45 2 (nI (q + 1))) 45 2, u2 I 45 2 (nI (q + 1)), J) else _) (if 0 ≤ (-1 : Int32) then _ else some (0, u2 M 0 15 (nI (q + 1)), N))
        rw [if_pos (by decide), if_neg (by decide), (at45 (I := I) (nI (q + 1))).2.1]
        exact Or.inl ⟨q + 1, by omega, rfl, rfl⟩
      · rw [s1, s2, Option.bind_some, Option.bind_some]
        show OT I M J N te (if nI v < 0 then _ else cEn 58 (u2 I 45 2 (nI q')) J (nI k) (nI A) (nI B) (nI v)) (if 0 ≤ nI v then mEn (u2 M 0 15 (nI q')) N (nI k) (nI A) (nI B) (nI v) else _)
        rw [if_neg (nI_pos (by omega)), if_pos (nI_pos' (by omega))]
        exact enT hx hm h21 ht g4 ⟨hk, by omega, hB, g3, h0⟩ J N
theorem ptT (hx : XTx I tl tx) (hm : MTx M tl tx) (h21 : M 0 21 = nI te) (ht : te < 8) (hp : p ≤ tl) (hk : k ≤ 5) (J N : SJ) : OT I M J N te (cPt 58 (u2 I 45 2 (nI p)) J (nI k) (nI (pbN k))) (mPt (u2 M 0 15 (nI p)) N (nI k) (nI (pbN k))) := by
  have h64 := hx.1
  unfold cPt mPt
  by_cases c : k = 0 ∨ k = 3 ∨ k = 4
  · have e : nI (pbN k) = 1 := by
      rw [show pbN k = 1 from if_pos c]
      rfl
    rw [e, if_neg (show ¬ (1 : Int32) = 0 by decide), show (1 : Int32) = nI 1 from rfl]
    rcases numC hx hm hp (lo := 1) (by omega) J N with ⟨s1, s2⟩ | ⟨A, q, g1, g3, g4, s1, s2⟩
    · rw [s1, s2, Option.bind_some, Option.bind_some]
      show OT I M J N te (if 0 ≤ (-1 : Int32) then _ else some ((u2 I 45 2 (nI p)) 45 2, u2 I 45 2 (nI p), J)) (if 0 ≤ (-1 : Int32) then _ else some (0, u2 M 0 15 (nI p), N))
      rw [if_neg (by decide), if_neg (by decide), (at45 (I := I) (nI p)).2.1]
      exact Or.inl ⟨p, by omega, rfl, rfl⟩
    · rw [s1, s2, Option.bind_some, Option.bind_some]
      show OT I M J N te (if 0 ≤ nI A then (if nI 1 = 0 then _ else ((F_X6_skip (u2 I 45 2 (nI q)) J (47 : Int32)).bind fun (r24, I24, J24) => (if r24 = 0 then (if 0 ≤ (-1 : Int32) then cTl 58 I24 J24 (nI k) (nI A) (-1 : Int32) else (some ((I24 45 2), I24, J24))) else ((F_X6_numberOf I24 J24 (nI A) (99 : Int32)).bind fun (r40, I40, J40) => (if 0 ≤ r40 then cTl 58 I40 J40 (nI k) (nI A) r40 else (some ((I40 45 2), I40, J40))))))) else _) (if 0 ≤ nI A then (if nI 1 = 0 then _ else ((F_X8_isNext (u2 M 0 15 (nI q)) N (47 : Int32)).bind fun (r25, I25, J25) => (if r25 = 0 then (some ((0 : Int32), I25, J25)) else ((F_X8_numberIn I25 J25 (nI A) (99 : Int32)).bind fun (r27, I27, J27) => (if 0 ≤ r27 then mTl I27 J27 (nI k) (nI A) r27 else (some ((0 : Int32), I27, J27))))))) else _)
      rw [if_pos (nI_pos' (by omega)), if_pos (nI_pos' (by omega)), if_neg (show ¬ nI 1 = 0 by decide), if_neg (show ¬ nI 1 = 0 by decide)]
      rcases skC hx hm g4 (s := 47) (c := 47) rfl (by omega) J N with ⟨s1, s2⟩ | ⟨g5, _, s1, s2⟩
      · rw [s1, s2, Option.bind_some, Option.bind_some]
        show OT I M J N te (if (0 : Int32) = 0 then (if 0 ≤ (-1 : Int32) then _ else some ((u2 I 45 2 (nI q)) 45 2, u2 I 45 2 (nI q), J)) else _) (if (0 : Int32) = 0 then some (0, u2 M 0 15 (nI q), N) else _)
        rw [if_pos rfl, if_pos rfl, if_neg (by decide), (at45 (I := I) (nI q)).2.1]
        exact Or.inl ⟨q, by omega, rfl, rfl⟩
      · rw [s1, s2, Option.bind_some, Option.bind_some]
        show OT I M J N te (if (1 : Int32) = 0 then _ else ((F_X6_numberOf (u2 I 45 2 (nI (q + 1))) J (nI A) (99 : Int32)).bind fun (r40, I40, J40) => (if 0 ≤ r40 then cTl 58 I40 J40 (nI k) (nI A) r40 else (some ((I40 45 2), I40, J40))))) (if (1 : Int32) = 0 then _ else ((F_X8_numberIn (u2 M 0 15 (nI (q + 1))) N (nI A) (99 : Int32)).bind fun (r27, I27, J27) => (if 0 ≤ r27 then mTl I27 J27 (nI k) (nI A) r27 else (some ((0 : Int32), I27, J27)))))
        rw [if_neg (by decide), if_neg (by decide)]
        rcases numC hx hm g5 (lo := A) (by omega) J N with ⟨s1, s2⟩ | ⟨B, q', g6, g7, g8, s1, s2⟩
        · rw [s1, s2, Option.bind_some, Option.bind_some]
          show OT I M J N te (if 0 ≤ (-1 : Int32) then _ else some ((u2 I 45 2 (nI (q + 1))) 45 2, u2 I 45 2 (nI (q + 1)), J)) (if 0 ≤ (-1 : Int32) then _ else some (0, u2 M 0 15 (nI (q + 1)), N))
          rw [if_neg (by decide), if_neg (by decide), (at45 (I := I) (nI (q + 1))).2.1]
          exact Or.inl ⟨q + 1, by omega, rfl, rfl⟩
        · rw [s1, s2, Option.bind_some, Option.bind_some]
          show OT I M J N te (if 0 ≤ nI B then cTl 58 (u2 I 45 2 (nI q')) J (nI k) (nI A) (nI B) else _) (if 0 ≤ nI B then mTl (u2 M 0 15 (nI q')) N (nI k) (nI A) (nI B) else _)
          rw [if_pos (nI_pos' (by omega)), if_pos (nI_pos' (by omega))]
          exact tlT hx hm h21 ht g8 hk g3 g7 (fun _ => by omega) J N
  · have e : nI (pbN k) = 0 := by
      rw [show pbN k = 0 from if_neg c]
      rfl
    rw [e, if_pos rfl]
    have nc := numC hx hm hp (lo := 0) (by omega) J N
    rw [show nI 0 = (0 : Int32) from rfl] at nc
    rcases nc with ⟨s1, s2⟩ | ⟨A, q, g1, g3, g4, s1, s2⟩
    · rw [s1, s2, Option.bind_some, Option.bind_some]
      show OT I M J N te (if 0 ≤ (-1 : Int32) then _ else some ((u2 I 45 2 (nI p)) 45 2, u2 I 45 2 (nI p), J)) (if 0 ≤ (-1 : Int32) then _ else some (0, u2 M 0 15 (nI p), N))
      rw [if_neg (by decide), if_neg (by decide), (at45 (I := I) (nI p)).2.1]
      exact Or.inl ⟨p, by omega, rfl, rfl⟩
    · rw [s1, s2, Option.bind_some, Option.bind_some]
      show OT I M J N te (if 0 ≤ nI A then (if (0 : Int32) = 0 then (if 0 ≤ (0 : Int32) then cTl 58 (u2 I 45 2 (nI q)) J (nI k) (nI A) (0 : Int32) else _) else _) else _) (if 0 ≤ nI A then (if (0 : Int32) = 0 then mTl (u2 M 0 15 (nI q)) N (nI k) (nI A) (0 : Int32) else _) else _)
      rw [if_pos (nI_pos' (by omega)), if_pos (nI_pos' (by omega)), if_pos rfl, if_pos rfl, if_pos (by decide)]
      exact tlT (B := 0) hx hm h21 ht g4 hk g3 (by omega) (fun h => absurd h c) J N
theorem readT (hx : XTx I tl tx) (hm : MTx M tl tx) (h21 : M 0 21 = nI te) (ht : te < 8) (J N : SJ) : OT I M J N te (F_X6_readTerm 58 I J) (F_X8_readsTerm M N) := by
  have h64 := hx.1
  have ex : u2 I 45 2 (0 : Int32) = u2 I 45 2 (nI 0) := rfl
  have em : u2 M 0 15 (0 : Int32) = u2 M 0 15 (nI 0) := rfl
  rw [rtX, rtM, ex, em, hereX hx (by omega), hereM hm (by omega), Option.bind_some, Option.bind_some, (at45 (I := I) (nI 0)).2.1, (u2z (M := M) (j := 15) (v := nI 0)).2.2, u2u2, u2u2, nI_1, kd_e]
  have hk := kd_c (if 0 < tl then nI (tx 0) else -1)
  by_cases c0 : 0 < tl
  · rcases hk with hk | ⟨k, k5, hk⟩
    · rw [hk, Option.bind_some, Option.bind_some, if_pos (by decide), if_neg (by decide)]
      exact Or.inl ⟨0, by omega, rfl, rfl⟩
    · rw [hk, Option.bind_some, Option.bind_some]
      have hp := ptT (p := 0 + 1) hx hm h21 ht (by omega) k5 J N
      have ep : F_X8_isParted (u2 M 0 15 (nI (0 + 1))) N (nI k) = some (nI (pbN k)) := by
        rcases (by omega : k = 0 ∨ k = 1 ∨ k = 2 ∨ k = 3 ∨ k = 4 ∨ k = 5) with rfl | rfl | rfl | rfl | rfl | rfl <;> rfl
      rw [if_pos (nI_pos' (by omega)), ep, Option.bind_some, if_neg (nI_pos (by omega))]
      rcases (by omega : k = 0 ∨ k = 1 ∨ k = 2 ∨ k = 3 ∨ k = 4 ∨ k = 5) with rfl | rfl | rfl | rfl | rfl | rfl
      · rw [if_pos (show nI 0 = 0 by decide)]; exact hp
      · rw [if_neg (show ¬ nI 1 = 0 by decide), if_neg (show ¬ nI 1 = 3 by decide), if_neg (show ¬ nI 1 = 4 by decide)]; exact hp
      · rw [if_neg (show ¬ nI 2 = 0 by decide), if_neg (show ¬ nI 2 = 3 by decide), if_neg (show ¬ nI 2 = 4 by decide)]; exact hp
      · rw [if_neg (show ¬ nI 3 = 0 by decide), if_pos (show nI 3 = 3 by decide)]; exact hp
      · rw [if_neg (show ¬ nI 4 = 0 by decide), if_neg (show ¬ nI 4 = 3 by decide), if_pos (show nI 4 = 4 by decide)]; exact hp
      · rw [if_neg (show ¬ nI 5 = 0 by decide), if_neg (show ¬ nI 5 = 3 by decide), if_neg (show ¬ nI 5 = 4 by decide)]; exact hp
  · rw [if_neg c0, show F_X6_kindOf (-1) = some (-1) from by decide, Option.bind_some, Option.bind_some, if_pos (by decide), if_neg (by decide)]
    exact Or.inl ⟨0, by omega, rfl, rfl⟩
end S29
