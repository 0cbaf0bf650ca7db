def nB (c : Nat) : Nat := if c = 103 ∨ c = 111 then 1 else if c = 101 ∨ c = 109 ∨ c = 112 ∨ c = 115 ∨ c = 119 then 2 else 0
theorem nbX {c : Nat} (hc : c < 256) : F_X6_numbersBehind (nI c) = some (nI (nB c)) := by
  by_cases h : 101 ≤ c ∧ c ≤ 119
  · rcases (by omega : c = 101 ∨ c = 102 ∨ c = 103 ∨ c = 104 ∨ c = 105 ∨ c = 106 ∨ c = 107 ∨ c = 108 ∨ c = 109 ∨ c = 110 ∨ c = 111 ∨ c = 112 ∨ c = 113 ∨ c = 114 ∨ c = 115 ∨ c = 116 ∨ c = 117 ∨ c = 118 ∨ c = 119) with rfl | rfl | rfl | rfl | rfl | rfl | rfl | rfl | rfl | rfl | rfl | rfl | rfl | rfl | rfl | rfl | rfl | rfl | rfl <;> decide
  · have n : ∀ k : Nat, 101 ≤ k → k ≤ 119 → ¬ nI c = nI k := fun k h1 h2 e => by
      have := (nI_eq (show c < 2 ^ 31 by omega) (show k < 2 ^ 31 by omega)).mp e
      omega
    have hb : nB c = 0 := by
      unfold nB
      rw [if_neg (by omega), if_neg (by omega)]
    rw [hb]
    unfold F_X6_numbersBehind
    rw [if_neg (show ¬ nI c = (101 : Int32) from n 101 (by omega) (by omega)), if_neg (show ¬ nI c = (102 : Int32) from n 102 (by omega) (by omega)), if_neg (show ¬ nI c = (103 : Int32) from n 103 (by omega) (by omega)), if_neg (show ¬ nI c = (104 : Int32) from n 104 (by omega) (by omega)), if_neg (show ¬ nI c = (105 : Int32) from n 105 (by omega) (by omega)), if_neg (show ¬ nI c = (106 : Int32) from n 106 (by omega) (by omega)), if_neg (show ¬ nI c = (107 : Int32) from n 107 (by omega) (by omega)), if_neg (show ¬ nI c = (108 : Int32) from n 108 (by omega) (by omega)), if_neg (show ¬ nI c = (109 : Int32) from n 109 (by omega) (by omega)), if_neg (show ¬ nI c = (110 : Int32) from n 110 (by omega) (by omega)), if_neg (show ¬ nI c = (111 : Int32) from n 111 (by omega) (by omega)), if_neg (show ¬ nI c = (112 : Int32) from n 112 (by omega) (by omega)), if_neg (show ¬ nI c = (113 : Int32) from n 113 (by omega) (by omega)), if_neg (show ¬ nI c = (114 : Int32) from n 114 (by omega) (by omega)), if_neg (show ¬ nI c = (115 : Int32) from n 115 (by omega) (by omega)), if_neg (show ¬ nI c = (116 : Int32) from n 116 (by omega) (by omega)), if_neg (show ¬ nI c = (117 : Int32) from n 117 (by omega) (by omega)), if_neg (show ¬ nI c = (118 : Int32) from n 118 (by omega) (by omega)), if_neg (show ¬ nI c = (119 : Int32) from n 119 (by omega) (by omega))]
    rfl
theorem h2M {c : Nat} (hc : c < 256) : F_X8_hasTwo (nI c) = some (if nB c = 2 then 1 else 0) := by
  by_cases h : 101 ≤ c ∧ c ≤ 119
  · rcases (by omega : c = 101 ∨ c = 102 ∨ c = 103 ∨ c = 104 ∨ c = 105 ∨ c = 106 ∨ c = 107 ∨ c = 108 ∨ c = 109 ∨ c = 110 ∨ c = 111 ∨ c = 112 ∨ c = 113 ∨ c = 114 ∨ c = 115 ∨ c = 116 ∨ c = 117 ∨ c = 118 ∨ c = 119) with rfl | rfl | rfl | rfl | rfl | rfl | rfl | rfl | rfl | rfl | rfl | rfl | rfl | rfl | rfl | rfl | rfl | rfl | rfl <;> decide
  · have n : ∀ k : Nat, 101 ≤ k → k ≤ 119 → ¬ nI c = nI k := fun k h1 h2 e => by
      have := (nI_eq (show c < 2 ^ 31 by omega) (show k < 2 ^ 31 by omega)).mp e
      omega
    have hb : nB c = 0 := by
      unfold nB
      rw [if_neg (by omega), if_neg (by omega)]
    rw [hb]
    unfold F_X8_hasTwo
    rw [if_neg (show ¬ nI c = (112 : Int32) from n 112 (by omega) (by omega)), if_neg (show ¬ nI c = (119 : Int32) from n 119 (by omega) (by omega)), if_neg (show ¬ nI c = (109 : Int32) from n 109 (by omega) (by omega)), if_neg (show ¬ nI c = (101 : Int32) from n 101 (by omega) (by omega)), if_neg (show ¬ nI c = (115 : Int32) from n 115 (by omega) (by omega))]
    rfl
def mSb (I : SI) (J : SJ) (r1 : Int32) : Option (Int32 × SI × SJ) := (if gin (I 0 16) 32 = true then (if gin (I 0 16) 32 = true then ((F_X8_number (u2 (u1 (u1 I 9 (upd (I 9) (Int32.toNatClampNeg (I 0 16)) r1)) 10 (upd ((u1 I 9 (upd (I 9) (Int32.toNatClampNeg (I 0 16)) r1)) 10) (Int32.toNatClampNeg (I 0 16)) ((u1 I 9 (upd (I 9) (Int32.toNatClampNeg (I 0 16)) r1)) 0 15))) 0 15 (((u1 (u1 I 9 (upd (I 9) (Int32.toNatClampNeg (I 0 16)) r1)) 10 (upd ((u1 I 9 (upd (I 9) (Int32.toNatClampNeg (I 0 16)) r1)) 10) (Int32.toNatClampNeg (I 0 16)) ((u1 I 9 (upd (I 9) (Int32.toNatClampNeg (I 0 16)) r1)) 0 15))) 0 15) + (1 : Int32))) J).bind fun (r5, I5, J5) => (if gin (I 0 16) 32 = true then (if gin (I 0 16) 32 = true then (if 0 ≤ ((u1 I5 11 (upd (I5 11) (Int32.toNatClampNeg (I 0 16)) r5)) 11 (Int32.toNatClampNeg (I 0 16))) then ((F_X8_hasTwo r1).bind fun r9 => (if r9 = 0 then ((F_X8_isNext (u1 I5 11 (upd (I5 11) (Int32.toNatClampNeg (I 0 16)) r5)) J5 (59 : Int32)).bind fun (r11, I11, J11) => (if gbo r11 = true then (some (r11, I11, J11)) else none)) else ((F_X8_isNext (u1 I5 11 (upd (I5 11) (Int32.toNatClampNeg (I 0 16)) r5)) J5 (44 : Int32)).bind fun (r13, I13, J13) => (if r13 = 0 then (some ((0 : Int32), I13, J13)) else ((F_X8_number I13 J13).bind fun (r15, I15, J15) => (if gin (I 0 16) 32 = true then (if gin (I 0 16) 32 = true then (if 0 ≤ ((u1 I15 12 (upd (I15 12) (Int32.toNatClampNeg (I 0 16)) r15)) 12 (Int32.toNatClampNeg (I 0 16))) then ((F_X8_isNext (u1 I15 12 (upd (I15 12) (Int32.toNatClampNeg (I 0 16)) r15)) J15 (59 : Int32)).bind fun (r19, I19, J19) => (if gbo r19 = true then (some (r19, I19, J19)) else none)) else (some ((0 : Int32), (u1 I15 12 (upd (I15 12) (Int32.toNatClampNeg (I 0 16)) r15)), J15))) else none) else none)))))) else (some ((0 : Int32), (u1 I5 11 (upd (I5 11) (Int32.toNatClampNeg (I 0 16)) r5)), J5))) else none) else none)) else none) else none)
theorem smE (I : SI) (J : SJ) : F_X8_statement I J = ((F_X8_nextByte I J).bind fun r1 => (if r1 = (103 : Int32) then mSb I J r1 else (if r1 = (111 : Int32) then mSb I J r1 else ((F_X8_hasTwo r1).bind fun r40 => (if r40 = 0 then (some ((0 : Int32), I, J)) else mSb I J r1))))) := rfl
/-- a STATEMENT from a place on: does it pass, and where its reading ends -/
def se (tx : Nat → Nat) (tl q : Nat) : Bool × Nat := if q < tl ∧ tx q = 59 then (true, q + 1) else (false, q)
def sp2 (tx : Nat → Nat) (tl q : Nat) : Bool × Nat := if q < tl ∧ tx q = 44 then (if (nm tx tl (q + 1)).1 < 0 then (false, (nm tx tl (q + 1)).2) else se tx tl (nm tx tl (q + 1)).2) else (false, q)
def sp (tx : Nat → Nat) (tl p : Nat) : Bool × Nat :=
  if nB (tx p) = 0 then (false, p) else if (nm tx tl (p + 1)).1 < 0 then (false, (nm tx tl (p + 1)).2) else if nB (tx p) = 2 then sp2 tx tl (nm tx tl (p + 1)).2 else se tx tl (nm tx tl (p + 1)).2
def b32 (b : Bool) : Int32 := if b = true then 1 else 0
theorem nm_le {tx : Nat → Nat} {tl p : Nat} (hp : p ≤ tl) : (nm tx tl p).2 ≤ tl := by
  rcases nm_c (tx := tx) hp with h | ⟨v, q, h, _, hq⟩
  · rw [h]; exact hp
  · rw [h]; exact hq
theorem nm1_ge {tx : Nat → Nat} {tl v p : Nat} : p ≤ (nmL tx tl 1 v p).2 := by
  unfold nmL
  by_cases c : v = 0
  · rw [if_pos c]; exact Nat.le_refl p
  · rw [if_neg c]
    by_cases d : p < tl ∧ 48 ≤ tx p ∧ tx p ≤ 57
    · rw [if_pos d]
      exact Nat.le_succ p
    · rw [if_neg d]; exact Nat.le_refl p
theorem nm2_ge {tx : Nat → Nat} {tl v p : Nat} : p ≤ (nmL tx tl 2 v p).2 := by
  unfold nmL
  by_cases c : v = 0
  · rw [if_pos c]; exact Nat.le_refl p
  · rw [if_neg c]
    by_cases d : p < tl ∧ 48 ≤ tx p ∧ tx p ≤ 57
    · rw [if_pos d]
      exact Nat.le_trans (Nat.le_succ p) nm1_ge
    · rw [if_neg d]; exact Nat.le_refl p
theorem nm_ge {tx : Nat → Nat} {tl p : Nat} : p ≤ (nm tx tl p).2 := by
  unfold nm
  by_cases d : p < tl ∧ 48 ≤ tx p ∧ tx p ≤ 57
  · rw [if_pos d]
    exact Nat.le_trans (Nat.le_succ p) nm2_ge
  · rw [if_neg d]
    exact Nat.le_refl p
theorem nm_gt {tx : Nat → Nat} {tl p : Nat} (h : ¬ (nm tx tl p).1 < 0) : p + 1 ≤ (nm tx tl p).2 := by
  unfold nm at h ⊢
  by_cases d : p < tl ∧ 48 ≤ tx p ∧ tx p ≤ 57
  · rw [if_pos d]
    exact nm2_ge
  · rw [if_neg d] at h
    exact absurd (show (-1 : Int32) < 0 by decide) h
theorem nm_v {tx : Nat → Nat} {tl p : Nat} (hp : p ≤ tl) (h : ¬ (nm tx tl p).1 < 0) : ∃ v, v < 1000 ∧ (nm tx tl p).1 = nI v := by
  rcases nm_c (tx := tx) hp with e | ⟨v, q, e, hv, _⟩
  · rw [e] at h
    exact absurd (show (-1 : Int32) < 0 by decide) h
  · rw [e]
    exact ⟨v, hv, rfl⟩
theorem se_le {tx : Nat → Nat} {tl q : Nat} (hq : q ≤ tl) : (se tx tl q).2 ≤ tl := by
  unfold se
  by_cases c : q < tl ∧ tx q = 59
  · rw [if_pos c]; exact c.1
  · rw [if_neg c]; exact hq
theorem se_t {tx : Nat → Nat} {tl q : Nat} (h : (se tx tl q).1 = true) : q < tl ∧ tx q = 59 ∧ (se tx tl q).2 = q + 1 := by
  unfold se at h ⊢
  by_cases c : q < tl ∧ tx q = 59
  · rw [if_pos c]; exact ⟨c.1, c.2, rfl⟩
  · rw [if_neg c] at h; cases h
theorem sp_le {tx : Nat → Nat} {tl p : Nat} (hp : p < tl) : (sp tx tl p).2 ≤ tl := by
  have h1 := nm_le (tx := tx) (show p + 1 ≤ tl from hp)
  unfold sp
  by_cases c0 : nB (tx p) = 0
  · rw [if_pos c0]; exact Nat.le_of_lt hp
  rw [if_neg c0]
  by_cases c1 : (nm tx tl (p + 1)).1 < 0
  · rw [if_pos c1]; exact h1
  rw [if_neg c1]
  by_cases c2 : nB (tx p) = 2
  · rw [if_pos c2]
    unfold sp2
    by_cases c3 : (nm tx tl (p + 1)).2 < tl ∧ tx (nm tx tl (p + 1)).2 = 44
    · rw [if_pos c3]
      have h2 := nm_le (tx := tx) (show (nm tx tl (p + 1)).2 + 1 ≤ tl from c3.1)
      by_cases c4 : (nm tx tl ((nm tx tl (p + 1)).2 + 1)).1 < 0
      · rw [if_pos c4]; exact h2
      · rw [if_neg c4]; exact se_le h2
    · rw [if_neg c3]; exact h1
  · rw [if_neg c2]; exact se_le h1
/-- a STATEMENT that passes: its letter, its numbers, its end -/
theorem sp_t {tx : Nat → Nat} {tl p : Nat} (h : (sp tx tl p).1 = true) : ¬ nB (tx p) = 0 ∧ ¬ (nm tx tl (p + 1)).1 < 0 ∧ (nB (tx p) = 2 → ((nm tx tl (p + 1)).2 < tl ∧ tx (nm tx tl (p + 1)).2 = 44) ∧ ¬ (nm tx tl ((nm tx tl (p + 1)).2 + 1)).1 < 0 ∧ (nm tx tl ((nm tx tl (p + 1)).2 + 1)).2 < tl ∧ tx (nm tx tl ((nm tx tl (p + 1)).2 + 1)).2 = 59 ∧ (sp tx tl p).2 = (nm tx tl ((nm tx tl (p + 1)).2 + 1)).2 + 1) ∧ (¬ nB (tx p) = 2 → (nm tx tl (p + 1)).2 < tl ∧ tx (nm tx tl (p + 1)).2 = 59 ∧ (sp tx tl p).2 = (nm tx tl (p + 1)).2 + 1) := by
  by_cases c0 : nB (tx p) = 0
  · unfold sp at h
    rw [if_pos c0] at h; cases h
  by_cases c1 : (nm tx tl (p + 1)).1 < 0
  · unfold sp at h
    rw [if_neg c0, if_pos c1] at h; cases h
  refine ⟨c0, c1, fun c2 => ?_, fun c2 => ?_⟩
  · have e : sp tx tl p = sp2 tx tl (nm tx tl (p + 1)).2 := by
      unfold sp
      rw [if_neg c0, if_neg c1, if_pos c2]
    rw [e] at h ⊢
    unfold sp2 at h ⊢
    by_cases c3 : (nm tx tl (p + 1)).2 < tl ∧ tx (nm tx tl (p + 1)).2 = 44
    · rw [if_pos c3] at h ⊢
      by_cases c4 : (nm tx tl ((nm tx tl (p + 1)).2 + 1)).1 < 0
      · rw [if_pos c4] at h; cases h
      · rw [if_neg c4] at h ⊢
        obtain ⟨g1, g2, g3⟩ := se_t h
        exact ⟨c3, c4, g1, g2, g3⟩
    · rw [if_neg c3] at h; cases h
  · have e : sp tx tl p = se tx tl (nm tx tl (p + 1)).2 := by
      unfold sp
      rw [if_neg c0, if_neg c1, if_neg c2]
    rw [e] at h ⊢
    exact se_t h
theorem sp_ge {tx : Nat → Nat} {tl p : Nat} (h : (sp tx tl p).1 = true) : p + 3 ≤ (sp tx tl p).2 := by
  obtain ⟨h0, h1, h2, h3⟩ := sp_t h
  have g := nm_gt h1
  by_cases c : nB (tx p) = 2
  · obtain ⟨_, k2, _, _, k5⟩ := h2 c
    have g2 := nm_gt k2
    omega
  · obtain ⟨_, _, k⟩ := h3 c
    omega
section S31
variable {I M : SI} {J N : SJ} {tl p q s : Nat} {tx : Nat → Nat}
theorem skXe (hx : XTx I tl tx) (hp : p ≤ 64) {c : Nat} (hc : c < 256) (J : SJ) : F_X6_skip (u2 I 45 2 (nI p)) J (nI c) = if p < tl ∧ tx p = c then some (1, u2 I 45 2 (nI (p + 1)), J) else some (0, u2 I 45 2 (nI p), J) := by
  unfold F_X6_skip
  rw [hereX hx hp, Option.bind_some, (at45 (I := I) (nI p)).2.1, u2u2, nI_1]
  by_cases c1 : p < tl
  · rw [if_pos c1]
    have g := (hx.2.2 p c1).2
    by_cases c2 : tx p = c
    · rw [if_pos (show p < tl ∧ tx p = c from ⟨c1, c2⟩), if_pos (by rw [c2])]
    · rw [if_neg (show ¬ nI (tx p) = nI c from fun z => c2 ((nI_eq (by omega) (by omega)).mp z)), if_neg (show ¬ (p < tl ∧ tx p = c) from fun z => c2 z.2)]
  · have n1 : ¬ (-1 : Int32) = nI c := fun e => by
      have := nI_pos (show c < 2 ^ 31 by omega)
      rw [← e] at this
      exact this (by decide)
    rw [if_neg c1, if_neg n1, if_neg (show ¬ (p < tl ∧ tx p = c) from fun z => c1 z.1)]
theorem skMe (hm : MTx M tl tx) (hp : p ≤ 64) {c : Nat} (hc : c < 256) (N : SJ) : F_X8_isNext (u2 M 0 15 (nI p)) N (nI c) = if p < tl ∧ tx p = c then some (1, u2 M 0 15 (nI (p + 1)), N) else some (0, u2 M 0 15 (nI p), N) := by
  unfold F_X8_isNext
  rw [hereM hm hp, Option.bind_some, (u2z (M := M) (j := 15) (v := nI p)).2.2, u2u2, nI_1]
  by_cases c1 : p < tl
  · rw [if_pos c1]
    have g := (hm.2.2 p c1).2
    by_cases c2 : tx p = c
    · rw [if_pos (show p < tl ∧ tx p = c from ⟨c1, c2⟩), if_pos (by rw [c2])]
    · rw [if_neg (show ¬ nI (tx p) = nI c from fun z => c2 ((nI_eq (by omega) (by omega)).mp z)), if_neg (show ¬ (p < tl ∧ tx p = c) from fun z => c2 z.2)]
  · have n1 : ¬ (-1 : Int32) = nI c := fun e => by
      have := nI_pos (show c < 2 ^ 31 by omega)
      rw [← e] at this
      exact this (by decide)
    rw [if_neg c1, if_neg n1, if_neg (show ¬ (p < tl ∧ tx p = c) from fun z => c1 z.1)]
theorem passE (hx : XTx I tl tx) (hq : q ≤ tl) (J : SJ) : ((F_X6_skip (u2 I 45 2 (nI q)) J (59 : Int32)).bind fun (r15, I15, J15) => (if r15 = 0 then (some ((0 : Int32), I15, J15)) else (some ((1 : Int32), I15, J15)))) = some (b32 (se tx tl q).1, u2 I 45 2 (nI (se tx tl q).2), J) := by
  have h64 := hx.1
  rw [show (59 : Int32) = nI 59 from rfl, skXe hx (by omega) (by omega)]
  unfold se
  by_cases c : q < tl ∧ tx q = 59
  · rw [if_pos c, if_pos c, Option.bind_some]
    rfl
  · rw [if_neg c, if_neg c, Option.bind_some]
    rfl
theorem passX (hx : XTx I tl tx) (hp : p < tl) (J : SJ) : F_X6_passStatement (u2 I 45 2 (nI p)) J = some (b32 (sp tx tl p).1, u2 I 45 2 (nI (sp tx tl p).2), J) := by
  have h64 := hx.1
  have g := (hx.2.2 p hp).2
  have l1 := nm_le (tx := tx) (show p + 1 ≤ tl from hp)
  unfold F_X6_passStatement
  rw [hereX hx (by omega), if_pos hp, Option.bind_some, nbX g, Option.bind_some, (at45 (I := I) (nI p)).2.1, u2u2, nI_1]
  unfold sp
  by_cases c0 : nB (tx p) = 0
  · rw [c0, if_pos (show nI 0 = 0 from rfl), if_pos (show (0 : Nat) = 0 from rfl)]
    rfl
  have n0 : ¬ nI (nB (tx p)) = 0 := fun e => by
    have : nB (tx p) ≤ 2 := by
      unfold nB
      split
      · omega
      · split <;> omega
    exact c0 ((nI_eL (n := 0) rfl (by omega) (by omega)).mp e)
  rw [if_neg n0, if_neg c0]
  have e1 := numX (J := J) hx (show p + 1 ≤ 64 by omega)
  by_cases c2 : nB (tx p) = 2
  · rw [c2, if_pos (show nI 2 = 2 from rfl), e1, Option.bind_some]
    show (if (nm tx tl (p + 1)).1 < 0 then some ((0 : Int32), u2 I 45 2 (nI (nm tx tl (p + 1)).2), J) else ((F_X6_skip (u2 I 45 2 (nI (nm tx tl (p + 1)).2)) J (44 : Int32)).bind fun (r11, I11, J11) => (if r11 = 0 then (some ((0 : Int32), I11, J11)) else ((F_X6_number I11 J11).bind fun (r13, I13, J13) => (if r13 < 0 then (some ((0 : Int32), I13, J13)) else ((F_X6_skip I13 J13 (59 : Int32)).bind fun (r15, I15, J15) => (if r15 = 0 then (some ((0 : Int32), I15, J15)) else (some ((1 : Int32), I15, J15))))))))) = _
    by_cases c1 : (nm tx tl (p + 1)).1 < 0
    · rw [if_pos c1, if_pos c1]
      rfl
    rw [if_neg c1, if_neg c1, if_pos rfl, show (44 : Int32) = nI 44 from rfl, skXe hx (by omega) (by omega)]
    unfold sp2
    by_cases c3 : (nm tx tl (p + 1)).2 < tl ∧ tx (nm tx tl (p + 1)).2 = 44
    · have l2 := nm_le (tx := tx) (show (nm tx tl (p + 1)).2 + 1 ≤ tl from c3.1)
      rw [if_pos c3, if_pos c3, Option.bind_some]
      show (if (1 : Int32) = 0 then _ else ((F_X6_number (u2 I 45 2 (nI ((nm tx tl (p + 1)).2 + 1))) J).bind fun (r13, I13, J13) => (if r13 < 0 then (some ((0 : Int32), I13, J13)) else ((F_X6_skip I13 J13 (59 : Int32)).bind fun (r15, I15, J15) => (if r15 = 0 then (some ((0 : Int32), I15, J15)) else (some ((1 : Int32), I15, J15))))))) = _
      rw [if_neg (show ¬ (1 : Int32) = 0 by decide), numX (J := J) hx (show (nm tx tl (p + 1)).2 + 1 ≤ 64 by omega), Option.bind_some]
      show (if (nm tx tl ((nm tx tl (p + 1)).2 + 1)).1 < 0 then some ((0 : Int32), u2 I 45 2 (nI (nm tx tl ((nm tx tl (p + 1)).2 + 1)).2), J) else ((F_X6_skip (u2 I 45 2 (nI (nm tx tl ((nm tx tl (p + 1)).2 + 1)).2)) J (59 : Int32)).bind fun (r15, I15, J15) => (if r15 = 0 then (some ((0 : Int32), I15, J15)) else (some ((1 : Int32), I15, J15))))) = _
      by_cases c4 : (nm tx tl ((nm tx tl (p + 1)).2 + 1)).1 < 0
      · rw [if_pos c4, if_pos c4]
        rfl
      · rw [if_neg c4, if_neg c4, passE hx l2]
    · rw [if_neg c3, if_neg c3, Option.bind_some]
      rfl
  · have n2 : ¬ nI (nB (tx p)) = 2 := fun e => by
      have : nB (tx p) ≤ 2 := by
        unfold nB
        split
        · omega
        · split <;> omega
      exact c2 ((nI_eL (n := 2) rfl (by omega) (by omega)).mp e)
    rw [if_neg n2, e1, Option.bind_some]
    show (if (nm tx tl (p + 1)).1 < 0 then some ((0 : Int32), u2 I 45 2 (nI (nm tx tl (p + 1)).2), J) else ((F_X6_skip (u2 I 45 2 (nI (nm tx tl (p + 1)).2)) J (59 : Int32)).bind fun (r15, I15, J15) => (if r15 = 0 then (some ((0 : Int32), I15, J15)) else (some ((1 : Int32), I15, J15))))) = _
    by_cases c1 : (nm tx tl (p + 1)).1 < 0
    · rw [if_pos c1, if_pos c1]
      rfl
    · rw [if_neg c1, if_neg c1, if_neg c2, passE hx l1]
/-- the class's second reading of a STATEMENT that passes -/
def sw (tx : Nat → Nat) (tl p : Nat) : Int32 := if nB (tx p) = 2 then (nm tx tl ((nm tx tl (p + 1)).2 + 1)).1 else 0
theorem readX (hx : XTx I tl tx) (hp : p < tl) (h : (sp tx tl p).1 = true) (q1 : Nat) (J : SJ) : F_X6_readStatement q1 (u2 I 45 2 (nI p)) J = ((F_X6_tell q1 (u2 I 45 2 (nI (sp tx tl p).2)) J (nI (tx p)) (nm tx tl (p + 1)).1 (sw tx tl p)).bind fun (r5, I5, J5) => (if r5 = 0 then (some ((0 : Int32), I5, J5)) else (some ((1 : Int32), I5, J5)))) := by
  have h64 := hx.1
  obtain ⟨h0, h1, h2, h3⟩ := sp_t h
  have l1 := nm_le (tx := tx) (show p + 1 ≤ tl from hp)
  unfold F_X6_readStatement sw
  rw [hereX hx (by omega), if_pos hp, Option.bind_some, (at45 (I := I) (nI p)).2.1, u2u2, nI_1, numX (J := J) hx (show p + 1 ≤ 64 by omega), Option.bind_some]
  show ((F_X6_skip (u2 I 45 2 (nI (nm tx tl (p + 1)).2)) J (44 : Int32)).bind fun (r3, I3, J3) => (if r3 = 0 then ((F_X6_tell q1 (u2 I3 45 2 ((I3 45 2) + (1 : Int32))) J3 (nI (tx p)) (nm tx tl (p + 1)).1 (0 : Int32)).bind fun (r5, I5, J5) => (if r5 = 0 then (some ((0 : Int32), I5, J5)) else (some ((1 : Int32), I5, J5)))) else ((F_X6_number I3 J3).bind fun (r7, I7, J7) => ((F_X6_tell q1 (u2 I7 45 2 ((I7 45 2) + (1 : Int32))) J7 (nI (tx p)) (nm tx tl (p + 1)).1 r7).bind fun (r8, I8, J8) => (if r8 = 0 then (some ((0 : Int32), I8, J8)) else (some ((1 : Int32), I8, J8))))))) = _
  rw [show (44 : Int32) = nI 44 from rfl, skXe hx (by omega) (by omega)]
  by_cases c : nB (tx p) = 2
  · obtain ⟨k1, k2, k3, k4, k5⟩ := h2 c
    rw [if_pos k1, Option.bind_some, if_pos c, k5]
    show (if (1 : Int32) = 0 then _ else ((F_X6_number (u2 I 45 2 (nI ((nm tx tl (p + 1)).2 + 1))) J).bind fun (r7, I7, J7) => ((F_X6_tell q1 (u2 I7 45 2 ((I7 45 2) + (1 : Int32))) J7 (nI (tx p)) (nm tx tl (p + 1)).1 r7).bind fun (r8, I8, J8) => (if r8 = 0 then (some ((0 : Int32), I8, J8)) else (some ((1 : Int32), I8, J8)))))) = _
    rw [if_neg (show ¬ (1 : Int32) = 0 by decide), numX (J := J) hx (show (nm tx tl (p + 1)).2 + 1 ≤ 64 by omega), Option.bind_some]
    show ((F_X6_tell q1 (u2 (u2 I 45 2 (nI (nm tx tl ((nm tx tl (p + 1)).2 + 1)).2)) 45 2 ((u2 I 45 2 (nI (nm tx tl ((nm tx tl (p + 1)).2 + 1)).2)) 45 2 + (1 : Int32))) J (nI (tx p)) (nm tx tl (p + 1)).1 (nm tx tl ((nm tx tl (p + 1)).2 + 1)).1).bind fun (r8, I8, J8) => (if r8 = 0 then (some ((0 : Int32), I8, J8)) else (some ((1 : Int32), I8, J8)))) = _
    rw [(at45 (I := I) (nI (nm tx tl ((nm tx tl (p + 1)).2 + 1)).2)).2.1, u2u2, nI_1]
  · obtain ⟨k1, k2, k3⟩ := h3 c
    rw [if_neg (fun z => by rw [k2] at z; exact absurd z.2 (by omega)), Option.bind_some, if_neg c, k3]
    show (if (0 : Int32) = 0 then ((F_X6_tell q1 (u2 (u2 I 45 2 (nI (nm tx tl (p + 1)).2)) 45 2 ((u2 I 45 2 (nI (nm tx tl (p + 1)).2)) 45 2 + (1 : Int32))) J (nI (tx p)) (nm tx tl (p + 1)).1 (0 : Int32)).bind fun (r5, I5, J5) => (if r5 = 0 then (some ((0 : Int32), I5, J5)) else (some ((1 : Int32), I5, J5)))) else _) = _
    rw [if_pos rfl, (at45 (I := I) (nI (nm tx tl (p + 1)).2)).2.1, u2u2, nI_1]
/-- the reference keeps what it has read -/
def SPR (K K' : SI) (s : Nat) : Prop := (∀ z, z ≠ 0 → (z < 9 ∨ 12 < z) → K' z = K z) ∧ (∀ j, j ≠ 15 → K' 0 j = K 0 j) ∧ ∀ z j, z ≠ 0 → j ≠ s → K' z j = K z j
def SV (tx : Nat → Nat) (tl p : Nat) (K' : SI) (s : Nat) : Prop := K' 9 s = nI (tx p) ∧ K' 10 s = nI p ∧ K' 11 s = (nm tx tl (p + 1)).1 ∧ (nB (tx p) = 2 → K' 12 s = (nm tx tl ((nm tx tl (p + 1)).2 + 1)).1)
theorem usw {K : SI} {k : Nat} (hk : k ≠ 0) (f : Nat → Int32) (v : Int32) : u1 (u2 K 0 15 v) k f = u2 (u1 K k f) 0 15 v := by
  funext z
  show u1 (u1 K 0 (upd (K 0) 15 v)) k f z = u1 (u1 K k f) 0 (upd (u1 K k f 0) 15 v) z
  rw [show u1 K k f 0 = K 0 from u1_ne (by omega)]
  by_cases c : z = k
  · rw [c, u1_at, u1_ne hk, u1_at]
  · rw [u1_ne c]
    by_cases c2 : z = 0
    · rw [c2, u1_at, u1_at]
    · rw [u1_ne c2, u1_ne c2, u1_ne c]
theorem MTx.mv {M' : SI} (h : MTx M tl tx) (e : M' 0 14 = M 0 14) (e2 : M' 8 = M 8) : MTx M' tl tx := ⟨h.1, e.trans h.2.1, fun k hk => by rw [e2]; exact h.2.2 k hk⟩
theorem stE (hm : MTx M tl tx) (hq : q ≤ tl) (N : SJ) : ((F_X8_isNext (u2 M 0 15 (nI q)) N (59 : Int32)).bind fun (r11, I11, J11) => (if gbo r11 = true then (some (r11, I11, J11)) else none)) = some (b32 (se tx tl q).1, u2 M 0 15 (nI (se tx tl q).2), N) := by
  have h64 := hm.1
  rw [show (59 : Int32) = nI 59 from rfl, skMe hm (by omega) (by omega)]
  unfold se
  by_cases c : q < tl ∧ tx q = 59
  · rw [if_pos c, if_pos c, Option.bind_some]
    rfl
  · rw [if_neg c, if_neg c, Option.bind_some]
    rfl
theorem sbM {K : SI} (hm : MTx K tl tx) (hp : p < tl) (hs : s < 32) (h16 : K 0 16 = nI s) (hc : ¬ nB (tx p) = 0) (N : SJ) :
    ∃ K' : SI, mSb (u2 K 0 15 (nI p)) N (nI (tx p)) = some (b32 (sp tx tl p).1, u2 K' 0 15 (nI (sp tx tl p).2), N) ∧ SPR K K' s ∧ ((sp tx tl p).1 = true → SV tx tl p K' s) := by
  have h64 := hm.1
  have gt := (hm.2.2 p hp).2
  have l1 := nm_le (tx := tx) (show p + 1 ≤ tl from hp)
  obtain ⟨z1, z2, z3⟩ := u2z (M := K) (j := 15) (v := nI p)
  have e16 : u2 K 0 15 (nI p) 0 16 = nI s := (z2 16 (by omega)).trans h16
  have g : gin (nI s) 32 = true := gin_nI hs (by omega)
  have cl : (nI s).toNatClampNeg = s := nI_clamp (by omega)
  have a10 : ∀ f, u1 (u2 K 0 15 (nI p)) 9 f 10 = K 10 := fun f => (u1_ne (by omega)).trans (z1 10 (by omega))
  have a15 : ∀ f, u1 (u2 K 0 15 (nI p)) 9 f 0 15 = nI p := fun f => (congrFun (u1_ne (by omega)) 15).trans z3
  have b15 : ∀ f f', u1 (u1 (u2 K 0 15 (nI p)) 9 f) 10 f' 0 15 = nI p := fun f f' => (congrFun (u1_ne (by omega)) 15).trans (a15 f)
  have k9 : u2 K 0 15 (nI p) 9 = K 9 := z1 9 (by omega)
  have hA : ∀ v, u2 (u1 (u1 (u2 K 0 15 (nI p)) 9 (upd (K 9) s (nI (tx p)))) 10 (upd (K 10) s (nI p))) 0 15 v = u2 (u1 (u1 K 9 (upd (K 9) s (nI (tx p)))) 10 (upd (K 10) s (nI p))) 0 15 v := fun v => by
    rw [usw (by omega), usw (by omega), u2u2]
  have A0 : u1 (u1 K 9 (upd (K 9) s (nI (tx p)))) 10 (upd (K 10) s (nI p)) 0 = K 0 := (u1_ne (by omega)).trans (u1_ne (by omega))
  have A8 : u1 (u1 K 9 (upd (K 9) s (nI (tx p)))) 10 (upd (K 10) s (nI p)) 8 = K 8 := (u1_ne (by omega)).trans (u1_ne (by omega))
  have A9 : u1 (u1 K 9 (upd (K 9) s (nI (tx p)))) 10 (upd (K 10) s (nI p)) 9 = upd (K 9) s (nI (tx p)) := (u1_ne (by omega)).trans u1_at
  have A10 : u1 (u1 K 9 (upd (K 9) s (nI (tx p)))) 10 (upd (K 10) s (nI p)) 10 = upd (K 10) s (nI p) := u1_at
  have Az : ∀ z, z ≠ 9 → z ≠ 10 → u1 (u1 K 9 (upd (K 9) s (nI (tx p)))) 10 (upd (K 10) s (nI p)) z = K z := fun z a b => (u1_ne b).trans (u1_ne a)
  unfold mSb
  simp only [e16, g, cl, k9, a10, a15, b15, nI_1, hA, ↓reduceIte]
  generalize hAA : u1 (u1 K 9 (upd (K 9) s (nI (tx p)))) 10 (upd (K 10) s (nI p)) = A at *
  have hmA : MTx A tl tx := hm.mv (by rw [A0]) A8
  rw [numM hmA (show p + 1 ≤ 64 by omega), Option.bind_some]
  have s1 : SPR K (u1 A 11 (upd (A 11) s (nm tx tl (p + 1)).1)) s := by
    refine ⟨fun z a b => ?_, fun j _ => ?_, fun z j a b => ?_⟩
    · rw [u1_ne (by omega), Az z (by omega) (by omega)]
    · rw [u1_ne (by omega), A0]
    · by_cases c : z = 11
      · rw [c, u1_at, pk_un b, Az 11 (by omega) (by omega)]
      · rw [u1_ne c]
        by_cases c9 : z = 9
        · rw [c9, A9, pk_un b]
        · by_cases c10 : z = 10
          · rw [c10, A10, pk_un b]
          · rw [Az z c9 c10]
  have v1 : u1 A 11 (upd (A 11) s (nm tx tl (p + 1)).1) 9 s = nI (tx p) ∧ u1 A 11 (upd (A 11) s (nm tx tl (p + 1)).1) 10 s = nI p ∧ u1 A 11 (upd (A 11) s (nm tx tl (p + 1)).1) 11 s = (nm tx tl (p + 1)).1 := by
    refine ⟨?_, ?_, ?_⟩
    · rw [u1_ne (by omega), A9, pk_us]
    · rw [u1_ne (by omega), A10, pk_us]
    · rw [u1_at, pk_us]
  have e11 : u2 A 0 15 (nI (nm tx tl (p + 1)).2) 11 = A 11 := u1_ne (by omega)
  have hm1 : MTx (u1 A 11 (upd (A 11) s (nm tx tl (p + 1)).1)) tl tx := hmA.mv (by rw [u1_ne (by omega)]) (u1_ne (by omega))
  have eB : u1 (u2 A 0 15 (nI (nm tx tl (p + 1)).2)) 11 (upd (A 11) s (nm tx tl (p + 1)).1) = u2 (u1 A 11 (upd (A 11) s (nm tx tl (p + 1)).1)) 0 15 (nI (nm tx tl (p + 1)).2) := usw (by omega) _ _
  have eV : ∀ v, u2 (u1 A 11 (upd (A 11) s (nm tx tl (p + 1)).1)) 0 15 v 11 s = (nm tx tl (p + 1)).1 := fun v => (congrFun (u1_ne (by omega)) s).trans v1.2.2
  simp only [e11, eB, eV]
  generalize hA1 : u1 A 11 (upd (A 11) s (nm tx tl (p + 1)).1) = A1 at *
  unfold sp
  rw [if_neg hc]
  by_cases c1 : (nm tx tl (p + 1)).1 < 0
  · rw [if_pos c1, if_neg (Int32.not_le.mpr c1)]
    exact ⟨A1, rfl, s1, fun h => by cases h⟩
  rw [if_neg c1, if_pos (Int32.not_lt.mp c1), h2M gt, Option.bind_some]
  by_cases c2 : nB (tx p) = 2
  · rw [if_pos c2, if_pos c2, if_neg (show ¬ (1 : Int32) = 0 by decide), show (44 : Int32) = nI 44 from rfl, skMe hm1 (by omega) (by omega)]
    unfold sp2
    by_cases c3 : (nm tx tl (p + 1)).2 < tl ∧ tx (nm tx tl (p + 1)).2 = 44
    · have l2 := nm_le (tx := tx) (show (nm tx tl (p + 1)).2 + 1 ≤ tl from c3.1)
      rw [if_pos c3, if_pos c3, Option.bind_some]
      simp only [numM (N := N) hm1 (show (nm tx tl (p + 1)).2 + 1 ≤ 64 by omega), Option.bind_some, if_neg (show ¬ (1 : Int32) = 0 by decide)]
      have s2 : SPR K (u1 A1 12 (upd (A1 12) s (nm tx tl ((nm tx tl (p + 1)).2 + 1)).1)) s := by
        refine ⟨fun z a b => ?_, fun j b => ?_, fun z j a b => ?_⟩
        · rw [u1_ne (by omega)]; exact s1.1 z a b
        · rw [u1_ne (by omega)]; exact s1.2.1 j b
        · by_cases c : z = 12
          · rw [c, u1_at, pk_un b]; exact s1.2.2 12 j (by omega) b
          · rw [u1_ne c]; exact s1.2.2 z j a b
      have hm2 : MTx (u1 A1 12 (upd (A1 12) s (nm tx tl ((nm tx tl (p + 1)).2 + 1)).1)) tl tx := hm1.mv (by rw [u1_ne (by omega)]) (u1_ne (by omega))
      have e12 : u2 A1 0 15 (nI (nm tx tl ((nm tx tl (p + 1)).2 + 1)).2) 12 = A1 12 := u1_ne (by omega)
      have eC : u1 (u2 A1 0 15 (nI (nm tx tl ((nm tx tl (p + 1)).2 + 1)).2)) 12 (upd (A1 12) s (nm tx tl ((nm tx tl (p + 1)).2 + 1)).1) = u2 (u1 A1 12 (upd (A1 12) s (nm tx tl ((nm tx tl (p + 1)).2 + 1)).1)) 0 15 (nI (nm tx tl ((nm tx tl (p + 1)).2 + 1)).2) := usw (by omega) _ _
      have v2 : u1 A1 12 (upd (A1 12) s (nm tx tl ((nm tx tl (p + 1)).2 + 1)).1) 12 s = (nm tx tl ((nm tx tl (p + 1)).2 + 1)).1 := by rw [u1_at, pk_us]
      have eW : ∀ v, u2 (u1 A1 12 (upd (A1 12) s (nm tx tl ((nm tx tl (p + 1)).2 + 1)).1)) 0 15 v 12 s = (nm tx tl ((nm tx tl (p + 1)).2 + 1)).1 := fun v => (congrFun (u1_ne (by omega)) s).trans v2
      have v3 : SV tx tl p (u1 A1 12 (upd (A1 12) s (nm tx tl ((nm tx tl (p + 1)).2 + 1)).1)) s := ⟨by rw [u1_ne (by omega)]; exact v1.1, by rw [u1_ne (by omega)]; exact v1.2.1, by rw [u1_ne (by omega)]; exact v1.2.2, fun _ => v2⟩
      simp only [e12, eC, eW]
      by_cases c4 : (nm tx tl ((nm tx tl (p + 1)).2 + 1)).1 < 0
      · rw [if_pos c4, if_neg (Int32.not_le.mpr c4)]
        exact ⟨_, rfl, s2, fun h => by cases h⟩
      · rw [if_neg c4, if_pos (Int32.not_lt.mp c4), stE hm2 l2]
        exact ⟨_, rfl, s2, fun _ => v3⟩
    · rw [if_neg c3, if_neg c3, Option.bind_some]
      exact ⟨A1, rfl, s1, fun h => by cases h⟩
  · rw [if_neg c2, if_neg c2, if_pos rfl, stE hm1 l1]
    exact ⟨A1, rfl, s1, fun _ => ⟨v1.1, v1.2.1, v1.2.2, fun z => absurd z c2⟩⟩
theorem stM {K : SI} (hm : MTx K tl tx) (hp : p < tl) (hs : s < 32) (h16 : K 0 16 = nI s) (N : SJ) :
    ∃ K' : SI, F_X8_statement (u2 K 0 15 (nI p)) N = some (b32 (sp tx tl p).1, u2 K' 0 15 (nI (sp tx tl p).2), N) ∧ SPR K K' s ∧ ((sp tx tl p).1 = true → SV tx tl p K' s) := by
  have h64 := hm.1
  have gt := (hm.2.2 p hp).2
  rw [smE, hereM hm (by omega), if_pos hp, Option.bind_some]
  by_cases c3 : tx p = 103
  · rw [if_pos (show nI (tx p) = (103 : Int32) by rw [c3]; rfl)]
    exact sbM hm hp hs h16 (by rw [c3]; decide) N
  rw [if_neg (show ¬ nI (tx p) = (103 : Int32) from fun z => c3 ((nI_eL (n := 103) rfl (by omega) (by omega)).mp z))]
  by_cases c4 : tx p = 111
  · rw [if_pos (show nI (tx p) = (111 : Int32) by rw [c4]; rfl)]
    exact sbM hm hp hs h16 (by rw [c4]; decide) N
  rw [if_neg (show ¬ nI (tx p) = (111 : Int32) from fun z => c4 ((nI_eL (n := 111) rfl (by omega) (by omega)).mp z)), h2M gt, Option.bind_some]
  by_cases c2 : nB (tx p) = 2
  · rw [if_pos c2, if_neg (show ¬ (1 : Int32) = 0 by decide)]
    exact sbM hm hp hs h16 (by rw [c2]; decide) N
  · have c0 : nB (tx p) = 0 := by
      unfold nB at c2 ⊢
      rw [if_neg (by omega)] at c2 ⊢
      by_cases d : tx p = 101 ∨ tx p = 109 ∨ tx p = 112 ∨ tx p = 115 ∨ tx p = 119
      · rw [if_pos d] at c2
        exact absurd rfl c2
      · rw [if_neg d]
    rw [if_neg c2, if_pos rfl]
    unfold sp
    rw [if_pos c0]
    exact ⟨K, rfl, ⟨fun _ _ _ => rfl, fun _ _ => rfl, fun _ _ _ _ => rfl⟩, fun h => by cases h⟩
end S31
