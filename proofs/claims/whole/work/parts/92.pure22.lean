/-- the years of debts: what he has behind them, the first that ruins him, how many seeds do -/
def dv (g : Nat → Int32 → Int32) : Nat → Nat → Int32 → Int32 → Int32
  | 0, _, _, h => h
  | n + 1, i, s, h => dv g n (i + 1) (s * 1103515245 + 12345) (h + g i (s * 1103515245 + 12345))
def rv (g : Nat → Int32 → Int32) (cr : Int32) : Nat → Nat → Int32 → Int32 → Int32
  | 0, _, _, _ => -9
  | n + 1, i, s, h => if -cr ≤ h + g i (s * 1103515245 + 12345) then rv g cr n (i + 1) (s * 1103515245 + 12345) (h + g i (s * 1103515245 + 12345)) else nI i
def rc (f : Nat → Int32) : Nat → Nat → Int32 → Int32
  | 0, _, x => x
  | n + 1, i, x => rc f n (i + 1) (if f i = -9 then x else x + 1)
def gy (a : NN) (wn k A B Q p : Nat) (lf : Int32) (i : Nat) (s : Int32) : Int32 := has a k A B Q 0 (harv a wn 0 0 p (dw (chA a wn) (nW a wn) (dx s) 0)) (if 9 < i then 9 else i) - lf
theorem rv_c {g : Nat → Int32 → Int32} {cr : Int32} : ∀ (d i : Nat) (s h : Int32), i + d ≤ 30 → rv g cr d i s h = -9 ∨ ∃ c, c ≤ 30 ∧ rv g cr d i s h = nI c := by
  intro d
  induction d with
  | zero => intro i s h _; exact Or.inl rfl
  | succ d ih =>
    intro i s h hi
    unfold rv
    by_cases c : -cr ≤ h + g i (s * 1103515245 + 12345)
    · rw [if_pos c]
      exact ih (i + 1) _ _ (by omega)
    · rw [if_neg c]
      exact Or.inr ⟨i, by omega, rfl⟩
def D3 (M M' : SI) : Prop := (∀ z, z ≠ 0 → M' z = M z) ∧ ∀ j, j ≠ 32 → j ≠ 33 → j ≠ 34 → M' 0 j = M 0 j
theorem D3.rf {M : SI} : D3 M M := ⟨fun _ _ => rfl, fun _ _ _ _ => rfl⟩
theorem D3.tr {M M' M2 : SI} (h : D3 M M') (h2 : D3 M' M2) : D3 M M2 := ⟨fun z a => (h2.1 z a).trans (h.1 z a), fun j a b c => (h2.2 j a b c).trans (h.2 j a b c)⟩
theorem D3.sm {M M' : SI} (h : D3 M M') : SM M M' := ⟨fun z a _ => h.1 z a, fun j hj => h.2 j (by omega) (by omega) (by omega)⟩
theorem D3.u {M : SI} {j : Nat} (hj : j = 32 ∨ j = 33 ∨ j = 34) (v : Int32) : D3 M (u2 M 0 j v) := by
  obtain ⟨z1, z2, z3⟩ := u2z (M := M) (j := j) (v := v)
  exact ⟨fun z a => z1 z a, fun i a b c => z2 i (by omega)⟩
def f2 (x y : Int32) : Int32 := if x = -4 then -4 else if y = -4 then -4 else if y < x then y else x
theorem frs (x y : Int32) : F_X7_first x y = some (f2 x y) := by
  unfold F_X7_first f2
  by_cases c : x = -4
  · rw [if_pos c, if_pos c]
  · rw [if_neg c, if_neg c]
    by_cases c2 : y = -4
    · rw [if_pos c2, if_pos c2]
    · rw [if_neg c2, if_neg c2]
theorem f2_l (y : Int32) : f2 (-4) y = -4 := if_pos rfl
theorem f2_r (x : Int32) : f2 x (-4) = -4 := by
  unfold f2
  by_cases c : x = -4
  · rw [if_pos c]
  · rw [if_neg c, if_pos rfl]
theorem rng_c2 {v lo hi : Int32} (h : ¬ v < lo) : rng v lo hi = if hi < v then -6 else 0 := if_neg h
theorem mm32 (M : SI) (x y : Int32) : u2 (u2 M 0 32 x) 0 33 y 0 32 = x := rfl
theorem mm33 (M : SI) (x y : Int32) : u2 (u2 M 0 32 x) 0 33 y 0 33 = y := rfl
theorem mm34 (M : SI) (x y : Int32) : u2 (u2 M 0 32 x) 0 33 y 0 34 = M 0 34 := rfl
section S22
variable {I M : SI} {J N : SJ} {a : NN} {st wn te tl rl k A B Q t p : Nat} {tx : Nat → Nat}
theorem ME.d3 {M' : SI} (h : ME M a st wn) (e : D3 M M') : ME M' a st wn := by
  obtain ⟨h1, h2, h3, h4, h5⟩ := h
  refine ⟨fun k hk => ?_, fun k hk => ?_, fun k hk => ?_, ?_, ?_⟩
  · rw [e.1 2 (by omega)]; exact h1 k hk
  · rw [e.1 4 (by omega), e.1 5 (by omega)]; exact h2 k hk
  · rw [e.1 6 (by omega), e.1 7 (by omega)]; exact h3 k hk
  · rw [e.2 7 (by omega) (by omega) (by omega)]; exact h4
  · rw [e.2 8 (by omega) (by omega) (by omega)]; exact h5
theorem HD.d3 {M' : SI} {d gd : Nat} (h : HD M k A B Q d gd) (e : D3 M M') : HD M' k A B Q d gd := by
  obtain ⟨h1, h2, h3, h4, h5, h6⟩ := h
  refine ⟨?_, ?_, ?_, ?_, ?_, ?_⟩
  · rw [e.2 22 (by omega) (by omega) (by omega)]; exact h1
  · rw [e.2 23 (by omega) (by omega) (by omega)]; exact h2
  · rw [e.2 24 (by omega) (by omega) (by omega)]; exact h3
  · rw [e.2 25 (by omega) (by omega) (by omega)]; exact h4
  · rw [e.2 26 (by omega) (by omega) (by omega)]; exact h5
  · rw [e.2 27 (by omega) (by omega) (by omega)]; exact h6
theorem dwL (hO : OkF a st wn) (s : Int32) : dw (chA a wn) (nW a wn) (dx s) 0 < nW a wn :=
  dw_lt (smch (a := a) (wn := wn) hO.2.2.2.2.2) (nW a wn) 0 (dx s) (by omega) (by show 0 + _ < 100; have := dx_lt s; omega)
theorem y9 (i : Nat) : (if 9 < i then 9 else i) ≤ 9 := by
  by_cases c : 9 < i
  · rw [if_pos c]; omega
  · rw [if_neg c]; omega
theorem xDrawn (hO : OkF a st wn) (hX : XE I 0 a st wn) (hT : OkT k A B Q) (hXT : XT I t k A B Q) (hS : SL0 I a st wn) (hp : p ≤ st) {i : Nat} (hi : i < 1000) (s : Int32) :
    F_X4_drawnBushels t I J (nI p) s (nI i) = some (has a k A B Q 0 (harv a wn 0 0 p (dw (chA a wn) (nW a wn) (dx s) 0)) (if 9 < i then 9 else i)) := by
  have h8 := (nW_le hO).1
  have hst := hO.1
  have hw := dwL hO s
  have e1 : F_X4_harvestOf I J (nI p) (nI (dw (chA a wn) (nW a wn) (dx s) 0)) = some (nI (harv a wn 0 0 p (dw (chA a wn) (nW a wn) (dx s) 0))) := by
    unfold F_X4_harvestOf
    have e2 : nI p * (8 : Int32) + nI (dw (chA a wn) (nW a wn) (dx s) 0) = nI (p * 8 + dw (chA a wn) (nW a wn) (dx s) 0) := by
      show nI p * nI 8 + _ = _
      rw [pk_mul, nI_add]
    rw [e2, pAt (by omega) (by omega), hS.2.2.2.2.2 p _ hp hw]
    rfl
  have ey : (if (9 : Int32) < nI i then (9 : Int32) else nI i) = nI (if 9 < i then 9 else i) := by
    by_cases c : 9 < i
    · rw [if_pos (show (9 : Int32) < nI i from nI_lt (a := 9) c (by omega)), if_pos c]; rfl
    · rw [if_neg (show ¬ (9 : Int32) < nI i from nI_nlt (b := i) (a := 9) (by omega) (by omega)), if_neg c]
  have e2 : F_X1_bushelsOf 0 t I J (nI (harv a wn 0 0 p (dw (chA a wn) (nW a wn) (dx s) 0))) (nI (if 9 < i then 9 else i)) (0 : Int32) = some (has a k A B Q 0 (harv a wn 0 0 p (dw (chA a wn) (nW a wn) (dx s) 0)) (if 9 < i then 9 else i)) := xBush (who := 0) hO hX hT hXT (by omega) (harv_le hO (by omega) (by omega) hp).2 (y9 i)
  unfold F_X4_drawnBushels
  rw [drX hO hS.2.1 hS.2.2.2.1, Option.bind_some, e1, Option.bind_some, ey, e2, Option.bind_some]
theorem rvX_l (hO : OkF a st wn) (hX : XE I 0 a st wn) (hT : OkT k A B Q) (hXT : XT I t k A B Q) (hS : SL0 I a st wn) (hp : p ≤ st) {c : Nat} (hc : c ≤ 30) (lf cr : Int32) :
    ∀ (d n i : Nat) (s h : Int32), i + d = c → d < n → FL_X7_ruinYear_9 n I J t (nI p) lf cr (nI c) h s (nI i) = some (rv (gy a wn k A B Q p lf) cr d i s h) := by
  intro d
  induction d with
  | zero =>
    intro n i s h hi hn
    obtain ⟨n, rfl⟩ := suc hn
    rw [FL_X7_ruinYear_9, if_pos (nI_le (by omega) (by omega))]
    rfl
  | succ d ih =>
    intro n i s h hi hn
    obtain ⟨n, rfl⟩ := suc hn
    rw [FL_X7_ruinYear_9, if_neg (nI_ge (by omega) (by omega)), F_X7_draw, Option.bind_some, xDrawn hO hX hT hXT hS hp (by omega), Option.bind_some, nI_1]
    show (if -cr ≤ h + gy a wn k A B Q p lf i (s * 1103515245 + 12345) then FL_X7_ruinYear_9 n I J t (nI p) lf cr (nI c) (h + gy a wn k A B Q p lf i (s * 1103515245 + 12345)) (s * 1103515245 + 12345) (nI (i + 1)) else some (nI i)) = _
    unfold rv
    by_cases c1 : -cr ≤ h + gy a wn k A B Q p lf i (s * 1103515245 + 12345)
    · rw [if_pos c1, if_pos c1]
      exact ih n (i + 1) _ _ (by omega) (by omega)
    · rw [if_neg c1, if_neg c1]
theorem rvX (hO : OkF a st wn) (hX : XE I 0 a st wn) (hT : OkT k A B Q) (hXT : XT I t k A B Q) (hS : SL0 I a st wn) (hp : p ≤ st) {c : Nat} (hc : c ≤ 30) (lf cr s : Int32) : F_X7_ruinYear t I J (nI p) s lf cr (nI c) = some (rv (gy a wn k A B Q p lf) cr c 0 s 0) :=
  rvX_l hO hX hT hXT hS hp hc lf cr c 3000 0 s 0 (by omega) (by omega)
theorem dvX_l (hO : OkF a st wn) (hX : XE I 0 a st wn) (hT : OkT k A B Q) (hXT : XT I t k A B Q) (hS : SL0 I a st wn) (hp : p ≤ st) {c : Nat} (hc : c ≤ 30) (lf : Int32) :
    ∀ (d n i : Nat) (s h : Int32), i + d = c → d < n → FL_X7_owes_72 n I J (nI p) lf (nI c) t h s (nI i) = some (dv (gy a wn k A B Q p lf) d i s h, I, J) := by
  intro d
  induction d with
  | zero =>
    intro n i s h hi hn
    obtain ⟨n, rfl⟩ := suc hn
    rw [FL_X7_owes_72, if_pos (nI_le (by omega) (by omega))]
    rfl
  | succ d ih =>
    intro n i s h hi hn
    obtain ⟨n, rfl⟩ := suc hn
    rw [FL_X7_owes_72, if_neg (nI_ge (by omega) (by omega)), F_X7_draw, Option.bind_some, xDrawn hO hX hT hXT hS hp (by omega), Option.bind_some, nI_1]
    exact ih n (i + 1) _ _ (by omega) (by omega)
theorem gyM_l (hO : OkF a st wn) (hT : OkT k A B Q) (hp : p ≤ st) {c : Nat} (hc : c ≤ 30) (lf cr : Int32) :
    ∀ (d n i : Nat) (M : SI), i + d = c → d < n → ME M a st wn → HD M k A B Q 0 0 →
    ∃ M' : SI, FL_X8_goesYears_19 n M N (nI p) lf cr (nI c) (nI i) = some (M', N) ∧ D3 M M' ∧ M' 0 33 = dv (gy a wn k A B Q p lf) d i (M 0 32) (M 0 33) ∧ (0 ≤ M 0 34 → M' 0 34 = M 0 34) ∧ (M 0 34 = -9 → M' 0 34 = rv (gy a wn k A B Q p lf) cr d i (M 0 32) (M 0 33)) := by
  have h8 := (nW_le hO).1
  intro d
  induction d with
  | zero =>
    intro n i M hi hn hM hH
    obtain ⟨n, rfl⟩ := suc hn
    rw [FL_X8_goesYears_19, if_pos (nI_le (by omega) (by omega))]
    exact ⟨M, rfl, D3.rf, rfl, fun _ => rfl, fun h => h⟩
  | succ d ih =>
    intro n i M hi hn hM hH
    obtain ⟨n, rfl⟩ := suc hn
    have hdr : ∃ s' : Int32, M 0 32 * 1103515245 + 12345 = s' ∧ F_X8_drawn M N = some (nI (dw (chA a wn) (nW a wn) (dx s') 0), u2 M 0 32 s', N) := ⟨_, rfl, drM hO (fun v => hM.d3 (D3.u (by omega) v))⟩
    obtain ⟨s', hs', hdr⟩ := hdr
    have hw := dwL hO s'
    have d1 : D3 M (u2 M 0 32 s') := D3.u (by omega) _
    have e1 := mReap (N := N) (d := 0) (gd := 0) hO (hM.d3 d1) (hH.d3 d1) (by omega) (by omega) hp (show dw (chA a wn) (nW a wn) (dx s') 0 < 8 by omega)
    have ey : (if nI i ≤ (9 : Int32) then nI i else (9 : Int32)) = nI (if 9 < i then 9 else i) := by
      by_cases c : 9 < i
      · rw [if_neg (show ¬ nI i ≤ (9 : Int32) from nI_ge (a := 9) c (by omega)), if_pos c]; rfl
      · rw [if_pos (show nI i ≤ (9 : Int32) from nI_le (b := 9) (by omega) (by omega)), if_neg c]
    have e2 : F_X8_hasOf (u2 M 0 32 s') N (0 : Int32) (nI (harv a wn 0 0 p (dw (chA a wn) (nW a wn) (dx s') 0))) (nI (if 9 < i then 9 else i)) = some (has a k A B Q 0 (harv a wn 0 0 p (dw (chA a wn) (nW a wn) (dx s') 0)) (if 9 < i then 9 else i)) := mHas (who := 0) hO (hM.d3 d1) (hH.d3 d1) hT (by omega) (harv_le hO (by omega) (by omega) hp).2 (y9 i)
    rw [FL_X8_goesYears_19, if_neg (nI_ge (by omega) (by omega)), hdr, Option.bind_some]
    show ∃ M' : SI, ((F_X8_reaped (u2 M 0 32 s') N (nI p) (nI (dw (chA a wn) (nW a wn) (dx s') 0))).bind _) = _ ∧ _
    rw [e1, Option.bind_some, ey, e2, Option.bind_some, nI_1]
    have d2 : D3 M (u2 (u2 M 0 32 s') 0 33 (M 0 33 + gy a wn k A B Q p lf i s')) := d1.tr (D3.u (by omega) _)
    have m32 : u2 (u2 M 0 32 s') 0 33 (M 0 33 + gy a wn k A B Q p lf i s') 0 32 = s' := mm32 _ _ _
    have m33 : u2 (u2 M 0 32 s') 0 33 (M 0 33 + gy a wn k A B Q p lf i s') 0 33 = M 0 33 + gy a wn k A B Q p lf i s' := mm33 _ _ _
    have m34 : u2 (u2 M 0 32 s') 0 33 (M 0 33 + gy a wn k A B Q p lf i s') 0 34 = M 0 34 := mm34 _ _ _
    show ∃ M' : SI, (if 0 ≤ u2 (u2 M 0 32 s') 0 33 (M 0 33 + gy a wn k A B Q p lf i s') 0 34 then FL_X8_goesYears_19 n (u2 (u2 M 0 32 s') 0 33 (M 0 33 + gy a wn k A B Q p lf i s')) N (nI p) lf cr (nI c) (nI (i + 1)) else (if -cr ≤ u2 (u2 M 0 32 s') 0 33 (M 0 33 + gy a wn k A B Q p lf i s') 0 33 then FL_X8_goesYears_19 n (u2 (u2 M 0 32 s') 0 33 (M 0 33 + gy a wn k A B Q p lf i s')) N (nI p) lf cr (nI c) (nI (i + 1)) else FL_X8_goesYears_19 n (u2 (u2 (u2 M 0 32 s') 0 33 (M 0 33 + gy a wn k A B Q p lf i s')) 0 34 (nI i)) N (nI p) lf cr (nI c) (nI (i + 1)))) = _ ∧ _
    generalize u2 (u2 M 0 32 s') 0 33 (M 0 33 + gy a wn k A B Q p lf i s') = M2 at *
    unfold dv rv
    rw [hs', m33, m34]
    by_cases q : 0 ≤ M 0 34
    · rw [if_pos q]
      obtain ⟨M', a1, a2, a3, a4, a5⟩ := ih n (i + 1) M2 (by omega) (by omega) (hM.d3 d2) (hH.d3 d2)
      rw [m32, m33] at a3
      refine ⟨M', a1, d2.tr a2, a3, fun _ => (a4 (by rw [m34]; exact q)).trans m34, fun z => ?_⟩
      rw [z] at q
      exact absurd q (by decide)
    · rw [if_neg q]
      by_cases c1 : -cr ≤ M 0 33 + gy a wn k A B Q p lf i s'
      · rw [if_pos c1, if_pos c1]
        obtain ⟨M', a1, a2, a3, a4, a5⟩ := ih n (i + 1) M2 (by omega) (by omega) (hM.d3 d2) (hH.d3 d2)
        rw [m32, m33] at a3 a5
        exact ⟨M', a1, d2.tr a2, a3, fun z => absurd z q, fun z => a5 (m34.trans z)⟩
      · rw [if_neg c1, if_neg c1]
        have d3 : D3 M2 (u2 M2 0 34 (nI i)) := D3.u (by omega) _
        have n32 : u2 M2 0 34 (nI i) 0 32 = M2 0 32 := rfl
        have n33 : u2 M2 0 34 (nI i) 0 33 = M2 0 33 := rfl
        have n34 : u2 M2 0 34 (nI i) 0 34 = nI i := rfl
        obtain ⟨M', a1, a2, a3, a4, a5⟩ := ih n (i + 1) (u2 M2 0 34 (nI i)) (by omega) (by omega) (hM.d3 (d2.tr d3)) (hH.d3 (d2.tr d3))
        rw [n32, n33, m32, m33] at a3
        exact ⟨M', a1, (d2.tr d3).tr a2, a3, fun z => absurd z q, fun _ => (a4 (by rw [n34]; exact nI_pos' (by omega))).trans n34⟩
theorem gyM (hO : OkF a st wn) (hM : ME M a st wn) (hH : HD M k A B Q 0 0) (hT : OkT k A B Q) (hp : p ≤ st) {c : Nat} (hc : c ≤ 30) (s lf cr : Int32) (N : SJ) :
    ∃ M' : SI, F_X8_goesYears M N (nI p) s lf cr (nI c) = some (M', N) ∧ D3 M M' ∧ M' 0 33 = dv (gy a wn k A B Q p lf) c 0 s 0 ∧ M' 0 34 = rv (gy a wn k A B Q p lf) cr c 0 s 0 := by
  have d1 : D3 M (u2 (u2 (u2 M 0 32 s) 0 33 (0 : Int32)) 0 34 (-9 : Int32)) := ((D3.u (by omega) _).tr (D3.u (by omega) _)).tr (D3.u (by omega) _)
  have m32 : u2 (u2 (u2 M 0 32 s) 0 33 (0 : Int32)) 0 34 (-9 : Int32) 0 32 = s := rfl
  have m33 : u2 (u2 (u2 M 0 32 s) 0 33 (0 : Int32)) 0 34 (-9 : Int32) 0 33 = 0 := rfl
  have m34 : u2 (u2 (u2 M 0 32 s) 0 33 (0 : Int32)) 0 34 (-9 : Int32) 0 34 = -9 := rfl
  unfold F_X8_goesYears
  generalize u2 (u2 (u2 M 0 32 s) 0 33 (0 : Int32)) 0 34 (-9 : Int32) = M2 at *
  obtain ⟨M', a1, a2, a3, a4, a5⟩ := gyM_l (N := N) hO hT hp hc lf cr c 3000 0 M2 (by omega) (by omega) (hM.d3 d1) (hH.d3 d1)
  rw [show nI 0 = (0 : Int32) from rfl] at a1
  rw [m32, m33] at a3 a5
  exact ⟨M', a1, d1.tr a2, a3, a5 m34⟩
theorem notY (v1 v2 v3 : Int32) : F_X8_notYears v1 v2 v3 = some (f2 (f2 (rng v1 0 99) (rng v3 1 30)) (rng v2 0 999)) := by
  unfold F_X8_notYears
  by_cases c1 : v1 < 0
  · rw [if_pos c1, rng_lo c1, f2_l, f2_l]
  rw [if_neg c1]
  by_cases c2 : v2 < 0
  · rw [if_pos c2, rng_lo c2, f2_r]
  rw [if_neg c2]
  by_cases c3 : v3 < 1
  · rw [if_neg (Int32.not_le.mpr c3), rng_lo c3, f2_r, f2_l]
  rw [if_pos (Int32.not_lt.mp c3), rng_c2 c1, rng_c2 c2, rng_c2 c3]
  by_cases d1 : (99 : Int32) < v1
  · rw [if_pos d1, if_pos d1]
    by_cases d2 : (999 : Int32) < v2
    · rw [if_pos d2]
      by_cases d3 : (30 : Int32) < v3
      · rw [if_pos d3]; decide
      · rw [if_neg d3]; decide
    · rw [if_neg d2]
      by_cases d3 : (30 : Int32) < v3
      · rw [if_pos d3]; decide
      · rw [if_neg d3]; decide
  · rw [if_neg d1, if_neg d1]
    by_cases d2 : (999 : Int32) < v2
    · rw [if_pos d2, if_pos d2]
      by_cases d3 : (30 : Int32) < v3
      · rw [if_pos d3]; decide
      · rw [if_neg d3]; decide
    · rw [if_neg d2, if_neg d2]
      by_cases d3 : (30 : Int32) < v3
      · rw [if_pos d3, if_neg (Int32.not_le.mpr d3)]; decide
      · rw [if_neg d3, if_pos (Int32.not_lt.mp d3)]; decide
theorem f2_0 {x y : Int32} (hx : x = 0 ∨ x = -4 ∨ x = -6) (hy : y = 0 ∨ y = -4 ∨ y = -6) : (f2 x y = 0 ∨ f2 x y = -4 ∨ f2 x y = -6) ∧ (f2 x y = 0 → x = 0 ∧ y = 0) := by
  rcases hx with rfl | rfl | rfl <;> rcases hy with rfl | rfl | rfl <;> decide
theorem rng_3 (v lo hi : Int32) : rng v lo hi = 0 ∨ rng v lo hi = -4 ∨ rng v lo hi = -6 := by
  rcases rng_c v lo hi with ⟨h, _⟩ | ⟨h, _⟩ | ⟨h, _⟩
  · exact Or.inl h
  · exact Or.inr (Or.inl h)
  · exact Or.inr (Or.inr h)
theorem rng_z {v lo hi : Int32} (h : rng v lo hi = 0) : lo ≤ v ∧ v ≤ hi := by
  rcases rng_c v lo hi with ⟨_, h1, h2⟩ | ⟨h1, _⟩ | ⟨h1, _⟩
  · exact ⟨h1, h2⟩
  · rw [h1] at h; exact absurd h (by decide)
  · rw [h1] at h; exact absurd h (by decide)
theorem of_rng1 {v hi : Int32} {n : Nat} (hh : hi.toInt = n) (h : rng v 1 hi = 0) : ∃ c : Nat, c ≤ n ∧ v = nI c := by
  obtain ⟨r1, r2⟩ := rng_z h
  exact nI_of2 hh (fun q => Int32.not_le.mpr (Int32.lt_trans q (show (0 : Int32) < 1 by decide)) r1) r2
theorem dbX (v1 v2 : Int32) : F_X7_refusalOfDebts v1 v2 = some (f2 (rng v1 0 99) (rng v2 1 30)) := by
  unfold F_X7_refusalOfDebts
  rw [rngX, Option.bind_some, rngX, Option.bind_some, frs, Option.bind_some]
theorem neg46 {r : Int32} (h : r = -4 ∨ r = -6) : ¬ r = 0 := by
  rcases h with rfl | rfl <;> decide
theorem st24 : St24 Rl := by
  intro I J M N v1 v2 v3 v4 v5 v6 hR
  obtain ⟨a, st, wn, te, tl, tx, rl, h⟩ := id hR
  have no1 : ∃ (I1 M1 : SI), F_X7_refuse I J (-1) = some (-1, I1, J) ∧ F_X8_no M N (-1) = some (-1, M1, N) ∧ Rl I1 J M1 N := bNo hR (by decide)
  rcases termC (J := J) (N := N) h v1 with ⟨hx, hm⟩ | ⟨i, hi, rfl, hx, hm⟩
  · obtain ⟨I1, M1, h1, h2, h3⟩ := no1
    exact ⟨_, I1, J, M1, N, (by simp only [F_X7_ruin, hx, Option.bind_some, h1] : F_X7_ruin I J v1 v2 v3 v4 v5 v6 = some (-1, I1, J)), by simp only [F_X8_ruin, F_X8_isPains, hm, Option.bind_some, i00, ↓reduceIte, h2], h3⟩
  rcases painsC (J := J) h I rfl v2 with ⟨px, pm⟩ | ⟨p, hp, rfl, px, pm⟩
  · obtain ⟨I1, M1, h1, h2, h3⟩ := no1
    exact ⟨_, I1, J, M1, N, (by simp only [F_X7_ruin, hx, px, Option.bind_some, i00, ↓reduceIte, h1] : F_X7_ruin I J (nI i) v2 v3 v4 v5 v6 = some (-1, I1, J)), by simp only [F_X8_ruin, F_X8_isPains, hm, pm, Option.bind_some, i10, i00, ↓reduceIte, h2], h3⟩
  have ep : F_X8_isPains M N (nI i) (nI p) = some 1 := by simp only [F_X8_isPains, hm, pm, Option.bind_some, i10, ↓reduceIte]
  have ny := notY v4 v5 v6
  have db := dbX v4 v6
  have fr := frs (f2 (rng v4 0 99) (rng v6 1 30)) (rng v5 0 999)
  have b1 := f2_0 (rng_3 v4 0 99) (rng_3 v6 1 30)
  have b2 := f2_0 b1.1 (rng_3 v5 0 999)
  have rx := rngX v5 0 999
  generalize hy : rng v5 0 999 = y at *
  generalize hz : f2 (rng v4 0 99) (rng v6 1 30) = z at *
  rcases b2.1 with r0 | r46
  · rw [r0] at ny fr
    obtain ⟨c, hc, rfl⟩ := of_rng1 (hi := 30) (n := 30) (by decide) (b1.2 (b2.2 r0).1).2
    obtain ⟨I', l1, l2, l3, l4, l5⟩ := layR (d := 0) (gd := 0) h (by omega) (by omega) SX.rf J
    have l1' : F_X4_lay I J (0 : Int32) (0 : Int32) (0 : Int32) = some (I', J) := l1
    obtain ⟨M1, t1, t2, t3⟩ := takeM (N := N) h hi
    have hT := h.1.2.2.2 i hi
    have e1 := rvX (J := J) h.1.1 l3 hT (xtL h l2 hi) l4 hp hc v4 v5 v3
    obtain ⟨M2, g1, g2, g3, g4⟩ := gyM h.1.1 (h.2.2.1.sm t3).1 t2 hT hp hc v3 v4 v5 N
    generalize rv (gy a wn (a 5 i) (a 6 i) (a 7 i) (a 8 i) p v4) v5 c 0 v3 0 = r at e1 g4
    exact ⟨r, I', J, M2, N, by simp only [F_X7_ruin, hx, px, db, rx, fr, Option.bind_some, i10, ↓reduceIte, l1', e1], by simp only [F_X8_ruin, ep, ny, Option.bind_some, i10, ↓reduceIte, t1, g1, g4], hR.same l2 (t3.tr g2.sm)⟩
  · obtain ⟨I1, M1, h1, h2, h3⟩ := bNo hR (v := f2 z y) (by rcases r46 with e | e <;> rw [e] <;> decide)
    have hn := neg46 r46
    generalize f2 z y = r at *
    exact ⟨r, I1, J, M1, N, by simp only [F_X7_ruin, hx, px, db, rx, fr, Option.bind_some, i10, if_neg hn, ↓reduceIte, h1], by simp only [F_X8_ruin, ep, ny, Option.bind_some, i10, if_neg hn, ↓reduceIte, h2], h3⟩
theorem owX0 {I' I2 : SI} {J' J2 : SJ} {v1 v2 v3 v4 v5 : Int32} {t : Nat} {r : Int32} (F : SI → SJ → Int32 → Int32 → Int32 → Nat → Int32 → Int32 → Int32 → Option (Int32 × SI × SJ)) (h1 : F_X1_termAt 0 I J v1 = some (some t)) (h2 : F_X1_hasPains 0 I J v2 = some 1) (h3 : F_X7_refusalOfDebts v4 v5 = some 0) (h4 : F_X4_lay I J 0 0 0 = some (I', J')) (h6 : F I' J' v2 v4 v5 t (0 : Int32) v3 (0 : Int32) = some (r, I2, J2)) :
    ((F_X1_termAt 0 I J v1).bind fun r1 => (match r1 with | none => ((F_X7_refuseAsTold I J (-1 : Int32)).bind fun (r2, I2, J2) => (some (r2, I2, J2))) | some t1 => ((F_X1_hasPains 0 I J v2).bind fun r3 => (if r3 = 0 then ((F_X7_refuseAsTold I J (-1 : Int32)).bind fun (r12, I12, J12) => (some (r12, I12, J12))) else ((F_X7_refusalOfDebts v4 v5).bind fun r5 => (if r5 = 0 then ((F_X4_lay I J (0 : Int32) (0 : Int32) (0 : Int32)).bind fun (I7, J7) => (F I7 J7 v2 v4 v5 t1 (0 : Int32) v3 (0 : Int32))) else ((F_X7_refuseAsTold I J r5).bind fun (r11, I11, J11) => (some (r11, I11, J11))))))))) = some (r, I2, J2) := by
  simp only [h1, h2, h3, h4, h6, Option.bind_some, i10, ↓reduceIte]
theorem owX {I' I2 : SI} {J' J2 : SJ} {v1 v2 v3 v4 v5 : Int32} {t : Nat} {r : Int32} (h1 : F_X1_termAt 0 I J v1 = some (some t)) (h2 : F_X1_hasPains 0 I J v2 = some 1) (h3 : F_X7_refusalOfDebts v4 v5 = some 0) (h4 : F_X4_lay I J 0 0 0 = some (I', J')) (h6 : FL_X7_owes_72 3000 I' J' v2 v4 v5 t (0 : Int32) v3 (0 : Int32) = some (r, I2, J2)) : F_X7_owes I J v1 v2 v3 v4 v5 = some (r, I2, J2) := by
  unfold F_X7_owes
  exact owX0 (FL_X7_owes_72 3000) h1 h2 h3 h4 h6
theorem dvX0 (hO : OkF a st wn) (hX : XE I 0 a st wn) (hT : OkT k A B Q) (hXT : XT I t k A B Q) (hS : SL0 I a st wn) (hp : p ≤ st) {c : Nat} (hc : c ≤ 30) (lf s : Int32) : FL_X7_owes_72 3000 I J (nI p) lf (nI c) t 0 s (nI 0) = some (dv (gy a wn k A B Q p lf) c 0 s 0, I, J) := dvX_l hO hX hT hXT hS hp hc lf c 3000 0 s 0 (by omega) (by omega)
theorem st25 : St25 Rl := by
  intro I J M N v1 v2 v3 v4 v6 hR
  obtain ⟨a, st, wn, te, tl, tx, rl, h⟩ := id hR
  have no1 : ∃ (I1 M1 : SI), F_X7_refuseAsTold I J (-1) = some ((1000000000 : Int32) - (-1), I1, J) ∧ F_X8_lower M N (-1) = some ((1000000000 : Int32) - (-1), M1, N) ∧ Rl I1 J M1 N := bNoT hR (by decide)
  rcases termC (J := J) (N := N) h v1 with ⟨hx, hm⟩ | ⟨i, hi, rfl, hx, hm⟩
  · obtain ⟨I1, M1, h1, h2, h3⟩ := no1
    exact ⟨_, I1, J, M1, N, (by simp only [F_X7_owes, hx, Option.bind_some, h1] : F_X7_owes I J v1 v2 v3 v4 v6 = some ((1000000000 : Int32) - (-1), I1, J)), by simp only [F_X8_owes, F_X8_isPains, hm, Option.bind_some, i00, ↓reduceIte, h2], h3⟩
  rcases painsC (J := J) h I rfl v2 with ⟨px, pm⟩ | ⟨p, hp, rfl, px, pm⟩
  · obtain ⟨I1, M1, h1, h2, h3⟩ := no1
    exact ⟨_, I1, J, M1, N, (by simp only [F_X7_owes, hx, px, Option.bind_some, i00, ↓reduceIte, h1] : F_X7_owes I J (nI i) v2 v3 v4 v6 = some ((1000000000 : Int32) - (-1), I1, J)), by simp only [F_X8_owes, F_X8_isPains, hm, pm, Option.bind_some, i10, i00, ↓reduceIte, h2], h3⟩
  have ep : F_X8_isPains M N (nI i) (nI p) = some 1 := by simp only [F_X8_isPains, hm, pm, Option.bind_some, i10, ↓reduceIte]
  have ny := notY v4 0 v6
  have db := dbX v4 v6
  have b1 := f2_0 (rng_3 v4 0 99) (rng_3 v6 1 30)
  rw [show rng (0 : Int32) 0 999 = 0 from by decide] at ny
  have f20 : ∀ x : Int32, (x = 0 ∨ x = -4 ∨ x = -6) → f2 x 0 = x := fun x hx => by rcases hx with rfl | rfl | rfl <;> decide
  rw [f20 _ b1.1] at ny
  generalize hz : f2 (rng v4 0 99) (rng v6 1 30) = z at *
  rcases b1.1 with r0 | r46
  · rw [r0] at ny db
    obtain ⟨c, hc, rfl⟩ := of_rng1 (hi := 30) (n := 30) (by decide) (b1.2 r0).2
    obtain ⟨I', l1, l2, l3, l4, l5⟩ := layR (d := 0) (gd := 0) h (by omega) (by omega) SX.rf J
    have l1' : F_X4_lay I J (0 : Int32) (0 : Int32) (0 : Int32) = some (I', J) := l1
    obtain ⟨M1, t1, t2, t3⟩ := takeM (N := N) h hi
    have hT := h.1.2.2.2 i hi
    have e1 := dvX0 (J := J) h.1.1 l3 hT (xtL h l2 hi) l4 hp hc v4 v3
    rw [show nI 0 = (0 : Int32) from rfl] at e1
    obtain ⟨M2, g1, g2, g3, g4⟩ := gyM h.1.1 (h.2.2.1.sm t3).1 t2 hT hp hc v3 v4 0 N
    generalize dv (gy a wn (a 5 i) (a 6 i) (a 7 i) (a 8 i) p v4) c 0 v3 0 = r at e1 g3
    exact ⟨r, I', J, M2, N, owX hx px db l1' e1, by simp only [F_X8_owes, ep, ny, Option.bind_some, i10, ↓reduceIte, t1, g1, g3], hR.same l2 (t3.tr g2.sm)⟩
  · obtain ⟨I1, M1, h1, h2, h3⟩ := bNoT hR (v := z) (by rcases r46 with e | e <;> rw [e] <;> decide)
    have hn := neg46 r46
    exact ⟨_, I1, J, M1, N, (by simp only [F_X7_owes, hx, px, db, Option.bind_some, i10, if_neg hn, ↓reduceIte, h1] : F_X7_owes I J (nI i) (nI p) v3 v4 v6 = some ((1000000000 : Int32) - z, I1, J)), by simp only [F_X8_owes, ep, ny, Option.bind_some, i10, if_neg hn, ↓reduceIte, h2], h3⟩
end S22
