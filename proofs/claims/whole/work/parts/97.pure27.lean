/-- the FIELD with HAIL in mind, as the reference lays it: HAIL behind the told WEATHERS -/
def aHl (a : NN) (wn hl : Nat) : NN
  | 3, k => if k = wn then hl else ccX a hl k
  | 4, k => if k = wn then 0 else a 4 k
  | j, k => a j k
theorem aHl_0 (a : NN) (wn hl : Nat) : aHl a wn hl 0 = a 0 := rfl
theorem aHl_1 (a : NN) (wn hl : Nat) : aHl a wn hl 1 = a 1 := rfl
theorem aHl_2 (a : NN) (wn hl : Nat) : aHl a wn hl 2 = a 2 := rfl
theorem aHl_3 (a : NN) (wn hl k : Nat) : aHl a wn hl 3 k = if k = wn then hl else ccX a hl k := rfl
theorem aHl_4 (a : NN) (wn hl k : Nat) : aHl a wn hl 4 k = if k = wn then 0 else a 4 k := rfl
theorem sl_shift (c : Nat → Int64) : ∀ n : Nat, sl c (n + 1) = c 0 + sl (fun k => c (k + 1)) n := by
  intro n
  induction n with
  | zero =>
    show (0 : Int64) + c 0 = c 0 + 0
    rw [Int64.zero_add, Int64.add_zero]
  | succ n ih =>
    show sl c (n + 1) + c (n + 1) = c 0 + (sl (fun k => c (k + 1)) n + c (n + 1))
    rw [ih, Int64.add_assoc]
section S27
variable {I M : SI} {J N : SJ} {a : NN} {st wn te tl rl k A B Q t p i hl who : Nat} {tx : Nat → Nat}
theorem sm_hl : sm (aHl a wn hl 3) (wn + 1) = sm (ccX a hl) wn + hl := by
  show sm (aHl a wn hl 3) wn + aHl a wn hl 3 wn = _
  rw [aHl_3, if_pos rfl, sm_congr (f := aHl a wn hl 3) (f' := ccX a hl) wn (fun k hk => by rw [aHl_3, if_neg (by omega)])]
theorem okHl (hO : OkF a st wn) (hw : wn ≤ 6) (hh : hl ≤ 50) : OkF (aHl a wn hl) st (wn + 1) := by
  have hs := cc_le (a := a) (n := wn) (wn := wn) (hl := hl) (by omega) hO.2.2.2.2.2 (by omega)
  obtain ⟨h1, h2, h3, h4, h5, h6⟩ := hO
  refine ⟨h1, by omega, fun k hk => h3 k hk, fun k hk => h4 k hk, fun k hk => ?_, ?_⟩
  · rw [aHl_3, aHl_4]
    by_cases c : k = wn
    · rw [if_pos c, if_pos c]; omega
    · rw [if_neg c, if_neg c]
      have q := h5 k (by omega)
      have q1 : a 3 k * (100 - hl) ≤ 100 * 100 := Nat.mul_le_mul q.1 (by omega)
      refine ⟨?_, q.2⟩
      unfold ccX
      omega
  · rw [sm_hl]; omega
/-- one WEATHER's share of a WORTH -/
def hT1 (a : NN) (k A B Q who p c t : Nat) : Int64 := (nI c).toInt64 * (mind a who (has a k A B Q who (grow a 0 0 p * t / 100) 0)).toInt64
theorem hT0 (t : Nat) : hT1 a k A B Q who p 0 t = 0 := by
  unfold hT1
  rw [show (nI 0).toInt64 = (0 : Int64) from by decide, Int64.zero_mul]
theorem clsS : wsum (nwX a wn hl) (chX a wn hl) (fun w => mind a who (has a k A B Q who (hvX a wn 0 0 hl p w) 0)) = sl (fun i => hT1 a k A B Q who p (ccX a hl i) (a 4 i)) wn + hT1 a k A B Q who p hl 0 + hT1 a k A B Q who p (lfX a wn hl) 100 := by
  have hc : ∀ w c t, chX a wn hl w = c → tiX a wn hl w = t → (nI (chX a wn hl w)).toInt64 * (mind a who (has a k A B Q who (hvX a wn 0 0 hl p w) 0)).toInt64 = hT1 a k A B Q who p c t := fun w c t h1 h2 => by
    unfold hT1 hvX
    rw [h1, h2]
  unfold wsum
  generalize hf : (fun w => (nI (chX a wn hl w)).toInt64 * (mind a who (has a k A B Q who (hvX a wn 0 0 hl p w) 0)).toInt64) = c
  have hcc : ∀ w x t, chX a wn hl w = x → tiX a wn hl w = t → c w = hT1 a k A B Q who p x t := fun w x t h1 h2 => by
    rw [← hf]
    exact hc w x t h1 h2
  by_cases c0 : hl = 0
  · subst c0
    have o0 : oX 0 = 0 := rfl
    have e1 : sl c wn = sl (fun i => hT1 a k A B Q who p (ccX a 0 i) (a 4 i)) wn := sl_congr wn (fun w hw => hcc w _ _ (by unfold chX; rw [o0, if_neg (by omega), if_pos (by omega)]; rfl) (by unfold tiX; rw [o0, if_neg (by omega), if_pos (by omega)]; rfl))
    rw [hT0, Int64.add_zero]
    unfold nwX
    rw [o0, Nat.zero_add]
    by_cases c1 : lfX a wn 0 = 0
    · rw [if_pos c1, c1, hT0, Int64.add_zero]
      exact e1
    · rw [if_neg c1]
      show sl c wn + c wn = _
      rw [e1, hcc wn (lfX a wn 0) 100 (by unfold chX; rw [o0, if_neg (by omega), if_neg (by omega)]) (by unfold tiX; rw [o0, if_neg (by omega), if_neg (by omega)])]
  · have o1 : oX hl = 1 := if_neg c0
    have e1 : sl (fun j => c (j + 1)) wn = sl (fun i => hT1 a k A B Q who p (ccX a hl i) (a 4 i)) wn := sl_congr wn (fun w hw => hcc (w + 1) _ _ (by unfold chX; rw [o1, if_neg (by omega), if_pos (by omega)]; rfl) (by unfold tiX; rw [o1, if_neg (by omega), if_pos (by omega)]; rfl))
    have e2 : sl c (wn + 1) = sl (fun i => hT1 a k A B Q who p (ccX a hl i) (a 4 i)) wn + hT1 a k A B Q who p hl 0 := by
      rw [sl_shift, e1, hcc 0 hl 0 (by unfold chX; rw [o1, if_pos (by omega)]) (by unfold tiX; rw [o1, if_pos (by omega)]), Int64.add_comm]
    unfold nwX
    rw [o1, Nat.add_comm 1 wn]
    by_cases c1 : lfX a wn hl = 0
    · rw [if_pos c1, c1, hT0, Int64.add_zero]
      exact e2
    · rw [if_neg c1]
      show sl c (wn + 1) + c (wn + 1) = _
      rw [e2, hcc (wn + 1) (lfX a wn hl) 100 (by unfold chX; rw [o1, if_neg (by omega), if_neg (by omega)]) (by unfold tiX; rw [o1, if_neg (by omega), if_neg (by omega)])]
theorem modS (hO : OkF a st wn) (hh : hl ≤ 50) : wsum (nW (aHl a wn hl) (wn + 1)) (chA (aHl a wn hl) (wn + 1)) (fun w => mind (aHl a wn hl) who (has (aHl a wn hl) k A B Q who (harv (aHl a wn hl) (wn + 1) 0 0 p w) 0)) = sl (fun i => hT1 a k A B Q who p (ccX a hl i) (a 4 i)) wn + hT1 a k A B Q who p hl 0 + hT1 a k A B Q who p (lfX a wn hl) 100 := by
  have hs := cc_le (a := a) (n := wn) (wn := wn) (hl := hl) (by omega) hO.2.2.2.2.2 (by omega)
  have hg : grow (aHl a wn hl) 0 0 p = grow a 0 0 p := rfl
  have hm : ∀ x, mind (aHl a wn hl) who x = mind a who x := fun _ => rfl
  have hh' : ∀ x, has (aHl a wn hl) k A B Q who x 0 = has a k A B Q who x 0 := fun _ => rfl
  have hc : ∀ w c t, chA (aHl a wn hl) (wn + 1) w = c → tiA (aHl a wn hl) (wn + 1) w = t → (nI (chA (aHl a wn hl) (wn + 1) w)).toInt64 * (mind (aHl a wn hl) who (has (aHl a wn hl) k A B Q who (harv (aHl a wn hl) (wn + 1) 0 0 p w) 0)).toInt64 = hT1 a k A B Q who p c t := fun w c t h1 h2 => by
    unfold hT1 harv
    rw [h1, h2, hg, hm, hh']
  unfold wsum
  generalize hf : (fun w => (nI (chA (aHl a wn hl) (wn + 1) w)).toInt64 * (mind (aHl a wn hl) who (has (aHl a wn hl) k A B Q who (harv (aHl a wn hl) (wn + 1) 0 0 p w) 0)).toInt64) = c
  have hcc : ∀ w x t, chA (aHl a wn hl) (wn + 1) w = x → tiA (aHl a wn hl) (wn + 1) w = t → c w = hT1 a k A B Q who p x t := fun w x t h1 h2 => by
    rw [← hf]
    exact hc w x t h1 h2
  have e1 : sl c wn = sl (fun i => hT1 a k A B Q who p (ccX a hl i) (a 4 i)) wn := sl_congr wn (fun w hw => hcc w _ _ (by unfold chA; rw [if_pos (by omega), aHl_3, if_neg (by omega)]) (by unfold tiA; rw [if_pos (by omega), aHl_4, if_neg (by omega)]))
  have e2 : sl c (wn + 1) = sl (fun i => hT1 a k A B Q who p (ccX a hl i) (a 4 i)) wn + hT1 a k A B Q who p hl 0 := by
    show sl c wn + c wn = _
    rw [e1, hcc wn hl 0 (by unfold chA; rw [if_pos (by omega), aHl_3, if_pos rfl]) (by unfold tiA; rw [if_pos (by omega), aHl_4, if_pos rfl])]
  unfold nW
  rw [sm_hl]
  by_cases c1 : sm (ccX a hl) wn + hl < 100
  · rw [if_pos c1]
    show sl c (wn + 1) + c (wn + 1) = _
    rw [e2, hcc (wn + 1) (lfX a wn hl) 100 (by unfold chA lfX; rw [if_neg (by omega), sm_hl]; omega) (by unfold tiA; rw [if_neg (by omega)])]
  · rw [if_neg c1, show lfX a wn hl = 0 from by unfold lfX; omega, hT0, Int64.add_zero]
    exact e2
theorem bw_eq (hO : OkF a st wn) (hh : hl ≤ 50) : worthG a (nwX a wn hl) (chX a wn hl) (hvX a wn 0 0 hl p) (sm (a 1) p) k A B Q who 0 = worth (aHl a wn hl) (wn + 1) 0 0 k A B Q who p 0 := by
  unfold worth worthG
  have e0 := clsS (a := a) (wn := wn) (hl := hl) (who := 0) (k := k) (A := A) (B := B) (Q := Q) (p := p)
  have e1 := modS (who := 0) (k := k) (A := A) (B := B) (Q := Q) (p := p) hO hh
  have e2 := clsS (a := a) (wn := wn) (hl := hl) (who := who) (k := k) (A := A) (B := B) (Q := Q) (p := p)
  have e3 := modS (who := who) (k := k) (A := A) (B := B) (Q := Q) (p := p) hO hh
  by_cases c : who = 0
  · rw [if_pos c, if_pos c, e0, e1, aHl_1]
  · rw [if_neg c, if_neg c, e2, e3]
/-- the owner's WORTH at his BEST PAINS -/
def ow (a : NN) (st wn k A B Q : Nat) : Int64 := worth a wn 0 0 k A B Q 1 (bp (fun p => worth a wn 0 0 k A B Q 0 p 0) st).1 0
theorem mOwn1 (hO : OkF a st wn) (hM : ME M a st wn) (hH : HD M k A B Q 0 0) (hT : OkT k A B Q) : ∃ r : Int32, F_X8_bestPains M N (0 : Int32) = some r ∧ F_X8_worthOf M N (1 : Int32) r (0 : Int32) = some (ow a st wn k A B Q) := by
  have e1 : F_X8_bestPains M N (0 : Int32) = some (nI (bp (fun p => worth a wn 0 0 k A B Q 0 p 0) st).1) := mBest (y := 0) hO hM hH hT (by omega) (by omega) (by omega)
  have e2 : F_X8_worthOf M N (1 : Int32) (nI (bp (fun p => worth a wn 0 0 k A B Q 0 p 0) st).1) (0 : Int32) = some (ow a st wn k A B Q) := mWorth (who := 1) (y := 0) hO hM hH hT (by omega) (by omega) (bp_le _ _) (by omega) (by omega)
  exact ⟨_, e1, e2⟩
theorem brA_l (hO : OkF a st wn) (hw : wn ≤ 6) (hh : hl ≤ 50) (r : Int64) : ∀ (j m i : Nat) (M : SI), i + j = wn → j < m → M 0 8 = nI wn → (∀ k, k < i → M 6 k = nI (ccX a hl k) ∧ M 19 k = nI (a 3 k)) → (∀ k, i ≤ k → k < wn → M 6 k = nI (a 3 k)) →
    ∃ (M2 : SI) (m' : Nat), FL_X8_bears_53 m M N (nI hl) r (nI i) = FL_X8_bears_53 (m' + 1) M2 N (nI hl) r (nI wn) ∧ (∀ k, k < wn → M2 6 k = nI (ccX a hl k) ∧ M2 19 k = nI (a 3 k)) ∧ ∀ z, z ≠ 6 → z ≠ 19 → M2 z = M z := by
  intro j
  induction j with
  | zero =>
    intro m i M hi hm h8 h1 h2
    obtain ⟨m, rfl⟩ := suc hm
    have e : i = wn := by omega
    subst e
    exact ⟨M, m, rfl, h1, fun _ _ _ => rfl⟩
  | succ j ih =>
    intro m i M hi hm h8 h1 h2
    obtain ⟨m, rfl⟩ := suc hm
    have q1 := (hO.2.2.2.2.1 i (by omega)).1
    have m1 : a 3 i * (100 - hl) ≤ 100 * 100 := Nat.mul_le_mul q1 (by omega)
    have e6 : u1 M 19 (upd (M 19) i (M 6 i)) 6 = M 6 := u1_ne (by omega)
    have e1 : (nI (a 3 i) * ((100 : Int32) - nI hl)) / (100 : Int32) = nI (ccX a hl i) := by
      show (nI (a 3 i) * (nI 100 - nI hl)) / nI 100 = _
      rw [pk_sub (by omega), pk_mul, pk_div (by omega) (by omega) (by omega)]
      rfl
    have eq : FL_X8_bears_53 (m + 1) M N (nI hl) r (nI i) = FL_X8_bears_53 m (u1 (u1 M 19 (upd (M 19) i (M 6 i))) 6 (upd (M 6) i (nI (ccX a hl i)))) N (nI hl) r (nI (i + 1)) := by
      rw [FL_X8_bears_53, h8, if_neg (nI_ge (by omega) (by omega)), if_pos (gin_nI (by omega) (by omega)), if_pos (gin_nI (by omega) (by omega)), if_pos (gin_nI (by omega) (by omega)), if_pos (gin_nI (by omega) (by omega)), nI_clamp (by omega), e6, h2 i (by omega) (by omega), e1, nI_1]
    have f : ∀ z, z ≠ 6 → z ≠ 19 → u1 (u1 M 19 (upd (M 19) i (M 6 i))) 6 (upd (M 6) i (nI (ccX a hl i))) z = M z := fun z a b => (u1_ne a).trans (u1_ne b)
    have f6 : u1 (u1 M 19 (upd (M 19) i (M 6 i))) 6 (upd (M 6) i (nI (ccX a hl i))) 6 = upd (M 6) i (nI (ccX a hl i)) := u1_at
    have f19 : u1 (u1 M 19 (upd (M 19) i (M 6 i))) 6 (upd (M 6) i (nI (ccX a hl i))) 19 = upd (M 19) i (M 6 i) := (u1_ne (by omega)).trans u1_at
    rw [eq]
    generalize u1 (u1 M 19 (upd (M 19) i (M 6 i))) 6 (upd (M 6) i (nI (ccX a hl i))) = M1 at *
    obtain ⟨M2, m', a1, a2, a3⟩ := ih m (i + 1) M1 (by omega) (by omega) (by rw [f 0 (by omega) (by omega)]; exact h8) (fun k hk => by
      rw [f6, f19]
      by_cases c : k = i
      · rw [c, pk_us, pk_us]
        exact ⟨rfl, h2 i (by omega) (by omega)⟩
      · rw [pk_un c, pk_un c]
        exact h1 k (by omega)) (fun k hk hk2 => by
      rw [f6, pk_un (by omega)]
      exact h2 k (by omega) hk2)
    exact ⟨M2, m', a1, a2, fun z z1 z2 => (a3 z z1 z2).trans (f z z1 z2)⟩
theorem brB_l (hw : wn ≤ 6) (r s : Int64) : ∀ (j m i : Nat) (M : SI), i + j = wn → j < m → M 0 8 = nI wn → (∀ k, k < wn → M 19 k = nI (a 3 k)) → (∀ k, k < i → M 6 k = nI (a 3 k)) →
    ∃ M' : SI, FL_X8_bears_160 m M N r s (nI i) = some (r - s, M', N) ∧ (∀ k, k < wn → M' 6 k = nI (a 3 k)) ∧ ∀ z, z ≠ 6 → M' z = M z := by
  intro j
  induction j with
  | zero =>
    intro m i M hi hm h8 h1 h2
    obtain ⟨m, rfl⟩ := suc hm
    rw [FL_X8_bears_160, h8, if_pos (nI_le (by omega) (by omega))]
    exact ⟨M, rfl, fun k hk => h2 k (by omega), fun _ _ => rfl⟩
  | succ j ih =>
    intro m i M hi hm h8 h1 h2
    obtain ⟨m, rfl⟩ := suc hm
    rw [FL_X8_bears_160, h8, if_neg (nI_ge (by omega) (by omega)), if_pos (gin_nI (by omega) (by omega)), if_pos (gin_nI (by omega) (by omega)), nI_clamp (by omega), nI_1]
    have f : ∀ z, z ≠ 6 → u1 M 6 (upd (M 6) i (M 19 i)) z = M z := fun z a => u1_ne a
    obtain ⟨M', a1, a2, a3⟩ := ih m (i + 1) (u1 M 6 (upd (M 6) i (M 19 i))) (by omega) (by omega) (by rw [f 0 (by omega)]; exact h8) (fun k hk => by rw [f 19 (by omega)]; exact h1 k hk) (fun k hk => by
      rw [u1_at]
      by_cases c : k = i
      · rw [c, pk_us]
        exact h1 i (by omega)
      · rw [pk_un c]
        exact h2 k (by omega))
    exact ⟨M', a1, a2, fun z hz => (a3 z hz).trans (f z hz)⟩
theorem HD.at0 {M' : SI} {d gd : Nat} (h : HD M k A B Q d gd) (e : ∀ j, j ≠ 8 → M' 0 j = M 0 j) : HD M' k A B Q d gd := by
  obtain ⟨h1, h2, h3, h4, h5, h6⟩ := h
  exact ⟨(e 22 (by omega)).trans h1, (e 23 (by omega)).trans h2, (e 24 (by omega)).trans h3, (e 25 (by omega)).trans h4, (e 26 (by omega)).trans h5, (e 27 (by omega)).trans h6⟩
theorem brM (hO : OkF a st wn) (hw : wn ≤ 6) (hh : hl ≤ 50) (hM : ME M a st wn) (hH : HD M k A B Q 0 0) (hT : OkT k A B Q) (r : Int64) (N : SJ) :
    ∃ M' : SI, FL_X8_bears_53 3000 M N (nI hl) r (0 : Int32) = some (r - ow (aHl a wn hl) st (wn + 1) k A B Q, M', N) ∧ ME M' a st wn ∧ (∀ z, z ≠ 0 → z ≠ 6 → z ≠ 7 → z ≠ 19 → M' z = M z) ∧ ∀ j, j ≠ 8 → M' 0 j = M 0 j := by
  obtain ⟨g1, g2, g3, g4, g5⟩ := hM
  obtain ⟨M2, m', a1, a2, a3⟩ := brA_l (N := N) hO hw hh r wn 3000 0 M (by omega) (by omega) g5 (fun k hk => absurd hk (by omega)) (fun k _ hk => (g3 k hk).1)
  rw [show nI 0 = (0 : Int32) from rfl] at a1
  rw [a1]
  have h8 : M2 0 8 = nI wn := (congrFun (a3 0 (by omega) (by omega)) 8).trans g5
  have e8a : u1 M2 6 (upd (M2 6) wn (nI hl)) 0 8 = nI wn := (congrFun (u1_ne (by omega)) 8).trans h8
  have e7 : u1 M2 6 (upd (M2 6) wn (nI hl)) 7 = M2 7 := u1_ne (by omega)
  have e8b : u1 (u1 M2 6 (upd (M2 6) wn (nI hl))) 7 (upd (M2 7) wn (0 : Int32)) 0 8 = nI wn := (congrFun (u1_ne (by omega)) 8).trans e8a
  have eq : FL_X8_bears_53 (m' + 1) M2 N (nI hl) r (nI wn) = ((F_X8_bestPains (u2 (u1 (u1 M2 6 (upd (M2 6) wn (nI hl))) 7 (upd (M2 7) wn (0 : Int32))) 0 8 (nI (wn + 1))) N (0 : Int32)).bind fun r11 => ((F_X8_worthOf (u2 (u1 (u1 M2 6 (upd (M2 6) wn (nI hl))) 7 (upd (M2 7) wn (0 : Int32))) 0 8 (nI (wn + 1))) N (1 : Int32) r11 (0 : Int32)).bind fun r12 => (FL_X8_bears_160 3000 (u2 (u2 (u1 (u1 M2 6 (upd (M2 6) wn (nI hl))) 7 (upd (M2 7) wn (0 : Int32))) 0 8 (nI (wn + 1))) 0 8 ((u2 (u1 (u1 M2 6 (upd (M2 6) wn (nI hl))) 7 (upd (M2 7) wn (0 : Int32))) 0 8 (nI (wn + 1))) 0 8 - (1 : Int32))) N r r12 (0 : Int32)))) := by
    rw [FL_X8_bears_53, h8, if_pos (nI_le (by omega) (by omega)), if_pos (gin_nI (by omega) (by omega)), nI_clamp (by omega), e8a, e7, if_pos (gin_nI (by omega) (by omega)), nI_clamp (by omega), e8b, nI_1]
  rw [eq]
  obtain ⟨z1, z2, z3⟩ := u2z (M := u1 (u1 M2 6 (upd (M2 6) wn (nI hl))) 7 (upd (M2 7) wn (0 : Int32))) (j := 8) (v := nI (wn + 1))
  have y0 : ∀ z, z ≠ 6 → z ≠ 7 → u1 (u1 M2 6 (upd (M2 6) wn (nI hl))) 7 (upd (M2 7) wn (0 : Int32)) z = M2 z := fun z b c => (u1_ne c).trans (u1_ne b)
  have y6 : u1 (u1 M2 6 (upd (M2 6) wn (nI hl))) 7 (upd (M2 7) wn (0 : Int32)) 6 = upd (M2 6) wn (nI hl) := (u1_ne (by omega)).trans u1_at
  have y7 : u1 (u1 M2 6 (upd (M2 6) wn (nI hl))) 7 (upd (M2 7) wn (0 : Int32)) 7 = upd (M2 7) wn (0 : Int32) := u1_at
  have k0 : ∀ z, z ≠ 0 → z ≠ 6 → z ≠ 7 → z ≠ 19 → u2 (u1 (u1 M2 6 (upd (M2 6) wn (nI hl))) 7 (upd (M2 7) wn (0 : Int32))) 0 8 (nI (wn + 1)) z = M z := fun z b c d e => (z1 z b).trans ((y0 z c d).trans (a3 z c e))
  have k1 : ∀ j, j ≠ 8 → u2 (u1 (u1 M2 6 (upd (M2 6) wn (nI hl))) 7 (upd (M2 7) wn (0 : Int32))) 0 8 (nI (wn + 1)) 0 j = M 0 j := fun j hj => (z2 j hj).trans (congrFun ((y0 0 (by omega) (by omega)).trans (a3 0 (by omega) (by omega))) j)
  have k6 : u2 (u1 (u1 M2 6 (upd (M2 6) wn (nI hl))) 7 (upd (M2 7) wn (0 : Int32))) 0 8 (nI (wn + 1)) 6 = upd (M2 6) wn (nI hl) := (z1 6 (by omega)).trans y6
  have k7 : u2 (u1 (u1 M2 6 (upd (M2 6) wn (nI hl))) 7 (upd (M2 7) wn (0 : Int32))) 0 8 (nI (wn + 1)) 7 = upd (M 7) wn (0 : Int32) := (z1 7 (by omega)).trans (y7.trans (by rw [a3 7 (by omega) (by omega)]))
  have k19 : u2 (u1 (u1 M2 6 (upd (M2 6) wn (nI hl))) 7 (upd (M2 7) wn (0 : Int32))) 0 8 (nI (wn + 1)) 19 = M2 19 := (z1 19 (by omega)).trans (y0 19 (by omega) (by omega))
  generalize u2 (u1 (u1 M2 6 (upd (M2 6) wn (nI hl))) 7 (upd (M2 7) wn (0 : Int32))) 0 8 (nI (wn + 1)) = K at *
  have hK : ME K (aHl a wn hl) st (wn + 1) := by
    refine ⟨fun k hk => ?_, fun k hk => ?_, fun k hk => ?_, ?_, z3⟩
    · rw [k0 2 (by omega) (by omega) (by omega) (by omega)]; exact g1 k hk
    · rw [k0 4 (by omega) (by omega) (by omega) (by omega), k0 5 (by omega) (by omega) (by omega) (by omega)]; exact g2 k hk
    · rw [k6, k7, aHl_3, aHl_4]
      by_cases c : k = wn
      · rw [c, pk_us, pk_us, if_pos rfl, if_pos rfl]
        exact ⟨rfl, rfl⟩
      · rw [pk_un c, pk_un c, if_neg c, if_neg c]
        exact ⟨(a2 k (by omega)).1, (g3 k (by omega)).2⟩
    · rw [k1 7 (by omega)]; exact g4
  obtain ⟨r11, b1, b2⟩ := mOwn1 (N := N) (okHl hO hw hh) hK (hH.at0 k1) hT
  obtain ⟨x1, x2, x3⟩ := u2z (M := K) (j := 8) (v := K 0 8 - (1 : Int32))
  rw [b1, Option.bind_some, b2, Option.bind_some]
  obtain ⟨M', c1, c2, c3⟩ := brB_l (N := N) (a := a) hw r (ow (aHl a wn hl) st (wn + 1) k A B Q) wn 3000 0 (u2 K 0 8 (K 0 8 - (1 : Int32))) (by omega) (by omega) (x3.trans (by rw [z3, prdI])) (fun k hk => by rw [x1 19 (by omega), k19]; exact (a2 k hk).2) (fun k hk => absurd hk (by omega))
  rw [show nI 0 = (0 : Int32) from rfl] at c1
  refine ⟨M', c1, ⟨fun k hk => ?_, fun k hk => ?_, fun k hk => ⟨c2 k hk, ?_⟩, ?_, ?_⟩, fun z b c d e => (c3 z c).trans ((x1 z b).trans (k0 z b c d e)), fun j hj => (congrFun (c3 0 (by omega)) j).trans ((x2 j hj).trans (k1 j hj))⟩
  · rw [c3 2 (by omega), x1 2 (by omega), k0 2 (by omega) (by omega) (by omega) (by omega)]; exact g1 k hk
  · rw [c3 4 (by omega), c3 5 (by omega), x1 4 (by omega), x1 5 (by omega), k0 4 (by omega) (by omega) (by omega) (by omega), k0 5 (by omega) (by omega) (by omega) (by omega)]; exact g2 k hk
  · rw [c3 7 (by omega), x1 7 (by omega), k7, pk_un (by omega)]; exact (g3 k hk).2
  · rw [c3 0 (by omega), x2 7 (by omega), k1 7 (by omega)]; exact g4
  · rw [c3 0 (by omega), x3, z3, prdI]
theorem st23 : St23 Rl := by
  intro I J M N v1 v2 hR
  obtain ⟨a, st, wn, te, tl, tx, rl, h⟩ := id hR
  rcases termC (J := J) (N := N) h v1 with ⟨hx, hm⟩ | ⟨i, hi, rfl, hx, hm⟩
  · obtain ⟨I1, M1, h1, h2, h3⟩ := bNoL hR (v := -1) (by decide)
    exact ⟨_, I1, J, M1, N, (by simp only [F_X7_bears, hx, Option.bind_some, h1] : F_X7_bears I J v1 v2 = some ((4000000000000000000 : Int64) - Int32.toInt64 (-1), I1, J)), by simp only [F_X8_bears, hm, Option.bind_some, i00, ↓reduceIte, h2], h3⟩
  rcases rng_c v2 0 50 with ⟨r0, r1, r2⟩ | ⟨r4, _⟩ | ⟨r6, _, _⟩
  · obtain ⟨hl, hh, rfl⟩ := of_rng (hi := 50) (n := 50) (by decide) r1 r2
    have hT := h.1.2.2.2 i hi
    have ht8 := h.1.2.2.1
    have hw := h.1.2.1
    obtain ⟨I1, l1, l2, l3, l4, l5⟩ := layR (d := 0) (gd := 0) h (by omega) (by omega) SX.rf J
    have l1' : F_X4_lay I J (0 : Int32) (0 : Int32) (0 : Int32) = some (I1, J) := l1
    obtain ⟨I2, J2, b1, b2⟩ := xOwner (J := J) h.1.1 (by omega) l3 hT (xtL h l2 hi) l4 (nW_le h.1.1).1 (hv_ok h.1.1 (by omega) (by omega)) (by omega)
    have b1' : F_X7_ownerWorth (7 + i) I1 J = some (ow a st wn (a 5 i) (a 6 i) (a 7 i) (a 8 i), I2, J2) := b1
    have s2 : SX I I2 := l2.tr b2.sx
    obtain ⟨I3, c1, c2, c3, c4⟩ := xLay (I := I2) (J := J2) (hl := hl) h.1.1 hw (d := 0) (gd := 0) (by omega) (by omega) hh (l3.fr (fun z hz => b2.1 z (by omega))) (s2.2.trans h.2.2.2.2.2.2.2.2)
    have c1' : F_X4_lay I2 J2 (0 : Int32) (0 : Int32) (nI hl) = some (I3, J2) := c1
    have s3 : SX I I3 := s2.tr c2.sx
    have x3 : XE I3 0 a st wn := h.2.1.1.fr (fun z hz => s3.1 z (by omega))
    obtain ⟨I4, J4, d1, d2⟩ := xOwner (J := J2) h.1.1 (by omega) x3 hT (xtL h s3 hi) c3 (nwX_le hw) (fun p w hp _ => (hvX_le h.1.1 (by omega) (by omega) hp hl w).2) (by omega)
    have hfun : (fun p => worthG a (nwX a wn hl) (chX a wn hl) (hvX a wn 0 0 hl p) (sm (a 1) p) (a 5 i) (a 6 i) (a 7 i) (a 8 i) 0 0) = fun p => worth (aHl a wn hl) (wn + 1) 0 0 (a 5 i) (a 6 i) (a 7 i) (a 8 i) 0 p 0 := funext (fun p => bw_eq h.1.1 hh)
    rw [hfun, bw_eq h.1.1 hh] at d1
    have d1' : F_X7_ownerWorth (7 + i) I3 J2 = some (ow (aHl a wn hl) st (wn + 1) (a 5 i) (a 6 i) (a 7 i) (a 8 i), I4, J4) := d1
    obtain ⟨M1, t1, t2, t3⟩ := takeM (N := N) h hi
    have hM1 := h.2.2.1.sm t3
    obtain ⟨r11, e1, e2⟩ := mOwn1 (N := N) h.1.1 hM1.1 t2 hT
    obtain ⟨M2, g1, g2, g3, g4⟩ := brM h.1.1 hw hh hM1.1 t2 hT (ow a st wn (a 5 i) (a 6 i) (a 7 i) (a 8 i)) N
    have h1 := h.same (s3.tr d2.sx) t3
    have hRo : Ro I4 M2 a st wn te tl tx rl := h1.build h1.1 h1.2.1 ⟨g2, fun j hj => by rw [g3 13 (by omega) (by omega) (by omega) (by omega), g3 14 (by omega) (by omega) (by omega) (by omega), g3 15 (by omega) (by omega) (by omega) (by omega), g3 16 (by omega) (by omega) (by omega) (by omega)]; exact h1.2.2.1.2.1 j hj, (g4 21 (by omega)).trans h1.2.2.1.2.2⟩ (by
      have hi := h1.2.2.2.2.2.2.2.1
      unfold IM at hi ⊢
      rw [g4 38 (by omega), g3 21 (by omega) (by omega) (by omega) (by omega)]
      exact hi) ⟨rfl, rfl, rfl, rfl, rfl, rfl⟩ ⟨g4 14 (by omega), g3 8 (by omega) (by omega) (by omega) (by omega), g4 36 (by omega), g3 20 (by omega) (by omega) (by omega) (by omega), g3 1 (by omega) (by omega) (by omega) (by omega), g3 3 (by omega) (by omega) (by omega) (by omega)⟩
    exact ⟨_, I4, J4, M2, N, (by simp only [F_X7_bears, hx, rngX, r0, Option.bind_some, ↓reduceIte, l1', b1', c1', d1'] : F_X7_bears I J (nI i) (nI hl) = some (ow a st wn (a 5 i) (a 6 i) (a 7 i) (a 8 i) - ow (aHl a wn hl) st (wn + 1) (a 5 i) (a 6 i) (a 7 i) (a 8 i), I4, J4)), by simp only [F_X8_bears, hm, rngM, r0, Option.bind_some, i10, ↓reduceIte, t1, e1, e2, g1], ⟨a, st, wn, te, tl, tx, rl, hRo⟩⟩
  · obtain ⟨I1, M1, h1, h2, h3⟩ := bNoL hR (v := -4) (by decide)
    exact ⟨_, I1, J, M1, N, (by simp only [F_X7_bears, hx, rngX, r4, Option.bind_some, i40, ↓reduceIte, h1] : F_X7_bears I J (nI i) v2 = some ((4000000000000000000 : Int64) - Int32.toInt64 (-4), I1, J)), by simp only [F_X8_bears, hm, rngM, r4, Option.bind_some, i10, i40, ↓reduceIte, h2], h3⟩
  · obtain ⟨I1, M1, h1, h2, h3⟩ := bNoL hR (v := -6) (by decide)
    exact ⟨_, I1, J, M1, N, (by simp only [F_X7_bears, hx, rngX, r6, Option.bind_some, i60, ↓reduceIte, h1] : F_X7_bears I J (nI i) v2 = some ((4000000000000000000 : Int64) - Int32.toInt64 (-6), I1, J)), by simp only [F_X8_bears, hm, rngM, r6, Option.bind_some, i10, i60, ↓reduceIte, h2], h3⟩
end S27
