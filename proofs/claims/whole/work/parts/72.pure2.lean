/-! ===== pure: the class lays a SEASON ===== -/
def ccX (a : NN) (hl i : Nat) : Nat := a 3 i * (100 - hl) / 100
def oX (hl : Nat) : Nat := if hl = 0 then 0 else 1
def lfX (a : NN) (wn hl : Nat) : Nat := 100 - hl - sm (ccX a hl) wn
def nwX (a : NN) (wn hl : Nat) : Nat := oX hl + wn + (if lfX a wn hl = 0 then 0 else 1)
def chX (a : NN) (wn hl w : Nat) : Nat := if w < oX hl then hl else if w < oX hl + wn then ccX a hl (w - oX hl) else lfX a wn hl
def tiX (a : NN) (wn hl w : Nat) : Nat := if w < oX hl then 0 else if w < oX hl + wn then a 4 (w - oX hl) else 100
theorem oX_le (hl : Nat) : oX hl ≤ 1 := by
  unfold oX
  split <;> omega
theorem cc_sum {a : NN} {hl : Nat} (hh : hl ≤ 100) : ∀ n : Nat, 100 * sm (ccX a hl) n ≤ (100 - hl) * sm (a 3) n := by
  intro n
  induction n with
  | zero => exact Nat.zero_le _
  | succ n ih =>
    show 100 * (sm (ccX a hl) n + ccX a hl n) ≤ (100 - hl) * (sm (a 3) n + a 3 n)
    rw [Nat.mul_add, Nat.mul_add]
    have e1 : 100 * ccX a hl n ≤ a 3 n * (100 - hl) := Nat.mul_div_le _ _
    rw [Nat.mul_comm (100 - hl) (a 3 n)]
    omega
theorem cc_le {a : NN} {wn hl n : Nat} (hh : hl ≤ 100) (hs : sm (a 3) wn ≤ 100) (hn : n ≤ wn) : sm (ccX a hl) n ≤ 100 - hl := by
  have e1 := cc_sum (a := a) hh n
  have e2 : sm (a 3) n ≤ 100 := Nat.le_trans (sm_mono wn hn) hs
  have e3 : (100 - hl) * sm (a 3) n ≤ (100 - hl) * 100 := Nat.mul_le_mul_left _ e2
  omega
theorem nwX_le {a : NN} {wn hl : Nat} (hw : wn ≤ 6) : nwX a wn hl ≤ 8 := by
  have := oX_le hl
  unfold nwX
  split <;> omega
def FrW (I I' : SI) : Prop := (∀ z, z ≠ 47 → z ≠ 49 → z ≠ 50 → I' z = I z) ∧ ∀ j, j ≠ 6 → I' 47 j = I 47 j
def WL (I : SI) (a : NN) (wn hl n : Nat) : Prop := I 47 6 = nI n ∧ ∀ w, w < n → I 49 w = nI (chX a wn hl w) ∧ I 50 w = nI (tiX a wn hl w)
theorem FrW.tr {I I' I2 : SI} (h : FrW I I') (h2 : FrW I' I2) : FrW I I2 := ⟨fun z a b c => (h2.1 z a b c).trans (h.1 z a b c), fun j a => (h2.2 j a).trans (h.2 j a)⟩
section PY
variable {I : SI} {J : SJ} {a : NN} {st wn hl : Nat}
theorem xLayW {n c t : Nat} (h6 : I 47 6 = nI n) (hn : n < 8) : ∃ I' : SI, F_X4_layWeather I J (nI c) (nI t) = some (nI c, I', J) ∧ FrW I I' ∧ I' 47 6 = nI (n + 1) ∧ I' 49 = upd (I 49) n (nI c) ∧ I' 50 = upd (I 50) n (nI t) := by
  have a1 : (u1 I 49 (upd (I 49) n (nI c))) 50 = I 50 := u1_ne (by omega)
  have a2 : (u1 I 49 (upd (I 49) n (nI c))) 47 = I 47 := u1_ne (by omega)
  have a3 : (u1 (u1 I 49 (upd (I 49) n (nI c))) 50 (upd (I 50) n (nI t))) 47 = I 47 := (u1_ne (by omega)).trans a2
  refine ⟨u2 (u1 (u1 I 49 (upd (I 49) n (nI c))) 50 (upd (I 50) n (nI t))) 47 6 (((u1 (u1 I 49 (upd (I 49) n (nI c))) 50 (upd (I 50) n (nI t))) 47 6) + (1 : Int32)), ?_, ⟨fun z z1 z2 z3 => ?_, fun j hj => ?_⟩, ?_, ?_, ?_⟩
  · unfold F_X4_layWeather
    rw [h6, pPut hn (by omega)]
    show ((F_X2_put 8 ((u1 I 49 (upd (I 49) n (nI c))) 50) ((u1 I 49 (upd (I 49) n (nI c))) 47 6) (nI t)).bind _) = _
    rw [a1, a2, h6, pPut hn (by omega)]
    rfl
  · exact (u1_ne z1).trans ((u1_ne z3).trans (u1_ne z2))
  · show (u1 _ 47 (upd ((u1 (u1 I 49 (upd (I 49) n (nI c))) 50 (upd (I 50) n (nI t))) 47) 6 _)) 47 j = _
    rw [u1_at, a3]
    exact if_neg hj
  · show (u1 _ 47 (upd ((u1 (u1 I 49 (upd (I 49) n (nI c))) 50 (upd (I 50) n (nI t))) 47) 6 _)) 47 6 = _
    rw [u1_at, a3, h6]
    exact (if_pos rfl).trans (nI_1 n)
  · exact (u1_ne (by omega)).trans ((u1_ne (by omega)).trans u1_at)
  · exact (u1_ne (by omega)).trans u1_at
theorem WL.put {I' : SI} {n c t : Nat} (h : WL I a wn hl n) (hc : c = chX a wn hl n) (ht : t = tiX a wn hl n) (h6 : I' 47 6 = nI (n + 1)) (h49 : I' 49 = upd (I 49) n (nI c)) (h50 : I' 50 = upd (I 50) n (nI t)) : WL I' a wn hl (n + 1) := by
  refine ⟨h6, fun w hw => ?_⟩
  rw [h49, h50]
  by_cases c : w = n
  · subst c
    exact ⟨(if_pos rfl).trans (by rw [hc]), (if_pos rfl).trans (by rw [ht])⟩
  · exact ⟨(if_neg c).trans (h.2 w (by omega)).1, (if_neg c).trans (h.2 w (by omega)).2⟩
theorem xLayWs_l (hw6 : wn ≤ 6) (hO : OkF a st wn) (hh : hl ≤ 50) : ∀ (j n i : Nat) (I : SI), i + j = wn → j < n → XE I 0 a st wn → WL I a wn hl (oX hl + i) →
    ∃ I' : SI, FL_X4_layWeathers_23 n I J (nI hl) (nI (100 - hl - sm (ccX a hl) i)) (nI i) = some (I', J) ∧ FrW I I' ∧ WL I' a wn hl (nwX a wn hl) := by
  have ho := oX_le hl
  intro j
  induction j with
  | zero =>
    intro n i I hi hn hX hW
    obtain ⟨n, rfl⟩ := suc hn
    have ei : i = wn := by omega
    subst ei
    rw [FL_X4_layWeathers_23, hX.2.2.2.2, if_pos (nI_le (by omega) (by omega))]
    show ∃ I' : SI, (if nI (lfX a i hl) ≤ 0 then _ else _) = some (I', J) ∧ _
    by_cases c : lfX a i hl = 0
    · rw [if_pos (by rw [c]; exact nI_le (a := 0) (b := 0) (by omega) (by omega))]
      refine ⟨I, rfl, ⟨fun _ _ _ _ => rfl, fun _ _ => rfl⟩, ?_⟩
      unfold nwX
      rw [if_pos c]
      exact hW
    · have l1 : lfX a i hl ≤ 100 := by unfold lfX; omega
      rw [if_neg (nI_nle (by omega) (by omega))]
      obtain ⟨I', r1, r2, r3, r4, r5⟩ := xLayW (J := J) (c := lfX a i hl) (t := 100) hW.1 (by omega)
      have r1' : F_X4_layWeather I J (nI (100 - hl - sm (ccX a hl) i)) (100 : Int32) = some (nI (lfX a i hl), I', J) := r1
      rw [r1']
      refine ⟨I', rfl, r2, ?_⟩
      unfold nwX
      rw [if_neg c]
      refine hW.put ?_ ?_ r3 r4 r5
      · unfold chX
        rw [if_neg (by omega), if_neg (by omega)]
      · unfold tiX
        rw [if_neg (by omega), if_neg (by omega)]
  | succ j ih =>
    intro n i I hi hn hX hW
    obtain ⟨n, rfl⟩ := suc hn
    have s1 := cc_le (a := a) (n := i + 1) (wn := wn) (hl := hl) (by omega) hO.2.2.2.2.2 (by omega)
    have s2 : sm (ccX a hl) (i + 1) = sm (ccX a hl) i + ccX a hl i := rfl
    have q1 := (hO.2.2.2.2.1 i (by omega)).1
    have m1 : a 3 i * (100 - hl) ≤ 100 * 100 := Nat.mul_le_mul q1 (by omega)
    rw [FL_X4_layWeathers_23, hX.2.2.2.2, if_neg (nI_ge (by omega) (by omega)), pAt (by omega) (by omega), (hX.2.2.1 i (by omega)).1]
    show ∃ I' : SI, ((F_X2_at 6 (I 5) (nI i)).bind _) = some (I', J) ∧ _
    rw [pAt (by omega) (by omega), (hX.2.2.1 i (by omega)).2]
    have e1 : (nI (a 3 i) * ((100 : Int32) - nI hl)) / (100 : Int32) = nI (ccX a hl i) := by
      show (nI (a 3 i) * (nI 100 - nI hl)) / nI 100 = _
      rw [pk_sub (by omega), pk_mul, pk_div (by omega) (by omega) (by omega)]
      rfl
    show ∃ I' : SI, ((F_X4_layWeather I J ((nI (a 3 i) * ((100 : Int32) - nI hl)) / (100 : Int32)) (nI (a 4 i))).bind _) = some (I', J) ∧ _
    rw [e1]
    obtain ⟨I1, r1, r2, r3, r4, r5⟩ := xLayW (J := J) (c := ccX a hl i) (t := a 4 i) hW.1 (by omega)
    rw [r1]
    have e2 : nI (100 - hl - sm (ccX a hl) i) - nI (ccX a hl i) = nI (100 - hl - sm (ccX a hl) (i + 1)) := by
      rw [pk_sub (by omega), s2, Nat.sub_sub]
    show ∃ I' : SI, FL_X4_layWeathers_23 n I1 J (nI hl) (nI (100 - hl - sm (ccX a hl) i) - nI (ccX a hl i)) (nI i + 1) = some (I', J) ∧ _
    rw [e2, nI_1]
    obtain ⟨I2, t1, t2, t3⟩ := ih n (i + 1) I1 (by omega) (by omega) (hX.fr (fun z hz => r2.1 z (by omega) (by omega) (by omega))) (hW.put (by
      unfold chX
      rw [if_neg (by omega), if_pos (by omega)]
      congr 1
      omega) (by
      unfold tiX
      rw [if_neg (by omega), if_pos (by omega)]
      congr 1
      omega) r3 r4 r5)
    exact ⟨I2, t1, r2.tr t2, t3⟩
theorem xLayWs (hw6 : wn ≤ 6) (hO : OkF a st wn) (hh : hl ≤ 50) (hX : XE I 0 a st wn) : ∃ I' : SI, F_X4_layWeathers I J (nI hl) = some (I', J) ∧ FrW I I' ∧ WL I' a wn hl (nwX a wn hl) := by
  have f1 : FrW I (u2 I 47 6 (0 : Int32)) := by
    refine ⟨fun z hz _ _ => u1_ne hz, fun j hj => ?_⟩
    show (u1 I 47 (upd (I 47) 6 _)) 47 j = _
    rw [u1_at]
    exact if_neg hj
  have x1 : XE (u2 I 47 6 (0 : Int32)) 0 a st wn := hX.fr (fun z hz => f1.1 z (by omega) (by omega) (by omega))
  have g6 : (u2 I 47 6 (0 : Int32)) 47 6 = nI 0 := rfl
  unfold F_X4_layWeathers
  by_cases c : hl = 0
  · subst c
    rw [if_pos (show nI 0 ≤ (0 : Int32) from nI_le (a := 0) (b := 0) (by omega) (by omega))]
    obtain ⟨I2, t1, t2, t3⟩ := xLayWs_l (J := J) (hl := 0) hw6 hO (by omega) wn 3000 0 (u2 I 47 6 (0 : Int32)) (by omega) (by omega) x1 ⟨g6, fun w hw => absurd hw (by unfold oX; rw [if_pos rfl]; omega)⟩
    rw [show nI (100 - 0 - sm (ccX a 0) 0) = (100 : Int32) from rfl, show nI 0 = (0 : Int32) from rfl] at t1
    exact ⟨I2, t1, f1.tr t2, t3⟩
  · rw [if_neg (nI_nle (by omega) (by omega))]
    obtain ⟨I1, r1, r2, r3, r4, r5⟩ := xLayW (J := J) (c := hl) (t := 0) g6 (by omega)
    have r1' : F_X4_layWeather (u2 I 47 6 (0 : Int32)) J (nI hl) (0 : Int32) = some (nI hl, I1, J) := r1
    rw [r1']
    have ho : oX hl = 1 := if_neg c
    have w0 : WL (u2 I 47 6 (0 : Int32)) a wn hl 0 := ⟨g6, fun w hw => absurd hw (by omega)⟩
    have w1 : WL I1 a wn hl (0 + 1) := w0.put (by unfold chX; rw [ho, if_pos (by omega)]) (by unfold tiX; rw [ho, if_pos (by omega)]) r3 r4 r5
    obtain ⟨I2, t1, t2, t3⟩ := xLayWs_l (J := J) (hl := hl) hw6 hO hh wn 3000 0 I1 (by omega) (by omega) (x1.fr (fun z hz => r2.1 z (by omega) (by omega) (by omega))) (by rw [ho]; exact w1)
    refine ⟨I2, ?_, (f1.tr r2).tr t2, t3⟩
    rw [show nI (100 - hl - sm (ccX a hl) 0) = (100 : Int32) - nI hl from (pk_sub (a := 100) (by omega)).symm, show nI 0 = (0 : Int32) from rfl] at t1
    exact t1
theorem xLayH_l {p b nw : Nat} {ti : Nat → Nat} (hp : p ≤ 8) (hnw : nw ≤ 8) (hb : ∀ w, w < nw → b * ti w ≤ 510000) : ∀ (j n i : Nat) (I : SI), i + j = nw → j < n → I 47 6 = nI nw → (∀ w, w < nw → I 50 w = nI (ti w)) → (∀ w, w < i → I 51 (p * 8 + w) = nI (b * ti w / 100)) →
    ∃ I' : SI, FL_X4_layHarvests_2 n I J (nI p) (nI b) (nI i) = some (I', J) ∧ (∀ z, z ≠ 51 → I' z = I z) ∧ (∀ w, w < nw → I' 51 (p * 8 + w) = nI (b * ti w / 100)) ∧ ∀ z, (z < p * 8 ∨ p * 8 + 8 ≤ z) → I' 51 z = I 51 z := by
  intro j
  induction j with
  | zero =>
    intro n i I hi hn h6 h50 h51
    obtain ⟨n, rfl⟩ := suc hn
    rw [FL_X4_layHarvests_2, h6, if_pos (nI_le (by omega) (by omega))]
    exact ⟨I, rfl, fun _ _ => rfl, fun w hw => h51 w (by omega), fun _ _ => rfl⟩
  | succ j ih =>
    intro n i I hi hn h6 h50 h51
    obtain ⟨n, rfl⟩ := suc hn
    have e0 := hb i (by omega)
    have e1 : F_X4_timesOf I J (nI i) = some (nI (ti i)) := by
      unfold F_X4_timesOf
      rw [pAt (by omega) (by omega), h50 i (by omega)]
      rfl
    rw [FL_X4_layHarvests_2, h6, if_neg (nI_ge (by omega) (by omega)), e1]
    have e2 : (nI p * (8 : Int32)) + nI i = nI (p * 8 + i) := by
      show nI p * nI 8 + nI i = _
      rw [pk_mul, nI_add]
    have e3 : (nI b * nI (ti i)) / (100 : Int32) = nI (b * ti i / 100) := by
      show (nI b * nI (ti i)) / nI 100 = _
      rw [pk_mul, pk_div (by omega) (by omega) (by omega)]
    show ∃ I' : SI, ((F_X2_put 72 (I 51) ((nI p * (8 : Int32)) + nI i) ((nI b * nI (ti i)) / (100 : Int32))).bind _) = some (I', J) ∧ _
    rw [e2, e3, pPut (by omega) (by omega)]
    show ∃ I' : SI, FL_X4_layHarvests_2 n (u1 I 51 (upd (I 51) (p * 8 + i) (nI (b * ti i / 100)))) J (nI p) (nI b) (nI i + 1) = some (I', J) ∧ _
    rw [nI_1]
    obtain ⟨I', t1, t2, t3, t4⟩ := ih n (i + 1) (u1 I 51 (upd (I 51) (p * 8 + i) (nI (b * ti i / 100)))) (by omega) (by omega) (by rw [u1_ne (by omega)]; exact h6) (fun w hw => by rw [u1_ne (by omega)]; exact h50 w hw) (fun w hw => by
      rw [u1_at]
      by_cases c : w = i
      · subst c
        exact if_pos rfl
      · exact (if_neg (by omega)).trans (h51 w (by omega)))
    refine ⟨I', t1, fun z hz => (t2 z hz).trans (u1_ne hz), t3, fun z hz => (t4 z hz).trans ?_⟩
    rw [u1_at]
    exact if_neg (by omega)
theorem xLayH {p b nw : Nat} {ti : Nat → Nat} (hp : p ≤ 8) (hnw : nw ≤ 8) (hb : ∀ w, w < nw → b * ti w ≤ 510000) (h6 : I 47 6 = nI nw) (h50 : ∀ w, w < nw → I 50 w = nI (ti w)) :
    ∃ I' : SI, F_X4_layHarvests I J (nI p) (nI b) = some (I', J) ∧ (∀ z, z ≠ 51 → I' z = I z) ∧ (∀ w, w < nw → I' 51 (p * 8 + w) = nI (b * ti w / 100)) ∧ ∀ z, (z < p * 8 ∨ p * 8 + 8 ≤ z) → I' 51 z = I 51 z := by
  obtain ⟨I', r1, r2⟩ := xLayH_l (J := J) hp hnw hb nw 3000 0 I (by omega) (by omega) h6 h50 (fun w hw => absurd hw (by omega))
  rw [show nI 0 = (0 : Int32) from rfl] at r1
  exact ⟨I', r1, r2⟩
/-- HARVESTS of a laid SEASON -/
def hvX (a : NN) (wn d gd hl p w : Nat) : Nat := grow a d gd p * tiX a wn hl w / 100
theorem tiX_le (hO : OkF a st wn) (hl w : Nat) : tiX a wn hl w ≤ 300 := by
  have ho := oX_le hl
  unfold tiX
  by_cases c1 : w < oX hl
  · rw [if_pos c1]; omega
  · rw [if_neg c1]
    by_cases c2 : w < oX hl + wn
    · rw [if_pos c2]
      exact (hO.2.2.2.2.1 (w - oX hl) (by omega)).2
    · rw [if_neg c2]; omega
theorem hvX_le (hO : OkF a st wn) {d gd p : Nat} (hd : d ≤ 3) (hg : gd ≤ 9) (hp : p ≤ st) (hl w : Nat) : grow a d gd p * tiX a wn hl w ≤ 510000 ∧ hvX a wn d gd hl p w ≤ 5100 := by
  have e1 := grow_le (good := gd) hO hd hg hp
  have e3 : grow a d gd p * tiX a wn hl w ≤ 1700 * 300 := Nat.mul_le_mul e1 (tiX_le hO hl w)
  refine ⟨by omega, ?_⟩
  unfold hvX
  omega
/-- what laying leaves as it was -/
def FrL (I I' : SI) : Prop := (∀ z, (z < 47 ∨ 51 < z) → I' z = I z) ∧ I' 48 0 = I 48 0
theorem xLay_l (hO : OkF a st wn) (hw6 : wn ≤ 6) {d gd : Nat} (hd : d ≤ 3) (hg : gd ≤ 9) : ∀ (j n i : Nat) (I : SI), i + j = st → j < n → XE I 0 a st wn → I 47 5 = nI st → I 47 7 = nI 0 → WL I a wn hl (nwX a wn hl) → (∀ p, p ≤ i → I 48 p = nI (sm (a 1) p)) → (∀ p w, p ≤ i → w < nwX a wn hl → I 51 (p * 8 + w) = nI (hvX a wn d gd hl p w)) →
    ∃ I' : SI, FL_X4_lay_53 n I J (nI gd) (nI (grow a d gd i)) (nI (sm (a 1) i)) (nI i) = some (I', J) ∧ FrL I I' ∧ SL I' st (nwX a wn hl) 0 (chX a wn hl) (hvX a wn d gd hl) (sm (a 1)) ∧ (∀ w, w < nwX a wn hl → I' 50 w = nI (tiX a wn hl w)) := by
  have hst := hO.1
  intro j
  induction j with
  | zero =>
    intro n i I hi hn hX h5 h7 hW h48 h51
    obtain ⟨n, rfl⟩ := suc hn
    have ei : i = st := by omega
    subst ei
    rw [FL_X4_lay_53, h5, if_pos (nI_le (by omega) (by omega))]
    exact ⟨I, rfl, ⟨fun _ _ => rfl, rfl⟩, ⟨h5, hW.1, h7, fun w hw => (hW.2 w hw).1, h48, h51⟩, fun w hw => (hW.2 w hw).2⟩
  | succ j ih =>
    intro n i I hi hn hX h5 h7 hW h48 h51
    obtain ⟨n, rfl⟩ := suc hn
    have q2 := (hO.2.2.2.1 i (by omega)).2
    have q1 := (hO.2.2.2.1 i (by omega)).1
    have m1 : a 2 i * (10 + gd) ≤ 99 * 19 := Nat.mul_le_mul q2 (by omega)
    have s1 : sm (a 1) i ≤ i * 99 := sm_le i (fun k hk => (hO.2.2.2.1 k (by omega)).1)
    have g1 := grow_le (good := gd) (p := i + 1) hO hd hg (by omega)
    rw [FL_X4_lay_53, h5, if_neg (nI_ge (by omega) (by omega)), pAt (by omega) (by omega), (hX.2.1 i (by omega)).2]
    show ∃ I' : SI, ((F_X2_at 8 (I 2) (nI i)).bind _) = some (I', J) ∧ _
    rw [pAt (by omega) (by omega), (hX.2.1 i (by omega)).1]
    have e1 : nI i + (1 : Int32) = nI (i + 1) := nI_1 i
    have e2 : nI (sm (a 1) i) + nI (a 1 i) = nI (sm (a 1) (i + 1)) := nI_add _ _
    have e3 : nI (grow a d gd i) + ((nI (a 2 i) * ((10 : Int32) + nI gd)) / (10 : Int32)) = nI (grow a d gd (i + 1)) := by
      show nI (grow a d gd i) + nI (a 2 i) * (nI 10 + nI gd) / nI 10 = nI (grow a d gd (i + 1))
      rw [nI_add, pk_mul, pk_div (by omega) (by omega) (by omega), nI_add, grow_s]
    show ∃ I' : SI, ((F_X2_put 9 (I 48) (nI i + (1 : Int32)) (nI (sm (a 1) i) + nI (a 1 i))).bind _) = some (I', J) ∧ _
    rw [e1, e2, pPut (by omega) (by omega)]
    simp only [Option.bind_some]
    rw [e3]
    have b48 : ∀ z, z ≠ 48 → (u1 I 48 (upd (I 48) (i + 1) (nI (sm (a 1) (i + 1))))) z = I z := fun z hz => u1_ne hz
    obtain ⟨I1, r1, r2, r3, r4⟩ := xLayH (I := u1 I 48 (upd (I 48) (i + 1) (nI (sm (a 1) (i + 1))))) (J := J) (p := i + 1) (b := grow a d gd (i + 1)) (nw := nwX a wn hl) (ti := tiX a wn hl) (by omega) (nwX_le hw6) (fun w _ => (hvX_le hO hd hg (by omega) hl w).1) (by rw [b48 47 (by omega)]; exact hW.1) (fun w hw => by rw [b48 50 (by omega)]; exact (hW.2 w hw).2)
    rw [r1]
    simp only [Option.bind_some]
    have b : ∀ z, z ≠ 48 → z ≠ 51 → I1 z = I z := fun z z1 z2 => (r2 z z2).trans (b48 z z1)
    have c48 : I1 48 = upd (I 48) (i + 1) (nI (sm (a 1) (i + 1))) := (r2 48 (by omega)).trans u1_at
    have c51 : ∀ z, (z < (i + 1) * 8 ∨ (i + 1) * 8 + 8 ≤ z) → I1 51 z = I 51 z := fun z hz => (r4 z hz).trans (by rw [b48 51 (by omega)])
    obtain ⟨I2, t1, t2, t3, t4⟩ := ih n (i + 1) I1 (by omega) (by omega) (hX.fr (fun z hz => b z (by omega) (by omega))) (by rw [b 47 (by omega) (by omega)]; exact h5) (by rw [b 47 (by omega) (by omega)]; exact h7) ⟨by rw [b 47 (by omega) (by omega)]; exact hW.1, fun w hw => by rw [b 49 (by omega) (by omega), b 50 (by omega) (by omega)]; exact hW.2 w hw⟩ (fun p hp => by
      rw [c48]
      by_cases c : p = i + 1
      · subst c
        exact if_pos rfl
      · exact (if_neg c).trans (h48 p (by omega))) (fun p w hp hw => by
      by_cases c : p = i + 1
      · subst c
        exact r3 w hw
      · have n8 := nwX_le (a := a) (hl := hl) hw6
        rw [c51 _ (Or.inl (by omega))]
        exact h51 p w (by omega) hw)
    exact ⟨I2, t1, ⟨fun z hz => (t2.1 z hz).trans (b z (by omega) (by omega)), t2.2.trans (by rw [c48]; exact if_neg (by omega))⟩, t3, t4⟩
theorem xLay (hO : OkF a st wn) (hw6 : wn ≤ 6) {d gd : Nat} (hd : d ≤ 3) (hg : gd ≤ 9) (hh : hl ≤ 50) (hX : XE I 0 a st wn) (h48 : I 48 0 = nI 0) :
    ∃ I' : SI, F_X4_lay I J (nI d) (nI gd) (nI hl) = some (I', J) ∧ FrL I I' ∧ SL I' st (nwX a wn hl) 0 (chX a wn hl) (hvX a wn d gd hl) (sm (a 1)) ∧ (∀ w, w < nwX a wn hl → I' 50 w = nI (tiX a wn hl w)) := by
  have hst := hO.1
  have e0 : (u2 I 47 7 (0 : Int32)) 0 6 = nI st := by
    show (u1 I 47 (upd (I 47) 7 (0 : Int32))) 0 6 = nI st
    rw [u1_ne (by omega)]
    exact hX.2.2.2.1
  unfold F_X4_lay
  rw [e0, if_neg (show ¬ (8 : Int32) < nI st from nI_nlt (a := 8) (by omega) (by omega))]
  have a1 : ∀ z, z ≠ 47 → (u2 (u2 I 47 7 (0 : Int32)) 47 5 (nI st)) z = I z := fun z hz => (u1_ne hz).trans (u1_ne hz)
  obtain ⟨I1, r1, r2, r3⟩ := xLayWs (I := u2 (u2 I 47 7 (0 : Int32)) 47 5 (nI st)) (J := J) hw6 hO hh (hX.fr (fun z hz => a1 z (by omega)))
  rw [r1]
  have x1 : XE I1 0 a st wn := hX.fr (fun z hz => (r2.1 z (by omega) (by omega) (by omega)).trans (a1 z (by omega)))
  have es : F_X1_setting 0 I1 J (0 : Int32) = some (nI (a 0 0)) := xSet x1 (j := 0) (by omega)
  simp only [Option.bind_some]
  rw [es]
  have eg : nI (a 0 0) + (5 : Int32) * nI d = nI (grow a d gd 0) := by
    show nI (a 0 0) + nI 5 * nI d = _
    rw [pk_mul, nI_add]
    rfl
  simp only [Option.bind_some]
  rw [eg]
  obtain ⟨I2, t1, t2, t3, t4⟩ := xLayH (I := I1) (J := J) (p := 0) (b := grow a d gd 0) (nw := nwX a wn hl) (ti := tiX a wn hl) (by omega) (nwX_le hw6) (fun w _ => (hvX_le hO hd hg (by omega) hl w).1) r3.1 (fun w hw => (r3.2 w hw).2)
  have t1' : F_X4_layHarvests I1 J (0 : Int32) (nI (grow a d gd 0)) = some (I2, J) := t1
  rw [t1']
  simp only [Option.bind_some]
  have c5 : I1 47 5 = nI st := (r2.2 5 (by omega)).trans rfl
  have c7 : I1 47 7 = nI 0 := (r2.2 7 (by omega)).trans rfl
  obtain ⟨I3, p1, p2, p3, p4⟩ := xLay_l (J := J) (hl := hl) hO hw6 hd hg st 3000 0 I2 (by omega) (by omega) (x1.fr (fun z hz => t2 z (by omega))) (by rw [t2 47 (by omega)]; exact c5) (by rw [t2 47 (by omega)]; exact c7) ⟨by rw [t2 47 (by omega)]; exact r3.1, fun w hw => by rw [t2 49 (by omega), t2 50 (by omega)]; exact r3.2 w hw⟩ (fun p hp => by
    rw [show p = 0 by omega, t2 48 (by omega), r2.1 48 (by omega) (by omega) (by omega), a1 48 (by omega)]
    exact h48) (fun p w hp hw => by
    rw [show p = 0 by omega]
    exact t3 w hw)
  rw [show nI (sm (a 1) 0) = (0 : Int32) from rfl, show nI 0 = (0 : Int32) from rfl] at p1
  refine ⟨I3, p1, ⟨fun z hz => (p2.1 z hz).trans ((t2 z (by omega)).trans ((r2.1 z (by omega) (by omega) (by omega)).trans (a1 z (by omega)))), ?_⟩, p3, p4⟩
  rw [p2.2, t2 48 (by omega), r2.1 48 (by omega) (by omega) (by omega), a1 48 (by omega)]
end PY
