section S25
variable {I M : SI} {J N : SJ} {a : NN} {st wn te tl rl k A B Q t p i n py : Nat} {tx : Nat → Nat} {W : Nat → Nat → Int64} {S : Nat → Nat → Int64}
theorem dnX {d : Nat} (h : d < 4) : (if nI d - (1 : Int32) < (0 : Int32) then (0 : Int32) else nI d - (1 : Int32)) = nI (d - 1) := by
  rcases (by omega : d = 0 ∨ d = 1 ∨ d = 2 ∨ d = 3) with rfl | rfl | rfl | rfl <;> decide
theorem upX {d : Nat} (h : d < 4) : (if (3 : Int32) < nI d + (1 : Int32) then (3 : Int32) else nI d + (1 : Int32)) = nI (upD d) := by
  rcases (by omega : d = 0 ∨ d = 1 ∨ d = 2 ∨ d = 3) with rfl | rfl | rfl | rfl <;> decide
theorem dnM {d : Nat} (h : d < 4) : (if nI d ≤ 0 then (0 : Int32) else nI d - (1 : Int32)) = nI (d - 1) := by
  rcases (by omega : d = 0 ∨ d = 1 ∨ d = 2 ∨ d = 3) with rfl | rfl | rfl | rfl <;> decide
theorem upM {d : Nat} (h : d < 4) : (if (3 : Int32) ≤ nI d then (3 : Int32) else nI d + (1 : Int32)) = nI (upD d) := by
  rcases (by omega : d = 0 ∨ d = 1 ∨ d = 2 ∨ d = 3) with rfl | rfl | rfl | rfl <;> decide
theorem upM2 {d : Nat} (h : d < 4) : (if (3 : Int32) ≤ nI d then (3 : Int32) else nI (d + 1)) = nI (upD d) := by
  rw [← nI_1]
  exact upM h
theorem ixX (y d : Nat) : nI y * (4 : Int32) + nI d = nI (y * 4 + d) := by
  show nI y * nI 4 + nI d = _
  rw [pk_mul, nI_add]
theorem ixM (y d : Nat) : (4 : Int32) * nI y + nI d = nI (4 * y + d) := by
  show nI 4 * nI y + nI d = _
  rw [pk_mul, nI_add]
theorem prdI (e : Nat) : nI (e + 1) - (1 : Int32) = nI e := pk_sub (a := e + 1) (b := 1) (by omega)
theorem prd2 (e : Nat) : nI e + (-1) = nI e - (1 : Int32) := (Int32.sub_eq_add_neg _ _).symm
theorem xWo {y d : Nat} {s : Int64} (hy : y < 10) (hd : d < 4) (h : J 57 ((y + 1) * 4 + (d - 1)) = s) : F_X0_sumWithout I J (nI y) (nI d) = some s := by
  unfold F_X0_sumWithout F_X0_sumOf
  rw [dnX hd, nI_1, ixX, pAtL (by omega) (by omega), Option.bind_some, Option.bind_some, h]
theorem xWi {y d : Nat} {s : Int64} (hy : y < 10) (hd : d < 4) (h : J 57 ((y + 1) * 4 + upD d) = s) : F_X0_sumWith I J (nI y) (nI d) = some (s - 4000) := by
  have hu := upD_le d
  unfold F_X0_sumWith F_X0_sumOf
  rw [upX hd, nI_1, ixX, pAtL (by omega) (by omega), Option.bind_some, Option.bind_some, h]
/-- one YEAR's row of sums, out of the next one's -/
def nx (w s u : Int64) : Int64 := w + (if u - 4000 ≤ s then s else u - 4000)
theorem nx_S {e d : Nat} : yS W n py (e + 1) d = nx (W (n - (e + 1)) d) (yS W n py e (d - 1)) (yS W n py e (upD d)) := rfl
theorem xSI_l {e y : Nat} (hy : y + e + 1 = n) (hn : n ≤ 10) : ∀ (j m d : Nat) (J : SJ), d + j = 4 → j < m → (∀ d', d' < 4 → J 56 (y * 4 + d') = W y d') → (∀ x, x < 4 → J 57 ((y + 1) * 4 + x) = yS W n py e x) → (∀ x, x < d → J 57 (y * 4 + x) = yS W n py (e + 1) x) →
    ∃ J' : SJ, FS_X0_sumUp_50 m I J (nI y) (nI d) = some (I, J', nI y, nI 4) ∧ J' 56 = J 56 ∧ (∀ x, x < 4 → J' 57 (y * 4 + x) = yS W n py (e + 1) x) ∧ ∀ z, y * 4 + 4 ≤ z → J' 57 z = J 57 z := by
  intro j
  induction j with
  | zero =>
    intro m d J hd hm h56 h57 hr
    obtain ⟨m, rfl⟩ := suc hm
    have e4 : d = 4 := by omega
    subst e4
    rw [FS_X0_sumUp_50, if_pos (show (3 : Int32) < nI 4 by decide)]
    exact ⟨J, rfl, rfl, hr, fun _ _ => rfl⟩
  | succ j ih =>
    intro m d J hd hm h56 h57 hr
    obtain ⟨m, rfl⟩ := suc hm
    have hu := upD_le d
    have e1 : F_X0_sumWithout I J (nI y) (nI d) = some (yS W n py e (d - 1)) := xWo (by omega) (by omega) (h57 _ (by omega))
    have e2 : F_X0_sumWith I J (nI y) (nI d) = some (yS W n py e (upD d) - 4000) := xWi (by omega) (by omega) (h57 _ (by omega))
    have ev : W y d + (if yS W n py e (upD d) - 4000 < yS W n py e (d - 1) then yS W n py e (d - 1) else yS W n py e (upD d) - 4000) = yS W n py (e + 1) d := by
      rw [mx2, nx_S, show n - (e + 1) = y by omega]
      rfl
    rw [FS_X0_sumUp_50, if_neg (show ¬ (3 : Int32) < nI d from nI_nlt (b := d) (a := 3) (by omega) (by omega)), e1, Option.bind_some, e2, Option.bind_some, ixX, pAtL (by omega) (by omega), Option.bind_some, h56 d (by omega), ev, pPutL (by omega) (by omega), Option.bind_some, nI_1]
    obtain ⟨J', g1, g2, g3, g4⟩ := ih m (d + 1) (u1 J 57 (vp_updL (J 57) (y * 4 + d) (yS W n py (e + 1) d))) (by omega) (by omega) (fun d' hd' => by rw [u1_ne (by omega)]; exact h56 d' hd') (fun x hx => by rw [u1_at, pk_uLn (by omega)]; exact h57 x hx) (fun x hx => by
      rw [u1_at]
      by_cases c : x = d
      · rw [c, pk_uLs]
      · rw [pk_uLn (by omega)]
        exact hr x (by omega))
    exact ⟨J', g1, g2.trans (u1_ne (by omega)), g3, fun z hz => (g4 z hz).trans (by rw [u1_at, pk_uLn (by omega)])⟩
theorem xSO_l (hn : n ≤ 10) : ∀ (E m : Nat) (J : SJ), E ≤ n → E < m → (∀ y d', y < n → d' < 4 → J 56 (y * 4 + d') = W y d') → (∀ y x, E ≤ y → y ≤ n → x < 4 → J 57 (y * 4 + x) = yS W n py (n - y) x) →
    ∃ J' : SJ, FL_X0_sumUp_44 m I J (nI E - (1 : Int32)) = some (I, J') ∧ J' 56 = J 56 ∧ ∀ y x, y ≤ n → x < 4 → J' 57 (y * 4 + x) = yS W n py (n - y) x := by
  intro E
  induction E with
  | zero =>
    intro m J hE hm h56 h57
    obtain ⟨m, rfl⟩ := suc hm
    rw [FL_X0_sumUp_44, if_pos (show nI 0 - (1 : Int32) < 0 by decide)]
    exact ⟨J, rfl, rfl, fun y x hy hx => h57 y x (by omega) hy hx⟩
  | succ E ih =>
    intro m J hE hm h56 h57
    obtain ⟨m, rfl⟩ := suc hm
    obtain ⟨J1, a1, a2, a3, a4⟩ := xSI_l (I := I) (W := W) (n := n) (py := py) (e := n - (E + 1)) (y := E) (by omega) hn 4 3000 0 J (by omega) (by omega) (fun d' hd' => h56 E d' (by omega) hd') (fun x hx => h57 (E + 1) x (by omega) hE hx) (fun x hx => absurd hx (by omega))
    rw [show nI 0 = (0 : Int32) from rfl] at a1
    rw [FL_X0_sumUp_44, prdI, if_neg (nI_pos (by omega)), a1, Option.bind_some]
    show ∃ J' : SJ, FL_X0_sumUp_44 m I J1 (nI E + (-1)) = some (I, J') ∧ _
    rw [prd2]
    obtain ⟨J2, b1, b2, b3⟩ := ih m J1 (by omega) (by omega) (fun y d' hy hd' => by rw [a2]; exact h56 y d' hy hd') (fun y x hEy hy hx => by
      by_cases c : y = E
      · rw [c, a3 x hx, show n - (E + 1) + 1 = n - E by omega]
      · rw [a4 _ (by omega)]
        exact h57 y x (by omega) hy hx)
    exact ⟨J2, b1, b2.trans a2, b3⟩
theorem xSU_l (hn : n ≤ 10) (h55 : I 55 2 = nI n) : ∀ (j m d : Nat) (J : SJ), d + j = 4 → j < m → (∀ y d', y < n → d' < 4 → J 56 (y * 4 + d') = W y d') → (∀ x, x < d → J 57 (n * 4 + x) = yS W n py 0 x) →
    ∃ J' : SJ, FL_X0_sumUp_2 m I J (nI py) (nI d) = some (I, J') ∧ J' 56 = J 56 ∧ ∀ y x, y ≤ n → x < 4 → J' 57 (y * 4 + x) = yS W n py (n - y) x := by
  intro j
  induction j with
  | zero =>
    intro m d J hd hm h56 h57
    obtain ⟨m, rfl⟩ := suc hm
    have e4 : d = 4 := by omega
    subst e4
    rw [FL_X0_sumUp_2, if_pos (show (3 : Int32) < nI 4 by decide), h55]
    exact xSO_l hn n 3000 J (by omega) (by omega) h56 (fun y x hy hy2 hx => by rw [show y = n by omega, Nat.sub_self]; exact h57 x hx)
  | succ j ih =>
    intro m d J hd hm h56 h57
    obtain ⟨m, rfl⟩ := suc hm
    rw [FL_X0_sumUp_2, if_neg (show ¬ (3 : Int32) < nI d from nI_nlt (b := d) (a := 3) (by omega) (by omega)), h55, ixX, pPutL (by omega) (by omega), Option.bind_some, nI_1]
    obtain ⟨J', g1, g2, g3⟩ := ih m (d + 1) (u1 J 57 (vp_updL (J 57) (n * 4 + d) ((1000 : Int64) * Int32.toInt64 (nI py) * Int32.toInt64 (nI d)))) (by omega) (by omega) (fun y d' hy hd' => by rw [u1_ne (by omega)]; exact h56 y d' hy hd') (fun x hx => by
      rw [u1_at]
      by_cases c : x = d
      · rw [c, pk_uLs]; rfl
      · rw [pk_uLn (by omega)]
        exact h57 x (by omega))
    exact ⟨J', g1, g2.trans (u1_ne (by omega)), g3⟩
theorem xSU (hn : n ≤ 10) (h55 : I 55 2 = nI n) (h56 : ∀ y d', y < n → d' < 4 → J 56 (y * 4 + d') = W y d') (py : Nat) :
    ∃ J' : SJ, F_X0_sumUp I J (nI py) = some (I, J') ∧ J' 56 = J 56 ∧ ∀ y x, y ≤ n → x < 4 → J' 57 (y * 4 + x) = yS W n py (n - y) x :=
  xSU_l hn h55 4 3000 0 J (by omega) (by omega) h56 (fun x hx => absurd hx (by omega))
theorem shl1 {y : Nat} (hy : y < 10) : ((1 : Int32) <<< (nI y &&& 31)).toInt64 = (1 : Int64) <<< (Int32.toInt64 (nI y) &&& 63) := by
  rcases (by omega : y = 0 ∨ y = 1 ∨ y = 2 ∨ y = 3 ∨ y = 4 ∨ y = 5 ∨ y = 6 ∨ y = 7 ∨ y = 8 ∨ y = 9) with rfl | rfl | rfl | rfl | rfl | rfl | rfl | rfl | rfl | rfl <;> decide
theorem xYB_l (hn : n ≤ 10) (h55 : I 55 2 = nI n) (h57 : ∀ y x, y ≤ n → x < 4 → J 57 (y * 4 + x) = yS W n py (n - y) x) : ∀ (e m y d : Nat) (b : Int32), y + e = n → e < m → d < 4 →
    FL_X0_yearsWithDung_8 m I J b.toInt64 (nI d) (nI y) = some (yb (yS W n py) e y d b).toInt64 := by
  intro e
  induction e with
  | zero =>
    intro m y d b hy hm hd
    obtain ⟨m, rfl⟩ := suc hm
    rw [FL_X0_yearsWithDung_8, h55, if_pos (nI_le (by omega) (by omega))]
    rfl
  | succ e ih =>
    intro m y d b hy hm hd
    obtain ⟨m, rfl⟩ := suc hm
    have hu := upD_le d
    have e1 : F_X0_sumWithout I J (nI y) (nI d) = some (yS W n py e (d - 1)) := xWo (by omega) hd ((h57 (y + 1) (d - 1) (by omega) (by omega)).trans (by rw [show n - (y + 1) = e by omega]))
    have e2 : F_X0_sumWith I J (nI y) (nI d) = some (yS W n py e (upD d) - 4000) := xWi (by omega) hd ((h57 (y + 1) (upD d) (by omega) (by omega)).trans (by rw [show n - (y + 1) = e by omega]))
    rw [FL_X0_yearsWithDung_8, h55, if_neg (nI_ge (by omega) (by omega)), e2, Option.bind_some, e1, Option.bind_some, dnX hd, upX hd, nI_1]
    unfold yb
    by_cases c : yS W n py e (upD d) - 4000 ≤ yS W n py e (d - 1)
    · rw [if_pos c, if_pos c]
      exact ih m (y + 1) (d - 1) b (by omega) (by omega) (by omega)
    · rw [if_neg c, if_neg c, ← shl1 (show y < 10 by omega), ← Int32.toInt64_or]
      exact ih m (y + 1) (upD d) _ (by omega) (by omega) (by omega)
theorem xYB (hn : n ≤ 10) (h55 : I 55 2 = nI n) (h57 : ∀ y x, y ≤ n → x < 4 → J 57 (y * 4 + x) = yS W n py (n - y) x) {d : Nat} (hd : d < 4) : F_X0_yearsWithDung I J (nI d) = some (yb (yS W n py) n 0 d 0).toInt64 :=
  xYB_l hn h55 h57 n 3000 0 d 0 (by omega) (by omega) hd
/-- the reference's side -/
def HK (M : SI) (k A B Q : Nat) : Prop := M 0 22 = nI k ∧ M 0 23 = nI A ∧ M 0 24 = nI B ∧ M 0 25 = nI Q ∧ M 0 27 = nI 0
def Y4 (M M' : SI) : Prop := (∀ z, z ≠ 0 → z ≠ 18 → M' z = M z) ∧ ∀ j, j ≠ 26 → M' 0 j = M 0 j
theorem Y4.rf : Y4 M M := ⟨fun _ _ _ => rfl, fun _ _ => rfl⟩
theorem Y4.tr {M' M2 : SI} (h : Y4 M M') (h2 : Y4 M' M2) : Y4 M M2 := ⟨fun z a b => (h2.1 z a b).trans (h.1 z a b), fun j a => (h2.2 j a).trans (h.2 j a)⟩
theorem Y4.sm {M' : SI} (h : Y4 M M') : SM M M' := ⟨h.1, fun j hj => h.2 j (by omega)⟩
theorem ME.y4 {M' : SI} (h : ME M a st wn) (e : Y4 M M') : ME M' a st wn := by
  obtain ⟨h1, h2, h3, h4, h5⟩ := h
  refine ⟨fun k hk => ?_, fun k hk => ?_, fun k hk => ?_, ?_, ?_⟩
  · rw [e.1 2 (by omega) (by omega)]; exact h1 k hk
  · rw [e.1 4 (by omega) (by omega), e.1 5 (by omega) (by omega)]; exact h2 k hk
  · rw [e.1 6 (by omega) (by omega), e.1 7 (by omega) (by omega)]; exact h3 k hk
  · rw [e.2 7 (by omega)]; exact h4
  · rw [e.2 8 (by omega)]; exact h5
theorem HK.y4 {M' : SI} (h : HK M k A B Q) (e : Y4 M M') : HK M' k A B Q := by
  obtain ⟨h1, h2, h3, h4, h5⟩ := h
  exact ⟨(e.2 22 (by omega)).trans h1, (e.2 23 (by omega)).trans h2, (e.2 24 (by omega)).trans h3, (e.2 25 (by omega)).trans h4, (e.2 27 (by omega)).trans h5⟩
theorem Y4.d (v : Int32) : Y4 M (u2 M 0 26 v) := by
  obtain ⟨z1, z2, z3⟩ := u2z (M := M) (j := 26) (v := v)
  exact ⟨fun z a _ => z1 z a, fun i a => z2 i a⟩
theorem Y4.q (f : Nat → Int32) : Y4 M (u1 M 18 f) := ⟨fun z _ b => u1_ne b, fun j _ => by rw [show u1 M 18 f 0 = M 0 from u1_ne (by omega)]⟩
theorem mYW (hO : OkF a st wn) (hM : ME M a st wn) (hH : HK M k A B Q) (hT : OkT k A B Q) {y d : Nat} (hy : y < 10) (hd : d < 4) : F_X8_yearWorth M N (nI d) (nI y) = some (yW a st wn k A B Q y d, u2 M 0 26 (nI d), N) := by
  have q : Y4 M (u2 M 0 26 (nI d)) := Y4.d _
  have hD : HD (u2 M 0 26 (nI d)) k A B Q d 0 := by
    obtain ⟨h1, h2, h3, h4, h5⟩ := hH.y4 q
    exact ⟨h1, h2, h3, h4, (u2z (M := M) (j := 26) (v := nI d)).2.2, h5⟩
  have e1 : F_X8_bestPains (u2 M 0 26 (nI d)) N (nI y) = _ := mBest hO (hM.y4 q) hD hT (by omega) (by omega) (by omega)
  have hb := bp_le (fun p => worth a wn d 0 k A B Q 0 p y) st
  have e2 : F_X8_worthOf (u2 M 0 26 (nI d)) N (0 : Int32) (nI (bp (fun p => worth a wn d 0 k A B Q 0 p y) st).1) (nI y) = some (worth a wn d 0 k A B Q 0 (bp (fun p => worth a wn d 0 k A B Q 0 p y) st).1 y) := mWorth (who := 0) hO (hM.y4 q) hD hT (by omega) (by omega) hb (by omega) (by omega)
  unfold F_X8_yearWorth yW
  rw [e1, Option.bind_some, e2, Option.bind_some, bp_val]
/-- does he DUNG -/
def qd (S : Nat → Nat → Int64) (e d : Nat) : Int32 := if S e (upD d) - 4000 ≤ S e (d - 1) then 0 else 1
theorem mSI_l (hO : OkF a st wn) (hT : OkT k A B Q) {e y : Nat} (hy : y + e + 1 = n) (hn : n ≤ 10) (hp : py ≤ 99) (hS : S = yS (yW a st wn k A B Q) n py) : ∀ (j m d : Nat) (M : SI) (N : SJ), d + j = 4 → j < m → ME M a st wn → HK M k A B Q → (∀ x, x < 4 → N 17 (4 * (y + 1) + x) = S e x) → (∀ x, x < d → N 17 (4 * y + x) = S (e + 1) x ∧ M 18 (4 * y + x) = qd S e x) →
    ∃ (M' : SI) (N' : SJ), FS_X8_findYears_43 m M N (nI y) (nI d) = some (M', N', nI y, nI 4) ∧ Y4 M M' ∧ (∀ x, x < 4 → N' 17 (4 * y + x) = S (e + 1) x ∧ M' 18 (4 * y + x) = qd S e x) ∧ ∀ z, 4 * y + 4 ≤ z → N' 17 z = N 17 z ∧ M' 18 z = M 18 z := by
  intro j
  induction j with
  | zero =>
    intro m d M N hd hm hM hH h17 hr
    obtain ⟨m, rfl⟩ := suc hm
    have e4 : d = 4 := by omega
    subst e4
    rw [FS_X8_findYears_43, if_pos (show (4 : Int32) ≤ nI 4 by decide)]
    exact ⟨M, N, rfl, Y4.rf, hr, fun _ _ => ⟨rfl, rfl⟩⟩
  | succ j ih =>
    intro m d M N hd hm hM hH h17 hr
    obtain ⟨m, rfl⟩ := suc hm
    have hu := upD_le d
    have hd4 : d < 4 := by omega
    have e1 := mYW (N := N) (y := y) hO hM hH hT (by omega) hd4
    have w1 : BdL (yW a st wn k A B Q y d) (2 ^ 42) := yW_bd hO y d
    have b1 : BdL (S e (upD d)) (11 * 2 ^ 43) := by rw [hS]; exact (yS_bd (fun y d _ _ => yW_bd hO y d) hp e (upD d) (by omega) (by omega) (by omega)).mono (Nat.mul_le_mul_right _ (by omega))
    have b2 : BdL (S e (d - 1)) (11 * 2 ^ 43) := by rw [hS]; exact (yS_bd (fun y d _ _ => yW_bd hO y d) hp e (d - 1) (by omega) (by omega) (by omega)).mono (Nat.mul_le_mul_right _ (by omega))
    obtain ⟨x1, x2⟩ := mxE w1 b1 b2
    have hv : S (e + 1) d = if S e (upD d) - 4000 ≤ S e (d - 1) then yW a st wn k A B Q y d + S e (d - 1) else yW a st wn k A B Q y d + (S e (upD d) - 4000) := by
      rw [hS]
      show yW a st wn k A B Q (n - (e + 1)) d + (if _ then _ else _) = _
      rw [show n - (e + 1) = y by omega]
      by_cases c : yS (yW a st wn k A B Q) n py e (upD d) - 4000 ≤ yS (yW a st wn k A B Q) n py e (d - 1)
      · rw [if_pos c, if_pos c]
      · rw [if_neg c, if_neg c]
    rw [FS_X8_findYears_43, if_neg (show ¬ (4 : Int32) ≤ nI d from nI_ge (b := 4) hd4 (by omega)), e1, Option.bind_some]
    simp only [dnM hd4, upM hd4, upM2 hd4, nI_1, ixM]
    rw [if_pos (gin_nI (by omega) (by omega)), if_pos (gin_nI (by omega) (by omega)), if_pos (gin_nI (by omega) (by omega)), if_pos (gin_nI (by omega) (by omega)), nI_clamp (by omega), nI_clamp (by omega), nI_clamp (by omega), h17 _ (show d - 1 < 4 by omega), h17 _ (show upD d < 4 by omega), x1]
    have q1 : Y4 M (u2 M 0 26 (nI d)) := Y4.d _
    have n18 : u2 M 0 26 (nI d) 18 = M 18 := u1_ne (by omega)
    have go : ∀ (v : Int64) (b : Int32), v = S (e + 1) d → b = qd S e d → ∃ (M' : SI) (N' : SJ), FS_X8_findYears_43 m (u1 (u2 M 0 26 (nI d)) 18 (upd (u2 M 0 26 (nI d) 18) (4 * y + d) b)) (u1 N 17 (vp_updL (N 17) (4 * y + d) v)) (nI y) (nI (d + 1)) = some (M', N', nI y, nI 4) ∧ Y4 M M' ∧ (∀ x, x < 4 → N' 17 (4 * y + x) = S (e + 1) x ∧ M' 18 (4 * y + x) = qd S e x) ∧ ∀ z, 4 * y + 4 ≤ z → N' 17 z = N 17 z ∧ M' 18 z = M 18 z := fun v b hv' hb' => by
      have q2 := q1.tr (Y4.q (upd (u2 M 0 26 (nI d) 18) (4 * y + d) b))
      obtain ⟨M', N', g1, g2, g3, g4⟩ := ih m (d + 1) (u1 (u2 M 0 26 (nI d)) 18 (upd (u2 M 0 26 (nI d) 18) (4 * y + d) b)) (u1 N 17 (vp_updL (N 17) (4 * y + d) v)) (by omega) (by omega) (hM.y4 q2) (hH.y4 q2) (fun x hx => by rw [u1_at, pk_uLn (by omega)]; exact h17 x hx) (fun x hx => by
        rw [u1_at, u1_at]
        by_cases c : x = d
        · rw [c, pk_uLs, pk_us]
          exact ⟨hv', hb'⟩
        · rw [pk_uLn (by omega), pk_un (by omega), n18]
          exact hr x (by omega))
      refine ⟨M', N', g1, q2.tr g2, g3, fun z hz => ?_⟩
      obtain ⟨k1, k2⟩ := g4 z hz
      rw [u1_at, pk_uLn (by omega)] at k1
      rw [u1_at, pk_un (by omega), n18] at k2
      exact ⟨k1, k2⟩
    by_cases c : S e (upD d) - 4000 ≤ S e (d - 1)
    · rw [if_pos (x2.mpr c), if_pos (x2.mpr c)]
      exact go _ _ (by rw [hv, if_pos c]) (if_pos c).symm
    · rw [if_neg (fun z => c (x2.mp z)), if_neg (fun z => c (x2.mp z))]
      exact go _ _ (by rw [hv, if_neg c]) (if_neg c).symm
theorem mSO_l (hO : OkF a st wn) (hT : OkT k A B Q) (hn : n ≤ 10) (hp : py ≤ 99) (hS : S = yS (yW a st wn k A B Q) n py) : ∀ (E m : Nat) (M : SI) (N : SJ), E ≤ n → E < m → ME M a st wn → HK M k A B Q → (∀ y x, E ≤ y → y ≤ n → x < 4 → N 17 (4 * y + x) = S (n - y) x) → (∀ y x, E ≤ y → y < n → x < 4 → M 18 (4 * y + x) = qd S (n - (y + 1)) x) →
    ∃ (M' : SI) (N' : SJ), FL_X8_findYears_36 m M N (nI E - (1 : Int32)) = some (M', N') ∧ Y4 M M' ∧ (∀ y x, y ≤ n → x < 4 → N' 17 (4 * y + x) = S (n - y) x) ∧ ∀ y x, y < n → x < 4 → M' 18 (4 * y + x) = qd S (n - (y + 1)) x := by
  intro E
  induction E with
  | zero =>
    intro m M N hE hm hM hH h17 h18
    obtain ⟨m, rfl⟩ := suc hm
    rw [FL_X8_findYears_36, if_pos (show nI 0 - (1 : Int32) < 0 by decide)]
    exact ⟨M, N, rfl, Y4.rf, fun y x hy hx => h17 y x (by omega) hy hx, fun y x hy hx => h18 y x (by omega) hy hx⟩
  | succ E ih =>
    intro m M N hE hm hM hH h17 h18
    obtain ⟨m, rfl⟩ := suc hm
    obtain ⟨M1, N1, a1, a2, a3, a4⟩ := mSI_l (n := n) (e := n - (E + 1)) (y := E) hO hT (by omega) hn hp hS 4 3000 0 M N (by omega) (by omega) hM hH (fun x hx => h17 (E + 1) x (by omega) hE hx) (fun x hx => absurd hx (by omega))
    rw [show nI 0 = (0 : Int32) from rfl] at a1
    rw [FL_X8_findYears_36, prdI, if_neg (nI_pos (by omega)), a1, Option.bind_some]
    show ∃ (M' : SI) (N' : SJ), FL_X8_findYears_36 m M1 N1 (nI E + (-1)) = some (M', N') ∧ _
    rw [prd2]
    obtain ⟨M2, N2, b1, b2, b3, b4⟩ := ih m M1 N1 (by omega) (by omega) (hM.y4 a2) (hH.y4 a2) (fun y x hEy hy hx => by
      by_cases c : y = E
      · rw [c, (a3 x hx).1, show n - (E + 1) + 1 = n - E by omega]
      · rw [(a4 _ (by omega)).1]
        exact h17 y x (by omega) hy hx) (fun y x hEy hy hx => by
      by_cases c : y = E
      · rw [c, (a3 x hx).2]
      · rw [(a4 _ (by omega)).2]
        exact h18 y x (by omega) hy hx)
    exact ⟨M2, N2, b1, a2.tr b2, b3, b4⟩
theorem mSU_l (hO : OkF a st wn) (hT : OkT k A B Q) (hn : n ≤ 10) (hp : py ≤ 99) (hS : S = yS (yW a st wn k A B Q) n py) : ∀ (j m d : Nat) (M : SI) (N : SJ), d + j = 4 → j < m → ME M a st wn → HK M k A B Q → (∀ x, x < d → N 17 (4 * n + x) = S 0 x) →
    ∃ (M' : SI) (N' : SJ), FL_X8_findYears_2 m M N (nI n) (nI py) (nI d) = some (M', N') ∧ Y4 M M' ∧ (∀ y x, y ≤ n → x < 4 → N' 17 (4 * y + x) = S (n - y) x) ∧ ∀ y x, y < n → x < 4 → M' 18 (4 * y + x) = qd S (n - (y + 1)) x := by
  intro j
  induction j with
  | zero =>
    intro m d M N hd hm hM hH h17
    obtain ⟨m, rfl⟩ := suc hm
    have e4 : d = 4 := by omega
    subst e4
    rw [FL_X8_findYears_2, if_pos (show (4 : Int32) ≤ nI 4 by decide)]
    exact mSO_l hO hT hn hp hS n 3000 M N (by omega) (by omega) hM hH (fun y x hy hy2 hx => by rw [show y = n by omega, Nat.sub_self]; exact h17 x hx) (fun y x hy hy2 hx => absurd hy2 (by omega))
  | succ j ih =>
    intro m d M N hd hm hM hH h17
    obtain ⟨m, rfl⟩ := suc hm
    rw [FL_X8_findYears_2, if_neg (show ¬ (4 : Int32) ≤ nI d from nI_ge (b := 4) (by omega) (by omega)), ixM, if_pos (gin_nI (by omega) (by omega)), nI_clamp (by omega), nI_1]
    exact ih m (d + 1) M (u1 N 17 (vp_updL (N 17) (4 * n + d) ((1000 : Int64) * Int32.toInt64 (nI py) * Int32.toInt64 (nI d)))) (by omega) (by omega) hM hH (fun x hx => by
      rw [u1_at]
      by_cases c : x = d
      · rw [c, pk_uLs, hS]; rfl
      · rw [pk_uLn (by omega)]
        exact h17 x (by omega))
theorem mSU (hO : OkF a st wn) (hM : ME M a st wn) (hH : HK M k A B Q) (hT : OkT k A B Q) (hn : n ≤ 10) (hp : py ≤ 99) (N : SJ) :
    ∃ (M' : SI) (N' : SJ), F_X8_findYears M N (nI n) (nI py) = some (M', N') ∧ Y4 M M' ∧ (∀ y x, y ≤ n → x < 4 → N' 17 (4 * y + x) = yS (yW a st wn k A B Q) n py (n - y) x) ∧ ∀ y x, y < n → x < 4 → M' 18 (4 * y + x) = qd (yS (yW a st wn k A B Q) n py) (n - (y + 1)) x :=
  mSU_l hO hT hn hp rfl 4 3000 0 M N (by omega) (by omega) hM hH (fun x hx => absurd hx (by omega))
theorem mYB_l (hn : n ≤ 10) (h18 : ∀ y x, y < n → x < 4 → M 18 (4 * y + x) = qd S (n - (y + 1)) x) : ∀ (e m y d : Nat) (b : Int32), y + e = n → e < m → d < 4 →
    FL_X8_dungedFrom_8 m M N (nI n) (nI d) b (nI y) = some (yb S e y d b) := by
  intro e
  induction e with
  | zero =>
    intro m y d b hy hm hd
    obtain ⟨m, rfl⟩ := suc hm
    rw [FL_X8_dungedFrom_8, if_pos (nI_le (by omega) (by omega))]
    rfl
  | succ e ih =>
    intro m y d b hy hm hd
    obtain ⟨m, rfl⟩ := suc hm
    have hu := upD_le d
    rw [FL_X8_dungedFrom_8, if_neg (nI_ge (by omega) (by omega)), ixM, if_pos (gin_nI (by omega) (by omega)), nI_clamp (by omega), h18 y d (by omega) hd, show n - (y + 1) = e by omega, dnM hd, upM hd, nI_1]
    unfold yb qd
    by_cases c : S e (upD d) - 4000 ≤ S e (d - 1)
    · rw [if_pos c, if_neg (by decide), if_pos c]
      exact ih m (y + 1) (d - 1) b (by omega) (by omega) (by omega)
    · rw [if_neg c, if_pos rfl, if_neg c]
      exact ih m (y + 1) (upD d) _ (by omega) (by omega) (by omega)
theorem mYB (hn : n ≤ 10) (h18 : ∀ y x, y < n → x < 4 → M 18 (4 * y + x) = qd S (n - (y + 1)) x) {d : Nat} (hd : d < 4) : F_X8_dungedFrom M N (nI d) (nI n) = some (yb S n 0 d 0) :=
  mYB_l hn h18 n 3000 0 d 0 (by omega) (by omega) hd
end S25
