/-- WAGES: the least with which he takes, bound to PAINS; the greatest of the owner's WORTHS -/
def lw (o : Int64) (V : Nat → Int64) : Nat → Nat → Option Nat
  | 0, _ => none
  | n + 1, g => if V g < o then lw o V n (g + 1) else some g
def lwC (s : Int32) : Option Nat → Int32
  | none => s
  | some x => nI x
def gst (s : Option Int64) : Option Int64 → Option Int64
  | none => s
  | some v => match s with
    | none => some v
    | some m => some (if v ≤ m then m else v)
def gp (F : Nat → Option Int64) : Nat → Nat → Option Int64 → Option Int64
  | 0, _, s => s
  | n + 1, p, s => gp F n (p + 1) (gst s (F p))
def gfin (pw : Int64) : Option Int64 → Int64
  | none => -9
  | some m => if pw ≤ m then m - pw else 0
def Rg (s : Option Int64) (w1 : Int32) (w2 : Int64) : Prop := match s with
  | none => w1 = 0
  | some m => w1 = 1 ∧ w2 = m
def bg42 (s : Option Int64) : Prop := ∀ m, s = some m → BdL m (2 ^ 42)
theorem lw_lt {o : Int64} {V : Nat → Int64} : ∀ (n g x : Nat), lw o V n g = some x → x < g + n := by
  intro n
  induction n with
  | zero => intro g x h; cases h
  | succ n ih =>
    intro g x h
    unfold lw at h
    by_cases c : V g < o
    · rw [if_pos c] at h
      have := ih (g + 1) x h
      omega
    · rw [if_neg c] at h
      cases h
      omega
theorem gst_bg {s v : Option Int64} (hs : bg42 s) (hv : bg42 v) : bg42 (gst s v) := by
  match v, hv with
  | none, _ => exact hs
  | some v, hv =>
    match s, hs with
    | none, _ => exact hv
    | some m, hs =>
      intro x hx
      have hx' : (if v ≤ m then m else v) = x := by cases hx; rfl
      by_cases c : v ≤ m
      · rw [if_pos c] at hx'
        rw [← hx']
        exact hs m rfl
      · rw [if_neg c] at hx'
        rw [← hx']
        exact hv v rfl
theorem gE {m pw : Int64} (hm : BdL m (2 ^ 42)) (hp : BdL pw (2 ^ 42)) : (if m - pw < (0 : Int64) then (0 : Int64) else m - pw) = if pw ≤ m then m - pw else 0 := by
  have h1 := (bd_sub hm hp (by omega)).1
  have h0 : (0 : Int64).toInt = 0 := by decide
  by_cases c : pw ≤ m
  · have c' := Int64.le_iff_toInt_le.mp c
    rw [if_pos c, if_neg (fun z => by have := Int64.lt_iff_toInt_lt.mp z; rw [h1, h0] at this; omega)]
  · rw [if_neg c, if_pos]
    have c' : ¬ pw.toInt ≤ m.toInt := fun z => c (Int64.le_iff_toInt_le.mpr z)
    refine Int64.lt_iff_toInt_lt.mpr ?_
    rw [h1, h0]
    omega
theorem nI_addL (x y : Nat) (h : x + y < 2 ^ 31) : (nI (x + y)).toInt64 = (nI x).toInt64 + (nI y).toInt64 := by
  apply Int64.toInt_inj.mp
  have h1 := bd_n (n := x) (by omega)
  have h2 := bd_n (n := y) (by omega)
  rw [(bd_add h1 h2 (by omega)).1, Int32.toInt_toInt64, Int32.toInt_toInt64, Int32.toInt_toInt64, nI_toInt (by omega), nI_toInt (by omega), nI_toInt (by omega)]
  omega
theorem wsum_c {ch : Nat → Nat} (x : Int32) : ∀ n : Nat, sm ch n < 2 ^ 31 → wsum n ch (fun _ => x) = (nI (sm ch n)).toInt64 * x.toInt64 := by
  intro n
  induction n with
  | zero =>
    intro _
    show (0 : Int64) = (nI 0).toInt64 * x.toInt64
    rw [show (nI 0).toInt64 = (0 : Int64) from by decide, Int64.zero_mul]
  | succ n ih =>
    intro h
    have hs : sm ch (n + 1) = sm ch n + ch n := rfl
    rw [wsum_s, ih (by omega), hs, nI_addL _ _ (by omega), Int64.add_mul]
section S28
variable {I M : SI} {J N : SJ} {a : NN} {st wn te tl rl k A B Q t p : Nat} {tx : Nat → Nat} {pw : Int64}
def wV (a : NN) (g p : Nat) : Int64 := 100 * (mind a 0 (nI g - nI (seed a 0))).toInt64 - 1000 * (nI (sm (a 1) p)).toInt64
theorem worthW (hO : OkF a st wn) (g B : Nat) : worth a wn 0 0 2 g B 0 0 p 0 = wV a g p := by
  have e := wsum_c (ch := chA a wn) (mind a 0 (nI g - nI (seed a 0))) (nW a wn) (by rw [smch hO.2.2.2.2.2]; omega)
  rw [smch hO.2.2.2.2.2] at e
  unfold worth worthG wV
  rw [if_pos rfl]
  have e2 : wsum (nW a wn) (chA a wn) (fun w => mind a 0 (has a 2 g B 0 0 (harv a wn 0 0 p w) 0)) = wsum (nW a wn) (chA a wn) (fun _ => mind a 0 (nI g - nI (seed a 0))) := rfl
  rw [e2, e]
  rfl
theorem worthB (wn g B B' p : Nat) : worth a wn 0 0 2 g B 0 1 p 0 = worth a wn 0 0 2 g B' 0 1 p 0 := rfl
theorem wOk {g : Nat} (hg : g ≤ 100) {B : Nat} (hB : B ≤ 99) : OkT 2 g B 0 := ⟨by omega, hg, hB, by omega, fun h => by omega⟩
/-- what the owner has by the least WAGE for PAINS -/
def gF (a : NN) (wn p : Nat) : Option Int64 := match lw (1000 * (nI (a 0 1)).toInt64) (fun g => wV a g p) 100 0 with
  | none => none
  | some g => some (worth a wn 0 0 2 g 1 0 1 p 0)
theorem gF_n (h : lw (1000 * (nI (a 0 1)).toInt64) (fun g => wV a g p) 100 0 = none) : gF a wn p = none := by
  unfold gF
  rw [h]
theorem gF_s {g : Nat} (h : lw (1000 * (nI (a 0 1)).toInt64) (fun g => wV a g p) 100 0 = some g) : gF a wn p = some (worth a wn 0 0 2 g 1 0 1 p 0) := by
  unfold gF
  rw [h]
theorem gF_bg (hO : OkF a st wn) (hp : p ≤ st) : bg42 (gF a wn p) := by
  intro m hm
  rcases h : lw (1000 * (nI (a 0 1)).toInt64) (fun g => wV a g p) 100 0 with _ | g
  · rw [gF_n h] at hm
    cases hm
  · rw [gF_s h] at hm
    cases hm
    exact bd_worth hO hp
theorem xLw_l (hO : OkF a st wn) (hX : XE I 0 a st wn) (hS : SL0 I a st wn) (hp : p ≤ st) : ∀ (j m g : Nat), g + j = 100 → j < m → FL_X7_leastWage_2 m I J (nI p) (nI g) = some (lwC (-9) (lw (1000 * (nI (a 0 1)).toInt64) (fun g => wV a g p) j g)) := by
  have hst := hO.1
  intro j
  induction j with
  | zero =>
    intro m g hg hm
    obtain ⟨m, rfl⟩ := suc hm
    rw [FL_X7_leastWage_2, if_pos (show (99 : Int32) < nI g from nI_lt (a := 99) (by omega) (by omega))]
    rfl
  | succ j ih =>
    intro m g hg hm
    obtain ⟨m, rfl⟩ := suc hm
    have e1 : F_X1_seedOf 0 I J (0 : Int32) = some (nI (seed a 0)) := xSeed (who := 0) hO hX (by omega)
    have e2 : F_X1_mindOf 0 I J (0 : Int32) (nI g - nI (seed a 0)) = some (mind a 0 (nI g - nI (seed a 0))) := xMind (who := 0) hO hX (by omega) _
    have e3 : F_X4_costWorth I J (nI p) = some (1000 * (nI (sm (a 1) p)).toInt64) := by
      unfold F_X4_costWorth
      rw [pAt (by omega) (by omega), hS.2.2.2.2.1 p hp]
      rfl
    rw [FL_X7_leastWage_2, if_neg (show ¬ (99 : Int32) < nI g from nI_nlt (b := g) (a := 99) (by omega) (by omega)), e1, Option.bind_some, e2, Option.bind_some, e3, Option.bind_some, xOther hO hX, Option.bind_some, nI_1]
    show (if wV a g p < 1000 * (nI (a 0 1)).toInt64 then FL_X7_leastWage_2 m I J (nI p) (nI (g + 1)) else some (nI g)) = _
    unfold lw
    by_cases c : wV a g p < 1000 * (nI (a 0 1)).toInt64
    · rw [if_pos c, if_pos c]
      exact ih m (g + 1) (by omega) (by omega)
    · rw [if_neg c, if_neg c]
      rfl
theorem xLw (hO : OkF a st wn) (hX : XE I 0 a st wn) (hS : SL0 I a st wn) (hp : p ≤ st) (J : SJ) : F_X7_leastWage I J (nI p) = some (lwC (-9) (lw (1000 * (nI (a 0 1)).toInt64) (fun g => wV a g p) 100 0)) :=
  xLw_l hO hX hS hp 100 3000 0 (by omega) (by omega)
theorem xGp_l (hO : OkF a st wn) (hpw : BdL pw (2 ^ 42)) : ∀ (j m p : Nat) (I : SI) (J : SJ) (s : Option Int64) (w1 : Int32) (w2 : Int64), p + j = st + 1 → j < m → XE I 0 a st wn → SL0 I a st wn → Rg s w1 w2 → bg42 s →
    ∃ (I' : SI), FL_X7_gap_48 m I J pw w1 w2 (nI p) = some (gfin pw (gp (gF a wn) j p s), I', J) ∧ FrP I I' := by
  have hst := hO.1
  intro j
  induction j with
  | zero =>
    intro m p I J s w1 w2 hp hm hX hS hr hb
    obtain ⟨m, rfl⟩ := suc hm
    refine ⟨I, ?_, FrP.rf⟩
    rw [FL_X7_gap_48, hS.1, if_pos (nI_lt (by omega) (by omega))]
    match s, hr, hb with
    | none, hr, _ =>
      rw [if_pos (show w1 = 0 from hr)]
      rfl
    | some v, hr, hb =>
      rw [hr.1, hr.2, if_neg (show ¬ (1 : Int32) = 0 by decide), gE (hb v rfl) hpw]
      rfl
  | succ j ih =>
    intro m p I J s w1 w2 hp hm hX hS hr hb
    obtain ⟨m, rfl⟩ := suc hm
    have hg := gst_bg hb (gF_bg (wn := wn) (p := p) hO (by omega))
    have eg : gp (gF a wn) (j + 1) p s = gp (gF a wn) j (p + 1) (gst s (gF a wn p)) := rfl
    rw [FL_X7_gap_48, hS.1, if_neg (nI_nlt (by omega) (by omega)), xLw hO hX hS (by omega), Option.bind_some, nI_1, eg]
    rcases h : lw (1000 * (nI (a 0 1)).toInt64) (fun g => wV a g p) 100 0 with _ | g
    · rw [gF_n h] at hg ⊢
      rw [if_pos (show lwC (-9) none = -9 from rfl)]
      exact ih m (p + 1) I J _ w1 w2 (by omega) (by omega) hX hS hr hb
    · have hgl := lw_lt 100 0 g h
      rw [gF_s h] at hg ⊢
      obtain ⟨I1, a1, a2, a3⟩ := xMake (I := I) (J := J) (k := 2) (A := g) (B := 0) (kk := 2) (aa := nI g) (bb := 0) rfl rfl rfl
      have ew : F_X4_worthOf 58 I1 J (nI p) (1 : Int32) = some (worth a wn 0 0 2 g 0 0 1 p 0) := xWorth (who := 1) hO (hX.fp a3) (wOk (by omega) (by omega)) a2 (hS.fp a3) (nW_le hO).1 (hv_ok hO (by omega) (by omega)) (by omega) (by omega) (by omega)
      rw [worthB wn g 0 1 p] at ew
      rw [if_neg (show ¬ lwC (-9) (some g) = -9 from n9 (by omega)), show lwC (-9) (some g) = nI g from rfl, a1, Option.bind_some]
      show ∃ (I' : SI), ((F_X4_worthOf 58 I1 J (nI p) (1 : Int32)).bind fun r11 => (if w1 = 0 then (FL_X7_gap_48 m I1 J pw (1 : Int32) r11 (nI (p + 1))) else (FL_X7_gap_48 m I1 J pw (1 : Int32) (if r11 < w2 then w2 else r11) (nI (p + 1))))) = _ ∧ _
      rw [ew, Option.bind_some]
      match s, hr, hb, hg with
      | none, hr, hb, hg =>
        rw [if_pos (show w1 = 0 from hr)]
        obtain ⟨I', b1, b2⟩ := ih m (p + 1) I1 J (some (worth a wn 0 0 2 g 1 0 1 p 0)) 1 (worth a wn 0 0 2 g 1 0 1 p 0) (by omega) (by omega) (hX.fp a3) (hS.fp a3) ⟨rfl, rfl⟩ hg
        exact ⟨I', b1, a3.tr b2⟩
      | some v, hr, hb, hg =>
        rw [hr.1, hr.2, if_neg (show ¬ (1 : Int32) = 0 by decide), mx2]
        obtain ⟨I', b1, b2⟩ := ih m (p + 1) I1 J (some (if worth a wn 0 0 2 g 1 0 1 p 0 ≤ v then v else worth a wn 0 0 2 g 1 0 1 p 0)) 1 (if worth a wn 0 0 2 g 1 0 1 p 0 ≤ v then v else worth a wn 0 0 2 g 1 0 1 p 0) (by omega) (by omega) (hX.fp a3) (hS.fp a3) ⟨rfl, rfl⟩ hg
        exact ⟨I', b1, a3.tr b2⟩
theorem mLw_l (hO : OkF a st wn) (hp : p ≤ st) : ∀ (j m g : Nat) (M : SI) (w1 : Int32) (w2 : Int64), g + j = 100 → j < m → (∀ M', SM M M' → ME M' a st wn) → HD M 2 g 1 0 0 0 →
    ∃ M' : SI, FS_X8_gap_37 m M N w1 w2 (nI p) (nI g) = some (M', N, w1, w2, nI p, lwC 100 (lw (1000 * (nI (a 0 1)).toInt64) (fun g => wV a g p) j g)) ∧ SM M M' ∧ ∀ x, lw (1000 * (nI (a 0 1)).toInt64) (fun g => wV a g p) j g = some x → HD M' 2 x 1 0 0 0 := by
  have hst := hO.1
  intro j
  induction j with
  | zero =>
    intro m g M w1 w2 hg hm hM hH
    obtain ⟨m, rfl⟩ := suc hm
    have e : g = 100 := by omega
    subst e
    rw [FS_X8_gap_37, if_pos (show (100 : Int32) ≤ nI 100 by decide)]
    exact ⟨M, rfl, SM.rf, fun x hx => by cases hx⟩
  | succ j ih =>
    intro m g M w1 w2 hg hm hM hH
    obtain ⟨m, rfl⟩ := suc hm
    have hM0 := hM M SM.rf
    have e1 : F_X8_worthOf M N (0 : Int32) (nI p) (0 : Int32) = some (worth a wn 0 0 2 g 1 0 0 p 0) := mWorth (who := 0) (y := 0) hO hM0 hH (wOk (by omega) (by omega)) (by omega) (by omega) hp (by omega) (by omega)
    have e2 : M 2 (Int32.toNatClampNeg (1 : Int32)) = nI (a 0 1) := hM0.1 1 (by omega)
    rw [FS_X8_gap_37, if_neg (show ¬ (100 : Int32) ≤ nI g from nI_ge (b := 100) (by omega) (by omega)), e1, Option.bind_some, e2, worthW hO, nI_1]
    unfold lw
    by_cases c : wV a g p < 1000 * (nI (a 0 1)).toInt64
    · rw [if_neg (Int64.not_le.mpr c), if_pos c]
      obtain ⟨M1, a1, a2, a3⟩ := mMake (M := M) (N := N) (k := 2) (A := g + 1) (B := 1) (kk := 2) (aa := nI (g + 1)) (bb := 1) rfl rfl rfl
      rw [a1, Option.bind_some]
      obtain ⟨M', b1, b2, b3⟩ := ih m (g + 1) M1 w1 w2 (by omega) (by omega) (fun M' h' => hM M' (a3.tr h')) a2
      exact ⟨M', b1, a3.tr b2, b3⟩
    · rw [if_pos (Int64.not_lt.mp c), if_neg c]
      exact ⟨M, rfl, SM.rf, fun x hx => by cases hx; exact hH⟩
theorem mLw (hO : OkF a st wn) (hp : p ≤ st) (w1 : Int32) (w2 : Int64) (hM : ∀ M', SM M M' → ME M' a st wn) (hH : HD M 2 0 1 0 0 0) (N : SJ) :
    ∃ M' : SI, FS_X8_gap_37 3000 M N w1 w2 (nI p) (nI 0) = some (M', N, w1, w2, nI p, lwC 100 (lw (1000 * (nI (a 0 1)).toInt64) (fun g => wV a g p) 100 0)) ∧ SM M M' ∧ ∀ x, lw (1000 * (nI (a 0 1)).toInt64) (fun g => wV a g p) 100 0 = some x → HD M' 2 x 1 0 0 0 :=
  mLw_l hO hp 100 3000 0 M w1 w2 (by omega) (by omega) hM hH
theorem n100 {g : Nat} (h : g < 100) : ¬ nI g = (100 : Int32) := fun q => by
  have := (nI_eL (n := 100) rfl (by omega) (by omega)).mp q
  omega
theorem mGp_l (hO : OkF a st wn) : ∀ (j m p : Nat) (M : SI) (s : Option Int64) (w1 : Int32) (w2 : Int64), p + j = st + 1 → j < m → (∀ M', SM M M' → ME M' a st wn) → N 0 28 = pw → Rg s w1 w2 →
    ∃ (M' : SI), FL_X8_gap_18 m M N w1 w2 (nI p) = some (gfin pw (gp (gF a wn) j p s), M', N) ∧ SM M M' := by
  have hst := hO.1
  intro j
  induction j with
  | zero =>
    intro m p M s w1 w2 hp hm hM h28 hr
    obtain ⟨m, rfl⟩ := suc hm
    refine ⟨M, ?_, SM.rf⟩
    rw [FL_X8_gap_18, (hM M SM.rf).2.2.2.1, if_pos (nI_lt (by omega) (by omega))]
    match s, hr with
    | none, hr =>
      rw [if_pos (show w1 = 0 from hr)]
      rfl
    | some v, hr =>
      rw [hr.1, hr.2, if_neg (show ¬ (1 : Int32) = 0 by decide), h28]
      rfl
  | succ j ih =>
    intro m p M s w1 w2 hp hm hM h28 hr
    obtain ⟨m, rfl⟩ := suc hm
    have eg : gp (gF a wn) (j + 1) p s = gp (gF a wn) j (p + 1) (gst s (gF a wn p)) := rfl
    obtain ⟨M1, a1, a2, a3⟩ := mMake (M := M) (N := N) (k := 2) (A := 0) (B := 1) (kk := 2) (aa := 0) (bb := 1) rfl rfl rfl
    obtain ⟨M2, b1, b2, b3⟩ := mLw (p := p) hO (by omega) w1 w2 (fun M' h' => hM M' (a3.tr h')) a2 N
    rw [show nI 0 = (0 : Int32) from rfl] at b1
    have s2 := a3.tr b2
    rw [FL_X8_gap_18, (hM M SM.rf).2.2.2.1, if_neg (nI_nlt (by omega) (by omega)), a1, Option.bind_some]
    show ∃ (M' : SI), ((FS_X8_gap_37 3000 M1 N w1 w2 (nI p) (0 : Int32)).bind fun (I13, J13, u1_13, u2_13, u4_13, u5_13) => (if u5_13 = (100 : Int32) then (FL_X8_gap_18 m I13 J13 u1_13 u2_13 (u4_13 + 1)) else ((F_X8_worthOf I13 J13 (1 : Int32) u4_13 (0 : Int32)).bind fun r15 => (if u1_13 = 0 then (FL_X8_gap_18 m I13 J13 (1 : Int32) r15 (u4_13 + 1)) else (FL_X8_gap_18 m I13 J13 (1 : Int32) (if r15 ≤ u2_13 then u2_13 else r15) (u4_13 + 1)))))) = _ ∧ _
    rw [b1, Option.bind_some, eg]
    generalize hq : lw (1000 * (nI (a 0 1)).toInt64) (fun g => wV a g p) 100 0 = q at b3
    show ∃ (M' : SI), (if lwC 100 q = (100 : Int32) then (FL_X8_gap_18 m M2 N w1 w2 (nI p + 1)) else ((F_X8_worthOf M2 N (1 : Int32) (nI p) (0 : Int32)).bind fun r15 => (if w1 = 0 then (FL_X8_gap_18 m M2 N (1 : Int32) r15 (nI p + 1)) else (FL_X8_gap_18 m M2 N (1 : Int32) (if r15 ≤ w2 then w2 else r15) (nI p + 1))))) = _ ∧ _
    rw [nI_1]
    rcases q with _ | g
    · rw [gF_n hq, if_pos (show lwC 100 none = 100 from rfl)]
      obtain ⟨M', c1, c2⟩ := ih m (p + 1) M2 s w1 w2 (by omega) (by omega) (fun M' h' => hM M' (s2.tr h')) h28 hr
      exact ⟨M', c1, s2.tr c2⟩
    · have hgl := lw_lt 100 0 g hq
      have ew : F_X8_worthOf M2 N (1 : Int32) (nI p) (0 : Int32) = some (worth a wn 0 0 2 g 1 0 1 p 0) := mWorth (who := 1) (y := 0) hO (hM M2 s2) (b3 g rfl) (wOk (by omega) (by omega)) (by omega) (by omega) (by omega) (by omega) (by omega)
      rw [gF_s hq, if_neg (show ¬ lwC 100 (some g) = 100 from n100 (by omega)), ew, Option.bind_some]
      match s, hr with
      | none, hr =>
        rw [if_pos (show w1 = 0 from hr)]
        obtain ⟨M', c1, c2⟩ := ih m (p + 1) M2 (some (worth a wn 0 0 2 g 1 0 1 p 0)) 1 (worth a wn 0 0 2 g 1 0 1 p 0) (by omega) (by omega) (fun M' h' => hM M' (s2.tr h')) h28 ⟨rfl, rfl⟩
        exact ⟨M', c1, s2.tr c2⟩
      | some v, hr =>
        rw [hr.1, hr.2, if_neg (show ¬ (1 : Int32) = 0 by decide)]
        obtain ⟨M', c1, c2⟩ := ih m (p + 1) M2 (some (if worth a wn 0 0 2 g 1 0 1 p 0 ≤ v then v else worth a wn 0 0 2 g 1 0 1 p 0)) 1 (if worth a wn 0 0 2 g 1 0 1 p 0 ≤ v then v else worth a wn 0 0 2 g 1 0 1 p 0) (by omega) (by omega) (fun M' h' => hM M' (s2.tr h')) h28 ⟨rfl, rfl⟩
        exact ⟨M', c1, s2.tr c2⟩
theorem gpX0 {I1 I2 I4 I5 I6 : SI} {J2 J4 J5 J6 : SJ} {r2 : Int32} {r5 r : Int64} (F : SI → SJ → Int64 → Int32 → Int64 → Int32 → Option (Int64 × SI × SJ)) (h1 : F_X4_lay I J 0 0 0 = some (I1, J)) (h2 : F_X7_findProof I1 J = some (r2, I2, J2)) (hn : ¬ r2 = -9) (h3 : F_X7_layProof I2 J2 r2 = some (I4, J4)) (h4 : F_X7_ownerWorth 58 I4 J4 = some (r5, I5, J5)) (h5 : F I5 J5 r5 (0 : Int32) (0 : Int64) (0 : Int32) = some (r, I6, J6)) :
    ((F_X4_lay I J (0 : Int32) (0 : Int32) (0 : Int32)).bind fun (I1, J1) => ((F_X7_findProof I1 J1).bind fun (r2, I2, J2) => (if r2 = (-9 : Int32) then (some ((-9 : Int64), I2, J2)) else ((F_X7_layProof I2 J2 r2).bind fun (I4, J4) => ((F_X7_ownerWorth 58 I4 J4).bind fun (r5, I5, J5) => (F I5 J5 r5 (0 : Int32) (0 : Int64) (0 : Int32))))))) = some (r, I6, J6) := by
  simp only [h1, h2, if_neg hn, h3, h4, h5, Option.bind_some]
theorem gpX {I1 I2 I4 I5 I6 : SI} {J2 J4 J5 J6 : SJ} {r2 : Int32} {r5 r : Int64} (h1 : F_X4_lay I J 0 0 0 = some (I1, J)) (h2 : F_X7_findProof I1 J = some (r2, I2, J2)) (hn : ¬ r2 = -9) (h3 : F_X7_layProof I2 J2 r2 = some (I4, J4)) (h4 : F_X7_ownerWorth 58 I4 J4 = some (r5, I5, J5)) (h5 : FL_X7_gap_48 3000 I5 J5 r5 (0 : Int32) (0 : Int64) (0 : Int32) = some (r, I6, J6)) : F_X7_gap I J = some (r, I6, J6) := by
  unfold F_X7_gap
  exact gpX0 (FL_X7_gap_48 3000) h1 h2 hn h3 h4 h5
theorem gpM0 {M2 M3 : SI} {N2 N3 : SJ} {r1 : Int32} {r : Int64} (F : SI → SJ → Int32 → Int64 → Int32 → Option (Int64 × SI × SJ)) (h1 : F_X8_findProof M N = some (r1, M2, N2)) (hn : 0 ≤ r1) (h2 : F M2 N2 (0 : Int32) (0 : Int64) (0 : Int32) = some (r, M3, N3)) :
    ((F_X8_findProof M N).bind fun (r1, I1, J1) => (if 0 ≤ r1 then (F I1 J1 (0 : Int32) (0 : Int64) (0 : Int32)) else (some ((-9 : Int64), I1, J1)))) = some (r, M3, N3) := by
  simp only [h1, if_pos hn, h2, Option.bind_some]
theorem gpM {M2 M3 : SI} {N2 N3 : SJ} {r1 : Int32} {r : Int64} (h1 : F_X8_findProof M N = some (r1, M2, N2)) (hn : 0 ≤ r1) (h2 : FL_X8_gap_18 3000 M2 N2 (0 : Int32) (0 : Int64) (0 : Int32) = some (r, M3, N3)) : F_X8_gap M N = some (r, M3, N3) := by
  unfold F_X8_gap
  exact gpM0 (FL_X8_gap_18 3000) h1 hn h2
theorem xGp (hO : OkF a st wn) (hpw : BdL pw (2 ^ 42)) (hX : XE I 0 a st wn) (hS : SL0 I a st wn) (J : SJ) : ∃ (I' : SI), FL_X7_gap_48 3000 I J pw 0 0 (nI 0) = some (gfin pw (gp (gF a wn) (st + 1) 0 none), I', J) ∧ FrP I I' :=
  xGp_l hO hpw (st + 1) 3000 0 I J none 0 0 (by omega) (by have := hO.1; omega) hX hS rfl (fun m h => by cases h)
theorem mGp (hO : OkF a st wn) (hM : ∀ M', SM M M' → ME M' a st wn) (h28 : N 0 28 = pw) : ∃ (M' : SI), FL_X8_gap_18 3000 M N 0 0 (nI 0) = some (gfin pw (gp (gF a wn) (st + 1) 0 none), M', N) ∧ SM M M' :=
  mGp_l hO (st + 1) 3000 0 M none 0 0 (by omega) (by have := hO.1; omega) hM h28 rfl
theorem st14 : St14 Rl := by
  intro I J M N hR
  obtain ⟨a, st, wn, te, tl, tx, rl, h⟩ := id hR
  obtain ⟨I1, l1, l2, l3, l4, l5⟩ := layR (d := 0) (gd := 0) h (by omega) (by omega) SX.rf J
  have l1' : F_X4_lay I J (0 : Int32) (0 : Int32) (0 : Int32) = some (I1, J) := l1
  obtain ⟨I2, J2, e1, e2⟩ := xFind h.1.1 l3 l4 J
  obtain ⟨M2, N2, g1, g2, g3⟩ := mFind h.1.1 (fun M' h' => (h.2.2.1.sm h').1) N
  have gd := pfold_good (T := pT a st wn) (W := pW a st wn) (o1 := 1000 * (nI (a 0 1)).toInt64) 74 0 none (by omega) (fun _ _ e => by cases e)
  generalize pfold (pT a st wn) (pW a st wn) (1000 * (nI (a 0 1)).toInt64) 74 0 none = s at *
  match s with
  | none =>
    have e1' : F_X7_findProof I1 J = some (-9, I2, J2) := e1
    have g1' : F_X8_findProof M N = some (-9, M2, N2) := g1
    exact ⟨_, I2, J2, M2, N2, (by simp only [F_X7_gap, l1', e1', Option.bind_some, ↓reduceIte] : F_X7_gap I J = some (-9, I2, J2)), by simp only [F_X8_gap, g1', Option.bind_some, if_neg (show ¬ 0 ≤ (-9 : Int32) by decide)], hR.same (l2.tr e2.sx) g2⟩
  | some (c, o) =>
    obtain ⟨j, j1, j2, j3⟩ := gd c o rfl
    have e1' : F_X7_findProof I1 J = some (nI c, I2, J2) := e1
    have g1' : F_X8_findProof M N = some (nI c, M2, N2) := g1
    have g3' : N2 0 28 = o := g3.2
    have hc := cd_le j1
    obtain ⟨I3, a1, a2, a3⟩ := xLayP (I := I2) (J := J2) j1
    rw [← j2] at a1
    have f3 := e2.tr a3
    obtain ⟨I4, J4, b1, b2⟩ := xOw (J := J2) h.1.1 (l3.fp f3) (l4.fp f3) (pOkT j1) a2
    have f4 := f3.tr b2
    have b1' : F_X7_ownerWorth 58 I3 J2 = some (o, I4, J4) := by rw [b1, j3]
    have hbo : BdL o (2 ^ 42) := by
      rw [j3]
      exact bd_worth h.1.1 (bp_le _ _)
    obtain ⟨I5, c1, c2⟩ := xGp (pw := o) h.1.1 hbo (l3.fp f4) (l4.fp f4) J4
    obtain ⟨M3, d1, d2⟩ := mGp (N := N2) (pw := o) h.1.1 (fun M' h' => (h.2.2.1.sm (g2.tr h')).1) g3'
    rw [show nI 0 = (0 : Int32) from rfl] at c1 d1
    generalize gfin o (gp (gF a wn) (st + 1) 0 none) = r at c1 d1
    exact ⟨r, I5, J4, M3, N2, gpX l1' e1' (n9 (show c < 2 ^ 31 by omega)) a1 b1' c1, gpM g1' (nI_pos' (show c < 2 ^ 31 by omega)) d1, hR.same (l2.tr (f4.tr c2).sx) (g2.tr d2)⟩
end S28
