/-- which WEATHER is drawn -/
def dw (f : Nat → Nat) : Nat → Nat → Nat → Nat
  | 0, _, w => w
  | n + 1, r, w => if r < f w then w else dw f n (r - f w) (w + 1)
/-- the number that a seed draws -/
def dx (v : Int32) : Nat := v.toBitVec.toNat % 2 ^ 31 / 65536 % 100
theorem dx_lt (v : Int32) : dx v < 100 := Nat.mod_lt _ (by omega)
theorem dx_eq (v : Int32) : (v &&& (2147483647 : Int32)) / (65536 : Int32) - (v &&& (2147483647 : Int32)) / (65536 : Int32) / (100 : Int32) * (100 : Int32) = nI (dx v) := by
  have e1 : v &&& (2147483647 : Int32) = nI (v.toBitVec.toNat % 2 ^ 31) := pk_and v 31 (by decide)
  have h1 : v.toBitVec.toNat % 2 ^ 31 < 2 ^ 31 := Nat.mod_lt _ (by omega)
  have e2 : nI (v.toBitVec.toNat % 2 ^ 31) / (65536 : Int32) = nI (v.toBitVec.toNat % 2 ^ 31 / 65536) := pk_div (d := 65536) h1 (by omega) (by omega)
  have h2 : v.toBitVec.toNat % 2 ^ 31 / 65536 < 2 ^ 31 := Nat.lt_of_le_of_lt (Nat.div_le_self _ _) h1
  rw [e1, e2]
  exact pk_rem (d := 100) h2 (by omega) (by omega)
section S19
variable {I M : SI} {J N : SJ} {a : NN} {st wn : Nat}
theorem smch (hs : sm (a 3) wn ≤ 100) : sm (chA a wn) (nW a wn) = 100 := by
  have e : sm (chA a wn) wn = sm (a 3) wn := sm_congr wn (fun k hk => if_pos hk)
  unfold nW
  by_cases c : sm (a 3) wn < 100
  · rw [if_pos c]
    show sm (chA a wn) wn + chA a wn wn = 100
    rw [e, show chA a wn wn = 100 - sm (a 3) wn from if_neg (by omega)]
    omega
  · rw [if_neg c, e]
    omega
theorem drX_l (hO : OkF a st wn) (h6 : I 47 6 = nI (nW a wn)) (h49 : ∀ w, w < nW a wn → I 49 w = nI (chA a wn w)) : ∀ (d n w r : Nat), w + d = nW a wn → d < n → sm (chA a wn) w + r < 100 → FL_X4_weatherBy_16 n I J (nI (sm (chA a wn) w + r)) (nI (sm (chA a wn) w)) (nI w) = some (nI (dw (chA a wn) d r w)) := by
  have h8 := (nW_le hO).1
  have hs := smch (a := a) (wn := wn) hO.2.2.2.2.2
  intro d
  induction d with
  | zero =>
    intro n w r hw hn hr
    rw [show w = nW a wn by omega, hs] at hr
    omega
  | succ d ih =>
    intro n w r hw hn hr
    obtain ⟨n, rfl⟩ := suc hn
    have e3 : F_X4_chanceOf I J (nI w) = some (nI (chA a wn w)) := by
      unfold F_X4_chanceOf
      rw [pAt (by omega) (by omega), h49 w (by omega)]
      rfl
    have hm : sm (chA a wn) (w + 1) ≤ 100 := by rw [← hs]; exact sm_mono _ (by omega)
    have hm2 : sm (chA a wn) (w + 1) = sm (chA a wn) w + chA a wn w := rfl
    rw [FL_X4_weatherBy_16, h6, if_neg (nI_ge (by omega) (by omega)), e3, Option.bind_some, nI_add]
    unfold dw
    by_cases c : r < chA a wn w
    · rw [if_pos c, if_neg (nI_ge (by omega) (by omega))]
    · rw [if_neg c, if_pos (nI_le (by omega) (by omega)), nI_1, ← hm2]
      have e := ih n (w + 1) (r - chA a wn w) (by omega) (by omega) (by omega)
      rw [show sm (chA a wn) (w + 1) + (r - chA a wn w) = sm (chA a wn) w + r by omega] at e
      exact e
theorem drX (hO : OkF a st wn) (h6 : I 47 6 = nI (nW a wn)) (h49 : ∀ w, w < nW a wn → I 49 w = nI (chA a wn w)) (v : Int32) : F_X4_weatherBy I J v = some (nI (dw (chA a wn) (nW a wn) (dx v) 0)) := by
  have h8 := (nW_le hO).1
  have hx := dx_lt v
  have e := drX_l (J := J) hO h6 h49 (nW a wn) 3000 0 (dx v) (by omega) (by omega) (by show 0 + dx v < 100; omega)
  rw [show sm (chA a wn) 0 + dx v = dx v from Nat.zero_add _, show sm (chA a wn) 0 = 0 from rfl, show nI 0 = (0 : Int32) from rfl] at e
  unfold F_X4_weatherBy
  rw [dx_eq]
  exact e
theorem drM_l (hO : OkF a st wn) (hM : ME M a st wn) : ∀ (d n w r : Nat), w + d = nW a wn → d < n → sm (chA a wn) w + r < 100 → FL_X8_drawn_34 n M N (nI r) (nI w) = some (nI (dw (chA a wn) d r w), M, N) := by
  have h8 := (nW_le hO).1
  have hs := smch (a := a) (wn := wn) hO.2.2.2.2.2
  intro d
  induction d with
  | zero =>
    intro n w r hw hn hr
    rw [show w = nW a wn by omega, hs] at hr
    omega
  | succ d ih =>
    intro n w r hw hn hr
    obtain ⟨n, rfl⟩ := suc hn
    have hm : sm (chA a wn) (w + 1) ≤ 100 := by rw [← hs]; exact sm_mono _ (by omega)
    have hm2 : sm (chA a wn) (w + 1) = sm (chA a wn) w + chA a wn w := rfl
    rw [FL_X8_drawn_34, mChance hO hM (by omega), Option.bind_some, Option.bind_some]
    unfold dw
    by_cases c : r < chA a wn w
    · rw [if_pos c, if_pos (nI_lt c (by omega))]
    · rw [if_neg c, if_neg (nI_nlt (by omega) (by omega)), pk_sub (by omega), nI_1]
      exact ih n (w + 1) (r - chA a wn w) (by omega) (by omega) (by omega)
theorem drM (hO : OkF a st wn) (hM : ∀ v, ME (u2 M 0 32 v) a st wn) : F_X8_drawn M N = some (nI (dw (chA a wn) (nW a wn) (dx (M 0 32 * 1103515245 + 12345)) 0), u2 M 0 32 (M 0 32 * 1103515245 + 12345), N) := by
  have h8 := (nW_le hO).1
  have hx := dx_lt (M 0 32 * 1103515245 + 12345)
  have e := drM_l (N := N) hO (hM (M 0 32 * 1103515245 + 12345)) (nW a wn) 3000 0 (dx (M 0 32 * 1103515245 + 12345)) (by omega) (by omega) (by show 0 + _ < 100; omega)
  rw [show nI 0 = (0 : Int32) from rfl] at e
  unfold F_X8_drawn
  rw [(u2z (M := M) (j := 32) (v := M 0 32 * 1103515245 + 12345)).2.2, dx_eq]
  exact e
end S19
