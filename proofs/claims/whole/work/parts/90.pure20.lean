def jd (f : Nat → Nat → Int32) (row : Nat → Int32) : Nat → Nat → Int32 → Int32
  | 0, _, _ => -9
  | n + 1, i, s => if f i (dx (s * 1103515245 + 12345)) = row i then jd f row n (i + 1) (s * 1103515245 + 12345) else nI i
section S20
variable {I M : SI} {J N : SJ} {a : NN} {st wn te tl rl p : Nat} {tx : Nat → Nat}
theorem dw_lt (hs : sm (chA a wn) (nW a wn) = 100) : ∀ (d w r : Nat), w + d = nW a wn → sm (chA a wn) w + r < 100 → dw (chA a wn) d r w < nW a wn := by
  intro d
  induction d with
  | zero =>
    intro w r hw hr
    rw [show w = nW a wn by omega, hs] at hr
    omega
  | succ d ih =>
    intro w r hw hr
    unfold dw
    by_cases c : r < chA a wn w
    · rw [if_pos c]; omega
    · rw [if_neg c]
      have hm2 : sm (chA a wn) (w + 1) = sm (chA a wn) w + chA a wn w := rfl
      exact ih (w + 1) (r - chA a wn w) (by omega) (by omega)
theorem Ro.row0 (h : Ro I M a st wn te tl tx rl) : Ro (u2 I 59 10 (0 : Int32)) (u2 M 0 36 (0 : Int32)) a st wn te tl tx 0 := by
  obtain ⟨hO, hX, hM, hT, hW, hr, ht, hi, h48⟩ := h
  have ex : ∀ z, z ≠ 59 → u2 I 59 10 (0 : Int32) z = I z := fun z hz => u1_ne hz
  obtain ⟨z1, z2, z3⟩ := u2z (M := M) (j := 36) (v := (0 : Int32))
  have e59 : ∀ j, j ≠ 10 → u2 I 59 10 (0 : Int32) 59 j = I 59 j := fun j hj => by
    show u1 _ 59 (upd _ 10 _) 59 j = _
    rw [u1_at, pk_un hj]
  refine ⟨hO, hX.at hO.2.2.1 (fun z _ hz => ex z (by omega)), hM.mv (fun z a _ => z1 z a) (fun j hj => z2 j (by omega)), ⟨hT.1, ?_, ?_, fun k hk => ?_⟩, ⟨by omega, ?_, z3, fun k hk => absurd hk (by omega)⟩, fun k hk => ?_, fun k hk => ?_, ?_, ?_⟩
  · rw [ex 45 (by omega)]; exact hT.2.1
  · rw [z2 14 (by omega)]; exact hT.2.2.1
  · rw [ex 46 (by omega), z1 8 (by omega)]; exact hT.2.2.2 k hk
  · show u1 _ 59 (upd _ 10 _) 59 10 = _
    rw [u1_at, pk_us]
    rfl
  · rw [ex 61 (by omega), z1 1 (by omega)]; exact hr k hk
  · rw [z1 3 (by omega)]; exact ht k hk
  · unfold IM
    rw [e59 11 (by omega), z2 38 (by omega), z1 21 (by omega)]
    rcases hi with h1 | ⟨h1, h2, b, st', wn', te', g1, g2, g3⟩
    · exact Or.inl h1
    · exact Or.inr ⟨h1, h2, b, st', wn', te', g1, g2.at g1.2.2.1 (fun z _ hz => ex z (by omega)), g3⟩
  · rw [ex 48 (by omega)]; exact h48
theorem jdX_l (hO : OkF a st wn) (hS : SL0 I a st wn) (hp : p ≤ st) (h10 : I 59 10 = nI rl) (hrl : rl ≤ 16) : ∀ (d n i : Nat) (s : Int32), i + d = rl → d + 1 < n → FL_X7_judge_36 n I J (nI p) (-9 : Int32) s (nI i) = some (jd (fun _ x => nI (harv a wn 0 0 p (dw (chA a wn) (nW a wn) x 0))) (I 60) d i s, u2 I 59 10 (0 : Int32), J) := by
  have h8 := (nW_le hO).1
  have hs := smch (a := a) (wn := wn) hO.2.2.2.2.2
  obtain ⟨g1, g2, g3, g4, g5, g6⟩ := hS
  intro d
  induction d with
  | zero =>
    intro n i s hi hn
    obtain ⟨n, rfl⟩ := suc hn
    rw [FL_X7_judge_36, h10, if_pos (nI_le (by omega) (by omega))]
    rfl
  | succ d ih =>
    intro n i s hi hn
    obtain ⟨n, rfl⟩ := suc hn
    have hw := dw_lt hs (nW a wn) 0 (dx (s * 1103515245 + 12345)) (by omega) (by show 0 + _ < 100; have := dx_lt (s * 1103515245 + 12345); omega)
    have hst := hO.1
    have e1 : F_X4_harvestOf I J (nI p) (nI (dw (chA a wn) (nW a wn) (dx (s * 1103515245 + 12345)) 0)) = some (nI (harv a wn 0 0 p (dw (chA a wn) (nW a wn) (dx (s * 1103515245 + 12345)) 0))) := by
      unfold F_X4_harvestOf
      have e2 : nI p * (8 : Int32) + nI (dw (chA a wn) (nW a wn) (dx (s * 1103515245 + 12345)) 0) = nI (p * 8 + dw (chA a wn) (nW a wn) (dx (s * 1103515245 + 12345)) 0) := by
        show nI p * nI 8 + _ = _
        rw [pk_mul, nI_add]
      rw [e2, pAt (by omega) (by omega), g6 p _ hp hw]
      rfl
    rw [FL_X7_judge_36, h10, if_neg (nI_ge (by omega) (by omega)), if_pos rfl, F_X7_draw, Option.bind_some, drX hO g2 g4, Option.bind_some, e1, Option.bind_some, pAt (by omega) (by omega), Option.bind_some, nI_1]
    unfold jd
    by_cases c : nI (harv a wn 0 0 p (dw (chA a wn) (nW a wn) (dx (s * 1103515245 + 12345)) 0)) = I 60 i
    · rw [if_pos c, if_pos c]
      exact ih n (i + 1) _ (by omega) (by omega)
    · rw [if_neg c, if_neg c]
      obtain ⟨n, rfl⟩ := suc (show d < n by omega)
      rw [FL_X7_judge_36, h10]
      by_cases c2 : nI rl ≤ nI (i + 1)
      · rw [if_pos c2]
      · rw [if_neg c2, if_neg (n9 (by omega))]
theorem jdM_l (hO : OkF a st wn) (hp : p ≤ st) (hrl : rl ≤ 16) {row : Nat → Int32} : ∀ (d n i : Nat) (M : SI), i + d = rl → d < n → (∀ v, ME (u2 M 0 32 v) a st wn) → M 0 26 = nI 0 → M 0 27 = nI 0 → M 20 = row → ∃ M' : SI, FL_X8_judge_46 n M N (nI p) (nI rl) (nI i) = some (jd (fun _ x => nI (harv a wn 0 0 p (dw (chA a wn) (nW a wn) x 0))) row d i (M 0 32), M', N) ∧ SM M M' := by
  have h8 := (nW_le hO).1
  have hs := smch (a := a) (wn := wn) hO.2.2.2.2.2
  intro d
  induction d with
  | zero =>
    intro n i M hi hn hM h26 h27 hw
    obtain ⟨n, rfl⟩ := suc hn
    refine ⟨M, ?_, SM.rf⟩
    rw [FL_X8_judge_46, if_pos (nI_le (by omega) (by omega))]
    rfl
  | succ d ih =>
    intro n i M hi hn hM h26 h27 hw
    obtain ⟨n, rfl⟩ := suc hn
    obtain ⟨z1, z2, z3⟩ := u2z (M := M) (j := 32) (v := M 0 32 * 1103515245 + 12345)
    have hwl := dw_lt hs (nW a wn) 0 (dx (M 0 32 * 1103515245 + 12345)) (by omega) (by show 0 + _ < 100; have := dx_lt (M 0 32 * 1103515245 + 12345); omega)
    have e1 := mReapG (N := N) (d := 0) (gd := 0) hO (hM (M 0 32 * 1103515245 + 12345)) ((z2 26 (by omega)).trans h26) ((z2 27 (by omega)).trans h27) (by omega) (by omega) hp (show dw (chA a wn) (nW a wn) (dx (M 0 32 * 1103515245 + 12345)) 0 < 8 by omega)
    have s1 : SM M (u2 M 0 32 (M 0 32 * 1103515245 + 12345)) := sm0 (by omega) _
    rw [FL_X8_judge_46, if_neg (nI_ge (by omega) (by omega)), drM hO hM, Option.bind_some]
    show ∃ M' : SI, ((F_X8_reaped (u2 M 0 32 (M 0 32 * 1103515245 + 12345)) N (nI p) (nI (dw (chA a wn) (nW a wn) (dx (M 0 32 * 1103515245 + 12345)) 0))).bind _) = _ ∧ _
    rw [e1, Option.bind_some, if_pos (gin_nI (by omega) (by omega)), nI_clamp (by omega), z1 20 (by omega), hw, nI_1]
    unfold jd
    by_cases c : nI (harv a wn 0 0 p (dw (chA a wn) (nW a wn) (dx (M 0 32 * 1103515245 + 12345)) 0)) = row i
    · rw [if_pos c, if_pos c]
      obtain ⟨M', a1, a2⟩ := ih n (i + 1) (u2 M 0 32 (M 0 32 * 1103515245 + 12345)) (by omega) (by omega) (fun v => by rw [u2u2]; exact hM v) ((z2 26 (by omega)).trans h26) ((z2 27 (by omega)).trans h27) ((z1 20 (by omega)).trans hw)
      rw [z3] at a1
      exact ⟨M', a1, s1.tr a2⟩
    · rw [if_neg c, if_neg c]
      exact ⟨_, rfl, s1⟩
end S20
