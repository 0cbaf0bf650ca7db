def nr4 (v4 v5 v6 v7 : Int32) : Int32 := f2 (f2 (rng v4 0 99) (rng v6 1 30)) (f2 (rng v5 0 999) (rng v7 1 50))
theorem ruinsM0 (G : Int32 → Option (Int32 × SI × SJ)) (v4 v5 v6 v7 : Int32) : (if v4 < 0 then G (-4) else if v5 < 0 then G (-4) else if v6 < 1 then G (-4) else if 1 ≤ v7 then (if 99 < v4 then G (-6) else if 999 < v5 then G (-6) else if 30 < v6 then G (-6) else G (if v7 ≤ 50 then 0 else -6)) else G (-4)) = G (nr4 v4 v5 v6 v7) := by
  unfold nr4
  by_cases c1 : v4 < 0
  · rw [if_pos c1, rng_lo c1, f2_l, f2_l]
  rw [if_neg c1]
  by_cases c2 : v5 < 0
  · rw [if_pos c2, rng_lo c2, f2_l, f2_r]
  rw [if_neg c2]
  by_cases c3 : v6 < 1
  · rw [if_pos c3, rng_lo c3, f2_r, f2_l]
  rw [if_neg c3]
  by_cases c4 : v7 < 1
  · rw [if_neg (Int32.not_le.mpr c4), rng_lo c4, f2_r, f2_r]
  rw [if_pos (Int32.not_lt.mp c4), rng_c2 c1, rng_c2 c2, rng_c2 c3, rng_c2 c4]
  have e66 : ∀ x y z : Int32, (x = 0 ∨ x = -6) → (y = 0 ∨ y = -6) → (z = 0 ∨ z = -6) → f2 (f2 (-6) x) (f2 y z) = -6 ∧ f2 (f2 x (-6)) (f2 y z) = -6 ∧ f2 (f2 x y) (f2 (-6) z) = -6 ∧ f2 (f2 0 0) (f2 0 z) = z := fun x y z hx hy hz => by
    rcases hx with rfl | rfl <;> rcases hy with rfl | rfl <;> rcases hz with rfl | rfl <;> decide
  have t : ∀ (b : Prop) [Decidable b], (if b then (-6 : Int32) else 0) = 0 ∨ (if b then (-6 : Int32) else 0) = -6 := fun b _ => by
    by_cases h : b
    · rw [if_pos h]; exact Or.inr rfl
    · rw [if_neg h]; exact Or.inl rfl
  by_cases d1 : (99 : Int32) < v4
  · rw [if_pos d1, if_pos d1, (e66 _ _ _ (t _) (t _) (t _)).1]
  rw [if_neg d1, if_neg d1]
  by_cases d2 : (999 : Int32) < v5
  · rw [if_pos d2, if_pos d2, (e66 _ _ _ (Or.inl rfl) (t _) (t _)).2.2.1]
  rw [if_neg d2, if_neg d2]
  by_cases d3 : (30 : Int32) < v6
  · rw [if_pos d3, if_pos d3, (e66 _ _ _ (Or.inl rfl) (Or.inl rfl) (t _)).2.1]
  rw [if_neg d3, if_neg d3, (e66 0 0 _ (Or.inl rfl) (Or.inl rfl) (t _)).2.2.2]
  by_cases d4 : (50 : Int32) < v7
  · rw [if_neg (Int32.not_le.mpr d4), if_pos d4]
  · rw [if_pos (Int32.not_lt.mp d4), if_neg d4]
section S23
variable {I M : SI} {J N : SJ} {a : NN} {st wn te tl rl k A B Q t p : Nat} {tx : Nat → Nat}
theorem ruinsT0 {M1 M2 : SI} {v1 v2 v3 v4 v5 v6 v7 r : Int32} (F : SI → SJ → Int32 → Int32 → Int32 → Int32 → Int32 → Int32 → Int32 → Int32 → Option (Int32 × SI × SJ)) (h : F_X8_takesTerm M N v1 = some (M1, N)) (hF : F M1 N v2 v3 v4 v5 v6 v7 (0 : Int32) (0 : Int32) = some (r, M2, N)) : ((F_X8_takesTerm M N v1).bind fun (I35, J35) => (F I35 J35 v2 v3 v4 v5 v6 v7 (0 : Int32) (0 : Int32))) = some (r, M2, N) := by
  rw [h, Option.bind_some]
  exact hF
theorem ruinsM {v1 v2 v3 v4 v5 v6 v7 : Int32} (ep : F_X8_isPains M N v1 v2 = some 1) : F_X8_ruins M N v1 v2 v3 v4 v5 v6 v7 = (if nr4 v4 v5 v6 v7 = 0 then ((F_X8_takesTerm M N v1).bind fun (I35, J35) => (FL_X8_ruins_102 3000 I35 J35 v2 v3 v4 v5 v6 v7 (0 : Int32) (0 : Int32))) else ((F_X8_no M N (nr4 v4 v5 v6 v7)).bind fun (r36, I36, J36) => (some (r36, I36, J36)))) := by
  unfold F_X8_ruins
  rw [ep, Option.bind_some, if_neg (show ¬ (1 : Int32) = 0 by decide)]
  exact ruinsM0 (fun r => if r = 0 then ((F_X8_takesTerm M N v1).bind fun (I35, J35) => (FL_X8_ruins_102 3000 I35 J35 v2 v3 v4 v5 v6 v7 (0 : Int32) (0 : Int32))) else ((F_X8_no M N r).bind fun (r36, I36, J36) => (some (r36, I36, J36)))) v4 v5 v6 v7
theorem rcX_l (hO : OkF a st wn) (hX : XE I 0 a st wn) (hT : OkT k A B Q) (hXT : XT I t k A B Q) (hS : SL0 I a st wn) (hp : p ≤ st) {c e : Nat} (hc : c ≤ 30) (he : e ≤ 50) (z lf cr : Int32) {f : Nat → Int32} (hf : ∀ i, f i = rv (gy a wn k A B Q p lf) cr c 0 (z + nI i) 0) :
    ∀ (d n i : Nat) (x : Int32), i + d = e → d < n → FL_X7_ruins_92 n I J (nI p) z lf cr (nI c) (nI e) t x (nI i) = some (rc f d i x, I, J) := by
  intro d
  induction d with
  | zero =>
    intro n i x hi hn
    obtain ⟨n, rfl⟩ := suc hn
    rw [FL_X7_ruins_92, if_pos (nI_le (by omega) (by omega))]
    rfl
  | succ d ih =>
    intro n i x hi hn
    obtain ⟨n, rfl⟩ := suc hn
    rw [FL_X7_ruins_92, if_neg (nI_ge (by omega) (by omega)), rvX hO hX hT hXT hS hp hc, Option.bind_some, ← hf i, nI_1]
    unfold rc
    by_cases c1 : f i = -9
    · rw [if_pos c1, if_pos c1]
      exact ih n (i + 1) _ (by omega) (by omega)
    · rw [if_neg c1, if_neg c1]
      exact ih n (i + 1) _ (by omega) (by omega)
theorem rcM_l (hO : OkF a st wn) (hT : OkT k A B Q) (hp : p ≤ st) {c e : Nat} (hc : c ≤ 30) (he : e ≤ 50) (z lf cr : Int32) {f : Nat → Int32} (hf : ∀ i, f i = rv (gy a wn k A B Q p lf) cr c 0 (z + nI i) 0) :
    ∀ (d n i : Nat) (x : Int32) (M : SI), i + d = e → d < n → ME M a st wn → HD M k A B Q 0 0 → ∃ M' : SI, FL_X8_ruins_102 n M N (nI p) z lf cr (nI c) (nI e) x (nI i) = some (rc f d i x, M', N) ∧ D3 M M' := by
  intro d
  induction d with
  | zero =>
    intro n i x M hi hn hM hH
    obtain ⟨n, rfl⟩ := suc hn
    rw [FL_X8_ruins_102, if_pos (nI_le (by omega) (by omega))]
    exact ⟨M, rfl, D3.rf⟩
  | succ d ih =>
    intro n i x M hi hn hM hH
    obtain ⟨n, rfl⟩ := suc hn
    obtain ⟨M1, g1, g2, g3, g4⟩ := gyM hO hM hH hT hp hc (z + nI i) lf cr N
    rw [FL_X8_ruins_102, if_neg (nI_ge (by omega) (by omega)), g1, Option.bind_some]
    show ∃ M' : SI, FL_X8_ruins_102 n M1 N (nI p) z lf cr (nI c) (nI e) (x + (if M1 0 34 < 0 then (0 : Int32) else (1 : Int32))) (nI i + 1) = _ ∧ _
    rw [g4, ← hf i, nI_1]
    unfold rc
    obtain ⟨M', a1, a2⟩ := ih n (i + 1) (if f i = -9 then x else x + 1) M1 (by omega) (by omega) (hM.d3 g2) (hH.d3 g2)
    have ex : x + (if f i < 0 then (0 : Int32) else (1 : Int32)) = if f i = -9 then x else x + 1 := by
      rcases rv_c (g := gy a wn k A B Q p lf) (cr := cr) c 0 (z + nI i) 0 (by omega) with h | ⟨c', hc', h⟩
      · rw [← hf i] at h
        rw [h, if_pos (by decide), if_pos rfl, Int32.add_zero]
      · rw [← hf i] at h
        rw [h, if_neg (nI_pos (by omega)), if_neg (n9 (by omega))]
    rw [ex]
    exact ⟨M', a1, g2.tr a2⟩
theorem rnX0 {I' I2 : SI} {J' J2 : SJ} {v1 v2 v3 v4 v5 v6 v7 r5 r6 r7 r8 : Int32} {t : Nat} {r : Int32} (F : SI → SJ → Int32 → Int32 → Int32 → Int32 → Int32 → Int32 → Nat → Int32 → Int32 → Option (Int32 × SI × SJ)) (h1 : F_X1_termAt 0 I J v1 = some (some t)) (h2 : F_X1_hasPains 0 I J v2 = some 1) (h5 : F_X7_refusalOfDebts v4 v6 = some r5) (h6 : F_X7_inRange v5 0 999 = some r6) (h7 : F_X7_inRange v7 1 50 = some r7) (h8 : F_X7_first r6 r7 = some r8) (h9 : F_X7_first r5 r8 = some 0) (h4 : F_X4_lay I J 0 0 0 = some (I', J')) (hF : F I' J' v2 v3 v4 v5 v6 v7 t (0 : Int32) (0 : Int32) = some (r, I2, J2)) :
    ((F_X1_termAt 0 I J v1).bind fun r1 => (match r1 with | none => ((F_X7_refuse I J (-1 : Int32)).bind fun (r2, I2, J2) => (some (r2, I2, J2))) | some t1 => ((F_X1_hasPains 0 I J v2).bind fun r3 => (if r3 = 0 then ((F_X7_refuse I J (-1 : Int32)).bind fun (r16, I16, J16) => (some (r16, I16, J16))) else ((F_X7_refusalOfDebts v4 v6).bind fun r5 => ((F_X7_inRange v5 (0 : Int32) (999 : Int32)).bind fun r6 => ((F_X7_inRange v7 (1 : Int32) (50 : Int32)).bind fun r7 => ((F_X7_first r6 r7).bind fun r8 => ((F_X7_first r5 r8).bind fun r9 => (if r9 = 0 then ((F_X4_lay I J (0 : Int32) (0 : Int32) (0 : Int32)).bind fun (I11, J11) => (F I11 J11 v2 v3 v4 v5 v6 v7 t1 (0 : Int32) (0 : Int32))) else ((F_X7_refuse I J r9).bind fun (r15, I15, J15) => (some (r15, I15, J15))))))))))))) = some (r, I2, J2) := by
  simp only [h1, h2, h4, h5, h6, h7, h8, h9, hF, Option.bind_some, i10, ↓reduceIte]
theorem rnX {I' I2 : SI} {J' J2 : SJ} {v1 v2 v3 v4 v5 v6 v7 r5 r6 r7 r8 : Int32} {t : Nat} {r : Int32} (h1 : F_X1_termAt 0 I J v1 = some (some t)) (h2 : F_X1_hasPains 0 I J v2 = some 1) (h5 : F_X7_refusalOfDebts v4 v6 = some r5) (h6 : F_X7_inRange v5 0 999 = some r6) (h7 : F_X7_inRange v7 1 50 = some r7) (h8 : F_X7_first r6 r7 = some r8) (h9 : F_X7_first r5 r8 = some 0) (h4 : F_X4_lay I J 0 0 0 = some (I', J')) (hF : FL_X7_ruins_92 3000 I' J' v2 v3 v4 v5 v6 v7 t (0 : Int32) (0 : Int32) = some (r, I2, J2)) : F_X7_ruins I J v1 v2 v3 v4 v5 v6 v7 = some (r, I2, J2) := by
  unfold F_X7_ruins
  exact rnX0 (FL_X7_ruins_92 3000) h1 h2 h5 h6 h7 h8 h9 h4 hF
theorem rcX0 (hO : OkF a st wn) (hX : XE I 0 a st wn) (hT : OkT k A B Q) (hXT : XT I t k A B Q) (hS : SL0 I a st wn) (hp : p ≤ st) {c e : Nat} (hc : c ≤ 30) (he : e ≤ 50) (z lf cr : Int32) : FL_X7_ruins_92 3000 I J (nI p) z lf cr (nI c) (nI e) t 0 (nI 0) = some (rc (fun i => rv (gy a wn k A B Q p lf) cr c 0 (z + nI i) 0) e 0 0, I, J) := rcX_l hO hX hT hXT hS hp hc he z lf cr (fun _ => rfl) e 3000 0 0 (by omega) (by omega)
theorem rcM0 (hO : OkF a st wn) (hM : ME M a st wn) (hH : HD M k A B Q 0 0) (hT : OkT k A B Q) (hp : p ≤ st) {c e : Nat} (hc : c ≤ 30) (he : e ≤ 50) (z lf cr : Int32) (N : SJ) : ∃ M' : SI, FL_X8_ruins_102 3000 M N (nI p) z lf cr (nI c) (nI e) 0 (nI 0) = some (rc (fun i => rv (gy a wn k A B Q p lf) cr c 0 (z + nI i) 0) e 0 0, M', N) ∧ D3 M M' := rcM_l hO hT hp hc he z lf cr (fun _ => rfl) e 3000 0 0 M (by omega) (by omega) hM hH
theorem st26 : St26 Rl := by
  intro I J M N v1 v2 v3 v4 v5 v6 v7 hR
  obtain ⟨a, st, wn, te, tl, tx, rl, h⟩ := id hR
  have no1 : ∃ (I1 M1 : SI), F_X7_refuse I J (-1) = some (-1, I1, J) ∧ F_X8_no M N (-1) = some (-1, M1, N) ∧ Rl I1 J M1 N := bNo hR (by decide)
  rcases termC (J := J) (N := N) h v1 with ⟨hx, hm⟩ | ⟨i, hi, rfl, hx, hm⟩
  · obtain ⟨I1, M1, h1, h2, h3⟩ := no1
    have ep : F_X8_isPains M N v1 v2 = some 0 := by simp only [F_X8_isPains, hm, Option.bind_some, i00, ↓reduceIte]
    exact ⟨_, I1, J, M1, N, (by simp only [F_X7_ruins, hx, Option.bind_some, h1] : F_X7_ruins I J v1 v2 v3 v4 v5 v6 v7 = some (-1, I1, J)), by unfold F_X8_ruins; rw [ep, Option.bind_some, if_pos rfl, h2, Option.bind_some], h3⟩
  rcases painsC (J := J) h I rfl v2 with ⟨px, pm⟩ | ⟨p, hp, rfl, px, pm⟩
  · obtain ⟨I1, M1, h1, h2, h3⟩ := no1
    have ep : F_X8_isPains M N (nI i) v2 = some 0 := by simp only [F_X8_isPains, hm, pm, Option.bind_some, i10, i00, ↓reduceIte]
    exact ⟨_, I1, J, M1, N, (by simp only [F_X7_ruins, hx, px, Option.bind_some, i00, ↓reduceIte, h1] : F_X7_ruins I J (nI i) v2 v3 v4 v5 v6 v7 = some (-1, I1, J)), by unfold F_X8_ruins; rw [ep, Option.bind_some, if_pos rfl, h2, Option.bind_some], h3⟩
  have ep : F_X8_isPains M N (nI i) (nI p) = some 1 := by simp only [F_X8_isPains, hm, pm, Option.bind_some, i10, ↓reduceIte]
  have hM := ruinsM (v3 := v3) (v4 := v4) (v5 := v5) (v6 := v6) (v7 := v7) ep
  have db := dbX v4 v6
  have b1 := f2_0 (rng_3 v4 0 99) (rng_3 v6 1 30)
  have b2 := f2_0 (rng_3 v5 0 999) (rng_3 v7 1 50)
  have b3 := f2_0 b1.1 b2.1
  have rx := rngX v5 0 999
  have ry := rngX v7 1 50
  have fr2 := frs (rng v5 0 999) (rng v7 1 50)
  have fr := frs (f2 (rng v4 0 99) (rng v6 1 30)) (f2 (rng v5 0 999) (rng v7 1 50))
  rw [show f2 (f2 (rng v4 0 99) (rng v6 1 30)) (f2 (rng v5 0 999) (rng v7 1 50)) = nr4 v4 v5 v6 v7 from rfl] at fr b3
  rcases b3.1 with r0 | r46
  · rw [r0, if_pos rfl] at hM
    rw [r0] at fr
    obtain ⟨c, hc, rfl⟩ := of_rng1 (hi := 30) (n := 30) (by decide) (b1.2 (b3.2 r0).1).2
    obtain ⟨e, he, rfl⟩ := of_rng1 (hi := 50) (n := 50) (by decide) (b2.2 (b3.2 r0).2).2
    obtain ⟨I', l1, l2, l3, l4, l5⟩ := layR (d := 0) (gd := 0) h (by omega) (by omega) SX.rf J
    have l1' : F_X4_lay I J (0 : Int32) (0 : Int32) (0 : Int32) = some (I', J) := l1
    obtain ⟨M1, t1, t2, t3⟩ := takeM (N := N) h hi
    have hT := h.1.2.2.2 i hi
    have e1 := rcX0 (J := J) h.1.1 l3 hT (xtL h l2 hi) l4 hp hc he v3 v4 v5
    obtain ⟨M2, g1, g2⟩ := rcM0 h.1.1 (h.2.2.1.sm t3).1 t2 hT hp hc he v3 v4 v5 N
    rw [show nI 0 = (0 : Int32) from rfl] at e1 g1
    generalize rc (fun j => rv (gy a wn (a 5 i) (a 6 i) (a 7 i) (a 8 i) p v4) v5 c 0 (v3 + nI j) 0) e 0 0 = r at e1 g1
    refine ⟨r, I', J, M2, N, rnX hx px db rx ry fr2 fr l1' e1, ?_, hR.same l2 (t3.tr g2.sm)⟩
    exact hM.trans (ruinsT0 (FL_X8_ruins_102 3000) t1 g1)
  · obtain ⟨I1, M1, h1, h2, h3⟩ := bNo hR (v := nr4 v4 v5 v6 v7) (by rcases r46 with e | e <;> rw [e] <;> decide)
    have hn := neg46 r46
    rw [if_neg hn] at hM
    refine ⟨nr4 v4 v5 v6 v7, I1, J, M1, N, by simp only [F_X7_ruins, hx, px, db, rx, ry, fr2, fr, Option.bind_some, i10, if_neg hn, ↓reduceIte, h1], ?_, h3⟩
    rw [hM, h2, Option.bind_some]
end S23
