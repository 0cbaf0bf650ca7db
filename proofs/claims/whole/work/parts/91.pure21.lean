theorem jd_congr {f : Nat → Nat → Int32} {row row' : Nat → Int32} : ∀ (d i : Nat) (s : Int32), (∀ k, i ≤ k → k < i + d → row k = row' k) → jd f row d i s = jd f row' d i s := by
  intro d
  induction d with
  | zero => intro i s _; rfl
  | succ d ih =>
    intro i s h
    unfold jd
    rw [h i (by omega) (by omega), ih (i + 1) (s * 1103515245 + 12345) (fun k a b => h k (by omega) (by omega))]
theorem st28 : St28 Rl := by
  intro I J M N v1 v2 hR
  obtain ⟨a, st, wn, te, tl, tx, rl, h⟩ := id hR
  rcases painsC (J := J) h I rfl v1 with ⟨px, pm⟩ | ⟨p, hp, rfl, px, pm⟩
  · obtain ⟨I1, M1, h1, h2, h3⟩ := bNo hR (v := -1) (by decide)
    exact ⟨_, I1, J, M1, N, (by simp only [F_X7_judge, px, Option.bind_some, ↓reduceIte, h1] : F_X7_judge I J v1 v2 = some (-1, I1, J)), by simp only [F_X8_judge, pm, Option.bind_some, ↓reduceIte, h2], h3⟩
  obtain ⟨hrl, w1, w2, w3⟩ := h.2.2.2.2.1
  obtain ⟨I3, l1, l2, l3, l4, l5⟩ := layR (d := 0) (gd := 0) h (by omega) (by omega) SX.rf J
  have l1' : F_X4_lay I J (0 : Int32) (0 : Int32) (0 : Int32) = some (I3, J) := l1
  have e10 : I3 59 10 = nI rl := (congrFun (l2.1 59 (by omega)) 10).trans w1
  have g1 := jdX_l (J := J) h.1.1 l4 hp e10 hrl rl 3000 0 v2 (by omega) (by omega)
  obtain ⟨z1, z2, z3⟩ := u2z (M := M) (j := 36) (v := (0 : Int32))
  have s1 : SM (u2 M 0 36 0) (u2 (u2 (u2 (u2 M 0 36 0) 0 26 0) 0 27 0) 0 32 v2) := ((sm0 (by omega) _).tr (sm0 (by omega) _)).tr (sm0 (by omega) _)
  have hMF : MF (u2 M 0 36 0) a st wn te := h.2.2.1.mv (fun z a _ => z1 z a) (fun j hj => z2 j (by omega))
  have hRo := (h.same l2 SM.rf).row0
  have h20 : (u2 (u2 (u2 (u2 M 0 36 0) 0 26 0) 0 27 0) 0 32 v2) 20 = M 20 := (s1.1 20 (by omega) (by omega)).trans (z1 20 (by omega))
  have h26 : (u2 (u2 (u2 (u2 M 0 36 0) 0 26 0) 0 27 0) 0 32 v2) 0 26 = nI 0 := rfl
  have h27 : (u2 (u2 (u2 (u2 M 0 36 0) 0 26 0) 0 27 0) 0 32 v2) 0 27 = nI 0 := rfl
  have h32 : (u2 (u2 (u2 (u2 M 0 36 0) 0 26 0) 0 27 0) 0 32 v2) 0 32 = v2 := rfl
  generalize hM0 : u2 (u2 (u2 (u2 M 0 36 0) 0 26 0) 0 27 0) 0 32 v2 = M0 at *
  obtain ⟨M', g2, s2⟩ := jdM_l (N := N) h.1.1 hp hrl rl 3000 0 M0 (by omega) (by omega) (fun v => (hMF.sm (s1.tr (sm0 (by omega) v))).1) h26 h27 h20
  rw [h32] at g2
  have ej := jd_congr (f := fun _ x => nI (harv a wn 0 0 p (dw (chA a wn) (nW a wn) x 0))) (row := I3 60) (row' := M 20) rl 0 v2 (fun k _ hk => by rw [l2.1 60 (by omega)]; exact w3 k (by omega))
  rw [ej] at g1
  rw [show nI 0 = (0 : Int32) from rfl] at g1 g2
  generalize jd (fun _ x => nI (harv a wn 0 0 p (dw (chA a wn) (nW a wn) x 0))) (M 20) rl 0 v2 = r at g1 g2
  refine ⟨r, _, J, M', N, ?_, ?_, ⟨a, st, wn, te, tl, tx, 0, hRo.same SX.rf (s1.tr s2)⟩⟩
  · unfold F_X7_judge
    rw [px, Option.bind_some, if_neg (show ¬ (1 : Int32) = 0 by decide), l1', Option.bind_some]
    exact g1
  · unfold F_X8_judge
    rw [pm, Option.bind_some, if_neg (show ¬ (1 : Int32) = 0 by decide), w2, hM0]
    exact g2
