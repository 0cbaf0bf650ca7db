section S15
variable {I M : SI} {J N : SJ} {a b : NN} {st wn te st' wn' te' tl rl : Nat} {tx : Nat → Nat}
theorem MF.mv {M' : SI} (h : MF M a st wn te) (e : ∀ z, z ≠ 0 → z ≠ 21 → M' z = M z) (f : ∀ j, (j = 7 ∨ j = 8 ∨ j = 21) → M' 0 j = M 0 j) : MF M' a st wn te := by
  obtain ⟨⟨h1, h2, h3, h4, h5⟩, h6, h7⟩ := h
  refine ⟨⟨fun k hk => ?_, fun k hk => ?_, fun k hk => ?_, ?_, ?_⟩, fun i hi => ?_, ?_⟩
  · rw [e 2 (by omega) (by omega)]; exact h1 k hk
  · rw [e 4 (by omega) (by omega), e 5 (by omega) (by omega)]; exact h2 k hk
  · rw [e 6 (by omega) (by omega), e 7 (by omega) (by omega)]; exact h3 k hk
  · rw [f 7 (by omega)]; exact h4
  · rw [f 8 (by omega)]; exact h5
  · rw [e 13 (by omega) (by omega), e 14 (by omega) (by omega), e 15 (by omega) (by omega), e 16 (by omega) (by omega)]; exact h6 i hi
  · rw [f 21 (by omega)]; exact h7
/-- the relation after a FIELD is put in the place of another -/
theorem Ro.build {I' M' : SI} (h : Ro I M a st wn te tl tx rl) (hO : OkA b st' wn' te') (hX : XF I' 0 b st' wn' te') (hM : MF M' b st' wn' te') (hi : IM I' M')
    (ex : I' 45 1 = I 45 1 ∧ I' 46 = I 46 ∧ I' 59 10 = I 59 10 ∧ I' 60 = I 60 ∧ I' 61 = I 61 ∧ I' 48 0 = I 48 0) (em : M' 0 14 = M 0 14 ∧ M' 8 = M 8 ∧ M' 0 36 = M 0 36 ∧ M' 20 = M 20 ∧ M' 1 = M 1 ∧ M' 3 = M 3) : Ro I' M' b st' wn' te' tl tx rl := by
  obtain ⟨_, _, _, hT, hW, hr, ht, _, h48⟩ := h
  obtain ⟨x1, x2, x3, x4, x5, x6⟩ := ex
  obtain ⟨m1, m2, m3, m4, m5, m6⟩ := em
  refine ⟨hO, hX, hM, ⟨hT.1, x1.trans hT.2.1, m1.trans hT.2.2.1, fun k hk => ?_⟩, ⟨hW.1, x3.trans hW.2.1, m3.trans hW.2.2.1, fun k hk => ?_⟩, fun k hk => ?_, fun k hk => ?_, hi, x6.trans h48⟩
  · rw [x2, m2]; exact hT.2.2.2 k hk
  · rw [x4, m4]; exact hW.2.2.2 k hk
  · rw [x5, m5]; exact hr k hk
  · rw [m6]; exact ht k hk
theorem st29 : St29 Rl := by
  intro I J M N hR
  obtain ⟨a, st, wn, te, tl, tx, rl, h⟩ := id hR
  obtain ⟨I1, c1, c2, c3⟩ := xCopy (q := 15) (q1 := 0) (by omega) h.2.1 h.1 J
  obtain ⟨z1, z2, z3⟩ := u2z (M := M) (j := 38) (v := (1 : Int32))
  have hM0 : MF (u2 M 0 38 1) a st wn te := h.2.2.1.mv (fun z hz _ => z1 z hz) (fun j hj => z2 j (by omega))
  obtain ⟨M', p1, p2, p3, p4, p5⟩ := passS (v := 0) (by omega) hM0 h.1 N
  rw [show nI 0 = (0 : Int32) from rfl] at p1
  have y1 : ∀ z, z ≠ 59 → u2 I1 59 11 1 z = I1 z := fun z hz => u1_ne hz
  have y2 : ∀ j, j ≠ 11 → u2 I1 59 11 1 59 j = I1 59 j := fun j hj => by
    show u1 _ 59 (upd _ 11 _) 59 j = _
    rw [u1_at, pk_un hj]
  have y3 : u2 I1 59 11 1 59 11 = 1 := by
    show u1 _ 59 (upd _ 11 _) 59 11 = _
    rw [u1_at, pk_us]
  have hXI : XF (u2 I1 59 11 1) 0 a st wn te := h.2.1.at h.1.2.2.1 (fun z _ hz => (y1 z (by omega)).trans (c3 z (by omega)))
  have hXJ : XF (u2 I1 59 11 1) 15 a st wn te := c2.at h.1.2.2.1 (fun z _ hz => y1 z (by omega))
  have hMM : MF M' a st wn te := hM0.mv p3 (fun j hj => p4 j (by omega) (by omega))
  have e1 : u2 I1 59 11 1 0 8 = nI te := hXI.2.2
  have e2 : M' 0 21 = nI te := hMM.2.2
  refine ⟨nI te, u2 I1 59 11 1, J, M', N, ?_, ?_, ⟨a, st, wn, te, tl, tx, rl, h.build h.1 hXI hMM (Or.inr ⟨y3, (p4 38 (by omega) (by omega)).trans z3, a, st, wn, te, h.1, hXJ, p2⟩) ⟨?_, ?_, ?_, ?_, ?_, ?_⟩ ⟨?_, ?_, ?_, ?_, ?_, ?_⟩⟩⟩
  · unfold F_X7_image
    rw [c1, Option.bind_some]
    show some (u2 I1 59 11 1 0 8, u2 I1 59 11 1, J) = _
    rw [e1]
  · unfold F_X8_image
    rw [p1, Option.bind_some]
    show some (M' 0 21, M', N) = _
    rw [e2]
  · rw [y1 45 (by omega), c3 45 (by omega)]
  · rw [y1 46 (by omega), c3 46 (by omega)]
  · rw [y2 10 (by omega), c3 59 (by omega)]
  · rw [y1 60 (by omega), c3 60 (by omega)]
  · rw [y1 61 (by omega), c3 61 (by omega)]
  · rw [y1 48 (by omega), c3 48 (by omega)]
  · rw [p4 14 (by omega) (by omega), z2 14 (by omega)]
  · rw [p3 8 (by omega) (by omega), z1 8 (by omega)]
  · rw [p4 36 (by omega) (by omega), z2 36 (by omega)]
  · rw [p3 20 (by omega) (by omega), z1 20 (by omega)]
  · rw [p3 1 (by omega) (by omega), z1 1 (by omega)]
  · rw [p3 3 (by omega) (by omega), z1 3 (by omega)]
theorem st30 : St30 Rl := by
  intro I J M N hR
  obtain ⟨a, st, wn, te, tl, tx, rl, h⟩ := id hR
  rcases h.2.2.2.2.2.2.2.1 with ⟨i1, i2⟩ | ⟨i1, i2, b, st', wn', te', g1, g2, g3⟩
  · obtain ⟨I1, M1, h1, h2, h3⟩ := bNo hR (v := -3) (by decide)
    exact ⟨_, I1, J, M1, N, (by simp only [F_X7_restore, i1, ↓reduceIte, h1, Option.bind_some] : F_X7_restore I J = some (-3, I1, J)), by simp only [F_X8_restore, i2, ↓reduceIte, h2, Option.bind_some], h3⟩
  · obtain ⟨I1, c1, c2, c3⟩ := xCopy (q := 0) (q1 := 15) (by omega) g2 g1 J
    obtain ⟨M', p1, p2, p3, p4⟩ := passR (v := 0) (by omega) g3 g1 N
    rw [show nI 0 = (0 : Int32) from rfl] at p1
    have e1 : I1 0 8 = nI te' := c2.2.2
    have e2 : M' 0 21 = nI te' := p2.2.2
    refine ⟨nI te', I1, J, M', N, ?_, ?_, ⟨b, st', wn', te', tl, tx, rl, h.build g1 c2 p2 (Or.inr ⟨(congrFun (c3 59 (by omega)) 11).trans i1, (p4 38 (by omega) (by omega) (by omega) (by omega) (by omega)).trans i2, b, st', wn', te', g1, g2.at g1.2.2.1 (fun z hz hz2 => c3 z (by omega)), ?_⟩) ⟨?_, ?_, ?_, ?_, ?_, ?_⟩ ⟨?_, ?_, ?_, ?_, ?_, ?_⟩⟩⟩
    · unfold F_X7_restore
      rw [i1, if_neg (by decide), c1, Option.bind_some]
      show some (I1 0 8, I1, J) = _
      rw [e1]
    · unfold F_X8_restore
      rw [i2, if_neg (by decide), p1, Option.bind_some]
      show some (M' 0 21, M', N) = _
      rw [e2]
    · rw [p3 21 (by omega)]; exact g3
    · rw [c3 45 (by omega)]
    · rw [c3 46 (by omega)]
    · rw [c3 59 (by omega)]
    · rw [c3 60 (by omega)]
    · rw [c3 61 (by omega)]
    · rw [c3 48 (by omega)]
    · exact p4 14 (by omega) (by omega) (by omega) (by omega) (by omega)
    · exact p3 8 (by omega)
    · exact p4 36 (by omega) (by omega) (by omega) (by omega) (by omega)
    · exact p3 20 (by omega)
    · exact p3 1 (by omega)
    · exact p3 3 (by omega)
end S15
