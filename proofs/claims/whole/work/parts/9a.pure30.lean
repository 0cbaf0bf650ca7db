/-- a FIELD with a TERM more -/
def aTm (a : NN) (te k A B Q : Nat) : NN
  | 5, i => if i = te then k else a 5 i
  | 6, i => if i = te then A else a 6 i
  | 7, i => if i = te then B else a 7 i
  | 8, i => if i = te then Q else a 8 i
  | j, i => a j i
theorem aTm_5 (a : NN) (te k A B Q i : Nat) : aTm a te k A B Q 5 i = if i = te then k else a 5 i := rfl
theorem aTm_6 (a : NN) (te k A B Q i : Nat) : aTm a te k A B Q 6 i = if i = te then A else a 6 i := rfl
theorem aTm_7 (a : NN) (te k A B Q i : Nat) : aTm a te k A B Q 7 i = if i = te then B else a 7 i := rfl
theorem aTm_8 (a : NN) (te k A B Q i : Nat) : aTm a te k A B Q 8 i = if i = te then Q else a 8 i := rfl
section S30
variable {I M : SI} {J N : SJ} {a b : NN} {st wn te tl rl k A B Q st' wn' te' : Nat} {tx : Nat → Nat}
/-- the relation after the TEXT is emptied and a FIELD put in the place of another -/
theorem Ro.buildT {I' M' : SI} (h : Ro I M a st wn te tl tx rl) (hO : OkA b st' wn' te') (hX : XF I' 0 b st' wn' te') (hM : MF M' b st' wn' te') (hi : IM I' M')
    (ex : I' 45 1 = 0 ∧ I' 59 10 = I 59 10 ∧ I' 60 = I 60 ∧ I' 61 = I 61 ∧ I' 48 0 = I 48 0) (em : M' 0 14 = 0 ∧ M' 0 36 = M 0 36 ∧ M' 20 = M 20 ∧ M' 1 = M 1 ∧ M' 3 = M 3) : Ro I' M' b st' wn' te' 0 tx rl := by
  obtain ⟨_, _, _, hT, hW, hr, ht, _, h48⟩ := h
  obtain ⟨x1, x3, x4, x5, x6⟩ := ex
  obtain ⟨m1, m3, m4, m5, m6⟩ := em
  refine ⟨hO, hX, hM, ⟨by omega, x1, m1, fun k hk => absurd hk (by omega)⟩, ⟨hW.1, x3.trans hW.2.1, m3.trans hW.2.2.1, fun k hk => ?_⟩, fun k hk => ?_, fun k hk => ?_, hi, x6.trans h48⟩
  · rw [x4, m4]; exact hW.2.2.2 k hk
  · rw [x5, m5]; exact hr k hk
  · rw [m6]; exact ht k hk
theorem TX.x (h : TX I M tl tx) : XTx I tl tx := ⟨h.1, h.2.1, fun k hk => ⟨(h.2.2.2 k hk).1, (h.2.2.2 k hk).2.2⟩⟩
theorem TX.m (h : TX I M tl tx) : MTx M tl tx := ⟨h.1, h.2.2.1, fun k hk => ⟨(h.2.2.2 k hk).2.1, (h.2.2.2 k hk).2.2⟩⟩
theorem okTm (hO : OkA a st wn te) (ht : te < 8) (hT : OkT k A B Q) : OkA (aTm a te k A B Q) st wn (te + 1) := by
  obtain ⟨⟨h1, h2, h3, h4, h5, h6⟩, w6, t8, h9⟩ := hO
  refine ⟨⟨h1, h2, fun k hk => h3 k hk, fun k hk => h4 k hk, fun k hk => h5 k hk, h6⟩, w6, ht, fun i hi => ?_⟩
  rw [aTm_5, aTm_6, aTm_7, aTm_8]
  by_cases c : i = te
  · rw [if_pos c, if_pos c, if_pos c, if_pos c]; exact hT
  · rw [if_neg c, if_neg c, if_neg c, if_neg c]; exact h9 i (by omega)
theorem xAddT {I' : SI} (h8 : I' 0 8 = nI te) (ht : te < 8) (J : SJ) : ∃ I5 : SI, F_X1_addTerm 0 58 I' J = some (nI te, u2 I5 0 8 (nI (te + 1)), J) ∧ (∀ z, z ≠ 7 + te → I5 z = I' z) ∧ I5 (7 + te) 0 = I' 58 0 ∧ I5 (7 + te) 1 = I' 58 1 ∧ I5 (7 + te) 2 = I' 58 2 ∧ I5 (7 + te) 3 = I' 58 3 := by
  obtain ⟨I5, a1, a2, a3⟩ := xCopyT (I := I') (J := J) (7 + te) 58 (by omega)
  have e8 : I5 0 8 = nI te := (congrFun (a2 0 (by omega)) 8).trans h8
  refine ⟨I5, ?_, a2, a3⟩
  unfold F_X1_addTerm
  rw [h8, if_neg (nI_pos (by omega)), if_neg (show ¬ (8 : Int32) ≤ nI te from nI_ge (b := 8) ht (by omega)), if_pos (gin_nI ht (by omega)), if_pos (gin_nI ht (by omega)), nI_clamp (by omega), Nat.zero_add, a1, Option.bind_some]
  show some (nI te, u2 I5 0 8 (I5 0 8 + (1 : Int32)), J) = _
  rw [e8, nI_1]
theorem Ro.term {I' M' I5 : SI} (h : Ro I M a st wn te tl tx rl) (ht : te < 8) (hT : OkT k A B Q) (hx : XT I' 58 k A B Q) (fx : ∀ z, z ≠ 58 → z ≠ 45 → I' z = I z) (hq : TQ M M' te k A B Q)
    (f5 : ∀ z, z ≠ 7 + te → I5 z = u2 I' 45 1 (0 : Int32) z) (g5 : I5 (7 + te) 0 = u2 I' 45 1 (0 : Int32) 58 0 ∧ I5 (7 + te) 1 = u2 I' 45 1 (0 : Int32) 58 1 ∧ I5 (7 + te) 2 = u2 I' 45 1 (0 : Int32) 58 2 ∧ I5 (7 + te) 3 = u2 I' 45 1 (0 : Int32) 58 3) :
    Ro (u2 I5 0 8 (nI (te + 1))) (u2 (u2 M' 0 14 (0 : Int32)) 0 21 (nI (te + 1))) (aTm a te k A B Q) st wn (te + 1) 0 tx rl := by
  obtain ⟨hO, hX, hM, hTx, hW, hr, hm, hi, h48⟩ := id h
  obtain ⟨q13, q14, q15, q16, qf, q0⟩ := hq
  obtain ⟨z1, z2, z3⟩ := u2z (M := I5) (j := 8) (v := nI (te + 1))
  obtain ⟨y1, y2, y3⟩ := u2z (M := M') (j := 14) (v := (0 : Int32))
  obtain ⟨w1, w2, w3⟩ := u2z (M := u2 M' 0 14 (0 : Int32)) (j := 21) (v := nI (te + 1))
  have e45 : ∀ z, z ≠ 45 → u2 I' 45 1 (0 : Int32) z = I' z := fun z hz => u1_ne hz
  have X : ∀ z, z ≠ 0 → z ≠ 7 + te → z ≠ 45 → z ≠ 58 → u2 I5 0 8 (nI (te + 1)) z = I z := fun z a b c d => (z1 z a).trans ((f5 z b).trans ((e45 z c).trans (fx z d c)))
  have X0 : ∀ j, j ≠ 8 → u2 I5 0 8 (nI (te + 1)) 0 j = I 0 j := fun j hj => (z2 j hj).trans (congrFun ((f5 0 (by omega)).trans ((e45 0 (by omega)).trans (fx 0 (by omega) (by omega)))) j)
  have Mz : ∀ z, z ≠ 0 → (z < 13 ∨ 16 < z) → u2 (u2 M' 0 14 (0 : Int32)) 0 21 (nI (te + 1)) z = M z := fun z a b => (w1 z a).trans ((y1 z a).trans (qf z a b))
  have Mq : ∀ z, z ≠ 0 → u2 (u2 M' 0 14 (0 : Int32)) 0 21 (nI (te + 1)) z = M' z := fun z a => (w1 z a).trans (y1 z a)
  have M0 : ∀ j, j ≠ 14 → j ≠ 15 → j ≠ 21 → u2 (u2 M' 0 14 (0 : Int32)) 0 21 (nI (te + 1)) 0 j = M 0 j := fun j a b c => (w2 j c).trans ((y2 j a).trans (q0 j b))
  have t58 : u2 I' 45 1 (0 : Int32) 58 = I' 58 := e45 58 (by omega)
  rw [t58] at g5
  refine h.buildT (okTm hO ht hT) ⟨⟨fun i hi => ?_, fun i hi => ?_, fun i hi => ?_, ?_, ?_⟩, fun i hi => ?_, z3⟩ ⟨⟨fun i hi => ?_, fun i hi => ?_, fun i hi => ?_, ?_, ?_⟩, fun i hi => ?_, w3⟩ ?_ ⟨?_, ?_, ?_, ?_, ?_⟩ ⟨?_, ?_, ?_, ?_, ?_⟩
  · rw [X (0 + 1) (by omega) (by omega) (by omega) (by omega)]; exact hX.1.1 i hi
  · rw [X (0 + 2) (by omega) (by omega) (by omega) (by omega), X (0 + 3) (by omega) (by omega) (by omega) (by omega)]; exact hX.1.2.1 i hi
  · rw [X (0 + 4) (by omega) (by omega) (by omega) (by omega), X (0 + 5) (by omega) (by omega) (by omega) (by omega)]; exact hX.1.2.2.1 i hi
  · rw [X0 6 (by omega)]; exact hX.1.2.2.2.1
  · rw [X0 7 (by omega)]; exact hX.1.2.2.2.2
  · rw [aTm_5, aTm_6, aTm_7, aTm_8]
    unfold XT
    rw [Nat.zero_add]
    by_cases c : i = te
    · rw [if_pos c, if_pos c, if_pos c, if_pos c, c, z1 (7 + te) (by omega), g5.1, g5.2.1, g5.2.2.1, g5.2.2.2]
      exact hx
    · rw [if_neg c, if_neg c, if_neg c, if_neg c, X (7 + i) (by omega) (by omega) (by omega) (by omega)]
      have := hX.2.1 i (by omega)
      rw [Nat.zero_add] at this
      exact this
  · rw [Mz 2 (by omega) (by omega)]; exact hM.1.1 i hi
  · rw [Mz 4 (by omega) (by omega), Mz 5 (by omega) (by omega)]; exact hM.1.2.1 i hi
  · rw [Mz 6 (by omega) (by omega), Mz 7 (by omega) (by omega)]; exact hM.1.2.2.1 i hi
  · rw [M0 7 (by omega) (by omega) (by omega)]; exact hM.1.2.2.2.1
  · rw [M0 8 (by omega) (by omega) (by omega)]; exact hM.1.2.2.2.2
  · rw [aTm_5, aTm_6, aTm_7, aTm_8, Mq 13 (by omega), Mq 14 (by omega), Mq 15 (by omega), Mq 16 (by omega), q13, q14, q15, q16]
    by_cases c : i = te
    · rw [if_pos c, if_pos c, if_pos c, if_pos c, c, pk_us, pk_us, pk_us, pk_us]
      exact ⟨rfl, rfl, rfl, rfl⟩
    · rw [if_neg c, if_neg c, if_neg c, if_neg c, pk_un c, pk_un c, pk_un c, pk_un c]
      exact hM.2.1 i (by omega)
  · unfold IM
    rw [X 59 (by omega) (by omega) (by omega) (by omega), M0 38 (by omega) (by omega) (by omega), Mz 21 (by omega) (by omega)]
    rcases hi with h1 | ⟨h1, h2, b, st', wn', te', k1, k2, k3⟩
    · exact Or.inl h1
    · exact Or.inr ⟨h1, h2, b, st', wn', te', k1, k2.at k1.2.2.1 (fun z hz hz2 => X z (by omega) (by omega) (by omega) (by omega)), k3⟩
  · rw [z1 45 (by omega), f5 45 (by omega)]
    show u1 _ 45 (upd _ 1 _) 45 1 = _
    rw [u1_at, pk_us]
  · rw [X 59 (by omega) (by omega) (by omega) (by omega)]
  · rw [X 60 (by omega) (by omega) (by omega) (by omega)]
  · rw [X 61 (by omega) (by omega) (by omega) (by omega)]
  · rw [X 48 (by omega) (by omega) (by omega) (by omega)]
  · rw [w2 14 (by omega), y3]
  · rw [M0 36 (by omega) (by omega) (by omega)]
  · rw [Mz 20 (by omega) (by omega)]
  · rw [Mz 1 (by omega) (by omega)]
  · rw [Mz 3 (by omega) (by omega)]
theorem Ro.noTx (h : Ro I M a st wn te tl tx rl) (v w : Int32) : Ro (u2 (u2 I 45 2 v) 45 1 (0 : Int32)) (u2 (u2 M 0 15 w) 0 14 (0 : Int32)) a st wn te 0 tx rl := by
  obtain ⟨hO, hX, hM, hTx, hW, hr, hm, hi, h48⟩ := id h
  obtain ⟨y1, y2, y3⟩ := u2z (M := M) (j := 15) (v := w)
  obtain ⟨w1, w2, w3⟩ := u2z (M := u2 M 0 15 w) (j := 14) (v := (0 : Int32))
  have X : ∀ z, z ≠ 45 → u2 (u2 I 45 2 v) 45 1 (0 : Int32) z = I z := fun z a => (u1_ne a).trans (u1_ne a)
  have M0 : ∀ j, j ≠ 14 → j ≠ 15 → u2 (u2 M 0 15 w) 0 14 (0 : Int32) 0 j = M 0 j := fun j a b => (w2 j a).trans (y2 j b)
  have Mz : ∀ z, z ≠ 0 → u2 (u2 M 0 15 w) 0 14 (0 : Int32) z = M z := fun z a => (w1 z a).trans (y1 z a)
  refine h.buildT hO (hX.at hO.2.2.1 (fun z _ hz => X z (by omega))) (hM.mv (fun z a _ => Mz z a) (fun j hj => M0 j (by omega) (by omega))) ?_ ⟨?_, ?_, ?_, ?_, ?_⟩ ⟨w3, ?_, ?_, ?_, ?_⟩
  · unfold IM
    rw [X 59 (by omega), M0 38 (by omega) (by omega), Mz 21 (by omega)]
    rcases hi with h1 | ⟨h1, h2, b, st', wn', te', k1, k2, k3⟩
    · exact Or.inl h1
    · exact Or.inr ⟨h1, h2, b, st', wn', te', k1, k2.at k1.2.2.1 (fun z hz hz2 => X z (by omega)), k3⟩
  · show u1 _ 45 (upd _ 1 _) 45 1 = _
    rw [u1_at, pk_us]
  · rw [X 59 (by omega)]
  · rw [X 60 (by omega)]
  · rw [X 61 (by omega)]
  · rw [X 48 (by omega)]
  · rw [M0 36 (by omega) (by omega)]
  · rw [Mz 20 (by omega)]
  · rw [Mz 1 (by omega)]
  · rw [Mz 3 (by omega)]
theorem st2 : St2 Rl := by
  intro I J M N hR
  obtain ⟨a, st, wn, te, tl, tx, rl, h⟩ := id hR
  have ht8 := h.1.2.2.1
  have x8 := h.2.1.2.2
  have m21 := h.2.2.1.2.2
  by_cases c : te = 8
  · obtain ⟨I1, M1, h1, h2, h3⟩ := bNo hR (v := -6) (by decide)
    have n1 : ¬ I 0 8 < (8 : Int32) := by rw [x8, c]; decide
    have n2 : M 0 21 = (8 : Int32) := by rw [m21, c]; rfl
    refine ⟨-6, I1, J, M1, N, ?_, ?_, h3⟩
    · unfold F_X7_term
      rw [if_neg n1, h1, Option.bind_some]
    · unfold F_X8_term
      rw [if_pos n2, h2, Option.bind_some]
  · have ht : te < 8 := by omega
    have n1 : I 0 8 < (8 : Int32) := by rw [x8]; exact nI_lt (b := 8) ht (by omega)
    have n2 : ¬ M 0 21 = (8 : Int32) := by rw [m21]; exact fun q => c ((nI_eL (n := 8) rfl (by omega) (by omega)).mp q)
    unfold F_X7_term F_X8_term
    rw [if_pos n1, if_neg n2]
    rcases readT h.2.2.2.1.x h.2.2.2.1.m m21 ht J N with ⟨q, hq, e1, e2⟩ | ⟨k, A, B, Q, I', M', hT, e1, e2, hx, fx, hq⟩
    · have z3 := (u2z (M := M) (j := 15) (v := nI q)).2.2
      have z4 : u2 (u2 M 0 15 (nI q)) 0 14 (0 : Int32) 0 15 = nI q := ((u2z (M := u2 M 0 15 (nI q)) (j := 14) (v := (0 : Int32))).2.1 15 (by omega)).trans z3
      refine ⟨(-20 : Int32) - nI q, u2 (u2 I 45 2 (nI q)) 45 1 0, J, u2 (u2 M 0 15 (nI q)) 0 14 0, N, ?_, ?_, ⟨a, st, wn, te, 0, tx, rl, h.noTx _ _⟩⟩
      · rw [e1, Option.bind_some]
        show (if nI q < 0 then _ else some ((-20 : Int32) - nI q, u2 (u2 I 45 2 (nI q)) 45 1 (0 : Int32), J)) = _
        rw [if_neg (nI_pos (by omega))]
      · rw [e2, Option.bind_some]
        show (if (0 : Int32) = 0 then some ((-20 : Int32) - u2 (u2 M 0 15 (nI q)) 0 14 (0 : Int32) 0 15, u2 (u2 M 0 15 (nI q)) 0 14 (0 : Int32), N) else _) = _
        rw [if_pos rfl, z4]
    · have i8 : u2 I' 45 1 (0 : Int32) 0 8 = nI te := (congrFun ((u1_ne (by omega)).trans (fx 0 (by omega) (by omega))) 8).trans x8
      obtain ⟨I5, a1, a2, a3⟩ := xAddT i8 ht J
      have q21 : u2 M' 0 14 (0 : Int32) 0 21 = nI te := ((u2z (M := M') (j := 14) (v := (0 : Int32))).2.1 21 (by omega)).trans ((hq.2.2.2.2.2 21 (by omega)).trans m21)
      have q22 : u2 (u2 M' 0 14 (0 : Int32)) 0 21 (nI (te + 1)) 0 21 = nI (te + 1) := (u2z (M := u2 M' 0 14 (0 : Int32)) (j := 21) (v := nI (te + 1))).2.2
      refine ⟨nI te, u2 I5 0 8 (nI (te + 1)), J, u2 (u2 M' 0 14 0) 0 21 (nI (te + 1)), N, ?_, ?_, ⟨aTm a te k A B Q, st, wn, te + 1, 0, tx, rl, h.term ht hT hx fx hq a2 a3⟩⟩
      · rw [e1, Option.bind_some]
        show (if (-1 : Int32) < 0 then ((F_X1_addTerm 0 58 (u2 I' 45 1 (0 : Int32)) J).bind fun (r5, I5, J5) => (some (r5, I5, J5))) else some ((-20 : Int32) - (-1 : Int32), u2 I' 45 1 (0 : Int32), J)) = _
        rw [if_pos (by decide), a1, Option.bind_some]
      · rw [e2, Option.bind_some]
        show (if (1 : Int32) = 0 then _ else some ((u2 (u2 M' 0 14 (0 : Int32)) 0 21 (u2 M' 0 14 (0 : Int32) 0 21 + (1 : Int32))) 0 21 - (1 : Int32), u2 (u2 M' 0 14 (0 : Int32)) 0 21 (u2 M' 0 14 (0 : Int32) 0 21 + (1 : Int32)), N)) = _
        rw [if_neg (by decide), q21, nI_1, q22, prdI]
end S30
