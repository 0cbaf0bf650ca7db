theorem lt1000 : ∀ q : Nat, q < 65 → (-1000 : Int32) - nI q < 0 := by decide
theorem lt2000 : ∀ q : Nat, q < 65 → (-2000 : Int32) - nI q < 0 := by decide
theorem KF.cg {f f' : Nat → Int32} {b : NN} {st wn te : Nat} (h : KF f 0 b st wn te) (hs : st ≤ 8) (hw : wn ≤ 6) (ht : te ≤ 8) (e : ∀ k, k < 75 → f' k = f k) : KF f' 0 b st wn te := by
  obtain ⟨h1, h2, h3, h4, h5, h6, h7⟩ := h
  refine ⟨fun k hk => ?_, fun k hk => ?_, fun k hk => ?_, fun i hi => ?_, ?_, ?_, ?_⟩
  · rw [e _ (by omega)]; exact h1 k hk
  · rw [e _ (by omega), e _ (by omega)]; exact h2 k hk
  · rw [e _ (by omega), e _ (by omega)]; exact h3 k hk
  · rw [e _ (by omega), e _ (by omega), e _ (by omega), e _ (by omega)]; exact h4 i hi
  · rw [e _ (by omega)]; exact h5
  · rw [e _ (by omega)]; exact h6
  · rw [e _ (by omega)]; exact h7
section S34
variable {I M : SI} {J N : SJ} {a b : NN} {st wn te tl rl q s e : Nat} {tx : Nat → Nat}
/-- no TEXT: the model's first look -/
theorem noT (h14 : M 0 14 = nI 0) (n : Nat) : FL_X8_field_12 (n + 1 + 1) (u2 (u2 M 0 15 (0 : Int32)) 0 16 (0 : Int32)) N 1 = some ((-1000 : Int32) - 0, u2 (u2 (u2 (u2 M 0 15 (0 : Int32)) 0 16 (0 : Int32)) 0 16 ((0 : Int32) + 0)) 0 14 0, N) := by
  have hm : MTx (u2 M 0 16 (0 : Int32)) 0 (fun _ => 0) := ⟨by omega, ((u2z (M := M) (j := 16) (v := (0 : Int32))).2.1 14 (by omega)).trans h14, fun k hk => absurd hk (by omega)⟩
  have ec : u2 (u2 M 0 15 (0 : Int32)) 0 16 (0 : Int32) = u2 (u2 M 0 16 (0 : Int32)) 0 15 (nI 0) := u2c (by omega) 0 0
  obtain ⟨z1, z2, z3⟩ := u2z (M := u2 M 0 15 (0 : Int32)) (j := 16) (v := (0 : Int32))
  have k14 : u2 (u2 M 0 15 (0 : Int32)) 0 16 (0 : Int32) 0 14 = nI 0 := (z2 14 (by omega)).trans (((u2z (M := M) (j := 15) (v := (0 : Int32))).2.1 14 (by omega)).trans h14)
  have k15 : u2 (u2 M 0 15 (0 : Int32)) 0 16 (0 : Int32) 0 15 = 0 := (z2 15 (by omega)).trans (u2z (M := M) (j := 15) (v := (0 : Int32))).2.2
  have hst : F_X8_statement (u2 (u2 M 0 15 (0 : Int32)) 0 16 (0 : Int32)) N = some (0, u2 (u2 M 0 15 (0 : Int32)) 0 16 (0 : Int32), N) := by
    rw [smE, ec, hereM hm (show 0 ≤ 64 by omega), if_neg (show ¬ 0 < 0 by omega), Option.bind_some, if_neg (by decide), if_neg (by decide), show F_X8_hasTwo (-1) = some 0 from by decide, Option.bind_some, if_pos rfl]
  rw [FL_X8_field_12, if_neg (show ¬ (1 : Int32) = 0 by decide), k15, k14, if_neg (show ¬ (0 : Int32) < nI 0 by decide), z3, if_pos rfl, hst, Option.bind_some]
  show FL_X8_field_12 (n + 1) (u2 (u2 (u2 M 0 15 (0 : Int32)) 0 16 (0 : Int32)) 0 16 (u2 (u2 M 0 15 (0 : Int32)) 0 16 (0 : Int32) 0 16 + (if (0 : Int32) = 0 then (0 : Int32) else (1 : Int32)))) N 0 = _
  rw [z3, if_pos rfl, FL_X8_field_12, if_pos rfl, if_pos rfl]
  have e15 : u2 (u2 (u2 (u2 M 0 15 (0 : Int32)) 0 16 (0 : Int32)) 0 16 ((0 : Int32) + 0)) 0 14 (0 : Int32) 0 15 = 0 := ((u2z (M := u2 (u2 (u2 M 0 15 (0 : Int32)) 0 16 (0 : Int32)) 0 16 ((0 : Int32) + 0)) (j := 14) (v := (0 : Int32))).2.1 15 (by omega)).trans (((u2z (M := u2 (u2 M 0 15 (0 : Int32)) 0 16 (0 : Int32)) (j := 16) (v := ((0 : Int32) + 0))).2.1 15 (by omega)).trans k15)
  rw [e15]
/-- the relation behind a FAULT: the TEXT is emptied -/
theorem Ro.fault {I' M' : SI} (h : Ro I M a st wn te tl tx rl) (fx : ∀ z, (z < 30 ∨ 45 < z) → I' z = I z) (hM : MF M' a st wn te) (fm : ∀ z, (z = 1 ∨ z = 3 ∨ z = 20) → M' z = M z) (f36 : M' 0 36 = M 0 36) (f38 : M' 0 38 = M 0 38) (f14 : M' 0 14 = 0) (f21 : ∀ k, k < 75 → M' 21 k = M 21 k) (f45 : I' 45 1 = 0) : Ro I' M' a st wn te 0 tx rl := by
  refine h.buildT h.1 (h.2.1.at h.1.2.2.1 (fun z _ hz => fx z (by omega))) hM ?_ ⟨f45, ?_, ?_, ?_, ?_⟩ ⟨f14, f36, fm 20 (by omega), fm 1 (by omega), fm 3 (by omega)⟩
  · have hi := h.2.2.2.2.2.2.2.1
    unfold IM at hi ⊢
    rw [fx 59 (by omega), f38]
    rcases hi with h1 | ⟨h1, h2, b, st', wn', te', k1, k2, k3⟩
    · exact Or.inl h1
    · exact Or.inr ⟨h1, h2, b, st', wn', te', k1, k2.at k1.2.2.1 (fun z hz hz2 => fx z (by omega)), k3.cg k1.1.1 k1.2.1 k1.2.2.1 f21⟩
  · rw [fx 59 (by omega)]
  · rw [fx 60 (by omega)]
  · rw [fx 61 (by omega)]
  · rw [fx 48 (by omega)]
theorem e45 (v : Int32) : (∀ z, z ≠ 45 → u2 I 45 1 v z = I z) ∧ u2 I 45 1 v 45 1 = v := by
  refine ⟨fun z hz => u1_ne hz, ?_⟩
  show u1 _ 45 (upd _ 1 _) 45 1 = _
  rw [u1_at, pk_us]
theorem n_m1 {q : Nat} (h : q < 2 ^ 31) : ¬ nI q = (-1 : Int32) := fun e => by
  have := nI_pos h
  rw [e] at this
  exact this (by decide)
theorem SV.mv2 {K K' : SI} {p k : Nat} (h : SV tx tl p K k) (f : ∀ z, (9 ≤ z ∧ z ≤ 12) → K' z k = K z k) : SV tx tl p K' k := by
  obtain ⟨h1, h2, h3, h4⟩ := h
  exact ⟨(f 9 (by omega)).trans h1, (f 10 (by omega)).trans h2, (f 11 (by omega)).trans h3, fun c => (f 12 (by omega)).trans (h4 c)⟩
theorem readF {s0 : Int32} {I' : SI} {J' : SJ} (hr : F_X6_fieldFault I J = some (s0, I', J')) : F_X6_readField 30 I J = if s0 = (-1 : Int32) then FL_X6_readField_26 3000 (u2 I' 45 2 (0 : Int32)) J' 30 (0 : Int32) (0 : Int32) else some (((-1000 : Int32) - s0), I', J') := by
  unfold F_X6_readField
  rw [hr, Option.bind_some]
theorem st1 : St1 Rl := by
  intro I J M N hR
  obtain ⟨a, st, wn, te, tl, tx, rl, h⟩ := id hR
  have h64 := h.2.2.2.1.1
  have hx := h.2.2.2.1.x
  have hm := h.2.2.2.1.m
  obtain ⟨I1, c1, c2, c3⟩ := xCopy (q := 30) (q1 := 0) (by omega) h.2.1 h.1 J
  have hx1 : XTx I1 tl tx := ⟨hx.1, by rw [c3 45 (by omega)]; exact hx.2.1, fun k hk => by rw [c3 46 (by omega)]; exact hx.2.2 k hk⟩
  obtain ⟨a1, a2, a3⟩ := at45 (I := I1) (0 : Int32)
  by_cases t0 : tl = 0
  · subst t0
    have hff : F_X6_fieldFault I1 J = some (0, u2 I1 45 2 (0 : Int32), J) := by
      unfold F_X6_fieldFault
      rw [a1, hx1.2.1, if_pos (show nI 0 = 0 from rfl)]
    have hrf := readF hff
    rw [if_neg (show ¬ (0 : Int32) = -1 by decide)] at hrf
    have hM := noT (N := N) hm.2.1 2998
    obtain ⟨z1, z2, z3⟩ := u2z (M := u2 (u2 (u2 M 0 15 (0 : Int32)) 0 16 (0 : Int32)) 0 16 ((0 : Int32) + 0)) (j := 14) (v := (0 : Int32))
    obtain ⟨y1, y2, y3⟩ := u2z (M := u2 (u2 M 0 15 (0 : Int32)) 0 16 (0 : Int32)) (j := 16) (v := ((0 : Int32) + 0))
    obtain ⟨x1, x2, x3⟩ := u2z (M := u2 M 0 15 (0 : Int32)) (j := 16) (v := (0 : Int32))
    obtain ⟨w1, w2, w3⟩ := u2z (M := M) (j := 15) (v := (0 : Int32))
    have m1 : ∀ z, z ≠ 0 → u2 (u2 (u2 (u2 M 0 15 (0 : Int32)) 0 16 (0 : Int32)) 0 16 ((0 : Int32) + 0)) 0 14 (0 : Int32) z = M z := fun z hz => (z1 z hz).trans ((y1 z hz).trans ((x1 z hz).trans (w1 z hz)))
    have m2 : ∀ j, j ≠ 14 → j ≠ 15 → j ≠ 16 → u2 (u2 (u2 (u2 M 0 15 (0 : Int32)) 0 16 (0 : Int32)) 0 16 ((0 : Int32) + 0)) 0 14 (0 : Int32) 0 j = M 0 j := fun j p q r => (z2 j p).trans ((y2 j r).trans ((x2 j r).trans (w2 j q)))
    generalize u2 (u2 (u2 (u2 M 0 15 (0 : Int32)) 0 16 (0 : Int32)) 0 16 ((0 : Int32) + 0)) 0 14 (0 : Int32) = M' at *
    obtain ⟨v1, v2⟩ := e45 (I := u2 I1 45 2 (0 : Int32)) (0 : Int32)
    refine ⟨(-1000 : Int32) - 0, u2 (u2 I1 45 2 0) 45 1 0, J, M', N, ?_, hM, ⟨a, st, wn, te, 0, tx, rl, h.fault (fun z hz => (v1 z (by omega)).trans ((u1_ne (by omega)).trans (c3 z (by omega)))) (h.2.2.1.mv (fun z p _ => m1 z p) (fun j hj => m2 j (by omega) (by omega) (by omega))) (fun z hz => m1 z (by omega)) (m2 36 (by omega) (by omega) (by omega)) (m2 38 (by omega) (by omega) (by omega)) z3 (fun k _ => by rw [m1 21 (by omega)]) v2⟩⟩
    unfold F_X7_field
    rw [c1, Option.bind_some]
    show ((F_X6_readField 30 I1 J).bind fun (r2, I2, J2) => (if r2 < 0 then ((F_X6_empty I2 J2).bind fun (I4, J4) => (some (r2, I4, J4))) else ((F_X1_copyFrom 0 30 I2 J2).bind fun (I5, J5) => ((F_X6_empty I5 J5).bind fun (I6, J6) => (some (r2, I6, J6)))))) = _
    rw [hrf, Option.bind_some]
    show (if (-1000 : Int32) - 0 < 0 then ((F_X6_empty (u2 I1 45 2 (0 : Int32)) J).bind fun (I4, J4) => (some ((-1000 : Int32) - 0, I4, J4))) else ((F_X1_copyFrom 0 30 (u2 I1 45 2 (0 : Int32)) J).bind fun (I5, J5) => ((F_X6_empty I5 J5).bind fun (I6, J6) => (some ((-1000 : Int32) - 0, I6, J6))))) = _
    rw [if_pos (by decide)]
    rfl
  have tpos : 0 < tl := by omega
  obtain ⟨k1, k2, k3⟩ := u2z (M := M) (j := 16) (v := (0 : Int32))
  have hmK : MTx (u2 M 0 16 (0 : Int32)) tl tx := hm.mv (k2 14 (by omega)) (k1 8 (by omega))
  have eK : u2 (u2 M 0 15 (0 : Int32)) 0 16 (0 : Int32) = u2 (u2 M 0 16 (0 : Int32)) 0 15 (nI 0) := u2c (by omega) 0 0
  have n0 : ¬ nI tl = 0 := fun z => by
    have := (nI_eL (n := 0) rfl (by omega) (by omega)).mp z
    omega
  have hff : F_X6_fieldFault I1 J = FL_X6_fieldFault_16 3000 (u2 I1 45 2 (nI 0)) J (nI 0) := by
    unfold F_X6_fieldFault
    rw [a1, hx1.2.1, if_neg n0]
    rfl
  have hMf : F_X8_field M N = FL_X8_field_12 3000 (u2 (u2 M 0 16 (0 : Int32)) 0 15 (nI 0)) N 1 := by
    unfold F_X8_field
    rw [eK]
  have P := pass_l (J := J) (N := N) hx1 tpos tl 3000 3000 0 (u2 M 0 16 (0 : Int32)) (by show tl ≤ 0 + tl; omega) (by omega) (by omega) (by show 0 ≤ tl; omega) (by show 3 * 0 ≤ 0; omega) hmK k3 (fun k hk => absurd hk (by omega))
  rw [show ps tx tl 0 = 0 from rfl] at P
  rcases P with ⟨q, K', p1, p2, p3, p4⟩ | ⟨e, K', p1, p2, p3, p4, p5, p6, p7⟩
  · have hrf := readF (hff.trans p2)
    rw [if_neg (n_m1 (show q < 2 ^ 31 by omega))] at hrf
    obtain ⟨z1, z2, z3⟩ := u2z (M := u2 K' 0 15 (nI q)) (j := 14) (v := (0 : Int32))
    obtain ⟨y1, y2, y3⟩ := u2z (M := K') (j := 15) (v := nI q)
    have m1 : ∀ z, z ≠ 0 → (z < 9 ∨ 12 < z) → u2 (u2 K' 0 15 (nI q)) 0 14 (0 : Int32) z = M z := fun z p r => (z1 z p).trans ((y1 z p).trans ((p4.1 z p r).trans (k1 z p)))
    have m2 : ∀ j, j ≠ 14 → j ≠ 15 → j ≠ 16 → u2 (u2 K' 0 15 (nI q)) 0 14 (0 : Int32) 0 j = M 0 j := fun j p r t => (z2 j p).trans ((y2 j r).trans ((p4.2 j r t).trans (k2 j t)))
    obtain ⟨v1, v2⟩ := e45 (I := u2 I1 45 2 (nI q)) (0 : Int32)
    have hMF : MF (u2 (u2 K' 0 15 (nI q)) 0 14 (0 : Int32)) a st wn te := by
      obtain ⟨⟨g1, g2, g3, g4, g5⟩, g6, g7⟩ := h.2.2.1
      refine ⟨⟨fun k hk => ?_, fun k hk => ?_, fun k hk => ?_, ?_, ?_⟩, fun i hi => ?_, ?_⟩
      · rw [m1 2 (by omega) (by omega)]; exact g1 k hk
      · rw [m1 4 (by omega) (by omega), m1 5 (by omega) (by omega)]; exact g2 k hk
      · rw [m1 6 (by omega) (by omega), m1 7 (by omega) (by omega)]; exact g3 k hk
      · rw [m2 7 (by omega) (by omega) (by omega)]; exact g4
      · rw [m2 8 (by omega) (by omega) (by omega)]; exact g5
      · rw [m1 13 (by omega) (by omega), m1 14 (by omega) (by omega), m1 15 (by omega) (by omega), m1 16 (by omega) (by omega)]; exact g6 i hi
      · rw [m2 21 (by omega) (by omega) (by omega)]; exact g7
    refine ⟨(-1000 : Int32) - nI q, u2 (u2 I1 45 2 (nI q)) 45 1 0, J, u2 (u2 K' 0 15 (nI q)) 0 14 0, N, ?_, hMf.trans p3, ⟨a, st, wn, te, 0, tx, rl, h.fault (fun z hz => (v1 z (by omega)).trans ((u1_ne (by omega)).trans (c3 z (by omega)))) hMF (fun z hz => m1 z (by omega) (by omega)) (m2 36 (by omega) (by omega) (by omega)) (m2 38 (by omega) (by omega) (by omega)) z3 (fun k _ => by rw [m1 21 (by omega) (by omega)]) v2⟩⟩
    unfold F_X7_field
    rw [c1, Option.bind_some]
    show ((F_X6_readField 30 I1 J).bind fun (r2, I2, J2) => (if r2 < 0 then ((F_X6_empty I2 J2).bind fun (I4, J4) => (some (r2, I4, J4))) else ((F_X1_copyFrom 0 30 I2 J2).bind fun (I5, J5) => ((F_X6_empty I5 J5).bind fun (I6, J6) => (some (r2, I6, J6)))))) = _
    rw [hrf, Option.bind_some]
    show (if (-1000 : Int32) - nI q < 0 then ((F_X6_empty (u2 I1 45 2 (nI q)) J).bind fun (I4, J4) => (some ((-1000 : Int32) - nI q, I4, J4))) else ((F_X1_copyFrom 0 30 (u2 I1 45 2 (nI q)) J).bind fun (I5, J5) => ((F_X6_empty I5 J5).bind fun (I6, J6) => (some ((-1000 : Int32) - nI q, I6, J6))))) = _
    rw [if_pos (lt1000 q (by omega))]
    rfl
  · have hrf := readF (hff.trans p3)
    rw [if_pos rfl, u2u2] at hrf
    obtain ⟨z1, z2, z3⟩ := u2z (M := u2 K' 0 15 (nI tl)) (j := 14) (v := (0 : Int32))
    obtain ⟨y1, y2, y3⟩ := u2z (M := K') (j := 15) (v := nI tl)
    have m1 : ∀ z, z ≠ 0 → (z < 9 ∨ 12 < z) → u2 (u2 K' 0 15 (nI tl)) 0 14 (0 : Int32) z = M z := fun z p r => (z1 z p).trans ((y1 z p).trans ((p5.1 z p r).trans (k1 z p)))
    have m2 : ∀ j, j ≠ 14 → j ≠ 15 → j ≠ 16 → u2 (u2 K' 0 15 (nI tl)) 0 14 (0 : Int32) 0 j = M 0 j := fun j p r t => (z2 j p).trans ((y2 j r).trans ((p5.2 j r t).trans (k2 j t)))
    have m16 : u2 (u2 K' 0 15 (nI tl)) 0 14 (0 : Int32) 0 16 = nI e := (z2 16 (by omega)).trans ((y2 16 (by omega)).trans p6)
    have hsv : ∀ k, k < e → SV tx tl (ps tx tl k) (u2 (u2 K' 0 15 (nI tl)) 0 14 (0 : Int32)) k := fun k hk => (p7 k hk).2.2.mw (fun z hz => by rw [z1 z (by omega), y1 z (by omega)])
    have hMF : MF (u2 (u2 K' 0 15 (nI tl)) 0 14 (0 : Int32)) a st wn te := by
      obtain ⟨⟨g1, g2, g3, g4, g5⟩, g6, g7⟩ := h.2.2.1
      refine ⟨⟨fun k hk => ?_, fun k hk => ?_, fun k hk => ?_, ?_, ?_⟩, fun i hi => ?_, ?_⟩
      · rw [m1 2 (by omega) (by omega)]; exact g1 k hk
      · rw [m1 4 (by omega) (by omega), m1 5 (by omega) (by omega)]; exact g2 k hk
      · rw [m1 6 (by omega) (by omega), m1 7 (by omega) (by omega)]; exact g3 k hk
      · rw [m2 7 (by omega) (by omega) (by omega)]; exact g4
      · rw [m2 8 (by omega) (by omega) (by omega)]; exact g5
      · rw [m1 13 (by omega) (by omega), m1 14 (by omega) (by omega), m1 15 (by omega) (by omega), m1 16 (by omega) (by omega)]; exact g6 i hi
      · rw [m2 21 (by omega) (by omega) (by omega)]; exact g7
    generalize u2 (u2 K' 0 15 (nI tl)) 0 14 (0 : Int32) = K2 at *
    obtain ⟨M3, s1, s2, s3, s4, s5⟩ := passS (v := 1) (by omega) hMF h.1 N
    have s1' : F_X8_passesAll K2 N (1 : Int32) (1 : Int32) = some (M3, N) := s1
    rw [s1', Option.bind_some] at p4
    have hM3 : MF M3 a st wn te := hMF.mv s3 (fun j hj => s4 j (by omega) (by omega))
    have hX1 : XE I1 30 a st wn := c2.1
    have S := sec_l (J := J) (N := N) h.1 p1 p2 h64 (fun k hk => ⟨(p7 k hk).1, (p7 k hk).2.1⟩) e 3000 3000 0 a st wn I1 M3 (by omega) (by omega) (by omega) hx1 hX1 h.1.1 h.1.2.1 (fun _ _ => rfl) hM3.1 (fun k hk => by rw [s3 3 (by omega) (by omega), m1 3 (by omega) (by omega)]; exact h.2.2.2.2.2.2.1 k hk) ((s4 16 (by omega) (by omega)).trans m16) (fun k hk => (hsv k hk).mv2 (fun z hz => by rw [s3 z (by omega) (by omega)])) s2
    rw [show ps tx tl 0 = 0 from rfl] at S
    have p4' : F_X8_field M N = FL_X8_field_86 3000 M3 N (nI 0) := hMf.trans p4
    have hrf' : F_X6_readField 30 I1 J = FL_X6_readField_26 3000 (u2 I1 45 2 (nI 0)) J 30 (nI 0) (nI 0) := hrf
    have i75 : ∀ k, k < 75 → M3 21 k = M 21 k := fun k hk => (s5 k (by omega)).trans (by rw [m1 21 (by omega) (by omega)])
    rcases S with ⟨I2, M2, k', q1, q2, q3, q4, q5, q6⟩ | ⟨a', st', wn', I2, M2, q1, q2, q3, q4, q5, q6, q7, q8, q9⟩
    · have hk' := (p7 k' q1).1
      obtain ⟨v1, v2⟩ := e45 (I := I2) (0 : Int32)
      refine ⟨(-2000 : Int32) - nI (ps tx tl k'), u2 I2 45 1 0, J, M2, N, ?_, p4'.trans q3, ⟨a, st, wn, te, 0, tx, rl, h.fault (fun z hz => (v1 z (by omega)).trans ((q4.1 z (by omega) (by omega)).trans (c3 z (by omega)))) q5 (fun z hz => (q6.1 z (by omega)).trans ((s3 z (by omega) (by omega)).trans (m1 z (by omega) (by omega)))) ((q6.2 36 (by omega) (by omega) (by omega) (by omega) (by omega)).trans ((s4 36 (by omega) (by omega)).trans (m2 36 (by omega) (by omega) (by omega)))) ((q6.2 38 (by omega) (by omega) (by omega) (by omega) (by omega)).trans ((s4 38 (by omega) (by omega)).trans (m2 38 (by omega) (by omega) (by omega)))) ((q6.2 14 (by omega) (by omega) (by omega) (by omega) (by omega)).trans ((s4 14 (by omega) (by omega)).trans z3)) (fun k hk => by rw [q6.1 21 (by omega)]; exact i75 k hk) v2⟩⟩
      unfold F_X7_field
      rw [c1, Option.bind_some]
      show ((F_X6_readField 30 I1 J).bind fun (r2, I2, J2) => (if r2 < 0 then ((F_X6_empty I2 J2).bind fun (I4, J4) => (some (r2, I4, J4))) else ((F_X1_copyFrom 0 30 I2 J2).bind fun (I5, J5) => ((F_X6_empty I5 J5).bind fun (I6, J6) => (some (r2, I6, J6)))))) = _
      rw [hrf', q2, Option.bind_some]
      show (if (-2000 : Int32) - nI (ps tx tl k') < 0 then ((F_X6_empty I2 J).bind fun (I4, J4) => (some ((-2000 : Int32) - nI (ps tx tl k'), I4, J4))) else ((F_X1_copyFrom 0 30 I2 J).bind fun (I5, J5) => ((F_X6_empty I5 J5).bind fun (I6, J6) => (some ((-2000 : Int32) - nI (ps tx tl k'), I6, J6))))) = _
      rw [if_pos (lt2000 _ (by omega))]
      rfl
    · have hO' : OkA a' st' wn' te := ⟨q3, q4, h.1.2.2.1, fun i hi => by rw [q5 5 (by omega), q5 6 (by omega), q5 7 (by omega), q5 8 (by omega)]; exact h.1.2.2.2 i hi⟩
      have hXF : XF I2 30 a' st' wn' te := ⟨q6, fun i hi => by
        rw [q5 5 (by omega), q5 6 (by omega), q5 7 (by omega), q5 8 (by omega)]
        unfold XT
        rw [q7.1 (30 + 7 + i) (by omega) (by have := h.1.2.2.1; omega)]
        exact c2.2.1 i hi, q7.2.1.trans c2.2.2⟩
      obtain ⟨I3, d1, d2, d3⟩ := xCopy (q := 0) (q1 := 30) (by omega) hXF hO' J
      obtain ⟨v1, v2⟩ := e45 (I := I3) (0 : Int32)
      have X : ∀ z, (15 ≤ z ∧ z < 30 ∨ 45 < z) → u2 I3 45 1 (0 : Int32) z = I z := fun z hz => (v1 z (by omega)).trans ((d3 z (by omega)).trans ((q7.1 z (by omega) (by omega)).trans (c3 z (by omega))))
      have hM2 : MF M2 a' st' wn' te := ⟨q8, fun i hi => by
        rw [q5 5 (by omega), q5 6 (by omega), q5 7 (by omega), q5 8 (by omega), q9.1 13 (by omega), q9.1 14 (by omega), q9.1 15 (by omega), q9.1 16 (by omega)]
        exact hM3.2.1 i hi, (q9.2 21 (by omega) (by omega)).trans hM3.2.2⟩
      have Mz : ∀ z, (z = 1 ∨ z = 3 ∨ z = 20) → M2 z = M z := fun z hz => (q9.1 z (by omega)).trans ((s3 z (by omega) (by omega)).trans (m1 z (by omega) (by omega)))
      have M0 : ∀ j, (j = 36 ∨ j = 38) → M2 0 j = M 0 j := fun j hj => (q9.2 j (by omega) (by omega)).trans ((s4 j (by omega) (by omega)).trans (m2 j (by omega) (by omega) (by omega)))
      refine ⟨nI e, u2 I3 45 1 0, J, M2, N, ?_, p4'.trans q2, ⟨a', st', wn', te, 0, tx, rl, h.buildT hO' (d2.at h.1.2.2.1 (fun z _ hz => v1 z (by omega))) hM2 ?_ ⟨v2, ?_, ?_, ?_, ?_⟩ ⟨(q9.2 14 (by omega) (by omega)).trans ((s4 14 (by omega) (by omega)).trans z3), M0 36 (by omega), Mz 20 (by omega), Mz 1 (by omega), Mz 3 (by omega)⟩⟩⟩
      · unfold F_X7_field
        rw [c1, Option.bind_some]
        show ((F_X6_readField 30 I1 J).bind fun (r2, I2, J2) => (if r2 < 0 then ((F_X6_empty I2 J2).bind fun (I4, J4) => (some (r2, I4, J4))) else ((F_X1_copyFrom 0 30 I2 J2).bind fun (I5, J5) => ((F_X6_empty I5 J5).bind fun (I6, J6) => (some (r2, I6, J6)))))) = _
        rw [hrf', q1, Option.bind_some]
        show (if nI e < 0 then ((F_X6_empty I2 J).bind fun (I4, J4) => (some (nI e, I4, J4))) else ((F_X1_copyFrom 0 30 I2 J).bind fun (I5, J5) => ((F_X6_empty I5 J5).bind fun (I6, J6) => (some (nI e, I6, J6))))) = _
        rw [if_neg (nI_pos (by omega)), d1, Option.bind_some]
        rfl
      · have hi := h.2.2.2.2.2.2.2.1
        unfold IM at hi ⊢
        rw [X 59 (by omega), M0 38 (by omega)]
        rcases hi with h1 | ⟨h1, h2, b, st2, wn2, te2, g1, g2, g3⟩
        · exact Or.inl h1
        · exact Or.inr ⟨h1, h2, b, st2, wn2, te2, g1, g2.at g1.2.2.1 (fun z hz hz2 => X z (by omega)), g3.cg g1.1.1 g1.2.1 g1.2.2.1 (fun k hk => by rw [q9.1 21 (by omega)]; exact i75 k hk)⟩
      · rw [X 59 (by omega)]
      · rw [X 60 (by omega)]
      · rw [X 61 (by omega)]
      · rw [X 48 (by omega)]
end S34
