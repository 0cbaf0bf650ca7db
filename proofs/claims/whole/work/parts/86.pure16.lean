/-- a byte of a long, either shift -/
theorem byteK (x : BitVec 64) (s : Nat) (hs : s ≤ 56) : (x >>> s) &&& 255#64 = x.sshiftRight s &&& 255#64 := by
  apply BitVec.eq_of_getLsbD_eq
  intro i hi
  rw [BitVec.getLsbD_and, BitVec.getLsbD_and, BitVec.getLsbD_ushiftRight, BitVec.getLsbD_sshiftRight]
  by_cases c : i < 8
  · have h1 : s + i < 64 := by omega
    have h2 : ¬ 64 ≤ i := by omega
    simp [h1, h2]
  · have h3 : (255#64).getLsbD i = false := by
      rw [BitVec.getLsbD_ofNat, show 255 = 2 ^ 8 - 1 from rfl, Nat.testBit_two_pow_sub_one, decide_eq_false c, Bool.and_false]
    rw [h3, Bool.and_false, Bool.and_false]
theorem byteE (v : Int64) {i : Nat} (hi : i < 8) : Int64.toInt32 (((Int64.toUInt64 v >>> ((Int32.toInt64 ((8 : Int32) * nI i)).toUInt64 &&& Int64.toUInt64 63)).toInt64) &&& (255 : Int64)) = Int64.toInt32 ((v >>> (Int32.toInt64 ((8 : Int32) * nI i) &&& 63)) &&& (255 : Int64)) := by
  refine congrArg Int64.toInt32 (Int64.toBitVec_inj.mp ?_)
  rcases (by omega : i = 0 ∨ i = 1 ∨ i = 2 ∨ i = 3 ∨ i = 4 ∨ i = 5 ∨ i = 6 ∨ i = 7) with rfl | rfl | rfl | rfl | rfl | rfl | rfl | rfl
  · exact byteK v.toBitVec 0 (by omega)
  · exact byteK v.toBitVec 8 (by omega)
  · exact byteK v.toBitVec 16 (by omega)
  · exact byteK v.toBitVec 24 (by omega)
  · exact byteK v.toBitVec 32 (by omega)
  · exact byteK v.toBitVec 40 (by omega)
  · exact byteK v.toBitVec 48 (by omega)
  · exact byteK v.toBitVec 56 (by omega)
theorem byteN (x : Int64) : ∃ j : Nat, j < 256 ∧ Int64.toInt32 (x &&& (255 : Int64)) = nI j := by
  rw [Int64.toInt32_and]
  exact pk_andE x.toInt32 8 (by decide)
section S16
variable {I M : SI} {J N : SJ} {a : NN} {st wn te tl rl : Nat} {tx : Nat → Nat}
theorem Ro.byte (h : Ro I M a st wn te tl tx rl) (hl : tl < 64) {j : Nat} (hj : j < 256) : Ro (u2 (u1 I 46 (upd (I 46) tl (nI j))) 45 1 (nI (tl + 1))) (u2 (u1 M 8 (upd (M 8) tl (nI j))) 0 14 (nI (tl + 1))) a st wn te (tl + 1) (fun k => if k = tl then j else tx k) rl := by
  obtain ⟨hO, hX, hM, hT, hW, hr, ht, hi, h48⟩ := h
  have ex : ∀ z, z ≠ 46 → z ≠ 45 → u2 (u1 I 46 (upd (I 46) tl (nI j))) 45 1 (nI (tl + 1)) z = I z := fun z a b => (u1_ne b).trans (u1_ne a)
  have em : ∀ z, z ≠ 8 → z ≠ 0 → u2 (u1 M 8 (upd (M 8) tl (nI j))) 0 14 (nI (tl + 1)) z = M z := fun z a b => (u1_ne b).trans (u1_ne a)
  have e0 : ∀ i, i ≠ 14 → u2 (u1 M 8 (upd (M 8) tl (nI j))) 0 14 (nI (tl + 1)) 0 i = M 0 i := fun i hi => by
    show u1 _ 0 (upd _ 14 _) 0 i = _
    rw [u1_at, pk_un hi, u1_ne (by omega)]
  refine ⟨hO, hX.at hO.2.2.1 (fun z _ hz => ex z (by omega) (by omega)), ⟨⟨fun i hi => ?_, fun i hi => ?_, fun i hi => ?_, ?_, ?_⟩, fun i hi => ?_, ?_⟩, ⟨hl, ?_, ?_, fun k hk => ?_⟩, ⟨hW.1, ?_, ?_, fun i hi => ?_⟩, fun i hi => ?_, fun i hi => ?_, ?_, ?_⟩
  · rw [em 2 (by omega) (by omega)]; exact hM.1.1 i hi
  · rw [em 4 (by omega) (by omega), em 5 (by omega) (by omega)]; exact hM.1.2.1 i hi
  · rw [em 6 (by omega) (by omega), em 7 (by omega) (by omega)]; exact hM.1.2.2.1 i hi
  · rw [e0 7 (by omega)]; exact hM.1.2.2.2.1
  · rw [e0 8 (by omega)]; exact hM.1.2.2.2.2
  · rw [em 13 (by omega) (by omega), em 14 (by omega) (by omega), em 15 (by omega) (by omega), em 16 (by omega) (by omega)]; exact hM.2.1 i hi
  · rw [e0 21 (by omega)]; exact hM.2.2
  · show u1 _ 45 (upd _ 1 _) 45 1 = _
    rw [u1_at, pk_us]
  · show u1 _ 0 (upd _ 14 _) 0 14 = _
    rw [u1_at, pk_us]
  · show u1 (u1 I 46 _) 45 _ 46 k = nI (if k = tl then j else tx k) ∧ u1 (u1 M 8 _) 0 _ 8 k = nI (if k = tl then j else tx k) ∧ (if k = tl then j else tx k) < 256
    rw [u1_ne (by omega), u1_at, u1_ne (by omega), u1_at]
    unfold upd
    by_cases c : k = tl
    · rw [if_pos c, if_pos c, if_pos c]
      exact ⟨rfl, rfl, hj⟩
    · rw [if_neg c, if_neg c, if_neg c]
      exact hT.2.2.2 k (by omega)
  · rw [ex 59 (by omega) (by omega)]; exact hW.2.1
  · rw [e0 36 (by omega)]; exact hW.2.2.1
  · rw [ex 60 (by omega) (by omega), em 20 (by omega) (by omega)]; exact hW.2.2.2 i hi
  · rw [ex 61 (by omega) (by omega), em 1 (by omega) (by omega)]; exact hr i hi
  · rw [em 3 (by omega) (by omega)]; exact ht i hi
  · unfold IM
    rw [ex 59 (by omega) (by omega), e0 38 (by omega), em 21 (by omega) (by omega)]
    rcases hi with h1 | ⟨h1, h2, b, st', wn', te', g1, g2, g3⟩
    · exact Or.inl h1
    · exact Or.inr ⟨h1, h2, b, st', wn', te', g1, g2.at g1.2.2.1 (fun z _ hz => ex z (by omega) (by omega)), g3⟩
  · rw [ex 48 (by omega) (by omega)]; exact h48
theorem feed_l (v : Int64) {c : Nat} (hc : c ≤ 8) : ∀ (d n i tl : Nat) (tx : Nat → Nat) (I M : SI), i + d = c → d < n → tl + d ≤ 64 → Ro I M a st wn te tl tx rl →
    ∃ (I' M' : SI) (tl' : Nat) (tx' : Nat → Nat), FL_X6_append_3 n I J (nI c) v (nI i) = some (I', J) ∧ FL_X8_feed_44 n M N (nI c) v (nI i) = some (nI tl', M', N) ∧ I' 45 1 = nI tl' ∧ Ro I' M' a st wn te tl' tx' rl := by
  intro d
  induction d with
  | zero =>
    intro n i tl tx I M hi hn ht h
    obtain ⟨n, rfl⟩ := suc hn
    refine ⟨I, M, tl, tx, ?_, ?_, h.2.2.2.1.2.1, h⟩
    · rw [FL_X6_append_3, if_pos (nI_le (by omega) (by omega))]
    · rw [FL_X8_feed_44, if_pos (nI_le (by omega) (by omega)), h.2.2.2.1.2.2.1]
  | succ d ih =>
    intro n i tl tx I M hi hn ht h
    obtain ⟨n, rfl⟩ := suc hn
    obtain ⟨j, hj, ej⟩ := byteN (v >>> (Int32.toInt64 ((8 : Int32) * nI i) &&& 63))
    have ei := byteE v (show i < 8 by omega)
    rw [ej] at ei
    obtain ⟨I', M', tl', tx', a1, a2, a3, a4⟩ := ih n (i + 1) (tl + 1) _ _ _ (by omega) (by omega) (by omega) (h.byte (by omega) hj)
    have t1 := h.2.2.2.1.2.1
    have t2 := h.2.2.2.1.2.2.1
    have g1 : u1 I 46 (upd (I 46) tl (nI j)) 45 1 = nI tl := (congrFun (u1_ne (by omega)) 1).trans t1
    have g2 : u1 M 8 (upd (M 8) tl (nI j)) 0 14 = nI tl := (congrFun (u1_ne (by omega)) 14).trans t2
    refine ⟨I', M', tl', tx', ?_, ?_, a3, a4⟩
    · rw [FL_X6_append_3, if_neg (nI_ge (by omega) (by omega)), ei, t1, pPut (by omega) (by omega), Option.bind_some, g1, nI_1, nI_1]
      exact a1
    · rw [FL_X8_feed_44, if_neg (nI_ge (by omega) (by omega)), ej, t2, if_pos (gin_nI (by omega) (by omega)), nI_clamp (by omega), g2, nI_1, nI_1]
      exact a2
theorem feedM0 {M M' : SI} {N : SJ} {v1 r : Int32} {v2 : Int64} (F : SI → SJ → Int32 → Int64 → Int32 → Option (Int32 × SI × SJ)) (h1 : F_X8_bound v1 1 8 = some 0) (h2 : M 0 14 + v1 ≤ (64 : Int32)) (h3 : F M N v1 v2 (0 : Int32) = some (r, M', N)) :
    ((F_X8_bound v1 (1 : Int32) (8 : Int32)).bind fun r1 => (if r1 = 0 then (if ((M 0 14) + v1) ≤ (64 : Int32) then (if r1 = 0 then (F M N v1 v2 (0 : Int32)) else ((F_X8_no M N r1).bind fun (r9, I9, J9) => (some (r9, I9, J9)))) else (if (-6 : Int32) = 0 then (F M N v1 v2 (0 : Int32)) else ((F_X8_no M N (-6 : Int32)).bind fun (r11, I11, J11) => (some (r11, I11, J11))))) else (if r1 = 0 then (F M N v1 v2 (0 : Int32)) else ((F_X8_no M N r1).bind fun (r6, I6, J6) => (some (r6, I6, J6)))))) = some (r, M', N) := by
  simp only [h1, if_pos h2, h3, Option.bind_some, ↓reduceIte]
theorem st0 : St0 Rl := by
  intro I J M N v1 v2 hR
  obtain ⟨a, st, wn, te, tl, tx, rl, h⟩ := id hR
  obtain ⟨t1, t2, t3, t4⟩ := h.2.2.2.1
  have no6 : ∃ (I1 M1 : SI), F_X7_refuse I J (-6) = some (-6, I1, J) ∧ F_X8_no M N (-6) = some (-6, M1, N) ∧ Rl I1 J M1 N := bNo hR (by decide)
  rcases rng_c v1 1 8 with ⟨r0, r1, r2⟩ | ⟨r4, _⟩ | ⟨r6, _, _⟩
  · obtain ⟨c, hc, rfl⟩ := nI_of2 (n := 8) (M := 8) (by decide) (fun q => Int32.not_le.mpr (Int32.lt_trans q (show (0 : Int32) < 1 by decide)) r1) r2
    have eX : I 45 1 + nI c = nI (tl + c) := by rw [t2, nI_add]
    have eM : M 0 14 + nI c = nI (tl + c) := by rw [t3, nI_add]
    by_cases q : 64 < tl + c
    · obtain ⟨I1, M1, h1, h2, h3⟩ := no6
      have q1 : (64 : Int32) < nI (tl + c) := nI_lt (a := 64) q (by omega)
      exact ⟨_, I1, J, M1, N, (by simp only [F_X7_feed, F_X6_hasRoom, rngX, r0, eX, if_pos q1, Option.bind_some, i60, ↓reduceIte, h1] : F_X7_feed I J (nI c) v2 = some (-6, I1, J)), by simp only [F_X8_feed, rngM, r0, eM, if_neg (Int32.not_le.mpr q1), Option.bind_some, i60, ↓reduceIte, h2], h3⟩
    · have q1 : ¬ (64 : Int32) < nI (tl + c) := nI_nlt (b := tl + c) (a := 64) (by omega) (by omega)
      obtain ⟨I', M', tl', tx', a1, a2, a3, a4⟩ := feed_l (J := J) (N := N) v2 hc c 3000 0 tl tx I M (by omega) (by omega) (by omega) h
      rw [show nI 0 = (0 : Int32) from rfl] at a1 a2
      have a1' : F_X6_append I J (nI c) v2 = some (I', J) := a1
      refine ⟨nI tl', I', J, M', N, ?_, ?_, ⟨a, st, wn, te, tl', tx', rl, a4⟩⟩
      · simp only [F_X7_feed, F_X6_hasRoom, rngX, r0, eX, if_neg q1, Option.bind_some, i10, ↓reduceIte, a1', a3]
      · unfold F_X8_feed
        exact feedM0 (FL_X8_feed_44 3000) (by rw [rngM, r0]) (by rw [eM]; exact Int32.not_lt.mp q1) a2
  · obtain ⟨I1, M1, h1, h2, h3⟩ := bNo hR (v := -4) (by decide)
    exact ⟨_, I1, J, M1, N, (by simp only [F_X7_feed, rngX, r4, Option.bind_some, i40, ↓reduceIte, h1] : F_X7_feed I J v1 v2 = some (-4, I1, J)), by simp only [F_X8_feed, rngM, r4, Option.bind_some, i40, ↓reduceIte, h2], h3⟩
  · obtain ⟨I1, M1, h1, h2, h3⟩ := no6
    exact ⟨_, I1, J, M1, N, (by simp only [F_X7_feed, rngX, r6, Option.bind_some, i60, ↓reduceIte, h1] : F_X7_feed I J v1 v2 = some (-6, I1, J)), by simp only [F_X8_feed, rngM, r6, Option.bind_some, i60, ↓reduceIte, h2], h3⟩
end S16
