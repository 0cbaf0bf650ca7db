theorem yearsM0 (G : Int32 → Option (Int64 × SI × SJ)) (v2 v3 : Int32) : (if v2 < 0 then G (-4) else if 1 ≤ v3 then (if 3 < v2 then G (-6) else G (if v3 ≤ 10 then 0 else -6)) else G (-4)) = G (f2 (rng v2 0 3) (rng v3 1 10)) := by
  by_cases c1 : v2 < 0
  · rw [if_pos c1, rng_lo c1, f2_l]
  rw [if_neg c1]
  by_cases c2 : v3 < 1
  · rw [if_neg (Int32.not_le.mpr c2), rng_lo c2, f2_r]
  rw [if_pos (Int32.not_lt.mp c2), rng_c2 c1, rng_c2 c2]
  by_cases d1 : (3 : Int32) < v2
  · rw [if_pos d1, if_pos d1]
    by_cases d2 : (10 : Int32) < v3
    · rw [if_pos d2, show f2 (-6) (-6) = -6 from by decide]
    · rw [if_neg d2, show f2 (-6) 0 = -6 from by decide]
  · rw [if_neg d1, if_neg d1]
    by_cases d2 : (10 : Int32) < v3
    · rw [if_neg (Int32.not_le.mpr d2), if_pos d2, show f2 0 (-6) = -6 from by decide]
    · rw [if_pos (Int32.not_lt.mp d2), if_neg d2, show f2 0 0 = 0 from by decide]
/-- the last bit that is asked for, in an int and in a long -/
theorem bitE {n : Nat} (h0 : 1 ≤ n) (hn : n ≤ 10) (x : Int32) : (((x.toInt64 >>> (Int32.toInt64 (nI n - (1 : Int32)) &&& 63)) &&& (1 : Int64)) = (1 : Int64)) ↔ (((x >>> ((nI n - (1 : Int32)) &&& 31)) &&& (1 : Int32)) = (1 : Int32)) := by
  have hs : ∃ k : Nat, (((nI n - (1 : Int32)) &&& 31).toBitVec.smod 32).toNat = k ∧ ((Int32.toInt64 (nI n - (1 : Int32)) &&& 63).toBitVec.smod 64).toNat = k := by
    refine ⟨n - 1, ?_⟩
    rcases (by omega : n = 1 ∨ n = 2 ∨ n = 3 ∨ n = 4 ∨ n = 5 ∨ n = 6 ∨ n = 7 ∨ n = 8 ∨ n = 9 ∨ n = 10) with rfl | rfl | rfl | rfl | rfl | rfl | rfl | rfl | rfl | rfl <;> exact ⟨by decide, by decide⟩
  obtain ⟨k, k1, k2⟩ := hs
  have e1 := pk_shr x _ k k1
  have e2 : (x.toInt64 >>> (Int32.toInt64 (nI n - (1 : Int32)) &&& 63)).toInt = x.toInt64.toInt >>> k := by
    show (x.toInt64.toBitVec.sshiftRight ((Int32.toInt64 (nI n - (1 : Int32)) &&& 63).toBitVec.smod 64).toNat).toInt = _
    rw [k2, BitVec.toInt_sshiftRight]
    rfl
  have e3 : x.toInt64 >>> (Int32.toInt64 (nI n - (1 : Int32)) &&& 63) = (x >>> ((nI n - (1 : Int32)) &&& 31)).toInt64 := Int64.toInt_inj.mp (by rw [e2, Int32.toInt_toInt64, Int32.toInt_toInt64, e1])
  rw [e3]
  generalize x >>> ((nI n - (1 : Int32)) &&& 31) = z
  have e4 : z.toInt64 &&& (1 : Int64) = (z &&& (1 : Int32)).toInt64 := by
    rw [Int32.toInt64_and]
    rfl
  rw [e4]
  constructor
  · intro h
    have h' : (z &&& (1 : Int32)).toInt64.toInt = (1 : Int32).toInt := by rw [h]; decide
    rw [Int32.toInt_toInt64] at h'
    exact Int32.toInt_inj.mp h'
  · intro h
    rw [h]
    decide
section S26
variable {I M : SI} {J N : SJ} {a : NN} {st wn te tl rl k A B Q t p i n py : Nat} {tx : Nat → Nat} {W : Nat → Nat → Int64} {v1 v2 v3 v4 : Int32}
theorem yearsM (hm : F_X8_isTerm M N v1 = some 1) (hw : F_X8_isIn v4 0 1 = some 1) : F_X8_years M N v1 v2 v3 v4 = (if f2 (rng v2 0 3) (rng v3 1 10) = 0 then ((F_X8_takesTerm M N v1).bind fun (I7, J7) => ((F_X8_findYears I7 J7 v3 (0 : Int32)).bind fun (I8, J8) => (if v4 = 0 then ((F_X8_dungedFrom I8 J8 v2 v3).bind fun r11 => (some ((Int32.toInt64 r11), I8, J8))) else (if gin v2 44 = true then (some ((J8 17 (Int32.toNatClampNeg v2)), I8, J8)) else none)))) else ((F_X8_noLong M N (f2 (rng v2 0 3) (rng v3 1 10))).bind fun (r12, I12, J12) => (some (r12, I12, J12)))) := by
  unfold F_X8_years
  rw [hm, Option.bind_some, if_neg (show ¬ (1 : Int32) = 0 by decide), hw, Option.bind_some, if_neg (show ¬ (1 : Int32) = 0 by decide)]
  exact yearsM0 (fun r => if r = 0 then ((F_X8_takesTerm M N v1).bind fun (I7, J7) => ((F_X8_findYears I7 J7 v3 (0 : Int32)).bind fun (I8, J8) => (if v4 = 0 then ((F_X8_dungedFrom I8 J8 v2 v3).bind fun r11 => (some ((Int32.toInt64 r11), I8, J8))) else (if gin v2 44 = true then (some ((J8 17 (Int32.toNatClampNeg v2)), I8, J8)) else none)))) else ((F_X8_noLong M N r).bind fun (r12, I12, J12) => (some (r12, I12, J12)))) v2 v3
theorem HD.hk (h : HD M k A B Q 0 0) : HK M k A B Q := ⟨h.1, h.2.1, h.2.2.1, h.2.2.2.1, h.2.2.2.2.2⟩
theorem of_rng0 {v hi : Int32} {n : Nat} (hh : hi.toInt = n) (h : rng v 0 hi = 0) : ∃ c : Nat, c ≤ n ∧ v = nI c := by
  obtain ⟨r1, r2⟩ := rng_z h
  exact of_rng hh r1 r2
theorem pos1 {n : Nat} (h : (1 : Int32) ≤ nI n) : 1 ≤ n := Nat.not_lt.mp (fun q => by rw [show n = 0 by omega] at h; exact absurd h (by decide))
theorem xSum0 {d : Nat} (hd : d < 4) (h57 : ∀ y x, y ≤ n → x < 4 → J 57 (y * 4 + x) = yS W n py (n - y) x) : F_X0_sumOf I J (0 : Int32) (nI d) = some (yS W n py n d) := by
  unfold F_X0_sumOf
  have e : (0 : Int32) * (4 : Int32) + nI d = nI d := by rw [Int32.zero_mul, Int32.zero_add]
  have e2 := h57 0 d (by omega) hd
  rw [Nat.zero_mul, Nat.zero_add, Nat.sub_zero] at e2
  rw [e, pAtL (by omega) (by omega), Option.bind_some, e2]
theorem st18 : St18 Rl := by
  intro I J M N v1 v2 v3 v4 hR
  obtain ⟨a, st, wn, te, tl, tx, rl, h⟩ := id hR
  rcases termC (J := J) (N := N) h v1 with ⟨hx, hm⟩ | ⟨i, hi, rfl, hx, hm⟩
  · obtain ⟨I1, M1, h1, h2, h3⟩ := bNoL hR (v := -1) (by decide)
    exact ⟨_, I1, J, M1, N, (by simp only [F_X7_years, hx, Option.bind_some, h1] : F_X7_years I J v1 v2 v3 v4 = some ((4000000000000000000 : Int64) - Int32.toInt64 (-1), I1, J)), by simp only [F_X8_years, hm, Option.bind_some, i00, ↓reduceIte, h2], h3⟩
  rcases whoC v4 with ⟨gx, gm⟩ | ⟨w, hw, rfl, gx, gm⟩
  · have n0 : ¬ v4 = 0 := fun q => by rw [q] at gm; exact absurd gm (by decide)
    have n1 : ¬ v4 = 1 := fun q => by rw [q] at gm; exact absurd gm (by decide)
    obtain ⟨I1, M1, h1, h2, h3⟩ := bNoL hR (v := -2) (by decide)
    exact ⟨_, I1, J, M1, N, (by simp only [F_X7_years, hx, Option.bind_some, if_neg n0, if_neg n1, h1] : F_X7_years I J (nI i) v2 v3 v4 = some ((4000000000000000000 : Int64) - Int32.toInt64 (-2), I1, J)), by simp only [F_X8_years, hm, gm, Option.bind_some, i10, i00, ↓reduceIte, h2], h3⟩
  have hMy := yearsM (v2 := v2) (v3 := v3) hm gm
  have b1 := f2_0 (rng_3 v2 0 3) (rng_3 v3 1 10)
  have fr := frs (rng v2 0 3) (rng v3 1 10)
  have rx := rngX v2 0 3
  have ry := rngX v3 1 10
  rcases b1.1 with r0 | r46
  · rw [r0, if_pos rfl] at hMy
    rw [r0] at fr
    obtain ⟨d, hd, rfl⟩ := of_rng0 (hi := 3) (n := 3) (by decide) (b1.2 r0).1
    obtain ⟨n, hn, rfl⟩ := of_rng1 (hi := 10) (n := 10) (by decide) (b1.2 r0).2
    have hT := h.1.2.2.2 i hi
    obtain ⟨I1, J1, a1, a2, a3, a4⟩ := xYL h hi hn J
    obtain ⟨J2, c1, c2, c3⟩ := xSU (py := 0) hn a3 a4
    rw [show nI 0 = (0 : Int32) from rfl] at c1
    have e1 := xYB hn a3 c3 (show d < 4 by omega)
    have e2 := xSum0 (I := I1) (show d < 4 by omega) c3
    obtain ⟨M1, t1, t2, t3⟩ := takeM (N := N) h hi
    obtain ⟨M2, N2, g1, g2, g3, g4⟩ := mSU (py := 0) h.1.1 (h.2.2.1.sm t3).1 t2.hk hT hn (by omega) N
    rw [show nI 0 = (0 : Int32) from rfl] at g1
    have e3 := mYB (N := N2) hn g4 (show d < 4 by omega)
    have e4 : N2 17 d = yS (yW a st wn (a 5 i) (a 6 i) (a 7 i) (a 8 i)) n 0 n d := by
      have e := g3 0 d (by omega) (by omega)
      rw [Nat.mul_zero, Nat.zero_add, Nat.sub_zero] at e
      exact e
    have hRr : Rl I1 J2 M2 N2 := hR.same a2 (t3.tr g2.sm)
    have eg : gin (nI d) 44 = true := gin_nI (by omega) (by omega)
    have ec : (nI d).toNatClampNeg = d := nI_clamp (by omega)
    rw [t1, Option.bind_some] at hMy
    have hMy' : F_X8_years M N (nI i) (nI d) (nI n) (nI w) = ((F_X8_findYears M1 N (nI n) (0 : Int32)).bind fun (I8, J8) => (if nI w = 0 then ((F_X8_dungedFrom I8 J8 (nI d) (nI n)).bind fun r11 => (some ((Int32.toInt64 r11), I8, J8))) else (if gin (nI d) 44 = true then (some ((J8 17 (Int32.toNatClampNeg (nI d))), I8, J8)) else none))) := hMy
    rw [g1, Option.bind_some] at hMy'
    have hMz : F_X8_years M N (nI i) (nI d) (nI n) (nI w) = (if nI w = 0 then ((F_X8_dungedFrom M2 N2 (nI d) (nI n)).bind fun r11 => (some ((Int32.toInt64 r11), M2, N2))) else (if gin (nI d) 44 = true then (some ((N2 17 (Int32.toNatClampNeg (nI d))), M2, N2)) else none)) := hMy'
    rw [e3, Option.bind_some, if_pos eg, ec, e4] at hMz
    generalize yS (yW a st wn (a 5 i) (a 6 i) (a 7 i) (a 8 i)) n 0 = S at *
    rcases (by omega : w = 0 ∨ w = 1) with rfl | rfl
    · rw [if_pos (show nI 0 = 0 from rfl)] at hMz
      have z0 : nI 0 = (0 : Int32) := rfl
      refine ⟨_, I1, J2, M2, N2, ?_, hMz, hRr⟩
      rw [z0]
      simp only [F_X7_years, hx, rx, ry, fr, Option.bind_some, ↓reduceIte, a1, c1, e1]
    · rw [if_neg (show ¬ nI 1 = 0 by decide)] at hMz
      have z0 : nI 1 = (1 : Int32) := rfl
      refine ⟨_, I1, J2, M2, N2, ?_, hMz, hRr⟩
      rw [z0]
      simp only [F_X7_years, hx, rx, ry, fr, Option.bind_some, i10, ↓reduceIte, a1, c1, e2]
  · have hn := neg46 r46
    obtain ⟨I1, M1, h1, h2, h3⟩ := bNoL hR (v := f2 (rng v2 0 3) (rng v3 1 10)) (by rcases r46 with e | e <;> rw [e] <;> decide)
    rw [if_neg hn, h2, Option.bind_some] at hMy
    refine ⟨_, I1, J, M1, N, ?_, hMy, h3⟩
    rcases (by omega : w = 0 ∨ w = 1) with rfl | rfl
    · rw [show nI 0 = (0 : Int32) from rfl]
      simp only [F_X7_years, hx, rx, ry, fr, Option.bind_some, ↓reduceIte, if_neg hn, h1]
    · rw [show nI 1 = (1 : Int32) from rfl]
      simp only [F_X7_years, hx, rx, ry, fr, Option.bind_some, i10, ↓reduceIte, if_neg hn, h1]
def lv (f : Nat → Int32) : Nat → Nat → Int32
  | 0, _ => -9
  | n + 1, q => if f q = 1 then nI q else lv f n (q + 1)
def lf (W : Nat → Nat → Int64) (n q : Nat) : Int32 := (yb (yS W n q) n 0 0 0 >>> ((nI n - (1 : Int32)) &&& 31)) &&& (1 : Int32)
theorem xLv_l (h0 : 1 ≤ n) (hn : n ≤ 10) (h55 : I 55 2 = nI n) : ∀ (j m q : Nat) (J : SJ), q + j = 100 → j < m → (∀ y d', y < n → d' < 4 → J 56 (y * 4 + d') = W y d') →
    ∃ J' : SJ, FL_X7_leaving_56 m I J (nI n) (nI q) = some (lv (lf W n) j q, I, J') := by
  intro j
  induction j with
  | zero =>
    intro m q J hq hm h56
    obtain ⟨m, rfl⟩ := suc hm
    rw [FL_X7_leaving_56, if_pos (show (99 : Int32) < nI q from nI_lt (a := 99) (by omega) (by omega))]
    exact ⟨J, rfl⟩
  | succ j ih =>
    intro m q J hq hm h56
    obtain ⟨m, rfl⟩ := suc hm
    obtain ⟨J2, c1, c2, c3⟩ := xSU (py := q) hn h55 h56
    have e1 : F_X0_yearsWithDung I J2 (0 : Int32) = some (yb (yS W n q) n 0 0 0).toInt64 := xYB hn h55 c3 (d := 0) (by omega)
    rw [FL_X7_leaving_56, if_neg (show ¬ (99 : Int32) < nI q from nI_nlt (b := q) (a := 99) (by omega) (by omega)), c1, Option.bind_some]
    show ∃ J' : SJ, ((F_X0_yearsWithDung I J2 (0 : Int32)).bind fun r8 => (if ((r8 >>> (Int32.toInt64 (nI n - (1 : Int32)) &&& 63)) &&& (1 : Int64)) = (1 : Int64) then (some (nI q, I, J2)) else (FL_X7_leaving_56 m I J2 (nI n) (nI q + 1)))) = _
    rw [e1, Option.bind_some, nI_1]
    unfold lv
    by_cases c : lf W n q = 1
    · rw [if_pos c, if_pos ((bitE h0 hn _).mpr c)]
      exact ⟨J2, rfl⟩
    · rw [if_neg c, if_neg (fun z => c ((bitE h0 hn _).mp z))]
      exact ih m (q + 1) J2 (by omega) (by omega) (fun y d' hy hd' => by rw [c2]; exact h56 y d' hy hd')
theorem mLv_l (hO : OkF a st wn) (hT : OkT k A B Q) (hn : n ≤ 10) : ∀ (j m q : Nat) (M : SI) (N : SJ), q + j = 100 → j < m → ME M a st wn → HK M k A B Q →
    ∃ (M' : SI) (N' : SJ), FL_X8_leaving_40 m M N (nI n) (nI q) = some (lv (lf (yW a st wn k A B Q) n) j q, M', N') ∧ Y4 M M' := by
  intro j
  induction j with
  | zero =>
    intro m q M N hq hm hM hH
    obtain ⟨m, rfl⟩ := suc hm
    rw [FL_X8_leaving_40, if_pos (show (100 : Int32) ≤ nI q from nI_le (a := 100) (by omega) (by omega))]
    exact ⟨M, N, rfl, Y4.rf⟩
  | succ j ih =>
    intro m q M N hq hm hM hH
    obtain ⟨m, rfl⟩ := suc hm
    obtain ⟨M2, N2, g1, g2, g3, g4⟩ := mSU (py := q) hO hM hH hT hn (by omega) N
    have e3 : F_X8_dungedFrom M2 N2 (0 : Int32) (nI n) = some (yb (yS (yW a st wn k A B Q) n q) n 0 0 0) := mYB hn g4 (d := 0) (by omega)
    rw [FL_X8_leaving_40, if_neg (show ¬ (100 : Int32) ≤ nI q from nI_ge (b := 100) (by omega) (by omega)), g1, Option.bind_some]
    show ∃ (M' : SI) (N' : SJ), ((F_X8_dungedFrom M2 N2 (0 : Int32) (nI n)).bind fun r8 => (if ((r8 >>> ((nI n - (1 : Int32)) &&& 31)) &&& (1 : Int32)) = (1 : Int32) then (some (nI q, M2, N2)) else (FL_X8_leaving_40 m M2 N2 (nI n) (nI q + 1)))) = _ ∧ _
    rw [e3, Option.bind_some, nI_1]
    unfold lv
    by_cases c : lf (yW a st wn k A B Q) n q = 1
    · rw [if_pos c]
      refine ⟨M2, N2, ?_, g2⟩
      exact if_pos c
    · rw [if_neg c]
      obtain ⟨M', N', b1, b2⟩ := ih m (q + 1) M2 N2 (by omega) (by omega) (hM.y4 g2) (hH.y4 g2)
      refine ⟨M', N', ?_, g2.tr b2⟩
      exact (if_neg c).trans b1
theorem lvX0 {I' I2 : SI} {J' J2 : SJ} {t : Nat} {r : Int32} (F : SI → SJ → Int32 → Int32 → Option (Int32 × SI × SJ)) (h1 : F_X1_termAt 0 I J v1 = some (some t)) (h3 : F_X7_inRange v2 1 10 = some 0) (h4 : F_X0_lay t I J v2 = some (I', J')) (h6 : F I' J' v2 (0 : Int32) = some (r, I2, J2)) :
    ((F_X1_termAt 0 I J v1).bind fun r1 => (match r1 with | none => ((F_X7_refuse I J (-1 : Int32)).bind fun (r2, I2, J2) => (some (r2, I2, J2))) | some t1 => ((F_X7_inRange v2 (1 : Int32) (10 : Int32)).bind fun r3 => (if r3 = 0 then ((F_X0_lay t1 I J v2).bind fun (I5, J5) => (F I5 J5 v2 (0 : Int32))) else ((F_X7_refuse I J r3).bind fun (r10, I10, J10) => (some (r10, I10, J10))))))) = some (r, I2, J2) := by
  simp only [h1, h3, h4, h6, Option.bind_some, ↓reduceIte]
theorem lvX {I' I2 : SI} {J' J2 : SJ} {t : Nat} {r : Int32} (h1 : F_X1_termAt 0 I J v1 = some (some t)) (h3 : F_X7_inRange v2 1 10 = some 0) (h4 : F_X0_lay t I J v2 = some (I', J')) (h6 : FL_X7_leaving_56 3000 I' J' v2 (0 : Int32) = some (r, I2, J2)) : F_X7_leaving I J v1 v2 = some (r, I2, J2) := by
  unfold F_X7_leaving
  exact lvX0 (FL_X7_leaving_56 3000) h1 h3 h4 h6
theorem lvM0 {M' M2 : SI} {N' N2 : SJ} {r : Int32} (F : SI → SJ → Int32 → Int32 → Option (Int32 × SI × SJ)) (h1 : F_X8_isTerm M N v1 = some 1) (h3 : F_X8_bound v2 1 10 = some 0) (h4 : F_X8_takesTerm M N v1 = some (M', N')) (h6 : F M' N' v2 (0 : Int32) = some (r, M2, N2)) :
    ((F_X8_isTerm M N v1).bind fun r1 => (if r1 = 0 then ((F_X8_no M N (-1 : Int32)).bind fun (r11, I11, J11) => (some (r11, I11, J11))) else ((F_X8_bound v2 (1 : Int32) (10 : Int32)).bind fun r3 => (if r3 = 0 then ((F_X8_takesTerm M N v1).bind fun (I5, J5) => (F I5 J5 v2 (0 : Int32))) else ((F_X8_no M N r3).bind fun (r10, I10, J10) => (some (r10, I10, J10))))))) = some (r, M2, N2) := by
  simp only [h1, h3, h4, h6, Option.bind_some, i10, ↓reduceIte]
theorem lvM {M' M2 : SI} {N' N2 : SJ} {r : Int32} (h1 : F_X8_isTerm M N v1 = some 1) (h3 : F_X8_bound v2 1 10 = some 0) (h4 : F_X8_takesTerm M N v1 = some (M', N')) (h6 : FL_X8_leaving_40 3000 M' N' v2 (0 : Int32) = some (r, M2, N2)) : F_X8_leaving M N v1 v2 = some (r, M2, N2) := by
  unfold F_X8_leaving
  exact lvM0 (FL_X8_leaving_40 3000) h1 h3 h4 h6
theorem xLv0 (h0 : 1 ≤ n) (hn : n ≤ 10) (h55 : I 55 2 = nI n) (h56 : ∀ y d', y < n → d' < 4 → J 56 (y * 4 + d') = W y d') : ∃ J' : SJ, FL_X7_leaving_56 3000 I J (nI n) (nI 0) = some (lv (lf W n) 100 0, I, J') := xLv_l h0 hn h55 100 3000 0 J (by omega) (by omega) h56
theorem mLv0 (hO : OkF a st wn) (hT : OkT k A B Q) (hn : n ≤ 10) (hM : ME M a st wn) (hH : HK M k A B Q) (N : SJ) : ∃ (M' : SI) (N' : SJ), FL_X8_leaving_40 3000 M N (nI n) (nI 0) = some (lv (lf (yW a st wn k A B Q) n) 100 0, M', N') ∧ Y4 M M' := mLv_l hO hT hn 100 3000 0 M N (by omega) (by omega) hM hH
theorem st19 : St19 Rl := by
  intro I J M N v1 v2 hR
  obtain ⟨a, st, wn, te, tl, tx, rl, h⟩ := id hR
  rcases termC (J := J) (N := N) h v1 with ⟨hx, hm⟩ | ⟨i, hi, rfl, hx, hm⟩
  · obtain ⟨I1, M1, h1, h2, h3⟩ := bNo hR (v := -1) (by decide)
    exact ⟨_, I1, J, M1, N, (by simp only [F_X7_leaving, hx, Option.bind_some, h1] : F_X7_leaving I J v1 v2 = some (-1, I1, J)), by simp only [F_X8_leaving, hm, Option.bind_some, i00, ↓reduceIte, h2], h3⟩
  rcases rng_c v2 1 10 with ⟨r0, r1, r2⟩ | ⟨r4, _⟩ | ⟨r6, _, _⟩
  · obtain ⟨n, hn, rfl⟩ := of_rng1 (hi := 10) (n := 10) (by decide) r0
    have h0 := pos1 r1
    have hT := h.1.2.2.2 i hi
    obtain ⟨I1, J1, a1, a2, a3, a4⟩ := xYL h hi hn J
    obtain ⟨J2, e1⟩ := xLv0 h0 hn a3 a4
    obtain ⟨M1, t1, t2, t3⟩ := takeM (N := N) h hi
    obtain ⟨M2, N2, g1, g2⟩ := mLv0 h.1.1 hT hn (h.2.2.1.sm t3).1 t2.hk N
    rw [show nI 0 = (0 : Int32) from rfl] at e1 g1
    generalize lv (lf (yW a st wn (a 5 i) (a 6 i) (a 7 i) (a 8 i)) n) 100 0 = r at e1 g1
    exact ⟨r, I1, J2, M2, N2, lvX hx (by rw [rngX, r0]) a1 e1, lvM hm (by rw [rngM, r0]) t1 g1, hR.same a2 (t3.tr g2.sm)⟩
  · obtain ⟨I1, M1, h1, h2, h3⟩ := bNo hR (v := -4) (by decide)
    exact ⟨_, I1, J, M1, N, (by simp only [F_X7_leaving, hx, rngX, r4, Option.bind_some, i40, ↓reduceIte, h1] : F_X7_leaving I J (nI i) v2 = some (-4, I1, J)), by simp only [F_X8_leaving, hm, rngM, r4, Option.bind_some, i10, i40, ↓reduceIte, h2], h3⟩
  · obtain ⟨I1, M1, h1, h2, h3⟩ := bNo hR (v := -6) (by decide)
    exact ⟨_, I1, J, M1, N, (by simp only [F_X7_leaving, hx, rngX, r6, Option.bind_some, i60, ↓reduceIte, h1] : F_X7_leaving I J (nI i) v2 = some (-6, I1, J)), by simp only [F_X8_leaving, hm, rngM, r6, Option.bind_some, i10, i60, ↓reduceIte, h2], h3⟩
end S26
