def mSp (I : SI) (J : SJ) (vv ww : Int32) : Option (Int32 × SI × SJ) := (if (99 : Int32) < vv then (some ((0 : Int32), I, J)) else (if (99 : Int32) < ww then (some ((0 : Int32), I, J)) else (if (I 0 7) = (8 : Int32) then (some ((0 : Int32), I, J)) else (if gin (I 0 7) 8 = true then (if gin ((u1 I 4 (upd (I 4) (Int32.toNatClampNeg (I 0 7)) vv)) 0 7) 8 = true then (some ((1 : Int32), (u2 (u1 (u1 I 4 (upd (I 4) (Int32.toNatClampNeg (I 0 7)) vv)) 5 (upd ((u1 I 4 (upd (I 4) (Int32.toNatClampNeg (I 0 7)) vv)) 5) (Int32.toNatClampNeg ((u1 I 4 (upd (I 4) (Int32.toNatClampNeg (I 0 7)) vv)) 0 7)) ww)) 0 7 (((u1 (u1 I 4 (upd (I 4) (Int32.toNatClampNeg (I 0 7)) vv)) 5 (upd ((u1 I 4 (upd (I 4) (Int32.toNatClampNeg (I 0 7)) vv)) 5) (Int32.toNatClampNeg ((u1 I 4 (upd (I 4) (Int32.toNatClampNeg (I 0 7)) vv)) 0 7)) ww)) 0 7) + (1 : Int32))), J)) else none) else none))))
def mWe (I : SI) (J : SJ) (vv ww : Int32) : Option (Int32 × SI × SJ) := ((F_X8_isIn vv (1 : Int32) (100 : Int32)).bind fun r112 => (if r112 = 0 then (some ((0 : Int32), I, J)) else (if (300 : Int32) < ww then (some ((0 : Int32), I, J)) else (if (I 0 8) = (6 : Int32) then (some ((0 : Int32), I, J)) else ((F_X8_allChances I J).bind fun r116 => (if (r116 + vv) ≤ (100 : Int32) then (if gin (I 0 8) 8 = true then (if gin ((u1 I 6 (upd (I 6) (Int32.toNatClampNeg (I 0 8)) vv)) 0 8) 8 = true then (some ((1 : Int32), (u2 (u1 (u1 I 6 (upd (I 6) (Int32.toNatClampNeg (I 0 8)) vv)) 7 (upd ((u1 I 6 (upd (I 6) (Int32.toNatClampNeg (I 0 8)) vv)) 7) (Int32.toNatClampNeg ((u1 I 6 (upd (I 6) (Int32.toNatClampNeg (I 0 8)) vv)) 0 8)) ww)) 0 8 (((u1 (u1 I 6 (upd (I 6) (Int32.toNatClampNeg (I 0 8)) vv)) 7 (upd ((u1 I 6 (upd (I 6) (Int32.toNatClampNeg (I 0 8)) vv)) 7) (Int32.toNatClampNeg ((u1 I 6 (upd (I 6) (Int32.toNatClampNeg (I 0 8)) vv)) 0 8)) ww)) 0 8) + (1 : Int32))), J)) else none) else none) else (some ((0 : Int32), I, J))))))))
def mPa (I : SI) (J : SJ) (k1 k2 vv ww : Int32) : Option (Int32 × SI × SJ) := ((F_X8_sets I J k1 vv).bind fun (r5, I5, J5) => (if r5 = 0 then (some ((0 : Int32), I5, J5)) else ((F_X8_sets I5 J5 k2 ww).bind fun (r7, I7, J7) => (if r7 = 0 then (some ((0 : Int32), I7, J7)) else (some ((1 : Int32), I7, J7))))))
def gW (r : Option (Int32 × SI × SJ)) : Option (Int32 × SI × SJ) := r.bind fun (r2, I2, J2) => (if gbo r2 = true then (some (r2, I2, J2)) else none)
/-- a STEP more, a WEATHER more -/
def aSt (a : NN) (st v w : Nat) : NN
  | 1, i => if i = st then v else a 1 i
  | 2, i => if i = st then w else a 2 i
  | j, i => a j i
def aWe (a : NN) (wn v w : Nat) : NN
  | 3, i => if i = wn then v else a 3 i
  | 4, i => if i = wn then w else a 4 i
  | j, i => a j i
theorem aSt_1 (a : NN) (st v w i : Nat) : aSt a st v w 1 i = if i = st then v else a 1 i := rfl
theorem aSt_2 (a : NN) (st v w i : Nat) : aSt a st v w 2 i = if i = st then w else a 2 i := rfl
theorem aWe_3 (a : NN) (wn v w i : Nat) : aWe a wn v w 3 i = if i = wn then v else a 3 i := rfl
theorem aWe_4 (a : NN) (wn v w i : Nat) : aWe a wn v w 4 i = if i = wn then w else a 4 i := rfl
theorem aSt_5 (a : NN) (st v w j : Nat) (h : 5 ≤ j) : aSt a st v w j = a j := by
  obtain ⟨j, rfl⟩ : ∃ k, j = k + 5 := ⟨j - 5, by omega⟩
  rfl
theorem aWe_5 (a : NN) (wn v w j : Nat) (h : 5 ≤ j) : aWe a wn v w j = a j := by
  obtain ⟨j, rfl⟩ : ∃ k, j = k + 5 := ⟨j - 5, by omega⟩
  rfl
theorem aSet_5 (a : NN) (k x j : Nat) (h : 5 ≤ j) : aSet a k x j = a j := by
  obtain ⟨j, rfl⟩ : ∃ k, j = k + 1 := ⟨j - 1, by omega⟩
  rfl
theorem aSet_0 (a : NN) (k x i : Nat) : aSet a k x 0 i = if i = k then x else a 0 i := rfl
section S32
variable {I M : SI} {J N : SJ} {a : NN} {st wn v w k q : Nat}
def XFr (q : Nat) (I I' : SI) : Prop := (∀ z, (z < q ∨ q + 6 ≤ z) → I' z = I z) ∧ I' q 8 = I q 8
def MFr (M M' : SI) : Prop := (∀ z, (z = 1 ∨ z = 3 ∨ 8 ≤ z) → M' z = M z) ∧ ∀ j, j ≠ 7 → j ≠ 8 → M' 0 j = M 0 j
theorem XFr.rf : XFr q I I := ⟨fun _ _ => rfl, rfl⟩
theorem MFr.rf : MFr M M := ⟨fun _ _ => rfl, fun _ _ _ => rfl⟩
theorem XFr.tr {I' I2 : SI} (h : XFr q I I') (h2 : XFr q I' I2) : XFr q I I2 := ⟨fun z a => (h2.1 z a).trans (h.1 z a), h2.2.trans h.2⟩
theorem MFr.tr {M' M2 : SI} (h : MFr M M') (h2 : MFr M' M2) : MFr M M2 := ⟨fun z a => (h2.1 z a).trans (h.1 z a), fun j a b => (h2.2 j a b).trans (h.2 j a b)⟩
def TO (a : NN) (q : Nat) (I M : SI) (J N : SJ) (rx rm : Option (Int32 × SI × SJ)) : Prop := (∃ I' M' : SI, rx = some (0, I', J) ∧ rm = some (0, M', N) ∧ XFr q I I' ∧ MFr M M') ∨ ∃ (a' : NN) (st' wn' : Nat) (I' M' : SI), rx = some (1, I', J) ∧ rm = some (1, M', N) ∧ OkF a' st' wn' ∧ wn' ≤ 6 ∧ XE I' q a' st' wn' ∧ ME M' a' st' wn' ∧ (∀ j, 5 ≤ j → a' j = a j) ∧ XFr q I I' ∧ MFr M M'
theorem TO.gx {rx rm : Option (Int32 × SI × SJ)} (h : TO a q I M J N rx rm) : TO a q I M J N (gW rx) rm := by
  rcases h with ⟨I', M', e1, e2, e3⟩ | ⟨a', st', wn', I', M', e1, e2, e3⟩
  · refine Or.inl ⟨I', M', ?_, e2, e3⟩
    rw [e1]
    rfl
  · refine Or.inr ⟨a', st', wn', I', M', ?_, e2, e3⟩
    rw [e1]
    rfl
theorem TO.gm {rx rm : Option (Int32 × SI × SJ)} (h : TO a q I M J N rx rm) : TO a q I M J N rx (gW rm) := by
  rcases h with ⟨I', M', e1, e2, e3⟩ | ⟨a', st', wn', I', M', e1, e2, e3⟩
  · refine Or.inl ⟨I', M', e1, ?_, e3⟩
    rw [e2]
    rfl
  · refine Or.inr ⟨a', st', wn', I', M', e1, ?_, e3⟩
    rw [e2]
    rfl
theorem okSet (h : OkF a st wn) (hx : v ≤ mostN k) : OkF (aSet a k v) st wn := by
  obtain ⟨h1, h2, h3, h4, h5, h6⟩ := h
  refine ⟨h1, h2, fun i hi => ?_, h4, h5, h6⟩
  rw [aSet_0]
  by_cases c : i = k
  · rw [if_pos c, c]; exact hx
  · rw [if_neg c]; exact h3 i hi
theorem xeSet (h : XE I q a st wn) (v : Nat) : XE (u1 I (q + 1) (upd (I (q + 1)) k (nI v))) q (aSet a k v) st wn ∧ XFr q I (u1 I (q + 1) (upd (I (q + 1)) k (nI v))) := by
  obtain ⟨h1, h2, h3, h4, h5⟩ := h
  refine ⟨⟨fun i hi => ?_, fun i hi => ?_, fun i hi => ?_, ?_, ?_⟩, fun z hz => u1_ne (by omega), by rw [u1_ne (by omega)]⟩
  · rw [u1_at, aSet_0]
    by_cases c : i = k
    · rw [if_pos c, c, pk_us]
    · rw [if_neg c, pk_un c]; exact h1 i hi
  · rw [u1_ne (by omega), u1_ne (by omega)]; exact h2 i hi
  · rw [u1_ne (by omega), u1_ne (by omega)]; exact h3 i hi
  · rw [u1_ne (by omega)]; exact h4
  · rw [u1_ne (by omega)]; exact h5
theorem meSet (h : ME M a st wn) (v : Nat) : ME (u1 M 2 (upd (M 2) k (nI v))) (aSet a k v) st wn ∧ MFr M (u1 M 2 (upd (M 2) k (nI v))) := by
  obtain ⟨h1, h2, h3, h4, h5⟩ := h
  refine ⟨⟨fun i hi => ?_, fun i hi => ?_, fun i hi => ?_, ?_, ?_⟩, fun z hz => u1_ne (by omega), fun j _ _ => by rw [u1_ne (by omega)]⟩
  · rw [u1_at, aSet_0]
    by_cases c : i = k
    · rw [if_pos c, c, pk_us]
    · rw [if_neg c, pk_un c]; exact h1 i hi
  · rw [u1_ne (by omega), u1_ne (by omega)]; exact h2 i hi
  · rw [u1_ne (by omega), u1_ne (by omega)]; exact h3 i hi
  · rw [u1_ne (by omega)]; exact h4
  · rw [u1_ne (by omega)]; exact h5
theorem mostE (hk : k < 8) : F_X1_mostOf (nI k) = some (nI (mostN k)) := by
  unfold F_X1_mostOf
  rw [if_neg (nI_pos (by omega)), if_neg (show ¬ (8 : Int32) ≤ nI k from nI_ge (b := 8) hk (by omega)), if_pos (gin_nI hk (by omega)), nI_clamp (by omega), mostFN]
theorem setX (hk : k < 8) (hv : v < 1000) (I : SI) (J : SJ) : F_X1_tellSetting q I J (nI k) (nI v) = if v ≤ mostN k then some (1, u1 I (q + 1) (upd (I (q + 1)) k (nI v)), J) else some (0, I, J) := by
  have h9 := mostN_le k
  unfold F_X1_tellSetting
  rw [mostE hk, Option.bind_some]
  by_cases c : v ≤ mostN k
  · rw [if_pos c, if_pos (nI_le c (by omega))]
    unfold F_X1_putSetting
    rw [if_neg (nI_pos (by omega)), if_neg (show ¬ (8 : Int32) ≤ nI k from nI_ge (b := 8) hk (by omega)), if_pos (gin_nI hk (by omega)), nI_clamp (by omega)]
    rfl
  · rw [if_neg c, if_neg (nI_ge (by omega) (by omega))]
theorem setM (hk : k < 8) (hv : v < 1000) (h3 : M 3 k = nI (mostN k)) (N : SJ) : F_X8_sets M N (nI k) (nI v) = if v ≤ mostN k then some (1, u1 M 2 (upd (M 2) k (nI v)), N) else some (0, M, N) := by
  have h9 := mostN_le k
  unfold F_X8_sets
  rw [if_pos (gin_nI hk (by omega)), nI_clamp (by omega), h3]
  by_cases c : v ≤ mostN k
  · rw [if_pos c, isOk (nI_pos (by omega)) (nI_nlt c (by omega)), Option.bind_some, if_neg (show ¬ (1 : Int32) = 0 by decide), if_pos (gin_nI hk (by omega))]
  · rw [if_neg c, isHi (nI_lt (by omega) (by omega)), Option.bind_some, if_pos rfl]
theorem setT (hO : OkF a st wn) (hw : wn ≤ 6) (hX : XE I q a st wn) (hM : ME M a st wn) (ht : ∀ k, k < 8 → M 3 k = nI (mostN k)) (hk : k < 8) (hv : v < 1000) : TO a q I M J N (F_X1_tellSetting q I J (nI k) (nI v)) (F_X8_sets M N (nI k) (nI v)) := by
  rw [setX hk hv, setM hk hv (ht k hk)]
  by_cases c : v ≤ mostN k
  · rw [if_pos c, if_pos c]
    exact Or.inr ⟨aSet a k v, st, wn, _, _, rfl, rfl, okSet hO c, hw, (xeSet hX v).1, (meSet hM v).1, fun j hj => aSet_5 a k v j hj, (xeSet hX v).2, (meSet hM v).2⟩
  · rw [if_neg c, if_neg c]
    exact Or.inl ⟨I, M, rfl, rfl, XFr.rf, MFr.rf⟩
theorem pairT (hO : OkF a st wn) (hw : wn ≤ 6) (hX : XE I q a st wn) (hM : ME M a st wn) (ht : ∀ k, k < 8 → M 3 k = nI (mostN k)) (hk : k + 1 < 8) (hv : v < 1000) (hw2 : w < 1000) : TO a q I M J N (F_X1_tellPair q I J (nI k) (nI v) (nI w)) (mPa M N (nI k) (nI (k + 1)) (nI v) (nI w)) := by
  unfold F_X1_tellPair mPa
  rw [setX (show k < 8 by omega) hv, setM (show k < 8 by omega) hv (ht k (by omega))]
  by_cases c : v ≤ mostN k
  · rw [if_pos c, if_pos c, Option.bind_some, Option.bind_some]
    have x1 := xeSet (k := k) hX v
    have m1 := meSet (k := k) hM v
    have o1 := okSet (k := k) hO c
    have t3 : u1 M 2 (upd (M 2) k (nI v)) 3 (k + 1) = nI (mostN (k + 1)) := by rw [u1_ne (by omega)]; exact ht _ hk
    generalize u1 I (q + 1) (upd (I (q + 1)) k (nI v)) = I1 at *
    generalize u1 M 2 (upd (M 2) k (nI v)) = M1 at *
    show TO a q I M J N (if (1 : Int32) = 0 then some ((0 : Int32), I1, J) else ((F_X1_tellSetting q I1 J (nI k + (1 : Int32)) (nI w)).bind fun (r3, I3, J3) => (if r3 = 0 then (some ((0 : Int32), I3, J3)) else (some ((1 : Int32), I3, J3))))) (if (1 : Int32) = 0 then some ((0 : Int32), M1, N) else ((F_X8_sets M1 N (nI (k + 1)) (nI w)).bind fun (r7, I7, J7) => (if r7 = 0 then (some ((0 : Int32), I7, J7)) else (some ((1 : Int32), I7, J7)))))
    rw [if_neg (by decide), if_neg (by decide), nI_1, setX hk hw2, setM hk hw2 t3]
    by_cases d : w ≤ mostN (k + 1)
    · rw [if_pos d, if_pos d, Option.bind_some, Option.bind_some]
      have x2 := xeSet (k := k + 1) x1.1 w
      have m2 := meSet (k := k + 1) m1.1 w
      refine Or.inr ⟨aSet (aSet a k v) (k + 1) w, st, wn, _, _, rfl, rfl, okSet o1 d, hw, x2.1, m2.1, fun j hj => (aSet_5 _ _ _ j hj).trans (aSet_5 a k v j hj), x1.2.tr x2.2, m1.2.tr m2.2⟩
    · rw [if_neg d, if_neg d, Option.bind_some, Option.bind_some]
      exact Or.inl ⟨I1, M1, rfl, rfl, x1.2, m1.2⟩
  · rw [if_neg c, if_neg c, Option.bind_some, Option.bind_some]
    exact Or.inl ⟨I, M, rfl, rfl, XFr.rf, MFr.rf⟩
theorem stepT (hO : OkF a st wn) (hw : wn ≤ 6) (hX : XE I q a st wn) (hM : ME M a st wn) (hv : v < 1000) (hw2 : w < 1000) : TO a q I M J N (F_X1_addStep q I J (nI v) (nI w)) (mSp M N (nI v) (nI w)) := by
  have hst := hO.1
  have no : TO a q I M J N (some (0, I, J)) (some (0, M, N)) := Or.inl ⟨I, M, rfl, rfl, XFr.rf, MFr.rf⟩
  obtain ⟨x1, x2, x3, x4, x5⟩ := hX
  obtain ⟨m1, m2, m3, m4, m5⟩ := hM
  unfold F_X1_addStep mSp
  rw [x4, m4]
  have d8 : (nI st = (8 : Int32)) ↔ st = 8 := nI_eL (n := 8) rfl (by omega) (by omega)
  by_cases c1 : 99 < v
  · have n1 : (99 : Int32) < nI v := nI_lt (a := 99) c1 (by omega)
    rw [if_pos n1, if_pos n1]
    by_cases c0 : st = 8
    · rw [if_pos (show (8 : Int32) ≤ nI st from nI_le (a := 8) (by omega) (by omega))]; exact no
    · rw [if_neg (show ¬ (8 : Int32) ≤ nI st from nI_ge (b := 8) (by omega) (by omega))]; exact no
  have n1 : ¬ (99 : Int32) < nI v := nI_nlt (a := 99) (b := v) (by omega) (by omega)
  rw [if_neg n1, if_neg n1]
  by_cases c2 : 99 < w
  · have n2 : (99 : Int32) < nI w := nI_lt (a := 99) c2 (by omega)
    rw [if_pos n2, if_neg (Int32.not_le.mpr n2)]
    by_cases c0 : st = 8
    · rw [if_pos (show (8 : Int32) ≤ nI st from nI_le (a := 8) (by omega) (by omega))]; exact no
    · rw [if_neg (show ¬ (8 : Int32) ≤ nI st from nI_ge (b := 8) (by omega) (by omega))]; exact no
  have n2 : ¬ (99 : Int32) < nI w := nI_nlt (a := 99) (b := w) (by omega) (by omega)
  rw [if_neg n2, if_pos (Int32.not_lt.mp n2)]
  by_cases c0 : st = 8
  · rw [if_pos (show (8 : Int32) ≤ nI st from nI_le (a := 8) (by omega) (by omega)), if_pos (d8.mpr c0)]; exact no
  rw [if_neg (show ¬ (8 : Int32) ≤ nI st from nI_ge (b := 8) (by omega) (by omega)), if_neg (fun z => c0 (d8.mp z))]
  have g : gin (nI st) 8 = true := gin_nI (by omega) (by omega)
  have cl : (nI st).toNatClampNeg = st := nI_clamp (by omega)
  have a3 : ∀ f, u1 I (q + 2) f (q + 3) = I (q + 3) := fun f => u1_ne (by omega)
  have a6 : ∀ f, u1 I (q + 2) f q 6 = nI st := fun f => (congrFun (u1_ne (by omega)) 6).trans x4
  have a7 : ∀ f f', u1 (u1 I (q + 2) f) (q + 3) f' q 6 = nI st := fun f f' => (congrFun (u1_ne (by omega)) 6).trans (a6 f)
  have b5 : ∀ f, u1 M 4 f 5 = M 5 := fun f => u1_ne (by omega)
  have b7 : ∀ f, u1 M 4 f 0 7 = nI st := fun f => (congrFun (u1_ne (by omega)) 7).trans m4
  have b8 : ∀ f f', u1 (u1 M 4 f) 5 f' 0 7 = nI st := fun f f' => (congrFun (u1_ne (by omega)) 7).trans (b7 f)
  rw [pPut (by omega) (by omega), Option.bind_some, a3, a6, pPut (by omega) (by omega), Option.bind_some, a7, nI_1, if_pos g, cl, b7, if_pos g, b5, cl, b8, nI_1]
  obtain ⟨z1, z2, z3⟩ := u2z (M := u1 (u1 M 4 (upd (M 4) st (nI v))) 5 (upd (M 5) st (nI w))) (j := 7) (v := nI (st + 1))
  have y1 : ∀ z, z ≠ q → u2 (u1 (u1 I (q + 2) (upd (I (q + 2)) st (nI v))) (q + 3) (upd (I (q + 3)) st (nI w))) q 6 (nI (st + 1)) z = u1 (u1 I (q + 2) (upd (I (q + 2)) st (nI v))) (q + 3) (upd (I (q + 3)) st (nI w)) z := fun z hz => u1_ne hz
  have y2 : ∀ j, j ≠ 6 → u2 (u1 (u1 I (q + 2) (upd (I (q + 2)) st (nI v))) (q + 3) (upd (I (q + 3)) st (nI w))) q 6 (nI (st + 1)) q j = I q j := fun j hj => by
    show u1 _ q (upd _ 6 _) q j = _
    rw [u1_at, pk_un hj, u1_ne (by omega), u1_ne (by omega)]
  have y3 : u2 (u1 (u1 I (q + 2) (upd (I (q + 2)) st (nI v))) (q + 3) (upd (I (q + 3)) st (nI w))) q 6 (nI (st + 1)) q 6 = nI (st + 1) := by
    show u1 _ q (upd _ 6 _) q 6 = _
    rw [u1_at, pk_us]
  have y4 : ∀ z, z ≠ q → z ≠ q + 2 → z ≠ q + 3 → u2 (u1 (u1 I (q + 2) (upd (I (q + 2)) st (nI v))) (q + 3) (upd (I (q + 3)) st (nI w))) q 6 (nI (st + 1)) z = I z := fun z a b c => (y1 z a).trans ((u1_ne c).trans (u1_ne b))
  have y5 : u2 (u1 (u1 I (q + 2) (upd (I (q + 2)) st (nI v))) (q + 3) (upd (I (q + 3)) st (nI w))) q 6 (nI (st + 1)) (q + 2) = upd (I (q + 2)) st (nI v) := (y1 _ (by omega)).trans ((u1_ne (by omega)).trans u1_at)
  have y6 : u2 (u1 (u1 I (q + 2) (upd (I (q + 2)) st (nI v))) (q + 3) (upd (I (q + 3)) st (nI w))) q 6 (nI (st + 1)) (q + 3) = upd (I (q + 3)) st (nI w) := (y1 _ (by omega)).trans u1_at
  have w4 : ∀ z, z ≠ 0 → z ≠ 4 → z ≠ 5 → u2 (u1 (u1 M 4 (upd (M 4) st (nI v))) 5 (upd (M 5) st (nI w))) 0 7 (nI (st + 1)) z = M z := fun z a b c => (z1 z a).trans ((u1_ne c).trans (u1_ne b))
  have w5 : u2 (u1 (u1 M 4 (upd (M 4) st (nI v))) 5 (upd (M 5) st (nI w))) 0 7 (nI (st + 1)) 4 = upd (M 4) st (nI v) := (z1 4 (by omega)).trans ((u1_ne (by omega)).trans u1_at)
  have w6 : u2 (u1 (u1 M 4 (upd (M 4) st (nI v))) 5 (upd (M 5) st (nI w))) 0 7 (nI (st + 1)) 5 = upd (M 5) st (nI w) := (z1 5 (by omega)).trans u1_at
  have w7 : ∀ j, j ≠ 7 → u2 (u1 (u1 M 4 (upd (M 4) st (nI v))) 5 (upd (M 5) st (nI w))) 0 7 (nI (st + 1)) 0 j = M 0 j := fun j hj => (z2 j hj).trans (by rw [u1_ne (by omega), u1_ne (by omega)])
  obtain ⟨o1, o2, o3, o4, o5, o6⟩ := hO
  refine Or.inr ⟨aSt a st v w, st + 1, wn, _, _, rfl, rfl, ⟨by omega, o2, fun i hi => o3 i hi, fun i hi => ?_, fun i hi => o5 i hi, o6⟩, hw, ⟨fun i hi => ?_, fun i hi => ?_, fun i hi => ?_, y3, ?_⟩, ⟨fun i hi => ?_, fun i hi => ?_, fun i hi => ?_, z3, ?_⟩, fun j hj => aSt_5 a st v w j hj, ⟨fun z hz => y4 z (by omega) (by omega) (by omega), y2 8 (by omega)⟩, ⟨fun z hz => w4 z (by omega) (by omega) (by omega), fun j a b => w7 j a⟩⟩
  · rw [aSt_1, aSt_2]
    by_cases c : i = st
    · rw [if_pos c, if_pos c]; omega
    · rw [if_neg c, if_neg c]; exact o4 i (by omega)
  · rw [y4 (q + 1) (by omega) (by omega) (by omega)]; exact x1 i hi
  · rw [y5, y6, aSt_1, aSt_2]
    by_cases c : i = st
    · rw [if_pos c, if_pos c, c, pk_us, pk_us]; exact ⟨rfl, rfl⟩
    · rw [if_neg c, if_neg c, pk_un c, pk_un c]; exact x2 i (by omega)
  · rw [y4 (q + 4) (by omega) (by omega) (by omega), y4 (q + 5) (by omega) (by omega) (by omega)]; exact x3 i hi
  · rw [y2 7 (by omega)]; exact x5
  · rw [w4 2 (by omega) (by omega) (by omega)]; exact m1 i hi
  · rw [w5, w6, aSt_1, aSt_2]
    by_cases c : i = st
    · rw [if_pos c, if_pos c, c, pk_us, pk_us]; exact ⟨rfl, rfl⟩
    · rw [if_neg c, if_neg c, pk_un c, pk_un c]; exact m2 i (by omega)
  · rw [w4 6 (by omega) (by omega) (by omega), w4 7 (by omega) (by omega) (by omega)]; exact m3 i hi
  · rw [w7 8 (by omega)]; exact m5
theorem sm_We : sm (aWe a wn v w 3) (wn + 1) = sm (a 3) wn + v := by
  show sm (aWe a wn v w 3) wn + aWe a wn v w 3 wn = _
  rw [aWe_3, if_pos rfl, sm_congr (f := aWe a wn v w 3) (f' := a 3) wn (fun k hk => by rw [aWe_3, if_neg (by omega)])]
theorem weatT (hO : OkF a st wn) (hw : wn ≤ 6) (hX : XE I q a st wn) (hM : ME M a st wn) (hv : v < 1000) (hw2 : w < 1000) : TO a q I M J N (F_X1_addWeather q I J (nI v) (nI w)) (mWe M N (nI v) (nI w)) := by
  have hst := hO.1
  have hs := hO.2.2.2.2.2
  have no : TO a q I M J N (some (0, I, J)) (some (0, M, N)) := Or.inl ⟨I, M, rfl, rfl, XFr.rf, MFr.rf⟩
  have hA := mAllCh (N := N) hO.2.1 hM
  have hS : F_X2_sum 6 (I (q + 4)) (nI wn) = some (nI (sm (a 3) wn)) := pSum hw (by omega) (fun k hk => (hX.2.2.1 k hk).1)
  obtain ⟨x1, x2, x3, x4, x5⟩ := hX
  obtain ⟨m1, m2, m3, m4, m5⟩ := hM
  unfold F_X1_addWeather mWe
  rw [x5, m5, hA, hS]
  simp only [Option.bind_some]
  have d6 : (nI wn = (6 : Int32)) ↔ wn = 6 := nI_eL (n := 6) rfl (by omega) (by omega)
  by_cases c1 : v < 1
  · have n1 : nI v < (1 : Int32) := nI_lt (b := 1) c1 (by omega)
    rw [isLo n1, Option.bind_some, if_pos rfl, if_pos n1]
    by_cases c0 : wn = 6
    · rw [if_pos (show (6 : Int32) ≤ nI wn from nI_le (a := 6) (by omega) (by omega))]; exact no
    · rw [if_neg (show ¬ (6 : Int32) ≤ nI wn from nI_ge (b := 6) (by omega) (by omega))]; exact no
  have n1 : ¬ nI v < (1 : Int32) := nI_nlt (a := v) (b := 1) (by omega) (by omega)
  rw [if_neg n1]
  by_cases c3 : 100 < v
  · have n3 : (100 : Int32) < nI v := nI_lt (a := 100) c3 (by omega)
    have n4 : ¬ nI (sm (a 3) wn + v) ≤ (100 : Int32) := nI_ge (a := 100) (by omega) (by omega)
    rw [isHi n3, Option.bind_some, if_pos rfl, nI_add, if_neg n4]
    by_cases c0 : wn = 6
    · rw [if_pos (show (6 : Int32) ≤ nI wn from nI_le (a := 6) (by omega) (by omega))]; exact no
    · rw [if_neg (show ¬ (6 : Int32) ≤ nI wn from nI_ge (b := 6) (by omega) (by omega)), ite_self]; exact no
  have n3 : ¬ (100 : Int32) < nI v := nI_nlt (a := 100) (b := v) (by omega) (by omega)
  rw [isOk n1 n3, Option.bind_some, if_neg (show ¬ (1 : Int32) = 0 by decide)]
  by_cases c2 : 300 < w
  · have n2 : (300 : Int32) < nI w := nI_lt (a := 300) c2 (by omega)
    rw [if_pos n2, if_neg (Int32.not_le.mpr n2)]
    by_cases c0 : wn = 6
    · rw [if_pos (show (6 : Int32) ≤ nI wn from nI_le (a := 6) (by omega) (by omega))]; exact no
    · rw [if_neg (show ¬ (6 : Int32) ≤ nI wn from nI_ge (b := 6) (by omega) (by omega))]; exact no
  have n2 : ¬ (300 : Int32) < nI w := nI_nlt (a := 300) (b := w) (by omega) (by omega)
  rw [if_neg n2, if_pos (Int32.not_lt.mp n2)]
  by_cases c0 : wn = 6
  · rw [if_pos (show (6 : Int32) ≤ nI wn from nI_le (a := 6) (by omega) (by omega)), if_pos (d6.mpr c0)]; exact no
  rw [if_neg (show ¬ (6 : Int32) ≤ nI wn from nI_ge (b := 6) (by omega) (by omega)), if_neg (fun z => c0 (d6.mp z)), nI_add]
  by_cases c5 : sm (a 3) wn + v ≤ 100
  · have n5 : nI (sm (a 3) wn + v) ≤ (100 : Int32) := nI_le (b := 100) c5 (by omega)
    rw [if_pos n5, if_pos n5]
    have g : gin (nI wn) 8 = true := gin_nI (by omega) (by omega)
    have cl : (nI wn).toNatClampNeg = wn := nI_clamp (by omega)
    have a3 : ∀ f, u1 I (q + 4) f (q + 5) = I (q + 5) := fun f => u1_ne (by omega)
    have a6 : ∀ f, u1 I (q + 4) f q 7 = nI wn := fun f => (congrFun (u1_ne (by omega)) 7).trans x5
    have a7 : ∀ f f', u1 (u1 I (q + 4) f) (q + 5) f' q 7 = nI wn := fun f f' => (congrFun (u1_ne (by omega)) 7).trans (a6 f)
    have b5 : ∀ f, u1 M 6 f 7 = M 7 := fun f => u1_ne (by omega)
    have b7 : ∀ f, u1 M 6 f 0 8 = nI wn := fun f => (congrFun (u1_ne (by omega)) 8).trans m5
    have b8 : ∀ f f', u1 (u1 M 6 f) 7 f' 0 8 = nI wn := fun f f' => (congrFun (u1_ne (by omega)) 8).trans (b7 f)
    rw [pPut (by omega) (by omega), Option.bind_some, a3, a6, pPut (by omega) (by omega), Option.bind_some, a7, nI_1, if_pos g, cl, b7, if_pos g, b5, cl, b8, nI_1]
    obtain ⟨z1, z2, z3⟩ := u2z (M := u1 (u1 M 6 (upd (M 6) wn (nI v))) 7 (upd (M 7) wn (nI w))) (j := 8) (v := nI (wn + 1))
    have y1 : ∀ z, z ≠ q → u2 (u1 (u1 I (q + 4) (upd (I (q + 4)) wn (nI v))) (q + 5) (upd (I (q + 5)) wn (nI w))) q 7 (nI (wn + 1)) z = u1 (u1 I (q + 4) (upd (I (q + 4)) wn (nI v))) (q + 5) (upd (I (q + 5)) wn (nI w)) z := fun z hz => u1_ne hz
    have y2 : ∀ j, j ≠ 7 → u2 (u1 (u1 I (q + 4) (upd (I (q + 4)) wn (nI v))) (q + 5) (upd (I (q + 5)) wn (nI w))) q 7 (nI (wn + 1)) q j = I q j := fun j hj => by
      show u1 _ q (upd _ 7 _) q j = _
      rw [u1_at, pk_un hj, u1_ne (by omega), u1_ne (by omega)]
    have y3 : u2 (u1 (u1 I (q + 4) (upd (I (q + 4)) wn (nI v))) (q + 5) (upd (I (q + 5)) wn (nI w))) q 7 (nI (wn + 1)) q 7 = nI (wn + 1) := by
      show u1 _ q (upd _ 7 _) q 7 = _
      rw [u1_at, pk_us]
    have y4 : ∀ z, z ≠ q → z ≠ q + 4 → z ≠ q + 5 → u2 (u1 (u1 I (q + 4) (upd (I (q + 4)) wn (nI v))) (q + 5) (upd (I (q + 5)) wn (nI w))) q 7 (nI (wn + 1)) z = I z := fun z a b c => (y1 z a).trans ((u1_ne c).trans (u1_ne b))
    have y5 : u2 (u1 (u1 I (q + 4) (upd (I (q + 4)) wn (nI v))) (q + 5) (upd (I (q + 5)) wn (nI w))) q 7 (nI (wn + 1)) (q + 4) = upd (I (q + 4)) wn (nI v) := (y1 _ (by omega)).trans ((u1_ne (by omega)).trans u1_at)
    have y6 : u2 (u1 (u1 I (q + 4) (upd (I (q + 4)) wn (nI v))) (q + 5) (upd (I (q + 5)) wn (nI w))) q 7 (nI (wn + 1)) (q + 5) = upd (I (q + 5)) wn (nI w) := (y1 _ (by omega)).trans u1_at
    have w4 : ∀ z, z ≠ 0 → z ≠ 6 → z ≠ 7 → u2 (u1 (u1 M 6 (upd (M 6) wn (nI v))) 7 (upd (M 7) wn (nI w))) 0 8 (nI (wn + 1)) z = M z := fun z a b c => (z1 z a).trans ((u1_ne c).trans (u1_ne b))
    have w5 : u2 (u1 (u1 M 6 (upd (M 6) wn (nI v))) 7 (upd (M 7) wn (nI w))) 0 8 (nI (wn + 1)) 6 = upd (M 6) wn (nI v) := (z1 6 (by omega)).trans ((u1_ne (by omega)).trans u1_at)
    have w6 : u2 (u1 (u1 M 6 (upd (M 6) wn (nI v))) 7 (upd (M 7) wn (nI w))) 0 8 (nI (wn + 1)) 7 = upd (M 7) wn (nI w) := (z1 7 (by omega)).trans u1_at
    have w7 : ∀ j, j ≠ 8 → u2 (u1 (u1 M 6 (upd (M 6) wn (nI v))) 7 (upd (M 7) wn (nI w))) 0 8 (nI (wn + 1)) 0 j = M 0 j := fun j hj => (z2 j hj).trans (by rw [u1_ne (by omega), u1_ne (by omega)])
    obtain ⟨o1, o2, o3, o4, o5, o6⟩ := hO
    refine Or.inr ⟨aWe a wn v w, st, wn + 1, _, _, rfl, rfl, ⟨o1, by omega, fun i hi => o3 i hi, fun i hi => o4 i hi, fun i hi => ?_, by rw [sm_We]; exact c5⟩, by omega, ⟨fun i hi => ?_, fun i hi => ?_, fun i hi => ?_, ?_, y3⟩, ⟨fun i hi => ?_, fun i hi => ?_, fun i hi => ?_, ?_, z3⟩, fun j hj => aWe_5 a wn v w j hj, ⟨fun z hz => y4 z (by omega) (by omega) (by omega), y2 8 (by omega)⟩, ⟨fun z hz => w4 z (by omega) (by omega) (by omega), fun j a b => w7 j b⟩⟩
    · rw [aWe_3, aWe_4]
      by_cases c : i = wn
      · rw [if_pos c, if_pos c]; omega
      · rw [if_neg c, if_neg c]; exact o5 i (by omega)
    · rw [y4 (q + 1) (by omega) (by omega) (by omega)]; exact x1 i hi
    · rw [y4 (q + 2) (by omega) (by omega) (by omega), y4 (q + 3) (by omega) (by omega) (by omega)]; exact x2 i hi
    · rw [y5, y6, aWe_3, aWe_4]
      by_cases c : i = wn
      · rw [if_pos c, if_pos c, c, pk_us, pk_us]; exact ⟨rfl, rfl⟩
      · rw [if_neg c, if_neg c, pk_un c, pk_un c]; exact x3 i (by omega)
    · rw [y2 6 (by omega)]; exact x4
    · rw [w4 2 (by omega) (by omega) (by omega)]; exact m1 i hi
    · rw [w4 4 (by omega) (by omega) (by omega), w4 5 (by omega) (by omega) (by omega)]; exact m2 i hi
    · rw [w5, w6, aWe_3, aWe_4]
      by_cases c : i = wn
      · rw [if_pos c, if_pos c, c, pk_us, pk_us]; exact ⟨rfl, rfl⟩
      · rw [if_neg c, if_neg c, pk_un c, pk_un c]; exact m3 i (by omega)
    · rw [w7 7 (by omega)]; exact m4
  · have n5 : ¬ nI (sm (a 3) wn + v) ≤ (100 : Int32) := nI_ge (a := 100) (by omega) (by omega)
    rw [if_neg n5, if_neg n5]; exact no
theorem tlX_101 (v w : Int32) (I : SI) (J : SJ) : F_X6_tell q I J (nI 101) v w = gW (F_X1_tellPair q I J (6 : Int32) v w) := by
  unfold F_X6_tell
  rw [if_pos (show nI 101 = (101 : Int32) from rfl)]
  rfl
theorem cmM_101 {x : Nat} (hx : x < 32) (h9 : M 9 x = nI 101) (N : SJ) : F_X8_comes M N (nI x) = mPa M N (6 : Int32) (7 : Int32) (M 11 x) (M 12 x) := by
  unfold F_X8_comes
  rw [if_pos (gin_nI hx (by omega)), if_pos (gin_nI hx (by omega)), if_pos (gin_nI hx (by omega)), nI_clamp (by omega), h9, if_pos (show nI 101 = (101 : Int32) from rfl)]
  rfl
theorem tlX_103 (v w : Int32) (I : SI) (J : SJ) : F_X6_tell q I J (nI 103) v w = gW (F_X1_tellSetting q I J (0 : Int32) v) := by
  unfold F_X6_tell
  rw [if_neg (show ¬ nI 103 = (101 : Int32) by decide), if_neg (show ¬ nI 103 = (102 : Int32) by decide), if_pos (show nI 103 = (103 : Int32) from rfl)]
  rfl
theorem cmM_103 {x : Nat} (hx : x < 32) (h9 : M 9 x = nI 103) (N : SJ) : F_X8_comes M N (nI x) = gW (F_X8_sets M N (0 : Int32) (M 11 x)) := by
  unfold F_X8_comes
  rw [if_pos (gin_nI hx (by omega)), if_pos (gin_nI hx (by omega)), if_pos (gin_nI hx (by omega)), nI_clamp (by omega), h9, if_neg (show ¬ nI 103 = (101 : Int32) by decide), if_neg (show ¬ nI 103 = (102 : Int32) by decide), if_pos (show nI 103 = (103 : Int32) from rfl)]
  rfl
theorem tlX_109 (v w : Int32) (I : SI) (J : SJ) : F_X6_tell q I J (nI 109) v w = gW (F_X1_tellPair q I J (4 : Int32) v w) := by
  unfold F_X6_tell
  rw [if_neg (show ¬ nI 109 = (101 : Int32) by decide), if_neg (show ¬ nI 109 = (102 : Int32) by decide), if_neg (show ¬ nI 109 = (103 : Int32) by decide), if_neg (show ¬ nI 109 = (104 : Int32) by decide), if_neg (show ¬ nI 109 = (105 : Int32) by decide), if_neg (show ¬ nI 109 = (106 : Int32) by decide), if_neg (show ¬ nI 109 = (107 : Int32) by decide), if_neg (show ¬ nI 109 = (108 : Int32) by decide), if_pos (show nI 109 = (109 : Int32) from rfl)]
  rfl
theorem cmM_109 {x : Nat} (hx : x < 32) (h9 : M 9 x = nI 109) (N : SJ) : F_X8_comes M N (nI x) = mPa M N (4 : Int32) (5 : Int32) (M 11 x) (M 12 x) := by
  unfold F_X8_comes
  rw [if_pos (gin_nI hx (by omega)), if_pos (gin_nI hx (by omega)), if_pos (gin_nI hx (by omega)), nI_clamp (by omega), h9, if_neg (show ¬ nI 109 = (101 : Int32) by decide), if_neg (show ¬ nI 109 = (102 : Int32) by decide), if_neg (show ¬ nI 109 = (103 : Int32) by decide), if_neg (show ¬ nI 109 = (104 : Int32) by decide), if_neg (show ¬ nI 109 = (105 : Int32) by decide), if_neg (show ¬ nI 109 = (106 : Int32) by decide), if_neg (show ¬ nI 109 = (107 : Int32) by decide), if_neg (show ¬ nI 109 = (108 : Int32) by decide), if_pos (show nI 109 = (109 : Int32) from rfl)]
  rfl
theorem tlX_111 (v w : Int32) (I : SI) (J : SJ) : F_X6_tell q I J (nI 111) v w = gW (F_X1_tellSetting q I J (1 : Int32) v) := by
  unfold F_X6_tell
  rw [if_neg (show ¬ nI 111 = (101 : Int32) by decide), if_neg (show ¬ nI 111 = (102 : Int32) by decide), if_neg (show ¬ nI 111 = (103 : Int32) by decide), if_neg (show ¬ nI 111 = (104 : Int32) by decide), if_neg (show ¬ nI 111 = (105 : Int32) by decide), if_neg (show ¬ nI 111 = (106 : Int32) by decide), if_neg (show ¬ nI 111 = (107 : Int32) by decide), if_neg (show ¬ nI 111 = (108 : Int32) by decide), if_neg (show ¬ nI 111 = (109 : Int32) by decide), if_neg (show ¬ nI 111 = (110 : Int32) by decide), if_pos (show nI 111 = (111 : Int32) from rfl)]
  rfl
theorem cmM_111 {x : Nat} (hx : x < 32) (h9 : M 9 x = nI 111) (N : SJ) : F_X8_comes M N (nI x) = gW (F_X8_sets M N (1 : Int32) (M 11 x)) := by
  unfold F_X8_comes
  rw [if_pos (gin_nI hx (by omega)), if_pos (gin_nI hx (by omega)), if_pos (gin_nI hx (by omega)), nI_clamp (by omega), h9, if_neg (show ¬ nI 111 = (101 : Int32) by decide), if_neg (show ¬ nI 111 = (102 : Int32) by decide), if_neg (show ¬ nI 111 = (103 : Int32) by decide), if_neg (show ¬ nI 111 = (104 : Int32) by decide), if_neg (show ¬ nI 111 = (105 : Int32) by decide), if_neg (show ¬ nI 111 = (106 : Int32) by decide), if_neg (show ¬ nI 111 = (107 : Int32) by decide), if_neg (show ¬ nI 111 = (108 : Int32) by decide), if_neg (show ¬ nI 111 = (109 : Int32) by decide), if_neg (show ¬ nI 111 = (110 : Int32) by decide), if_pos (show nI 111 = (111 : Int32) from rfl)]
  rfl
theorem tlX_112 (v w : Int32) (I : SI) (J : SJ) : F_X6_tell q I J (nI 112) v w = gW (F_X1_addStep q I J v w) := by
  unfold F_X6_tell
  rw [if_neg (show ¬ nI 112 = (101 : Int32) by decide), if_neg (show ¬ nI 112 = (102 : Int32) by decide), if_neg (show ¬ nI 112 = (103 : Int32) by decide), if_neg (show ¬ nI 112 = (104 : Int32) by decide), if_neg (show ¬ nI 112 = (105 : Int32) by decide), if_neg (show ¬ nI 112 = (106 : Int32) by decide), if_neg (show ¬ nI 112 = (107 : Int32) by decide), if_neg (show ¬ nI 112 = (108 : Int32) by decide), if_neg (show ¬ nI 112 = (109 : Int32) by decide), if_neg (show ¬ nI 112 = (110 : Int32) by decide), if_neg (show ¬ nI 112 = (111 : Int32) by decide), if_pos (show nI 112 = (112 : Int32) from rfl)]
  rfl
theorem cmM_112 {x : Nat} (hx : x < 32) (h9 : M 9 x = nI 112) (N : SJ) : F_X8_comes M N (nI x) = mSp M N (M 11 x) (M 12 x) := by
  unfold F_X8_comes
  rw [if_pos (gin_nI hx (by omega)), if_pos (gin_nI hx (by omega)), if_pos (gin_nI hx (by omega)), nI_clamp (by omega), h9, if_neg (show ¬ nI 112 = (101 : Int32) by decide), if_neg (show ¬ nI 112 = (102 : Int32) by decide), if_neg (show ¬ nI 112 = (103 : Int32) by decide), if_neg (show ¬ nI 112 = (104 : Int32) by decide), if_neg (show ¬ nI 112 = (105 : Int32) by decide), if_neg (show ¬ nI 112 = (106 : Int32) by decide), if_neg (show ¬ nI 112 = (107 : Int32) by decide), if_neg (show ¬ nI 112 = (108 : Int32) by decide), if_neg (show ¬ nI 112 = (109 : Int32) by decide), if_neg (show ¬ nI 112 = (110 : Int32) by decide), if_neg (show ¬ nI 112 = (111 : Int32) by decide), if_pos (show nI 112 = (112 : Int32) from rfl)]
  rfl
theorem tlX_115 (v w : Int32) (I : SI) (J : SJ) : F_X6_tell q I J (nI 115) v w = gW (F_X1_tellPair q I J (2 : Int32) v w) := by
  unfold F_X6_tell
  rw [if_neg (show ¬ nI 115 = (101 : Int32) by decide), if_neg (show ¬ nI 115 = (102 : Int32) by decide), if_neg (show ¬ nI 115 = (103 : Int32) by decide), if_neg (show ¬ nI 115 = (104 : Int32) by decide), if_neg (show ¬ nI 115 = (105 : Int32) by decide), if_neg (show ¬ nI 115 = (106 : Int32) by decide), if_neg (show ¬ nI 115 = (107 : Int32) by decide), if_neg (show ¬ nI 115 = (108 : Int32) by decide), if_neg (show ¬ nI 115 = (109 : Int32) by decide), if_neg (show ¬ nI 115 = (110 : Int32) by decide), if_neg (show ¬ nI 115 = (111 : Int32) by decide), if_neg (show ¬ nI 115 = (112 : Int32) by decide), if_neg (show ¬ nI 115 = (113 : Int32) by decide), if_neg (show ¬ nI 115 = (114 : Int32) by decide), if_pos (show nI 115 = (115 : Int32) from rfl)]
  rfl
theorem cmM_115 {x : Nat} (hx : x < 32) (h9 : M 9 x = nI 115) (N : SJ) : F_X8_comes M N (nI x) = mPa M N (2 : Int32) (3 : Int32) (M 11 x) (M 12 x) := by
  unfold F_X8_comes
  rw [if_pos (gin_nI hx (by omega)), if_pos (gin_nI hx (by omega)), if_pos (gin_nI hx (by omega)), nI_clamp (by omega), h9, if_neg (show ¬ nI 115 = (101 : Int32) by decide), if_neg (show ¬ nI 115 = (102 : Int32) by decide), if_neg (show ¬ nI 115 = (103 : Int32) by decide), if_neg (show ¬ nI 115 = (104 : Int32) by decide), if_neg (show ¬ nI 115 = (105 : Int32) by decide), if_neg (show ¬ nI 115 = (106 : Int32) by decide), if_neg (show ¬ nI 115 = (107 : Int32) by decide), if_neg (show ¬ nI 115 = (108 : Int32) by decide), if_neg (show ¬ nI 115 = (109 : Int32) by decide), if_neg (show ¬ nI 115 = (110 : Int32) by decide), if_neg (show ¬ nI 115 = (111 : Int32) by decide), if_neg (show ¬ nI 115 = (112 : Int32) by decide), if_neg (show ¬ nI 115 = (113 : Int32) by decide), if_neg (show ¬ nI 115 = (114 : Int32) by decide), if_pos (show nI 115 = (115 : Int32) from rfl)]
  rfl
theorem tlX_119 (v w : Int32) (I : SI) (J : SJ) : F_X6_tell q I J (nI 119) v w = gW (F_X1_addWeather q I J v w) := by
  unfold F_X6_tell
  rw [if_neg (show ¬ nI 119 = (101 : Int32) by decide), if_neg (show ¬ nI 119 = (102 : Int32) by decide), if_neg (show ¬ nI 119 = (103 : Int32) by decide), if_neg (show ¬ nI 119 = (104 : Int32) by decide), if_neg (show ¬ nI 119 = (105 : Int32) by decide), if_neg (show ¬ nI 119 = (106 : Int32) by decide), if_neg (show ¬ nI 119 = (107 : Int32) by decide), if_neg (show ¬ nI 119 = (108 : Int32) by decide), if_neg (show ¬ nI 119 = (109 : Int32) by decide), if_neg (show ¬ nI 119 = (110 : Int32) by decide), if_neg (show ¬ nI 119 = (111 : Int32) by decide), if_neg (show ¬ nI 119 = (112 : Int32) by decide), if_neg (show ¬ nI 119 = (113 : Int32) by decide), if_neg (show ¬ nI 119 = (114 : Int32) by decide), if_neg (show ¬ nI 119 = (115 : Int32) by decide), if_neg (show ¬ nI 119 = (116 : Int32) by decide), if_neg (show ¬ nI 119 = (117 : Int32) by decide), if_neg (show ¬ nI 119 = (118 : Int32) by decide), if_pos (show nI 119 = (119 : Int32) from rfl)]
  rfl
theorem cmM_119 {x : Nat} (hx : x < 32) (h9 : M 9 x = nI 119) (N : SJ) : F_X8_comes M N (nI x) = mWe M N (M 11 x) (M 12 x) := by
  unfold F_X8_comes
  rw [if_pos (gin_nI hx (by omega)), if_pos (gin_nI hx (by omega)), if_pos (gin_nI hx (by omega)), nI_clamp (by omega), h9, if_neg (show ¬ nI 119 = (101 : Int32) by decide), if_neg (show ¬ nI 119 = (102 : Int32) by decide), if_neg (show ¬ nI 119 = (103 : Int32) by decide), if_neg (show ¬ nI 119 = (104 : Int32) by decide), if_neg (show ¬ nI 119 = (105 : Int32) by decide), if_neg (show ¬ nI 119 = (106 : Int32) by decide), if_neg (show ¬ nI 119 = (107 : Int32) by decide), if_neg (show ¬ nI 119 = (108 : Int32) by decide), if_neg (show ¬ nI 119 = (109 : Int32) by decide), if_neg (show ¬ nI 119 = (110 : Int32) by decide), if_neg (show ¬ nI 119 = (111 : Int32) by decide), if_neg (show ¬ nI 119 = (112 : Int32) by decide), if_neg (show ¬ nI 119 = (113 : Int32) by decide), if_neg (show ¬ nI 119 = (114 : Int32) by decide), if_neg (show ¬ nI 119 = (115 : Int32) by decide)]
  rfl
theorem tellC (hO : OkF a st wn) (hw : wn ≤ 6) (hX : XE I q a st wn) (hM : ME M a st wn) (ht : ∀ k, k < 8 → M 3 k = nI (mostN k)) {c x : Nat} (hc : ¬ nB c = 0) (hx : x < 32) (h9 : M 9 x = nI c) (h11 : M 11 x = nI v) (h12 : nB c = 2 → M 12 x = nI w) (hv : v < 1000) (hw2 : w < 1000) : TO a q I M J N (F_X6_tell q I J (nI c) (nI v) (nI w)) (F_X8_comes M N (nI x)) := by
  have hcc : c = 101 ∨ c = 103 ∨ c = 109 ∨ c = 111 ∨ c = 112 ∨ c = 115 ∨ c = 119 := by
    unfold nB at hc
    by_cases d : c = 103 ∨ c = 111
    · omega
    · rw [if_neg d] at hc
      by_cases e : c = 101 ∨ c = 109 ∨ c = 112 ∨ c = 115 ∨ c = 119
      · omega
      · rw [if_neg e] at hc
        exact absurd rfl hc
  rcases hcc with rfl | rfl | rfl | rfl | rfl | rfl | rfl
  · rw [tlX_101, cmM_101 hx h9, h11, h12 (by decide)]
    exact (pairT (k := 6) hO hw hX hM ht (by omega) hv hw2).gx
  · rw [tlX_103, cmM_103 hx h9, h11]
    exact (setT (k := 0) hO hw hX hM ht (by omega) hv).gx.gm
  · rw [tlX_109, cmM_109 hx h9, h11, h12 (by decide)]
    exact (pairT (k := 4) hO hw hX hM ht (by omega) hv hw2).gx
  · rw [tlX_111, cmM_111 hx h9, h11]
    exact (setT (k := 1) hO hw hX hM ht (by omega) hv).gx.gm
  · rw [tlX_112, cmM_112 hx h9, h11, h12 (by decide)]
    exact (stepT hO hw hX hM hv hw2).gx
  · rw [tlX_115, cmM_115 hx h9, h11, h12 (by decide)]
    exact (pairT (k := 2) hO hw hX hM ht (by omega) hv hw2).gx
  · rw [tlX_119, cmM_119 hx h9, h11, h12 (by decide)]
    exact (weatT hO hw hX hM hv hw2).gx
end S32
