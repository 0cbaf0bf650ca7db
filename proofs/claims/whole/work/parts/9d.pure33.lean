/-- where the STATEMENTS begin -/
def ps (tx : Nat → Nat) (tl : Nat) : Nat → Nat
  | 0 => 0
  | k + 1 => (sp tx tl (ps tx tl k)).2
theorem u2c {K : SI} {i j : Nat} (h : i ≠ j) (a b : Int32) : u2 (u2 K 0 i a) 0 j b = u2 (u2 K 0 j b) 0 i a := by
  show u1 (u1 K 0 (upd (K 0) i a)) 0 (upd (u1 K 0 (upd (K 0) i a) 0) j b) = u1 (u1 K 0 (upd (K 0) j b)) 0 (upd (u1 K 0 (upd (K 0) j b) 0) i a)
  rw [u1_u1, u1_u1, u1_at, u1_at]
  congr 1
  funext x
  unfold upd
  by_cases c : x = i
  · by_cases d : x = j
    · omega
    · rw [if_neg d, if_pos c, if_pos c]
  · by_cases d : x = j
    · rw [if_pos d, if_neg c, if_pos d]
    · rw [if_neg d, if_neg c, if_neg c, if_neg d]
theorem u2self {K : SI} {k j : Nat} {v : Int32} (h : K k j = v) : u2 K k j v = K := by
  funext z
  show u1 K k (upd (K k) j v) z = K z
  by_cases c : z = k
  · rw [c, u1_at]
    funext x
    unfold upd
    by_cases d : x = j
    · rw [if_pos d, d, h]
    · rw [if_neg d]
  · rw [u1_ne c]
theorem b32t : b32 true = 1 := rfl
theorem b32f : b32 false = 0 := rfl
section S33
variable {I M : SI} {J N : SJ} {tl q s e : Nat} {tx : Nat → Nat}
theorem SV.mv {K K' : SI} {p k : Nat} (h : SV tx tl p K k) (f : ∀ z, z ≠ 0 → K' z k = K z k) : SV tx tl p K' k := by
  obtain ⟨h1, h2, h3, h4⟩ := h
  exact ⟨(f 9 (by omega)).trans h1, (f 10 (by omega)).trans h2, (f 11 (by omega)).trans h3, fun c => (f 12 (by omega)).trans (h4 c)⟩
theorem SV.mw {K K' : SI} {p k : Nat} (h : SV tx tl p K k) (f : ∀ z, 9 ≤ z → K' z k = K z k) : SV tx tl p K' k := by
  obtain ⟨h1, h2, h3, h4⟩ := h
  exact ⟨(f 9 (by omega)).trans h1, (f 10 (by omega)).trans h2, (f 11 (by omega)).trans h3, fun c => (f 12 (by omega)).trans (h4 c)⟩
def PF (K K' : SI) : Prop := (∀ z, z ≠ 0 → (z < 9 ∨ 12 < z) → K' z = K z) ∧ ∀ j, j ≠ 15 → j ≠ 16 → K' 0 j = K 0 j
theorem PF.rf {K : SI} : PF K K := ⟨fun _ _ _ => rfl, fun _ _ _ => rfl⟩
theorem PF.tr {K K' K2 : SI} (h : PF K K') (h2 : PF K' K2) : PF K K2 := ⟨fun z a b => (h2.1 z a b).trans (h.1 z a b), fun j a b => (h2.2 j a b).trans (h.2 j a b)⟩
theorem pass_l (hx : XTx I tl tx) (h0 : 0 < tl) : ∀ (d n n' s : Nat) (K : SI), tl ≤ ps tx tl s + d → d < n → d + 1 < n' → ps tx tl s ≤ tl → 3 * s ≤ ps tx tl s → MTx K tl tx → K 0 16 = nI s → (∀ k, k < s → ps tx tl k < tl ∧ (sp tx tl (ps tx tl k)).1 = true ∧ SV tx tl (ps tx tl k) K k) →
    (∃ (q : Nat) (K' : SI), q ≤ tl ∧ FL_X6_fieldFault_16 n (u2 I 45 2 (nI (ps tx tl s))) J (nI s) = some (nI q, u2 I 45 2 (nI q), J) ∧ FL_X8_field_12 n' (u2 K 0 15 (nI (ps tx tl s))) N 1 = some ((-1000 : Int32) - nI q, u2 (u2 K' 0 15 (nI q)) 0 14 0, N) ∧ PF K K') ∨
    ∃ (e : Nat) (K' : SI), ps tx tl e = tl ∧ 3 * e ≤ tl ∧ FL_X6_fieldFault_16 n (u2 I 45 2 (nI (ps tx tl s))) J (nI s) = some (-1, u2 I 45 2 (nI tl), J) ∧ FL_X8_field_12 n' (u2 K 0 15 (nI (ps tx tl s))) N 1 = ((F_X8_passesAll (u2 (u2 K' 0 15 (nI tl)) 0 14 (0 : Int32)) N (1 : Int32) (1 : Int32)).bind fun (I3, J3) => (FL_X8_field_86 3000 I3 J3 (0 : Int32))) ∧ PF K K' ∧ K' 0 16 = nI e ∧ ∀ k, k < e → ps tx tl k < tl ∧ (sp tx tl (ps tx tl k)).1 = true ∧ SV tx tl (ps tx tl k) K' k := by
  have h64 := hx.1
  intro d
  induction d with
  | zero =>
    intro n n' s K hd hn hn' hp h3 hm h16 hk
    obtain ⟨n, rfl⟩ := suc hn
    obtain ⟨n', rfl⟩ := suc (show 0 < n' by omega)
    have ep : ps tx tl s = tl := by omega
    obtain ⟨z1, z2, z3⟩ := u2z (M := K) (j := 15) (v := nI (ps tx tl s))
    obtain ⟨e1, e2, e3⟩ := at45 (I := I) (nI (ps tx tl s))
    have s0 : ¬ nI s = 0 := fun z => by
      have : s = 0 := (nI_eL (n := 0) rfl (by omega) (by omega)).mp z
      subst this
      have : ps tx tl 0 = 0 := rfl
      omega
    refine Or.inr ⟨s, K, ep, by omega, ?_, ?_, PF.rf, h16, hk⟩
    · rw [FL_X6_fieldFault_16, if_neg (show ¬ (64 : Int32) ≤ nI s from nI_ge (b := 64) (by omega) (by omega)), e1, e2, hx.2.1, if_pos (nI_le (by omega) (by omega)), ep]
    · rw [FL_X8_field_12, if_neg (show ¬ (1 : Int32) = 0 by decide), z3, z2 14 (by omega), hm.2.1, if_neg (nI_nlt (by omega) (by omega)), z2 16 (by omega), h16, if_neg s0, if_neg (show ¬ (1 : Int32) = 0 by decide), ep]
  | succ d ih =>
    intro n n' s K hd hn hn' hp h3 hm h16 hk
    obtain ⟨n, rfl⟩ := suc hn
    obtain ⟨n', rfl⟩ := suc (show 0 < n' by omega)
    obtain ⟨z1, z2, z3⟩ := u2z (M := K) (j := 15) (v := nI (ps tx tl s))
    obtain ⟨e1, e2, e3⟩ := at45 (I := I) (nI (ps tx tl s))
    by_cases c : tl ≤ ps tx tl s
    · have ep : ps tx tl s = tl := by omega
      have s0 : ¬ nI s = 0 := fun z => by
        have : s = 0 := (nI_eL (n := 0) rfl (by omega) (by omega)).mp z
        subst this
        have : ps tx tl 0 = 0 := rfl
        omega
      refine Or.inr ⟨s, K, ep, by omega, ?_, ?_, PF.rf, h16, hk⟩
      · rw [FL_X6_fieldFault_16, if_neg (show ¬ (64 : Int32) ≤ nI s from nI_ge (b := 64) (by omega) (by omega)), e1, e2, hx.2.1, if_pos (nI_le (by omega) (by omega)), ep]
      · rw [FL_X8_field_12, if_neg (show ¬ (1 : Int32) = 0 by decide), z3, z2 14 (by omega), hm.2.1, if_neg (nI_nlt (by omega) (by omega)), z2 16 (by omega), h16, if_neg s0, if_neg (show ¬ (1 : Int32) = 0 by decide), ep]
    have hpl : ps tx tl s < tl := by omega
    have hql := sp_le (tx := tx) hpl
    obtain ⟨K1, g1, g2, g3⟩ := stM hm hpl (show s < 32 by omega) h16 N
    obtain ⟨y1, y2, y3⟩ := u2z (M := K1) (j := 15) (v := nI (sp tx tl (ps tx tl s)).2)
    have k16 : u2 K1 0 15 (nI (sp tx tl (ps tx tl s)).2) 0 16 = nI s := (y2 16 (by omega)).trans ((g2.2.1 16 (by omega)).trans h16)
    rw [FL_X6_fieldFault_16, if_neg (show ¬ (64 : Int32) ≤ nI s from nI_ge (b := 64) (by omega) (by omega)), e1, e2, hx.2.1, if_neg (nI_ge (by omega) (by omega)), passX hx hpl, Option.bind_some]
    rw [FL_X8_field_12, if_neg (show ¬ (1 : Int32) = 0 by decide), z3, z2 14 (by omega), hm.2.1, if_pos (nI_lt hpl (by omega)), g1, Option.bind_some]
    rcases hb : (sp tx tl (ps tx tl s)).1 with _ | _
    · left
      obtain ⟨n', rfl⟩ := suc (show 0 < n' by omega)
      refine ⟨(sp tx tl (ps tx tl s)).2, u2 K1 0 16 (nI s + 0), hql, ?_, ?_, ?_⟩
      · show (if b32 false = 0 then some (u2 I 45 2 (nI (sp tx tl (ps tx tl s)).2) 45 2, u2 I 45 2 (nI (sp tx tl (ps tx tl s)).2), J) else _) = _
        rw [if_pos b32f, (at45 (I := I) _).2.1]
      · show FL_X8_field_12 (n' + 1) (u2 (u2 K1 0 15 (nI (sp tx tl (ps tx tl s)).2)) 0 16 (u2 K1 0 15 (nI (sp tx tl (ps tx tl s)).2) 0 16 + (if b32 false = 0 then (0 : Int32) else (1 : Int32)))) N (b32 false) = _
        rw [k16, if_pos b32f, u2c (by omega), b32f, FL_X8_field_12, if_pos rfl, if_pos rfl]
        have e15 : u2 (u2 (u2 K1 0 16 (nI s + 0)) 0 15 (nI (sp tx tl (ps tx tl s)).2)) 0 14 (0 : Int32) 0 15 = nI (sp tx tl (ps tx tl s)).2 := ((u2z (M := u2 (u2 K1 0 16 (nI s + 0)) 0 15 (nI (sp tx tl (ps tx tl s)).2)) (j := 14) (v := (0 : Int32))).2.1 15 (by omega)).trans (u2z (M := u2 K1 0 16 (nI s + 0)) (j := 15) (v := nI (sp tx tl (ps tx tl s)).2)).2.2
        rw [e15]
      · obtain ⟨x1, x2, x3⟩ := u2z (M := K1) (j := 16) (v := nI s + 0)
        exact ⟨fun z a b => (x1 z a).trans (g2.1 z a b), fun j a b => (x2 j b).trans (g2.2.1 j a)⟩
    · obtain ⟨x1, x2, x3⟩ := u2z (M := K1) (j := 16) (v := nI (s + 1))
      have hge := sp_ge hb
      have es : ps tx tl (s + 1) = (sp tx tl (ps tx tl s)).2 := rfl
      have pf1 : PF K (u2 K1 0 16 (nI (s + 1))) := ⟨fun z a b => (x1 z a).trans (g2.1 z a b), fun j a b => (x2 j b).trans (g2.2.1 j a)⟩
      have hsv := g3 hb
      have H := ih n n' (s + 1) (u2 K1 0 16 (nI (s + 1))) (by rw [es]; omega) (by omega) (by omega) (by rw [es]; exact hql) (by rw [es]; omega) (hm.mv (pf1.2 14 (by omega) (by omega)) (pf1.1 8 (by omega) (by omega))) x3 (fun k hks => by
        by_cases c2 : k = s
        · subst c2
          exact ⟨hpl, hb, hsv.mv (fun z hz => by rw [x1 z hz])⟩
        · obtain ⟨k1, k2, k3⟩ := hk k (by omega)
          exact ⟨k1, k2, k3.mv (fun z hz => by rw [x1 z hz, g2.2.2 z k hz c2])⟩)
      rw [es] at H
      have eX : (match (b32 true, u2 I 45 2 (nI (sp tx tl (ps tx tl s)).2), J) with | (r4, I4, J4) => (if r4 = 0 then (some ((I4 45 2), I4, J4)) else (FL_X6_fieldFault_16 n I4 J4 (nI s + 1)))) = FL_X6_fieldFault_16 n (u2 I 45 2 (nI (sp tx tl (ps tx tl s)).2)) J (nI (s + 1)) := by
        show (if b32 true = 0 then _ else FL_X6_fieldFault_16 n (u2 I 45 2 (nI (sp tx tl (ps tx tl s)).2)) J (nI s + 1)) = _
        rw [if_neg (show ¬ b32 true = 0 by decide), nI_1]
      have eM : (match (b32 true, u2 K1 0 15 (nI (sp tx tl (ps tx tl s)).2), N) with | (r10, I10, J10) => (FL_X8_field_12 n' (u2 I10 0 16 ((I10 0 16) + (if r10 = 0 then (0 : Int32) else (1 : Int32)))) J10 r10)) = FL_X8_field_12 n' (u2 (u2 K1 0 16 (nI (s + 1))) 0 15 (nI (sp tx tl (ps tx tl s)).2)) N 1 := by
        show FL_X8_field_12 n' (u2 (u2 K1 0 15 (nI (sp tx tl (ps tx tl s)).2)) 0 16 (u2 K1 0 15 (nI (sp tx tl (ps tx tl s)).2) 0 16 + (if b32 true = 0 then (0 : Int32) else (1 : Int32)))) N (b32 true) = _
        rw [k16, if_neg (show ¬ b32 true = 0 by decide), nI_1, u2c (by omega), b32t]
      rcases H with ⟨q, K', h1, h2, h3', h4⟩ | ⟨e, K', h1, h2, h3', h4, h5, h6, h7⟩
      · exact Or.inl ⟨q, K', h1, eX.trans h2, eM.trans h3', pf1.tr h4⟩
      · exact Or.inr ⟨e, K', h1, h2, eX.trans h3', eM.trans h4, pf1.tr h5, h6, h7⟩
/-- the second reading: what each side may have changed -/
def XG (I I' : SI) : Prop := (∀ z, (z < 30 ∨ 36 ≤ z) → z ≠ 45 → I' z = I z) ∧ I' 30 8 = I 30 8 ∧ I' 45 1 = I 45 1
def MG (M M' : SI) : Prop := (∀ z, (z = 1 ∨ z = 3 ∨ z = 8 ∨ 17 ≤ z) → M' z = M z) ∧ ∀ j, j ≠ 7 → j ≠ 8 → j ≠ 21 → j ≠ 39 → j ≠ 40 → M' 0 j = M 0 j
theorem XG.tr {I' I2 : SI} (h : XG I I') (h2 : XG I' I2) : XG I I2 := ⟨fun z a b => (h2.1 z a b).trans (h.1 z a b), h2.2.1.trans h.2.1, h2.2.2.trans h.2.2⟩
theorem XFr.xg {I' : SI} {v : Int32} (h : XFr 30 (u2 I 45 2 v) I') : XG I I' := by
  obtain ⟨e1, e2, e3⟩ := at45 (I := I) v
  refine ⟨fun z a b => (h.1 z (by omega)).trans (u1_ne b), h.2.trans (by rw [show u2 I 45 2 v 30 = I 30 from u1_ne (by omega)]), ?_⟩
  rw [h.1 45 (by omega)]
  exact e1
theorem uXG (v : Int32) : XG I (u2 I 45 2 v) := ⟨fun z _ b => u1_ne b, by rw [show u2 I 45 2 v 30 = I 30 from u1_ne (by omega)], (at45 (I := I) v).1⟩
theorem XTx.g {I' : SI} (h : XTx I tl tx) (g : XG I I') : XTx I' tl tx := ⟨h.1, g.2.2.trans h.2.1, fun k hk => by rw [g.1 46 (by omega) (by omega)]; exact h.2.2 k hk⟩
theorem swV {p : Nat} (hp : p < tl) (h : (sp tx tl p).1 = true) : ∃ w, w < 1000 ∧ sw tx tl p = nI w ∧ (nB (tx p) = 2 → (nm tx tl ((nm tx tl (p + 1)).2 + 1)).1 = nI w) := by
  obtain ⟨h0, h1, h2, h3⟩ := sp_t h
  unfold sw
  by_cases c : nB (tx p) = 2
  · obtain ⟨k1, k2, k3⟩ := h2 c
    obtain ⟨w, hw, ew⟩ := nm_v (tx := tx) (show (nm tx tl (p + 1)).2 + 1 ≤ tl from k1.1) k2
    rw [if_pos c]
    exact ⟨w, hw, ew, fun _ => ew⟩
  · rw [if_neg c]
    exact ⟨0, by omega, rfl, fun z => absurd z c⟩
theorem sec_l {a0 : NN} {st0 wn0 te : Nat} (hO0 : OkA a0 st0 wn0 te) (he : ps tx tl e = tl) (he3 : 3 * e ≤ tl) (h64 : tl ≤ 64) (hps : ∀ k, k < e → ps tx tl k < tl ∧ (sp tx tl (ps tx tl k)).1 = true) : ∀ (d n n' k : Nat) (a : NN) (st wn : Nat) (I M : SI), k + d = e → d < n → d < n' → XTx I tl tx → XE I 30 a st wn → OkF a st wn → wn ≤ 6 → (∀ j, 5 ≤ j → a j = a0 j) → ME M a st wn → (∀ k, k < 8 → M 3 k = nI (mostN k)) → M 0 16 = nI e → (∀ k, k < e → SV tx tl (ps tx tl k) M k) → KF (M 21) (100 * 1) a0 st0 wn0 te →
    (∃ (I' M' : SI) (k' : Nat), k' < e ∧ FL_X6_readField_26 n (u2 I 45 2 (nI (ps tx tl k))) J 30 (nI k) (nI k) = some ((-2000 : Int32) - nI (ps tx tl k'), I', J) ∧ FL_X8_field_86 n' M N (nI k) = some ((-2000 : Int32) - nI (ps tx tl k'), M', N) ∧ XG I I' ∧ MF M' a0 st0 wn0 te ∧ MG M M') ∨
    ∃ (a' : NN) (st' wn' : Nat) (I' M' : SI), FL_X6_readField_26 n (u2 I 45 2 (nI (ps tx tl k))) J 30 (nI k) (nI k) = some (nI e, I', J) ∧ FL_X8_field_86 n' M N (nI k) = some (nI e, M', N) ∧ OkF a' st' wn' ∧ wn' ≤ 6 ∧ (∀ j, 5 ≤ j → a' j = a0 j) ∧ XE I' 30 a' st' wn' ∧ XG I I' ∧ ME M' a' st' wn' ∧ MFr M M' := by
  intro d
  induction d with
  | zero =>
    intro n n' k a st wn I M hk hn hn' hx hX hO hw ha hM ht h16 hsv hK
    obtain ⟨n, rfl⟩ := suc hn
    obtain ⟨n', rfl⟩ := suc hn'
    have ek : k = e := by omega
    subst ek
    obtain ⟨e1, e2, e3⟩ := at45 (I := I) (nI (ps tx tl k))
    refine Or.inr ⟨a, st, wn, u2 I 45 2 (nI (ps tx tl k)), M, ?_, ?_, hO, hw, ha, hX.at (fun z _ hz => u1_ne (by omega)), uXG _, hM, MFr.rf⟩
    · rw [FL_X6_readField_26, if_neg (show ¬ (64 : Int32) ≤ nI k from nI_ge (b := 64) (by omega) (by omega)), e1, e2, hx.2.1, if_pos (nI_le (by omega) (by omega))]
    · rw [FL_X8_field_86, h16, if_pos (nI_le (by omega) (by omega))]
  | succ d ih =>
    intro n n' k a st wn I M hk hn hn' hx hX hO hw ha hM ht h16 hsv hK
    obtain ⟨n, rfl⟩ := suc hn
    obtain ⟨n', rfl⟩ := suc hn'
    obtain ⟨e1, e2, e3⟩ := at45 (I := I) (nI (ps tx tl k))
    obtain ⟨hp, hb⟩ := hps k (by omega)
    obtain ⟨h0, h1, h2, h3⟩ := sp_t hb
    obtain ⟨v, hv, ev⟩ := nm_v (tx := tx) (show ps tx tl k + 1 ≤ tl from hp) h1
    obtain ⟨w, hw2, ew, ew2⟩ := swV hp hb
    obtain ⟨s9, s10, s11, s12⟩ := hsv k (by omega)
    have es : ps tx tl (k + 1) = (sp tx tl (ps tx tl k)).2 := rfl
    have hX' : XE (u2 I 45 2 (nI (sp tx tl (ps tx tl k)).2)) 30 a st wn := hX.at (fun z _ hz => u1_ne (by omega))
    have T := tellC (J := J) (N := N) (c := tx (ps tx tl k)) (x := k) hO hw hX' hM ht h0 (by omega) s9 (s11.trans ev) (fun z => (s12 z).trans (ew2 z)) hv hw2
    rw [FL_X6_readField_26, if_neg (show ¬ (64 : Int32) ≤ nI k from nI_ge (b := 64) (by omega) (by omega)), e1, e2, hx.2.1, if_neg (nI_ge hp (by omega)), readX hx hp hb, ev, ew]
    rw [FL_X8_field_86, h16, if_neg (nI_ge (by omega) (by omega))]
    rcases T with ⟨I', M', t1, t2, t3, t4⟩ | ⟨a', st', wn', I', M', t1, t2, t3, t4, t5, t6, t7, t8, t9⟩
    · obtain ⟨M2, p1, p2, p3, p4⟩ := passR (v := 1) (M := M') (by omega) (by rw [t4.1 21 (by omega)]; exact hK) hO0 N
      have p1' : F_X8_passesAll M' N (1 : Int32) (0 : Int32) = some (M2, N) := p1
      refine Or.inl ⟨I', M2, k, by omega, ?_, ?_, t3.xg, p2, ?_⟩
      · rw [t1, Option.bind_some]
        rfl
      · rw [t2, Option.bind_some]
        show (if (0 : Int32) = 0 then ((F_X8_passesAll M' N (1 : Int32) (0 : Int32)).bind fun (I7, J7) => (if gin (nI k) 32 = true then (some (((-2000 : Int32) - (I7 10 (Int32.toNatClampNeg (nI k)))), I7, J7)) else none)) else _) = _
        rw [if_pos rfl, p1', Option.bind_some]
        show (if gin (nI k) 32 = true then (some (((-2000 : Int32) - (M2 10 (Int32.toNatClampNeg (nI k)))), M2, N)) else none) = _
        rw [if_pos (gin_nI (by omega) (by omega)), nI_clamp (by omega), p3 10 (by omega), t4.1 10 (by omega), s10]
      · exact ⟨fun z hz => (p3 z (by omega)).trans (t4.1 z (by omega)), fun j a b c d' e' => (p4 j a b c d' e').trans (t4.2 j a b)⟩
    · have g1 : XG I I' := t8.xg
      have self : u2 I' 45 2 (nI (sp tx tl (ps tx tl k)).2) = I' := u2self (by rw [t8.1 45 (by omega)]; exact (at45 (I := I) _).2.1)
      have H := ih n n' (k + 1) a' st' wn' I' M' (by omega) (by omega) (by omega) (hx.g g1) t5 t3 t4 (fun j hj => (t7 j hj).trans (ha j hj)) t6 (fun k hk => by rw [t9.1 3 (by omega)]; exact ht k hk) ((t9.2 16 (by omega) (by omega)).trans h16) (fun k hk => (hsv k hk).mw (fun z hz => by rw [t9.1 z (by omega)])) (by rw [t9.1 21 (by omega)]; exact hK)
      rw [es, self] at H
      have eX : ((F_X6_tell 30 (u2 I 45 2 (nI (sp tx tl (ps tx tl k)).2)) J (nI (tx (ps tx tl k))) (nI v) (nI w)).bind fun (r5, I5, J5) => (if r5 = 0 then (some ((0 : Int32), I5, J5)) else (some ((1 : Int32), I5, J5)))) = some (1, I', J) := by
        rw [t1, Option.bind_some]
        rfl
      have eX2 : (((F_X6_tell 30 (u2 I 45 2 (nI (sp tx tl (ps tx tl k)).2)) J (nI (tx (ps tx tl k))) (nI v) (nI w)).bind fun (r5, I5, J5) => (if r5 = 0 then (some ((0 : Int32), I5, J5)) else (some ((1 : Int32), I5, J5)))).bind fun (r5, I5, J5) => (if r5 = 0 then (some (((-2000 : Int32) - nI (ps tx tl k)), I5, J5)) else (FL_X6_readField_26 n I5 J5 30 (nI k + 1) (nI k + 1)))) = FL_X6_readField_26 n I' J 30 (nI (k + 1)) (nI (k + 1)) := by
        rw [eX, Option.bind_some]
        show (if (1 : Int32) = 0 then _ else FL_X6_readField_26 n I' J 30 (nI k + 1) (nI k + 1)) = _
        rw [if_neg (by decide), nI_1]
      have eM : ((F_X8_comes M N (nI k)).bind fun (r5, I5, J5) => (if r5 = 0 then ((F_X8_passesAll I5 J5 (1 : Int32) (0 : Int32)).bind fun (I7, J7) => (if gin (nI k) 32 = true then (some (((-2000 : Int32) - (I7 10 (Int32.toNatClampNeg (nI k)))), I7, J7)) else none)) else (FL_X8_field_86 n' I5 J5 (nI k + 1)))) = FL_X8_field_86 n' M' N (nI (k + 1)) := by
        rw [t2, Option.bind_some]
        show (if (1 : Int32) = 0 then _ else FL_X8_field_86 n' M' N (nI k + 1)) = _
        rw [if_neg (by decide), nI_1]
      rcases H with ⟨I2, M2, k', h1, h2, h3, h4, h5, h6⟩ | ⟨a2, st2, wn2, I2, M2, h1, h2, h3, h4, h5, h6, h7, h8, h9⟩
      · exact Or.inl ⟨I2, M2, k', h1, eX2.trans h2, eM.trans h3, g1.tr h4, h5, ⟨fun z hz => (h6.1 z hz).trans (t9.1 z (by omega)), fun j a b c d' e' => (h6.2 j a b c d' e').trans (t9.2 j a b)⟩⟩
      · exact Or.inr ⟨a2, st2, wn2, I2, M2, eX2.trans h1, eM.trans h2, h3, h4, h5, h6, g1.tr h7, h8, t9.tr h9⟩
end S33
