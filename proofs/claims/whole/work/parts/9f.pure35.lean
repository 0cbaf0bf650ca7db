/-! ===== the made worlds, and the start ===== -/
def S0 : Nat → Int32 := upd (upd (upd (upd (upd (upd (upd (upd (fun _ => 0) (Int32.toNatClampNeg 0) 10) (Int32.toNatClampNeg 1) 0) (Int32.toNatClampNeg 2) 0) (Int32.toNatClampNeg 3) 0) (Int32.toNatClampNeg 4) 99) (Int32.toNatClampNeg 5) 10) (Int32.toNatClampNeg 6) 99) (Int32.toNatClampNeg 7) 10
def S1 : Nat → Int32 := upd (upd (upd (upd (upd (upd (upd (upd (fun _ => 0) (Int32.toNatClampNeg 0) 99) (Int32.toNatClampNeg 1) 999) (Int32.toNatClampNeg 2) 99) (Int32.toNatClampNeg 3) 1) (Int32.toNatClampNeg 4) 99) (Int32.toNatClampNeg 5) 10) (Int32.toNatClampNeg 6) 99) (Int32.toNatClampNeg 7) 10
def I0 : SI := fun k => if k = 1 then S0 else if k = 16 then S0 else if k = 31 then S0 else fun _ => 0
def J0 : SJ := fun _ _ => 0
def M0 : SI := fun k => if k = 2 then S0 else if k = 3 then S1 else fun _ => 0
def N0 : SJ := fun _ _ => 0
theorem app_L {α : Type} {w1 w2 : List α} {k : Nat} {q : α} (h : w1[k]? = some q) : (w1 ++ w2)[k]? = some q := by
  rw [List.getElem?_append_left (List.getElem?_eq_some_iff.mp h).1]
  exact h
theorem app_R {α : Type} {w1 w2 : List α} {k : Nat} {q : α} (h : w2[k]? = some q) : (w1 ++ w2)[w1.length + k]? = some q := by
  rw [List.getElem?_append_right (Nat.le_add_right _ _), Nat.add_sub_cancel_left]
  exact h
theorem pgL {g : Gx} {w1 w2 : va_W} {H : Heap} (h : Pg g (w1 ++ w2) H) : Pg g w1 H := fun k q hk => h k q (app_L hk)
theorem pgR {g : Gx} {w1 w2 : va_W} {H : Heap} (h : Pg g (w1 ++ w2) H) : Pg g w2 H := fun k q hk => h (w1.length + k) q (app_R hk)
theorem dgL {A : Nat → Prop} {w1 w2 : va_W} (h : va_D A (w1 ++ w2)) : va_D A w1 := ⟨fun i j p q hi hj e => h.1 i j p q (app_L hi) (app_L hj) e, fun k q hk => h.2 k q (app_L hk)⟩
theorem dgR {A : Nat → Prop} {w1 w2 : va_W} (h : va_D A (w1 ++ w2)) : va_D A w2 := ⟨fun i j p q hi hj e => by
  have := h.1 _ _ p q (app_R (w1 := w1) hi) (app_R (w1 := w1) hj) e
  omega, fun k q hk => h.2 _ q (app_R (w1 := w1) hk)⟩
theorem dgN {A : Nat → Prop} {w1 w2 : va_W} (h : va_D A (w1 ++ w2)) {i j : Nat} {p q : Nat × va_E} (hi : w1[i]? = some p) (hj : w2[j]? = some q) : p.1 ≠ q.1 := fun e => by
  have h1 := h.1 _ _ p q (app_L (w2 := w2) hi) (app_R (w1 := w1) hj) e
  have h2 := (List.getElem?_eq_some_iff.mp hi).1
  omega
theorem arrVc (c : ClassId) {N : Nat} {f f' : Nat → Value} (h : ∀ i, i < N → f i = f' i) : arrV c N f = arrV c N f' := by
  unfold arrV
  congr 1
  congr 1
  funext j
  exact h j.val j.isLt
theorem cellQ {c : ClassId} {n : Nat} {f f' : Nat → Option Nat} (h : ∀ i, i < n → f i = f' i) : vp_cell c (n, .inr (.inr (.inr (.inr f)))) = vp_cell c (n, .inr (.inr (.inr (.inr f')))) := by
  show arrV c n (fun j => va_rf (f j)) = arrV c n (fun j => va_rf (f' j))
  exact arrVc c (fun i hi => congrArg va_rf (h i hi))
theorem pgSet {g : Gx} {ws : va_W} {H : Heap} (h : Pg g ws H) (k : Nat) {q : Nat} {c : ClassId} {a a' : vp_A} (hk : ws[k]? = some (q, .inl (c, a))) (hc : vp_cell c a = vp_cell c a') : Pg g (ws.set k (q, .inl (c, a'))) H := fun j p hj => by
  by_cases e : k = j
  · subst e
    rw [List.getElem?_set_self (List.getElem?_eq_some_iff.mp hk).1] at hj
    have ep := Option.some.inj hj
    subst ep
    have h1 : H[q]? = some (vp_cell c a) := h k _ hk
    show H[q]? = some (vp_cell c a')
    rw [← hc]
    exact h1
  · rw [List.getElem?_set_ne e] at hj
    exact h j p hj
set_option maxRecDepth 100000 in
set_option maxHeartbeats 4000000 in
theorem x7W {g : Gx} {z : Nat} {H : Heap} (u : Nat × Nat × Nat × Nat × Nat × Nat × Nat × Nat × Nat × Nat × Nat × Nat × Nat × Nat × Nat × Nat × Nat × Nat × Nat × Nat × Nat × Nat × Nat × Nat × Nat × Nat × Nat × Nat × Nat × Nat × Nat × Nat × Nat × Nat × Nat × Nat × Nat × Nat × Nat × Nat × Nat × Nat × Nat × Nat × Nat × Nat × Nat × Nat × Nat × Nat × Nat × Nat × Nat × Nat × Nat × Nat × Nat × Nat × Nat × Nat × Nat) (h : Pg g (wf_X7_init g z u) H) : ∃ ad : Nat → Nat, ad 59 = z ∧ Pg g (xW ad g I0 J0) H ∧ ∀ A, va_D A (wf_X7_init g z u) → va_D A (xW ad g I0 J0) := by
  obtain ⟨z1, a2_0, a2_1, a2_2, a2_3, a2_4, a2_5, a2_6, a2_7, a2_8, a2_9, a2_10, a2_11, a2_12, a2_13, z3, a4_0, a4_1, a4_2, a4_3, a4_4, a4_5, a4_6, a4_7, a4_8, a4_9, a4_10, a4_11, a4_12, a4_13, z5, a6_0, a6_1, a6_2, a6_3, a6_4, a6_5, a6_6, a6_7, a6_8, a6_9, a6_10, a6_11, a6_12, a6_13, z7, a8_0, z9, a10_0, a10_1, a10_2, a10_3, z11, a12_0, a12_1, z13, a14_0, a14_1, z15, z17, z18⟩ := u
  refine ⟨fun i => ([z1, a2_0, a2_1, a2_2, a2_3, a2_4, a2_5, a2_6, a2_7, a2_8, a2_9, a2_10, a2_11, a2_12, a2_13, z3, a4_0, a4_1, a4_2, a4_3, a4_4, a4_5, a4_6, a4_7, a4_8, a4_9, a4_10, a4_11, a4_12, a4_13, z5, a6_0, a6_1, a6_2, a6_3, a6_4, a6_5, a6_6, a6_7, a6_8, a6_9, a6_10, a6_11, a6_12, a6_13, z7, a8_0, z9, a10_0, a10_1, a10_2, a10_3, z11, a12_0, a12_1, z13, a14_0, a14_1, z15, z, z17, z18] : List Nat).getD i 0, rfl, ?_, fun A hD => ?_⟩
  · have h2 := h.sub (ws' := [(z1, .inr (1, [.ref a2_0, .ref a2_1, .ref a2_2, .ref a2_3, .ref a2_4, .ref a2_5, .int 0, .int 0, .int 0])), (a2_0, .inl (g.2.1, 8, .inl (upd (upd (upd (upd (upd (upd (upd (upd (fun _ => 0) (Int32.toNatClampNeg 0) 10) (Int32.toNatClampNeg 1) 0) (Int32.toNatClampNeg 2) 0) (Int32.toNatClampNeg 3) 0) (Int32.toNatClampNeg 4) 99) (Int32.toNatClampNeg 5) 10) (Int32.toNatClampNeg 6) 99) (Int32.toNatClampNeg 7) 10))), (a2_1, .inl (g.2.1, 8, .inl (fun _ => 0))), (a2_2, .inl (g.2.1, 8, .inl (fun _ => 0))), (a2_3, .inl (g.2.1, 6, .inl (fun _ => 0))), (a2_4, .inl (g.2.1, 6, .inl (fun _ => 0))), (a2_5, .inl (g.2.2.2, 8, .inr (.inr (.inr (.inr (va_up (va_up (va_up (va_up (va_up (va_up (va_up (va_up (fun _ => none) (Int32.toNatClampNeg 0) (some a2_6)) (Int32.toNatClampNeg 1) (some a2_7)) (Int32.toNatClampNeg 2) (some a2_8)) (Int32.toNatClampNeg 3) (some a2_9)) (Int32.toNatClampNeg 4) (some a2_10)) (Int32.toNatClampNeg 5) (some a2_11)) (Int32.toNatClampNeg 6) (some a2_12)) (Int32.toNatClampNeg 7) (some a2_13))))))), (a2_6, .inr (4, [.int 0, .int 0, .int 0, .int 0])), (a2_7, .inr (4, [.int 0, .int 0, .int 0, .int 0])), (a2_8, .inr (4, [.int 0, .int 0, .int 0, .int 0])), (a2_9, .inr (4, [.int 0, .int 0, .int 0, .int 0])), (a2_10, .inr (4, [.int 0, .int 0, .int 0, .int 0])), (a2_11, .inr (4, [.int 0, .int 0, .int 0, .int 0])), (a2_12, .inr (4, [.int 0, .int 0, .int 0, .int 0])), (a2_13, .inr (4, [.int 0, .int 0, .int 0, .int 0])), (z3, .inr (1, [.ref a4_0, .ref a4_1, .ref a4_2, .ref a4_3, .ref a4_4, .ref a4_5, .int 0, .int 0, .int 0])), (a4_0, .inl (g.2.1, 8, .inl (upd (upd (upd (upd (upd (upd (upd (upd (fun _ => 0) (Int32.toNatClampNeg 0) 10) (Int32.toNatClampNeg 1) 0) (Int32.toNatClampNeg 2) 0) (Int32.toNatClampNeg 3) 0) (Int32.toNatClampNeg 4) 99) (Int32.toNatClampNeg 5) 10) (Int32.toNatClampNeg 6) 99) (Int32.toNatClampNeg 7) 10))), (a4_1, .inl (g.2.1, 8, .inl (fun _ => 0))), (a4_2, .inl (g.2.1, 8, .inl (fun _ => 0))), (a4_3, .inl (g.2.1, 6, .inl (fun _ => 0))), (a4_4, .inl (g.2.1, 6, .inl (fun _ => 0))), (a4_5, .inl (g.2.2.2, 8, .inr (.inr (.inr (.inr (va_up (va_up (va_up (va_up (va_up (va_up (va_up (va_up (fun _ => none) (Int32.toNatClampNeg 0) (some a4_6)) (Int32.toNatClampNeg 1) (some a4_7)) (Int32.toNatClampNeg 2) (some a4_8)) (Int32.toNatClampNeg 3) (some a4_9)) (Int32.toNatClampNeg 4) (some a4_10)) (Int32.toNatClampNeg 5) (some a4_11)) (Int32.toNatClampNeg 6) (some a4_12)) (Int32.toNatClampNeg 7) (some a4_13))))))), (a4_6, .inr (4, [.int 0, .int 0, .int 0, .int 0])), (a4_7, .inr (4, [.int 0, .int 0, .int 0, .int 0])), (a4_8, .inr (4, [.int 0, .int 0, .int 0, .int 0])), (a4_9, .inr (4, [.int 0, .int 0, .int 0, .int 0])), (a4_10, .inr (4, [.int 0, .int 0, .int 0, .int 0])), (a4_11, .inr (4, [.int 0, .int 0, .int 0, .int 0])), (a4_12, .inr (4, [.int 0, .int 0, .int 0, .int 0])), (a4_13, .inr (4, [.int 0, .int 0, .int 0, .int 0])), (z5, .inr (1, [.ref a6_0, .ref a6_1, .ref a6_2, .ref a6_3, .ref a6_4, .ref a6_5, .int 0, .int 0, .int 0])), (a6_0, .inl (g.2.1, 8, .inl (upd (upd (upd (upd (upd (upd (upd (upd (fun _ => 0) (Int32.toNatClampNeg 0) 10) (Int32.toNatClampNeg 1) 0) (Int32.toNatClampNeg 2) 0) (Int32.toNatClampNeg 3) 0) (Int32.toNatClampNeg 4) 99) (Int32.toNatClampNeg 5) 10) (Int32.toNatClampNeg 6) 99) (Int32.toNatClampNeg 7) 10))), (a6_1, .inl (g.2.1, 8, .inl (fun _ => 0))), (a6_2, .inl (g.2.1, 8, .inl (fun _ => 0))), (a6_3, .inl (g.2.1, 6, .inl (fun _ => 0))), (a6_4, .inl (g.2.1, 6, .inl (fun _ => 0))), (a6_5, .inl (g.2.2.2, 8, .inr (.inr (.inr (.inr (va_up (va_up (va_up (va_up (va_up (va_up (va_up (va_up (fun _ => none) (Int32.toNatClampNeg 0) (some a6_6)) (Int32.toNatClampNeg 1) (some a6_7)) (Int32.toNatClampNeg 2) (some a6_8)) (Int32.toNatClampNeg 3) (some a6_9)) (Int32.toNatClampNeg 4) (some a6_10)) (Int32.toNatClampNeg 5) (some a6_11)) (Int32.toNatClampNeg 6) (some a6_12)) (Int32.toNatClampNeg 7) (some a6_13))))))), (a6_6, .inr (4, [.int 0, .int 0, .int 0, .int 0])), (a6_7, .inr (4, [.int 0, .int 0, .int 0, .int 0])), (a6_8, .inr (4, [.int 0, .int 0, .int 0, .int 0])), (a6_9, .inr (4, [.int 0, .int 0, .int 0, .int 0])), (a6_10, .inr (4, [.int 0, .int 0, .int 0, .int 0])), (a6_11, .inr (4, [.int 0, .int 0, .int 0, .int 0])), (a6_12, .inr (4, [.int 0, .int 0, .int 0, .int 0])), (a6_13, .inr (4, [.int 0, .int 0, .int 0, .int 0])), (z7, .inr (5, [.ref a8_0, .int 0, .int 0])), (a8_0, .inl (g.2.1, 64, .inl (fun _ => 0))), (z9, .inr (3, [.ref z1, .ref a10_0, .ref a10_1, .ref a10_2, .ref a10_3, .int 0, .int 0, .int 0, .int 0, .long 0])), (a10_0, .inl (g.2.1, 9, .inl (fun _ => 0))), (a10_1, .inl (g.2.1, 8, .inl (fun _ => 0))), (a10_2, .inl (g.2.1, 8, .inl (fun _ => 0))), (a10_3, .inl (g.2.1, 72, .inl (fun _ => 0))), (z11, .inr (2, [.ref a12_0, .ref a12_1])), (a12_0, .inl (g.2.2.1, 21, .inr (.inl (fun _ => 0)))), (a12_1, .inl (g.2.2.1, 21, .inr (.inl (fun _ => 0)))), (z13, .inr (0, [.ref a14_0, .ref a14_1, .int 0])), (a14_0, .inl (g.2.2.1, 40, .inr (.inl (fun _ => 0)))), (a14_1, .inl (g.2.2.1, 44, .inr (.inl (fun _ => 0)))), (z15, .inr (4, [.int 0, .int 0, .int 0, .int 0])), (z, .inr (6, [.ref z1, .ref z3, .ref z5, .ref z7, .ref z9, .ref z11, .ref z13, .ref z15, .ref z17, .ref z18, .int 0, .int 0])), (z17, .inl (g.2.1, 16, .inl (fun _ => 0))), (z18, .inl (g.2.1, 6, .inl (fun _ => 0)))]) [1, 2, 3, 4, 5, 6, 7, 8, 9, 10, 11, 12, 13, 14, 15, 16, 17, 18, 19, 20, 21, 22, 23, 24, 25, 26, 27, 28, 29, 30, 31, 32, 33, 34, 35, 36, 37, 38, 39, 40, 41, 42, 43, 44, 45, 46, 47, 48, 49, 50, 51, 52, 53, 54, 55, 56, 57, 58, 59, 0, 60, 61] rfl
    have h3 := pgSet h2 6 (q := a2_5) (c := g.2.2.2) (a := (8, .inr (.inr (.inr (.inr (va_up (va_up (va_up (va_up (va_up (va_up (va_up (va_up (fun _ => none) (Int32.toNatClampNeg 0) (some a2_6)) (Int32.toNatClampNeg 1) (some a2_7)) (Int32.toNatClampNeg 2) (some a2_8)) (Int32.toNatClampNeg 3) (some a2_9)) (Int32.toNatClampNeg 4) (some a2_10)) (Int32.toNatClampNeg 5) (some a2_11)) (Int32.toNatClampNeg 6) (some a2_12)) (Int32.toNatClampNeg 7) (some a2_13))))))) (a' := (8, .inr (.inr (.inr (.inr (fun i => some (([z1, a2_0, a2_1, a2_2, a2_3, a2_4, a2_5, a2_6, a2_7, a2_8, a2_9, a2_10, a2_11, a2_12, a2_13, z3, a4_0, a4_1, a4_2, a4_3, a4_4, a4_5, a4_6, a4_7, a4_8, a4_9, a4_10, a4_11, a4_12, a4_13, z5, a6_0, a6_1, a6_2, a6_3, a6_4, a6_5, a6_6, a6_7, a6_8, a6_9, a6_10, a6_11, a6_12, a6_13, z7, a8_0, z9, a10_0, a10_1, a10_2, a10_3, z11, a12_0, a12_1, z13, a14_0, a14_1, z15, z, z17, z18] : List Nat).getD (7 + i) 0))))))) rfl (cellQ (fun i hi => by rcases (by omega : i = 0 ∨ i = 1 ∨ i = 2 ∨ i = 3 ∨ i = 4 ∨ i = 5 ∨ i = 6 ∨ i = 7) with rfl | rfl | rfl | rfl | rfl | rfl | rfl | rfl <;> rfl))
    have h4 := pgSet h3 21 (q := a4_5) (c := g.2.2.2) (a := (8, .inr (.inr (.inr (.inr (va_up (va_up (va_up (va_up (va_up (va_up (va_up (va_up (fun _ => none) (Int32.toNatClampNeg 0) (some a4_6)) (Int32.toNatClampNeg 1) (some a4_7)) (Int32.toNatClampNeg 2) (some a4_8)) (Int32.toNatClampNeg 3) (some a4_9)) (Int32.toNatClampNeg 4) (some a4_10)) (Int32.toNatClampNeg 5) (some a4_11)) (Int32.toNatClampNeg 6) (some a4_12)) (Int32.toNatClampNeg 7) (some a4_13))))))) (a' := (8, .inr (.inr (.inr (.inr (fun i => some (([z1, a2_0, a2_1, a2_2, a2_3, a2_4, a2_5, a2_6, a2_7, a2_8, a2_9, a2_10, a2_11, a2_12, a2_13, z3, a4_0, a4_1, a4_2, a4_3, a4_4, a4_5, a4_6, a4_7, a4_8, a4_9, a4_10, a4_11, a4_12, a4_13, z5, a6_0, a6_1, a6_2, a6_3, a6_4, a6_5, a6_6, a6_7, a6_8, a6_9, a6_10, a6_11, a6_12, a6_13, z7, a8_0, z9, a10_0, a10_1, a10_2, a10_3, z11, a12_0, a12_1, z13, a14_0, a14_1, z15, z, z17, z18] : List Nat).getD (22 + i) 0))))))) rfl (cellQ (fun i hi => by rcases (by omega : i = 0 ∨ i = 1 ∨ i = 2 ∨ i = 3 ∨ i = 4 ∨ i = 5 ∨ i = 6 ∨ i = 7) with rfl | rfl | rfl | rfl | rfl | rfl | rfl | rfl <;> rfl))
    have h5 := pgSet h4 36 (q := a6_5) (c := g.2.2.2) (a := (8, .inr (.inr (.inr (.inr (va_up (va_up (va_up (va_up (va_up (va_up (va_up (va_up (fun _ => none) (Int32.toNatClampNeg 0) (some a6_6)) (Int32.toNatClampNeg 1) (some a6_7)) (Int32.toNatClampNeg 2) (some a6_8)) (Int32.toNatClampNeg 3) (some a6_9)) (Int32.toNatClampNeg 4) (some a6_10)) (Int32.toNatClampNeg 5) (some a6_11)) (Int32.toNatClampNeg 6) (some a6_12)) (Int32.toNatClampNeg 7) (some a6_13))))))) (a' := (8, .inr (.inr (.inr (.inr (fun i => some (([z1, a2_0, a2_1, a2_2, a2_3, a2_4, a2_5, a2_6, a2_7, a2_8, a2_9, a2_10, a2_11, a2_12, a2_13, z3, a4_0, a4_1, a4_2, a4_3, a4_4, a4_5, a4_6, a4_7, a4_8, a4_9, a4_10, a4_11, a4_12, a4_13, z5, a6_0, a6_1, a6_2, a6_3, a6_4, a6_5, a6_6, a6_7, a6_8, a6_9, a6_10, a6_11, a6_12, a6_13, z7, a8_0, z9, a10_0, a10_1, a10_2, a10_3, z11, a12_0, a12_1, z13, a14_0, a14_1, z15, z, z17, z18] : List Nat).getD (37 + i) 0))))))) rfl (cellQ (fun i hi => by rcases (by omega : i = 0 ∨ i = 1 ∨ i = 2 ∨ i = 3 ∨ i = 4 ∨ i = 5 ∨ i = 6 ∨ i = 7) with rfl | rfl | rfl | rfl | rfl | rfl | rfl | rfl <;> rfl))
    exact h5
  · have h2 := hD.sub (ws' := [(z1, .inr (1, [.ref a2_0, .ref a2_1, .ref a2_2, .ref a2_3, .ref a2_4, .ref a2_5, .int 0, .int 0, .int 0])), (a2_0, .inl (g.2.1, 8, .inl (upd (upd (upd (upd (upd (upd (upd (upd (fun _ => 0) (Int32.toNatClampNeg 0) 10) (Int32.toNatClampNeg 1) 0) (Int32.toNatClampNeg 2) 0) (Int32.toNatClampNeg 3) 0) (Int32.toNatClampNeg 4) 99) (Int32.toNatClampNeg 5) 10) (Int32.toNatClampNeg 6) 99) (Int32.toNatClampNeg 7) 10))), (a2_1, .inl (g.2.1, 8, .inl (fun _ => 0))), (a2_2, .inl (g.2.1, 8, .inl (fun _ => 0))), (a2_3, .inl (g.2.1, 6, .inl (fun _ => 0))), (a2_4, .inl (g.2.1, 6, .inl (fun _ => 0))), (a2_5, .inl (g.2.2.2, 8, .inr (.inr (.inr (.inr (va_up (va_up (va_up (va_up (va_up (va_up (va_up (va_up (fun _ => none) (Int32.toNatClampNeg 0) (some a2_6)) (Int32.toNatClampNeg 1) (some a2_7)) (Int32.toNatClampNeg 2) (some a2_8)) (Int32.toNatClampNeg 3) (some a2_9)) (Int32.toNatClampNeg 4) (some a2_10)) (Int32.toNatClampNeg 5) (some a2_11)) (Int32.toNatClampNeg 6) (some a2_12)) (Int32.toNatClampNeg 7) (some a2_13))))))), (a2_6, .inr (4, [.int 0, .int 0, .int 0, .int 0])), (a2_7, .inr (4, [.int 0, .int 0, .int 0, .int 0])), (a2_8, .inr (4, [.int 0, .int 0, .int 0, .int 0])), (a2_9, .inr (4, [.int 0, .int 0, .int 0, .int 0])), (a2_10, .inr (4, [.int 0, .int 0, .int 0, .int 0])), (a2_11, .inr (4, [.int 0, .int 0, .int 0, .int 0])), (a2_12, .inr (4, [.int 0, .int 0, .int 0, .int 0])), (a2_13, .inr (4, [.int 0, .int 0, .int 0, .int 0])), (z3, .inr (1, [.ref a4_0, .ref a4_1, .ref a4_2, .ref a4_3, .ref a4_4, .ref a4_5, .int 0, .int 0, .int 0])), (a4_0, .inl (g.2.1, 8, .inl (upd (upd (upd (upd (upd (upd (upd (upd (fun _ => 0) (Int32.toNatClampNeg 0) 10) (Int32.toNatClampNeg 1) 0) (Int32.toNatClampNeg 2) 0) (Int32.toNatClampNeg 3) 0) (Int32.toNatClampNeg 4) 99) (Int32.toNatClampNeg 5) 10) (Int32.toNatClampNeg 6) 99) (Int32.toNatClampNeg 7) 10))), (a4_1, .inl (g.2.1, 8, .inl (fun _ => 0))), (a4_2, .inl (g.2.1, 8, .inl (fun _ => 0))), (a4_3, .inl (g.2.1, 6, .inl (fun _ => 0))), (a4_4, .inl (g.2.1, 6, .inl (fun _ => 0))), (a4_5, .inl (g.2.2.2, 8, .inr (.inr (.inr (.inr (va_up (va_up (va_up (va_up (va_up (va_up (va_up (va_up (fun _ => none) (Int32.toNatClampNeg 0) (some a4_6)) (Int32.toNatClampNeg 1) (some a4_7)) (Int32.toNatClampNeg 2) (some a4_8)) (Int32.toNatClampNeg 3) (some a4_9)) (Int32.toNatClampNeg 4) (some a4_10)) (Int32.toNatClampNeg 5) (some a4_11)) (Int32.toNatClampNeg 6) (some a4_12)) (Int32.toNatClampNeg 7) (some a4_13))))))), (a4_6, .inr (4, [.int 0, .int 0, .int 0, .int 0])), (a4_7, .inr (4, [.int 0, .int 0, .int 0, .int 0])), (a4_8, .inr (4, [.int 0, .int 0, .int 0, .int 0])), (a4_9, .inr (4, [.int 0, .int 0, .int 0, .int 0])), (a4_10, .inr (4, [.int 0, .int 0, .int 0, .int 0])), (a4_11, .inr (4, [.int 0, .int 0, .int 0, .int 0])), (a4_12, .inr (4, [.int 0, .int 0, .int 0, .int 0])), (a4_13, .inr (4, [.int 0, .int 0, .int 0, .int 0])), (z5, .inr (1, [.ref a6_0, .ref a6_1, .ref a6_2, .ref a6_3, .ref a6_4, .ref a6_5, .int 0, .int 0, .int 0])), (a6_0, .inl (g.2.1, 8, .inl (upd (upd (upd (upd (upd (upd (upd (upd (fun _ => 0) (Int32.toNatClampNeg 0) 10) (Int32.toNatClampNeg 1) 0) (Int32.toNatClampNeg 2) 0) (Int32.toNatClampNeg 3) 0) (Int32.toNatClampNeg 4) 99) (Int32.toNatClampNeg 5) 10) (Int32.toNatClampNeg 6) 99) (Int32.toNatClampNeg 7) 10))), (a6_1, .inl (g.2.1, 8, .inl (fun _ => 0))), (a6_2, .inl (g.2.1, 8, .inl (fun _ => 0))), (a6_3, .inl (g.2.1, 6, .inl (fun _ => 0))), (a6_4, .inl (g.2.1, 6, .inl (fun _ => 0))), (a6_5, .inl (g.2.2.2, 8, .inr (.inr (.inr (.inr (va_up (va_up (va_up (va_up (va_up (va_up (va_up (va_up (fun _ => none) (Int32.toNatClampNeg 0) (some a6_6)) (Int32.toNatClampNeg 1) (some a6_7)) (Int32.toNatClampNeg 2) (some a6_8)) (Int32.toNatClampNeg 3) (some a6_9)) (Int32.toNatClampNeg 4) (some a6_10)) (Int32.toNatClampNeg 5) (some a6_11)) (Int32.toNatClampNeg 6) (some a6_12)) (Int32.toNatClampNeg 7) (some a6_13))))))), (a6_6, .inr (4, [.int 0, .int 0, .int 0, .int 0])), (a6_7, .inr (4, [.int 0, .int 0, .int 0, .int 0])), (a6_8, .inr (4, [.int 0, .int 0, .int 0, .int 0])), (a6_9, .inr (4, [.int 0, .int 0, .int 0, .int 0])), (a6_10, .inr (4, [.int 0, .int 0, .int 0, .int 0])), (a6_11, .inr (4, [.int 0, .int 0, .int 0, .int 0])), (a6_12, .inr (4, [.int 0, .int 0, .int 0, .int 0])), (a6_13, .inr (4, [.int 0, .int 0, .int 0, .int 0])), (z7, .inr (5, [.ref a8_0, .int 0, .int 0])), (a8_0, .inl (g.2.1, 64, .inl (fun _ => 0))), (z9, .inr (3, [.ref z1, .ref a10_0, .ref a10_1, .ref a10_2, .ref a10_3, .int 0, .int 0, .int 0, .int 0, .long 0])), (a10_0, .inl (g.2.1, 9, .inl (fun _ => 0))), (a10_1, .inl (g.2.1, 8, .inl (fun _ => 0))), (a10_2, .inl (g.2.1, 8, .inl (fun _ => 0))), (a10_3, .inl (g.2.1, 72, .inl (fun _ => 0))), (z11, .inr (2, [.ref a12_0, .ref a12_1])), (a12_0, .inl (g.2.2.1, 21, .inr (.inl (fun _ => 0)))), (a12_1, .inl (g.2.2.1, 21, .inr (.inl (fun _ => 0)))), (z13, .inr (0, [.ref a14_0, .ref a14_1, .int 0])), (a14_0, .inl (g.2.2.1, 40, .inr (.inl (fun _ => 0)))), (a14_1, .inl (g.2.2.1, 44, .inr (.inl (fun _ => 0)))), (z15, .inr (4, [.int 0, .int 0, .int 0, .int 0])), (z, .inr (6, [.ref z1, .ref z3, .ref z5, .ref z7, .ref z9, .ref z11, .ref z13, .ref z15, .ref z17, .ref z18, .int 0, .int 0])), (z17, .inl (g.2.1, 16, .inl (fun _ => 0))), (z18, .inl (g.2.1, 6, .inl (fun _ => 0)))]) [1, 2, 3, 4, 5, 6, 7, 8, 9, 10, 11, 12, 13, 14, 15, 16, 17, 18, 19, 20, 21, 22, 23, 24, 25, 26, 27, 28, 29, 30, 31, 32, 33, 34, 35, 36, 37, 38, 39, 40, 41, 42, 43, 44, 45, 46, 47, 48, 49, 50, 51, 52, 53, 54, 55, 56, 57, 58, 59, 0, 60, 61] (by decide) rfl
    exact va_D_addr h2 rfl
set_option maxRecDepth 100000 in
set_option maxHeartbeats 4000000 in
theorem x8W {g : Gx} {z : Nat} (u : Nat × Nat × Nat × Nat × Nat × Nat × Nat × Nat × Nat × Nat × Nat × Nat × Nat × Nat × Nat × Nat × Nat × Nat × Nat × Nat × Nat) : ∃ bd : Nat → Nat, bd 0 = z ∧ wf_X8_init g z u = mW bd g M0 N0 := by
  obtain ⟨z1, z2, z3, z4, z5, z6, z7, z8, z9, z10, z11, z12, z13, z14, z15, z16, z17, z18, z19, z20, z21⟩ := u
  exact ⟨fun i => ([z, z1, z2, z3, z4, z5, z6, z7, z8, z9, z10, z11, z12, z13, z14, z15, z16, z17, z18, z19, z20, z21] : List Nat).getD i 0, rfl, rfl⟩
theorem apartW {ad bd : Nat → Nat} {g : Gx} {I M : SI} {J N : SJ} (h : ∀ (i j : Nat) (p q : Nat × va_E), (xW ad g I J)[i]? = some p → (mW bd g M N)[j]? = some q → p.1 ≠ q.1) : Apart ad bd := fun i j hi hj => by
  have h1 : ((xW ad g I J).map (fun q => q.1))[i]? = some (ad i) := by
    rw [show (xW ad g I J).map (fun q => q.1) = (List.range 62).map ad from rfl, List.getElem?_map, List.getElem?_range hi]
    rfl
  have h2 : ((mW bd g M N).map (fun q => q.1))[j]? = some (bd j) := by
    rw [show (mW bd g M N).map (fun q => q.1) = (List.range 22).map bd from rfl, List.getElem?_map, List.getElem?_range hj]
    rfl
  rw [List.getElem?_map] at h1 h2
  cases e1 : (xW ad g I J)[i]? with
  | none => rw [e1] at h1; cases h1
  | some p =>
    cases e2 : (mW bd g M N)[j]? with
    | none => rw [e2] at h2; cases h2
    | some q =>
      rw [e1] at h1
      rw [e2] at h2
      have k1 : p.1 = ad i := Option.some.inj h1
      have k2 : q.1 = bd j := Option.some.inj h2
      rw [← k1, ← k2]
      exact h i j p q e1 e2
def a00 : NN
  | 0, 0 => 10
  | 0, 4 => 99
  | 0, 5 => 10
  | 0, 6 => 99
  | 0, 7 => 10
  | _, _ => 0
theorem Rl0 : Rl I0 J0 M0 N0 := by
  refine ⟨a00, 0, 0, 0, 0, fun _ => 0, 0, ⟨⟨by omega, by omega, fun k hk => ?_, fun k hk => absurd hk (by omega), fun k hk => absurd hk (by omega), by show 0 ≤ 100; omega⟩, by omega, by omega, fun i hi => absurd hi (by omega)⟩, ⟨⟨fun k hk => ?_, fun k hk => absurd hk (by omega), fun k hk => absurd hk (by omega), rfl, rfl⟩, fun i hi => absurd hi (by omega), rfl⟩, ⟨⟨fun k hk => ?_, fun k hk => absurd hk (by omega), fun k hk => absurd hk (by omega), rfl, rfl⟩, fun i hi => absurd hi (by omega), rfl⟩, ⟨by omega, rfl, rfl, fun k hk => absurd hk (by omega)⟩, ⟨by omega, rfl, rfl, fun k hk => absurd hk (by omega)⟩, fun k hk => ?_, fun k hk => ?_, Or.inl ⟨rfl, rfl⟩, rfl⟩
  · rcases (by omega : k = 0 ∨ k = 1 ∨ k = 2 ∨ k = 3 ∨ k = 4 ∨ k = 5 ∨ k = 6 ∨ k = 7) with rfl | rfl | rfl | rfl | rfl | rfl | rfl | rfl <;> decide
  · rcases (by omega : k = 0 ∨ k = 1 ∨ k = 2 ∨ k = 3 ∨ k = 4 ∨ k = 5 ∨ k = 6 ∨ k = 7) with rfl | rfl | rfl | rfl | rfl | rfl | rfl | rfl <;> decide
  · rcases (by omega : k = 0 ∨ k = 1 ∨ k = 2 ∨ k = 3 ∨ k = 4 ∨ k = 5 ∨ k = 6 ∨ k = 7) with rfl | rfl | rfl | rfl | rfl | rfl | rfl | rfl <;> decide
  · rcases (by omega : k = 0 ∨ k = 1 ∨ k = 2 ∨ k = 3 ∨ k = 4 ∨ k = 5) with rfl | rfl | rfl | rfl | rfl | rfl <;> decide
  · rcases (by omega : k = 0 ∨ k = 1 ∨ k = 2 ∨ k = 3 ∨ k = 4 ∨ k = 5 ∨ k = 6 ∨ k = 7) with rfl | rfl | rfl | rfl | rfl | rfl | rfl | rfl <;> decide
theorem stepsAll : Steps_ Rl := ⟨st0, st1, st2, st3, st4, st5, st6, st7, st8, st9, st10, st11, st12, st13, st14, st15, st16, st17, st18, st19, st20, st21, st22, st23, st24, st25, st26, st27, st28, st29, st30, st31⟩
def gDv (c0 c1 c2 c3 c4 c5 c6 c7 : ClassId) : Nat → ClassId := fun k => if k = 0 then c0 else if k = 1 then c1 else if k = 2 then c2 else if k = 3 then c3 else if k = 4 then c4 else if k = 5 then c5 else if k = 6 then c6 else c7
def gIv (c0 c1 c2 c3 c4 c5 c6 c7 : Nat → Nat) : Nat → Nat → Nat := fun k => if k = 0 then c0 else if k = 1 then c1 else if k = 2 then c2 else if k = 3 then c3 else if k = 4 then c4 else if k = 5 then c5 else if k = 6 then c6 else c7
theorem kgAll {s : State} {args : Array Value} (hts : ∀ w ∈ BG, w.before args s = true) (hO : va_AO RX5 s) : ∃ g : Gx, Kg g s := by
  obtain ⟨c0, i0, k0⟩ := u_known hts inBX0 (hts _ in_X0)
  obtain ⟨c1, i1, k1⟩ := u_known hts inBX1 (hts _ in_X1)
  obtain ⟨c2, i2, k2⟩ := u_known hts inBX3 (hts _ in_X3)
  obtain ⟨c3, i3, k3⟩ := u_known hts inBX4 (hts _ in_X4)
  obtain ⟨c4, i4, k4⟩ := u_known hts inBX5 (hts _ in_X5)
  obtain ⟨c5, i5, k5⟩ := u_known hts inBX6 (hts _ in_X6)
  obtain ⟨c6, i6, k6⟩ := u_known hts inBX7 (hts _ in_X7)
  obtain ⟨c7, i7, k7⟩ := u_known hts inBX8 (hts _ in_X8)
  obtain ⟨d1, kd1, e1, f1, g1, h1⟩ := Cond.arrayClass_spec (hts _ ac_int)
  obtain ⟨d2, kd2, e2, f2, g2, h2⟩ := Cond.arrayClass_spec (hts _ ac_long)
  obtain ⟨e3, d3, kd3, f3, -, g3, h3, j3⟩ := Cond.arrayOver_spec hO
  refine ⟨((gDv c0 c1 c2 c3 c4 c5 c6 c7, gIv i0 i1 i2 i3 i4 i5 i6 i7), d1, d2, d3), fun c q hq => ?_, fun k q hq => ?_⟩
  · have hc : c < 8 := (List.getElem?_eq_some_iff.mp hq).1
    rcases (by omega : c = 0 ∨ c = 1 ∨ c = 2 ∨ c = 3 ∨ c = 4 ∨ c = 5 ∨ c = 6 ∨ c = 7) with rfl | rfl | rfl | rfl | rfl | rfl | rfl | rfl
    · obtain rfl := Option.some.inj (show some (RX0, TX0, 3) = some q from hq); exact k0
    · obtain rfl := Option.some.inj (show some (RX1, TX1, 9) = some q from hq); exact k1
    · obtain rfl := Option.some.inj (show some (RX3, TX3, 2) = some q from hq); exact k2
    · obtain rfl := Option.some.inj (show some (RX4, TX4, 10) = some q from hq); exact k3
    · obtain rfl := Option.some.inj (show some (RX5, TX5, 4) = some q from hq); exact k4
    · obtain rfl := Option.some.inj (show some (RX6, TX6, 3) = some q from hq); exact k5
    · obtain rfl := Option.some.inj (show some (RX7, TX7, 12) = some q from hq); exact k6
    · obtain rfl := Option.some.inj (show some (RX8, TX8, 41) = some q from hq); exact k7
  · have hk : k < 3 := (List.getElem?_eq_some_iff.mp hq).1
    rcases (by omega : k = 0 ∨ k = 1 ∨ k = 2) with rfl | rfl | rfl
    · obtain rfl := Option.some.inj (show some (d1, FieldType.int) = some q from hq)
      exact ⟨fun N z => ⟨(fun k h => by cases h), kd1, g1, e1, h1⟩, f1⟩
    · obtain rfl := Option.some.inj (show some (d2, FieldType.long) = some q from hq)
      exact ⟨fun N z => ⟨(fun k h => by cases h), kd2, g2, e2, h2⟩, f2⟩
    · obtain rfl := Option.some.inj (show some (d3, FieldType.object RX5) = some q from hq)
      exact ⟨fun N z => ⟨(fun k h => by cases h), kd3, g3, e3, h3⟩, ⟨kd3, e3, g3, h3, f3, j3⟩⟩
theorem zmAll {s : State} {args : Array Value} (hts : ∀ w ∈ lw_tbl, w.before args s = true) (hgv : (Jvm.Cond.and given_1 narrow_1).before args s = true) : ∃ qm : Nat, ZM qm (fun q : Nat => s.heap.size ≤ q) s := by
  have hs := flat_of_before _ hgv
  have hA : ∀ a : Nat, a < s.heap.size → ¬ s.heap.size ≤ a := fun a h => Nat.not_le.mpr h
  have harr : (Cond.arrayOf (Term.static "HalfOrNine$Estate" "MOST" "[I") .int).before args s = true := hs _ (by decide +kernel)
  have hlen : (Cond.eq (Term.length (Term.static "HalfOrNine$Estate" "MOST" "[I")) (.int 8)).before args s = true := hs _ (by decide +kernel)
  have h0 : (Cond.eq (Term.elem (Term.static "HalfOrNine$Estate" "MOST" "[I") (.int 0)) (.int 99)).before args s = true := hs _ (by decide +kernel)
  have h1 : (Cond.eq (Term.elem (Term.static "HalfOrNine$Estate" "MOST" "[I") (.int 1)) (.int 999)).before args s = true := hs _ (by decide +kernel)
  have h2 : (Cond.eq (Term.elem (Term.static "HalfOrNine$Estate" "MOST" "[I") (.int 2)) (.int 99)).before args s = true := hs _ (by decide +kernel)
  have h3 : (Cond.eq (Term.elem (Term.static "HalfOrNine$Estate" "MOST" "[I") (.int 3)) (.int 1)).before args s = true := hs _ (by decide +kernel)
  have h4 : (Cond.eq (Term.elem (Term.static "HalfOrNine$Estate" "MOST" "[I") (.int 4)) (.int 99)).before args s = true := hs _ (by decide +kernel)
  have h5 : (Cond.eq (Term.elem (Term.static "HalfOrNine$Estate" "MOST" "[I") (.int 5)) (.int 10)).before args s = true := hs _ (by decide +kernel)
  have h6 : (Cond.eq (Term.elem (Term.static "HalfOrNine$Estate" "MOST" "[I") (.int 6)) (.int 99)).before args s = true := hs _ (by decide +kernel)
  have h7 : (Cond.eq (Term.elem (Term.static "HalfOrNine$Estate" "MOST" "[I") (.int 7)) (.int 10)).before args s = true := hs _ (by decide +kernel)
  obtain ⟨t, ht, hT⟩ := va_Tof (A := fun q : Nat => s.heap.size ≤ q) (N := 8) (f := fun j => .int (mostF j)) (by omega) harr (va_eqt hlen) (fun j hj => by
    rcases (by omega : j = 0 ∨ j = 1 ∨ j = 2 ∨ j = 3 ∨ j = 4 ∨ j = 5 ∨ j = 6 ∨ j = 7) with rfl | rfl | rfl | rfl | rfl | rfl | rfl | rfl
    · exact va_eqt h0
    · exact va_eqt h1
    · exact va_eqt h2
    · exact va_eqt h3
    · exact va_eqt h4
    · exact va_eqt h5
    · exact va_eqt h6
    · exact va_eqt h7) hA
  have hl : (Cond.laysStatic "HalfOrNine$Estate" "MOST" "[I").before args s = true := hts _ (List.mem_append_right _ (List.mem_append_right _ (List.mem_append_left _ (List.mem_of_getElem? (i := 71) (by decide +kernel)))))
  have hi : (Cond.initialized "HalfOrNine$Estate").before args s = true := hts _ (bg_lw _ ini_X1)
  exact ⟨t, va_Zof hl hi ht hA, hT⟩
set_option maxHeartbeats 4000000 in
set_option maxRecDepth 100000 in
theorem whole_start {p : Program} {e : Env} {s : State} {m : MethodId} {below : List Frame} {meth : Method} {c : Code} (l : Launch) (hflags : l.flags = flags0) {b L : Nat} {xs : Nat → Int32} (hL : L ≤ 4096) (C0 : lw_At p s m meth c b L xs) : W p l e room_1 s m #[Value.ref b] below meth c s.heap [] 0 0 (lw_Z below #[Value.ref b] s) (entryFrame m ([Value.ref b] : List Value).toArray 4) := by
  obtain ⟨hx, hb, hr, hml, hown, hts, hX, hbl, hlocks, hgv⟩ := C0
  have htb : ∀ w ∈ BG, w.before #[Value.ref b] s = true := fun w hw => hts w (bg_lw w hw)
  have hC : CallFix p m c code 4 s #[Value.ref b] BG RL := ⟨hx, hb, hml, hown, htb⟩
  have hO : va_AO RX5 s := va_AO.of (hts (Cond.arrayOver (.object "HalfOrNine$Term")) (List.mem_append_right _ (List.mem_append_left _ (List.mem_of_getElem? (i := 26) (by decide +kernel)))))
  obtain ⟨g, hK⟩ := kgAll htb hO
  obtain ⟨qm, hZ⟩ := zmAll hts hgv
  have hP0 : Pg g [] s.heap := fun k q h => by cases h
  have hD0 : va_D (fun q : Nat => s.heap.size ≤ q) [] := ⟨fun i j p q h _ _ => (by cases h), fun k q h => (by cases h)⟩
  have hA : ∀ q : Nat, s.heap.size ≤ q → (fun q : Nat => s.heap.size ≤ q) q := fun q h => h
  have hl := lv_entry [Value.ref b] (n := 4) (Nat.le_of_ble_eq_true rfl)
  rw [lg_entry_eq]
  generalize hls : ((lg_sl [Value.ref b] ++ List.replicate (4 - (lg_sl [Value.ref b]).length) Slot.unset).toArray) = ls at hl
  replace hl : lv_has ls 4 [(0, .ref b)] := hl
  refine va_new (ci := 6) (fs := [.null, .null, .null, .null, .null, .null, .null, .null, .null, .null, .int 0, .int 0]) (C := RX7) (T := TX7) (N := 12) hx hb htb inBX7 tyX7 tyX7_ok hown (htb _ cl_L_7) (htb _ in_X7) (htb _ ini_X7) hK hP0 hD0 va_S.rf hA rfl (fun j hj => by rcases (show j = 0 ∨ j = 1 ∨ j = 2 ∨ j = 3 ∨ j = 4 ∨ j = 5 ∨ j = 6 ∨ j = 7 ∨ j = 8 ∨ j = 9 ∨ j = 10 ∨ j = 11 by omega) with rfl | rfl | rfl | rfl | rfl | rfl | rfl | rfl | rfl | rfl | rfl | rfl <;> rfl) (Nat.le_of_ble_eq_true rfl) (Nat.le_of_ble_eq_true rfl) dL_law_0 (fun z H hP hD hS => ?_)
  replace hP : Pg g [(z, .inr (6, [.null, .null, .null, .null, .null, .null, .null, .null, .null, .null, .int 0, .int 0]))] H := hP
  replace hD : va_D (fun q : Nat => s.heap.size ≤ q) [(z, .inr (6, [.null, .null, .null, .null, .null, .null, .null, .null, .null, .null, .int 0, .int 0]))] := hD
  refine W.widen (k := 1) (n := 12) (by decide) (by decide) ?_
  refine lv_dup hx hb dL_law_3 rfl ?_
  refine callCI (As := []) (rest := [.ref z]) (wc := [(z, .inr (6, [.null, .null, .null, .null, .null, .null, .null, .null, .null, .null, .int 0, .int 0]))]) (wr := []) hC (c_X7_init l g z H.size) li_L_9 rfl rfl ⟨Nat.le_of_ble_eq_true rfl, Nat.le_of_ble_eq_true rfl⟩ ⟨Nat.le_of_ble_eq_true rfl, Nat.le_of_ble_eq_true rfl⟩ hP hK hO hD hA hS [0] [] rfl rfl rfl (by decide) (by decide) (by decide) rfl rfl hl (Nat.le_of_ble_eq_true rfl) dL_law_4 (fun u H locs _ hP hD hS => ?_)
  obtain ⟨ad, had, hPx, hDx'⟩ := x7W u hP
  have hDx := hDx' _ hD
  refine W.widen (k := 62) (n := 598) (by decide) (by decide) ?_
  refine lv_astore_n (i := 1) (lv' := [(1, .ref z), (0, .ref b)]) hx hb dL_law_7 rfl hl (by decide) rfl (fun ls hl => ?_)
  refine va_new (ci := 7) (fs := [.null, .null, .null, .null, .null, .null, .null, .int 0, .int 0, .null, .null, .null, .null, .null, .int 0, .int 0, .int 0, .null, .null, .null, .null, .int 0, .int 0, .int 0, .int 0, .int 0, .int 0, .int 0, .long 0, .null, .null, .null, .int 0, .int 0, .int 0, .null, .int 0, .null, .int 0, .int 0, .int 0]) (C := RX8) (T := TX8) (N := 41) hx hb htb inBX8 tyX8 tyX8_ok hown (htb _ cl_L_10) (htb _ in_X8) (htb _ ini_X8) hK hPx hDx hS hA rfl (fun j hj => by rcases (show j = 0 ∨ j = 1 ∨ j = 2 ∨ j = 3 ∨ j = 4 ∨ j = 5 ∨ j = 6 ∨ j = 7 ∨ j = 8 ∨ j = 9 ∨ j = 10 ∨ j = 11 ∨ j = 12 ∨ j = 13 ∨ j = 14 ∨ j = 15 ∨ j = 16 ∨ j = 17 ∨ j = 18 ∨ j = 19 ∨ j = 20 ∨ j = 21 ∨ j = 22 ∨ j = 23 ∨ j = 24 ∨ j = 25 ∨ j = 26 ∨ j = 27 ∨ j = 28 ∨ j = 29 ∨ j = 30 ∨ j = 31 ∨ j = 32 ∨ j = 33 ∨ j = 34 ∨ j = 35 ∨ j = 36 ∨ j = 37 ∨ j = 38 ∨ j = 39 ∨ j = 40 by omega) with rfl | rfl | rfl | rfl | rfl | rfl | rfl | rfl | rfl | rfl | rfl | rfl | rfl | rfl | rfl | rfl | rfl | rfl | rfl | rfl | rfl | rfl | rfl | rfl | rfl | rfl | rfl | rfl | rfl | rfl | rfl | rfl | rfl | rfl | rfl | rfl | rfl | rfl | rfl | rfl | rfl <;> rfl) (Nat.le_of_ble_eq_true rfl) (Nat.le_of_ble_eq_true rfl) dL_law_8 (fun w H hP hD hS => ?_)
  refine W.widen (k := 63) (n := 639) (by decide) (by decide) ?_
  refine lv_dup hx hb dL_law_11 rfl ?_
  refine callCI (As := []) (rest := [.ref w]) (wc := [(w, .inr (7, [.null, .null, .null, .null, .null, .null, .null, .int 0, .int 0, .null, .null, .null, .null, .null, .int 0, .int 0, .int 0, .null, .null, .null, .null, .int 0, .int 0, .int 0, .int 0, .int 0, .int 0, .int 0, .long 0, .null, .null, .null, .int 0, .int 0, .int 0, .null, .int 0, .null, .int 0, .int 0, .int 0]))]) (wr := xW ad g I0 J0) hC (c_X8_init l g w H.size) li_L_12 rfl rfl ⟨Nat.le_of_ble_eq_true rfl, Nat.le_of_ble_eq_true rfl⟩ ⟨Nat.le_of_ble_eq_true rfl, Nat.le_of_ble_eq_true rfl⟩ hP hK hO hD hA hS [62] (List.range 62) rfl rfl rfl (by decide) (by decide) (by decide) rfl rfl hl (Nat.le_of_ble_eq_true rfl) dL_law_12 (fun u H locs _ hP hD hS => ?_)
  obtain ⟨bd, hbd, hbe⟩ := x8W (g := g) (z := w) u
  rw [hbe] at hP hD
  have hap : Apart ad bd := apartW (fun i j p q h1 h2 => dgN hD h1 h2)
  refine W.widen (k := 84) (n := 1230) (by decide) (by decide) ?_
  refine lv_astore_n (i := 2) (lv' := [(2, .ref w), (1, .ref z), (0, .ref b)]) hx hb dL_law_15 rfl hl (by decide) rfl (fun ls hl => ?_)
  refine lv_iconst (v := 0) hx hb dL_law_16 (by decide) ?_
  refine lv_istore_n (i := 3) (lv' := [(3, .int 0), (2, .ref w), (1, .ref z), (0, .ref b)]) hx hb dL_law_17 rfl hl (by decide) rfl (fun ls hl => ?_)
  have hl' : lv_has ls 4 [(3, .int 0), (0, .ref b), (1, .ref (ad 59)), (2, .ref (bd 0))] := by
    rw [had, hbd]
    exact lv_sub hl [0, 3, 2, 1] rfl
  exact law_loop l hL hC hX hbl g ad bd qm hK hZ hap Rl stepsAll hr hlocks 513 0 0 I0 J0 M0 N0 H _ ls (by omega) rfl rfl Rl0 (pgL hP) (pgR hP) (dgL hD) (dgR hD) hS hl'
