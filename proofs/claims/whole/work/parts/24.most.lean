/-! ===== methods that look at the static row MOST ===== -/
def mostF (j : Nat) : Int32 := match j with
  | 0 => 99 | 1 => 999 | 2 => 99 | 3 => 1 | 4 => 99 | 5 => 10 | 6 => 99 | _ => 10
def ZM (qm : Nat) (A : Nat → Prop) (s : State) : Prop := va_Z "HalfOrNine$Estate" "MOST" "[I" (.ref qm) A s s.heap ∧ va_T .int qm 8 (fun j => .int (mostF j)) A s s.heap
theorem ZM.call {qm : Nat} {A B : Nat → Prop} {s U : State} {H : Heap} {locs : List Loc} (h : ZM qm A s) (hS : va_S A s.heap H locs) (hB : ∀ q, B q → A q) (hU : U.heap = H) (hv : s.vm.Alike U.vm) : ZM qm B U := by
  obtain ⟨⟨cf, kf, fi, f, a, cell, h1, h2, h3, h4, h5, h6, h7, h8⟩, ⟨cell2, g1, g2, g3, g4, g5, g6, g7⟩⟩ := h
  have l1 : a < s.heap.size := (Array.getElem?_eq_some_iff.mp h5).1
  have l2 : qm < s.heap.size := (Array.getElem?_eq_some_iff.mp g1).1
  have z : va_Z "HalfOrNine$Estate" "MOST" "[I" (.ref qm) B s H := ⟨cf, kf, fi, f, a, cell, h1, h2, h3, h4, by rw [hS.2.1 a l1 h8]; exact h5, h6, h7, fun q => h8 (hB a q)⟩
  have t : va_T .int qm 8 (fun j => .int (mostF j)) B s H := ⟨cell2, by rw [hS.2.1 qm l2 g7]; exact g1, g2, g3, g4, g5, g6, fun q => g7 (hB qm q)⟩
  rw [← hU] at z t
  exact ⟨z.moved hv, t.moved hv⟩
theorem ZM.al {qm : Nat} {A : Nat → Prop} {s U : State} (h : ZM qm A s) (hU : U.heap = s.heap) (hv : s.vm.Alike U.vm) : ZM qm A U := by
  obtain ⟨z, t⟩ := h
  rw [← hU] at z t
  exact ⟨z.moved hv, t.moved hv⟩
abbrev PcRM (as : List Value) (g : Gx) (ws : va_W) (qm : Nat) : Array Value → State → Prop := va_Pc as (fun U => Pg g ws U.heap ∧ Kg g U ∧ ZM qm (va_A ws U.heap.size) U)
abbrev PcWM (as : List Value) (g : Gx) (ws : va_W) (sz qm : Nat) : Array Value → State → Prop := va_Pc as (fun U => U.heap.size = sz ∧ Pg g ws U.heap ∧ Kg g U ∧ va_D (fun _ => True) ws ∧ ZM qm (va_A ws sz) U)
section MKM
variable {l : Launch} {y : MethodName} {cc : ByteArray} {maxL : Nat} {rm : Room} {as : List Value} {g : Gx} {ws ws1 : va_W} {qm : Nat}
def BdM (l : Launch) (y : MethodName) (cc : ByteArray) (maxL : Nat) (rm : Room) (as : List Value) (g : Gx) (ws : va_W) (qm : Nat) (X : Program → Env → State → MethodId → Array Value → List Frame → Method → Code → Heap → List Loc → (State → Prop) → Prop) : Prop :=
  ∀ (p : Program) (e : Env) (s : State) (m : MethodId) (args : Array Value) (below : List Frame) (meth : Method) (c : Code) (H : Heap) (locs : List Loc) (ls : Array Slot) (A : Nat → Prop) (Q : State → Prop),
    CallFix p m c cc maxL s args BG y.cls → Kg g s → Pg g ws H → va_S A s.heap H locs → ZM qm A s → lv_has ls maxL (lv_args 0 as) → X p e s m args below meth c H locs Q → W p l e rm s m args below meth c H locs 0 0 Q (F0 m 0 ls [])
theorem mkRM0 {ret : Option FieldType} {r : Value} (hy : plainName y.cls = true) (hn : (lg_sl as).length ≤ maxL)
    (body : ∀ (p : Program) (e : Env) (s : State) (m : MethodId) (below : List Frame) (meth : Method) (c : Code) (ls : Array Slot), CallFix p m c cc maxL s as.toArray BG y.cls → meth.sig.returnType = ret → meth.locks = false → Kg g s → Pg g ws s.heap → ZM qm (va_A ws s.heap.size) s → lv_has ls maxL (lv_args 0 as) →
      W p l e rm s m as.toArray below meth c s.heap [] 0 0 (MQ below (k2_QcV r) as.toArray s 0 0 (fun _ => False)) (F0 m 0 ls [])) :
    Met l y (Cond.code y cc maxL ret :: BG) rm (PcRM as g ws qm) (k2_QcV r) 0 0 (fun _ => False) := by
  refine Met.ofW (cc := cc) (maxL := maxL) (ret := ret) hy rfl ?_
  intro p e s m args below meth c s₁ B hml hv
  obtain ⟨rfl, hP, hK, hZ⟩ := hv
  have hts := atoms_spec (ws := Cond.code y cc maxL ret :: BG) B.pre
  have hl := lv_entry as (n := maxL) hn
  rw [lg_entry_eq]
  exact body p e s m below meth c _ ⟨B.exec, B.bytes, hml, findClass_of_methodNamed B.named, fun w hw => hts w (List.mem_cons_of_mem _ hw)⟩ B.returns B.notSynchronized hK hP hZ hl
theorem mkRMi {r : Int32} (hy : plainName y.cls = true) (hn : (lg_sl as).length ≤ maxL)
    (body : BdM l y cc maxL rm as g ws qm (fun p e s m args below meth c H locs Q => ∀ (pc : Nat) (ls : Array Slot) (v : Int32), decode cc pc = .ok (.ireturn, 1) → v = r → W p l e rm s m args below meth c H locs 0 0 Q (F0 m pc ls [.int v]))) :
    Met l y (Cond.code y cc maxL (some .int) :: BG) rm (PcRM as g ws qm) (k2_QcV (.int r)) 0 0 (fun _ => False) := by
  refine mkRM0 hy hn fun p e s m below meth c ls hC hr hk hK hP hZ hl => body p e s m _ below meth c _ [] ls _ _ hC hK hP va_S.rf hZ hl fun pc ls v hd hv => ?_
  subst hv
  exact W.iret hC.1 hC.2.1 hr (fun t ht _ => ⟨rfl, ht⟩) (fun _ h => by cases h) hd hk
theorem mkRMz {r : Int32} (hy : plainName y.cls = true) (hn : (lg_sl as).length ≤ maxL)
    (body : BdM l y cc maxL rm as g ws qm (fun p e s m args below meth c H locs Q => ∀ (pc : Nat) (ls : Array Slot) (v : Int32), decode cc pc = .ok (.ireturn, 1) → narrow .boolean (.int v) = .int v → v = r → W p l e rm s m args below meth c H locs 0 0 Q (F0 m pc ls [.int v]))) :
    Met l y (Cond.code y cc maxL (some .boolean) :: BG) rm (PcRM as g ws qm) (k2_QcV (.int r)) 0 0 (fun _ => False) := by
  refine mkRM0 hy hn fun p e s m below meth c ls hC hr hk hK hP hZ hl => body p e s m _ below meth c _ [] ls _ _ hC hK hP va_S.rf hZ hl fun pc ls v hd hz hv => ?_
  subst hv
  exact W.zret hC.1 hC.2.1 hr hz (fun t ht _ => ⟨rfl, ht⟩) (fun _ h => by cases h) hd hk
def BdWM (l : Launch) (y : MethodName) (cc : ByteArray) (maxL : Nat) (rm : Room) (as : List Value) (g : Gx) (ws : va_W) (qm : Nat) (X : Program → Env → State → MethodId → Array Value → List Frame → Method → Code → (Nat → Prop) → (State → Prop) → Prop) : Prop :=
  ∀ (p : Program) (e : Env) (s : State) (m : MethodId) (args : Array Value) (below : List Frame) (meth : Method) (c : Code) (H : Heap) (locs : List Loc) (ls : Array Slot) (A : Nat → Prop) (Q : State → Prop),
    CallFix p m c cc maxL s args BG y.cls → Kg g s → Pg g ws H → va_D A ws → (∀ q : Nat, s.heap.size ≤ q → A q) → va_S A s.heap H locs → ZM qm A s → lv_has ls maxL (lv_args 0 as) → X p e s m args below meth c A Q → W p l e rm s m args below meth c H locs 0 0 Q (F0 m 0 ls [])
theorem mkWM0 {ret : Option FieldType} {sz : Nat} {Qc : Array Value → State → Outcome → State → Prop} (hy : plainName y.cls = true) (hn : (lg_sl as).length ≤ maxL)
    (body : ∀ (p : Program) (e : Env) (s : State) (m : MethodId) (below : List Frame) (meth : Method) (c : Code) (ls : Array Slot), CallFix p m c cc maxL s as.toArray BG y.cls → meth.sig.returnType = ret → meth.locks = false → Kg g s → Pg g ws s.heap → va_D (va_A ws sz) ws → (∀ q : Nat, s.heap.size ≤ q → va_A ws sz q) → va_S (va_A ws sz) s.heap s.heap [] → ZM qm (va_A ws sz) s → lv_has ls maxL (lv_args 0 as) →
      W p l e rm s m as.toArray below meth c s.heap [] 0 0 (MQ below Qc as.toArray s 0 0 (va_A ws sz)) (F0 m 0 ls [])) :
    Met l y (Cond.code y cc maxL ret :: BG) rm (PcWM as g ws sz qm) Qc 0 0 (va_A ws sz) := by
  refine Met.ofW (cc := cc) (maxL := maxL) (ret := ret) hy rfl ?_
  intro p e s m args below meth c s₁ B hml hv
  obtain ⟨rfl, hsz, hP, hK, hD0, hZ⟩ := hv
  have hts := atoms_spec (ws := Cond.code y cc maxL ret :: BG) B.pre
  have hl := lv_entry as (n := maxL) hn
  rw [lg_entry_eq]
  exact body p e s m below meth c _ ⟨B.exec, B.bytes, hml, findClass_of_methodNamed B.named, fun w hw => hts w (List.mem_cons_of_mem _ hw)⟩ B.returns B.notSynchronized hK hP hD0.self (fun q h => Or.inr (by rw [← hsz]; exact h)) va_S.rf hZ hl
theorem mkWMi {r : Int32} {sz : Nat} (hy : plainName y.cls = true) (hn : (lg_sl as).length ≤ maxL)
    (body : BdWM l y cc maxL rm as g ws qm (fun p e s m args below meth c A Q => ∀ (pc : Nat) (ls : Array Slot) (v : Int32) (H : Heap) (locs : List Loc), decode cc pc = .ok (.ireturn, 1) → v = r → Pg g ws1 H → va_D A ws1 → va_S A s.heap H locs → W p l e rm s m args below meth c H locs 0 0 Q (F0 m pc ls [.int v]))) :
    Met l y (Cond.code y cc maxL (some .int) :: BG) rm (PcWM as g ws sz qm) (QWi r g ws ws1 sz) 0 0 (va_A ws sz) := by
  refine mkWM0 hy hn fun p e s m below meth c ls hC hr hk hK hP hD hA hS hZ hl => body p e s m _ below meth c _ [] ls _ _ hC hK hP hD hA hS hZ hl fun pc ls v H locs hd hv hP hD hS => ?_
  exact W.iret hC.1 hC.2.1 hr (fun t ht hW => ⟨⟨v, (), rfl, hv, by rw [ht]; exact hP, va_K.moved hW.alike hK, hD⟩, hS.F ht⟩) hS.2.2 hd hk
theorem mkWMz {r : Int32} {sz : Nat} (hy : plainName y.cls = true) (hn : (lg_sl as).length ≤ maxL)
    (body : BdWM l y cc maxL rm as g ws qm (fun p e s m args below meth c A Q => ∀ (pc : Nat) (ls : Array Slot) (v : Int32) (H : Heap) (locs : List Loc), decode cc pc = .ok (.ireturn, 1) → narrow .boolean (.int v) = .int v → v = r → Pg g ws1 H → va_D A ws1 → va_S A s.heap H locs → W p l e rm s m args below meth c H locs 0 0 Q (F0 m pc ls [.int v]))) :
    Met l y (Cond.code y cc maxL (some .boolean) :: BG) rm (PcWM as g ws sz qm) (QWi r g ws ws1 sz) 0 0 (va_A ws sz) := by
  refine mkWM0 hy hn fun p e s m below meth c ls hC hr hk hK hP hD hA hS hZ hl => body p e s m _ below meth c _ [] ls _ _ hC hK hP hD hA hS hZ hl fun pc ls v H locs hd hz hv hP hD hS => ?_
  exact W.zret hC.1 hC.2.1 hr hz (fun t ht hW => ⟨⟨v, (), rfl, hv, by rw [ht]; exact hP, va_K.moved hW.alike hK, hD⟩, hS.F ht⟩) hS.2.2 hd hk
end MKM
section CLM
variable {p : Program} {l : Launch} {e : Env} {R : Room} {s : State} {m : MethodId} {args : Array Value} {below : List Frame} {meth : Method} {c : Code} {H : Heap} {locs : List Loc} {Q : State → Prop} {own C : String} {idx n nL maxL q0 ci N pc qm : Nat} {y : MethodName} {cc bytes : ByteArray} {ret : Option FieldType} {rm : Room} {g : Gx} {ws ws1 : va_W} {r : Value} {b : Nat} {As rest st0 fs : List Value} {T : u_T} {ls : Array Slot} {lv : List (Nat × Value)} {A : Nat → Prop}
theorem blRM {as : List Value} : FrameBlind (PcRM as g ws qm) := fun a U gg mk q => by
  obtain ⟨q0, qP, qK, qZ⟩ := q
  exact ⟨q0, qP, va_K.moved (u := U) (U := U.calling gg mk a) (Vm.Alike.refl U.vm) qK, ZM.al (U := U.calling gg mk a) qZ rfl (Vm.Alike.refl U.vm)⟩
theorem blWM {as : List Value} {sz : Nat} : FrameBlind (PcWM as g ws sz qm) := fun a U gg mk q => by
  obtain ⟨q0, q1, qP, qK, qD, qZ⟩ := q
  exact ⟨q0, q1, qP, va_K.moved (u := U) (U := U.calling gg mk a) (Vm.Alike.refl U.vm) qK, qD, ZM.al (U := U.calling gg mk a) qZ rfl (Vm.Alike.refl U.vm)⟩
theorem callRSM (hC : CallFix p m c cc nL s args BG own)
    (hM : Met l y (Cond.code y bytes maxL ret :: BG) rm (PcRM As g ws qm) (k2_QcV r) 0 0 (fun _ => False))
    (hL : LkS own idx y bytes maxL ret n) (hrc : rm.cells = 0) (hrs : rm.slots = 0) (hR : rm.frames + 1 ≤ R.frames ∧ 8 + (maxL + 11) + rm.locals ≤ R.locals)
    (hP : Pg g ws H) (hK : Kg g s) (hD : va_D A ws) (hA : ∀ q : Nat, s.heap.size ≤ q → A q) (hS : va_S A s.heap H locs) (hZ : ZM qm A s)
    (hn : As.length = n) (hst : st0 = As.reverse ++ rest) (hls : lv_has ls nL lv) (hroom : (rest.map fun v => v.category).sum ≤ 8)
    (hdg : decode cc pc = .ok (.invokestatic idx, 3))
    (k : W p l e R s m args below meth c H locs 0 0 Q (F0 m (pc + 3) ls (r :: rest))) : W p l e R s m args below meth c H locs 0 0 Q (F0 m pc ls st0) :=
  W.callV (W.runS hC hM (va_cwS n hC.2.2.2.2 hL.1 rfl hrc hrs hL.2 hR) ⟨blRM, fun U hU hW => ⟨rfl, by rw [hU]; exact hP, va_K.moved hW.alike hK, hZ.call hS (by rw [hU]; exact frA hD hS hA) hU hW.alike⟩⟩ rfl hn hls.1 hst (lv_room hroom) hdg ⟨Nat.zero_le _, Nat.zero_le _⟩) k
theorem callWVMi {r : Int32} (hC : CallFix p m c cc nL s args BG own)
    (hM : Met l y (Cond.code y bytes maxL ret :: BG) rm (PcWM (.ref b :: As) g ws H.size qm) (QWi r g ws ws1 H.size) 0 0 (va_A ws H.size))
    (hL : LkV own idx C y bytes maxL ret n) (hrc : rm.cells = 0) (hrs : rm.slots = 0) (hR : rm.frames + 1 ≤ R.frames ∧ 8 + (maxL + 11) + rm.locals ≤ R.locals)
    (hP : Pg g ws H) (hK : Kg g s) (hD : va_D A ws) (hA : ∀ q : Nat, s.heap.size ≤ q → A q) (hS : va_S A s.heap H locs) (hZ : ZM qm A s) (he : ws[q0]? = some (b, .inr (ci, fs))) (hc : classes[ci]? = some (C, T, N))
    (hn : As.length = n) (hst : st0 = As.reverse ++ .ref b :: rest) (hls : lv_has ls nL lv) (hroom : (rest.map fun v => v.category).sum ≤ 8)
    (hdg : decode cc pc = .ok (.invokevirtual idx, 3))
    (k : ∀ (H : Heap) (locs : List Loc), Pg g ws1 H → va_D A ws1 → va_S A s.heap H locs → W p l e R s m args below meth c H locs 0 0 Q (F0 m (pc + 3) ls (.int r :: rest))) : W p l e R s m args below meth c H locs 0 0 Q (F0 m pc ls st0) := by
  refine va_calli (va_runV hC hM (cwV n hC.2.2.2.2 hL.1 rfl hrc hrs hL.2 hR) ⟨blWM, va_recv hK hP hc he, fun U hU hW => ⟨rfl, by rw [hU], by rw [hU]; exact hP, va_K.moved hW.alike hK, hD.weaken (fun _ _ _ _ => trivial), hZ.call hS (frA hD hS hA) hU hW.alike⟩⟩ rfl hn hls.1 hst (lv_room hroom) hdg ⟨Nat.zero_le _, Nat.zero_le _⟩) hS (fun q _ h => frA hD hS hA q h) (frA hD hS hA) (fun r1 u t H1 locs1 ht hvm hw hB hz1 hk1 hS1 => ?_)
  obtain ⟨hP1, hK1, hD1⟩ := hB
  rw [ht] at hP1
  subst hw
  exact k H1 locs1 hP1 (hD1.weaken (fun _ q _ h => frA hD hS hA q.1 h)) hS1
theorem callWSMi {r : Int32} (hC : CallFix p m c cc nL s args BG own)
    (hM : Met l y (Cond.code y bytes maxL ret :: BG) rm (PcWM As g ws H.size qm) (QWi r g ws ws1 H.size) 0 0 (va_A ws H.size))
    (hL : LkS own idx y bytes maxL ret n) (hrc : rm.cells = 0) (hrs : rm.slots = 0) (hR : rm.frames + 1 ≤ R.frames ∧ 8 + (maxL + 11) + rm.locals ≤ R.locals)
    (hP : Pg g ws H) (hK : Kg g s) (hD : va_D A ws) (hA : ∀ q : Nat, s.heap.size ≤ q → A q) (hS : va_S A s.heap H locs) (hZ : ZM qm A s)
    (hn : As.length = n) (hst : st0 = As.reverse ++ rest) (hls : lv_has ls nL lv) (hroom : (rest.map fun v => v.category).sum ≤ 8)
    (hdg : decode cc pc = .ok (.invokestatic idx, 3))
    (k : ∀ (H : Heap) (locs : List Loc), Pg g ws1 H → va_D A ws1 → va_S A s.heap H locs → W p l e R s m args below meth c H locs 0 0 Q (F0 m (pc + 3) ls (.int r :: rest))) : W p l e R s m args below meth c H locs 0 0 Q (F0 m pc ls st0) := by
  refine va_calli (va_runS hC hM (va_cwS n hC.2.2.2.2 hL.1 rfl hrc hrs hL.2 hR) ⟨blWM, fun U hU hW => ⟨rfl, by rw [hU], by rw [hU]; exact hP, va_K.moved hW.alike hK, hD.weaken (fun _ _ _ _ => trivial), hZ.call hS (frA hD hS hA) hU hW.alike⟩⟩ rfl hn hls.1 hst (lv_room hroom) hdg ⟨Nat.zero_le _, Nat.zero_le _⟩) hS (fun q _ h => frA hD hS hA q h) (frA hD hS hA) (fun r1 u t H1 locs1 ht hvm hw hB hz1 hk1 hS1 => ?_)
  obtain ⟨hP1, hK1, hD1⟩ := hB
  rw [ht] at hP1
  subst hw
  exact k H1 locs1 hP1 (hD1.weaken (fun _ q _ h => frA hD hS hA q.1 h)) hS1
end CLM
