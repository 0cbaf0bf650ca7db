/-! ===== the words that all methods share: those of the tables that are good ===== -/
def BG : List Cond := lw_tbl.filter goodWord
theorem bg_of {w : Cond} (h : w ∈ lw_tbl) (hg : goodWord w = true) : w ∈ BG := List.mem_filter.mpr ⟨h, hg⟩
theorem bg_tb {w : Cond} (h : w ∈ tables_1) (hg : goodWord w = true) : w ∈ BG := bg_of (List.mem_append_right _ h) hg
theorem bg_1 {w : Cond} (i : Nat) (h : tables_1_1[i]? = some w) (hg : goodWord w = true) : w ∈ BG := bg_tb (List.mem_append_left _ (List.mem_of_getElem? h)) hg
theorem bg_2 {w : Cond} (i : Nat) (h : tables_1_2[i]? = some w) (hg : goodWord w = true) : w ∈ BG := bg_tb (List.mem_append_right _ (List.mem_append_left _ (List.mem_of_getElem? h))) hg
theorem bg_3 {w : Cond} (i : Nat) (h : tables_1_3[i]? = some w) (hg : goodWord w = true) : w ∈ BG := bg_tb (List.mem_append_right _ (List.mem_append_right _ (List.mem_append_left _ (List.mem_of_getElem? h)))) hg
theorem bg_4 {w : Cond} (i : Nat) (h : tables_1_4[i]? = some w) (hg : goodWord w = true) : w ∈ BG := bg_tb (List.mem_append_right _ (List.mem_append_right _ (List.mem_append_right _ (List.mem_append_left _ (List.mem_of_getElem? h))))) hg
theorem bg_5 {w : Cond} (i : Nat) (h : tables_1_5[i]? = some w) (hg : goodWord w = true) : w ∈ BG := bg_tb (List.mem_append_right _ (List.mem_append_right _ (List.mem_append_right _ (List.mem_append_right _ (List.mem_of_getElem? h))))) hg
theorem bg_s {y : MethodName} {n : Nat} (i : Nat) (h : lw_privs[i]? = some (y, n)) (hg : goodWord (Cond.selects y.cls y y) = true) : Cond.selects y.cls y y ∈ BG := bg_of (List.mem_append_left _ (List.mem_map.mpr ⟨(y, n), List.mem_of_getElem? h, rfl⟩)) hg
theorem bg_good : ∀ w ∈ BG, goodWord w = true := fun _ h => (List.mem_filter.mp h).2
theorem bg_gi : GoodIn BG BG := fun w h => ⟨h, good_of_word (bg_good w h)⟩
theorem bg_lw : ∀ w ∈ BG, w ∈ lw_tbl := fun _ h => (List.mem_filter.mp h).1
theorem bg_mem {ws : List Cond} (h : ∀ w ∈ ws, w ∈ BG) : GoodIn BG ws := fun w hw => bg_gi w (h w hw)
def LkV (own : String) (idx : Nat) (C : String) (y : MethodName) (bytes : ByteArray) (maxL : Nat) (ret : Option FieldType) (n : Nat) : Prop :=
  GoodIn BG (wsV own idx C y (Cond.code y bytes maxL ret :: BG)) ∧ (y.cls = C ∧ y.cls ≠ "java/lang/invoke/MethodHandle" ∧ y.cls ≠ "java/lang/invoke/VarHandle" ∧ (parseMethodDescriptor y.desc).map (fun d => d.parameters.length) = some n)
theorem lkV {own : String} {idx : Nat} {C : String} {y : MethodName} {bytes : ByteArray} {maxL : Nat} {ret : Option FieldType} {n : Nat} (h1 : Cond.methodLink own idx y ∈ BG) (h2 : Cond.instanceMethod y ∈ BG) (h3 : Cond.selects C y y ∈ BG) (h4 : Cond.initialized C ∈ BG) (h5 : Cond.code y bytes maxL ret ∈ BG) (hd : y.cls = C ∧ y.cls ≠ "java/lang/invoke/MethodHandle" ∧ y.cls ≠ "java/lang/invoke/VarHandle" ∧ (parseMethodDescriptor y.desc).map (fun d => d.parameters.length) = some n) : LkV own idx C y bytes maxL ret n := by
  refine ⟨bg_mem (fun w hw => ?_), hd⟩
  unfold wsV at hw
  simp only [List.cons_append, List.nil_append, List.mem_cons] at hw
  rcases hw with rfl | rfl | rfl | rfl | rfl | h
  · exact h1
  · exact h2
  · exact h3
  · exact h4
  · exact h5
  · exact h
def LkS (own : String) (idx : Nat) (y : MethodName) (bytes : ByteArray) (maxL : Nat) (ret : Option FieldType) (n : Nat) : Prop :=
  GoodIn BG (va_wsS own idx y (Cond.code y bytes maxL ret :: BG)) ∧ (y.cls ≠ "java/lang/invoke/MethodHandle" ∧ y.cls ≠ "java/lang/invoke/VarHandle" ∧ (parseMethodDescriptor y.desc).map (fun d => d.parameters.length) = some n)
theorem lkS {own : String} {idx : Nat} {y : MethodName} {bytes : ByteArray} {maxL : Nat} {ret : Option FieldType} {n : Nat} (h1 : Cond.methodLink own idx y ∈ BG) (h2 : Cond.static y ∈ BG) (h3 : Cond.initialized y.cls ∈ BG) (h4 : Cond.code y bytes maxL ret ∈ BG) (hd : y.cls ≠ "java/lang/invoke/MethodHandle" ∧ y.cls ≠ "java/lang/invoke/VarHandle" ∧ (parseMethodDescriptor y.desc).map (fun d => d.parameters.length) = some n) : LkS own idx y bytes maxL ret n := by
  refine ⟨bg_mem (fun w hw => ?_), hd⟩
  unfold va_wsS at hw
  simp only [List.cons_append, List.nil_append, List.mem_cons] at hw
  rcases hw with rfl | rfl | rfl | rfl | h
  · exact h1
  · exact h2
  · exact h3
  · exact h4
  · exact h
/-! ===== one environment for all worlds: the classes' numbers, the classes of int[], long[] and Term[] ===== -/
abbrev Gx : Type := va_G × ClassId × ClassId × ClassId
abbrev SI : Type := Nat → Nat → Int32
abbrev SJ : Type := Nat → Nat → Int64
abbrev classes : List vw_C := [(RX0, TX0, 3), (RX1, TX1, 9), (RX3, TX3, 2), (RX4, TX4, 10), (RX5, TX5, 4), (RX6, TX6, 3), (RX7, TX7, 12), (RX8, TX8, 41)]
abbrev tysG (g : Gx) : List (ClassId × FieldType) := [(g.2.1, .int), (g.2.2.1, .long), (g.2.2.2, .object RX5)]
abbrev Kg (g : Gx) (U : State) : Prop := va_K g.1 classes (tysG g) U
abbrev Pg (g : Gx) (ws : va_W) (H : Heap) : Prop := va_P g.1 classes ws H
def u1 {α : Type} (I : Nat → Nat → α) (k : Nat) (f : Nat → α) : Nat → Nat → α := fun x => if x = k then f else I x
abbrev u2 (I : SI) (k j : Nat) (v : Int32) : SI := u1 I k (upd (I k) j v)
abbrev u2L (J : SJ) (k j : Nat) (v : Int64) : SJ := u1 J k (vp_updL (J k) j v)
def gin (i : Int32) (n : Nat) : Bool := decide (¬ (i < 0 ∨ n ≤ i.toNatClampNeg))
theorem gin_ok {i : Int32} {n : Nat} (h : gin i n = true) : vp_in i n := of_decide_eq_true (p := ¬ (i < 0 ∨ n ≤ i.toNatClampNeg)) h
def gbo (v : Int32) : Bool := decide (v = 0 ∨ v = 1)
theorem gbo_ok {v : Int32} (h : gbo v = true) : narrow .boolean (.int v) = .int v ∧ fits .boolean (.int v) = true := by
  rcases of_decide_eq_true h with rfl | rfl <;> exact ⟨rfl, rfl⟩
theorem og {α : Type} {b : Bool} {x : Option α} {r : α} (h : (if b = true then x else none) = some r) : b = true ∧ x = some r := by
  by_cases c : b = true
  · rw [if_pos c] at h
    exact ⟨c, h⟩
  · rw [if_neg c] at h
    cases h
theorem og0 {α : Type} {c : Prop} [Decidable c] {x : Option α} {r : α} (h : (if c then none else x) = some r) : ¬ c ∧ x = some r := by
  by_cases hc : c
  · rw [if_pos hc] at h
    cases h
  · rw [if_neg hc] at h
    exact ⟨hc, h⟩
theorem ob {α β : Type} {x : Option α} {f : α → Option β} {r : β} (h : x.bind f = some r) : ∃ a, x = some a ∧ f a = some r := Option.bind_eq_some_iff.mp h
theorem no {α : Type} {r : α} {P : Prop} (h : (none : Option α) = some r) : P := by cases h
theorem tern {α : Type} {cnd : Prop} [Decidable cnd] {a b : α} {Wj : α → Prop} {X : Prop} (hX : (cnd → Wj a) → (¬ cnd → Wj b) → X) (k : Wj (if cnd then a else b)) : X := hX (fun c => by rw [if_pos c] at k; exact k) (fun c => by rw [if_neg c] at k; exact k)
theorem ti_ne {x k : Int32} {n : Int} (hk : k.toInt = n) (h : ¬ x = k) : x.toInt ≠ n := fun q => h (Int32.toInt_inj.mp (q.trans hk.symm))
section MK
variable {l : Launch} {y : MethodName} {cc : ByteArray} {maxL : Nat} {rm : Room} {as : List Value} {g : Gx} {ws ws1 : va_W}
/-- what a method's body may use at its start -/
def Bd (l : Launch) (y : MethodName) (cc : ByteArray) (maxL : Nat) (rm : Room) (as : List Value) (g : Gx) (ws : va_W) (X : Program → Env → State → MethodId → Array Value → List Frame → Method → Code → Heap → List Loc → (State → Prop) → Prop) : Prop :=
  ∀ (p : Program) (e : Env) (s : State) (m : MethodId) (args : Array Value) (below : List Frame) (meth : Method) (c : Code) (H : Heap) (locs : List Loc) (ls : Array Slot) (Q : State → Prop),
    CallFix p m c cc maxL s args BG y.cls → Kg g s → Pg g ws H → lv_has ls maxL (lv_args 0 as) → X p e s m args below meth c H locs Q → W p l e rm s m args below meth c H locs 0 0 Q (F0 m 0 ls [])
theorem mkR0 {ret : Option FieldType} {r : Value} (hy : plainName y.cls = true) (hn : (lg_sl as).length ≤ maxL)
    (body : ∀ (p : Program) (e : Env) (s : State) (m : MethodId) (below : List Frame) (meth : Method) (c : Code) (ls : Array Slot), CallFix p m c cc maxL s as.toArray BG y.cls → meth.sig.returnType = ret → meth.locks = false → Kg g s → Pg g ws s.heap → lv_has ls maxL (lv_args 0 as) →
      W p l e rm s m as.toArray below meth c s.heap [] 0 0 (MQ below (k2_QcV r) as.toArray s 0 0 (fun _ => False)) (F0 m 0 ls [])) :
    Met l y (Cond.code y cc maxL ret :: BG) rm (va_Pc as (fun U => Pg g ws U.heap ∧ Kg g U)) (k2_QcV r) 0 0 (fun _ => False) := by
  refine Met.ofW (cc := cc) (maxL := maxL) (ret := ret) hy rfl ?_
  intro p e s m args below meth c s₁ B hml hv
  obtain ⟨rfl, hP, hK⟩ := hv
  have hts := atoms_spec (ws := Cond.code y cc maxL ret :: BG) B.pre
  have hl := lv_entry as (n := maxL) hn
  rw [lg_entry_eq]
  exact body p e s m below meth c _ ⟨B.exec, B.bytes, hml, findClass_of_methodNamed B.named, fun w hw => hts w (List.mem_cons_of_mem _ hw)⟩ B.returns B.notSynchronized hK hP hl
theorem mkRi {r : Int32} (hy : plainName y.cls = true) (hn : (lg_sl as).length ≤ maxL)
    (body : Bd l y cc maxL rm as g ws (fun p e s m args below meth c H locs Q => ∀ (pc : Nat) (ls : Array Slot) (v : Int32), decode cc pc = .ok (.ireturn, 1) → v = r → W p l e rm s m args below meth c H locs 0 0 Q (F0 m pc ls [.int v]))) :
    Met l y (Cond.code y cc maxL (some .int) :: BG) rm (va_Pc as (fun U => Pg g ws U.heap ∧ Kg g U)) (k2_QcV (.int r)) 0 0 (fun _ => False) := by
  refine mkR0 hy hn fun p e s m below meth c ls hC hr hk hK hP hl => body p e s m _ below meth c _ [] ls _ hC hK hP hl fun pc ls v hd hv => ?_
  subst hv
  exact W.iret hC.1 hC.2.1 hr (fun t ht _ => ⟨rfl, ht⟩) (fun _ h => by cases h) hd hk
theorem mkRz {r : Int32} (hy : plainName y.cls = true) (hn : (lg_sl as).length ≤ maxL)
    (body : Bd l y cc maxL rm as g ws (fun p e s m args below meth c H locs Q => ∀ (pc : Nat) (ls : Array Slot) (v : Int32), decode cc pc = .ok (.ireturn, 1) → narrow .boolean (.int v) = .int v → v = r → W p l e rm s m args below meth c H locs 0 0 Q (F0 m pc ls [.int v]))) :
    Met l y (Cond.code y cc maxL (some .boolean) :: BG) rm (va_Pc as (fun U => Pg g ws U.heap ∧ Kg g U)) (k2_QcV (.int r)) 0 0 (fun _ => False) := by
  refine mkR0 hy hn fun p e s m below meth c ls hC hr hk hK hP hl => body p e s m _ below meth c _ [] ls _ hC hK hP hl fun pc ls v hd hz hv => ?_
  subst hv
  exact W.zret hC.1 hC.2.1 hr hz (fun t ht _ => ⟨rfl, ht⟩) (fun _ h => by cases h) hd hk
theorem mkRl {r : Int64} (hy : plainName y.cls = true) (hn : (lg_sl as).length ≤ maxL)
    (body : Bd l y cc maxL rm as g ws (fun p e s m args below meth c H locs Q => ∀ (pc : Nat) (ls : Array Slot) (v : Int64), decode cc pc = .ok (.lreturn, 1) → v = r → W p l e rm s m args below meth c H locs 0 0 Q (F0 m pc ls [.long v]))) :
    Met l y (Cond.code y cc maxL (some .long) :: BG) rm (va_Pc as (fun U => Pg g ws U.heap ∧ Kg g U)) (k2_QcV (.long r)) 0 0 (fun _ => False) := by
  refine mkR0 hy hn fun p e s m below meth c ls hC hr hk hK hP hl => body p e s m _ below meth c _ [] ls _ hC hK hP hl fun pc ls v hd hv => ?_
  subst hv
  exact W.lret hC.1 hC.2.1 hr (fun t ht _ => ⟨rfl, ht⟩) (fun _ h => by cases h) hd hk
theorem mkRa {C : String} {r : Value} (hy : plainName y.cls = true) (hn : (lg_sl as).length ≤ maxL)
    (body : Bd l y cc maxL rm as g ws (fun p e s m args below meth c H locs Q => ∀ (pc : Nat) (ls : Array Slot) (v : Value), decode cc pc = .ok (.areturn, 1) → (v = .null ∨ ∃ a, v = .ref a) → v = r → W p l e rm s m args below meth c H locs 0 0 Q (F0 m pc ls [v]))) :
    Met l y (Cond.code y cc maxL (some (.object C)) :: BG) rm (va_Pc as (fun U => Pg g ws U.heap ∧ Kg g U)) (k2_QcV r) 0 0 (fun _ => False) := by
  refine mkR0 hy hn fun p e s m below meth c ls hC hr hk hK hP hl => body p e s m _ below meth c _ [] ls _ hC hK hP hl fun pc ls v hd hz hv => ?_
  subst hv
  exact W.aret hC.1 hC.2.1 hr (Or.inl ⟨_, rfl⟩) hz (fun t ht _ => ⟨rfl, ht⟩) (fun _ h => by cases h) hd hk
/-- a writer's end: the world, the frame -/
abbrev BW (g : Gx) (ws1 : va_W) (A : Nat → Prop) (t : State) : Prop := Pg g ws1 t.heap ∧ Kg g t ∧ va_D A ws1
abbrev PcW (as : List Value) (g : Gx) (ws : va_W) (sz : Nat) : Array Value → State → Prop := va_Pc as (fun U => U.heap.size = sz ∧ Pg g ws U.heap ∧ Kg g U ∧ va_D (fun _ => True) ws)
abbrev QWi (r : Int32) (g : Gx) (ws ws1 : va_W) (sz : Nat) := va_Qi (fun (v : Int32) (_ : Unit) => v = r) (fun _ t => BW g ws1 (va_A ws sz) t) (va_A ws sz)
abbrev QWl (r : Int64) (g : Gx) (ws ws1 : va_W) (sz : Nat) := va_Ql (fun (v : Int64) (_ : Unit) => v = r) (fun _ t => BW g ws1 (va_A ws sz) t) (va_A ws sz)
abbrev QWv (g : Gx) (ws ws1 : va_W) (sz : Nat) := va_Qv (fun (_ : Unit) => True) (fun _ t => BW g ws1 (va_A ws sz) t) (va_A ws sz)
def BdW (l : Launch) (y : MethodName) (cc : ByteArray) (maxL : Nat) (rm : Room) (as : List Value) (g : Gx) (ws : va_W) (X : Program → Env → State → MethodId → Array Value → List Frame → Method → Code → (Nat → Prop) → (State → Prop) → Prop) : Prop :=
  ∀ (p : Program) (e : Env) (s : State) (m : MethodId) (args : Array Value) (below : List Frame) (meth : Method) (c : Code) (H : Heap) (locs : List Loc) (ls : Array Slot) (A : Nat → Prop) (Q : State → Prop),
    CallFix p m c cc maxL s args BG y.cls → Kg g s → Pg g ws H → va_D A ws → (∀ q : Nat, s.heap.size ≤ q → A q) → va_S A s.heap H locs → lv_has ls maxL (lv_args 0 as) → X p e s m args below meth c A Q → W p l e rm s m args below meth c H locs 0 0 Q (F0 m 0 ls [])
theorem mkW0 {ret : Option FieldType} {sz : Nat} {Qc : Array Value → State → Outcome → State → Prop} (hy : plainName y.cls = true) (hn : (lg_sl as).length ≤ maxL)
    (body : ∀ (p : Program) (e : Env) (s : State) (m : MethodId) (below : List Frame) (meth : Method) (c : Code) (ls : Array Slot), CallFix p m c cc maxL s as.toArray BG y.cls → meth.sig.returnType = ret → meth.locks = false → Kg g s → Pg g ws s.heap → va_D (va_A ws sz) ws → (∀ q : Nat, s.heap.size ≤ q → va_A ws sz q) → va_S (va_A ws sz) s.heap s.heap [] → lv_has ls maxL (lv_args 0 as) →
      W p l e rm s m as.toArray below meth c s.heap [] 0 0 (MQ below Qc as.toArray s 0 0 (va_A ws sz)) (F0 m 0 ls [])) :
    Met l y (Cond.code y cc maxL ret :: BG) rm (PcW as g ws sz) Qc 0 0 (va_A ws sz) := by
  refine Met.ofW (cc := cc) (maxL := maxL) (ret := ret) hy rfl ?_
  intro p e s m args below meth c s₁ B hml hv
  obtain ⟨rfl, hsz, hP, hK, hD0⟩ := hv
  have hts := atoms_spec (ws := Cond.code y cc maxL ret :: BG) B.pre
  have hl := lv_entry as (n := maxL) hn
  rw [lg_entry_eq]
  exact body p e s m below meth c _ ⟨B.exec, B.bytes, hml, findClass_of_methodNamed B.named, fun w hw => hts w (List.mem_cons_of_mem _ hw)⟩ B.returns B.notSynchronized hK hP hD0.self (fun q h => Or.inr (by rw [← hsz]; exact h)) va_S.rf hl
theorem mkWi {r : Int32} {sz : Nat} (hy : plainName y.cls = true) (hn : (lg_sl as).length ≤ maxL)
    (body : BdW l y cc maxL rm as g ws (fun p e s m args below meth c A Q => ∀ (pc : Nat) (ls : Array Slot) (v : Int32) (H : Heap) (locs : List Loc), decode cc pc = .ok (.ireturn, 1) → v = r → Pg g ws1 H → va_D A ws1 → va_S A s.heap H locs → W p l e rm s m args below meth c H locs 0 0 Q (F0 m pc ls [.int v]))) :
    Met l y (Cond.code y cc maxL (some .int) :: BG) rm (PcW as g ws sz) (QWi r g ws ws1 sz) 0 0 (va_A ws sz) := by
  refine mkW0 hy hn fun p e s m below meth c ls hC hr hk hK hP hD hA hS hl => body p e s m _ below meth c _ [] ls _ _ hC hK hP hD hA hS hl fun pc ls v H locs hd hv hP hD hS => ?_
  exact W.iret hC.1 hC.2.1 hr (fun t ht hW => ⟨⟨v, (), rfl, hv, by rw [ht]; exact hP, va_K.moved hW.alike hK, hD⟩, hS.F ht⟩) hS.2.2 hd hk
theorem mkWz {r : Int32} {sz : Nat} (hy : plainName y.cls = true) (hn : (lg_sl as).length ≤ maxL)
    (body : BdW l y cc maxL rm as g ws (fun p e s m args below meth c A Q => ∀ (pc : Nat) (ls : Array Slot) (v : Int32) (H : Heap) (locs : List Loc), decode cc pc = .ok (.ireturn, 1) → narrow .boolean (.int v) = .int v → v = r → Pg g ws1 H → va_D A ws1 → va_S A s.heap H locs → W p l e rm s m args below meth c H locs 0 0 Q (F0 m pc ls [.int v]))) :
    Met l y (Cond.code y cc maxL (some .boolean) :: BG) rm (PcW as g ws sz) (QWi r g ws ws1 sz) 0 0 (va_A ws sz) := by
  refine mkW0 hy hn fun p e s m below meth c ls hC hr hk hK hP hD hA hS hl => body p e s m _ below meth c _ [] ls _ _ hC hK hP hD hA hS hl fun pc ls v H locs hd hz hv hP hD hS => ?_
  exact W.zret hC.1 hC.2.1 hr hz (fun t ht hW => ⟨⟨v, (), rfl, hv, by rw [ht]; exact hP, va_K.moved hW.alike hK, hD⟩, hS.F ht⟩) hS.2.2 hd hk
theorem mkWl {r : Int64} {sz : Nat} (hy : plainName y.cls = true) (hn : (lg_sl as).length ≤ maxL)
    (body : BdW l y cc maxL rm as g ws (fun p e s m args below meth c A Q => ∀ (pc : Nat) (ls : Array Slot) (v : Int64) (H : Heap) (locs : List Loc), decode cc pc = .ok (.lreturn, 1) → v = r → Pg g ws1 H → va_D A ws1 → va_S A s.heap H locs → W p l e rm s m args below meth c H locs 0 0 Q (F0 m pc ls [.long v]))) :
    Met l y (Cond.code y cc maxL (some .long) :: BG) rm (PcW as g ws sz) (QWl r g ws ws1 sz) 0 0 (va_A ws sz) := by
  refine mkW0 hy hn fun p e s m below meth c ls hC hr hk hK hP hD hA hS hl => body p e s m _ below meth c _ [] ls _ _ hC hK hP hD hA hS hl fun pc ls v H locs hd hv hP hD hS => ?_
  exact W.lret hC.1 hC.2.1 hr (fun t ht hW => ⟨⟨v, (), rfl, hv, by rw [ht]; exact hP, va_K.moved hW.alike hK, hD⟩, hS.F ht⟩) hS.2.2 hd hk
theorem mkWv {sz : Nat} (hy : plainName y.cls = true) (hn : (lg_sl as).length ≤ maxL)
    (body : BdW l y cc maxL rm as g ws (fun p e s m args below meth c A Q => ∀ (pc : Nat) (ls : Array Slot) (H : Heap) (locs : List Loc), decode cc pc = .ok (.return_, 1) → Pg g ws1 H → va_D A ws1 → va_S A s.heap H locs → W p l e rm s m args below meth c H locs 0 0 Q (F0 m pc ls []))) :
    Met l y (Cond.code y cc maxL none :: BG) rm (PcW as g ws sz) (QWv g ws ws1 sz) 0 0 (va_A ws sz) := by
  refine mkW0 hy hn fun p e s m below meth c ls hC hr hk hK hP hD hA hS hl => body p e s m _ below meth c _ [] ls _ _ hC hK hP hD hA hS hl fun pc ls H locs hd hP hD hS => ?_
  exact W.vret hC.1 hC.2.1 hr (fun t ht hW => ⟨⟨(), rfl, trivial, by rw [ht]; exact hP, va_K.moved hW.alike hK, hD⟩, hS.F ht⟩) hS.2.2 hd hk
end MK
section CL
variable {p : Program} {l : Launch} {e : Env} {R : Room} {s : State} {m : MethodId} {args : Array Value} {below : List Frame} {meth : Method} {c : Code} {H : Heap} {locs : List Loc} {Q : State → Prop} {own C : String} {idx n nL maxL q0 ci N pc : Nat} {y : MethodName} {cc bytes : ByteArray} {ret : Option FieldType} {rm : Room} {g : Gx} {ws ws1 : va_W} {r : Value} {b : Nat} {As rest st0 fs : List Value} {T : u_T} {ls : Array Slot} {lv : List (Nat × Value)} {A : Nat → Prop}
theorem blR {as : List Value} : FrameBlind (va_Pc as (fun U => Pg g ws U.heap ∧ Kg g U)) := fun a U gg mk q => by
  obtain ⟨q0, qP, qK⟩ := q
  exact ⟨q0, qP, va_K.moved (u := U) (U := U.calling gg mk a) (Vm.Alike.refl U.vm) qK⟩
theorem blW {as : List Value} {sz : Nat} : FrameBlind (PcW as g ws sz) := fun a U gg mk q => by
  obtain ⟨q0, q1, qP, qK, qD⟩ := q
  exact ⟨q0, q1, qP, va_K.moved (u := U) (U := U.calling gg mk a) (Vm.Alike.refl U.vm) qK, qD⟩
theorem callRV (hC : CallFix p m c cc nL s args BG own)
    (hM : Met l y (Cond.code y bytes maxL ret :: BG) rm (va_Pc (.ref b :: As) (fun U => Pg g ws U.heap ∧ Kg g U)) (k2_QcV r) 0 0 (fun _ => False))
    (hL : LkV own idx C y bytes maxL ret n) (hrc : rm.cells = 0) (hrs : rm.slots = 0) (hR : rm.frames + 1 ≤ R.frames ∧ 8 + (maxL + 11) + rm.locals ≤ R.locals)
    (hP : Pg g ws H) (hK : Kg g s) (he : ws[q0]? = some (b, .inr (ci, fs))) (hc : classes[ci]? = some (C, T, N))
    (hn : As.length = n) (hst : st0 = As.reverse ++ .ref b :: rest) (hls : lv_has ls nL lv) (hroom : (rest.map fun v => v.category).sum ≤ 8)
    (hdg : decode cc pc = .ok (.invokevirtual idx, 3))
    (k : W p l e R s m args below meth c H locs 0 0 Q (F0 m (pc + 3) ls (r :: rest))) : W p l e R s m args below meth c H locs 0 0 Q (F0 m pc ls st0) :=
  W.callV (W.runV hC hM (cwV n hC.2.2.2.2 hL.1 rfl hrc hrs hL.2 hR) ⟨blR, va_recv hK hP hc he, fun U hU hW => ⟨rfl, by rw [hU]; exact hP, va_K.moved hW.alike hK⟩⟩ rfl hn hls.1 hst (lv_room hroom) hdg ⟨Nat.zero_le _, Nat.zero_le _⟩) k
theorem callRS (hC : CallFix p m c cc nL s args BG own)
    (hM : Met l y (Cond.code y bytes maxL ret :: BG) rm (va_Pc As (fun U => Pg g ws U.heap ∧ Kg g U)) (k2_QcV r) 0 0 (fun _ => False))
    (hL : LkS own idx y bytes maxL ret n) (hrc : rm.cells = 0) (hrs : rm.slots = 0) (hR : rm.frames + 1 ≤ R.frames ∧ 8 + (maxL + 11) + rm.locals ≤ R.locals)
    (hP : Pg g ws H) (hK : Kg g s)
    (hn : As.length = n) (hst : st0 = As.reverse ++ rest) (hls : lv_has ls nL lv) (hroom : (rest.map fun v => v.category).sum ≤ 8)
    (hdg : decode cc pc = .ok (.invokestatic idx, 3))
    (k : W p l e R s m args below meth c H locs 0 0 Q (F0 m (pc + 3) ls (r :: rest))) : W p l e R s m args below meth c H locs 0 0 Q (F0 m pc ls st0) :=
  W.callV (W.runS hC hM (va_cwS n hC.2.2.2.2 hL.1 rfl hrc hrs hL.2 hR) ⟨blR, fun U hU hW => ⟨rfl, by rw [hU]; exact hP, va_K.moved hW.alike hK⟩⟩ rfl hn hls.1 hst (lv_room hroom) hdg ⟨Nat.zero_le _, Nat.zero_le _⟩) k
theorem frA (hD : va_D A ws) (hS : va_S A s.heap H locs) (hA : ∀ q : Nat, s.heap.size ≤ q → A q) : ∀ q, va_A ws H.size q → A q := by
  intro q h
  rcases h with ⟨k, e, h⟩ | h
  · exact hD.2 k (q, e) h
  · exact hA q (Nat.le_trans hS.1 h)
theorem callWVi {r : Int32} (hC : CallFix p m c cc nL s args BG own)
    (hM : Met l y (Cond.code y bytes maxL ret :: BG) rm (PcW (.ref b :: As) g ws H.size) (QWi r g ws ws1 H.size) 0 0 (va_A ws H.size))
    (hL : LkV own idx C y bytes maxL ret n) (hrc : rm.cells = 0) (hrs : rm.slots = 0) (hR : rm.frames + 1 ≤ R.frames ∧ 8 + (maxL + 11) + rm.locals ≤ R.locals)
    (hP : Pg g ws H) (hK : Kg g s) (hD : va_D A ws) (hA : ∀ q : Nat, s.heap.size ≤ q → A q) (hS : va_S A s.heap H locs) (he : ws[q0]? = some (b, .inr (ci, fs))) (hc : classes[ci]? = some (C, T, N))
    (hn : As.length = n) (hst : st0 = As.reverse ++ .ref b :: rest) (hls : lv_has ls nL lv) (hroom : (rest.map fun v => v.category).sum ≤ 8)
    (hdg : decode cc pc = .ok (.invokevirtual idx, 3))
    (k : ∀ (H : Heap) (locs : List Loc), Pg g ws1 H → va_D A ws1 → va_S A s.heap H locs → W p l e R s m args below meth c H locs 0 0 Q (F0 m (pc + 3) ls (.int r :: rest))) : W p l e R s m args below meth c H locs 0 0 Q (F0 m pc ls st0) := by
  refine va_calli (va_runV hC hM (cwV n hC.2.2.2.2 hL.1 rfl hrc hrs hL.2 hR) ⟨blW, va_recv hK hP hc he, fun U hU hW => ⟨rfl, by rw [hU], by rw [hU]; exact hP, va_K.moved hW.alike hK, hD.weaken (fun _ _ _ _ => trivial)⟩⟩ rfl hn hls.1 hst (lv_room hroom) hdg ⟨Nat.zero_le _, Nat.zero_le _⟩) hS (fun q _ h => frA hD hS hA q h) (frA hD hS hA) (fun r1 u t H1 locs1 ht hvm hw hB hz1 hk1 hS1 => ?_)
  obtain ⟨hP1, hK1, hD1⟩ := hB
  rw [ht] at hP1
  subst hw
  exact k H1 locs1 hP1 (hD1.weaken (fun _ q _ h => frA hD hS hA q.1 h)) hS1
theorem callWVl {r : Int64} (hC : CallFix p m c cc nL s args BG own)
    (hM : Met l y (Cond.code y bytes maxL ret :: BG) rm (PcW (.ref b :: As) g ws H.size) (QWl r g ws ws1 H.size) 0 0 (va_A ws H.size))
    (hL : LkV own idx C y bytes maxL ret n) (hrc : rm.cells = 0) (hrs : rm.slots = 0) (hR : rm.frames + 1 ≤ R.frames ∧ 8 + (maxL + 11) + rm.locals ≤ R.locals)
    (hP : Pg g ws H) (hK : Kg g s) (hD : va_D A ws) (hA : ∀ q : Nat, s.heap.size ≤ q → A q) (hS : va_S A s.heap H locs) (he : ws[q0]? = some (b, .inr (ci, fs))) (hc : classes[ci]? = some (C, T, N))
    (hn : As.length = n) (hst : st0 = As.reverse ++ .ref b :: rest) (hls : lv_has ls nL lv) (hroom : (rest.map fun v => v.category).sum ≤ 8)
    (hdg : decode cc pc = .ok (.invokevirtual idx, 3))
    (k : ∀ (H : Heap) (locs : List Loc), Pg g ws1 H → va_D A ws1 → va_S A s.heap H locs → W p l e R s m args below meth c H locs 0 0 Q (F0 m (pc + 3) ls (.long r :: rest))) : W p l e R s m args below meth c H locs 0 0 Q (F0 m pc ls st0) := by
  refine va_calll (va_runV hC hM (cwV n hC.2.2.2.2 hL.1 rfl hrc hrs hL.2 hR) ⟨blW, va_recv hK hP hc he, fun U hU hW => ⟨rfl, by rw [hU], by rw [hU]; exact hP, va_K.moved hW.alike hK, hD.weaken (fun _ _ _ _ => trivial)⟩⟩ rfl hn hls.1 hst (lv_room hroom) hdg ⟨Nat.zero_le _, Nat.zero_le _⟩) hS (fun q _ h => frA hD hS hA q h) (frA hD hS hA) (fun r1 u t H1 locs1 ht hvm hw hB hz1 hk1 hS1 => ?_)
  obtain ⟨hP1, hK1, hD1⟩ := hB
  rw [ht] at hP1
  subst hw
  exact k H1 locs1 hP1 (hD1.weaken (fun _ q _ h => frA hD hS hA q.1 h)) hS1
theorem callWVv (hC : CallFix p m c cc nL s args BG own)
    (hM : Met l y (Cond.code y bytes maxL ret :: BG) rm (PcW (.ref b :: As) g ws H.size) (QWv g ws ws1 H.size) 0 0 (va_A ws H.size))
    (hL : LkV own idx C y bytes maxL ret n) (hrc : rm.cells = 0) (hrs : rm.slots = 0) (hR : rm.frames + 1 ≤ R.frames ∧ 8 + (maxL + 11) + rm.locals ≤ R.locals)
    (hP : Pg g ws H) (hK : Kg g s) (hD : va_D A ws) (hA : ∀ q : Nat, s.heap.size ≤ q → A q) (hS : va_S A s.heap H locs) (he : ws[q0]? = some (b, .inr (ci, fs))) (hc : classes[ci]? = some (C, T, N))
    (hn : As.length = n) (hst : st0 = As.reverse ++ .ref b :: rest) (hls : lv_has ls nL lv) (hroom : (rest.map fun v => v.category).sum ≤ 8)
    (hdg : decode cc pc = .ok (.invokevirtual idx, 3))
    (k : ∀ (H : Heap) (locs : List Loc), Pg g ws1 H → va_D A ws1 → va_S A s.heap H locs → W p l e R s m args below meth c H locs 0 0 Q (F0 m (pc + 3) ls rest)) : W p l e R s m args below meth c H locs 0 0 Q (F0 m pc ls st0) := by
  refine va_callv (va_runV hC hM (cwV n hC.2.2.2.2 hL.1 rfl hrc hrs hL.2 hR) ⟨blW, va_recv hK hP hc he, fun U hU hW => ⟨rfl, by rw [hU], by rw [hU]; exact hP, va_K.moved hW.alike hK, hD.weaken (fun _ _ _ _ => trivial)⟩⟩ rfl hn hls.1 hst (lv_room hroom) hdg ⟨Nat.zero_le _, Nat.zero_le _⟩) hS (fun q _ h => frA hD hS hA q h) (frA hD hS hA) (fun u t H1 locs1 ht hvm hw hB hz1 hk1 hS1 => ?_)
  obtain ⟨hP1, hK1, hD1⟩ := hB
  rw [ht] at hP1
  exact k H1 locs1 hP1 (hD1.weaken (fun _ q _ h => frA hD hS hA q.1 h)) hS1
theorem callWSv (hC : CallFix p m c cc nL s args BG own)
    (hM : Met l y (Cond.code y bytes maxL ret :: BG) rm (PcW As g ws H.size) (QWv g ws ws1 H.size) 0 0 (va_A ws H.size))
    (hL : LkS own idx y bytes maxL ret n) (hrc : rm.cells = 0) (hrs : rm.slots = 0) (hR : rm.frames + 1 ≤ R.frames ∧ 8 + (maxL + 11) + rm.locals ≤ R.locals)
    (hP : Pg g ws H) (hK : Kg g s) (hD : va_D A ws) (hA : ∀ q : Nat, s.heap.size ≤ q → A q) (hS : va_S A s.heap H locs)
    (hn : As.length = n) (hst : st0 = As.reverse ++ rest) (hls : lv_has ls nL lv) (hroom : (rest.map fun v => v.category).sum ≤ 8)
    (hdg : decode cc pc = .ok (.invokestatic idx, 3))
    (k : ∀ (H : Heap) (locs : List Loc), Pg g ws1 H → va_D A ws1 → va_S A s.heap H locs → W p l e R s m args below meth c H locs 0 0 Q (F0 m (pc + 3) ls rest)) : W p l e R s m args below meth c H locs 0 0 Q (F0 m pc ls st0) := by
  refine va_callv (va_runS hC hM (va_cwS n hC.2.2.2.2 hL.1 rfl hrc hrs hL.2 hR) ⟨blW, fun U hU hW => ⟨rfl, by rw [hU], by rw [hU]; exact hP, va_K.moved hW.alike hK, hD.weaken (fun _ _ _ _ => trivial)⟩⟩ rfl hn hls.1 hst (lv_room hroom) hdg ⟨Nat.zero_le _, Nat.zero_le _⟩) hS (fun q _ h => frA hD hS hA q h) (frA hD hS hA) (fun u t H1 locs1 ht hvm hw hB hz1 hk1 hS1 => ?_)
  obtain ⟨hP1, hK1, hD1⟩ := hB
  rw [ht] at hP1
  exact k H1 locs1 hP1 (hD1.weaken (fun _ q _ h => frA hD hS hA q.1 h)) hS1
theorem callWSi {r : Int32} (hC : CallFix p m c cc nL s args BG own)
    (hM : Met l y (Cond.code y bytes maxL ret :: BG) rm (PcW As g ws H.size) (QWi r g ws ws1 H.size) 0 0 (va_A ws H.size))
    (hL : LkS own idx y bytes maxL ret n) (hrc : rm.cells = 0) (hrs : rm.slots = 0) (hR : rm.frames + 1 ≤ R.frames ∧ 8 + (maxL + 11) + rm.locals ≤ R.locals)
    (hP : Pg g ws H) (hK : Kg g s) (hD : va_D A ws) (hA : ∀ q : Nat, s.heap.size ≤ q → A q) (hS : va_S A s.heap H locs)
    (hn : As.length = n) (hst : st0 = As.reverse ++ rest) (hls : lv_has ls nL lv) (hroom : (rest.map fun v => v.category).sum ≤ 8)
    (hdg : decode cc pc = .ok (.invokestatic idx, 3))
    (k : ∀ (H : Heap) (locs : List Loc), Pg g ws1 H → va_D A ws1 → va_S A s.heap H locs → W p l e R s m args below meth c H locs 0 0 Q (F0 m (pc + 3) ls (.int r :: rest))) : W p l e R s m args below meth c H locs 0 0 Q (F0 m pc ls st0) := by
  refine va_calli (va_runS hC hM (va_cwS n hC.2.2.2.2 hL.1 rfl hrc hrs hL.2 hR) ⟨blW, fun U hU hW => ⟨rfl, by rw [hU], by rw [hU]; exact hP, va_K.moved hW.alike hK, hD.weaken (fun _ _ _ _ => trivial)⟩⟩ rfl hn hls.1 hst (lv_room hroom) hdg ⟨Nat.zero_le _, Nat.zero_le _⟩) hS (fun q _ h => frA hD hS hA q h) (frA hD hS hA) (fun r1 u t H1 locs1 ht hvm hw hB hz1 hk1 hS1 => ?_)
  obtain ⟨hP1, hK1, hD1⟩ := hB
  rw [ht] at hP1
  subst hw
  exact k H1 locs1 hP1 (hD1.weaken (fun _ q _ h => frA hD hS hA q.1 h)) hS1
end CL
