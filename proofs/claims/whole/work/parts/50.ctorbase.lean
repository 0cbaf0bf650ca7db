/-! ===== constructors: what a made world needs ===== -/
abbrev PcC (as : List Value) (g : Gx) (ws : va_W) (sz : Nat) : Array Value → State → Prop := va_Pc as (fun U => U.heap.size = sz ∧ Pg g ws U.heap ∧ Kg g U ∧ va_D (fun _ => True) ws ∧ va_AO RX5 U)
abbrev QC {S : Type} (g : Gx) (ws : va_W) (post : S → Prop) (wf : S → va_W) (sz : Nat) := va_Qv post (fun u t => BW g (wf u) (va_A ws sz) t) (va_A ws sz)
theorem blC {as : List Value} {g : Gx} {ws : va_W} {sz : Nat} : FrameBlind (PcC as g ws sz) := fun a U gg mk q => by
  obtain ⟨q0, q1, qP, qK, qD, qO⟩ := q
  exact ⟨q0, q1, qP, va_K.moved (u := U) (U := U.calling gg mk a) (Vm.Alike.refl U.vm) qK, qD, va_AO.moved (u := U) (U := U.calling gg mk a) (Vm.Alike.refl U.vm) qO⟩
theorem mkC {l : Launch} {y : MethodName} {cc : ByteArray} {maxL : Nat} {rm : Room} {as : List Value} {g : Gx} {ws : va_W} {sz mc ms : Nat} {Qc : Array Value → State → Outcome → State → Prop} (hy : plainName y.cls = true) (hn : (lg_sl as).length ≤ maxL)
    (body : ∀ (p : Program) (e : Env) (s : State) (m : MethodId) (below : List Frame) (meth : Method) (c : Code) (ls : Array Slot) (A : Nat → Prop), A = va_A ws sz → CallFix p m c cc maxL s as.toArray BG y.cls → meth.sig.returnType = none → meth.locks = false → meth.name = y.name → Kg g s → Pg g ws s.heap → va_D A ws → (∀ q : Nat, s.heap.size ≤ q → A q) → va_S A s.heap s.heap [] → va_AO RX5 s → lv_has ls maxL (lv_args 0 as) →
      W p l e rm s m as.toArray below meth c s.heap [] 0 0 (MQ below Qc as.toArray s mc ms A) (F0 m 0 ls [])) :
    Met l y (Cond.code y cc maxL none :: BG) rm (PcC as g ws sz) Qc mc ms (va_A ws sz) := by
  refine Met.ofW (cc := cc) (maxL := maxL) (ret := none) hy rfl ?_
  intro p e s m args below meth c s₁ B hml hv
  obtain ⟨rfl, hsz, hP, hK, hD0, hO⟩ := hv
  have hts := atoms_spec (ws := Cond.code y cc maxL none :: BG) B.pre
  have hl := lv_entry as (n := maxL) hn
  rw [lg_entry_eq]
  exact body p e s m below meth c _ _ rfl ⟨B.exec, B.bytes, hml, findClass_of_methodNamed B.named, fun w hw => hts w (List.mem_cons_of_mem _ hw)⟩ B.returns B.notSynchronized (name_of_methodNamed B.named B.method).1 hK hP hD0.self (fun q h => Or.inr (by rw [← hsz]; exact h)) va_S.rf hO hl
section CT
variable {p : Program} {l : Launch} {e : Env} {R : Room} {s : State} {m : MethodId} {args : Array Value} {below : List Frame} {meth : Method} {c : Code} {H : Heap} {locs : List Loc} {Q : State → Prop} {own C : String} {idx n nL maxL pc cells slots mc ms : Nat} {y : MethodName} {cc bytes : ByteArray} {rm : Room} {g : Gx} {ws wc wr : va_W} {b : Nat} {As rest st0 : List Value} {T : u_T} {ls : Array Slot} {lv : List (Nat × Value)} {A : Nat → Prop}
theorem newI (hC : CallFix p m c cc nL s args BG own) (hK : Kg g s) (hP : Pg g ws H) (hD : va_D A ws) (hS : va_S A s.heap H locs) (hA : ∀ q : Nat, s.heap.size ≤ q → A q) (hw : Cond.arrayClass .int ∈ BG) {n : Int32} (N : Nat) (hn : ¬ n < 0) (hN : n.toNatClampNeg = N) (hb : N * 4 ≤ 536870912) (hc1 : cells + 1 ≤ R.cells) (hs1 : slots + N ≤ R.slots) (hdg : decode cc pc = .ok (.newarray .int, 2))
    (kk : ∀ (q : Nat) (H : Heap), Pg g (ws ++ [(q, .inl (g.2.1, N, .inl (fun _ => 0)))]) H → va_D A (ws ++ [(q, .inl (g.2.1, N, .inl (fun _ => 0)))]) → va_S A s.heap H locs → W p l e R s m args below meth c H locs (cells + 1) (slots + N) Q (F0 m (pc + 2) ls (.ref q :: rest))) : W p l e R s m args below meth c H locs cells slots Q (F0 m pc ls (.int n :: rest)) := by
  refine va_newa (atype := .int) (a0 := (N, .inl (fun _ => 0))) hC.1 hC.2.1 (hC.2.2.2.2 _ hw) (ty := .int) rfl hK hP hD hS hA (fun cA => rfl) hn hN hb hc1 hs1 hdg (fun q cA H1 hK1 hP1 hD1 hS1 => ?_)
  have e1 : cA = g.2.1 := by
    have a1 := (hK1.2 3 (cA, .int) rfl).2
    have a2 := (hK1.2 0 (g.2.1, .int) rfl).2
    exact Option.some.inj (a1.symm.trans a2)
  subst e1
  exact kk q H1 hP1 hD1 hS1
theorem newJ (hC : CallFix p m c cc nL s args BG own) (hK : Kg g s) (hP : Pg g ws H) (hD : va_D A ws) (hS : va_S A s.heap H locs) (hA : ∀ q : Nat, s.heap.size ≤ q → A q) (hw : Cond.arrayClass .long ∈ BG) {n : Int32} (N : Nat) (hn : ¬ n < 0) (hN : n.toNatClampNeg = N) (hb : N * 8 ≤ 536870912) (hc1 : cells + 1 ≤ R.cells) (hs1 : slots + N ≤ R.slots) (hdg : decode cc pc = .ok (.newarray .long, 2))
    (kk : ∀ (q : Nat) (H : Heap), Pg g (ws ++ [(q, .inl (g.2.2.1, N, .inr (.inl (fun _ => 0))))]) H → va_D A (ws ++ [(q, .inl (g.2.2.1, N, .inr (.inl (fun _ => 0))))]) → va_S A s.heap H locs → W p l e R s m args below meth c H locs (cells + 1) (slots + N) Q (F0 m (pc + 2) ls (.ref q :: rest))) : W p l e R s m args below meth c H locs cells slots Q (F0 m pc ls (.int n :: rest)) := by
  refine va_newa (atype := .long) (a0 := (N, .inr (.inl (fun _ => 0)))) hC.1 hC.2.1 (hC.2.2.2.2 _ hw) (ty := .long) rfl hK hP hD hS hA (fun cA => rfl) hn hN hb hc1 hs1 hdg (fun q cA H1 hK1 hP1 hD1 hS1 => ?_)
  have e1 : cA = g.2.2.1 := by
    have a1 := (hK1.2 3 (cA, .long) rfl).2
    have a2 := (hK1.2 1 (g.2.2.1, .long) rfl).2
    exact Option.some.inj (a1.symm.trans a2)
  subst e1
  exact kk q H1 hP1 hD1 hS1
theorem newQ (hC : CallFix p m c cc nL s args BG own) (hK : Kg g s) (hO : va_AO RX5 s) (hP : Pg g ws H) (hD : va_D A ws) (hS : va_S A s.heap H locs) (hA : ∀ q : Nat, s.heap.size ≤ q → A q) (hw : Cond.classLink own idx RX5 ∈ BG) {n : Int32} (N : Nat) (hn : ¬ n < 0) (hN : n.toNatClampNeg = N) (hb : N * 4 ≤ 536870912) (hc1 : cells + 1 ≤ R.cells) (hs1 : slots + N ≤ R.slots) (hdg : decode cc pc = .ok (.anewarray idx, 3))
    (kk : ∀ (q : Nat) (H : Heap), Pg g (ws ++ [(q, .inl (g.2.2.2, N, .inr (.inr (.inr (.inr (fun _ => none))))))]) H → va_D A (ws ++ [(q, .inl (g.2.2.2, N, .inr (.inr (.inr (.inr (fun _ => none))))))]) → va_S A s.heap H locs → W p l e R s m args below meth c H locs (cells + 1) (slots + N) Q (F0 m (pc + 3) ls (.ref q :: rest))) : W p l e R s m args below meth c H locs cells slots Q (F0 m pc ls (.int n :: rest)) := by
  refine va_newq hC.1 hC.2.1 hC.2.2.2.1 (hC.2.2.2.2 _ hw) hO hK hP hD hS hA hn hN hb hc1 hs1 hdg (fun q cA H1 hK1 hP1 hD1 hS1 => ?_)
  have e1 : cA = g.2.2.2 := by
    obtain ⟨_, _, _, _, _, a1⟩ := (hK1.2 3 (cA, .object RX5) rfl).2
    obtain ⟨_, _, _, _, _, a2⟩ := (hK1.2 2 (g.2.2.2, .object RX5) rfl).2
    exact Option.some.inj (a1.symm.trans a2)
  subst e1
  exact kk q H1 hP1 hD1 hS1
def LkI (own : String) (idx : Nat) (y : MethodName) (bytes : ByteArray) (maxL : Nat) (n : Nat) : Prop :=
  Cond.methodLink own idx y ∈ BG ∧ Cond.instanceMethod y ∈ BG ∧ Cond.initialized y.cls ∈ BG ∧ Cond.code y bytes maxL none ∈ BG ∧ y.name = "<init>" ∧ (y.cls ≠ "java/lang/invoke/MethodHandle" ∧ y.cls ≠ "java/lang/invoke/VarHandle" ∧ (parseMethodDescriptor y.desc).map (fun d => d.parameters.length) = some n)
theorem callCI {S : Type} {post : S → Prop} {wf : S → va_W} (hC : CallFix p m c cc nL s args BG own)
    (hM : Met l y (Cond.code y bytes maxL none :: BG) rm (PcC (.ref b :: As) g wc H.size) (QC g wc post wf H.size) mc ms (va_A wc H.size))
    (hL : LkI own idx y bytes maxL n) (hrc : rm.cells = mc) (hrs : rm.slots = ms) (hR : rm.frames + 1 ≤ R.frames ∧ 8 + (maxL + 11) + rm.locals ≤ R.locals) (hcs : cells + mc ≤ R.cells ∧ slots + ms ≤ R.slots)
    (hP : Pg g ws H) (hK : Kg g s) (hO : va_AO RX5 s) (hD : va_D A ws) (hA : ∀ q : Nat, s.heap.size ≤ q → A q) (hS : va_S A s.heap H locs)
    (isC isR : List Nat) (hc1 : isC.map (fun i => ws[i]?) = wc.map some) (hc2 : isR.map (fun i => ws[i]?) = wr.map some) (hc3 : isC.filterMap (fun i => ws[i]?) = wc) (hn1 : va_nd isC = true) (hn2 : va_nd isR = true) (hdis : ∀ i ∈ isR, i ∉ isC)
    (hn : As.length = n) (hst : st0 = As.reverse ++ .ref b :: rest) (hls : lv_has ls nL lv) (hroom : (rest.map fun v => v.category).sum ≤ 8)
    (hdg : decode cc pc = .ok (.invokespecial idx, 3))
    (k : ∀ (u : S) (H : Heap) (locs : List Loc), post u → Pg g (wr ++ wf u) H → va_D A (wr ++ wf u) → va_S A s.heap H locs → W p l e R s m args below meth c H locs (cells + mc) (slots + ms) Q (F0 m (pc + 3) ls rest)) : W p l e R s m args below meth c H locs cells slots Q (F0 m pc ls st0) := by
  obtain ⟨w1, w2, w3, w4, w5, w6⟩ := hL
  have hts := hC.2.2.2.2
  have hPc := hP.sub isC hc3
  have hDc := hD.sub isC hn1 hc1
  have hFc := va_free (wc := wc) hD hS hA isC hc1
  refine va_callv (va_runI hC hM (cwI n hts (bg_mem (fun w hw => by rcases List.mem_cons.mp hw with rfl | h <;> first | exact w4 | exact h)) rfl hrc hrs (hts _ w3) (hts _ w1) (hts _ w2) w5 w6 hR) ⟨blC, fun U hU hW => ⟨rfl, by rw [hU], by rw [hU]; exact hPc, va_K.moved hW.alike hK, hDc.weaken (fun _ _ _ _ => trivial), hO.moved hW.alike⟩⟩ rfl hn hls.1 hst (lv_room hroom) hdg hcs) hS (fun q _ h => hFc q h) hFc (fun u t H1 locs1 ht hvm hw hB hz1 hk1 hS1 => ?_)
  obtain ⟨hP1, hK1, hD1⟩ := hB
  rw [ht] at hP1
  obtain ⟨hP2, hD2⟩ := va_join (wr := wr) (w1 := wf u) hP hD isC isR hc1 hc2 hn2 hdis hk1 hFc hP1 hD1
  exact k u H1 locs1 hw hP2 hD2 hS1
end CT
theorem ac_int : Cond.arrayClass .int ∈ BG := bg_1 49 (by decide +kernel) rfl
theorem ac_long : Cond.arrayClass .long ∈ BG := bg_1 163 (by decide +kernel) rfl
theorem cl_L_7 : Cond.classLink RL 7 RX7 ∈ BG := bg_1 11 (by decide +kernel) rfl
theorem in_X7 : Cond.instantiable RX7 12 ∈ BG := bg_1 12 (by decide +kernel) rfl
theorem li_L_9 : LkI RL 9 yX7_init cX7_init 1 0 := ⟨ml_L_9, im_X7_init, ini_X7, cd_X7_init, rfl, by decide +kernel⟩
theorem oi_X7_1 : Cond.methodLink RX7 1 objectInit ∈ BG := bg_1 16 (by decide +kernel) rfl
theorem cl_X7_7 : Cond.classLink RX7 7 RX1 ∈ BG := bg_1 19 (by decide +kernel) rfl
theorem in_X1 : Cond.instantiable RX1 9 ∈ BG := bg_1 20 (by decide +kernel) rfl
theorem li_X7_9 : LkI RX7 9 yX1_init cX1_init 2 0 := ⟨ml_X7_9, im_X1_init, ini_X1, cd_X1_init, rfl, by decide +kernel⟩
theorem oi_X1_3 : Cond.methodLink RX1 3 objectInit ∈ BG := bg_1 24 (by decide +kernel) rfl
theorem cl_X1_27 : Cond.classLink RX1 27 RX5 ∈ BG := bg_1 25 (by decide +kernel) rfl
theorem in_X5 : Cond.instantiable RX5 4 ∈ BG := bg_1 27 (by decide +kernel) rfl
theorem li_X1_33 : LkI RX1 33 yX5_init cX5_init 1 0 := ⟨ml_X1_33, im_X5_init, ini_X5, cd_X5_init, rfl, by decide +kernel⟩
theorem oi_X5_1 : Cond.methodLink RX5 1 objectInit ∈ BG := bg_1 31 (by decide +kernel) rfl
theorem cl_X7_22 : Cond.classLink RX7 22 RX6 ∈ BG := bg_1 88 (by decide +kernel) rfl
theorem in_X6 : Cond.instantiable RX6 3 ∈ BG := bg_1 89 (by decide +kernel) rfl
theorem li_X7_24 : LkI RX7 24 yX6_init cX6_init 1 0 := ⟨ml_X7_24, im_X6_init, ini_X6, cd_X6_init, rfl, by decide +kernel⟩
theorem oi_X6_1 : Cond.methodLink RX6 1 objectInit ∈ BG := bg_1 93 (by decide +kernel) rfl
theorem cl_X7_29 : Cond.classLink RX7 29 RX4 ∈ BG := bg_1 105 (by decide +kernel) rfl
theorem in_X4 : Cond.instantiable RX4 10 ∈ BG := bg_1 106 (by decide +kernel) rfl
theorem li_X7_31 : LkI RX7 31 yX4_init cX4_init 2 1 := ⟨ml_X7_31, im_X4_init, ini_X4, cd_X4_init, rfl, by decide +kernel⟩
theorem oi_X4_5 : Cond.methodLink RX4 5 objectInit ∈ BG := bg_1 110 (by decide +kernel) rfl
theorem cl_X7_38 : Cond.classLink RX7 38 RX3 ∈ BG := bg_1 150 (by decide +kernel) rfl
theorem in_X3 : Cond.instantiable RX3 2 ∈ BG := bg_1 151 (by decide +kernel) rfl
theorem li_X7_40 : LkI RX7 40 yX3_init cX3_init 1 0 := ⟨ml_X7_40, im_X3_init, ini_X3, cd_X3_init, rfl, by decide +kernel⟩
theorem oi_X3_3 : Cond.methodLink RX3 3 objectInit ∈ BG := bg_1 155 (by decide +kernel) rfl
theorem cl_X7_45 : Cond.classLink RX7 45 RX0 ∈ BG := bg_1 164 (by decide +kernel) rfl
theorem in_X0 : Cond.instantiable RX0 3 ∈ BG := bg_1 165 (by decide +kernel) rfl
theorem li_X7_47 : LkI RX7 47 yX0_init cX0_init 1 0 := ⟨ml_X7_47, im_X0_init, ini_X0, cd_X0_init, rfl, by decide +kernel⟩
theorem oi_X0_3 : Cond.methodLink RX0 3 objectInit ∈ BG := bg_1 169 (by decide +kernel) rfl
theorem cl_X7_52 : Cond.classLink RX7 52 RX5 ∈ BG := bg_1 180 (by decide +kernel) rfl
theorem li_X7_54 : LkI RX7 54 yX5_init cX5_init 1 0 := ⟨ml_X7_54, im_X5_init, ini_X5, cd_X5_init, rfl, by decide +kernel⟩
theorem cl_L_10 : Cond.classLink RL 10 RX8 ∈ BG := bg_4 8 (by decide +kernel) rfl
theorem in_X8 : Cond.instantiable RX8 41 ∈ BG := bg_4 9 (by decide +kernel) rfl
theorem li_L_12 : LkI RL 12 yX8_init cX8_init 1 0 := ⟨ml_L_12, im_X8_init, ini_X8, cd_X8_init, rfl, by decide +kernel⟩
theorem oi_X8_1 : Cond.methodLink RX8 1 objectInit ∈ BG := bg_4 13 (by decide +kernel) rfl
theorem oi_im : Cond.instanceMethod objectInit ∈ BG := bg_1 17 (by decide +kernel) rfl
theorem oi_cd : Cond.code objectInit ⟨#[0xb1]⟩ 1 none ∈ BG := bg_1 18 (by decide +kernel) rfl
