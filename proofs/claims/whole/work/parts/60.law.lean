/-! ===== the law: its calls over two worlds side by side ===== -/
theorem va_D_addr {A : Nat → Prop} {ws ws' : va_W} (h : va_D A ws) (e : ws'.map (fun q => q.1) = ws.map (fun q => q.1)) : va_D A ws' := by
  have key : ∀ (k : Nat) (q : Nat × va_E), ws'[k]? = some q → ∃ p, ws[k]? = some p ∧ p.1 = q.1 := by
    intro k q hq
    have h1 : (ws'.map (fun q => q.1))[k]? = some q.1 := by rw [List.getElem?_map, hq]; rfl
    rw [e, List.getElem?_map] at h1
    cases hp : ws[k]? with
    | none => rw [hp] at h1; cases h1
    | some p => rw [hp] at h1; exact ⟨p, rfl, Option.some.inj h1⟩
  refine ⟨fun i j p q hi hj hpq => ?_, fun k q hk => ?_⟩
  · obtain ⟨p', h1, h2⟩ := key i p hi
    obtain ⟨q', h3, h4⟩ := key j q hj
    exact h.1 i j p' q' h1 h3 (h2.trans (hpq.trans h4.symm))
  · obtain ⟨p, h1, h2⟩ := key k q hk
    rw [← h2]
    exact h.2 k p h1
theorem xDs {A : Nat → Prop} {ad : Nat → Nat} {g : Gx} {I I' : SI} {J J' : SJ} (h : va_D A (xW ad g I J)) : va_D A (xW ad g I' J') := va_D_addr h rfl
theorem mDs {A : Nat → Prop} {ad : Nat → Nat} {g : Gx} {I I' : SI} {J J' : SJ} (h : va_D A (mW ad g I J)) : va_D A (mW ad g I' J') := va_D_addr h rfl
def Apart (ad bd : Nat → Nat) : Prop := ∀ i j : Nat, i < 62 → j < 22 → ad i ≠ bd j
theorem xAdr {ad : Nat → Nat} {g : Gx} {I : SI} {J : SJ} {k : Nat} {q : Nat × va_E} (h : (xW ad g I J)[k]? = some q) : k < 62 ∧ q.1 = ad k := by
  have h1 : ((xW ad g I J).map (fun q => q.1))[k]? = some q.1 := by rw [List.getElem?_map, h]; rfl
  have h2 : (xW ad g I J).map (fun q => q.1) = (List.range 62).map ad := rfl
  rw [h2, List.getElem?_map] at h1
  by_cases hk : k < 62
  · rw [List.getElem?_range hk] at h1
    exact ⟨hk, (Option.some.inj h1).symm⟩
  · rw [List.getElem?_eq_none (by rw [List.length_range]; omega)] at h1
    cases h1
theorem mAdr {ad : Nat → Nat} {g : Gx} {I : SI} {J : SJ} {k : Nat} {q : Nat × va_E} (h : (mW ad g I J)[k]? = some q) : k < 22 ∧ q.1 = ad k := by
  have h1 : ((mW ad g I J).map (fun q => q.1))[k]? = some q.1 := by rw [List.getElem?_map, h]; rfl
  have h2 : (mW ad g I J).map (fun q => q.1) = (List.range 22).map ad := rfl
  rw [h2, List.getElem?_map] at h1
  by_cases hk : k < 22
  · rw [List.getElem?_range hk] at h1
    exact ⟨hk, (Option.some.inj h1).symm⟩
  · rw [List.getElem?_eq_none (by rw [List.length_range]; omega)] at h1
    cases h1
theorem keepW {g : Gx} {wx wo : va_W} {H H1 : Heap} (hPo : Pg g wo H) (hne : ∀ (i j : Nat) (p q : Nat × va_E), wx[i]? = some p → wo[j]? = some q → p.1 ≠ q.1) (hk : ∀ q : Nat, q < H.size → ¬ va_A wx H.size q → H1[q]? = H[q]?) : Pg g wo H1 := by
  refine hPo.kept (fun k q hq => hk q.1 ((hPo k q hq).lt) (fun h => ?_))
  rcases h with ⟨k2, e, h⟩ | h
  · exact hne k2 k _ q h hq rfl
  · exact absurd (hPo k q hq).lt (Nat.not_lt.mpr h)
theorem neXM {ad bd : Nat → Nat} (h : Apart ad bd) {g : Gx} {I M : SI} {J N : SJ} : ∀ (i j : Nat) (p q : Nat × va_E), (xW ad g I J)[i]? = some p → (mW bd g M N)[j]? = some q → p.1 ≠ q.1 := fun i j p q hp hq => by
  obtain ⟨h1, h2⟩ := xAdr hp
  obtain ⟨h3, h4⟩ := mAdr hq
  rw [h2, h4]
  exact h i j h1 h3
theorem neMX {ad bd : Nat → Nat} (h : Apart ad bd) {g : Gx} {I M : SI} {J N : SJ} : ∀ (i j : Nat) (p q : Nat × va_E), (mW bd g M N)[i]? = some p → (xW ad g I J)[j]? = some q → p.1 ≠ q.1 := fun i j p q hp hq e => neXM h j i q p hq hp e.symm
section LC
variable {p : Program} {l : Launch} {e : Env} {R : Room} {s : State} {m : MethodId} {args : Array Value} {below : List Frame} {meth : Method} {c : Code} {H : Heap} {locs : List Loc} {Q : State → Prop} {own C : String} {idx n nL maxL q0 ci nf pc cells slots : Nat} {y : MethodName} {cc bytes : ByteArray} {ret : Option FieldType} {rm : Room} {g : Gx} {ws ws1 wo : va_W} {b qm : Nat} {As rest st0 fs : List Value} {T : u_T} {ls : Array Slot} {lv : List (Nat × Value)} {A : Nat → Prop} {Pc : Array Value → State → Prop}
abbrev PcOk (s : State) (H : Heap) (Pc : Array Value → State → Prop) (a : Array Value) : Prop := FrameBlind Pc ∧ ∀ U : State, U.heap = H → s.vm.Alike U.vm → Pc a U
theorem okW {as : List Value} (hP : Pg g ws H) (hK : Kg g s) (hD : va_D A ws) : PcOk s H (PcW as g ws H.size) as.toArray :=
  ⟨blW, fun U hU hW => ⟨rfl, by rw [hU], by rw [hU]; exact hP, va_K.moved hW hK, hD.weaken (fun _ _ _ _ => trivial)⟩⟩
theorem okWM {as : List Value} (hP : Pg g ws H) (hK : Kg g s) (hD : va_D A ws) (hA : ∀ q : Nat, s.heap.size ≤ q → A q) (hS : va_S A s.heap H locs) (hZ : ZM qm A s) : PcOk s H (PcWM as g ws H.size qm) as.toArray :=
  ⟨blWM, fun U hU hW => ⟨rfl, by rw [hU], by rw [hU]; exact hP, va_K.moved hW hK, hD.weaken (fun _ _ _ _ => trivial), hZ.call hS (frA hD hS hA) hU hW⟩⟩
theorem lawI {r : Int32} (hC : CallFix p m c cc nL s args BG own)
    (hM : Met l y (Cond.code y bytes maxL ret :: BG) rm Pc (QWi r g ws ws1 H.size) 0 0 (va_A ws H.size)) (hPc : PcOk s H Pc (Value.ref b :: As).toArray)
    (hL : LkV own idx C y bytes maxL ret n) (hrc : rm.cells = 0) (hrs : rm.slots = 0) (hR : rm.frames + 1 ≤ R.frames ∧ 8 + (maxL + 11) + rm.locals ≤ R.locals) (hcs : cells ≤ R.cells ∧ slots ≤ R.slots)
    (hP : Pg g ws H) (hK : Kg g s) (hD : va_D A ws) (hA : ∀ q : Nat, s.heap.size ≤ q → A q) (hS : va_S A s.heap H locs) (he : ws[q0]? = some (b, .inr (ci, fs))) (hc : classes[ci]? = some (C, T, nf))
    (hPo : Pg g wo H) (hne : ∀ (i j : Nat) (p q : Nat × va_E), ws[i]? = some p → wo[j]? = some q → p.1 ≠ q.1)
    (hn : As.length = n) (hst : st0 = As.reverse ++ .ref b :: rest) (hls : lv_has ls nL lv) (hroom : (rest.map fun v => v.category).sum ≤ 8)
    (hdg : decode cc pc = .ok (.invokevirtual idx, 3))
    (k : ∀ (H : Heap) (locs : List Loc), Pg g ws1 H → Pg g wo H → va_S A s.heap H locs → W p l e R s m args below meth c H locs cells slots Q (F0 m (pc + 3) ls (.int r :: rest))) : W p l e R s m args below meth c H locs cells slots Q (F0 m pc ls st0) := by
  refine va_calli (va_runV hC hM (cwV n hC.2.2.2.2 hL.1 rfl hrc hrs hL.2 hR) ⟨hPc.1, va_recv hK hP hc he, fun U hU hW => hPc.2 U hU hW.alike⟩ rfl hn hls.1 hst (lv_room hroom) hdg ⟨hcs.1, hcs.2⟩) hS (fun q _ h => frA hD hS hA q h) (frA hD hS hA) (fun r1 u t H1 locs1 ht hvm hw hB hz1 hk1 hS1 => ?_)
  obtain ⟨hP1, hK1, hD1⟩ := hB
  rw [ht] at hP1
  subst hw
  exact k H1 locs1 hP1 (keepW hPo hne hk1) hS1
theorem lawL {r : Int64} (hC : CallFix p m c cc nL s args BG own)
    (hM : Met l y (Cond.code y bytes maxL ret :: BG) rm Pc (QWl r g ws ws1 H.size) 0 0 (va_A ws H.size)) (hPc : PcOk s H Pc (Value.ref b :: As).toArray)
    (hL : LkV own idx C y bytes maxL ret n) (hrc : rm.cells = 0) (hrs : rm.slots = 0) (hR : rm.frames + 1 ≤ R.frames ∧ 8 + (maxL + 11) + rm.locals ≤ R.locals) (hcs : cells ≤ R.cells ∧ slots ≤ R.slots)
    (hP : Pg g ws H) (hK : Kg g s) (hD : va_D A ws) (hA : ∀ q : Nat, s.heap.size ≤ q → A q) (hS : va_S A s.heap H locs) (he : ws[q0]? = some (b, .inr (ci, fs))) (hc : classes[ci]? = some (C, T, nf))
    (hPo : Pg g wo H) (hne : ∀ (i j : Nat) (p q : Nat × va_E), ws[i]? = some p → wo[j]? = some q → p.1 ≠ q.1)
    (hn : As.length = n) (hst : st0 = As.reverse ++ .ref b :: rest) (hls : lv_has ls nL lv) (hroom : (rest.map fun v => v.category).sum ≤ 8)
    (hdg : decode cc pc = .ok (.invokevirtual idx, 3))
    (k : ∀ (H : Heap) (locs : List Loc), Pg g ws1 H → Pg g wo H → va_S A s.heap H locs → W p l e R s m args below meth c H locs cells slots Q (F0 m (pc + 3) ls (.long r :: rest))) : W p l e R s m args below meth c H locs cells slots Q (F0 m pc ls st0) := by
  refine va_calll (va_runV hC hM (cwV n hC.2.2.2.2 hL.1 rfl hrc hrs hL.2 hR) ⟨hPc.1, va_recv hK hP hc he, fun U hU hW => hPc.2 U hU hW.alike⟩ rfl hn hls.1 hst (lv_room hroom) hdg ⟨hcs.1, hcs.2⟩) hS (fun q _ h => frA hD hS hA q h) (frA hD hS hA) (fun r1 u t H1 locs1 ht hvm hw hB hz1 hk1 hS1 => ?_)
  obtain ⟨hP1, hK1, hD1⟩ := hB
  rw [ht] at hP1
  subst hw
  exact k H1 locs1 hP1 (keepW hPo hne hk1) hS1
theorem lawR {r : Value} (hC : CallFix p m c cc nL s args BG own)
    (hM : Met l y (Cond.code y bytes maxL ret :: BG) rm (va_Pc (.ref b :: As) (fun U => Pg g ws U.heap ∧ Kg g U)) (k2_QcV r) 0 0 (fun _ => False))
    (hL : LkV own idx C y bytes maxL ret n) (hrc : rm.cells = 0) (hrs : rm.slots = 0) (hR : rm.frames + 1 ≤ R.frames ∧ 8 + (maxL + 11) + rm.locals ≤ R.locals) (hcs : cells ≤ R.cells ∧ slots ≤ R.slots)
    (hP : Pg g ws H) (hK : Kg g s) (he : ws[q0]? = some (b, .inr (ci, fs))) (hc : classes[ci]? = some (C, T, nf))
    (hn : As.length = n) (hst : st0 = As.reverse ++ .ref b :: rest) (hls : lv_has ls nL lv) (hroom : (rest.map fun v => v.category).sum ≤ 8)
    (hdg : decode cc pc = .ok (.invokevirtual idx, 3))
    (k : W p l e R s m args below meth c H locs cells slots Q (F0 m (pc + 3) ls (r :: rest))) : W p l e R s m args below meth c H locs cells slots Q (F0 m pc ls st0) := by
  intro T0 hT X
  obtain ⟨v, st₀, t, T', L, h0, X', hL2, e1, ⟨hv, hh⟩, st⟩ := W.runV hC hM (cwV n hC.2.2.2.2 hL.1 rfl hrc hrs hL.2 hR) ⟨blR, va_recv hK hP hc he, fun U hU hW => ⟨rfl, by rw [hU]; exact hP, va_K.moved hW.alike hK⟩⟩ (g := F0 m pc ls st0) rfl hn hls.1 hst (lv_room hroom) hdg (cells := cells) (slots := slots) ⟨hcs.1, hcs.2⟩ T0 hT X
  cases hv
  obtain ⟨t2, a1, b1⟩ := k T' (by rw [e1, hh, h0]) (Stand.forget X' (fun q h => (hL2 q h).elim))
  exact ⟨t2, st t2 a1, b1⟩
end LC
theorem inK {ix K : Int32} {t L k : Nat} (hix : ix = nI (8 * t)) (hK : K = nI k) (h : 8 * t + k < L) (hL : L ≤ 4096) : vp_in (ix + K) L := by
  rw [hix, hK, nI_add]
  exact vp_in_nI h (by omega)
theorem law_go {L t : Nat} {ix : Int32} (hL : L ≤ 4096) (ht : t ≤ 512) (hix : ix = nI (8 * t)) (h : ¬ Int32.ofNat L - 8 < ix) : 8 * t + 8 ≤ L := by
  rw [hix] at h
  have e1 : (Int32.ofNat L - 8).toInt = (L : Int) - 8 := pk_sub_toInt (a := L) (b := 8) (by omega) (by omega)
  have e2 : (nI (8 * t)).toInt = ((8 * t : Nat) : Int) := nI_toInt (by omega)
  rw [Int32.lt_iff_toInt_lt, e1, e2] at h
  omega

def St0 (Rl : SI → SJ → SI → SJ → Prop) : Prop := ∀ (I : SI) (J : SJ) (M : SI) (N : SJ) (v1 : Int32) (v2 : Int64), Rl I J M N → ∃ (r : Int32) (I1 : SI) (J1 : SJ) (M1 : SI) (N1 : SJ), F_X7_feed I J v1 v2 = some (r, I1, J1) ∧ F_X8_feed M N v1 v2 = some (r, M1, N1) ∧ Rl I1 J1 M1 N1
def St1 (Rl : SI → SJ → SI → SJ → Prop) : Prop := ∀ (I : SI) (J : SJ) (M : SI) (N : SJ), Rl I J M N → ∃ (r : Int32) (I1 : SI) (J1 : SJ) (M1 : SI) (N1 : SJ), F_X7_field I J = some (r, I1, J1) ∧ F_X8_field M N = some (r, M1, N1) ∧ Rl I1 J1 M1 N1
def St2 (Rl : SI → SJ → SI → SJ → Prop) : Prop := ∀ (I : SI) (J : SJ) (M : SI) (N : SJ), Rl I J M N → ∃ (r : Int32) (I1 : SI) (J1 : SJ) (M1 : SI) (N1 : SJ), F_X7_term I J = some (r, I1, J1) ∧ F_X8_term M N = some (r, M1, N1) ∧ Rl I1 J1 M1 N1
def St3 (Rl : SI → SJ → SI → SJ → Prop) : Prop := ∀ (I : SI) (J : SJ) (M : SI) (N : SJ) (v1 : Int32) (v2 : Int32), Rl I J M N → ∃ (r : Int32) (I1 : SI) (J1 : SJ) (M1 : SI) (N1 : SJ), F_X7_termOf I J v1 v2 = some (r, I1, J1) ∧ F_X8_termOf M N v1 v2 = some (r, M1, N1) ∧ Rl I1 J1 M1 N1
def St4 (Rl : SI → SJ → SI → SJ → Prop) : Prop := ∀ (I : SI) (J : SJ) (M : SI) (N : SJ) (v1 : Int32) (v2 : Int32), Rl I J M N → ∃ (r : Int32) (I1 : SI) (J1 : SJ) (M1 : SI) (N1 : SJ), F_X7_set I J v1 v2 = some (r, I1, J1) ∧ F_X8_set M N v1 v2 = some (r, M1, N1) ∧ Rl I1 J1 M1 N1
def St5 (Rl : SI → SJ → SI → SJ → Prop) : Prop := ∀ (I : SI) (J : SJ) (M : SI) (N : SJ) (v1 : Int32) (v2 : Int32), Rl I J M N → ∃ (r : Int32) (I1 : SI) (J1 : SJ) (M1 : SI) (N1 : SJ), F_X7_weather I J v1 v2 = some (r, I1, J1) ∧ F_X8_weather M N v1 v2 = some (r, M1, N1) ∧ Rl I1 J1 M1 N1
def St6 (Rl : SI → SJ → SI → SJ → Prop) : Prop := ∀ (I : SI) (J : SJ) (M : SI) (N : SJ) (v1 : Int32) (v2 : Int32), Rl I J M N → ∃ (r : Int32) (I1 : SI) (J1 : SJ) (M1 : SI) (N1 : SJ), F_X7_harvest I J v1 v2 = some (r, I1, J1) ∧ F_X8_harvest M N v1 v2 = some (r, M1, N1) ∧ Rl I1 J1 M1 N1
def St7 (Rl : SI → SJ → SI → SJ → Prop) : Prop := ∀ (I : SI) (J : SJ) (M : SI) (N : SJ) (v1 : Int32) (v2 : Int32) (v3 : Int32) (v4 : Int32), Rl I J M N → ∃ (r : Int32) (I1 : SI) (J1 : SJ) (M1 : SI) (N1 : SJ), F_X7_whose I J v1 v2 v3 v4 = some (r, I1, J1) ∧ F_X8_whose M N v1 v2 v3 v4 = some (r, M1, N1) ∧ Rl I1 J1 M1 N1
def St8 (Rl : SI → SJ → SI → SJ → Prop) : Prop := ∀ (I : SI) (J : SJ) (M : SI) (N : SJ) (v1 : Int32) (v2 : Int32), Rl I J M N → ∃ (r : Int32) (I1 : SI) (J1 : SJ) (M1 : SI) (N1 : SJ), F_X7_mind I J v1 v2 = some (r, I1, J1) ∧ F_X8_mind M N v1 v2 = some (r, M1, N1) ∧ Rl I1 J1 M1 N1
def St9 (Rl : SI → SJ → SI → SJ → Prop) : Prop := ∀ (I : SI) (J : SJ) (M : SI) (N : SJ) (v1 : Int32) (v2 : Int32) (v3 : Int32), Rl I J M N → ∃ (r : Int64) (I1 : SI) (J1 : SJ) (M1 : SI) (N1 : SJ), F_X7_worth I J v1 v2 v3 = some (r, I1, J1) ∧ F_X8_worth M N v1 v2 v3 = some (r, M1, N1) ∧ Rl I1 J1 M1 N1
def St10 (Rl : SI → SJ → SI → SJ → Prop) : Prop := ∀ (I : SI) (J : SJ) (M : SI) (N : SJ) (v1 : Int32), Rl I J M N → ∃ (r : Int32) (I1 : SI) (J1 : SJ) (M1 : SI) (N1 : SJ), F_X7_pains I J v1 = some (r, I1, J1) ∧ F_X8_pains M N v1 = some (r, M1, N1) ∧ Rl I1 J1 M1 N1
def St11 (Rl : SI → SJ → SI → SJ → Prop) : Prop := ∀ (I : SI) (J : SJ) (M : SI) (N : SJ) (v1 : Int32), Rl I J M N → ∃ (r : Int32) (I1 : SI) (J1 : SJ) (M1 : SI) (N1 : SJ), F_X7_takes I J v1 = some (r, I1, J1) ∧ F_X8_takes M N v1 = some (r, M1, N1) ∧ Rl I1 J1 M1 N1
def St12 (Rl : SI → SJ → SI → SJ → Prop) : Prop := ∀ (I : SI) (J : SJ) (M : SI) (N : SJ) (v1 : Int32) (v2 : Int32) (v3 : Int32), Rl I J M N → ∃ (r : Int32) (I1 : SI) (J1 : SJ) (M1 : SI) (N1 : SJ), F_X7_mean I J v1 v2 v3 = some (r, I1, J1) ∧ F_X8_mean M N v1 v2 v3 = some (r, M1, N1) ∧ Rl I1 J1 M1 N1
def St13 (Rl : SI → SJ → SI → SJ → Prop) : Prop := ∀ (I : SI) (J : SJ) (M : SI) (N : SJ), Rl I J M N → ∃ (r : Int32) (I1 : SI) (J1 : SJ) (M1 : SI) (N1 : SJ), F_X7_proof I J = some (r, I1, J1) ∧ F_X8_proof M N = some (r, M1, N1) ∧ Rl I1 J1 M1 N1
def St14 (Rl : SI → SJ → SI → SJ → Prop) : Prop := ∀ (I : SI) (J : SJ) (M : SI) (N : SJ), Rl I J M N → ∃ (r : Int64) (I1 : SI) (J1 : SJ) (M1 : SI) (N1 : SJ), F_X7_gap I J = some (r, I1, J1) ∧ F_X8_gap M N = some (r, M1, N1) ∧ Rl I1 J1 M1 N1
def St15 (Rl : SI → SJ → SI → SJ → Prop) : Prop := ∀ (I : SI) (J : SJ) (M : SI) (N : SJ), Rl I J M N → ∃ (r : Int64) (I1 : SI) (J1 : SJ) (M1 : SI) (N1 : SJ), F_X7_half I J = some (r, I1, J1) ∧ F_X8_half M N = some (r, M1, N1) ∧ Rl I1 J1 M1 N1
def St16 (Rl : SI → SJ → SI → SJ → Prop) : Prop := ∀ (I : SI) (J : SJ) (M : SI) (N : SJ) (v1 : Int32) (v2 : Int32) (v3 : Int32) (v4 : Int32), Rl I J M N → ∃ (r : Int32) (I1 : SI) (J1 : SJ) (M1 : SI) (N1 : SJ), F_X7_less I J v1 v2 v3 v4 = some (r, I1, J1) ∧ F_X8_less M N v1 v2 v3 v4 = some (r, M1, N1) ∧ Rl I1 J1 M1 N1
def St17 (Rl : SI → SJ → SI → SJ → Prop) : Prop := ∀ (I : SI) (J : SJ) (M : SI) (N : SJ) (v1 : Int32) (v2 : Int32) (v3 : Int32), Rl I J M N → ∃ (r : Int32) (I1 : SI) (J1 : SJ) (M1 : SI) (N1 : SJ), F_X7_looks I J v1 v2 v3 = some (r, I1, J1) ∧ F_X8_looks M N v1 v2 v3 = some (r, M1, N1) ∧ Rl I1 J1 M1 N1
def St18 (Rl : SI → SJ → SI → SJ → Prop) : Prop := ∀ (I : SI) (J : SJ) (M : SI) (N : SJ) (v1 : Int32) (v2 : Int32) (v3 : Int32) (v4 : Int32), Rl I J M N → ∃ (r : Int64) (I1 : SI) (J1 : SJ) (M1 : SI) (N1 : SJ), F_X7_years I J v1 v2 v3 v4 = some (r, I1, J1) ∧ F_X8_years M N v1 v2 v3 v4 = some (r, M1, N1) ∧ Rl I1 J1 M1 N1
def St19 (Rl : SI → SJ → SI → SJ → Prop) : Prop := ∀ (I : SI) (J : SJ) (M : SI) (N : SJ) (v1 : Int32) (v2 : Int32), Rl I J M N → ∃ (r : Int32) (I1 : SI) (J1 : SJ) (M1 : SI) (N1 : SJ), F_X7_leaving I J v1 v2 = some (r, I1, J1) ∧ F_X8_leaving M N v1 v2 = some (r, M1, N1) ∧ Rl I1 J1 M1 N1
def St20 (Rl : SI → SJ → SI → SJ → Prop) : Prop := ∀ (I : SI) (J : SJ) (M : SI) (N : SJ) (v1 : Int32) (v2 : Int32) (v3 : Int32), Rl I J M N → ∃ (r : Int32) (I1 : SI) (J1 : SJ) (M1 : SI) (N1 : SJ), F_X7_offer I J v1 v2 v3 = some (r, I1, J1) ∧ F_X8_offer M N v1 v2 v3 = some (r, M1, N1) ∧ Rl I1 J1 M1 N1
def St21 (Rl : SI → SJ → SI → SJ → Prop) : Prop := ∀ (I : SI) (J : SJ) (M : SI) (N : SJ) (v1 : Int32) (v2 : Int32) (v3 : Int32), Rl I J M N → ∃ (r : Int32) (I1 : SI) (J1 : SJ) (M1 : SI) (N1 : SJ), F_X7_parts I J v1 v2 v3 = some (r, I1, J1) ∧ F_X8_parts M N v1 v2 v3 = some (r, M1, N1) ∧ Rl I1 J1 M1 N1
def St22 (Rl : SI → SJ → SI → SJ → Prop) : Prop := ∀ (I : SI) (J : SJ) (M : SI) (N : SJ) (v1 : Int32) (v2 : Int32), Rl I J M N → ∃ (r : Int32) (I1 : SI) (J1 : SJ) (M1 : SI) (N1 : SJ), F_X7_own I J v1 v2 = some (r, I1, J1) ∧ F_X8_own M N v1 v2 = some (r, M1, N1) ∧ Rl I1 J1 M1 N1
def St23 (Rl : SI → SJ → SI → SJ → Prop) : Prop := ∀ (I : SI) (J : SJ) (M : SI) (N : SJ) (v1 : Int32) (v2 : Int32), Rl I J M N → ∃ (r : Int64) (I1 : SI) (J1 : SJ) (M1 : SI) (N1 : SJ), F_X7_bears I J v1 v2 = some (r, I1, J1) ∧ F_X8_bears M N v1 v2 = some (r, M1, N1) ∧ Rl I1 J1 M1 N1
def St24 (Rl : SI → SJ → SI → SJ → Prop) : Prop := ∀ (I : SI) (J : SJ) (M : SI) (N : SJ) (v1 : Int32) (v2 : Int32) (v3 : Int32) (v4 : Int32) (v5 : Int32) (v6 : Int32), Rl I J M N → ∃ (r : Int32) (I1 : SI) (J1 : SJ) (M1 : SI) (N1 : SJ), F_X7_ruin I J v1 v2 v3 v4 v5 v6 = some (r, I1, J1) ∧ F_X8_ruin M N v1 v2 v3 v4 v5 v6 = some (r, M1, N1) ∧ Rl I1 J1 M1 N1
def St25 (Rl : SI → SJ → SI → SJ → Prop) : Prop := ∀ (I : SI) (J : SJ) (M : SI) (N : SJ) (v1 : Int32) (v2 : Int32) (v3 : Int32) (v4 : Int32) (v5 : Int32), Rl I J M N → ∃ (r : Int32) (I1 : SI) (J1 : SJ) (M1 : SI) (N1 : SJ), F_X7_owes I J v1 v2 v3 v4 v5 = some (r, I1, J1) ∧ F_X8_owes M N v1 v2 v3 v4 v5 = some (r, M1, N1) ∧ Rl I1 J1 M1 N1
def St26 (Rl : SI → SJ → SI → SJ → Prop) : Prop := ∀ (I : SI) (J : SJ) (M : SI) (N : SJ) (v1 : Int32) (v2 : Int32) (v3 : Int32) (v4 : Int32) (v5 : Int32) (v6 : Int32) (v7 : Int32), Rl I J M N → ∃ (r : Int32) (I1 : SI) (J1 : SJ) (M1 : SI) (N1 : SJ), F_X7_ruins I J v1 v2 v3 v4 v5 v6 v7 = some (r, I1, J1) ∧ F_X8_ruins M N v1 v2 v3 v4 v5 v6 v7 = some (r, M1, N1) ∧ Rl I1 J1 M1 N1
def St27 (Rl : SI → SJ → SI → SJ → Prop) : Prop := ∀ (I : SI) (J : SJ) (M : SI) (N : SJ) (v1 : Int32), Rl I J M N → ∃ (r : Int32) (I1 : SI) (J1 : SJ) (M1 : SI) (N1 : SJ), F_X7_row I J v1 = some (r, I1, J1) ∧ F_X8_row M N v1 = some (r, M1, N1) ∧ Rl I1 J1 M1 N1
def St28 (Rl : SI → SJ → SI → SJ → Prop) : Prop := ∀ (I : SI) (J : SJ) (M : SI) (N : SJ) (v1 : Int32) (v2 : Int32), Rl I J M N → ∃ (r : Int32) (I1 : SI) (J1 : SJ) (M1 : SI) (N1 : SJ), F_X7_judge I J v1 v2 = some (r, I1, J1) ∧ F_X8_judge M N v1 v2 = some (r, M1, N1) ∧ Rl I1 J1 M1 N1
def St29 (Rl : SI → SJ → SI → SJ → Prop) : Prop := ∀ (I : SI) (J : SJ) (M : SI) (N : SJ), Rl I J M N → ∃ (r : Int32) (I1 : SI) (J1 : SJ) (M1 : SI) (N1 : SJ), F_X7_image I J = some (r, I1, J1) ∧ F_X8_image M N = some (r, M1, N1) ∧ Rl I1 J1 M1 N1
def St30 (Rl : SI → SJ → SI → SJ → Prop) : Prop := ∀ (I : SI) (J : SJ) (M : SI) (N : SJ), Rl I J M N → ∃ (r : Int32) (I1 : SI) (J1 : SJ) (M1 : SI) (N1 : SJ), F_X7_restore I J = some (r, I1, J1) ∧ F_X8_restore M N = some (r, M1, N1) ∧ Rl I1 J1 M1 N1
def St31 (Rl : SI → SJ → SI → SJ → Prop) : Prop := ∀ (I : SI) (J : SJ) (M : SI) (N : SJ) (v1 : Int32), Rl I J M N → ∃ (r : Int32) (I1 : SI) (J1 : SJ) (M1 : SI) (N1 : SJ), F_X7_count I J v1 = some (r, I1, J1) ∧ (F_X8_count M N v1 = some r ∧ M1 = M ∧ N1 = N) ∧ Rl I1 J1 M1 N1
def Steps_ (Rl : SI → SJ → SI → SJ → Prop) : Prop := St0 Rl ∧ St1 Rl ∧ St2 Rl ∧ St3 Rl ∧ St4 Rl ∧ St5 Rl ∧ St6 Rl ∧ St7 Rl ∧ St8 Rl ∧ St9 Rl ∧ St10 Rl ∧ St11 Rl ∧ St12 Rl ∧ St13 Rl ∧ St14 Rl ∧ St15 Rl ∧ St16 Rl ∧ St17 Rl ∧ St18 Rl ∧ St19 Rl ∧ St20 Rl ∧ St21 Rl ∧ St22 Rl ∧ St23 Rl ∧ St24 Rl ∧ St25 Rl ∧ St26 Rl ∧ St27 Rl ∧ St28 Rl ∧ St29 Rl ∧ St30 Rl ∧ St31 Rl
section LW
variable {p : Program} {e : Env} {s : State} {m : MethodId} {below : List Frame} {meth : Method} {c : Code}

set_option maxHeartbeats 4000000 in
set_option maxRecDepth 100000 in
theorem law_case0 (l : Launch) {b L : Nat} {xs : Nat → Int32} (hL : L ≤ 4096) (hC : CallFix p m c code 4 s #[Value.ref b] BG RL) (hX : va_X b L xs s s.heap) (hbl : b < s.heap.size) (g : Gx) (ad bd : Nat → Nat) (qm : Nat) (hK : Kg g s) (hZ : ZM qm (fun q : Nat => s.heap.size ≤ q) s) (hap : Apart ad bd) (Rl : SI → SJ → SI → SJ → Prop) (hst : Steps_ Rl) (t : Nat) (ht : t ≤ 512) (hgo : 8 * t + 8 ≤ L) (ix : Int32) (hix : ix = nI (8 * t)) (I : SI) (J : SJ) (M : SI) (N : SJ) (H : Heap) (locs : List Loc) (ls : Array Slot) (hR : Rl I J M N) (hPx : Pg g (xW ad g I J) H) (hPm : Pg g (mW bd g M N) H) (hDx : va_D (fun q : Nat => s.heap.size ≤ q) (xW ad g I J)) (hDm : va_D (fun q : Nat => s.heap.size ≤ q) (mW bd g M N)) (hS : va_S (fun q : Nat => s.heap.size ≤ q) s.heap H locs) (hl : lv_has ls 4 [(3, .int ix), (0, .ref b), (1, .ref (ad 59)), (2, .ref (bd 0))]) (kk : ∀ (I : SI) (J : SJ) (M : SI) (N : SJ) (H : Heap) (locs : List Loc), Rl I J M N → Pg g (xW ad g I J) H → Pg g (mW bd g M N) H → va_D (fun q : Nat => s.heap.size ≤ q) (xW ad g I J) → va_D (fun q : Nat => s.heap.size ≤ q) (mW bd g M N) → va_S (fun q : Nat => s.heap.size ≤ q) s.heap H locs → W p l e room_1 s m #[Value.ref b] below meth c H locs 84 1230 (lw_Z below #[Value.ref b] s) (F0 m 1323 ls [])) : W p l e room_1 s m #[Value.ref b] below meth c H locs 84 1230 (lw_Z below #[Value.ref b] s) (F0 m 176 ls []) := by
  have hx := hC.1
  have hb := hC.2.1
  have hts := hC.2.2.2.2
  have hown := hC.2.2.2.1
  have hA : ∀ q : Nat, s.heap.size ≤ q → (fun q : Nat => s.heap.size ≤ q) q := fun _ h => h
  have hbA : ¬ (fun q : Nat => s.heap.size ≤ q) b := Nat.not_le.mpr hbl
  obtain ⟨r, I1, J1, M1, N1, hfx, hfm, hR1⟩ := hst.1 I J M N (xs (Int32.toNatClampNeg (ix + (1 : Int32)))) (((Int32.toInt64 (xs (Int32.toNatClampNeg (ix + (2 : Int32))))) <<< (Int32.toInt64 (32 : Int32) &&& 63)) ||| ((Int32.toInt64 (xs (Int32.toNatClampNeg (ix + (3 : Int32))))) &&& (4294967295 : Int64))) hR
  refine lv_aload_n hx hb dL_law_176 rfl (lv_at hl 2 rfl) ?_
  refine lv_aload_n hx hb dL_law_177 rfl (lv_at hl 1 rfl) ?_
  refine lv_iload_n hx hb dL_law_178 rfl (lv_at hl 0 rfl) ?_
  refine lv_iconst (v := 1) hx hb dL_law_179 (by decide) ?_
  refine lv_iadd hx hb dL_law_180 ?_
  refine va_sld hx hb hX hbl hbA hS (inK hix (k := 1) rfl (by omega) hL) dL_law_181 ?_
  refine lv_aload_n hx hb dL_law_182 rfl (lv_at hl 1 rfl) ?_
  refine lv_iload_n hx hb dL_law_183 rfl (lv_at hl 0 rfl) ?_
  refine lv_iconst (v := 2) hx hb dL_law_184 (by decide) ?_
  refine lv_iadd hx hb dL_law_185 ?_
  refine va_sld hx hb hX hbl hbA hS (inK hix (k := 2) rfl (by omega) hL) dL_law_186 ?_
  refine lv_i2l hx hb dL_law_187 rfl ?_
  refine lv_bipush (v := 32) hx hb dL_law_188 (by decide) ?_
  refine lv_lshl hx hb dL_law_190 rfl ?_
  refine lv_aload_n hx hb dL_law_191 rfl (lv_at hl 1 rfl) ?_
  refine lv_iload_n hx hb dL_law_192 rfl (lv_at hl 0 rfl) ?_
  refine lv_iconst (v := 3) hx hb dL_law_193 (by decide) ?_
  refine lv_iadd hx hb dL_law_194 ?_
  refine va_sld hx hb hX hbl hbA hS (inK hix (k := 3) rfl (by omega) hL) dL_law_195 ?_
  refine lv_i2l hx hb dL_law_196 rfl ?_
  refine lv_ldc2 hx hb hown (hts _ kc_L_13) dL_law_197 ?_
  refine lv_land hx hb dL_law_200 ?_
  refine lv_lor hx hb dL_law_201 ?_
  refine lawI (As := [.int (xs (Int32.toNatClampNeg (ix + (1 : Int32)))), .long (((Int32.toInt64 (xs (Int32.toNatClampNeg (ix + (2 : Int32))))) <<< (Int32.toInt64 (32 : Int32) &&& 63)) ||| ((Int32.toInt64 (xs (Int32.toNatClampNeg (ix + (3 : Int32))))) &&& (4294967295 : Int64)))]) (rest := []) hC (c_X7_feed l g ad I J (xs (Int32.toNatClampNeg (ix + (1 : Int32)))) (((Int32.toInt64 (xs (Int32.toNatClampNeg (ix + (2 : Int32))))) <<< (Int32.toInt64 (32 : Int32) &&& 63)) ||| ((Int32.toInt64 (xs (Int32.toNatClampNeg (ix + (3 : Int32))))) &&& (4294967295 : Int64))) H.size hfx) (okW hPx hK hDx) lk_L_15 rfl rfl ⟨Nat.le_of_ble_eq_true rfl, Nat.le_of_ble_eq_true rfl⟩ ⟨Nat.le_of_ble_eq_true rfl, Nat.le_of_ble_eq_true rfl⟩ hPx hK hDx hA hS xo_59 rfl hPm (neXM hap) rfl rfl hl (Nat.le_of_ble_eq_true rfl) dL_law_202 (fun H locs hPx hPm hS => ?_)
  replace hDx := xDs (I' := I1) (J' := J1) hDx
  refine lv_aload_n hx hb dL_law_205 rfl (lv_at hl 3 rfl) ?_
  refine lv_aload_n hx hb dL_law_206 rfl (lv_at hl 1 rfl) ?_
  refine lv_iload_n hx hb dL_law_207 rfl (lv_at hl 0 rfl) ?_
  refine lv_iconst (v := 1) hx hb dL_law_208 (by decide) ?_
  refine lv_iadd hx hb dL_law_209 ?_
  refine va_sld hx hb hX hbl hbA hS (inK hix (k := 1) rfl (by omega) hL) dL_law_210 ?_
  refine lv_aload_n hx hb dL_law_211 rfl (lv_at hl 1 rfl) ?_
  refine lv_iload_n hx hb dL_law_212 rfl (lv_at hl 0 rfl) ?_
  refine lv_iconst (v := 2) hx hb dL_law_213 (by decide) ?_
  refine lv_iadd hx hb dL_law_214 ?_
  refine va_sld hx hb hX hbl hbA hS (inK hix (k := 2) rfl (by omega) hL) dL_law_215 ?_
  refine lv_i2l hx hb dL_law_216 rfl ?_
  refine lv_bipush (v := 32) hx hb dL_law_217 (by decide) ?_
  refine lv_lshl hx hb dL_law_219 rfl ?_
  refine lv_aload_n hx hb dL_law_220 rfl (lv_at hl 1 rfl) ?_
  refine lv_iload_n hx hb dL_law_221 rfl (lv_at hl 0 rfl) ?_
  refine lv_iconst (v := 3) hx hb dL_law_222 (by decide) ?_
  refine lv_iadd hx hb dL_law_223 ?_
  refine va_sld hx hb hX hbl hbA hS (inK hix (k := 3) rfl (by omega) hL) dL_law_224 ?_
  refine lv_i2l hx hb dL_law_225 rfl ?_
  refine lv_ldc2 hx hb hown (hts _ kc_L_13) dL_law_226 ?_
  refine lv_land hx hb dL_law_229 ?_
  refine lv_lor hx hb dL_law_230 ?_
  refine lawI (As := [.int (xs (Int32.toNatClampNeg (ix + (1 : Int32)))), .long (((Int32.toInt64 (xs (Int32.toNatClampNeg (ix + (2 : Int32))))) <<< (Int32.toInt64 (32 : Int32) &&& 63)) ||| ((Int32.toInt64 (xs (Int32.toNatClampNeg (ix + (3 : Int32))))) &&& (4294967295 : Int64)))]) (rest := [.int r]) hC (c_X8_feed l g bd M N (xs (Int32.toNatClampNeg (ix + (1 : Int32)))) (((Int32.toInt64 (xs (Int32.toNatClampNeg (ix + (2 : Int32))))) <<< (Int32.toInt64 (32 : Int32) &&& 63)) ||| ((Int32.toInt64 (xs (Int32.toNatClampNeg (ix + (3 : Int32))))) &&& (4294967295 : Int64))) H.size hfm) (okW hPm hK hDm) lk_L_19 rfl rfl ⟨Nat.le_of_ble_eq_true rfl, Nat.le_of_ble_eq_true rfl⟩ ⟨Nat.le_of_ble_eq_true rfl, Nat.le_of_ble_eq_true rfl⟩ hPm hK hDm hA hS mo_0 rfl hPx (neMX hap) rfl rfl hl (Nat.le_of_ble_eq_true rfl) dL_law_231 (fun H locs hPm hPx hS => ?_)
  replace hDm := mDs (I' := M1) (J' := N1) hDm
  refine lv_icmp_eq (tgt := 1323) hx hb dL_law_234 (by decide) (fun _ => ?_) (fun hh => absurd rfl hh)
  exact kk _ _ _ _ _ _ hR1 hPx hPm hDx hDm hS
set_option maxHeartbeats 4000000 in
set_option maxRecDepth 100000 in
theorem law_case1 (l : Launch) {b L : Nat} {xs : Nat → Int32} (hL : L ≤ 4096) (hC : CallFix p m c code 4 s #[Value.ref b] BG RL) (hX : va_X b L xs s s.heap) (hbl : b < s.heap.size) (g : Gx) (ad bd : Nat → Nat) (qm : Nat) (hK : Kg g s) (hZ : ZM qm (fun q : Nat => s.heap.size ≤ q) s) (hap : Apart ad bd) (Rl : SI → SJ → SI → SJ → Prop) (hst : Steps_ Rl) (t : Nat) (ht : t ≤ 512) (hgo : 8 * t + 8 ≤ L) (ix : Int32) (hix : ix = nI (8 * t)) (I : SI) (J : SJ) (M : SI) (N : SJ) (H : Heap) (locs : List Loc) (ls : Array Slot) (hR : Rl I J M N) (hPx : Pg g (xW ad g I J) H) (hPm : Pg g (mW bd g M N) H) (hDx : va_D (fun q : Nat => s.heap.size ≤ q) (xW ad g I J)) (hDm : va_D (fun q : Nat => s.heap.size ≤ q) (mW bd g M N)) (hS : va_S (fun q : Nat => s.heap.size ≤ q) s.heap H locs) (hl : lv_has ls 4 [(3, .int ix), (0, .ref b), (1, .ref (ad 59)), (2, .ref (bd 0))]) (kk : ∀ (I : SI) (J : SJ) (M : SI) (N : SJ) (H : Heap) (locs : List Loc), Rl I J M N → Pg g (xW ad g I J) H → Pg g (mW bd g M N) H → va_D (fun q : Nat => s.heap.size ≤ q) (xW ad g I J) → va_D (fun q : Nat => s.heap.size ≤ q) (mW bd g M N) → va_S (fun q : Nat => s.heap.size ≤ q) s.heap H locs → W p l e room_1 s m #[Value.ref b] below meth c H locs 84 1230 (lw_Z below #[Value.ref b] s) (F0 m 1323 ls [])) : W p l e room_1 s m #[Value.ref b] below meth c H locs 84 1230 (lw_Z below #[Value.ref b] s) (F0 m 239 ls []) := by
  have hx := hC.1
  have hb := hC.2.1
  have hts := hC.2.2.2.2
  have hown := hC.2.2.2.1
  have hA : ∀ q : Nat, s.heap.size ≤ q → (fun q : Nat => s.heap.size ≤ q) q := fun _ h => h
  have hbA : ¬ (fun q : Nat => s.heap.size ≤ q) b := Nat.not_le.mpr hbl
  obtain ⟨r, I1, J1, M1, N1, hfx, hfm, hR1⟩ := hst.2.1 I J M N  hR
  refine lv_aload_n hx hb dL_law_239 rfl (lv_at hl 2 rfl) ?_
  refine lawI (As := []) (rest := []) hC (c_X7_field l g ad I J qm  H.size hfx) (okWM hPx hK hDx hA hS hZ) lk_L_20 rfl rfl ⟨Nat.le_of_ble_eq_true rfl, Nat.le_of_ble_eq_true rfl⟩ ⟨Nat.le_of_ble_eq_true rfl, Nat.le_of_ble_eq_true rfl⟩ hPx hK hDx hA hS xo_59 rfl hPm (neXM hap) rfl rfl hl (Nat.le_of_ble_eq_true rfl) dL_law_240 (fun H locs hPx hPm hS => ?_)
  replace hDx := xDs (I' := I1) (J' := J1) hDx
  refine lv_aload_n hx hb dL_law_243 rfl (lv_at hl 3 rfl) ?_
  refine lawI (As := []) (rest := [.int r]) hC (c_X8_field l g bd M N  H.size hfm) (okW hPm hK hDm) lk_L_24 rfl rfl ⟨Nat.le_of_ble_eq_true rfl, Nat.le_of_ble_eq_true rfl⟩ ⟨Nat.le_of_ble_eq_true rfl, Nat.le_of_ble_eq_true rfl⟩ hPm hK hDm hA hS mo_0 rfl hPx (neMX hap) rfl rfl hl (Nat.le_of_ble_eq_true rfl) dL_law_244 (fun H locs hPm hPx hS => ?_)
  replace hDm := mDs (I' := M1) (J' := N1) hDm
  refine lv_icmp_eq (tgt := 1323) hx hb dL_law_247 (by decide) (fun _ => ?_) (fun hh => absurd rfl hh)
  exact kk _ _ _ _ _ _ hR1 hPx hPm hDx hDm hS
set_option maxHeartbeats 4000000 in
set_option maxRecDepth 100000 in
theorem law_case2 (l : Launch) {b L : Nat} {xs : Nat → Int32} (hL : L ≤ 4096) (hC : CallFix p m c code 4 s #[Value.ref b] BG RL) (hX : va_X b L xs s s.heap) (hbl : b < s.heap.size) (g : Gx) (ad bd : Nat → Nat) (qm : Nat) (hK : Kg g s) (hZ : ZM qm (fun q : Nat => s.heap.size ≤ q) s) (hap : Apart ad bd) (Rl : SI → SJ → SI → SJ → Prop) (hst : Steps_ Rl) (t : Nat) (ht : t ≤ 512) (hgo : 8 * t + 8 ≤ L) (ix : Int32) (hix : ix = nI (8 * t)) (I : SI) (J : SJ) (M : SI) (N : SJ) (H : Heap) (locs : List Loc) (ls : Array Slot) (hR : Rl I J M N) (hPx : Pg g (xW ad g I J) H) (hPm : Pg g (mW bd g M N) H) (hDx : va_D (fun q : Nat => s.heap.size ≤ q) (xW ad g I J)) (hDm : va_D (fun q : Nat => s.heap.size ≤ q) (mW bd g M N)) (hS : va_S (fun q : Nat => s.heap.size ≤ q) s.heap H locs) (hl : lv_has ls 4 [(3, .int ix), (0, .ref b), (1, .ref (ad 59)), (2, .ref (bd 0))]) (kk : ∀ (I : SI) (J : SJ) (M : SI) (N : SJ) (H : Heap) (locs : List Loc), Rl I J M N → Pg g (xW ad g I J) H → Pg g (mW bd g M N) H → va_D (fun q : Nat => s.heap.size ≤ q) (xW ad g I J) → va_D (fun q : Nat => s.heap.size ≤ q) (mW bd g M N) → va_S (fun q : Nat => s.heap.size ≤ q) s.heap H locs → W p l e room_1 s m #[Value.ref b] below meth c H locs 84 1230 (lw_Z below #[Value.ref b] s) (F0 m 1323 ls [])) : W p l e room_1 s m #[Value.ref b] below meth c H locs 84 1230 (lw_Z below #[Value.ref b] s) (F0 m 252 ls []) := by
  have hx := hC.1
  have hb := hC.2.1
  have hts := hC.2.2.2.2
  have hown := hC.2.2.2.1
  have hA : ∀ q : Nat, s.heap.size ≤ q → (fun q : Nat => s.heap.size ≤ q) q := fun _ h => h
  have hbA : ¬ (fun q : Nat => s.heap.size ≤ q) b := Nat.not_le.mpr hbl
  obtain ⟨r, I1, J1, M1, N1, hfx, hfm, hR1⟩ := hst.2.2.1 I J M N  hR
  refine lv_aload_n hx hb dL_law_252 rfl (lv_at hl 2 rfl) ?_
  refine lawI (As := []) (rest := []) hC (c_X7_term l g ad I J  H.size hfx) (okW hPx hK hDx) lk_L_25 rfl rfl ⟨Nat.le_of_ble_eq_true rfl, Nat.le_of_ble_eq_true rfl⟩ ⟨Nat.le_of_ble_eq_true rfl, Nat.le_of_ble_eq_true rfl⟩ hPx hK hDx hA hS xo_59 rfl hPm (neXM hap) rfl rfl hl (Nat.le_of_ble_eq_true rfl) dL_law_253 (fun H locs hPx hPm hS => ?_)
  replace hDx := xDs (I' := I1) (J' := J1) hDx
  refine lv_aload_n hx hb dL_law_256 rfl (lv_at hl 3 rfl) ?_
  refine lawI (As := []) (rest := [.int r]) hC (c_X8_term l g bd M N  H.size hfm) (okW hPm hK hDm) lk_L_28 rfl rfl ⟨Nat.le_of_ble_eq_true rfl, Nat.le_of_ble_eq_true rfl⟩ ⟨Nat.le_of_ble_eq_true rfl, Nat.le_of_ble_eq_true rfl⟩ hPm hK hDm hA hS mo_0 rfl hPx (neMX hap) rfl rfl hl (Nat.le_of_ble_eq_true rfl) dL_law_257 (fun H locs hPm hPx hS => ?_)
  replace hDm := mDs (I' := M1) (J' := N1) hDm
  refine lv_icmp_eq (tgt := 1323) hx hb dL_law_260 (by decide) (fun _ => ?_) (fun hh => absurd rfl hh)
  exact kk _ _ _ _ _ _ hR1 hPx hPm hDx hDm hS
set_option maxHeartbeats 4000000 in
set_option maxRecDepth 100000 in
theorem law_case3 (l : Launch) {b L : Nat} {xs : Nat → Int32} (hL : L ≤ 4096) (hC : CallFix p m c code 4 s #[Value.ref b] BG RL) (hX : va_X b L xs s s.heap) (hbl : b < s.heap.size) (g : Gx) (ad bd : Nat → Nat) (qm : Nat) (hK : Kg g s) (hZ : ZM qm (fun q : Nat => s.heap.size ≤ q) s) (hap : Apart ad bd) (Rl : SI → SJ → SI → SJ → Prop) (hst : Steps_ Rl) (t : Nat) (ht : t ≤ 512) (hgo : 8 * t + 8 ≤ L) (ix : Int32) (hix : ix = nI (8 * t)) (I : SI) (J : SJ) (M : SI) (N : SJ) (H : Heap) (locs : List Loc) (ls : Array Slot) (hR : Rl I J M N) (hPx : Pg g (xW ad g I J) H) (hPm : Pg g (mW bd g M N) H) (hDx : va_D (fun q : Nat => s.heap.size ≤ q) (xW ad g I J)) (hDm : va_D (fun q : Nat => s.heap.size ≤ q) (mW bd g M N)) (hS : va_S (fun q : Nat => s.heap.size ≤ q) s.heap H locs) (hl : lv_has ls 4 [(3, .int ix), (0, .ref b), (1, .ref (ad 59)), (2, .ref (bd 0))]) (kk : ∀ (I : SI) (J : SJ) (M : SI) (N : SJ) (H : Heap) (locs : List Loc), Rl I J M N → Pg g (xW ad g I J) H → Pg g (mW bd g M N) H → va_D (fun q : Nat => s.heap.size ≤ q) (xW ad g I J) → va_D (fun q : Nat => s.heap.size ≤ q) (mW bd g M N) → va_S (fun q : Nat => s.heap.size ≤ q) s.heap H locs → W p l e room_1 s m #[Value.ref b] below meth c H locs 84 1230 (lw_Z below #[Value.ref b] s) (F0 m 1323 ls [])) : W p l e room_1 s m #[Value.ref b] below meth c H locs 84 1230 (lw_Z below #[Value.ref b] s) (F0 m 265 ls []) := by
  have hx := hC.1
  have hb := hC.2.1
  have hts := hC.2.2.2.2
  have hown := hC.2.2.2.1
  have hA : ∀ q : Nat, s.heap.size ≤ q → (fun q : Nat => s.heap.size ≤ q) q := fun _ h => h
  have hbA : ¬ (fun q : Nat => s.heap.size ≤ q) b := Nat.not_le.mpr hbl
  obtain ⟨r, I1, J1, M1, N1, hfx, hfm, hR1⟩ := hst.2.2.2.1 I J M N (xs (Int32.toNatClampNeg (ix + (1 : Int32)))) (xs (Int32.toNatClampNeg (ix + (2 : Int32)))) hR
  refine lv_aload_n hx hb dL_law_265 rfl (lv_at hl 2 rfl) ?_
  refine lv_aload_n hx hb dL_law_266 rfl (lv_at hl 1 rfl) ?_
  refine lv_iload_n hx hb dL_law_267 rfl (lv_at hl 0 rfl) ?_
  refine lv_iconst (v := 1) hx hb dL_law_268 (by decide) ?_
  refine lv_iadd hx hb dL_law_269 ?_
  refine va_sld hx hb hX hbl hbA hS (inK hix (k := 1) rfl (by omega) hL) dL_law_270 ?_
  refine lv_aload_n hx hb dL_law_271 rfl (lv_at hl 1 rfl) ?_
  refine lv_iload_n hx hb dL_law_272 rfl (lv_at hl 0 rfl) ?_
  refine lv_iconst (v := 2) hx hb dL_law_273 (by decide) ?_
  refine lv_iadd hx hb dL_law_274 ?_
  refine va_sld hx hb hX hbl hbA hS (inK hix (k := 2) rfl (by omega) hL) dL_law_275 ?_
  refine lawI (As := [.int (xs (Int32.toNatClampNeg (ix + (1 : Int32)))), .int (xs (Int32.toNatClampNeg (ix + (2 : Int32))))]) (rest := []) hC (c_X7_termOf l g ad I J (xs (Int32.toNatClampNeg (ix + (1 : Int32)))) (xs (Int32.toNatClampNeg (ix + (2 : Int32)))) H.size hfx) (okW hPx hK hDx) lk_L_29 rfl rfl ⟨Nat.le_of_ble_eq_true rfl, Nat.le_of_ble_eq_true rfl⟩ ⟨Nat.le_of_ble_eq_true rfl, Nat.le_of_ble_eq_true rfl⟩ hPx hK hDx hA hS xo_59 rfl hPm (neXM hap) rfl rfl hl (Nat.le_of_ble_eq_true rfl) dL_law_276 (fun H locs hPx hPm hS => ?_)
  replace hDx := xDs (I' := I1) (J' := J1) hDx
  refine lv_aload_n hx hb dL_law_279 rfl (lv_at hl 3 rfl) ?_
  refine lv_aload_n hx hb dL_law_280 rfl (lv_at hl 1 rfl) ?_
  refine lv_iload_n hx hb dL_law_281 rfl (lv_at hl 0 rfl) ?_
  refine lv_iconst (v := 1) hx hb dL_law_282 (by decide) ?_
  refine lv_iadd hx hb dL_law_283 ?_
  refine va_sld hx hb hX hbl hbA hS (inK hix (k := 1) rfl (by omega) hL) dL_law_284 ?_
  refine lv_aload_n hx hb dL_law_285 rfl (lv_at hl 1 rfl) ?_
  refine lv_iload_n hx hb dL_law_286 rfl (lv_at hl 0 rfl) ?_
  refine lv_iconst (v := 2) hx hb dL_law_287 (by decide) ?_
  refine lv_iadd hx hb dL_law_288 ?_
  refine va_sld hx hb hX hbl hbA hS (inK hix (k := 2) rfl (by omega) hL) dL_law_289 ?_
  refine lawI (As := [.int (xs (Int32.toNatClampNeg (ix + (1 : Int32)))), .int (xs (Int32.toNatClampNeg (ix + (2 : Int32))))]) (rest := [.int r]) hC (c_X8_termOf l g bd M N (xs (Int32.toNatClampNeg (ix + (1 : Int32)))) (xs (Int32.toNatClampNeg (ix + (2 : Int32)))) H.size hfm) (okW hPm hK hDm) lk_L_33 rfl rfl ⟨Nat.le_of_ble_eq_true rfl, Nat.le_of_ble_eq_true rfl⟩ ⟨Nat.le_of_ble_eq_true rfl, Nat.le_of_ble_eq_true rfl⟩ hPm hK hDm hA hS mo_0 rfl hPx (neMX hap) rfl rfl hl (Nat.le_of_ble_eq_true rfl) dL_law_290 (fun H locs hPm hPx hS => ?_)
  replace hDm := mDs (I' := M1) (J' := N1) hDm
  refine lv_icmp_eq (tgt := 1323) hx hb dL_law_293 (by decide) (fun _ => ?_) (fun hh => absurd rfl hh)
  exact kk _ _ _ _ _ _ hR1 hPx hPm hDx hDm hS
set_option maxHeartbeats 4000000 in
set_option maxRecDepth 100000 in
theorem law_case4 (l : Launch) {b L : Nat} {xs : Nat → Int32} (hL : L ≤ 4096) (hC : CallFix p m c code 4 s #[Value.ref b] BG RL) (hX : va_X b L xs s s.heap) (hbl : b < s.heap.size) (g : Gx) (ad bd : Nat → Nat) (qm : Nat) (hK : Kg g s) (hZ : ZM qm (fun q : Nat => s.heap.size ≤ q) s) (hap : Apart ad bd) (Rl : SI → SJ → SI → SJ → Prop) (hst : Steps_ Rl) (t : Nat) (ht : t ≤ 512) (hgo : 8 * t + 8 ≤ L) (ix : Int32) (hix : ix = nI (8 * t)) (I : SI) (J : SJ) (M : SI) (N : SJ) (H : Heap) (locs : List Loc) (ls : Array Slot) (hR : Rl I J M N) (hPx : Pg g (xW ad g I J) H) (hPm : Pg g (mW bd g M N) H) (hDx : va_D (fun q : Nat => s.heap.size ≤ q) (xW ad g I J)) (hDm : va_D (fun q : Nat => s.heap.size ≤ q) (mW bd g M N)) (hS : va_S (fun q : Nat => s.heap.size ≤ q) s.heap H locs) (hl : lv_has ls 4 [(3, .int ix), (0, .ref b), (1, .ref (ad 59)), (2, .ref (bd 0))]) (kk : ∀ (I : SI) (J : SJ) (M : SI) (N : SJ) (H : Heap) (locs : List Loc), Rl I J M N → Pg g (xW ad g I J) H → Pg g (mW bd g M N) H → va_D (fun q : Nat => s.heap.size ≤ q) (xW ad g I J) → va_D (fun q : Nat => s.heap.size ≤ q) (mW bd g M N) → va_S (fun q : Nat => s.heap.size ≤ q) s.heap H locs → W p l e room_1 s m #[Value.ref b] below meth c H locs 84 1230 (lw_Z below #[Value.ref b] s) (F0 m 1323 ls [])) : W p l e room_1 s m #[Value.ref b] below meth c H locs 84 1230 (lw_Z below #[Value.ref b] s) (F0 m 298 ls []) := by
  have hx := hC.1
  have hb := hC.2.1
  have hts := hC.2.2.2.2
  have hown := hC.2.2.2.1
  have hA : ∀ q : Nat, s.heap.size ≤ q → (fun q : Nat => s.heap.size ≤ q) q := fun _ h => h
  have hbA : ¬ (fun q : Nat => s.heap.size ≤ q) b := Nat.not_le.mpr hbl
  obtain ⟨r, I1, J1, M1, N1, hfx, hfm, hR1⟩ := hst.2.2.2.2.1 I J M N (xs (Int32.toNatClampNeg (ix + (1 : Int32)))) (xs (Int32.toNatClampNeg (ix + (2 : Int32)))) hR
  refine lv_aload_n hx hb dL_law_298 rfl (lv_at hl 2 rfl) ?_
  refine lv_aload_n hx hb dL_law_299 rfl (lv_at hl 1 rfl) ?_
  refine lv_iload_n hx hb dL_law_300 rfl (lv_at hl 0 rfl) ?_
  refine lv_iconst (v := 1) hx hb dL_law_301 (by decide) ?_
  refine lv_iadd hx hb dL_law_302 ?_
  refine va_sld hx hb hX hbl hbA hS (inK hix (k := 1) rfl (by omega) hL) dL_law_303 ?_
  refine lv_aload_n hx hb dL_law_304 rfl (lv_at hl 1 rfl) ?_
  refine lv_iload_n hx hb dL_law_305 rfl (lv_at hl 0 rfl) ?_
  refine lv_iconst (v := 2) hx hb dL_law_306 (by decide) ?_
  refine lv_iadd hx hb dL_law_307 ?_
  refine va_sld hx hb hX hbl hbA hS (inK hix (k := 2) rfl (by omega) hL) dL_law_308 ?_
  refine lawI (As := [.int (xs (Int32.toNatClampNeg (ix + (1 : Int32)))), .int (xs (Int32.toNatClampNeg (ix + (2 : Int32))))]) (rest := []) hC (c_X7_set l g ad I J qm (xs (Int32.toNatClampNeg (ix + (1 : Int32)))) (xs (Int32.toNatClampNeg (ix + (2 : Int32)))) H.size hfx) (okWM hPx hK hDx hA hS hZ) lk_L_34 rfl rfl ⟨Nat.le_of_ble_eq_true rfl, Nat.le_of_ble_eq_true rfl⟩ ⟨Nat.le_of_ble_eq_true rfl, Nat.le_of_ble_eq_true rfl⟩ hPx hK hDx hA hS xo_59 rfl hPm (neXM hap) rfl rfl hl (Nat.le_of_ble_eq_true rfl) dL_law_309 (fun H locs hPx hPm hS => ?_)
  replace hDx := xDs (I' := I1) (J' := J1) hDx
  refine lv_aload_n hx hb dL_law_312 rfl (lv_at hl 3 rfl) ?_
  refine lv_aload_n hx hb dL_law_313 rfl (lv_at hl 1 rfl) ?_
  refine lv_iload_n hx hb dL_law_314 rfl (lv_at hl 0 rfl) ?_
  refine lv_iconst (v := 1) hx hb dL_law_315 (by decide) ?_
  refine lv_iadd hx hb dL_law_316 ?_
  refine va_sld hx hb hX hbl hbA hS (inK hix (k := 1) rfl (by omega) hL) dL_law_317 ?_
  refine lv_aload_n hx hb dL_law_318 rfl (lv_at hl 1 rfl) ?_
  refine lv_iload_n hx hb dL_law_319 rfl (lv_at hl 0 rfl) ?_
  refine lv_iconst (v := 2) hx hb dL_law_320 (by decide) ?_
  refine lv_iadd hx hb dL_law_321 ?_
  refine va_sld hx hb hX hbl hbA hS (inK hix (k := 2) rfl (by omega) hL) dL_law_322 ?_
  refine lawI (As := [.int (xs (Int32.toNatClampNeg (ix + (1 : Int32)))), .int (xs (Int32.toNatClampNeg (ix + (2 : Int32))))]) (rest := [.int r]) hC (c_X8_set l g bd M N (xs (Int32.toNatClampNeg (ix + (1 : Int32)))) (xs (Int32.toNatClampNeg (ix + (2 : Int32)))) H.size hfm) (okW hPm hK hDm) lk_L_37 rfl rfl ⟨Nat.le_of_ble_eq_true rfl, Nat.le_of_ble_eq_true rfl⟩ ⟨Nat.le_of_ble_eq_true rfl, Nat.le_of_ble_eq_true rfl⟩ hPm hK hDm hA hS mo_0 rfl hPx (neMX hap) rfl rfl hl (Nat.le_of_ble_eq_true rfl) dL_law_323 (fun H locs hPm hPx hS => ?_)
  replace hDm := mDs (I' := M1) (J' := N1) hDm
  refine lv_icmp_eq (tgt := 1323) hx hb dL_law_326 (by decide) (fun _ => ?_) (fun hh => absurd rfl hh)
  exact kk _ _ _ _ _ _ hR1 hPx hPm hDx hDm hS
set_option maxHeartbeats 4000000 in
set_option maxRecDepth 100000 in
theorem law_case5 (l : Launch) {b L : Nat} {xs : Nat → Int32} (hL : L ≤ 4096) (hC : CallFix p m c code 4 s #[Value.ref b] BG RL) (hX : va_X b L xs s s.heap) (hbl : b < s.heap.size) (g : Gx) (ad bd : Nat → Nat) (qm : Nat) (hK : Kg g s) (hZ : ZM qm (fun q : Nat => s.heap.size ≤ q) s) (hap : Apart ad bd) (Rl : SI → SJ → SI → SJ → Prop) (hst : Steps_ Rl) (t : Nat) (ht : t ≤ 512) (hgo : 8 * t + 8 ≤ L) (ix : Int32) (hix : ix = nI (8 * t)) (I : SI) (J : SJ) (M : SI) (N : SJ) (H : Heap) (locs : List Loc) (ls : Array Slot) (hR : Rl I J M N) (hPx : Pg g (xW ad g I J) H) (hPm : Pg g (mW bd g M N) H) (hDx : va_D (fun q : Nat => s.heap.size ≤ q) (xW ad g I J)) (hDm : va_D (fun q : Nat => s.heap.size ≤ q) (mW bd g M N)) (hS : va_S (fun q : Nat => s.heap.size ≤ q) s.heap H locs) (hl : lv_has ls 4 [(3, .int ix), (0, .ref b), (1, .ref (ad 59)), (2, .ref (bd 0))]) (kk : ∀ (I : SI) (J : SJ) (M : SI) (N : SJ) (H : Heap) (locs : List Loc), Rl I J M N → Pg g (xW ad g I J) H → Pg g (mW bd g M N) H → va_D (fun q : Nat => s.heap.size ≤ q) (xW ad g I J) → va_D (fun q : Nat => s.heap.size ≤ q) (mW bd g M N) → va_S (fun q : Nat => s.heap.size ≤ q) s.heap H locs → W p l e room_1 s m #[Value.ref b] below meth c H locs 84 1230 (lw_Z below #[Value.ref b] s) (F0 m 1323 ls [])) : W p l e room_1 s m #[Value.ref b] below meth c H locs 84 1230 (lw_Z below #[Value.ref b] s) (F0 m 331 ls []) := by
  have hx := hC.1
  have hb := hC.2.1
  have hts := hC.2.2.2.2
  have hown := hC.2.2.2.1
  have hA : ∀ q : Nat, s.heap.size ≤ q → (fun q : Nat => s.heap.size ≤ q) q := fun _ h => h
  have hbA : ¬ (fun q : Nat => s.heap.size ≤ q) b := Nat.not_le.mpr hbl
  obtain ⟨r, I1, J1, M1, N1, hfx, hfm, hR1⟩ := hst.2.2.2.2.2.1 I J M N (xs (Int32.toNatClampNeg (ix + (1 : Int32)))) (xs (Int32.toNatClampNeg (ix + (2 : Int32)))) hR
  refine lv_aload_n hx hb dL_law_331 rfl (lv_at hl 2 rfl) ?_
  refine lv_aload_n hx hb dL_law_332 rfl (lv_at hl 1 rfl) ?_
  refine lv_iload_n hx hb dL_law_333 rfl (lv_at hl 0 rfl) ?_
  refine lv_iconst (v := 1) hx hb dL_law_334 (by decide) ?_
  refine lv_iadd hx hb dL_law_335 ?_
  refine va_sld hx hb hX hbl hbA hS (inK hix (k := 1) rfl (by omega) hL) dL_law_336 ?_
  refine lv_aload_n hx hb dL_law_337 rfl (lv_at hl 1 rfl) ?_
  refine lv_iload_n hx hb dL_law_338 rfl (lv_at hl 0 rfl) ?_
  refine lv_iconst (v := 2) hx hb dL_law_339 (by decide) ?_
  refine lv_iadd hx hb dL_law_340 ?_
  refine va_sld hx hb hX hbl hbA hS (inK hix (k := 2) rfl (by omega) hL) dL_law_341 ?_
  refine lawI (As := [.int (xs (Int32.toNatClampNeg (ix + (1 : Int32)))), .int (xs (Int32.toNatClampNeg (ix + (2 : Int32))))]) (rest := []) hC (c_X7_weather l g ad I J (xs (Int32.toNatClampNeg (ix + (1 : Int32)))) (xs (Int32.toNatClampNeg (ix + (2 : Int32)))) H.size hfx) (okW hPx hK hDx) lk_L_38 rfl rfl ⟨Nat.le_of_ble_eq_true rfl, Nat.le_of_ble_eq_true rfl⟩ ⟨Nat.le_of_ble_eq_true rfl, Nat.le_of_ble_eq_true rfl⟩ hPx hK hDx hA hS xo_59 rfl hPm (neXM hap) rfl rfl hl (Nat.le_of_ble_eq_true rfl) dL_law_342 (fun H locs hPx hPm hS => ?_)
  replace hDx := xDs (I' := I1) (J' := J1) hDx
  refine lv_aload_n hx hb dL_law_345 rfl (lv_at hl 3 rfl) ?_
  refine lv_aload_n hx hb dL_law_346 rfl (lv_at hl 1 rfl) ?_
  refine lv_iload_n hx hb dL_law_347 rfl (lv_at hl 0 rfl) ?_
  refine lv_iconst (v := 1) hx hb dL_law_348 (by decide) ?_
  refine lv_iadd hx hb dL_law_349 ?_
  refine va_sld hx hb hX hbl hbA hS (inK hix (k := 1) rfl (by omega) hL) dL_law_350 ?_
  refine lv_aload_n hx hb dL_law_351 rfl (lv_at hl 1 rfl) ?_
  refine lv_iload_n hx hb dL_law_352 rfl (lv_at hl 0 rfl) ?_
  refine lv_iconst (v := 2) hx hb dL_law_353 (by decide) ?_
  refine lv_iadd hx hb dL_law_354 ?_
  refine va_sld hx hb hX hbl hbA hS (inK hix (k := 2) rfl (by omega) hL) dL_law_355 ?_
  refine lawI (As := [.int (xs (Int32.toNatClampNeg (ix + (1 : Int32)))), .int (xs (Int32.toNatClampNeg (ix + (2 : Int32))))]) (rest := [.int r]) hC (c_X8_weather l g bd M N (xs (Int32.toNatClampNeg (ix + (1 : Int32)))) (xs (Int32.toNatClampNeg (ix + (2 : Int32)))) H.size hfm) (okW hPm hK hDm) lk_L_41 rfl rfl ⟨Nat.le_of_ble_eq_true rfl, Nat.le_of_ble_eq_true rfl⟩ ⟨Nat.le_of_ble_eq_true rfl, Nat.le_of_ble_eq_true rfl⟩ hPm hK hDm hA hS mo_0 rfl hPx (neMX hap) rfl rfl hl (Nat.le_of_ble_eq_true rfl) dL_law_356 (fun H locs hPm hPx hS => ?_)
  replace hDm := mDs (I' := M1) (J' := N1) hDm
  refine lv_icmp_eq (tgt := 1323) hx hb dL_law_359 (by decide) (fun _ => ?_) (fun hh => absurd rfl hh)
  exact kk _ _ _ _ _ _ hR1 hPx hPm hDx hDm hS
set_option maxHeartbeats 4000000 in
set_option maxRecDepth 100000 in
theorem law_case6 (l : Launch) {b L : Nat} {xs : Nat → Int32} (hL : L ≤ 4096) (hC : CallFix p m c code 4 s #[Value.ref b] BG RL) (hX : va_X b L xs s s.heap) (hbl : b < s.heap.size) (g : Gx) (ad bd : Nat → Nat) (qm : Nat) (hK : Kg g s) (hZ : ZM qm (fun q : Nat => s.heap.size ≤ q) s) (hap : Apart ad bd) (Rl : SI → SJ → SI → SJ → Prop) (hst : Steps_ Rl) (t : Nat) (ht : t ≤ 512) (hgo : 8 * t + 8 ≤ L) (ix : Int32) (hix : ix = nI (8 * t)) (I : SI) (J : SJ) (M : SI) (N : SJ) (H : Heap) (locs : List Loc) (ls : Array Slot) (hR : Rl I J M N) (hPx : Pg g (xW ad g I J) H) (hPm : Pg g (mW bd g M N) H) (hDx : va_D (fun q : Nat => s.heap.size ≤ q) (xW ad g I J)) (hDm : va_D (fun q : Nat => s.heap.size ≤ q) (mW bd g M N)) (hS : va_S (fun q : Nat => s.heap.size ≤ q) s.heap H locs) (hl : lv_has ls 4 [(3, .int ix), (0, .ref b), (1, .ref (ad 59)), (2, .ref (bd 0))]) (kk : ∀ (I : SI) (J : SJ) (M : SI) (N : SJ) (H : Heap) (locs : List Loc), Rl I J M N → Pg g (xW ad g I J) H → Pg g (mW bd g M N) H → va_D (fun q : Nat => s.heap.size ≤ q) (xW ad g I J) → va_D (fun q : Nat => s.heap.size ≤ q) (mW bd g M N) → va_S (fun q : Nat => s.heap.size ≤ q) s.heap H locs → W p l e room_1 s m #[Value.ref b] below meth c H locs 84 1230 (lw_Z below #[Value.ref b] s) (F0 m 1323 ls [])) : W p l e room_1 s m #[Value.ref b] below meth c H locs 84 1230 (lw_Z below #[Value.ref b] s) (F0 m 364 ls []) := by
  have hx := hC.1
  have hb := hC.2.1
  have hts := hC.2.2.2.2
  have hown := hC.2.2.2.1
  have hA : ∀ q : Nat, s.heap.size ≤ q → (fun q : Nat => s.heap.size ≤ q) q := fun _ h => h
  have hbA : ¬ (fun q : Nat => s.heap.size ≤ q) b := Nat.not_le.mpr hbl
  obtain ⟨r, I1, J1, M1, N1, hfx, hfm, hR1⟩ := hst.2.2.2.2.2.2.1 I J M N (xs (Int32.toNatClampNeg (ix + (1 : Int32)))) (xs (Int32.toNatClampNeg (ix + (2 : Int32)))) hR
  refine lv_aload_n hx hb dL_law_364 rfl (lv_at hl 2 rfl) ?_
  refine lv_aload_n hx hb dL_law_365 rfl (lv_at hl 1 rfl) ?_
  refine lv_iload_n hx hb dL_law_366 rfl (lv_at hl 0 rfl) ?_
  refine lv_iconst (v := 1) hx hb dL_law_367 (by decide) ?_
  refine lv_iadd hx hb dL_law_368 ?_
  refine va_sld hx hb hX hbl hbA hS (inK hix (k := 1) rfl (by omega) hL) dL_law_369 ?_
  refine lv_aload_n hx hb dL_law_370 rfl (lv_at hl 1 rfl) ?_
  refine lv_iload_n hx hb dL_law_371 rfl (lv_at hl 0 rfl) ?_
  refine lv_iconst (v := 2) hx hb dL_law_372 (by decide) ?_
  refine lv_iadd hx hb dL_law_373 ?_
  refine va_sld hx hb hX hbl hbA hS (inK hix (k := 2) rfl (by omega) hL) dL_law_374 ?_
  refine lawI (As := [.int (xs (Int32.toNatClampNeg (ix + (1 : Int32)))), .int (xs (Int32.toNatClampNeg (ix + (2 : Int32))))]) (rest := []) hC (c_X7_harvest l g ad I J (xs (Int32.toNatClampNeg (ix + (1 : Int32)))) (xs (Int32.toNatClampNeg (ix + (2 : Int32)))) H.size hfx) (okW hPx hK hDx) lk_L_42 rfl rfl ⟨Nat.le_of_ble_eq_true rfl, Nat.le_of_ble_eq_true rfl⟩ ⟨Nat.le_of_ble_eq_true rfl, Nat.le_of_ble_eq_true rfl⟩ hPx hK hDx hA hS xo_59 rfl hPm (neXM hap) rfl rfl hl (Nat.le_of_ble_eq_true rfl) dL_law_375 (fun H locs hPx hPm hS => ?_)
  replace hDx := xDs (I' := I1) (J' := J1) hDx
  refine lv_aload_n hx hb dL_law_378 rfl (lv_at hl 3 rfl) ?_
  refine lv_aload_n hx hb dL_law_379 rfl (lv_at hl 1 rfl) ?_
  refine lv_iload_n hx hb dL_law_380 rfl (lv_at hl 0 rfl) ?_
  refine lv_iconst (v := 1) hx hb dL_law_381 (by decide) ?_
  refine lv_iadd hx hb dL_law_382 ?_
  refine va_sld hx hb hX hbl hbA hS (inK hix (k := 1) rfl (by omega) hL) dL_law_383 ?_
  refine lv_aload_n hx hb dL_law_384 rfl (lv_at hl 1 rfl) ?_
  refine lv_iload_n hx hb dL_law_385 rfl (lv_at hl 0 rfl) ?_
  refine lv_iconst (v := 2) hx hb dL_law_386 (by decide) ?_
  refine lv_iadd hx hb dL_law_387 ?_
  refine va_sld hx hb hX hbl hbA hS (inK hix (k := 2) rfl (by omega) hL) dL_law_388 ?_
  refine lawI (As := [.int (xs (Int32.toNatClampNeg (ix + (1 : Int32)))), .int (xs (Int32.toNatClampNeg (ix + (2 : Int32))))]) (rest := [.int r]) hC (c_X8_harvest l g bd M N (xs (Int32.toNatClampNeg (ix + (1 : Int32)))) (xs (Int32.toNatClampNeg (ix + (2 : Int32)))) H.size hfm) (okW hPm hK hDm) lk_L_45 rfl rfl ⟨Nat.le_of_ble_eq_true rfl, Nat.le_of_ble_eq_true rfl⟩ ⟨Nat.le_of_ble_eq_true rfl, Nat.le_of_ble_eq_true rfl⟩ hPm hK hDm hA hS mo_0 rfl hPx (neMX hap) rfl rfl hl (Nat.le_of_ble_eq_true rfl) dL_law_389 (fun H locs hPm hPx hS => ?_)
  replace hDm := mDs (I' := M1) (J' := N1) hDm
  refine lv_icmp_eq (tgt := 1323) hx hb dL_law_392 (by decide) (fun _ => ?_) (fun hh => absurd rfl hh)
  exact kk _ _ _ _ _ _ hR1 hPx hPm hDx hDm hS
set_option maxHeartbeats 4000000 in
set_option maxRecDepth 100000 in
theorem law_case7 (l : Launch) {b L : Nat} {xs : Nat → Int32} (hL : L ≤ 4096) (hC : CallFix p m c code 4 s #[Value.ref b] BG RL) (hX : va_X b L xs s s.heap) (hbl : b < s.heap.size) (g : Gx) (ad bd : Nat → Nat) (qm : Nat) (hK : Kg g s) (hZ : ZM qm (fun q : Nat => s.heap.size ≤ q) s) (hap : Apart ad bd) (Rl : SI → SJ → SI → SJ → Prop) (hst : Steps_ Rl) (t : Nat) (ht : t ≤ 512) (hgo : 8 * t + 8 ≤ L) (ix : Int32) (hix : ix = nI (8 * t)) (I : SI) (J : SJ) (M : SI) (N : SJ) (H : Heap) (locs : List Loc) (ls : Array Slot) (hR : Rl I J M N) (hPx : Pg g (xW ad g I J) H) (hPm : Pg g (mW bd g M N) H) (hDx : va_D (fun q : Nat => s.heap.size ≤ q) (xW ad g I J)) (hDm : va_D (fun q : Nat => s.heap.size ≤ q) (mW bd g M N)) (hS : va_S (fun q : Nat => s.heap.size ≤ q) s.heap H locs) (hl : lv_has ls 4 [(3, .int ix), (0, .ref b), (1, .ref (ad 59)), (2, .ref (bd 0))]) (kk : ∀ (I : SI) (J : SJ) (M : SI) (N : SJ) (H : Heap) (locs : List Loc), Rl I J M N → Pg g (xW ad g I J) H → Pg g (mW bd g M N) H → va_D (fun q : Nat => s.heap.size ≤ q) (xW ad g I J) → va_D (fun q : Nat => s.heap.size ≤ q) (mW bd g M N) → va_S (fun q : Nat => s.heap.size ≤ q) s.heap H locs → W p l e room_1 s m #[Value.ref b] below meth c H locs 84 1230 (lw_Z below #[Value.ref b] s) (F0 m 1323 ls [])) : W p l e room_1 s m #[Value.ref b] below meth c H locs 84 1230 (lw_Z below #[Value.ref b] s) (F0 m 397 ls []) := by
  have hx := hC.1
  have hb := hC.2.1
  have hts := hC.2.2.2.2
  have hown := hC.2.2.2.1
  have hA : ∀ q : Nat, s.heap.size ≤ q → (fun q : Nat => s.heap.size ≤ q) q := fun _ h => h
  have hbA : ¬ (fun q : Nat => s.heap.size ≤ q) b := Nat.not_le.mpr hbl
  obtain ⟨r, I1, J1, M1, N1, hfx, hfm, hR1⟩ := hst.2.2.2.2.2.2.2.1 I J M N (xs (Int32.toNatClampNeg (ix + (1 : Int32)))) (xs (Int32.toNatClampNeg (ix + (2 : Int32)))) (xs (Int32.toNatClampNeg (ix + (3 : Int32)))) (xs (Int32.toNatClampNeg (ix + (4 : Int32)))) hR
  refine lv_aload_n hx hb dL_law_397 rfl (lv_at hl 2 rfl) ?_
  refine lv_aload_n hx hb dL_law_398 rfl (lv_at hl 1 rfl) ?_
  refine lv_iload_n hx hb dL_law_399 rfl (lv_at hl 0 rfl) ?_
  refine lv_iconst (v := 1) hx hb dL_law_400 (by decide) ?_
  refine lv_iadd hx hb dL_law_401 ?_
  refine va_sld hx hb hX hbl hbA hS (inK hix (k := 1) rfl (by omega) hL) dL_law_402 ?_
  refine lv_aload_n hx hb dL_law_403 rfl (lv_at hl 1 rfl) ?_
  refine lv_iload_n hx hb dL_law_404 rfl (lv_at hl 0 rfl) ?_
  refine lv_iconst (v := 2) hx hb dL_law_405 (by decide) ?_
  refine lv_iadd hx hb dL_law_406 ?_
  refine va_sld hx hb hX hbl hbA hS (inK hix (k := 2) rfl (by omega) hL) dL_law_407 ?_
  refine lv_aload_n hx hb dL_law_408 rfl (lv_at hl 1 rfl) ?_
  refine lv_iload_n hx hb dL_law_409 rfl (lv_at hl 0 rfl) ?_
  refine lv_iconst (v := 3) hx hb dL_law_410 (by decide) ?_
  refine lv_iadd hx hb dL_law_411 ?_
  refine va_sld hx hb hX hbl hbA hS (inK hix (k := 3) rfl (by omega) hL) dL_law_412 ?_
  refine lv_aload_n hx hb dL_law_413 rfl (lv_at hl 1 rfl) ?_
  refine lv_iload_n hx hb dL_law_414 rfl (lv_at hl 0 rfl) ?_
  refine lv_iconst (v := 4) hx hb dL_law_415 (by decide) ?_
  refine lv_iadd hx hb dL_law_416 ?_
  refine va_sld hx hb hX hbl hbA hS (inK hix (k := 4) rfl (by omega) hL) dL_law_417 ?_
  refine lawI (As := [.int (xs (Int32.toNatClampNeg (ix + (1 : Int32)))), .int (xs (Int32.toNatClampNeg (ix + (2 : Int32)))), .int (xs (Int32.toNatClampNeg (ix + (3 : Int32)))), .int (xs (Int32.toNatClampNeg (ix + (4 : Int32))))]) (rest := []) hC (c_X7_whose l g ad I J (xs (Int32.toNatClampNeg (ix + (1 : Int32)))) (xs (Int32.toNatClampNeg (ix + (2 : Int32)))) (xs (Int32.toNatClampNeg (ix + (3 : Int32)))) (xs (Int32.toNatClampNeg (ix + (4 : Int32)))) H.size hfx) (okW hPx hK hDx) lk_L_46 rfl rfl ⟨Nat.le_of_ble_eq_true rfl, Nat.le_of_ble_eq_true rfl⟩ ⟨Nat.le_of_ble_eq_true rfl, Nat.le_of_ble_eq_true rfl⟩ hPx hK hDx hA hS xo_59 rfl hPm (neXM hap) rfl rfl hl (Nat.le_of_ble_eq_true rfl) dL_law_418 (fun H locs hPx hPm hS => ?_)
  replace hDx := xDs (I' := I1) (J' := J1) hDx
  refine lv_aload_n hx hb dL_law_421 rfl (lv_at hl 3 rfl) ?_
  refine lv_aload_n hx hb dL_law_422 rfl (lv_at hl 1 rfl) ?_
  refine lv_iload_n hx hb dL_law_423 rfl (lv_at hl 0 rfl) ?_
  refine lv_iconst (v := 1) hx hb dL_law_424 (by decide) ?_
  refine lv_iadd hx hb dL_law_425 ?_
  refine va_sld hx hb hX hbl hbA hS (inK hix (k := 1) rfl (by omega) hL) dL_law_426 ?_
  refine lv_aload_n hx hb dL_law_427 rfl (lv_at hl 1 rfl) ?_
  refine lv_iload_n hx hb dL_law_428 rfl (lv_at hl 0 rfl) ?_
  refine lv_iconst (v := 2) hx hb dL_law_429 (by decide) ?_
  refine lv_iadd hx hb dL_law_430 ?_
  refine va_sld hx hb hX hbl hbA hS (inK hix (k := 2) rfl (by omega) hL) dL_law_431 ?_
  refine lv_aload_n hx hb dL_law_432 rfl (lv_at hl 1 rfl) ?_
  refine lv_iload_n hx hb dL_law_433 rfl (lv_at hl 0 rfl) ?_
  refine lv_iconst (v := 3) hx hb dL_law_434 (by decide) ?_
  refine lv_iadd hx hb dL_law_435 ?_
  refine va_sld hx hb hX hbl hbA hS (inK hix (k := 3) rfl (by omega) hL) dL_law_436 ?_
  refine lv_aload_n hx hb dL_law_437 rfl (lv_at hl 1 rfl) ?_
  refine lv_iload_n hx hb dL_law_438 rfl (lv_at hl 0 rfl) ?_
  refine lv_iconst (v := 4) hx hb dL_law_439 (by decide) ?_
  refine lv_iadd hx hb dL_law_440 ?_
  refine va_sld hx hb hX hbl hbA hS (inK hix (k := 4) rfl (by omega) hL) dL_law_441 ?_
  refine lawI (As := [.int (xs (Int32.toNatClampNeg (ix + (1 : Int32)))), .int (xs (Int32.toNatClampNeg (ix + (2 : Int32)))), .int (xs (Int32.toNatClampNeg (ix + (3 : Int32)))), .int (xs (Int32.toNatClampNeg (ix + (4 : Int32))))]) (rest := [.int r]) hC (c_X8_whose l g bd M N (xs (Int32.toNatClampNeg (ix + (1 : Int32)))) (xs (Int32.toNatClampNeg (ix + (2 : Int32)))) (xs (Int32.toNatClampNeg (ix + (3 : Int32)))) (xs (Int32.toNatClampNeg (ix + (4 : Int32)))) H.size hfm) (okW hPm hK hDm) lk_L_50 rfl rfl ⟨Nat.le_of_ble_eq_true rfl, Nat.le_of_ble_eq_true rfl⟩ ⟨Nat.le_of_ble_eq_true rfl, Nat.le_of_ble_eq_true rfl⟩ hPm hK hDm hA hS mo_0 rfl hPx (neMX hap) rfl rfl hl (Nat.le_of_ble_eq_true rfl) dL_law_442 (fun H locs hPm hPx hS => ?_)
  replace hDm := mDs (I' := M1) (J' := N1) hDm
  refine lv_icmp_eq (tgt := 1323) hx hb dL_law_445 (by decide) (fun _ => ?_) (fun hh => absurd rfl hh)
  exact kk _ _ _ _ _ _ hR1 hPx hPm hDx hDm hS
set_option maxHeartbeats 4000000 in
set_option maxRecDepth 100000 in
theorem law_case8 (l : Launch) {b L : Nat} {xs : Nat → Int32} (hL : L ≤ 4096) (hC : CallFix p m c code 4 s #[Value.ref b] BG RL) (hX : va_X b L xs s s.heap) (hbl : b < s.heap.size) (g : Gx) (ad bd : Nat → Nat) (qm : Nat) (hK : Kg g s) (hZ : ZM qm (fun q : Nat => s.heap.size ≤ q) s) (hap : Apart ad bd) (Rl : SI → SJ → SI → SJ → Prop) (hst : Steps_ Rl) (t : Nat) (ht : t ≤ 512) (hgo : 8 * t + 8 ≤ L) (ix : Int32) (hix : ix = nI (8 * t)) (I : SI) (J : SJ) (M : SI) (N : SJ) (H : Heap) (locs : List Loc) (ls : Array Slot) (hR : Rl I J M N) (hPx : Pg g (xW ad g I J) H) (hPm : Pg g (mW bd g M N) H) (hDx : va_D (fun q : Nat => s.heap.size ≤ q) (xW ad g I J)) (hDm : va_D (fun q : Nat => s.heap.size ≤ q) (mW bd g M N)) (hS : va_S (fun q : Nat => s.heap.size ≤ q) s.heap H locs) (hl : lv_has ls 4 [(3, .int ix), (0, .ref b), (1, .ref (ad 59)), (2, .ref (bd 0))]) (kk : ∀ (I : SI) (J : SJ) (M : SI) (N : SJ) (H : Heap) (locs : List Loc), Rl I J M N → Pg g (xW ad g I J) H → Pg g (mW bd g M N) H → va_D (fun q : Nat => s.heap.size ≤ q) (xW ad g I J) → va_D (fun q : Nat => s.heap.size ≤ q) (mW bd g M N) → va_S (fun q : Nat => s.heap.size ≤ q) s.heap H locs → W p l e room_1 s m #[Value.ref b] below meth c H locs 84 1230 (lw_Z below #[Value.ref b] s) (F0 m 1323 ls [])) : W p l e room_1 s m #[Value.ref b] below meth c H locs 84 1230 (lw_Z below #[Value.ref b] s) (F0 m 450 ls []) := by
  have hx := hC.1
  have hb := hC.2.1
  have hts := hC.2.2.2.2
  have hown := hC.2.2.2.1
  have hA : ∀ q : Nat, s.heap.size ≤ q → (fun q : Nat => s.heap.size ≤ q) q := fun _ h => h
  have hbA : ¬ (fun q : Nat => s.heap.size ≤ q) b := Nat.not_le.mpr hbl
  obtain ⟨r, I1, J1, M1, N1, hfx, hfm, hR1⟩ := hst.2.2.2.2.2.2.2.2.1 I J M N (xs (Int32.toNatClampNeg (ix + (1 : Int32)))) (xs (Int32.toNatClampNeg (ix + (2 : Int32)))) hR
  refine lv_aload_n hx hb dL_law_450 rfl (lv_at hl 2 rfl) ?_
  refine lv_aload_n hx hb dL_law_451 rfl (lv_at hl 1 rfl) ?_
  refine lv_iload_n hx hb dL_law_452 rfl (lv_at hl 0 rfl) ?_
  refine lv_iconst (v := 1) hx hb dL_law_453 (by decide) ?_
  refine lv_iadd hx hb dL_law_454 ?_
  refine va_sld hx hb hX hbl hbA hS (inK hix (k := 1) rfl (by omega) hL) dL_law_455 ?_
  refine lv_aload_n hx hb dL_law_456 rfl (lv_at hl 1 rfl) ?_
  refine lv_iload_n hx hb dL_law_457 rfl (lv_at hl 0 rfl) ?_
  refine lv_iconst (v := 2) hx hb dL_law_458 (by decide) ?_
  refine lv_iadd hx hb dL_law_459 ?_
  refine va_sld hx hb hX hbl hbA hS (inK hix (k := 2) rfl (by omega) hL) dL_law_460 ?_
  refine lawI (As := [.int (xs (Int32.toNatClampNeg (ix + (1 : Int32)))), .int (xs (Int32.toNatClampNeg (ix + (2 : Int32))))]) (rest := []) hC (c_X7_mind l g ad I J (xs (Int32.toNatClampNeg (ix + (1 : Int32)))) (xs (Int32.toNatClampNeg (ix + (2 : Int32)))) H.size hfx) (okW hPx hK hDx) lk_L_51 rfl rfl ⟨Nat.le_of_ble_eq_true rfl, Nat.le_of_ble_eq_true rfl⟩ ⟨Nat.le_of_ble_eq_true rfl, Nat.le_of_ble_eq_true rfl⟩ hPx hK hDx hA hS xo_59 rfl hPm (neXM hap) rfl rfl hl (Nat.le_of_ble_eq_true rfl) dL_law_461 (fun H locs hPx hPm hS => ?_)
  replace hDx := xDs (I' := I1) (J' := J1) hDx
  refine lv_aload_n hx hb dL_law_464 rfl (lv_at hl 3 rfl) ?_
  refine lv_aload_n hx hb dL_law_465 rfl (lv_at hl 1 rfl) ?_
  refine lv_iload_n hx hb dL_law_466 rfl (lv_at hl 0 rfl) ?_
  refine lv_iconst (v := 1) hx hb dL_law_467 (by decide) ?_
  refine lv_iadd hx hb dL_law_468 ?_
  refine va_sld hx hb hX hbl hbA hS (inK hix (k := 1) rfl (by omega) hL) dL_law_469 ?_
  refine lv_aload_n hx hb dL_law_470 rfl (lv_at hl 1 rfl) ?_
  refine lv_iload_n hx hb dL_law_471 rfl (lv_at hl 0 rfl) ?_
  refine lv_iconst (v := 2) hx hb dL_law_472 (by decide) ?_
  refine lv_iadd hx hb dL_law_473 ?_
  refine va_sld hx hb hX hbl hbA hS (inK hix (k := 2) rfl (by omega) hL) dL_law_474 ?_
  refine lawI (As := [.int (xs (Int32.toNatClampNeg (ix + (1 : Int32)))), .int (xs (Int32.toNatClampNeg (ix + (2 : Int32))))]) (rest := [.int r]) hC (c_X8_mind l g bd M N (xs (Int32.toNatClampNeg (ix + (1 : Int32)))) (xs (Int32.toNatClampNeg (ix + (2 : Int32)))) H.size hfm) (okW hPm hK hDm) lk_L_54 rfl rfl ⟨Nat.le_of_ble_eq_true rfl, Nat.le_of_ble_eq_true rfl⟩ ⟨Nat.le_of_ble_eq_true rfl, Nat.le_of_ble_eq_true rfl⟩ hPm hK hDm hA hS mo_0 rfl hPx (neMX hap) rfl rfl hl (Nat.le_of_ble_eq_true rfl) dL_law_475 (fun H locs hPm hPx hS => ?_)
  replace hDm := mDs (I' := M1) (J' := N1) hDm
  refine lv_icmp_eq (tgt := 1323) hx hb dL_law_478 (by decide) (fun _ => ?_) (fun hh => absurd rfl hh)
  exact kk _ _ _ _ _ _ hR1 hPx hPm hDx hDm hS
set_option maxHeartbeats 4000000 in
set_option maxRecDepth 100000 in
theorem law_case9 (l : Launch) {b L : Nat} {xs : Nat → Int32} (hL : L ≤ 4096) (hC : CallFix p m c code 4 s #[Value.ref b] BG RL) (hX : va_X b L xs s s.heap) (hbl : b < s.heap.size) (g : Gx) (ad bd : Nat → Nat) (qm : Nat) (hK : Kg g s) (hZ : ZM qm (fun q : Nat => s.heap.size ≤ q) s) (hap : Apart ad bd) (Rl : SI → SJ → SI → SJ → Prop) (hst : Steps_ Rl) (t : Nat) (ht : t ≤ 512) (hgo : 8 * t + 8 ≤ L) (ix : Int32) (hix : ix = nI (8 * t)) (I : SI) (J : SJ) (M : SI) (N : SJ) (H : Heap) (locs : List Loc) (ls : Array Slot) (hR : Rl I J M N) (hPx : Pg g (xW ad g I J) H) (hPm : Pg g (mW bd g M N) H) (hDx : va_D (fun q : Nat => s.heap.size ≤ q) (xW ad g I J)) (hDm : va_D (fun q : Nat => s.heap.size ≤ q) (mW bd g M N)) (hS : va_S (fun q : Nat => s.heap.size ≤ q) s.heap H locs) (hl : lv_has ls 4 [(3, .int ix), (0, .ref b), (1, .ref (ad 59)), (2, .ref (bd 0))]) (kk : ∀ (I : SI) (J : SJ) (M : SI) (N : SJ) (H : Heap) (locs : List Loc), Rl I J M N → Pg g (xW ad g I J) H → Pg g (mW bd g M N) H → va_D (fun q : Nat => s.heap.size ≤ q) (xW ad g I J) → va_D (fun q : Nat => s.heap.size ≤ q) (mW bd g M N) → va_S (fun q : Nat => s.heap.size ≤ q) s.heap H locs → W p l e room_1 s m #[Value.ref b] below meth c H locs 84 1230 (lw_Z below #[Value.ref b] s) (F0 m 1323 ls [])) : W p l e room_1 s m #[Value.ref b] below meth c H locs 84 1230 (lw_Z below #[Value.ref b] s) (F0 m 483 ls []) := by
  have hx := hC.1
  have hb := hC.2.1
  have hts := hC.2.2.2.2
  have hown := hC.2.2.2.1
  have hA : ∀ q : Nat, s.heap.size ≤ q → (fun q : Nat => s.heap.size ≤ q) q := fun _ h => h
  have hbA : ¬ (fun q : Nat => s.heap.size ≤ q) b := Nat.not_le.mpr hbl
  obtain ⟨r, I1, J1, M1, N1, hfx, hfm, hR1⟩ := hst.2.2.2.2.2.2.2.2.2.1 I J M N (xs (Int32.toNatClampNeg (ix + (1 : Int32)))) (xs (Int32.toNatClampNeg (ix + (2 : Int32)))) (xs (Int32.toNatClampNeg (ix + (3 : Int32)))) hR
  refine lv_aload_n hx hb dL_law_483 rfl (lv_at hl 2 rfl) ?_
  refine lv_aload_n hx hb dL_law_484 rfl (lv_at hl 1 rfl) ?_
  refine lv_iload_n hx hb dL_law_485 rfl (lv_at hl 0 rfl) ?_
  refine lv_iconst (v := 1) hx hb dL_law_486 (by decide) ?_
  refine lv_iadd hx hb dL_law_487 ?_
  refine va_sld hx hb hX hbl hbA hS (inK hix (k := 1) rfl (by omega) hL) dL_law_488 ?_
  refine lv_aload_n hx hb dL_law_489 rfl (lv_at hl 1 rfl) ?_
  refine lv_iload_n hx hb dL_law_490 rfl (lv_at hl 0 rfl) ?_
  refine lv_iconst (v := 2) hx hb dL_law_491 (by decide) ?_
  refine lv_iadd hx hb dL_law_492 ?_
  refine va_sld hx hb hX hbl hbA hS (inK hix (k := 2) rfl (by omega) hL) dL_law_493 ?_
  refine lv_aload_n hx hb dL_law_494 rfl (lv_at hl 1 rfl) ?_
  refine lv_iload_n hx hb dL_law_495 rfl (lv_at hl 0 rfl) ?_
  refine lv_iconst (v := 3) hx hb dL_law_496 (by decide) ?_
  refine lv_iadd hx hb dL_law_497 ?_
  refine va_sld hx hb hX hbl hbA hS (inK hix (k := 3) rfl (by omega) hL) dL_law_498 ?_
  refine lawL (As := [.int (xs (Int32.toNatClampNeg (ix + (1 : Int32)))), .int (xs (Int32.toNatClampNeg (ix + (2 : Int32)))), .int (xs (Int32.toNatClampNeg (ix + (3 : Int32))))]) (rest := []) hC (c_X7_worth l g ad I J (xs (Int32.toNatClampNeg (ix + (1 : Int32)))) (xs (Int32.toNatClampNeg (ix + (2 : Int32)))) (xs (Int32.toNatClampNeg (ix + (3 : Int32)))) H.size hfx) (okW hPx hK hDx) lk_L_55 rfl rfl ⟨Nat.le_of_ble_eq_true rfl, Nat.le_of_ble_eq_true rfl⟩ ⟨Nat.le_of_ble_eq_true rfl, Nat.le_of_ble_eq_true rfl⟩ hPx hK hDx hA hS xo_59 rfl hPm (neXM hap) rfl rfl hl (Nat.le_of_ble_eq_true rfl) dL_law_499 (fun H locs hPx hPm hS => ?_)
  replace hDx := xDs (I' := I1) (J' := J1) hDx
  refine lv_aload_n hx hb dL_law_502 rfl (lv_at hl 3 rfl) ?_
  refine lv_aload_n hx hb dL_law_503 rfl (lv_at hl 1 rfl) ?_
  refine lv_iload_n hx hb dL_law_504 rfl (lv_at hl 0 rfl) ?_
  refine lv_iconst (v := 1) hx hb dL_law_505 (by decide) ?_
  refine lv_iadd hx hb dL_law_506 ?_
  refine va_sld hx hb hX hbl hbA hS (inK hix (k := 1) rfl (by omega) hL) dL_law_507 ?_
  refine lv_aload_n hx hb dL_law_508 rfl (lv_at hl 1 rfl) ?_
  refine lv_iload_n hx hb dL_law_509 rfl (lv_at hl 0 rfl) ?_
  refine lv_iconst (v := 2) hx hb dL_law_510 (by decide) ?_
  refine lv_iadd hx hb dL_law_511 ?_
  refine va_sld hx hb hX hbl hbA hS (inK hix (k := 2) rfl (by omega) hL) dL_law_512 ?_
  refine lv_aload_n hx hb dL_law_513 rfl (lv_at hl 1 rfl) ?_
  refine lv_iload_n hx hb dL_law_514 rfl (lv_at hl 0 rfl) ?_
  refine lv_iconst (v := 3) hx hb dL_law_515 (by decide) ?_
  refine lv_iadd hx hb dL_law_516 ?_
  refine va_sld hx hb hX hbl hbA hS (inK hix (k := 3) rfl (by omega) hL) dL_law_517 ?_
  refine lawL (As := [.int (xs (Int32.toNatClampNeg (ix + (1 : Int32)))), .int (xs (Int32.toNatClampNeg (ix + (2 : Int32)))), .int (xs (Int32.toNatClampNeg (ix + (3 : Int32))))]) (rest := [.long r]) hC (c_X8_worth l g bd M N (xs (Int32.toNatClampNeg (ix + (1 : Int32)))) (xs (Int32.toNatClampNeg (ix + (2 : Int32)))) (xs (Int32.toNatClampNeg (ix + (3 : Int32)))) H.size hfm) (okW hPm hK hDm) lk_L_59 rfl rfl ⟨Nat.le_of_ble_eq_true rfl, Nat.le_of_ble_eq_true rfl⟩ ⟨Nat.le_of_ble_eq_true rfl, Nat.le_of_ble_eq_true rfl⟩ hPm hK hDm hA hS mo_0 rfl hPx (neMX hap) rfl rfl hl (Nat.le_of_ble_eq_true rfl) dL_law_518 (fun H locs hPm hPx hS => ?_)
  replace hDm := mDs (I' := M1) (J' := N1) hDm
  refine W.lcmp hx hb dL_law_521 ?_
  refine lv_if_eq (tgt := 1323) hx hb dL_law_522 (by decide) (fun _ => ?_) (fun hh => absurd ((lg_cmp_eq _ _).mpr rfl) hh)
  exact kk _ _ _ _ _ _ hR1 hPx hPm hDx hDm hS
set_option maxHeartbeats 4000000 in
set_option maxRecDepth 100000 in
theorem law_case10 (l : Launch) {b L : Nat} {xs : Nat → Int32} (hL : L ≤ 4096) (hC : CallFix p m c code 4 s #[Value.ref b] BG RL) (hX : va_X b L xs s s.heap) (hbl : b < s.heap.size) (g : Gx) (ad bd : Nat → Nat) (qm : Nat) (hK : Kg g s) (hZ : ZM qm (fun q : Nat => s.heap.size ≤ q) s) (hap : Apart ad bd) (Rl : SI → SJ → SI → SJ → Prop) (hst : Steps_ Rl) (t : Nat) (ht : t ≤ 512) (hgo : 8 * t + 8 ≤ L) (ix : Int32) (hix : ix = nI (8 * t)) (I : SI) (J : SJ) (M : SI) (N : SJ) (H : Heap) (locs : List Loc) (ls : Array Slot) (hR : Rl I J M N) (hPx : Pg g (xW ad g I J) H) (hPm : Pg g (mW bd g M N) H) (hDx : va_D (fun q : Nat => s.heap.size ≤ q) (xW ad g I J)) (hDm : va_D (fun q : Nat => s.heap.size ≤ q) (mW bd g M N)) (hS : va_S (fun q : Nat => s.heap.size ≤ q) s.heap H locs) (hl : lv_has ls 4 [(3, .int ix), (0, .ref b), (1, .ref (ad 59)), (2, .ref (bd 0))]) (kk : ∀ (I : SI) (J : SJ) (M : SI) (N : SJ) (H : Heap) (locs : List Loc), Rl I J M N → Pg g (xW ad g I J) H → Pg g (mW bd g M N) H → va_D (fun q : Nat => s.heap.size ≤ q) (xW ad g I J) → va_D (fun q : Nat => s.heap.size ≤ q) (mW bd g M N) → va_S (fun q : Nat => s.heap.size ≤ q) s.heap H locs → W p l e room_1 s m #[Value.ref b] below meth c H locs 84 1230 (lw_Z below #[Value.ref b] s) (F0 m 1323 ls [])) : W p l e room_1 s m #[Value.ref b] below meth c H locs 84 1230 (lw_Z below #[Value.ref b] s) (F0 m 527 ls []) := by
  have hx := hC.1
  have hb := hC.2.1
  have hts := hC.2.2.2.2
  have hown := hC.2.2.2.1
  have hA : ∀ q : Nat, s.heap.size ≤ q → (fun q : Nat => s.heap.size ≤ q) q := fun _ h => h
  have hbA : ¬ (fun q : Nat => s.heap.size ≤ q) b := Nat.not_le.mpr hbl
  obtain ⟨r, I1, J1, M1, N1, hfx, hfm, hR1⟩ := hst.2.2.2.2.2.2.2.2.2.2.1 I J M N (xs (Int32.toNatClampNeg (ix + (1 : Int32)))) hR
  refine lv_aload_n hx hb dL_law_527 rfl (lv_at hl 2 rfl) ?_
  refine lv_aload_n hx hb dL_law_528 rfl (lv_at hl 1 rfl) ?_
  refine lv_iload_n hx hb dL_law_529 rfl (lv_at hl 0 rfl) ?_
  refine lv_iconst (v := 1) hx hb dL_law_530 (by decide) ?_
  refine lv_iadd hx hb dL_law_531 ?_
  refine va_sld hx hb hX hbl hbA hS (inK hix (k := 1) rfl (by omega) hL) dL_law_532 ?_
  refine lawI (As := [.int (xs (Int32.toNatClampNeg (ix + (1 : Int32))))]) (rest := []) hC (c_X7_pains l g ad I J (xs (Int32.toNatClampNeg (ix + (1 : Int32)))) H.size hfx) (okW hPx hK hDx) lk_L_60 rfl rfl ⟨Nat.le_of_ble_eq_true rfl, Nat.le_of_ble_eq_true rfl⟩ ⟨Nat.le_of_ble_eq_true rfl, Nat.le_of_ble_eq_true rfl⟩ hPx hK hDx hA hS xo_59 rfl hPm (neXM hap) rfl rfl hl (Nat.le_of_ble_eq_true rfl) dL_law_533 (fun H locs hPx hPm hS => ?_)
  replace hDx := xDs (I' := I1) (J' := J1) hDx
  refine lv_aload_n hx hb dL_law_536 rfl (lv_at hl 3 rfl) ?_
  refine lv_aload_n hx hb dL_law_537 rfl (lv_at hl 1 rfl) ?_
  refine lv_iload_n hx hb dL_law_538 rfl (lv_at hl 0 rfl) ?_
  refine lv_iconst (v := 1) hx hb dL_law_539 (by decide) ?_
  refine lv_iadd hx hb dL_law_540 ?_
  refine va_sld hx hb hX hbl hbA hS (inK hix (k := 1) rfl (by omega) hL) dL_law_541 ?_
  refine lawI (As := [.int (xs (Int32.toNatClampNeg (ix + (1 : Int32))))]) (rest := [.int r]) hC (c_X8_pains l g bd M N (xs (Int32.toNatClampNeg (ix + (1 : Int32)))) H.size hfm) (okW hPm hK hDm) lk_L_64 rfl rfl ⟨Nat.le_of_ble_eq_true rfl, Nat.le_of_ble_eq_true rfl⟩ ⟨Nat.le_of_ble_eq_true rfl, Nat.le_of_ble_eq_true rfl⟩ hPm hK hDm hA hS mo_0 rfl hPx (neMX hap) rfl rfl hl (Nat.le_of_ble_eq_true rfl) dL_law_542 (fun H locs hPm hPx hS => ?_)
  replace hDm := mDs (I' := M1) (J' := N1) hDm
  refine lv_icmp_eq (tgt := 1323) hx hb dL_law_545 (by decide) (fun _ => ?_) (fun hh => absurd rfl hh)
  exact kk _ _ _ _ _ _ hR1 hPx hPm hDx hDm hS
set_option maxHeartbeats 4000000 in
set_option maxRecDepth 100000 in
theorem law_case11 (l : Launch) {b L : Nat} {xs : Nat → Int32} (hL : L ≤ 4096) (hC : CallFix p m c code 4 s #[Value.ref b] BG RL) (hX : va_X b L xs s s.heap) (hbl : b < s.heap.size) (g : Gx) (ad bd : Nat → Nat) (qm : Nat) (hK : Kg g s) (hZ : ZM qm (fun q : Nat => s.heap.size ≤ q) s) (hap : Apart ad bd) (Rl : SI → SJ → SI → SJ → Prop) (hst : Steps_ Rl) (t : Nat) (ht : t ≤ 512) (hgo : 8 * t + 8 ≤ L) (ix : Int32) (hix : ix = nI (8 * t)) (I : SI) (J : SJ) (M : SI) (N : SJ) (H : Heap) (locs : List Loc) (ls : Array Slot) (hR : Rl I J M N) (hPx : Pg g (xW ad g I J) H) (hPm : Pg g (mW bd g M N) H) (hDx : va_D (fun q : Nat => s.heap.size ≤ q) (xW ad g I J)) (hDm : va_D (fun q : Nat => s.heap.size ≤ q) (mW bd g M N)) (hS : va_S (fun q : Nat => s.heap.size ≤ q) s.heap H locs) (hl : lv_has ls 4 [(3, .int ix), (0, .ref b), (1, .ref (ad 59)), (2, .ref (bd 0))]) (kk : ∀ (I : SI) (J : SJ) (M : SI) (N : SJ) (H : Heap) (locs : List Loc), Rl I J M N → Pg g (xW ad g I J) H → Pg g (mW bd g M N) H → va_D (fun q : Nat => s.heap.size ≤ q) (xW ad g I J) → va_D (fun q : Nat => s.heap.size ≤ q) (mW bd g M N) → va_S (fun q : Nat => s.heap.size ≤ q) s.heap H locs → W p l e room_1 s m #[Value.ref b] below meth c H locs 84 1230 (lw_Z below #[Value.ref b] s) (F0 m 1323 ls [])) : W p l e room_1 s m #[Value.ref b] below meth c H locs 84 1230 (lw_Z below #[Value.ref b] s) (F0 m 550 ls []) := by
  have hx := hC.1
  have hb := hC.2.1
  have hts := hC.2.2.2.2
  have hown := hC.2.2.2.1
  have hA : ∀ q : Nat, s.heap.size ≤ q → (fun q : Nat => s.heap.size ≤ q) q := fun _ h => h
  have hbA : ¬ (fun q : Nat => s.heap.size ≤ q) b := Nat.not_le.mpr hbl
  obtain ⟨r, I1, J1, M1, N1, hfx, hfm, hR1⟩ := hst.2.2.2.2.2.2.2.2.2.2.2.1 I J M N (xs (Int32.toNatClampNeg (ix + (1 : Int32)))) hR
  refine lv_aload_n hx hb dL_law_550 rfl (lv_at hl 2 rfl) ?_
  refine lv_aload_n hx hb dL_law_551 rfl (lv_at hl 1 rfl) ?_
  refine lv_iload_n hx hb dL_law_552 rfl (lv_at hl 0 rfl) ?_
  refine lv_iconst (v := 1) hx hb dL_law_553 (by decide) ?_
  refine lv_iadd hx hb dL_law_554 ?_
  refine va_sld hx hb hX hbl hbA hS (inK hix (k := 1) rfl (by omega) hL) dL_law_555 ?_
  refine lawI (As := [.int (xs (Int32.toNatClampNeg (ix + (1 : Int32))))]) (rest := []) hC (c_X7_takes l g ad I J (xs (Int32.toNatClampNeg (ix + (1 : Int32)))) H.size hfx) (okW hPx hK hDx) lk_L_65 rfl rfl ⟨Nat.le_of_ble_eq_true rfl, Nat.le_of_ble_eq_true rfl⟩ ⟨Nat.le_of_ble_eq_true rfl, Nat.le_of_ble_eq_true rfl⟩ hPx hK hDx hA hS xo_59 rfl hPm (neXM hap) rfl rfl hl (Nat.le_of_ble_eq_true rfl) dL_law_556 (fun H locs hPx hPm hS => ?_)
  replace hDx := xDs (I' := I1) (J' := J1) hDx
  refine lv_aload_n hx hb dL_law_559 rfl (lv_at hl 3 rfl) ?_
  refine lv_aload_n hx hb dL_law_560 rfl (lv_at hl 1 rfl) ?_
  refine lv_iload_n hx hb dL_law_561 rfl (lv_at hl 0 rfl) ?_
  refine lv_iconst (v := 1) hx hb dL_law_562 (by decide) ?_
  refine lv_iadd hx hb dL_law_563 ?_
  refine va_sld hx hb hX hbl hbA hS (inK hix (k := 1) rfl (by omega) hL) dL_law_564 ?_
  refine lawI (As := [.int (xs (Int32.toNatClampNeg (ix + (1 : Int32))))]) (rest := [.int r]) hC (c_X8_takes l g bd M N (xs (Int32.toNatClampNeg (ix + (1 : Int32)))) H.size hfm) (okW hPm hK hDm) lk_L_68 rfl rfl ⟨Nat.le_of_ble_eq_true rfl, Nat.le_of_ble_eq_true rfl⟩ ⟨Nat.le_of_ble_eq_true rfl, Nat.le_of_ble_eq_true rfl⟩ hPm hK hDm hA hS mo_0 rfl hPx (neMX hap) rfl rfl hl (Nat.le_of_ble_eq_true rfl) dL_law_565 (fun H locs hPm hPx hS => ?_)
  replace hDm := mDs (I' := M1) (J' := N1) hDm
  refine lv_icmp_eq (tgt := 1323) hx hb dL_law_568 (by decide) (fun _ => ?_) (fun hh => absurd rfl hh)
  exact kk _ _ _ _ _ _ hR1 hPx hPm hDx hDm hS
set_option maxHeartbeats 4000000 in
set_option maxRecDepth 100000 in
theorem law_case12 (l : Launch) {b L : Nat} {xs : Nat → Int32} (hL : L ≤ 4096) (hC : CallFix p m c code 4 s #[Value.ref b] BG RL) (hX : va_X b L xs s s.heap) (hbl : b < s.heap.size) (g : Gx) (ad bd : Nat → Nat) (qm : Nat) (hK : Kg g s) (hZ : ZM qm (fun q : Nat => s.heap.size ≤ q) s) (hap : Apart ad bd) (Rl : SI → SJ → SI → SJ → Prop) (hst : Steps_ Rl) (t : Nat) (ht : t ≤ 512) (hgo : 8 * t + 8 ≤ L) (ix : Int32) (hix : ix = nI (8 * t)) (I : SI) (J : SJ) (M : SI) (N : SJ) (H : Heap) (locs : List Loc) (ls : Array Slot) (hR : Rl I J M N) (hPx : Pg g (xW ad g I J) H) (hPm : Pg g (mW bd g M N) H) (hDx : va_D (fun q : Nat => s.heap.size ≤ q) (xW ad g I J)) (hDm : va_D (fun q : Nat => s.heap.size ≤ q) (mW bd g M N)) (hS : va_S (fun q : Nat => s.heap.size ≤ q) s.heap H locs) (hl : lv_has ls 4 [(3, .int ix), (0, .ref b), (1, .ref (ad 59)), (2, .ref (bd 0))]) (kk : ∀ (I : SI) (J : SJ) (M : SI) (N : SJ) (H : Heap) (locs : List Loc), Rl I J M N → Pg g (xW ad g I J) H → Pg g (mW bd g M N) H → va_D (fun q : Nat => s.heap.size ≤ q) (xW ad g I J) → va_D (fun q : Nat => s.heap.size ≤ q) (mW bd g M N) → va_S (fun q : Nat => s.heap.size ≤ q) s.heap H locs → W p l e room_1 s m #[Value.ref b] below meth c H locs 84 1230 (lw_Z below #[Value.ref b] s) (F0 m 1323 ls [])) : W p l e room_1 s m #[Value.ref b] below meth c H locs 84 1230 (lw_Z below #[Value.ref b] s) (F0 m 573 ls []) := by
  have hx := hC.1
  have hb := hC.2.1
  have hts := hC.2.2.2.2
  have hown := hC.2.2.2.1
  have hA : ∀ q : Nat, s.heap.size ≤ q → (fun q : Nat => s.heap.size ≤ q) q := fun _ h => h
  have hbA : ¬ (fun q : Nat => s.heap.size ≤ q) b := Nat.not_le.mpr hbl
  obtain ⟨r, I1, J1, M1, N1, hfx, hfm, hR1⟩ := hst.2.2.2.2.2.2.2.2.2.2.2.2.1 I J M N (xs (Int32.toNatClampNeg (ix + (1 : Int32)))) (xs (Int32.toNatClampNeg (ix + (2 : Int32)))) (xs (Int32.toNatClampNeg (ix + (3 : Int32)))) hR
  refine lv_aload_n hx hb dL_law_573 rfl (lv_at hl 2 rfl) ?_
  refine lv_aload_n hx hb dL_law_574 rfl (lv_at hl 1 rfl) ?_
  refine lv_iload_n hx hb dL_law_575 rfl (lv_at hl 0 rfl) ?_
  refine lv_iconst (v := 1) hx hb dL_law_576 (by decide) ?_
  refine lv_iadd hx hb dL_law_577 ?_
  refine va_sld hx hb hX hbl hbA hS (inK hix (k := 1) rfl (by omega) hL) dL_law_578 ?_
  refine lv_aload_n hx hb dL_law_579 rfl (lv_at hl 1 rfl) ?_
  refine lv_iload_n hx hb dL_law_580 rfl (lv_at hl 0 rfl) ?_
  refine lv_iconst (v := 2) hx hb dL_law_581 (by decide) ?_
  refine lv_iadd hx hb dL_law_582 ?_
  refine va_sld hx hb hX hbl hbA hS (inK hix (k := 2) rfl (by omega) hL) dL_law_583 ?_
  refine lv_aload_n hx hb dL_law_584 rfl (lv_at hl 1 rfl) ?_
  refine lv_iload_n hx hb dL_law_585 rfl (lv_at hl 0 rfl) ?_
  refine lv_iconst (v := 3) hx hb dL_law_586 (by decide) ?_
  refine lv_iadd hx hb dL_law_587 ?_
  refine va_sld hx hb hX hbl hbA hS (inK hix (k := 3) rfl (by omega) hL) dL_law_588 ?_
  refine lawI (As := [.int (xs (Int32.toNatClampNeg (ix + (1 : Int32)))), .int (xs (Int32.toNatClampNeg (ix + (2 : Int32)))), .int (xs (Int32.toNatClampNeg (ix + (3 : Int32))))]) (rest := []) hC (c_X7_mean l g ad I J (xs (Int32.toNatClampNeg (ix + (1 : Int32)))) (xs (Int32.toNatClampNeg (ix + (2 : Int32)))) (xs (Int32.toNatClampNeg (ix + (3 : Int32)))) H.size hfx) (okW hPx hK hDx) lk_L_69 rfl rfl ⟨Nat.le_of_ble_eq_true rfl, Nat.le_of_ble_eq_true rfl⟩ ⟨Nat.le_of_ble_eq_true rfl, Nat.le_of_ble_eq_true rfl⟩ hPx hK hDx hA hS xo_59 rfl hPm (neXM hap) rfl rfl hl (Nat.le_of_ble_eq_true rfl) dL_law_589 (fun H locs hPx hPm hS => ?_)
  replace hDx := xDs (I' := I1) (J' := J1) hDx
  refine lv_aload_n hx hb dL_law_592 rfl (lv_at hl 3 rfl) ?_
  refine lv_aload_n hx hb dL_law_593 rfl (lv_at hl 1 rfl) ?_
  refine lv_iload_n hx hb dL_law_594 rfl (lv_at hl 0 rfl) ?_
  refine lv_iconst (v := 1) hx hb dL_law_595 (by decide) ?_
  refine lv_iadd hx hb dL_law_596 ?_
  refine va_sld hx hb hX hbl hbA hS (inK hix (k := 1) rfl (by omega) hL) dL_law_597 ?_
  refine lv_aload_n hx hb dL_law_598 rfl (lv_at hl 1 rfl) ?_
  refine lv_iload_n hx hb dL_law_599 rfl (lv_at hl 0 rfl) ?_
  refine lv_iconst (v := 2) hx hb dL_law_600 (by decide) ?_
  refine lv_iadd hx hb dL_law_601 ?_
  refine va_sld hx hb hX hbl hbA hS (inK hix (k := 2) rfl (by omega) hL) dL_law_602 ?_
  refine lv_aload_n hx hb dL_law_603 rfl (lv_at hl 1 rfl) ?_
  refine lv_iload_n hx hb dL_law_604 rfl (lv_at hl 0 rfl) ?_
  refine lv_iconst (v := 3) hx hb dL_law_605 (by decide) ?_
  refine lv_iadd hx hb dL_law_606 ?_
  refine va_sld hx hb hX hbl hbA hS (inK hix (k := 3) rfl (by omega) hL) dL_law_607 ?_
  refine lawI (As := [.int (xs (Int32.toNatClampNeg (ix + (1 : Int32)))), .int (xs (Int32.toNatClampNeg (ix + (2 : Int32)))), .int (xs (Int32.toNatClampNeg (ix + (3 : Int32))))]) (rest := [.int r]) hC (c_X8_mean l g bd M N (xs (Int32.toNatClampNeg (ix + (1 : Int32)))) (xs (Int32.toNatClampNeg (ix + (2 : Int32)))) (xs (Int32.toNatClampNeg (ix + (3 : Int32)))) H.size hfm) (okW hPm hK hDm) lk_L_73 rfl rfl ⟨Nat.le_of_ble_eq_true rfl, Nat.le_of_ble_eq_true rfl⟩ ⟨Nat.le_of_ble_eq_true rfl, Nat.le_of_ble_eq_true rfl⟩ hPm hK hDm hA hS mo_0 rfl hPx (neMX hap) rfl rfl hl (Nat.le_of_ble_eq_true rfl) dL_law_608 (fun H locs hPm hPx hS => ?_)
  replace hDm := mDs (I' := M1) (J' := N1) hDm
  refine lv_icmp_eq (tgt := 1323) hx hb dL_law_611 (by decide) (fun _ => ?_) (fun hh => absurd rfl hh)
  exact kk _ _ _ _ _ _ hR1 hPx hPm hDx hDm hS
set_option maxHeartbeats 4000000 in
set_option maxRecDepth 100000 in
theorem law_case13 (l : Launch) {b L : Nat} {xs : Nat → Int32} (hL : L ≤ 4096) (hC : CallFix p m c code 4 s #[Value.ref b] BG RL) (hX : va_X b L xs s s.heap) (hbl : b < s.heap.size) (g : Gx) (ad bd : Nat → Nat) (qm : Nat) (hK : Kg g s) (hZ : ZM qm (fun q : Nat => s.heap.size ≤ q) s) (hap : Apart ad bd) (Rl : SI → SJ → SI → SJ → Prop) (hst : Steps_ Rl) (t : Nat) (ht : t ≤ 512) (hgo : 8 * t + 8 ≤ L) (ix : Int32) (hix : ix = nI (8 * t)) (I : SI) (J : SJ) (M : SI) (N : SJ) (H : Heap) (locs : List Loc) (ls : Array Slot) (hR : Rl I J M N) (hPx : Pg g (xW ad g I J) H) (hPm : Pg g (mW bd g M N) H) (hDx : va_D (fun q : Nat => s.heap.size ≤ q) (xW ad g I J)) (hDm : va_D (fun q : Nat => s.heap.size ≤ q) (mW bd g M N)) (hS : va_S (fun q : Nat => s.heap.size ≤ q) s.heap H locs) (hl : lv_has ls 4 [(3, .int ix), (0, .ref b), (1, .ref (ad 59)), (2, .ref (bd 0))]) (kk : ∀ (I : SI) (J : SJ) (M : SI) (N : SJ) (H : Heap) (locs : List Loc), Rl I J M N → Pg g (xW ad g I J) H → Pg g (mW bd g M N) H → va_D (fun q : Nat => s.heap.size ≤ q) (xW ad g I J) → va_D (fun q : Nat => s.heap.size ≤ q) (mW bd g M N) → va_S (fun q : Nat => s.heap.size ≤ q) s.heap H locs → W p l e room_1 s m #[Value.ref b] below meth c H locs 84 1230 (lw_Z below #[Value.ref b] s) (F0 m 1323 ls [])) : W p l e room_1 s m #[Value.ref b] below meth c H locs 84 1230 (lw_Z below #[Value.ref b] s) (F0 m 616 ls []) := by
  have hx := hC.1
  have hb := hC.2.1
  have hts := hC.2.2.2.2
  have hown := hC.2.2.2.1
  have hA : ∀ q : Nat, s.heap.size ≤ q → (fun q : Nat => s.heap.size ≤ q) q := fun _ h => h
  have hbA : ¬ (fun q : Nat => s.heap.size ≤ q) b := Nat.not_le.mpr hbl
  obtain ⟨r, I1, J1, M1, N1, hfx, hfm, hR1⟩ := hst.2.2.2.2.2.2.2.2.2.2.2.2.2.1 I J M N  hR
  refine lv_aload_n hx hb dL_law_616 rfl (lv_at hl 2 rfl) ?_
  refine lawI (As := []) (rest := []) hC (c_X7_proof l g ad I J  H.size hfx) (okW hPx hK hDx) lk_L_74 rfl rfl ⟨Nat.le_of_ble_eq_true rfl, Nat.le_of_ble_eq_true rfl⟩ ⟨Nat.le_of_ble_eq_true rfl, Nat.le_of_ble_eq_true rfl⟩ hPx hK hDx hA hS xo_59 rfl hPm (neXM hap) rfl rfl hl (Nat.le_of_ble_eq_true rfl) dL_law_617 (fun H locs hPx hPm hS => ?_)
  replace hDx := xDs (I' := I1) (J' := J1) hDx
  refine lv_aload_n hx hb dL_law_620 rfl (lv_at hl 3 rfl) ?_
  refine lawI (As := []) (rest := [.int r]) hC (c_X8_proof l g bd M N  H.size hfm) (okW hPm hK hDm) lk_L_77 rfl rfl ⟨Nat.le_of_ble_eq_true rfl, Nat.le_of_ble_eq_true rfl⟩ ⟨Nat.le_of_ble_eq_true rfl, Nat.le_of_ble_eq_true rfl⟩ hPm hK hDm hA hS mo_0 rfl hPx (neMX hap) rfl rfl hl (Nat.le_of_ble_eq_true rfl) dL_law_621 (fun H locs hPm hPx hS => ?_)
  replace hDm := mDs (I' := M1) (J' := N1) hDm
  refine lv_icmp_eq (tgt := 1323) hx hb dL_law_624 (by decide) (fun _ => ?_) (fun hh => absurd rfl hh)
  exact kk _ _ _ _ _ _ hR1 hPx hPm hDx hDm hS
set_option maxHeartbeats 4000000 in
set_option maxRecDepth 100000 in
theorem law_case14 (l : Launch) {b L : Nat} {xs : Nat → Int32} (hL : L ≤ 4096) (hC : CallFix p m c code 4 s #[Value.ref b] BG RL) (hX : va_X b L xs s s.heap) (hbl : b < s.heap.size) (g : Gx) (ad bd : Nat → Nat) (qm : Nat) (hK : Kg g s) (hZ : ZM qm (fun q : Nat => s.heap.size ≤ q) s) (hap : Apart ad bd) (Rl : SI → SJ → SI → SJ → Prop) (hst : Steps_ Rl) (t : Nat) (ht : t ≤ 512) (hgo : 8 * t + 8 ≤ L) (ix : Int32) (hix : ix = nI (8 * t)) (I : SI) (J : SJ) (M : SI) (N : SJ) (H : Heap) (locs : List Loc) (ls : Array Slot) (hR : Rl I J M N) (hPx : Pg g (xW ad g I J) H) (hPm : Pg g (mW bd g M N) H) (hDx : va_D (fun q : Nat => s.heap.size ≤ q) (xW ad g I J)) (hDm : va_D (fun q : Nat => s.heap.size ≤ q) (mW bd g M N)) (hS : va_S (fun q : Nat => s.heap.size ≤ q) s.heap H locs) (hl : lv_has ls 4 [(3, .int ix), (0, .ref b), (1, .ref (ad 59)), (2, .ref (bd 0))]) (kk : ∀ (I : SI) (J : SJ) (M : SI) (N : SJ) (H : Heap) (locs : List Loc), Rl I J M N → Pg g (xW ad g I J) H → Pg g (mW bd g M N) H → va_D (fun q : Nat => s.heap.size ≤ q) (xW ad g I J) → va_D (fun q : Nat => s.heap.size ≤ q) (mW bd g M N) → va_S (fun q : Nat => s.heap.size ≤ q) s.heap H locs → W p l e room_1 s m #[Value.ref b] below meth c H locs 84 1230 (lw_Z below #[Value.ref b] s) (F0 m 1323 ls [])) : W p l e room_1 s m #[Value.ref b] below meth c H locs 84 1230 (lw_Z below #[Value.ref b] s) (F0 m 629 ls []) := by
  have hx := hC.1
  have hb := hC.2.1
  have hts := hC.2.2.2.2
  have hown := hC.2.2.2.1
  have hA : ∀ q : Nat, s.heap.size ≤ q → (fun q : Nat => s.heap.size ≤ q) q := fun _ h => h
  have hbA : ¬ (fun q : Nat => s.heap.size ≤ q) b := Nat.not_le.mpr hbl
  obtain ⟨r, I1, J1, M1, N1, hfx, hfm, hR1⟩ := hst.2.2.2.2.2.2.2.2.2.2.2.2.2.2.1 I J M N  hR
  refine lv_aload_n hx hb dL_law_629 rfl (lv_at hl 2 rfl) ?_
  refine lawL (As := []) (rest := []) hC (c_X7_gap l g ad I J  H.size hfx) (okW hPx hK hDx) lk_L_78 rfl rfl ⟨Nat.le_of_ble_eq_true rfl, Nat.le_of_ble_eq_true rfl⟩ ⟨Nat.le_of_ble_eq_true rfl, Nat.le_of_ble_eq_true rfl⟩ hPx hK hDx hA hS xo_59 rfl hPm (neXM hap) rfl rfl hl (Nat.le_of_ble_eq_true rfl) dL_law_630 (fun H locs hPx hPm hS => ?_)
  replace hDx := xDs (I' := I1) (J' := J1) hDx
  refine lv_aload_n hx hb dL_law_633 rfl (lv_at hl 3 rfl) ?_
  refine lawL (As := []) (rest := [.long r]) hC (c_X8_gap l g bd M N  H.size hfm) (okW hPm hK hDm) lk_L_82 rfl rfl ⟨Nat.le_of_ble_eq_true rfl, Nat.le_of_ble_eq_true rfl⟩ ⟨Nat.le_of_ble_eq_true rfl, Nat.le_of_ble_eq_true rfl⟩ hPm hK hDm hA hS mo_0 rfl hPx (neMX hap) rfl rfl hl (Nat.le_of_ble_eq_true rfl) dL_law_634 (fun H locs hPm hPx hS => ?_)
  replace hDm := mDs (I' := M1) (J' := N1) hDm
  refine W.lcmp hx hb dL_law_637 ?_
  refine lv_if_eq (tgt := 1323) hx hb dL_law_638 (by decide) (fun _ => ?_) (fun hh => absurd ((lg_cmp_eq _ _).mpr rfl) hh)
  exact kk _ _ _ _ _ _ hR1 hPx hPm hDx hDm hS
set_option maxHeartbeats 4000000 in
set_option maxRecDepth 100000 in
theorem law_case15 (l : Launch) {b L : Nat} {xs : Nat → Int32} (hL : L ≤ 4096) (hC : CallFix p m c code 4 s #[Value.ref b] BG RL) (hX : va_X b L xs s s.heap) (hbl : b < s.heap.size) (g : Gx) (ad bd : Nat → Nat) (qm : Nat) (hK : Kg g s) (hZ : ZM qm (fun q : Nat => s.heap.size ≤ q) s) (hap : Apart ad bd) (Rl : SI → SJ → SI → SJ → Prop) (hst : Steps_ Rl) (t : Nat) (ht : t ≤ 512) (hgo : 8 * t + 8 ≤ L) (ix : Int32) (hix : ix = nI (8 * t)) (I : SI) (J : SJ) (M : SI) (N : SJ) (H : Heap) (locs : List Loc) (ls : Array Slot) (hR : Rl I J M N) (hPx : Pg g (xW ad g I J) H) (hPm : Pg g (mW bd g M N) H) (hDx : va_D (fun q : Nat => s.heap.size ≤ q) (xW ad g I J)) (hDm : va_D (fun q : Nat => s.heap.size ≤ q) (mW bd g M N)) (hS : va_S (fun q : Nat => s.heap.size ≤ q) s.heap H locs) (hl : lv_has ls 4 [(3, .int ix), (0, .ref b), (1, .ref (ad 59)), (2, .ref (bd 0))]) (kk : ∀ (I : SI) (J : SJ) (M : SI) (N : SJ) (H : Heap) (locs : List Loc), Rl I J M N → Pg g (xW ad g I J) H → Pg g (mW bd g M N) H → va_D (fun q : Nat => s.heap.size ≤ q) (xW ad g I J) → va_D (fun q : Nat => s.heap.size ≤ q) (mW bd g M N) → va_S (fun q : Nat => s.heap.size ≤ q) s.heap H locs → W p l e room_1 s m #[Value.ref b] below meth c H locs 84 1230 (lw_Z below #[Value.ref b] s) (F0 m 1323 ls [])) : W p l e room_1 s m #[Value.ref b] below meth c H locs 84 1230 (lw_Z below #[Value.ref b] s) (F0 m 643 ls []) := by
  have hx := hC.1
  have hb := hC.2.1
  have hts := hC.2.2.2.2
  have hown := hC.2.2.2.1
  have hA : ∀ q : Nat, s.heap.size ≤ q → (fun q : Nat => s.heap.size ≤ q) q := fun _ h => h
  have hbA : ¬ (fun q : Nat => s.heap.size ≤ q) b := Nat.not_le.mpr hbl
  obtain ⟨r, I1, J1, M1, N1, hfx, hfm, hR1⟩ := hst.2.2.2.2.2.2.2.2.2.2.2.2.2.2.2.1 I J M N  hR
  refine lv_aload_n hx hb dL_law_643 rfl (lv_at hl 2 rfl) ?_
  refine lawL (As := []) (rest := []) hC (c_X7_half l g ad I J  H.size hfx) (okW hPx hK hDx) lk_L_83 rfl rfl ⟨Nat.le_of_ble_eq_true rfl, Nat.le_of_ble_eq_true rfl⟩ ⟨Nat.le_of_ble_eq_true rfl, Nat.le_of_ble_eq_true rfl⟩ hPx hK hDx hA hS xo_59 rfl hPm (neXM hap) rfl rfl hl (Nat.le_of_ble_eq_true rfl) dL_law_644 (fun H locs hPx hPm hS => ?_)
  replace hDx := xDs (I' := I1) (J' := J1) hDx
  refine lv_aload_n hx hb dL_law_647 rfl (lv_at hl 3 rfl) ?_
  refine lawL (As := []) (rest := [.long r]) hC (c_X8_half l g bd M N  H.size hfm) (okW hPm hK hDm) lk_L_86 rfl rfl ⟨Nat.le_of_ble_eq_true rfl, Nat.le_of_ble_eq_true rfl⟩ ⟨Nat.le_of_ble_eq_true rfl, Nat.le_of_ble_eq_true rfl⟩ hPm hK hDm hA hS mo_0 rfl hPx (neMX hap) rfl rfl hl (Nat.le_of_ble_eq_true rfl) dL_law_648 (fun H locs hPm hPx hS => ?_)
  replace hDm := mDs (I' := M1) (J' := N1) hDm
  refine W.lcmp hx hb dL_law_651 ?_
  refine lv_if_eq (tgt := 1323) hx hb dL_law_652 (by decide) (fun _ => ?_) (fun hh => absurd ((lg_cmp_eq _ _).mpr rfl) hh)
  exact kk _ _ _ _ _ _ hR1 hPx hPm hDx hDm hS
set_option maxHeartbeats 4000000 in
set_option maxRecDepth 100000 in
theorem law_case16 (l : Launch) {b L : Nat} {xs : Nat → Int32} (hL : L ≤ 4096) (hC : CallFix p m c code 4 s #[Value.ref b] BG RL) (hX : va_X b L xs s s.heap) (hbl : b < s.heap.size) (g : Gx) (ad bd : Nat → Nat) (qm : Nat) (hK : Kg g s) (hZ : ZM qm (fun q : Nat => s.heap.size ≤ q) s) (hap : Apart ad bd) (Rl : SI → SJ → SI → SJ → Prop) (hst : Steps_ Rl) (t : Nat) (ht : t ≤ 512) (hgo : 8 * t + 8 ≤ L) (ix : Int32) (hix : ix = nI (8 * t)) (I : SI) (J : SJ) (M : SI) (N : SJ) (H : Heap) (locs : List Loc) (ls : Array Slot) (hR : Rl I J M N) (hPx : Pg g (xW ad g I J) H) (hPm : Pg g (mW bd g M N) H) (hDx : va_D (fun q : Nat => s.heap.size ≤ q) (xW ad g I J)) (hDm : va_D (fun q : Nat => s.heap.size ≤ q) (mW bd g M N)) (hS : va_S (fun q : Nat => s.heap.size ≤ q) s.heap H locs) (hl : lv_has ls 4 [(3, .int ix), (0, .ref b), (1, .ref (ad 59)), (2, .ref (bd 0))]) (kk : ∀ (I : SI) (J : SJ) (M : SI) (N : SJ) (H : Heap) (locs : List Loc), Rl I J M N → Pg g (xW ad g I J) H → Pg g (mW bd g M N) H → va_D (fun q : Nat => s.heap.size ≤ q) (xW ad g I J) → va_D (fun q : Nat => s.heap.size ≤ q) (mW bd g M N) → va_S (fun q : Nat => s.heap.size ≤ q) s.heap H locs → W p l e room_1 s m #[Value.ref b] below meth c H locs 84 1230 (lw_Z below #[Value.ref b] s) (F0 m 1323 ls [])) : W p l e room_1 s m #[Value.ref b] below meth c H locs 84 1230 (lw_Z below #[Value.ref b] s) (F0 m 657 ls []) := by
  have hx := hC.1
  have hb := hC.2.1
  have hts := hC.2.2.2.2
  have hown := hC.2.2.2.1
  have hA : ∀ q : Nat, s.heap.size ≤ q → (fun q : Nat => s.heap.size ≤ q) q := fun _ h => h
  have hbA : ¬ (fun q : Nat => s.heap.size ≤ q) b := Nat.not_le.mpr hbl
  obtain ⟨r, I1, J1, M1, N1, hfx, hfm, hR1⟩ := hst.2.2.2.2.2.2.2.2.2.2.2.2.2.2.2.2.1 I J M N (xs (Int32.toNatClampNeg (ix + (1 : Int32)))) (xs (Int32.toNatClampNeg (ix + (2 : Int32)))) (xs (Int32.toNatClampNeg (ix + (3 : Int32)))) (xs (Int32.toNatClampNeg (ix + (4 : Int32)))) hR
  refine lv_aload_n hx hb dL_law_657 rfl (lv_at hl 2 rfl) ?_
  refine lv_aload_n hx hb dL_law_658 rfl (lv_at hl 1 rfl) ?_
  refine lv_iload_n hx hb dL_law_659 rfl (lv_at hl 0 rfl) ?_
  refine lv_iconst (v := 1) hx hb dL_law_660 (by decide) ?_
  refine lv_iadd hx hb dL_law_661 ?_
  refine va_sld hx hb hX hbl hbA hS (inK hix (k := 1) rfl (by omega) hL) dL_law_662 ?_
  refine lv_aload_n hx hb dL_law_663 rfl (lv_at hl 1 rfl) ?_
  refine lv_iload_n hx hb dL_law_664 rfl (lv_at hl 0 rfl) ?_
  refine lv_iconst (v := 2) hx hb dL_law_665 (by decide) ?_
  refine lv_iadd hx hb dL_law_666 ?_
  refine va_sld hx hb hX hbl hbA hS (inK hix (k := 2) rfl (by omega) hL) dL_law_667 ?_
  refine lv_aload_n hx hb dL_law_668 rfl (lv_at hl 1 rfl) ?_
  refine lv_iload_n hx hb dL_law_669 rfl (lv_at hl 0 rfl) ?_
  refine lv_iconst (v := 3) hx hb dL_law_670 (by decide) ?_
  refine lv_iadd hx hb dL_law_671 ?_
  refine va_sld hx hb hX hbl hbA hS (inK hix (k := 3) rfl (by omega) hL) dL_law_672 ?_
  refine lv_aload_n hx hb dL_law_673 rfl (lv_at hl 1 rfl) ?_
  refine lv_iload_n hx hb dL_law_674 rfl (lv_at hl 0 rfl) ?_
  refine lv_iconst (v := 4) hx hb dL_law_675 (by decide) ?_
  refine lv_iadd hx hb dL_law_676 ?_
  refine va_sld hx hb hX hbl hbA hS (inK hix (k := 4) rfl (by omega) hL) dL_law_677 ?_
  refine lawI (As := [.int (xs (Int32.toNatClampNeg (ix + (1 : Int32)))), .int (xs (Int32.toNatClampNeg (ix + (2 : Int32)))), .int (xs (Int32.toNatClampNeg (ix + (3 : Int32)))), .int (xs (Int32.toNatClampNeg (ix + (4 : Int32))))]) (rest := []) hC (c_X7_less l g ad I J (xs (Int32.toNatClampNeg (ix + (1 : Int32)))) (xs (Int32.toNatClampNeg (ix + (2 : Int32)))) (xs (Int32.toNatClampNeg (ix + (3 : Int32)))) (xs (Int32.toNatClampNeg (ix + (4 : Int32)))) H.size hfx) (okW hPx hK hDx) lk_L_87 rfl rfl ⟨Nat.le_of_ble_eq_true rfl, Nat.le_of_ble_eq_true rfl⟩ ⟨Nat.le_of_ble_eq_true rfl, Nat.le_of_ble_eq_true rfl⟩ hPx hK hDx hA hS xo_59 rfl hPm (neXM hap) rfl rfl hl (Nat.le_of_ble_eq_true rfl) dL_law_678 (fun H locs hPx hPm hS => ?_)
  replace hDx := xDs (I' := I1) (J' := J1) hDx
  refine lv_aload_n hx hb dL_law_681 rfl (lv_at hl 3 rfl) ?_
  refine lv_aload_n hx hb dL_law_682 rfl (lv_at hl 1 rfl) ?_
  refine lv_iload_n hx hb dL_law_683 rfl (lv_at hl 0 rfl) ?_
  refine lv_iconst (v := 1) hx hb dL_law_684 (by decide) ?_
  refine lv_iadd hx hb dL_law_685 ?_
  refine va_sld hx hb hX hbl hbA hS (inK hix (k := 1) rfl (by omega) hL) dL_law_686 ?_
  refine lv_aload_n hx hb dL_law_687 rfl (lv_at hl 1 rfl) ?_
  refine lv_iload_n hx hb dL_law_688 rfl (lv_at hl 0 rfl) ?_
  refine lv_iconst (v := 2) hx hb dL_law_689 (by decide) ?_
  refine lv_iadd hx hb dL_law_690 ?_
  refine va_sld hx hb hX hbl hbA hS (inK hix (k := 2) rfl (by omega) hL) dL_law_691 ?_
  refine lv_aload_n hx hb dL_law_692 rfl (lv_at hl 1 rfl) ?_
  refine lv_iload_n hx hb dL_law_693 rfl (lv_at hl 0 rfl) ?_
  refine lv_iconst (v := 3) hx hb dL_law_694 (by decide) ?_
  refine lv_iadd hx hb dL_law_695 ?_
  refine va_sld hx hb hX hbl hbA hS (inK hix (k := 3) rfl (by omega) hL) dL_law_696 ?_
  refine lv_aload_n hx hb dL_law_697 rfl (lv_at hl 1 rfl) ?_
  refine lv_iload_n hx hb dL_law_698 rfl (lv_at hl 0 rfl) ?_
  refine lv_iconst (v := 4) hx hb dL_law_699 (by decide) ?_
  refine lv_iadd hx hb dL_law_700 ?_
  refine va_sld hx hb hX hbl hbA hS (inK hix (k := 4) rfl (by omega) hL) dL_law_701 ?_
  refine lawI (As := [.int (xs (Int32.toNatClampNeg (ix + (1 : Int32)))), .int (xs (Int32.toNatClampNeg (ix + (2 : Int32)))), .int (xs (Int32.toNatClampNeg (ix + (3 : Int32)))), .int (xs (Int32.toNatClampNeg (ix + (4 : Int32))))]) (rest := [.int r]) hC (c_X8_less l g bd M N (xs (Int32.toNatClampNeg (ix + (1 : Int32)))) (xs (Int32.toNatClampNeg (ix + (2 : Int32)))) (xs (Int32.toNatClampNeg (ix + (3 : Int32)))) (xs (Int32.toNatClampNeg (ix + (4 : Int32)))) H.size hfm) (okW hPm hK hDm) lk_L_90 rfl rfl ⟨Nat.le_of_ble_eq_true rfl, Nat.le_of_ble_eq_true rfl⟩ ⟨Nat.le_of_ble_eq_true rfl, Nat.le_of_ble_eq_true rfl⟩ hPm hK hDm hA hS mo_0 rfl hPx (neMX hap) rfl rfl hl (Nat.le_of_ble_eq_true rfl) dL_law_702 (fun H locs hPm hPx hS => ?_)
  replace hDm := mDs (I' := M1) (J' := N1) hDm
  refine lv_icmp_eq (tgt := 1323) hx hb dL_law_705 (by decide) (fun _ => ?_) (fun hh => absurd rfl hh)
  exact kk _ _ _ _ _ _ hR1 hPx hPm hDx hDm hS
set_option maxHeartbeats 4000000 in
set_option maxRecDepth 100000 in
theorem law_case17 (l : Launch) {b L : Nat} {xs : Nat → Int32} (hL : L ≤ 4096) (hC : CallFix p m c code 4 s #[Value.ref b] BG RL) (hX : va_X b L xs s s.heap) (hbl : b < s.heap.size) (g : Gx) (ad bd : Nat → Nat) (qm : Nat) (hK : Kg g s) (hZ : ZM qm (fun q : Nat => s.heap.size ≤ q) s) (hap : Apart ad bd) (Rl : SI → SJ → SI → SJ → Prop) (hst : Steps_ Rl) (t : Nat) (ht : t ≤ 512) (hgo : 8 * t + 8 ≤ L) (ix : Int32) (hix : ix = nI (8 * t)) (I : SI) (J : SJ) (M : SI) (N : SJ) (H : Heap) (locs : List Loc) (ls : Array Slot) (hR : Rl I J M N) (hPx : Pg g (xW ad g I J) H) (hPm : Pg g (mW bd g M N) H) (hDx : va_D (fun q : Nat => s.heap.size ≤ q) (xW ad g I J)) (hDm : va_D (fun q : Nat => s.heap.size ≤ q) (mW bd g M N)) (hS : va_S (fun q : Nat => s.heap.size ≤ q) s.heap H locs) (hl : lv_has ls 4 [(3, .int ix), (0, .ref b), (1, .ref (ad 59)), (2, .ref (bd 0))]) (kk : ∀ (I : SI) (J : SJ) (M : SI) (N : SJ) (H : Heap) (locs : List Loc), Rl I J M N → Pg g (xW ad g I J) H → Pg g (mW bd g M N) H → va_D (fun q : Nat => s.heap.size ≤ q) (xW ad g I J) → va_D (fun q : Nat => s.heap.size ≤ q) (mW bd g M N) → va_S (fun q : Nat => s.heap.size ≤ q) s.heap H locs → W p l e room_1 s m #[Value.ref b] below meth c H locs 84 1230 (lw_Z below #[Value.ref b] s) (F0 m 1323 ls [])) : W p l e room_1 s m #[Value.ref b] below meth c H locs 84 1230 (lw_Z below #[Value.ref b] s) (F0 m 710 ls []) := by
  have hx := hC.1
  have hb := hC.2.1
  have hts := hC.2.2.2.2
  have hown := hC.2.2.2.1
  have hA : ∀ q : Nat, s.heap.size ≤ q → (fun q : Nat => s.heap.size ≤ q) q := fun _ h => h
  have hbA : ¬ (fun q : Nat => s.heap.size ≤ q) b := Nat.not_le.mpr hbl
  obtain ⟨r, I1, J1, M1, N1, hfx, hfm, hR1⟩ := hst.2.2.2.2.2.2.2.2.2.2.2.2.2.2.2.2.2.1 I J M N (xs (Int32.toNatClampNeg (ix + (1 : Int32)))) (xs (Int32.toNatClampNeg (ix + (2 : Int32)))) (xs (Int32.toNatClampNeg (ix + (3 : Int32)))) hR
  refine lv_aload_n hx hb dL_law_710 rfl (lv_at hl 2 rfl) ?_
  refine lv_aload_n hx hb dL_law_711 rfl (lv_at hl 1 rfl) ?_
  refine lv_iload_n hx hb dL_law_712 rfl (lv_at hl 0 rfl) ?_
  refine lv_iconst (v := 1) hx hb dL_law_713 (by decide) ?_
  refine lv_iadd hx hb dL_law_714 ?_
  refine va_sld hx hb hX hbl hbA hS (inK hix (k := 1) rfl (by omega) hL) dL_law_715 ?_
  refine lv_aload_n hx hb dL_law_716 rfl (lv_at hl 1 rfl) ?_
  refine lv_iload_n hx hb dL_law_717 rfl (lv_at hl 0 rfl) ?_
  refine lv_iconst (v := 2) hx hb dL_law_718 (by decide) ?_
  refine lv_iadd hx hb dL_law_719 ?_
  refine va_sld hx hb hX hbl hbA hS (inK hix (k := 2) rfl (by omega) hL) dL_law_720 ?_
  refine lv_aload_n hx hb dL_law_721 rfl (lv_at hl 1 rfl) ?_
  refine lv_iload_n hx hb dL_law_722 rfl (lv_at hl 0 rfl) ?_
  refine lv_iconst (v := 3) hx hb dL_law_723 (by decide) ?_
  refine lv_iadd hx hb dL_law_724 ?_
  refine va_sld hx hb hX hbl hbA hS (inK hix (k := 3) rfl (by omega) hL) dL_law_725 ?_
  refine lawI (As := [.int (xs (Int32.toNatClampNeg (ix + (1 : Int32)))), .int (xs (Int32.toNatClampNeg (ix + (2 : Int32)))), .int (xs (Int32.toNatClampNeg (ix + (3 : Int32))))]) (rest := []) hC (c_X7_looks l g ad I J (xs (Int32.toNatClampNeg (ix + (1 : Int32)))) (xs (Int32.toNatClampNeg (ix + (2 : Int32)))) (xs (Int32.toNatClampNeg (ix + (3 : Int32)))) H.size hfx) (okW hPx hK hDx) lk_L_91 rfl rfl ⟨Nat.le_of_ble_eq_true rfl, Nat.le_of_ble_eq_true rfl⟩ ⟨Nat.le_of_ble_eq_true rfl, Nat.le_of_ble_eq_true rfl⟩ hPx hK hDx hA hS xo_59 rfl hPm (neXM hap) rfl rfl hl (Nat.le_of_ble_eq_true rfl) dL_law_726 (fun H locs hPx hPm hS => ?_)
  replace hDx := xDs (I' := I1) (J' := J1) hDx
  refine lv_aload_n hx hb dL_law_729 rfl (lv_at hl 3 rfl) ?_
  refine lv_aload_n hx hb dL_law_730 rfl (lv_at hl 1 rfl) ?_
  refine lv_iload_n hx hb dL_law_731 rfl (lv_at hl 0 rfl) ?_
  refine lv_iconst (v := 1) hx hb dL_law_732 (by decide) ?_
  refine lv_iadd hx hb dL_law_733 ?_
  refine va_sld hx hb hX hbl hbA hS (inK hix (k := 1) rfl (by omega) hL) dL_law_734 ?_
  refine lv_aload_n hx hb dL_law_735 rfl (lv_at hl 1 rfl) ?_
  refine lv_iload_n hx hb dL_law_736 rfl (lv_at hl 0 rfl) ?_
  refine lv_iconst (v := 2) hx hb dL_law_737 (by decide) ?_
  refine lv_iadd hx hb dL_law_738 ?_
  refine va_sld hx hb hX hbl hbA hS (inK hix (k := 2) rfl (by omega) hL) dL_law_739 ?_
  refine lv_aload_n hx hb dL_law_740 rfl (lv_at hl 1 rfl) ?_
  refine lv_iload_n hx hb dL_law_741 rfl (lv_at hl 0 rfl) ?_
  refine lv_iconst (v := 3) hx hb dL_law_742 (by decide) ?_
  refine lv_iadd hx hb dL_law_743 ?_
  refine va_sld hx hb hX hbl hbA hS (inK hix (k := 3) rfl (by omega) hL) dL_law_744 ?_
  refine lawI (As := [.int (xs (Int32.toNatClampNeg (ix + (1 : Int32)))), .int (xs (Int32.toNatClampNeg (ix + (2 : Int32)))), .int (xs (Int32.toNatClampNeg (ix + (3 : Int32))))]) (rest := [.int r]) hC (c_X8_looks l g bd M N (xs (Int32.toNatClampNeg (ix + (1 : Int32)))) (xs (Int32.toNatClampNeg (ix + (2 : Int32)))) (xs (Int32.toNatClampNeg (ix + (3 : Int32)))) H.size hfm) (okW hPm hK hDm) lk_L_94 rfl rfl ⟨Nat.le_of_ble_eq_true rfl, Nat.le_of_ble_eq_true rfl⟩ ⟨Nat.le_of_ble_eq_true rfl, Nat.le_of_ble_eq_true rfl⟩ hPm hK hDm hA hS mo_0 rfl hPx (neMX hap) rfl rfl hl (Nat.le_of_ble_eq_true rfl) dL_law_745 (fun H locs hPm hPx hS => ?_)
  replace hDm := mDs (I' := M1) (J' := N1) hDm
  refine lv_icmp_eq (tgt := 1323) hx hb dL_law_748 (by decide) (fun _ => ?_) (fun hh => absurd rfl hh)
  exact kk _ _ _ _ _ _ hR1 hPx hPm hDx hDm hS
set_option maxHeartbeats 4000000 in
set_option maxRecDepth 100000 in
theorem law_case18 (l : Launch) {b L : Nat} {xs : Nat → Int32} (hL : L ≤ 4096) (hC : CallFix p m c code 4 s #[Value.ref b] BG RL) (hX : va_X b L xs s s.heap) (hbl : b < s.heap.size) (g : Gx) (ad bd : Nat → Nat) (qm : Nat) (hK : Kg g s) (hZ : ZM qm (fun q : Nat => s.heap.size ≤ q) s) (hap : Apart ad bd) (Rl : SI → SJ → SI → SJ → Prop) (hst : Steps_ Rl) (t : Nat) (ht : t ≤ 512) (hgo : 8 * t + 8 ≤ L) (ix : Int32) (hix : ix = nI (8 * t)) (I : SI) (J : SJ) (M : SI) (N : SJ) (H : Heap) (locs : List Loc) (ls : Array Slot) (hR : Rl I J M N) (hPx : Pg g (xW ad g I J) H) (hPm : Pg g (mW bd g M N) H) (hDx : va_D (fun q : Nat => s.heap.size ≤ q) (xW ad g I J)) (hDm : va_D (fun q : Nat => s.heap.size ≤ q) (mW bd g M N)) (hS : va_S (fun q : Nat => s.heap.size ≤ q) s.heap H locs) (hl : lv_has ls 4 [(3, .int ix), (0, .ref b), (1, .ref (ad 59)), (2, .ref (bd 0))]) (kk : ∀ (I : SI) (J : SJ) (M : SI) (N : SJ) (H : Heap) (locs : List Loc), Rl I J M N → Pg g (xW ad g I J) H → Pg g (mW bd g M N) H → va_D (fun q : Nat => s.heap.size ≤ q) (xW ad g I J) → va_D (fun q : Nat => s.heap.size ≤ q) (mW bd g M N) → va_S (fun q : Nat => s.heap.size ≤ q) s.heap H locs → W p l e room_1 s m #[Value.ref b] below meth c H locs 84 1230 (lw_Z below #[Value.ref b] s) (F0 m 1323 ls [])) : W p l e room_1 s m #[Value.ref b] below meth c H locs 84 1230 (lw_Z below #[Value.ref b] s) (F0 m 753 ls []) := by
  have hx := hC.1
  have hb := hC.2.1
  have hts := hC.2.2.2.2
  have hown := hC.2.2.2.1
  have hA : ∀ q : Nat, s.heap.size ≤ q → (fun q : Nat => s.heap.size ≤ q) q := fun _ h => h
  have hbA : ¬ (fun q : Nat => s.heap.size ≤ q) b := Nat.not_le.mpr hbl
  obtain ⟨r, I1, J1, M1, N1, hfx, hfm, hR1⟩ := hst.2.2.2.2.2.2.2.2.2.2.2.2.2.2.2.2.2.2.1 I J M N (xs (Int32.toNatClampNeg (ix + (1 : Int32)))) (xs (Int32.toNatClampNeg (ix + (2 : Int32)))) (xs (Int32.toNatClampNeg (ix + (3 : Int32)))) (xs (Int32.toNatClampNeg (ix + (4 : Int32)))) hR
  refine lv_aload_n hx hb dL_law_753 rfl (lv_at hl 2 rfl) ?_
  refine lv_aload_n hx hb dL_law_754 rfl (lv_at hl 1 rfl) ?_
  refine lv_iload_n hx hb dL_law_755 rfl (lv_at hl 0 rfl) ?_
  refine lv_iconst (v := 1) hx hb dL_law_756 (by decide) ?_
  refine lv_iadd hx hb dL_law_757 ?_
  refine va_sld hx hb hX hbl hbA hS (inK hix (k := 1) rfl (by omega) hL) dL_law_758 ?_
  refine lv_aload_n hx hb dL_law_759 rfl (lv_at hl 1 rfl) ?_
  refine lv_iload_n hx hb dL_law_760 rfl (lv_at hl 0 rfl) ?_
  refine lv_iconst (v := 2) hx hb dL_law_761 (by decide) ?_
  refine lv_iadd hx hb dL_law_762 ?_
  refine va_sld hx hb hX hbl hbA hS (inK hix (k := 2) rfl (by omega) hL) dL_law_763 ?_
  refine lv_aload_n hx hb dL_law_764 rfl (lv_at hl 1 rfl) ?_
  refine lv_iload_n hx hb dL_law_765 rfl (lv_at hl 0 rfl) ?_
  refine lv_iconst (v := 3) hx hb dL_law_766 (by decide) ?_
  refine lv_iadd hx hb dL_law_767 ?_
  refine va_sld hx hb hX hbl hbA hS (inK hix (k := 3) rfl (by omega) hL) dL_law_768 ?_
  refine lv_aload_n hx hb dL_law_769 rfl (lv_at hl 1 rfl) ?_
  refine lv_iload_n hx hb dL_law_770 rfl (lv_at hl 0 rfl) ?_
  refine lv_iconst (v := 4) hx hb dL_law_771 (by decide) ?_
  refine lv_iadd hx hb dL_law_772 ?_
  refine va_sld hx hb hX hbl hbA hS (inK hix (k := 4) rfl (by omega) hL) dL_law_773 ?_
  refine lawL (As := [.int (xs (Int32.toNatClampNeg (ix + (1 : Int32)))), .int (xs (Int32.toNatClampNeg (ix + (2 : Int32)))), .int (xs (Int32.toNatClampNeg (ix + (3 : Int32)))), .int (xs (Int32.toNatClampNeg (ix + (4 : Int32))))]) (rest := []) hC (c_X7_years l g ad I J (xs (Int32.toNatClampNeg (ix + (1 : Int32)))) (xs (Int32.toNatClampNeg (ix + (2 : Int32)))) (xs (Int32.toNatClampNeg (ix + (3 : Int32)))) (xs (Int32.toNatClampNeg (ix + (4 : Int32)))) H.size hfx) (okW hPx hK hDx) lk_L_95 rfl rfl ⟨Nat.le_of_ble_eq_true rfl, Nat.le_of_ble_eq_true rfl⟩ ⟨Nat.le_of_ble_eq_true rfl, Nat.le_of_ble_eq_true rfl⟩ hPx hK hDx hA hS xo_59 rfl hPm (neXM hap) rfl rfl hl (Nat.le_of_ble_eq_true rfl) dL_law_774 (fun H locs hPx hPm hS => ?_)
  replace hDx := xDs (I' := I1) (J' := J1) hDx
  refine lv_aload_n hx hb dL_law_777 rfl (lv_at hl 3 rfl) ?_
  refine lv_aload_n hx hb dL_law_778 rfl (lv_at hl 1 rfl) ?_
  refine lv_iload_n hx hb dL_law_779 rfl (lv_at hl 0 rfl) ?_
  refine lv_iconst (v := 1) hx hb dL_law_780 (by decide) ?_
  refine lv_iadd hx hb dL_law_781 ?_
  refine va_sld hx hb hX hbl hbA hS (inK hix (k := 1) rfl (by omega) hL) dL_law_782 ?_
  refine lv_aload_n hx hb dL_law_783 rfl (lv_at hl 1 rfl) ?_
  refine lv_iload_n hx hb dL_law_784 rfl (lv_at hl 0 rfl) ?_
  refine lv_iconst (v := 2) hx hb dL_law_785 (by decide) ?_
  refine lv_iadd hx hb dL_law_786 ?_
  refine va_sld hx hb hX hbl hbA hS (inK hix (k := 2) rfl (by omega) hL) dL_law_787 ?_
  refine lv_aload_n hx hb dL_law_788 rfl (lv_at hl 1 rfl) ?_
  refine lv_iload_n hx hb dL_law_789 rfl (lv_at hl 0 rfl) ?_
  refine lv_iconst (v := 3) hx hb dL_law_790 (by decide) ?_
  refine lv_iadd hx hb dL_law_791 ?_
  refine va_sld hx hb hX hbl hbA hS (inK hix (k := 3) rfl (by omega) hL) dL_law_792 ?_
  refine lv_aload_n hx hb dL_law_793 rfl (lv_at hl 1 rfl) ?_
  refine lv_iload_n hx hb dL_law_794 rfl (lv_at hl 0 rfl) ?_
  refine lv_iconst (v := 4) hx hb dL_law_795 (by decide) ?_
  refine lv_iadd hx hb dL_law_796 ?_
  refine va_sld hx hb hX hbl hbA hS (inK hix (k := 4) rfl (by omega) hL) dL_law_797 ?_
  refine lawL (As := [.int (xs (Int32.toNatClampNeg (ix + (1 : Int32)))), .int (xs (Int32.toNatClampNeg (ix + (2 : Int32)))), .int (xs (Int32.toNatClampNeg (ix + (3 : Int32)))), .int (xs (Int32.toNatClampNeg (ix + (4 : Int32))))]) (rest := [.long r]) hC (c_X8_years l g bd M N (xs (Int32.toNatClampNeg (ix + (1 : Int32)))) (xs (Int32.toNatClampNeg (ix + (2 : Int32)))) (xs (Int32.toNatClampNeg (ix + (3 : Int32)))) (xs (Int32.toNatClampNeg (ix + (4 : Int32)))) H.size hfm) (okW hPm hK hDm) lk_L_99 rfl rfl ⟨Nat.le_of_ble_eq_true rfl, Nat.le_of_ble_eq_true rfl⟩ ⟨Nat.le_of_ble_eq_true rfl, Nat.le_of_ble_eq_true rfl⟩ hPm hK hDm hA hS mo_0 rfl hPx (neMX hap) rfl rfl hl (Nat.le_of_ble_eq_true rfl) dL_law_798 (fun H locs hPm hPx hS => ?_)
  replace hDm := mDs (I' := M1) (J' := N1) hDm
  refine W.lcmp hx hb dL_law_801 ?_
  refine lv_if_eq (tgt := 1323) hx hb dL_law_802 (by decide) (fun _ => ?_) (fun hh => absurd ((lg_cmp_eq _ _).mpr rfl) hh)
  exact kk _ _ _ _ _ _ hR1 hPx hPm hDx hDm hS
set_option maxHeartbeats 4000000 in
set_option maxRecDepth 100000 in
theorem law_case19 (l : Launch) {b L : Nat} {xs : Nat → Int32} (hL : L ≤ 4096) (hC : CallFix p m c code 4 s #[Value.ref b] BG RL) (hX : va_X b L xs s s.heap) (hbl : b < s.heap.size) (g : Gx) (ad bd : Nat → Nat) (qm : Nat) (hK : Kg g s) (hZ : ZM qm (fun q : Nat => s.heap.size ≤ q) s) (hap : Apart ad bd) (Rl : SI → SJ → SI → SJ → Prop) (hst : Steps_ Rl) (t : Nat) (ht : t ≤ 512) (hgo : 8 * t + 8 ≤ L) (ix : Int32) (hix : ix = nI (8 * t)) (I : SI) (J : SJ) (M : SI) (N : SJ) (H : Heap) (locs : List Loc) (ls : Array Slot) (hR : Rl I J M N) (hPx : Pg g (xW ad g I J) H) (hPm : Pg g (mW bd g M N) H) (hDx : va_D (fun q : Nat => s.heap.size ≤ q) (xW ad g I J)) (hDm : va_D (fun q : Nat => s.heap.size ≤ q) (mW bd g M N)) (hS : va_S (fun q : Nat => s.heap.size ≤ q) s.heap H locs) (hl : lv_has ls 4 [(3, .int ix), (0, .ref b), (1, .ref (ad 59)), (2, .ref (bd 0))]) (kk : ∀ (I : SI) (J : SJ) (M : SI) (N : SJ) (H : Heap) (locs : List Loc), Rl I J M N → Pg g (xW ad g I J) H → Pg g (mW bd g M N) H → va_D (fun q : Nat => s.heap.size ≤ q) (xW ad g I J) → va_D (fun q : Nat => s.heap.size ≤ q) (mW bd g M N) → va_S (fun q : Nat => s.heap.size ≤ q) s.heap H locs → W p l e room_1 s m #[Value.ref b] below meth c H locs 84 1230 (lw_Z below #[Value.ref b] s) (F0 m 1323 ls [])) : W p l e room_1 s m #[Value.ref b] below meth c H locs 84 1230 (lw_Z below #[Value.ref b] s) (F0 m 807 ls []) := by
  have hx := hC.1
  have hb := hC.2.1
  have hts := hC.2.2.2.2
  have hown := hC.2.2.2.1
  have hA : ∀ q : Nat, s.heap.size ≤ q → (fun q : Nat => s.heap.size ≤ q) q := fun _ h => h
  have hbA : ¬ (fun q : Nat => s.heap.size ≤ q) b := Nat.not_le.mpr hbl
  obtain ⟨r, I1, J1, M1, N1, hfx, hfm, hR1⟩ := hst.2.2.2.2.2.2.2.2.2.2.2.2.2.2.2.2.2.2.2.1 I J M N (xs (Int32.toNatClampNeg (ix + (1 : Int32)))) (xs (Int32.toNatClampNeg (ix + (2 : Int32)))) hR
  refine lv_aload_n hx hb dL_law_807 rfl (lv_at hl 2 rfl) ?_
  refine lv_aload_n hx hb dL_law_808 rfl (lv_at hl 1 rfl) ?_
  refine lv_iload_n hx hb dL_law_809 rfl (lv_at hl 0 rfl) ?_
  refine lv_iconst (v := 1) hx hb dL_law_810 (by decide) ?_
  refine lv_iadd hx hb dL_law_811 ?_
  refine va_sld hx hb hX hbl hbA hS (inK hix (k := 1) rfl (by omega) hL) dL_law_812 ?_
  refine lv_aload_n hx hb dL_law_813 rfl (lv_at hl 1 rfl) ?_
  refine lv_iload_n hx hb dL_law_814 rfl (lv_at hl 0 rfl) ?_
  refine lv_iconst (v := 2) hx hb dL_law_815 (by decide) ?_
  refine lv_iadd hx hb dL_law_816 ?_
  refine va_sld hx hb hX hbl hbA hS (inK hix (k := 2) rfl (by omega) hL) dL_law_817 ?_
  refine lawI (As := [.int (xs (Int32.toNatClampNeg (ix + (1 : Int32)))), .int (xs (Int32.toNatClampNeg (ix + (2 : Int32))))]) (rest := []) hC (c_X7_leaving l g ad I J (xs (Int32.toNatClampNeg (ix + (1 : Int32)))) (xs (Int32.toNatClampNeg (ix + (2 : Int32)))) H.size hfx) (okW hPx hK hDx) lk_L_100 rfl rfl ⟨Nat.le_of_ble_eq_true rfl, Nat.le_of_ble_eq_true rfl⟩ ⟨Nat.le_of_ble_eq_true rfl, Nat.le_of_ble_eq_true rfl⟩ hPx hK hDx hA hS xo_59 rfl hPm (neXM hap) rfl rfl hl (Nat.le_of_ble_eq_true rfl) dL_law_818 (fun H locs hPx hPm hS => ?_)
  replace hDx := xDs (I' := I1) (J' := J1) hDx
  refine lv_aload_n hx hb dL_law_821 rfl (lv_at hl 3 rfl) ?_
  refine lv_aload_n hx hb dL_law_822 rfl (lv_at hl 1 rfl) ?_
  refine lv_iload_n hx hb dL_law_823 rfl (lv_at hl 0 rfl) ?_
  refine lv_iconst (v := 1) hx hb dL_law_824 (by decide) ?_
  refine lv_iadd hx hb dL_law_825 ?_
  refine va_sld hx hb hX hbl hbA hS (inK hix (k := 1) rfl (by omega) hL) dL_law_826 ?_
  refine lv_aload_n hx hb dL_law_827 rfl (lv_at hl 1 rfl) ?_
  refine lv_iload_n hx hb dL_law_828 rfl (lv_at hl 0 rfl) ?_
  refine lv_iconst (v := 2) hx hb dL_law_829 (by decide) ?_
  refine lv_iadd hx hb dL_law_830 ?_
  refine va_sld hx hb hX hbl hbA hS (inK hix (k := 2) rfl (by omega) hL) dL_law_831 ?_
  refine lawI (As := [.int (xs (Int32.toNatClampNeg (ix + (1 : Int32)))), .int (xs (Int32.toNatClampNeg (ix + (2 : Int32))))]) (rest := [.int r]) hC (c_X8_leaving l g bd M N (xs (Int32.toNatClampNeg (ix + (1 : Int32)))) (xs (Int32.toNatClampNeg (ix + (2 : Int32)))) H.size hfm) (okW hPm hK hDm) lk_L_103 rfl rfl ⟨Nat.le_of_ble_eq_true rfl, Nat.le_of_ble_eq_true rfl⟩ ⟨Nat.le_of_ble_eq_true rfl, Nat.le_of_ble_eq_true rfl⟩ hPm hK hDm hA hS mo_0 rfl hPx (neMX hap) rfl rfl hl (Nat.le_of_ble_eq_true rfl) dL_law_832 (fun H locs hPm hPx hS => ?_)
  replace hDm := mDs (I' := M1) (J' := N1) hDm
  refine lv_icmp_eq (tgt := 1323) hx hb dL_law_835 (by decide) (fun _ => ?_) (fun hh => absurd rfl hh)
  exact kk _ _ _ _ _ _ hR1 hPx hPm hDx hDm hS
set_option maxHeartbeats 4000000 in
set_option maxRecDepth 100000 in
theorem law_case20 (l : Launch) {b L : Nat} {xs : Nat → Int32} (hL : L ≤ 4096) (hC : CallFix p m c code 4 s #[Value.ref b] BG RL) (hX : va_X b L xs s s.heap) (hbl : b < s.heap.size) (g : Gx) (ad bd : Nat → Nat) (qm : Nat) (hK : Kg g s) (hZ : ZM qm (fun q : Nat => s.heap.size ≤ q) s) (hap : Apart ad bd) (Rl : SI → SJ → SI → SJ → Prop) (hst : Steps_ Rl) (t : Nat) (ht : t ≤ 512) (hgo : 8 * t + 8 ≤ L) (ix : Int32) (hix : ix = nI (8 * t)) (I : SI) (J : SJ) (M : SI) (N : SJ) (H : Heap) (locs : List Loc) (ls : Array Slot) (hR : Rl I J M N) (hPx : Pg g (xW ad g I J) H) (hPm : Pg g (mW bd g M N) H) (hDx : va_D (fun q : Nat => s.heap.size ≤ q) (xW ad g I J)) (hDm : va_D (fun q : Nat => s.heap.size ≤ q) (mW bd g M N)) (hS : va_S (fun q : Nat => s.heap.size ≤ q) s.heap H locs) (hl : lv_has ls 4 [(3, .int ix), (0, .ref b), (1, .ref (ad 59)), (2, .ref (bd 0))]) (kk : ∀ (I : SI) (J : SJ) (M : SI) (N : SJ) (H : Heap) (locs : List Loc), Rl I J M N → Pg g (xW ad g I J) H → Pg g (mW bd g M N) H → va_D (fun q : Nat => s.heap.size ≤ q) (xW ad g I J) → va_D (fun q : Nat => s.heap.size ≤ q) (mW bd g M N) → va_S (fun q : Nat => s.heap.size ≤ q) s.heap H locs → W p l e room_1 s m #[Value.ref b] below meth c H locs 84 1230 (lw_Z below #[Value.ref b] s) (F0 m 1323 ls [])) : W p l e room_1 s m #[Value.ref b] below meth c H locs 84 1230 (lw_Z below #[Value.ref b] s) (F0 m 840 ls []) := by
  have hx := hC.1
  have hb := hC.2.1
  have hts := hC.2.2.2.2
  have hown := hC.2.2.2.1
  have hA : ∀ q : Nat, s.heap.size ≤ q → (fun q : Nat => s.heap.size ≤ q) q := fun _ h => h
  have hbA : ¬ (fun q : Nat => s.heap.size ≤ q) b := Nat.not_le.mpr hbl
  obtain ⟨r, I1, J1, M1, N1, hfx, hfm, hR1⟩ := hst.2.2.2.2.2.2.2.2.2.2.2.2.2.2.2.2.2.2.2.2.1 I J M N (xs (Int32.toNatClampNeg (ix + (1 : Int32)))) (xs (Int32.toNatClampNeg (ix + (2 : Int32)))) (xs (Int32.toNatClampNeg (ix + (3 : Int32)))) hR
  refine lv_aload_n hx hb dL_law_840 rfl (lv_at hl 2 rfl) ?_
  refine lv_aload_n hx hb dL_law_841 rfl (lv_at hl 1 rfl) ?_
  refine lv_iload_n hx hb dL_law_842 rfl (lv_at hl 0 rfl) ?_
  refine lv_iconst (v := 1) hx hb dL_law_843 (by decide) ?_
  refine lv_iadd hx hb dL_law_844 ?_
  refine va_sld hx hb hX hbl hbA hS (inK hix (k := 1) rfl (by omega) hL) dL_law_845 ?_
  refine lv_aload_n hx hb dL_law_846 rfl (lv_at hl 1 rfl) ?_
  refine lv_iload_n hx hb dL_law_847 rfl (lv_at hl 0 rfl) ?_
  refine lv_iconst (v := 2) hx hb dL_law_848 (by decide) ?_
  refine lv_iadd hx hb dL_law_849 ?_
  refine va_sld hx hb hX hbl hbA hS (inK hix (k := 2) rfl (by omega) hL) dL_law_850 ?_
  refine lv_aload_n hx hb dL_law_851 rfl (lv_at hl 1 rfl) ?_
  refine lv_iload_n hx hb dL_law_852 rfl (lv_at hl 0 rfl) ?_
  refine lv_iconst (v := 3) hx hb dL_law_853 (by decide) ?_
  refine lv_iadd hx hb dL_law_854 ?_
  refine va_sld hx hb hX hbl hbA hS (inK hix (k := 3) rfl (by omega) hL) dL_law_855 ?_
  refine lawI (As := [.int (xs (Int32.toNatClampNeg (ix + (1 : Int32)))), .int (xs (Int32.toNatClampNeg (ix + (2 : Int32)))), .int (xs (Int32.toNatClampNeg (ix + (3 : Int32))))]) (rest := []) hC (c_X7_offer l g ad I J (xs (Int32.toNatClampNeg (ix + (1 : Int32)))) (xs (Int32.toNatClampNeg (ix + (2 : Int32)))) (xs (Int32.toNatClampNeg (ix + (3 : Int32)))) H.size hfx) (okW hPx hK hDx) lk_L_104 rfl rfl ⟨Nat.le_of_ble_eq_true rfl, Nat.le_of_ble_eq_true rfl⟩ ⟨Nat.le_of_ble_eq_true rfl, Nat.le_of_ble_eq_true rfl⟩ hPx hK hDx hA hS xo_59 rfl hPm (neXM hap) rfl rfl hl (Nat.le_of_ble_eq_true rfl) dL_law_856 (fun H locs hPx hPm hS => ?_)
  replace hDx := xDs (I' := I1) (J' := J1) hDx
  refine lv_aload_n hx hb dL_law_859 rfl (lv_at hl 3 rfl) ?_
  refine lv_aload_n hx hb dL_law_860 rfl (lv_at hl 1 rfl) ?_
  refine lv_iload_n hx hb dL_law_861 rfl (lv_at hl 0 rfl) ?_
  refine lv_iconst (v := 1) hx hb dL_law_862 (by decide) ?_
  refine lv_iadd hx hb dL_law_863 ?_
  refine va_sld hx hb hX hbl hbA hS (inK hix (k := 1) rfl (by omega) hL) dL_law_864 ?_
  refine lv_aload_n hx hb dL_law_865 rfl (lv_at hl 1 rfl) ?_
  refine lv_iload_n hx hb dL_law_866 rfl (lv_at hl 0 rfl) ?_
  refine lv_iconst (v := 2) hx hb dL_law_867 (by decide) ?_
  refine lv_iadd hx hb dL_law_868 ?_
  refine va_sld hx hb hX hbl hbA hS (inK hix (k := 2) rfl (by omega) hL) dL_law_869 ?_
  refine lv_aload_n hx hb dL_law_870 rfl (lv_at hl 1 rfl) ?_
  refine lv_iload_n hx hb dL_law_871 rfl (lv_at hl 0 rfl) ?_
  refine lv_iconst (v := 3) hx hb dL_law_872 (by decide) ?_
  refine lv_iadd hx hb dL_law_873 ?_
  refine va_sld hx hb hX hbl hbA hS (inK hix (k := 3) rfl (by omega) hL) dL_law_874 ?_
  refine lawI (As := [.int (xs (Int32.toNatClampNeg (ix + (1 : Int32)))), .int (xs (Int32.toNatClampNeg (ix + (2 : Int32)))), .int (xs (Int32.toNatClampNeg (ix + (3 : Int32))))]) (rest := [.int r]) hC (c_X8_offer l g bd M N (xs (Int32.toNatClampNeg (ix + (1 : Int32)))) (xs (Int32.toNatClampNeg (ix + (2 : Int32)))) (xs (Int32.toNatClampNeg (ix + (3 : Int32)))) H.size hfm) (okW hPm hK hDm) lk_L_107 rfl rfl ⟨Nat.le_of_ble_eq_true rfl, Nat.le_of_ble_eq_true rfl⟩ ⟨Nat.le_of_ble_eq_true rfl, Nat.le_of_ble_eq_true rfl⟩ hPm hK hDm hA hS mo_0 rfl hPx (neMX hap) rfl rfl hl (Nat.le_of_ble_eq_true rfl) dL_law_875 (fun H locs hPm hPx hS => ?_)
  replace hDm := mDs (I' := M1) (J' := N1) hDm
  refine lv_icmp_eq (tgt := 1323) hx hb dL_law_878 (by decide) (fun _ => ?_) (fun hh => absurd rfl hh)
  exact kk _ _ _ _ _ _ hR1 hPx hPm hDx hDm hS
set_option maxHeartbeats 4000000 in
set_option maxRecDepth 100000 in
theorem law_case21 (l : Launch) {b L : Nat} {xs : Nat → Int32} (hL : L ≤ 4096) (hC : CallFix p m c code 4 s #[Value.ref b] BG RL) (hX : va_X b L xs s s.heap) (hbl : b < s.heap.size) (g : Gx) (ad bd : Nat → Nat) (qm : Nat) (hK : Kg g s) (hZ : ZM qm (fun q : Nat => s.heap.size ≤ q) s) (hap : Apart ad bd) (Rl : SI → SJ → SI → SJ → Prop) (hst : Steps_ Rl) (t : Nat) (ht : t ≤ 512) (hgo : 8 * t + 8 ≤ L) (ix : Int32) (hix : ix = nI (8 * t)) (I : SI) (J : SJ) (M : SI) (N : SJ) (H : Heap) (locs : List Loc) (ls : Array Slot) (hR : Rl I J M N) (hPx : Pg g (xW ad g I J) H) (hPm : Pg g (mW bd g M N) H) (hDx : va_D (fun q : Nat => s.heap.size ≤ q) (xW ad g I J)) (hDm : va_D (fun q : Nat => s.heap.size ≤ q) (mW bd g M N)) (hS : va_S (fun q : Nat => s.heap.size ≤ q) s.heap H locs) (hl : lv_has ls 4 [(3, .int ix), (0, .ref b), (1, .ref (ad 59)), (2, .ref (bd 0))]) (kk : ∀ (I : SI) (J : SJ) (M : SI) (N : SJ) (H : Heap) (locs : List Loc), Rl I J M N → Pg g (xW ad g I J) H → Pg g (mW bd g M N) H → va_D (fun q : Nat => s.heap.size ≤ q) (xW ad g I J) → va_D (fun q : Nat => s.heap.size ≤ q) (mW bd g M N) → va_S (fun q : Nat => s.heap.size ≤ q) s.heap H locs → W p l e room_1 s m #[Value.ref b] below meth c H locs 84 1230 (lw_Z below #[Value.ref b] s) (F0 m 1323 ls [])) : W p l e room_1 s m #[Value.ref b] below meth c H locs 84 1230 (lw_Z below #[Value.ref b] s) (F0 m 883 ls []) := by
  have hx := hC.1
  have hb := hC.2.1
  have hts := hC.2.2.2.2
  have hown := hC.2.2.2.1
  have hA : ∀ q : Nat, s.heap.size ≤ q → (fun q : Nat => s.heap.size ≤ q) q := fun _ h => h
  have hbA : ¬ (fun q : Nat => s.heap.size ≤ q) b := Nat.not_le.mpr hbl
  obtain ⟨r, I1, J1, M1, N1, hfx, hfm, hR1⟩ := hst.2.2.2.2.2.2.2.2.2.2.2.2.2.2.2.2.2.2.2.2.2.1 I J M N (xs (Int32.toNatClampNeg (ix + (1 : Int32)))) (xs (Int32.toNatClampNeg (ix + (2 : Int32)))) (xs (Int32.toNatClampNeg (ix + (3 : Int32)))) hR
  refine lv_aload_n hx hb dL_law_883 rfl (lv_at hl 2 rfl) ?_
  refine lv_aload_n hx hb dL_law_884 rfl (lv_at hl 1 rfl) ?_
  refine lv_iload_n hx hb dL_law_885 rfl (lv_at hl 0 rfl) ?_
  refine lv_iconst (v := 1) hx hb dL_law_886 (by decide) ?_
  refine lv_iadd hx hb dL_law_887 ?_
  refine va_sld hx hb hX hbl hbA hS (inK hix (k := 1) rfl (by omega) hL) dL_law_888 ?_
  refine lv_aload_n hx hb dL_law_889 rfl (lv_at hl 1 rfl) ?_
  refine lv_iload_n hx hb dL_law_890 rfl (lv_at hl 0 rfl) ?_
  refine lv_iconst (v := 2) hx hb dL_law_891 (by decide) ?_
  refine lv_iadd hx hb dL_law_892 ?_
  refine va_sld hx hb hX hbl hbA hS (inK hix (k := 2) rfl (by omega) hL) dL_law_893 ?_
  refine lv_aload_n hx hb dL_law_894 rfl (lv_at hl 1 rfl) ?_
  refine lv_iload_n hx hb dL_law_895 rfl (lv_at hl 0 rfl) ?_
  refine lv_iconst (v := 3) hx hb dL_law_896 (by decide) ?_
  refine lv_iadd hx hb dL_law_897 ?_
  refine va_sld hx hb hX hbl hbA hS (inK hix (k := 3) rfl (by omega) hL) dL_law_898 ?_
  refine lawI (As := [.int (xs (Int32.toNatClampNeg (ix + (1 : Int32)))), .int (xs (Int32.toNatClampNeg (ix + (2 : Int32)))), .int (xs (Int32.toNatClampNeg (ix + (3 : Int32))))]) (rest := []) hC (c_X7_parts l g ad I J (xs (Int32.toNatClampNeg (ix + (1 : Int32)))) (xs (Int32.toNatClampNeg (ix + (2 : Int32)))) (xs (Int32.toNatClampNeg (ix + (3 : Int32)))) H.size hfx) (okW hPx hK hDx) lk_L_108 rfl rfl ⟨Nat.le_of_ble_eq_true rfl, Nat.le_of_ble_eq_true rfl⟩ ⟨Nat.le_of_ble_eq_true rfl, Nat.le_of_ble_eq_true rfl⟩ hPx hK hDx hA hS xo_59 rfl hPm (neXM hap) rfl rfl hl (Nat.le_of_ble_eq_true rfl) dL_law_899 (fun H locs hPx hPm hS => ?_)
  replace hDx := xDs (I' := I1) (J' := J1) hDx
  refine lv_aload_n hx hb dL_law_902 rfl (lv_at hl 3 rfl) ?_
  refine lv_aload_n hx hb dL_law_903 rfl (lv_at hl 1 rfl) ?_
  refine lv_iload_n hx hb dL_law_904 rfl (lv_at hl 0 rfl) ?_
  refine lv_iconst (v := 1) hx hb dL_law_905 (by decide) ?_
  refine lv_iadd hx hb dL_law_906 ?_
  refine va_sld hx hb hX hbl hbA hS (inK hix (k := 1) rfl (by omega) hL) dL_law_907 ?_
  refine lv_aload_n hx hb dL_law_908 rfl (lv_at hl 1 rfl) ?_
  refine lv_iload_n hx hb dL_law_909 rfl (lv_at hl 0 rfl) ?_
  refine lv_iconst (v := 2) hx hb dL_law_910 (by decide) ?_
  refine lv_iadd hx hb dL_law_911 ?_
  refine va_sld hx hb hX hbl hbA hS (inK hix (k := 2) rfl (by omega) hL) dL_law_912 ?_
  refine lv_aload_n hx hb dL_law_913 rfl (lv_at hl 1 rfl) ?_
  refine lv_iload_n hx hb dL_law_914 rfl (lv_at hl 0 rfl) ?_
  refine lv_iconst (v := 3) hx hb dL_law_915 (by decide) ?_
  refine lv_iadd hx hb dL_law_916 ?_
  refine va_sld hx hb hX hbl hbA hS (inK hix (k := 3) rfl (by omega) hL) dL_law_917 ?_
  refine lawI (As := [.int (xs (Int32.toNatClampNeg (ix + (1 : Int32)))), .int (xs (Int32.toNatClampNeg (ix + (2 : Int32)))), .int (xs (Int32.toNatClampNeg (ix + (3 : Int32))))]) (rest := [.int r]) hC (c_X8_parts l g bd M N (xs (Int32.toNatClampNeg (ix + (1 : Int32)))) (xs (Int32.toNatClampNeg (ix + (2 : Int32)))) (xs (Int32.toNatClampNeg (ix + (3 : Int32)))) H.size hfm) (okW hPm hK hDm) lk_L_111 rfl rfl ⟨Nat.le_of_ble_eq_true rfl, Nat.le_of_ble_eq_true rfl⟩ ⟨Nat.le_of_ble_eq_true rfl, Nat.le_of_ble_eq_true rfl⟩ hPm hK hDm hA hS mo_0 rfl hPx (neMX hap) rfl rfl hl (Nat.le_of_ble_eq_true rfl) dL_law_918 (fun H locs hPm hPx hS => ?_)
  replace hDm := mDs (I' := M1) (J' := N1) hDm
  refine lv_icmp_eq (tgt := 1323) hx hb dL_law_921 (by decide) (fun _ => ?_) (fun hh => absurd rfl hh)
  exact kk _ _ _ _ _ _ hR1 hPx hPm hDx hDm hS
set_option maxHeartbeats 4000000 in
set_option maxRecDepth 100000 in
theorem law_case22 (l : Launch) {b L : Nat} {xs : Nat → Int32} (hL : L ≤ 4096) (hC : CallFix p m c code 4 s #[Value.ref b] BG RL) (hX : va_X b L xs s s.heap) (hbl : b < s.heap.size) (g : Gx) (ad bd : Nat → Nat) (qm : Nat) (hK : Kg g s) (hZ : ZM qm (fun q : Nat => s.heap.size ≤ q) s) (hap : Apart ad bd) (Rl : SI → SJ → SI → SJ → Prop) (hst : Steps_ Rl) (t : Nat) (ht : t ≤ 512) (hgo : 8 * t + 8 ≤ L) (ix : Int32) (hix : ix = nI (8 * t)) (I : SI) (J : SJ) (M : SI) (N : SJ) (H : Heap) (locs : List Loc) (ls : Array Slot) (hR : Rl I J M N) (hPx : Pg g (xW ad g I J) H) (hPm : Pg g (mW bd g M N) H) (hDx : va_D (fun q : Nat => s.heap.size ≤ q) (xW ad g I J)) (hDm : va_D (fun q : Nat => s.heap.size ≤ q) (mW bd g M N)) (hS : va_S (fun q : Nat => s.heap.size ≤ q) s.heap H locs) (hl : lv_has ls 4 [(3, .int ix), (0, .ref b), (1, .ref (ad 59)), (2, .ref (bd 0))]) (kk : ∀ (I : SI) (J : SJ) (M : SI) (N : SJ) (H : Heap) (locs : List Loc), Rl I J M N → Pg g (xW ad g I J) H → Pg g (mW bd g M N) H → va_D (fun q : Nat => s.heap.size ≤ q) (xW ad g I J) → va_D (fun q : Nat => s.heap.size ≤ q) (mW bd g M N) → va_S (fun q : Nat => s.heap.size ≤ q) s.heap H locs → W p l e room_1 s m #[Value.ref b] below meth c H locs 84 1230 (lw_Z below #[Value.ref b] s) (F0 m 1323 ls [])) : W p l e room_1 s m #[Value.ref b] below meth c H locs 84 1230 (lw_Z below #[Value.ref b] s) (F0 m 926 ls []) := by
  have hx := hC.1
  have hb := hC.2.1
  have hts := hC.2.2.2.2
  have hown := hC.2.2.2.1
  have hA : ∀ q : Nat, s.heap.size ≤ q → (fun q : Nat => s.heap.size ≤ q) q := fun _ h => h
  have hbA : ¬ (fun q : Nat => s.heap.size ≤ q) b := Nat.not_le.mpr hbl
  obtain ⟨r, I1, J1, M1, N1, hfx, hfm, hR1⟩ := hst.2.2.2.2.2.2.2.2.2.2.2.2.2.2.2.2.2.2.2.2.2.2.1 I J M N (xs (Int32.toNatClampNeg (ix + (1 : Int32)))) (xs (Int32.toNatClampNeg (ix + (2 : Int32)))) hR
  refine lv_aload_n hx hb dL_law_926 rfl (lv_at hl 2 rfl) ?_
  refine lv_aload_n hx hb dL_law_927 rfl (lv_at hl 1 rfl) ?_
  refine lv_iload_n hx hb dL_law_928 rfl (lv_at hl 0 rfl) ?_
  refine lv_iconst (v := 1) hx hb dL_law_929 (by decide) ?_
  refine lv_iadd hx hb dL_law_930 ?_
  refine va_sld hx hb hX hbl hbA hS (inK hix (k := 1) rfl (by omega) hL) dL_law_931 ?_
  refine lv_aload_n hx hb dL_law_932 rfl (lv_at hl 1 rfl) ?_
  refine lv_iload_n hx hb dL_law_933 rfl (lv_at hl 0 rfl) ?_
  refine lv_iconst (v := 2) hx hb dL_law_934 (by decide) ?_
  refine lv_iadd hx hb dL_law_935 ?_
  refine va_sld hx hb hX hbl hbA hS (inK hix (k := 2) rfl (by omega) hL) dL_law_936 ?_
  refine lawI (As := [.int (xs (Int32.toNatClampNeg (ix + (1 : Int32)))), .int (xs (Int32.toNatClampNeg (ix + (2 : Int32))))]) (rest := []) hC (c_X7_own l g ad I J (xs (Int32.toNatClampNeg (ix + (1 : Int32)))) (xs (Int32.toNatClampNeg (ix + (2 : Int32)))) H.size hfx) (okW hPx hK hDx) lk_L_112 rfl rfl ⟨Nat.le_of_ble_eq_true rfl, Nat.le_of_ble_eq_true rfl⟩ ⟨Nat.le_of_ble_eq_true rfl, Nat.le_of_ble_eq_true rfl⟩ hPx hK hDx hA hS xo_59 rfl hPm (neXM hap) rfl rfl hl (Nat.le_of_ble_eq_true rfl) dL_law_937 (fun H locs hPx hPm hS => ?_)
  replace hDx := xDs (I' := I1) (J' := J1) hDx
  refine lv_aload_n hx hb dL_law_940 rfl (lv_at hl 3 rfl) ?_
  refine lv_aload_n hx hb dL_law_941 rfl (lv_at hl 1 rfl) ?_
  refine lv_iload_n hx hb dL_law_942 rfl (lv_at hl 0 rfl) ?_
  refine lv_iconst (v := 1) hx hb dL_law_943 (by decide) ?_
  refine lv_iadd hx hb dL_law_944 ?_
  refine va_sld hx hb hX hbl hbA hS (inK hix (k := 1) rfl (by omega) hL) dL_law_945 ?_
  refine lv_aload_n hx hb dL_law_946 rfl (lv_at hl 1 rfl) ?_
  refine lv_iload_n hx hb dL_law_947 rfl (lv_at hl 0 rfl) ?_
  refine lv_iconst (v := 2) hx hb dL_law_948 (by decide) ?_
  refine lv_iadd hx hb dL_law_949 ?_
  refine va_sld hx hb hX hbl hbA hS (inK hix (k := 2) rfl (by omega) hL) dL_law_950 ?_
  refine lawI (As := [.int (xs (Int32.toNatClampNeg (ix + (1 : Int32)))), .int (xs (Int32.toNatClampNeg (ix + (2 : Int32))))]) (rest := [.int r]) hC (c_X8_own l g bd M N (xs (Int32.toNatClampNeg (ix + (1 : Int32)))) (xs (Int32.toNatClampNeg (ix + (2 : Int32)))) H.size hfm) (okW hPm hK hDm) lk_L_115 rfl rfl ⟨Nat.le_of_ble_eq_true rfl, Nat.le_of_ble_eq_true rfl⟩ ⟨Nat.le_of_ble_eq_true rfl, Nat.le_of_ble_eq_true rfl⟩ hPm hK hDm hA hS mo_0 rfl hPx (neMX hap) rfl rfl hl (Nat.le_of_ble_eq_true rfl) dL_law_951 (fun H locs hPm hPx hS => ?_)
  replace hDm := mDs (I' := M1) (J' := N1) hDm
  refine lv_icmp_eq (tgt := 1323) hx hb dL_law_954 (by decide) (fun _ => ?_) (fun hh => absurd rfl hh)
  exact kk _ _ _ _ _ _ hR1 hPx hPm hDx hDm hS
set_option maxHeartbeats 4000000 in
set_option maxRecDepth 100000 in
theorem law_case23 (l : Launch) {b L : Nat} {xs : Nat → Int32} (hL : L ≤ 4096) (hC : CallFix p m c code 4 s #[Value.ref b] BG RL) (hX : va_X b L xs s s.heap) (hbl : b < s.heap.size) (g : Gx) (ad bd : Nat → Nat) (qm : Nat) (hK : Kg g s) (hZ : ZM qm (fun q : Nat => s.heap.size ≤ q) s) (hap : Apart ad bd) (Rl : SI → SJ → SI → SJ → Prop) (hst : Steps_ Rl) (t : Nat) (ht : t ≤ 512) (hgo : 8 * t + 8 ≤ L) (ix : Int32) (hix : ix = nI (8 * t)) (I : SI) (J : SJ) (M : SI) (N : SJ) (H : Heap) (locs : List Loc) (ls : Array Slot) (hR : Rl I J M N) (hPx : Pg g (xW ad g I J) H) (hPm : Pg g (mW bd g M N) H) (hDx : va_D (fun q : Nat => s.heap.size ≤ q) (xW ad g I J)) (hDm : va_D (fun q : Nat => s.heap.size ≤ q) (mW bd g M N)) (hS : va_S (fun q : Nat => s.heap.size ≤ q) s.heap H locs) (hl : lv_has ls 4 [(3, .int ix), (0, .ref b), (1, .ref (ad 59)), (2, .ref (bd 0))]) (kk : ∀ (I : SI) (J : SJ) (M : SI) (N : SJ) (H : Heap) (locs : List Loc), Rl I J M N → Pg g (xW ad g I J) H → Pg g (mW bd g M N) H → va_D (fun q : Nat => s.heap.size ≤ q) (xW ad g I J) → va_D (fun q : Nat => s.heap.size ≤ q) (mW bd g M N) → va_S (fun q : Nat => s.heap.size ≤ q) s.heap H locs → W p l e room_1 s m #[Value.ref b] below meth c H locs 84 1230 (lw_Z below #[Value.ref b] s) (F0 m 1323 ls [])) : W p l e room_1 s m #[Value.ref b] below meth c H locs 84 1230 (lw_Z below #[Value.ref b] s) (F0 m 959 ls []) := by
  have hx := hC.1
  have hb := hC.2.1
  have hts := hC.2.2.2.2
  have hown := hC.2.2.2.1
  have hA : ∀ q : Nat, s.heap.size ≤ q → (fun q : Nat => s.heap.size ≤ q) q := fun _ h => h
  have hbA : ¬ (fun q : Nat => s.heap.size ≤ q) b := Nat.not_le.mpr hbl
  obtain ⟨r, I1, J1, M1, N1, hfx, hfm, hR1⟩ := hst.2.2.2.2.2.2.2.2.2.2.2.2.2.2.2.2.2.2.2.2.2.2.2.1 I J M N (xs (Int32.toNatClampNeg (ix + (1 : Int32)))) (xs (Int32.toNatClampNeg (ix + (2 : Int32)))) hR
  refine lv_aload_n hx hb dL_law_959 rfl (lv_at hl 2 rfl) ?_
  refine lv_aload_n hx hb dL_law_960 rfl (lv_at hl 1 rfl) ?_
  refine lv_iload_n hx hb dL_law_961 rfl (lv_at hl 0 rfl) ?_
  refine lv_iconst (v := 1) hx hb dL_law_962 (by decide) ?_
  refine lv_iadd hx hb dL_law_963 ?_
  refine va_sld hx hb hX hbl hbA hS (inK hix (k := 1) rfl (by omega) hL) dL_law_964 ?_
  refine lv_aload_n hx hb dL_law_965 rfl (lv_at hl 1 rfl) ?_
  refine lv_iload_n hx hb dL_law_966 rfl (lv_at hl 0 rfl) ?_
  refine lv_iconst (v := 2) hx hb dL_law_967 (by decide) ?_
  refine lv_iadd hx hb dL_law_968 ?_
  refine va_sld hx hb hX hbl hbA hS (inK hix (k := 2) rfl (by omega) hL) dL_law_969 ?_
  refine lawL (As := [.int (xs (Int32.toNatClampNeg (ix + (1 : Int32)))), .int (xs (Int32.toNatClampNeg (ix + (2 : Int32))))]) (rest := []) hC (c_X7_bears l g ad I J (xs (Int32.toNatClampNeg (ix + (1 : Int32)))) (xs (Int32.toNatClampNeg (ix + (2 : Int32)))) H.size hfx) (okW hPx hK hDx) lk_L_116 rfl rfl ⟨Nat.le_of_ble_eq_true rfl, Nat.le_of_ble_eq_true rfl⟩ ⟨Nat.le_of_ble_eq_true rfl, Nat.le_of_ble_eq_true rfl⟩ hPx hK hDx hA hS xo_59 rfl hPm (neXM hap) rfl rfl hl (Nat.le_of_ble_eq_true rfl) dL_law_970 (fun H locs hPx hPm hS => ?_)
  replace hDx := xDs (I' := I1) (J' := J1) hDx
  refine lv_aload_n hx hb dL_law_973 rfl (lv_at hl 3 rfl) ?_
  refine lv_aload_n hx hb dL_law_974 rfl (lv_at hl 1 rfl) ?_
  refine lv_iload_n hx hb dL_law_975 rfl (lv_at hl 0 rfl) ?_
  refine lv_iconst (v := 1) hx hb dL_law_976 (by decide) ?_
  refine lv_iadd hx hb dL_law_977 ?_
  refine va_sld hx hb hX hbl hbA hS (inK hix (k := 1) rfl (by omega) hL) dL_law_978 ?_
  refine lv_aload_n hx hb dL_law_979 rfl (lv_at hl 1 rfl) ?_
  refine lv_iload_n hx hb dL_law_980 rfl (lv_at hl 0 rfl) ?_
  refine lv_iconst (v := 2) hx hb dL_law_981 (by decide) ?_
  refine lv_iadd hx hb dL_law_982 ?_
  refine va_sld hx hb hX hbl hbA hS (inK hix (k := 2) rfl (by omega) hL) dL_law_983 ?_
  refine lawL (As := [.int (xs (Int32.toNatClampNeg (ix + (1 : Int32)))), .int (xs (Int32.toNatClampNeg (ix + (2 : Int32))))]) (rest := [.long r]) hC (c_X8_bears l g bd M N (xs (Int32.toNatClampNeg (ix + (1 : Int32)))) (xs (Int32.toNatClampNeg (ix + (2 : Int32)))) H.size hfm) (okW hPm hK hDm) lk_L_120 rfl rfl ⟨Nat.le_of_ble_eq_true rfl, Nat.le_of_ble_eq_true rfl⟩ ⟨Nat.le_of_ble_eq_true rfl, Nat.le_of_ble_eq_true rfl⟩ hPm hK hDm hA hS mo_0 rfl hPx (neMX hap) rfl rfl hl (Nat.le_of_ble_eq_true rfl) dL_law_984 (fun H locs hPm hPx hS => ?_)
  replace hDm := mDs (I' := M1) (J' := N1) hDm
  refine W.lcmp hx hb dL_law_987 ?_
  refine lv_if_eq (tgt := 1323) hx hb dL_law_988 (by decide) (fun _ => ?_) (fun hh => absurd ((lg_cmp_eq _ _).mpr rfl) hh)
  exact kk _ _ _ _ _ _ hR1 hPx hPm hDx hDm hS
set_option maxHeartbeats 4000000 in
set_option maxRecDepth 100000 in
theorem law_case24 (l : Launch) {b L : Nat} {xs : Nat → Int32} (hL : L ≤ 4096) (hC : CallFix p m c code 4 s #[Value.ref b] BG RL) (hX : va_X b L xs s s.heap) (hbl : b < s.heap.size) (g : Gx) (ad bd : Nat → Nat) (qm : Nat) (hK : Kg g s) (hZ : ZM qm (fun q : Nat => s.heap.size ≤ q) s) (hap : Apart ad bd) (Rl : SI → SJ → SI → SJ → Prop) (hst : Steps_ Rl) (t : Nat) (ht : t ≤ 512) (hgo : 8 * t + 8 ≤ L) (ix : Int32) (hix : ix = nI (8 * t)) (I : SI) (J : SJ) (M : SI) (N : SJ) (H : Heap) (locs : List Loc) (ls : Array Slot) (hR : Rl I J M N) (hPx : Pg g (xW ad g I J) H) (hPm : Pg g (mW bd g M N) H) (hDx : va_D (fun q : Nat => s.heap.size ≤ q) (xW ad g I J)) (hDm : va_D (fun q : Nat => s.heap.size ≤ q) (mW bd g M N)) (hS : va_S (fun q : Nat => s.heap.size ≤ q) s.heap H locs) (hl : lv_has ls 4 [(3, .int ix), (0, .ref b), (1, .ref (ad 59)), (2, .ref (bd 0))]) (kk : ∀ (I : SI) (J : SJ) (M : SI) (N : SJ) (H : Heap) (locs : List Loc), Rl I J M N → Pg g (xW ad g I J) H → Pg g (mW bd g M N) H → va_D (fun q : Nat => s.heap.size ≤ q) (xW ad g I J) → va_D (fun q : Nat => s.heap.size ≤ q) (mW bd g M N) → va_S (fun q : Nat => s.heap.size ≤ q) s.heap H locs → W p l e room_1 s m #[Value.ref b] below meth c H locs 84 1230 (lw_Z below #[Value.ref b] s) (F0 m 1323 ls [])) : W p l e room_1 s m #[Value.ref b] below meth c H locs 84 1230 (lw_Z below #[Value.ref b] s) (F0 m 993 ls []) := by
  have hx := hC.1
  have hb := hC.2.1
  have hts := hC.2.2.2.2
  have hown := hC.2.2.2.1
  have hA : ∀ q : Nat, s.heap.size ≤ q → (fun q : Nat => s.heap.size ≤ q) q := fun _ h => h
  have hbA : ¬ (fun q : Nat => s.heap.size ≤ q) b := Nat.not_le.mpr hbl
  obtain ⟨r, I1, J1, M1, N1, hfx, hfm, hR1⟩ := hst.2.2.2.2.2.2.2.2.2.2.2.2.2.2.2.2.2.2.2.2.2.2.2.2.1 I J M N (xs (Int32.toNatClampNeg (ix + (1 : Int32)))) (xs (Int32.toNatClampNeg (ix + (2 : Int32)))) (xs (Int32.toNatClampNeg (ix + (3 : Int32)))) (xs (Int32.toNatClampNeg (ix + (4 : Int32)))) (xs (Int32.toNatClampNeg (ix + (5 : Int32)))) (xs (Int32.toNatClampNeg (ix + (6 : Int32)))) hR
  refine lv_aload_n hx hb dL_law_993 rfl (lv_at hl 2 rfl) ?_
  refine lv_aload_n hx hb dL_law_994 rfl (lv_at hl 1 rfl) ?_
  refine lv_iload_n hx hb dL_law_995 rfl (lv_at hl 0 rfl) ?_
  refine lv_iconst (v := 1) hx hb dL_law_996 (by decide) ?_
  refine lv_iadd hx hb dL_law_997 ?_
  refine va_sld hx hb hX hbl hbA hS (inK hix (k := 1) rfl (by omega) hL) dL_law_998 ?_
  refine lv_aload_n hx hb dL_law_999 rfl (lv_at hl 1 rfl) ?_
  refine lv_iload_n hx hb dL_law_1000 rfl (lv_at hl 0 rfl) ?_
  refine lv_iconst (v := 2) hx hb dL_law_1001 (by decide) ?_
  refine lv_iadd hx hb dL_law_1002 ?_
  refine va_sld hx hb hX hbl hbA hS (inK hix (k := 2) rfl (by omega) hL) dL_law_1003 ?_
  refine lv_aload_n hx hb dL_law_1004 rfl (lv_at hl 1 rfl) ?_
  refine lv_iload_n hx hb dL_law_1005 rfl (lv_at hl 0 rfl) ?_
  refine lv_iconst (v := 3) hx hb dL_law_1006 (by decide) ?_
  refine lv_iadd hx hb dL_law_1007 ?_
  refine va_sld hx hb hX hbl hbA hS (inK hix (k := 3) rfl (by omega) hL) dL_law_1008 ?_
  refine lv_aload_n hx hb dL_law_1009 rfl (lv_at hl 1 rfl) ?_
  refine lv_iload_n hx hb dL_law_1010 rfl (lv_at hl 0 rfl) ?_
  refine lv_iconst (v := 4) hx hb dL_law_1011 (by decide) ?_
  refine lv_iadd hx hb dL_law_1012 ?_
  refine va_sld hx hb hX hbl hbA hS (inK hix (k := 4) rfl (by omega) hL) dL_law_1013 ?_
  refine lv_aload_n hx hb dL_law_1014 rfl (lv_at hl 1 rfl) ?_
  refine lv_iload_n hx hb dL_law_1015 rfl (lv_at hl 0 rfl) ?_
  refine lv_iconst (v := 5) hx hb dL_law_1016 (by decide) ?_
  refine lv_iadd hx hb dL_law_1017 ?_
  refine va_sld hx hb hX hbl hbA hS (inK hix (k := 5) rfl (by omega) hL) dL_law_1018 ?_
  refine lv_aload_n hx hb dL_law_1019 rfl (lv_at hl 1 rfl) ?_
  refine lv_iload_n hx hb dL_law_1020 rfl (lv_at hl 0 rfl) ?_
  refine lv_bipush (v := 6) hx hb dL_law_1021 (by decide) ?_
  refine lv_iadd hx hb dL_law_1023 ?_
  refine va_sld hx hb hX hbl hbA hS (inK hix (k := 6) rfl (by omega) hL) dL_law_1024 ?_
  refine lawI (As := [.int (xs (Int32.toNatClampNeg (ix + (1 : Int32)))), .int (xs (Int32.toNatClampNeg (ix + (2 : Int32)))), .int (xs (Int32.toNatClampNeg (ix + (3 : Int32)))), .int (xs (Int32.toNatClampNeg (ix + (4 : Int32)))), .int (xs (Int32.toNatClampNeg (ix + (5 : Int32)))), .int (xs (Int32.toNatClampNeg (ix + (6 : Int32))))]) (rest := []) hC (c_X7_ruin l g ad I J (xs (Int32.toNatClampNeg (ix + (1 : Int32)))) (xs (Int32.toNatClampNeg (ix + (2 : Int32)))) (xs (Int32.toNatClampNeg (ix + (3 : Int32)))) (xs (Int32.toNatClampNeg (ix + (4 : Int32)))) (xs (Int32.toNatClampNeg (ix + (5 : Int32)))) (xs (Int32.toNatClampNeg (ix + (6 : Int32)))) H.size hfx) (okW hPx hK hDx) lk_L_121 rfl rfl ⟨Nat.le_of_ble_eq_true rfl, Nat.le_of_ble_eq_true rfl⟩ ⟨Nat.le_of_ble_eq_true rfl, Nat.le_of_ble_eq_true rfl⟩ hPx hK hDx hA hS xo_59 rfl hPm (neXM hap) rfl rfl hl (Nat.le_of_ble_eq_true rfl) dL_law_1025 (fun H locs hPx hPm hS => ?_)
  replace hDx := xDs (I' := I1) (J' := J1) hDx
  refine lv_aload_n hx hb dL_law_1028 rfl (lv_at hl 3 rfl) ?_
  refine lv_aload_n hx hb dL_law_1029 rfl (lv_at hl 1 rfl) ?_
  refine lv_iload_n hx hb dL_law_1030 rfl (lv_at hl 0 rfl) ?_
  refine lv_iconst (v := 1) hx hb dL_law_1031 (by decide) ?_
  refine lv_iadd hx hb dL_law_1032 ?_
  refine va_sld hx hb hX hbl hbA hS (inK hix (k := 1) rfl (by omega) hL) dL_law_1033 ?_
  refine lv_aload_n hx hb dL_law_1034 rfl (lv_at hl 1 rfl) ?_
  refine lv_iload_n hx hb dL_law_1035 rfl (lv_at hl 0 rfl) ?_
  refine lv_iconst (v := 2) hx hb dL_law_1036 (by decide) ?_
  refine lv_iadd hx hb dL_law_1037 ?_
  refine va_sld hx hb hX hbl hbA hS (inK hix (k := 2) rfl (by omega) hL) dL_law_1038 ?_
  refine lv_aload_n hx hb dL_law_1039 rfl (lv_at hl 1 rfl) ?_
  refine lv_iload_n hx hb dL_law_1040 rfl (lv_at hl 0 rfl) ?_
  refine lv_iconst (v := 3) hx hb dL_law_1041 (by decide) ?_
  refine lv_iadd hx hb dL_law_1042 ?_
  refine va_sld hx hb hX hbl hbA hS (inK hix (k := 3) rfl (by omega) hL) dL_law_1043 ?_
  refine lv_aload_n hx hb dL_law_1044 rfl (lv_at hl 1 rfl) ?_
  refine lv_iload_n hx hb dL_law_1045 rfl (lv_at hl 0 rfl) ?_
  refine lv_iconst (v := 4) hx hb dL_law_1046 (by decide) ?_
  refine lv_iadd hx hb dL_law_1047 ?_
  refine va_sld hx hb hX hbl hbA hS (inK hix (k := 4) rfl (by omega) hL) dL_law_1048 ?_
  refine lv_aload_n hx hb dL_law_1049 rfl (lv_at hl 1 rfl) ?_
  refine lv_iload_n hx hb dL_law_1050 rfl (lv_at hl 0 rfl) ?_
  refine lv_iconst (v := 5) hx hb dL_law_1051 (by decide) ?_
  refine lv_iadd hx hb dL_law_1052 ?_
  refine va_sld hx hb hX hbl hbA hS (inK hix (k := 5) rfl (by omega) hL) dL_law_1053 ?_
  refine lv_aload_n hx hb dL_law_1054 rfl (lv_at hl 1 rfl) ?_
  refine lv_iload_n hx hb dL_law_1055 rfl (lv_at hl 0 rfl) ?_
  refine lv_bipush (v := 6) hx hb dL_law_1056 (by decide) ?_
  refine lv_iadd hx hb dL_law_1058 ?_
  refine va_sld hx hb hX hbl hbA hS (inK hix (k := 6) rfl (by omega) hL) dL_law_1059 ?_
  refine lawI (As := [.int (xs (Int32.toNatClampNeg (ix + (1 : Int32)))), .int (xs (Int32.toNatClampNeg (ix + (2 : Int32)))), .int (xs (Int32.toNatClampNeg (ix + (3 : Int32)))), .int (xs (Int32.toNatClampNeg (ix + (4 : Int32)))), .int (xs (Int32.toNatClampNeg (ix + (5 : Int32)))), .int (xs (Int32.toNatClampNeg (ix + (6 : Int32))))]) (rest := [.int r]) hC (c_X8_ruin l g bd M N (xs (Int32.toNatClampNeg (ix + (1 : Int32)))) (xs (Int32.toNatClampNeg (ix + (2 : Int32)))) (xs (Int32.toNatClampNeg (ix + (3 : Int32)))) (xs (Int32.toNatClampNeg (ix + (4 : Int32)))) (xs (Int32.toNatClampNeg (ix + (5 : Int32)))) (xs (Int32.toNatClampNeg (ix + (6 : Int32)))) H.size hfm) (okW hPm hK hDm) lk_L_125 rfl rfl ⟨Nat.le_of_ble_eq_true rfl, Nat.le_of_ble_eq_true rfl⟩ ⟨Nat.le_of_ble_eq_true rfl, Nat.le_of_ble_eq_true rfl⟩ hPm hK hDm hA hS mo_0 rfl hPx (neMX hap) rfl rfl hl (Nat.le_of_ble_eq_true rfl) dL_law_1060 (fun H locs hPm hPx hS => ?_)
  replace hDm := mDs (I' := M1) (J' := N1) hDm
  refine lv_icmp_eq (tgt := 1323) hx hb dL_law_1063 (by decide) (fun _ => ?_) (fun hh => absurd rfl hh)
  exact kk _ _ _ _ _ _ hR1 hPx hPm hDx hDm hS
set_option maxHeartbeats 4000000 in
set_option maxRecDepth 100000 in
theorem law_case25 (l : Launch) {b L : Nat} {xs : Nat → Int32} (hL : L ≤ 4096) (hC : CallFix p m c code 4 s #[Value.ref b] BG RL) (hX : va_X b L xs s s.heap) (hbl : b < s.heap.size) (g : Gx) (ad bd : Nat → Nat) (qm : Nat) (hK : Kg g s) (hZ : ZM qm (fun q : Nat => s.heap.size ≤ q) s) (hap : Apart ad bd) (Rl : SI → SJ → SI → SJ → Prop) (hst : Steps_ Rl) (t : Nat) (ht : t ≤ 512) (hgo : 8 * t + 8 ≤ L) (ix : Int32) (hix : ix = nI (8 * t)) (I : SI) (J : SJ) (M : SI) (N : SJ) (H : Heap) (locs : List Loc) (ls : Array Slot) (hR : Rl I J M N) (hPx : Pg g (xW ad g I J) H) (hPm : Pg g (mW bd g M N) H) (hDx : va_D (fun q : Nat => s.heap.size ≤ q) (xW ad g I J)) (hDm : va_D (fun q : Nat => s.heap.size ≤ q) (mW bd g M N)) (hS : va_S (fun q : Nat => s.heap.size ≤ q) s.heap H locs) (hl : lv_has ls 4 [(3, .int ix), (0, .ref b), (1, .ref (ad 59)), (2, .ref (bd 0))]) (kk : ∀ (I : SI) (J : SJ) (M : SI) (N : SJ) (H : Heap) (locs : List Loc), Rl I J M N → Pg g (xW ad g I J) H → Pg g (mW bd g M N) H → va_D (fun q : Nat => s.heap.size ≤ q) (xW ad g I J) → va_D (fun q : Nat => s.heap.size ≤ q) (mW bd g M N) → va_S (fun q : Nat => s.heap.size ≤ q) s.heap H locs → W p l e room_1 s m #[Value.ref b] below meth c H locs 84 1230 (lw_Z below #[Value.ref b] s) (F0 m 1323 ls [])) : W p l e room_1 s m #[Value.ref b] below meth c H locs 84 1230 (lw_Z below #[Value.ref b] s) (F0 m 1068 ls []) := by
  have hx := hC.1
  have hb := hC.2.1
  have hts := hC.2.2.2.2
  have hown := hC.2.2.2.1
  have hA : ∀ q : Nat, s.heap.size ≤ q → (fun q : Nat => s.heap.size ≤ q) q := fun _ h => h
  have hbA : ¬ (fun q : Nat => s.heap.size ≤ q) b := Nat.not_le.mpr hbl
  obtain ⟨r, I1, J1, M1, N1, hfx, hfm, hR1⟩ := hst.2.2.2.2.2.2.2.2.2.2.2.2.2.2.2.2.2.2.2.2.2.2.2.2.2.1 I J M N (xs (Int32.toNatClampNeg (ix + (1 : Int32)))) (xs (Int32.toNatClampNeg (ix + (2 : Int32)))) (xs (Int32.toNatClampNeg (ix + (3 : Int32)))) (xs (Int32.toNatClampNeg (ix + (4 : Int32)))) (xs (Int32.toNatClampNeg (ix + (5 : Int32)))) hR
  refine lv_aload_n hx hb dL_law_1068 rfl (lv_at hl 2 rfl) ?_
  refine lv_aload_n hx hb dL_law_1069 rfl (lv_at hl 1 rfl) ?_
  refine lv_iload_n hx hb dL_law_1070 rfl (lv_at hl 0 rfl) ?_
  refine lv_iconst (v := 1) hx hb dL_law_1071 (by decide) ?_
  refine lv_iadd hx hb dL_law_1072 ?_
  refine va_sld hx hb hX hbl hbA hS (inK hix (k := 1) rfl (by omega) hL) dL_law_1073 ?_
  refine lv_aload_n hx hb dL_law_1074 rfl (lv_at hl 1 rfl) ?_
  refine lv_iload_n hx hb dL_law_1075 rfl (lv_at hl 0 rfl) ?_
  refine lv_iconst (v := 2) hx hb dL_law_1076 (by decide) ?_
  refine lv_iadd hx hb dL_law_1077 ?_
  refine va_sld hx hb hX hbl hbA hS (inK hix (k := 2) rfl (by omega) hL) dL_law_1078 ?_
  refine lv_aload_n hx hb dL_law_1079 rfl (lv_at hl 1 rfl) ?_
  refine lv_iload_n hx hb dL_law_1080 rfl (lv_at hl 0 rfl) ?_
  refine lv_iconst (v := 3) hx hb dL_law_1081 (by decide) ?_
  refine lv_iadd hx hb dL_law_1082 ?_
  refine va_sld hx hb hX hbl hbA hS (inK hix (k := 3) rfl (by omega) hL) dL_law_1083 ?_
  refine lv_aload_n hx hb dL_law_1084 rfl (lv_at hl 1 rfl) ?_
  refine lv_iload_n hx hb dL_law_1085 rfl (lv_at hl 0 rfl) ?_
  refine lv_iconst (v := 4) hx hb dL_law_1086 (by decide) ?_
  refine lv_iadd hx hb dL_law_1087 ?_
  refine va_sld hx hb hX hbl hbA hS (inK hix (k := 4) rfl (by omega) hL) dL_law_1088 ?_
  refine lv_aload_n hx hb dL_law_1089 rfl (lv_at hl 1 rfl) ?_
  refine lv_iload_n hx hb dL_law_1090 rfl (lv_at hl 0 rfl) ?_
  refine lv_iconst (v := 5) hx hb dL_law_1091 (by decide) ?_
  refine lv_iadd hx hb dL_law_1092 ?_
  refine va_sld hx hb hX hbl hbA hS (inK hix (k := 5) rfl (by omega) hL) dL_law_1093 ?_
  refine lawI (As := [.int (xs (Int32.toNatClampNeg (ix + (1 : Int32)))), .int (xs (Int32.toNatClampNeg (ix + (2 : Int32)))), .int (xs (Int32.toNatClampNeg (ix + (3 : Int32)))), .int (xs (Int32.toNatClampNeg (ix + (4 : Int32)))), .int (xs (Int32.toNatClampNeg (ix + (5 : Int32))))]) (rest := []) hC (c_X7_owes l g ad I J (xs (Int32.toNatClampNeg (ix + (1 : Int32)))) (xs (Int32.toNatClampNeg (ix + (2 : Int32)))) (xs (Int32.toNatClampNeg (ix + (3 : Int32)))) (xs (Int32.toNatClampNeg (ix + (4 : Int32)))) (xs (Int32.toNatClampNeg (ix + (5 : Int32)))) H.size hfx) (okW hPx hK hDx) lk_L_126 rfl rfl ⟨Nat.le_of_ble_eq_true rfl, Nat.le_of_ble_eq_true rfl⟩ ⟨Nat.le_of_ble_eq_true rfl, Nat.le_of_ble_eq_true rfl⟩ hPx hK hDx hA hS xo_59 rfl hPm (neXM hap) rfl rfl hl (Nat.le_of_ble_eq_true rfl) dL_law_1094 (fun H locs hPx hPm hS => ?_)
  replace hDx := xDs (I' := I1) (J' := J1) hDx
  refine lv_aload_n hx hb dL_law_1097 rfl (lv_at hl 3 rfl) ?_
  refine lv_aload_n hx hb dL_law_1098 rfl (lv_at hl 1 rfl) ?_
  refine lv_iload_n hx hb dL_law_1099 rfl (lv_at hl 0 rfl) ?_
  refine lv_iconst (v := 1) hx hb dL_law_1100 (by decide) ?_
  refine lv_iadd hx hb dL_law_1101 ?_
  refine va_sld hx hb hX hbl hbA hS (inK hix (k := 1) rfl (by omega) hL) dL_law_1102 ?_
  refine lv_aload_n hx hb dL_law_1103 rfl (lv_at hl 1 rfl) ?_
  refine lv_iload_n hx hb dL_law_1104 rfl (lv_at hl 0 rfl) ?_
  refine lv_iconst (v := 2) hx hb dL_law_1105 (by decide) ?_
  refine lv_iadd hx hb dL_law_1106 ?_
  refine va_sld hx hb hX hbl hbA hS (inK hix (k := 2) rfl (by omega) hL) dL_law_1107 ?_
  refine lv_aload_n hx hb dL_law_1108 rfl (lv_at hl 1 rfl) ?_
  refine lv_iload_n hx hb dL_law_1109 rfl (lv_at hl 0 rfl) ?_
  refine lv_iconst (v := 3) hx hb dL_law_1110 (by decide) ?_
  refine lv_iadd hx hb dL_law_1111 ?_
  refine va_sld hx hb hX hbl hbA hS (inK hix (k := 3) rfl (by omega) hL) dL_law_1112 ?_
  refine lv_aload_n hx hb dL_law_1113 rfl (lv_at hl 1 rfl) ?_
  refine lv_iload_n hx hb dL_law_1114 rfl (lv_at hl 0 rfl) ?_
  refine lv_iconst (v := 4) hx hb dL_law_1115 (by decide) ?_
  refine lv_iadd hx hb dL_law_1116 ?_
  refine va_sld hx hb hX hbl hbA hS (inK hix (k := 4) rfl (by omega) hL) dL_law_1117 ?_
  refine lv_aload_n hx hb dL_law_1118 rfl (lv_at hl 1 rfl) ?_
  refine lv_iload_n hx hb dL_law_1119 rfl (lv_at hl 0 rfl) ?_
  refine lv_iconst (v := 5) hx hb dL_law_1120 (by decide) ?_
  refine lv_iadd hx hb dL_law_1121 ?_
  refine va_sld hx hb hX hbl hbA hS (inK hix (k := 5) rfl (by omega) hL) dL_law_1122 ?_
  refine lawI (As := [.int (xs (Int32.toNatClampNeg (ix + (1 : Int32)))), .int (xs (Int32.toNatClampNeg (ix + (2 : Int32)))), .int (xs (Int32.toNatClampNeg (ix + (3 : Int32)))), .int (xs (Int32.toNatClampNeg (ix + (4 : Int32)))), .int (xs (Int32.toNatClampNeg (ix + (5 : Int32))))]) (rest := [.int r]) hC (c_X8_owes l g bd M N (xs (Int32.toNatClampNeg (ix + (1 : Int32)))) (xs (Int32.toNatClampNeg (ix + (2 : Int32)))) (xs (Int32.toNatClampNeg (ix + (3 : Int32)))) (xs (Int32.toNatClampNeg (ix + (4 : Int32)))) (xs (Int32.toNatClampNeg (ix + (5 : Int32)))) H.size hfm) (okW hPm hK hDm) lk_L_130 rfl rfl ⟨Nat.le_of_ble_eq_true rfl, Nat.le_of_ble_eq_true rfl⟩ ⟨Nat.le_of_ble_eq_true rfl, Nat.le_of_ble_eq_true rfl⟩ hPm hK hDm hA hS mo_0 rfl hPx (neMX hap) rfl rfl hl (Nat.le_of_ble_eq_true rfl) dL_law_1123 (fun H locs hPm hPx hS => ?_)
  replace hDm := mDs (I' := M1) (J' := N1) hDm
  refine lv_icmp_eq (tgt := 1323) hx hb dL_law_1126 (by decide) (fun _ => ?_) (fun hh => absurd rfl hh)
  exact kk _ _ _ _ _ _ hR1 hPx hPm hDx hDm hS
set_option maxHeartbeats 4000000 in
set_option maxRecDepth 100000 in
theorem law_case26 (l : Launch) {b L : Nat} {xs : Nat → Int32} (hL : L ≤ 4096) (hC : CallFix p m c code 4 s #[Value.ref b] BG RL) (hX : va_X b L xs s s.heap) (hbl : b < s.heap.size) (g : Gx) (ad bd : Nat → Nat) (qm : Nat) (hK : Kg g s) (hZ : ZM qm (fun q : Nat => s.heap.size ≤ q) s) (hap : Apart ad bd) (Rl : SI → SJ → SI → SJ → Prop) (hst : Steps_ Rl) (t : Nat) (ht : t ≤ 512) (hgo : 8 * t + 8 ≤ L) (ix : Int32) (hix : ix = nI (8 * t)) (I : SI) (J : SJ) (M : SI) (N : SJ) (H : Heap) (locs : List Loc) (ls : Array Slot) (hR : Rl I J M N) (hPx : Pg g (xW ad g I J) H) (hPm : Pg g (mW bd g M N) H) (hDx : va_D (fun q : Nat => s.heap.size ≤ q) (xW ad g I J)) (hDm : va_D (fun q : Nat => s.heap.size ≤ q) (mW bd g M N)) (hS : va_S (fun q : Nat => s.heap.size ≤ q) s.heap H locs) (hl : lv_has ls 4 [(3, .int ix), (0, .ref b), (1, .ref (ad 59)), (2, .ref (bd 0))]) (kk : ∀ (I : SI) (J : SJ) (M : SI) (N : SJ) (H : Heap) (locs : List Loc), Rl I J M N → Pg g (xW ad g I J) H → Pg g (mW bd g M N) H → va_D (fun q : Nat => s.heap.size ≤ q) (xW ad g I J) → va_D (fun q : Nat => s.heap.size ≤ q) (mW bd g M N) → va_S (fun q : Nat => s.heap.size ≤ q) s.heap H locs → W p l e room_1 s m #[Value.ref b] below meth c H locs 84 1230 (lw_Z below #[Value.ref b] s) (F0 m 1323 ls [])) : W p l e room_1 s m #[Value.ref b] below meth c H locs 84 1230 (lw_Z below #[Value.ref b] s) (F0 m 1131 ls []) := by
  have hx := hC.1
  have hb := hC.2.1
  have hts := hC.2.2.2.2
  have hown := hC.2.2.2.1
  have hA : ∀ q : Nat, s.heap.size ≤ q → (fun q : Nat => s.heap.size ≤ q) q := fun _ h => h
  have hbA : ¬ (fun q : Nat => s.heap.size ≤ q) b := Nat.not_le.mpr hbl
  obtain ⟨r, I1, J1, M1, N1, hfx, hfm, hR1⟩ := hst.2.2.2.2.2.2.2.2.2.2.2.2.2.2.2.2.2.2.2.2.2.2.2.2.2.2.1 I J M N (xs (Int32.toNatClampNeg (ix + (1 : Int32)))) (xs (Int32.toNatClampNeg (ix + (2 : Int32)))) (xs (Int32.toNatClampNeg (ix + (3 : Int32)))) (xs (Int32.toNatClampNeg (ix + (4 : Int32)))) (xs (Int32.toNatClampNeg (ix + (5 : Int32)))) (xs (Int32.toNatClampNeg (ix + (6 : Int32)))) (xs (Int32.toNatClampNeg (ix + (7 : Int32)))) hR
  refine lv_aload_n hx hb dL_law_1131 rfl (lv_at hl 2 rfl) ?_
  refine lv_aload_n hx hb dL_law_1132 rfl (lv_at hl 1 rfl) ?_
  refine lv_iload_n hx hb dL_law_1133 rfl (lv_at hl 0 rfl) ?_
  refine lv_iconst (v := 1) hx hb dL_law_1134 (by decide) ?_
  refine lv_iadd hx hb dL_law_1135 ?_
  refine va_sld hx hb hX hbl hbA hS (inK hix (k := 1) rfl (by omega) hL) dL_law_1136 ?_
  refine lv_aload_n hx hb dL_law_1137 rfl (lv_at hl 1 rfl) ?_
  refine lv_iload_n hx hb dL_law_1138 rfl (lv_at hl 0 rfl) ?_
  refine lv_iconst (v := 2) hx hb dL_law_1139 (by decide) ?_
  refine lv_iadd hx hb dL_law_1140 ?_
  refine va_sld hx hb hX hbl hbA hS (inK hix (k := 2) rfl (by omega) hL) dL_law_1141 ?_
  refine lv_aload_n hx hb dL_law_1142 rfl (lv_at hl 1 rfl) ?_
  refine lv_iload_n hx hb dL_law_1143 rfl (lv_at hl 0 rfl) ?_
  refine lv_iconst (v := 3) hx hb dL_law_1144 (by decide) ?_
  refine lv_iadd hx hb dL_law_1145 ?_
  refine va_sld hx hb hX hbl hbA hS (inK hix (k := 3) rfl (by omega) hL) dL_law_1146 ?_
  refine lv_aload_n hx hb dL_law_1147 rfl (lv_at hl 1 rfl) ?_
  refine lv_iload_n hx hb dL_law_1148 rfl (lv_at hl 0 rfl) ?_
  refine lv_iconst (v := 4) hx hb dL_law_1149 (by decide) ?_
  refine lv_iadd hx hb dL_law_1150 ?_
  refine va_sld hx hb hX hbl hbA hS (inK hix (k := 4) rfl (by omega) hL) dL_law_1151 ?_
  refine lv_aload_n hx hb dL_law_1152 rfl (lv_at hl 1 rfl) ?_
  refine lv_iload_n hx hb dL_law_1153 rfl (lv_at hl 0 rfl) ?_
  refine lv_iconst (v := 5) hx hb dL_law_1154 (by decide) ?_
  refine lv_iadd hx hb dL_law_1155 ?_
  refine va_sld hx hb hX hbl hbA hS (inK hix (k := 5) rfl (by omega) hL) dL_law_1156 ?_
  refine lv_aload_n hx hb dL_law_1157 rfl (lv_at hl 1 rfl) ?_
  refine lv_iload_n hx hb dL_law_1158 rfl (lv_at hl 0 rfl) ?_
  refine lv_bipush (v := 6) hx hb dL_law_1159 (by decide) ?_
  refine lv_iadd hx hb dL_law_1161 ?_
  refine va_sld hx hb hX hbl hbA hS (inK hix (k := 6) rfl (by omega) hL) dL_law_1162 ?_
  refine lv_aload_n hx hb dL_law_1163 rfl (lv_at hl 1 rfl) ?_
  refine lv_iload_n hx hb dL_law_1164 rfl (lv_at hl 0 rfl) ?_
  refine lv_bipush (v := 7) hx hb dL_law_1165 (by decide) ?_
  refine lv_iadd hx hb dL_law_1167 ?_
  refine va_sld hx hb hX hbl hbA hS (inK hix (k := 7) rfl (by omega) hL) dL_law_1168 ?_
  refine lawI (As := [.int (xs (Int32.toNatClampNeg (ix + (1 : Int32)))), .int (xs (Int32.toNatClampNeg (ix + (2 : Int32)))), .int (xs (Int32.toNatClampNeg (ix + (3 : Int32)))), .int (xs (Int32.toNatClampNeg (ix + (4 : Int32)))), .int (xs (Int32.toNatClampNeg (ix + (5 : Int32)))), .int (xs (Int32.toNatClampNeg (ix + (6 : Int32)))), .int (xs (Int32.toNatClampNeg (ix + (7 : Int32))))]) (rest := []) hC (c_X7_ruins l g ad I J (xs (Int32.toNatClampNeg (ix + (1 : Int32)))) (xs (Int32.toNatClampNeg (ix + (2 : Int32)))) (xs (Int32.toNatClampNeg (ix + (3 : Int32)))) (xs (Int32.toNatClampNeg (ix + (4 : Int32)))) (xs (Int32.toNatClampNeg (ix + (5 : Int32)))) (xs (Int32.toNatClampNeg (ix + (6 : Int32)))) (xs (Int32.toNatClampNeg (ix + (7 : Int32)))) H.size hfx) (okW hPx hK hDx) lk_L_131 rfl rfl ⟨Nat.le_of_ble_eq_true rfl, Nat.le_of_ble_eq_true rfl⟩ ⟨Nat.le_of_ble_eq_true rfl, Nat.le_of_ble_eq_true rfl⟩ hPx hK hDx hA hS xo_59 rfl hPm (neXM hap) rfl rfl hl (Nat.le_of_ble_eq_true rfl) dL_law_1169 (fun H locs hPx hPm hS => ?_)
  replace hDx := xDs (I' := I1) (J' := J1) hDx
  refine lv_aload_n hx hb dL_law_1172 rfl (lv_at hl 3 rfl) ?_
  refine lv_aload_n hx hb dL_law_1173 rfl (lv_at hl 1 rfl) ?_
  refine lv_iload_n hx hb dL_law_1174 rfl (lv_at hl 0 rfl) ?_
  refine lv_iconst (v := 1) hx hb dL_law_1175 (by decide) ?_
  refine lv_iadd hx hb dL_law_1176 ?_
  refine va_sld hx hb hX hbl hbA hS (inK hix (k := 1) rfl (by omega) hL) dL_law_1177 ?_
  refine lv_aload_n hx hb dL_law_1178 rfl (lv_at hl 1 rfl) ?_
  refine lv_iload_n hx hb dL_law_1179 rfl (lv_at hl 0 rfl) ?_
  refine lv_iconst (v := 2) hx hb dL_law_1180 (by decide) ?_
  refine lv_iadd hx hb dL_law_1181 ?_
  refine va_sld hx hb hX hbl hbA hS (inK hix (k := 2) rfl (by omega) hL) dL_law_1182 ?_
  refine lv_aload_n hx hb dL_law_1183 rfl (lv_at hl 1 rfl) ?_
  refine lv_iload_n hx hb dL_law_1184 rfl (lv_at hl 0 rfl) ?_
  refine lv_iconst (v := 3) hx hb dL_law_1185 (by decide) ?_
  refine lv_iadd hx hb dL_law_1186 ?_
  refine va_sld hx hb hX hbl hbA hS (inK hix (k := 3) rfl (by omega) hL) dL_law_1187 ?_
  refine lv_aload_n hx hb dL_law_1188 rfl (lv_at hl 1 rfl) ?_
  refine lv_iload_n hx hb dL_law_1189 rfl (lv_at hl 0 rfl) ?_
  refine lv_iconst (v := 4) hx hb dL_law_1190 (by decide) ?_
  refine lv_iadd hx hb dL_law_1191 ?_
  refine va_sld hx hb hX hbl hbA hS (inK hix (k := 4) rfl (by omega) hL) dL_law_1192 ?_
  refine lv_aload_n hx hb dL_law_1193 rfl (lv_at hl 1 rfl) ?_
  refine lv_iload_n hx hb dL_law_1194 rfl (lv_at hl 0 rfl) ?_
  refine lv_iconst (v := 5) hx hb dL_law_1195 (by decide) ?_
  refine lv_iadd hx hb dL_law_1196 ?_
  refine va_sld hx hb hX hbl hbA hS (inK hix (k := 5) rfl (by omega) hL) dL_law_1197 ?_
  refine lv_aload_n hx hb dL_law_1198 rfl (lv_at hl 1 rfl) ?_
  refine lv_iload_n hx hb dL_law_1199 rfl (lv_at hl 0 rfl) ?_
  refine lv_bipush (v := 6) hx hb dL_law_1200 (by decide) ?_
  refine lv_iadd hx hb dL_law_1202 ?_
  refine va_sld hx hb hX hbl hbA hS (inK hix (k := 6) rfl (by omega) hL) dL_law_1203 ?_
  refine lv_aload_n hx hb dL_law_1204 rfl (lv_at hl 1 rfl) ?_
  refine lv_iload_n hx hb dL_law_1205 rfl (lv_at hl 0 rfl) ?_
  refine lv_bipush (v := 7) hx hb dL_law_1206 (by decide) ?_
  refine lv_iadd hx hb dL_law_1208 ?_
  refine va_sld hx hb hX hbl hbA hS (inK hix (k := 7) rfl (by omega) hL) dL_law_1209 ?_
  refine lawI (As := [.int (xs (Int32.toNatClampNeg (ix + (1 : Int32)))), .int (xs (Int32.toNatClampNeg (ix + (2 : Int32)))), .int (xs (Int32.toNatClampNeg (ix + (3 : Int32)))), .int (xs (Int32.toNatClampNeg (ix + (4 : Int32)))), .int (xs (Int32.toNatClampNeg (ix + (5 : Int32)))), .int (xs (Int32.toNatClampNeg (ix + (6 : Int32)))), .int (xs (Int32.toNatClampNeg (ix + (7 : Int32))))]) (rest := [.int r]) hC (c_X8_ruins l g bd M N (xs (Int32.toNatClampNeg (ix + (1 : Int32)))) (xs (Int32.toNatClampNeg (ix + (2 : Int32)))) (xs (Int32.toNatClampNeg (ix + (3 : Int32)))) (xs (Int32.toNatClampNeg (ix + (4 : Int32)))) (xs (Int32.toNatClampNeg (ix + (5 : Int32)))) (xs (Int32.toNatClampNeg (ix + (6 : Int32)))) (xs (Int32.toNatClampNeg (ix + (7 : Int32)))) H.size hfm) (okW hPm hK hDm) lk_L_135 rfl rfl ⟨Nat.le_of_ble_eq_true rfl, Nat.le_of_ble_eq_true rfl⟩ ⟨Nat.le_of_ble_eq_true rfl, Nat.le_of_ble_eq_true rfl⟩ hPm hK hDm hA hS mo_0 rfl hPx (neMX hap) rfl rfl hl (Nat.le_of_ble_eq_true rfl) dL_law_1210 (fun H locs hPm hPx hS => ?_)
  replace hDm := mDs (I' := M1) (J' := N1) hDm
  refine lv_icmp_eq (tgt := 1323) hx hb dL_law_1213 (by decide) (fun _ => ?_) (fun hh => absurd rfl hh)
  exact kk _ _ _ _ _ _ hR1 hPx hPm hDx hDm hS
set_option maxHeartbeats 4000000 in
set_option maxRecDepth 100000 in
theorem law_case27 (l : Launch) {b L : Nat} {xs : Nat → Int32} (hL : L ≤ 4096) (hC : CallFix p m c code 4 s #[Value.ref b] BG RL) (hX : va_X b L xs s s.heap) (hbl : b < s.heap.size) (g : Gx) (ad bd : Nat → Nat) (qm : Nat) (hK : Kg g s) (hZ : ZM qm (fun q : Nat => s.heap.size ≤ q) s) (hap : Apart ad bd) (Rl : SI → SJ → SI → SJ → Prop) (hst : Steps_ Rl) (t : Nat) (ht : t ≤ 512) (hgo : 8 * t + 8 ≤ L) (ix : Int32) (hix : ix = nI (8 * t)) (I : SI) (J : SJ) (M : SI) (N : SJ) (H : Heap) (locs : List Loc) (ls : Array Slot) (hR : Rl I J M N) (hPx : Pg g (xW ad g I J) H) (hPm : Pg g (mW bd g M N) H) (hDx : va_D (fun q : Nat => s.heap.size ≤ q) (xW ad g I J)) (hDm : va_D (fun q : Nat => s.heap.size ≤ q) (mW bd g M N)) (hS : va_S (fun q : Nat => s.heap.size ≤ q) s.heap H locs) (hl : lv_has ls 4 [(3, .int ix), (0, .ref b), (1, .ref (ad 59)), (2, .ref (bd 0))]) (kk : ∀ (I : SI) (J : SJ) (M : SI) (N : SJ) (H : Heap) (locs : List Loc), Rl I J M N → Pg g (xW ad g I J) H → Pg g (mW bd g M N) H → va_D (fun q : Nat => s.heap.size ≤ q) (xW ad g I J) → va_D (fun q : Nat => s.heap.size ≤ q) (mW bd g M N) → va_S (fun q : Nat => s.heap.size ≤ q) s.heap H locs → W p l e room_1 s m #[Value.ref b] below meth c H locs 84 1230 (lw_Z below #[Value.ref b] s) (F0 m 1323 ls [])) : W p l e room_1 s m #[Value.ref b] below meth c H locs 84 1230 (lw_Z below #[Value.ref b] s) (F0 m 1218 ls []) := by
  have hx := hC.1
  have hb := hC.2.1
  have hts := hC.2.2.2.2
  have hown := hC.2.2.2.1
  have hA : ∀ q : Nat, s.heap.size ≤ q → (fun q : Nat => s.heap.size ≤ q) q := fun _ h => h
  have hbA : ¬ (fun q : Nat => s.heap.size ≤ q) b := Nat.not_le.mpr hbl
  obtain ⟨r, I1, J1, M1, N1, hfx, hfm, hR1⟩ := hst.2.2.2.2.2.2.2.2.2.2.2.2.2.2.2.2.2.2.2.2.2.2.2.2.2.2.2.1 I J M N (xs (Int32.toNatClampNeg (ix + (1 : Int32)))) hR
  refine lv_aload_n hx hb dL_law_1218 rfl (lv_at hl 2 rfl) ?_
  refine lv_aload_n hx hb dL_law_1219 rfl (lv_at hl 1 rfl) ?_
  refine lv_iload_n hx hb dL_law_1220 rfl (lv_at hl 0 rfl) ?_
  refine lv_iconst (v := 1) hx hb dL_law_1221 (by decide) ?_
  refine lv_iadd hx hb dL_law_1222 ?_
  refine va_sld hx hb hX hbl hbA hS (inK hix (k := 1) rfl (by omega) hL) dL_law_1223 ?_
  refine lawI (As := [.int (xs (Int32.toNatClampNeg (ix + (1 : Int32))))]) (rest := []) hC (c_X7_row l g ad I J (xs (Int32.toNatClampNeg (ix + (1 : Int32)))) H.size hfx) (okW hPx hK hDx) lk_L_136 rfl rfl ⟨Nat.le_of_ble_eq_true rfl, Nat.le_of_ble_eq_true rfl⟩ ⟨Nat.le_of_ble_eq_true rfl, Nat.le_of_ble_eq_true rfl⟩ hPx hK hDx hA hS xo_59 rfl hPm (neXM hap) rfl rfl hl (Nat.le_of_ble_eq_true rfl) dL_law_1224 (fun H locs hPx hPm hS => ?_)
  replace hDx := xDs (I' := I1) (J' := J1) hDx
  refine lv_aload_n hx hb dL_law_1227 rfl (lv_at hl 3 rfl) ?_
  refine lv_aload_n hx hb dL_law_1228 rfl (lv_at hl 1 rfl) ?_
  refine lv_iload_n hx hb dL_law_1229 rfl (lv_at hl 0 rfl) ?_
  refine lv_iconst (v := 1) hx hb dL_law_1230 (by decide) ?_
  refine lv_iadd hx hb dL_law_1231 ?_
  refine va_sld hx hb hX hbl hbA hS (inK hix (k := 1) rfl (by omega) hL) dL_law_1232 ?_
  refine lawI (As := [.int (xs (Int32.toNatClampNeg (ix + (1 : Int32))))]) (rest := [.int r]) hC (c_X8_row l g bd M N (xs (Int32.toNatClampNeg (ix + (1 : Int32)))) H.size hfm) (okW hPm hK hDm) lk_L_139 rfl rfl ⟨Nat.le_of_ble_eq_true rfl, Nat.le_of_ble_eq_true rfl⟩ ⟨Nat.le_of_ble_eq_true rfl, Nat.le_of_ble_eq_true rfl⟩ hPm hK hDm hA hS mo_0 rfl hPx (neMX hap) rfl rfl hl (Nat.le_of_ble_eq_true rfl) dL_law_1233 (fun H locs hPm hPx hS => ?_)
  replace hDm := mDs (I' := M1) (J' := N1) hDm
  refine lv_icmp_eq (tgt := 1323) hx hb dL_law_1236 (by decide) (fun _ => ?_) (fun hh => absurd rfl hh)
  exact kk _ _ _ _ _ _ hR1 hPx hPm hDx hDm hS
set_option maxHeartbeats 4000000 in
set_option maxRecDepth 100000 in
theorem law_case28 (l : Launch) {b L : Nat} {xs : Nat → Int32} (hL : L ≤ 4096) (hC : CallFix p m c code 4 s #[Value.ref b] BG RL) (hX : va_X b L xs s s.heap) (hbl : b < s.heap.size) (g : Gx) (ad bd : Nat → Nat) (qm : Nat) (hK : Kg g s) (hZ : ZM qm (fun q : Nat => s.heap.size ≤ q) s) (hap : Apart ad bd) (Rl : SI → SJ → SI → SJ → Prop) (hst : Steps_ Rl) (t : Nat) (ht : t ≤ 512) (hgo : 8 * t + 8 ≤ L) (ix : Int32) (hix : ix = nI (8 * t)) (I : SI) (J : SJ) (M : SI) (N : SJ) (H : Heap) (locs : List Loc) (ls : Array Slot) (hR : Rl I J M N) (hPx : Pg g (xW ad g I J) H) (hPm : Pg g (mW bd g M N) H) (hDx : va_D (fun q : Nat => s.heap.size ≤ q) (xW ad g I J)) (hDm : va_D (fun q : Nat => s.heap.size ≤ q) (mW bd g M N)) (hS : va_S (fun q : Nat => s.heap.size ≤ q) s.heap H locs) (hl : lv_has ls 4 [(3, .int ix), (0, .ref b), (1, .ref (ad 59)), (2, .ref (bd 0))]) (kk : ∀ (I : SI) (J : SJ) (M : SI) (N : SJ) (H : Heap) (locs : List Loc), Rl I J M N → Pg g (xW ad g I J) H → Pg g (mW bd g M N) H → va_D (fun q : Nat => s.heap.size ≤ q) (xW ad g I J) → va_D (fun q : Nat => s.heap.size ≤ q) (mW bd g M N) → va_S (fun q : Nat => s.heap.size ≤ q) s.heap H locs → W p l e room_1 s m #[Value.ref b] below meth c H locs 84 1230 (lw_Z below #[Value.ref b] s) (F0 m 1323 ls [])) : W p l e room_1 s m #[Value.ref b] below meth c H locs 84 1230 (lw_Z below #[Value.ref b] s) (F0 m 1241 ls []) := by
  have hx := hC.1
  have hb := hC.2.1
  have hts := hC.2.2.2.2
  have hown := hC.2.2.2.1
  have hA : ∀ q : Nat, s.heap.size ≤ q → (fun q : Nat => s.heap.size ≤ q) q := fun _ h => h
  have hbA : ¬ (fun q : Nat => s.heap.size ≤ q) b := Nat.not_le.mpr hbl
  obtain ⟨r, I1, J1, M1, N1, hfx, hfm, hR1⟩ := hst.2.2.2.2.2.2.2.2.2.2.2.2.2.2.2.2.2.2.2.2.2.2.2.2.2.2.2.2.1 I J M N (xs (Int32.toNatClampNeg (ix + (1 : Int32)))) (xs (Int32.toNatClampNeg (ix + (2 : Int32)))) hR
  refine lv_aload_n hx hb dL_law_1241 rfl (lv_at hl 2 rfl) ?_
  refine lv_aload_n hx hb dL_law_1242 rfl (lv_at hl 1 rfl) ?_
  refine lv_iload_n hx hb dL_law_1243 rfl (lv_at hl 0 rfl) ?_
  refine lv_iconst (v := 1) hx hb dL_law_1244 (by decide) ?_
  refine lv_iadd hx hb dL_law_1245 ?_
  refine va_sld hx hb hX hbl hbA hS (inK hix (k := 1) rfl (by omega) hL) dL_law_1246 ?_
  refine lv_aload_n hx hb dL_law_1247 rfl (lv_at hl 1 rfl) ?_
  refine lv_iload_n hx hb dL_law_1248 rfl (lv_at hl 0 rfl) ?_
  refine lv_iconst (v := 2) hx hb dL_law_1249 (by decide) ?_
  refine lv_iadd hx hb dL_law_1250 ?_
  refine va_sld hx hb hX hbl hbA hS (inK hix (k := 2) rfl (by omega) hL) dL_law_1251 ?_
  refine lawI (As := [.int (xs (Int32.toNatClampNeg (ix + (1 : Int32)))), .int (xs (Int32.toNatClampNeg (ix + (2 : Int32))))]) (rest := []) hC (c_X7_judge l g ad I J (xs (Int32.toNatClampNeg (ix + (1 : Int32)))) (xs (Int32.toNatClampNeg (ix + (2 : Int32)))) H.size hfx) (okW hPx hK hDx) lk_L_140 rfl rfl ⟨Nat.le_of_ble_eq_true rfl, Nat.le_of_ble_eq_true rfl⟩ ⟨Nat.le_of_ble_eq_true rfl, Nat.le_of_ble_eq_true rfl⟩ hPx hK hDx hA hS xo_59 rfl hPm (neXM hap) rfl rfl hl (Nat.le_of_ble_eq_true rfl) dL_law_1252 (fun H locs hPx hPm hS => ?_)
  replace hDx := xDs (I' := I1) (J' := J1) hDx
  refine lv_aload_n hx hb dL_law_1255 rfl (lv_at hl 3 rfl) ?_
  refine lv_aload_n hx hb dL_law_1256 rfl (lv_at hl 1 rfl) ?_
  refine lv_iload_n hx hb dL_law_1257 rfl (lv_at hl 0 rfl) ?_
  refine lv_iconst (v := 1) hx hb dL_law_1258 (by decide) ?_
  refine lv_iadd hx hb dL_law_1259 ?_
  refine va_sld hx hb hX hbl hbA hS (inK hix (k := 1) rfl (by omega) hL) dL_law_1260 ?_
  refine lv_aload_n hx hb dL_law_1261 rfl (lv_at hl 1 rfl) ?_
  refine lv_iload_n hx hb dL_law_1262 rfl (lv_at hl 0 rfl) ?_
  refine lv_iconst (v := 2) hx hb dL_law_1263 (by decide) ?_
  refine lv_iadd hx hb dL_law_1264 ?_
  refine va_sld hx hb hX hbl hbA hS (inK hix (k := 2) rfl (by omega) hL) dL_law_1265 ?_
  refine lawI (As := [.int (xs (Int32.toNatClampNeg (ix + (1 : Int32)))), .int (xs (Int32.toNatClampNeg (ix + (2 : Int32))))]) (rest := [.int r]) hC (c_X8_judge l g bd M N (xs (Int32.toNatClampNeg (ix + (1 : Int32)))) (xs (Int32.toNatClampNeg (ix + (2 : Int32)))) H.size hfm) (okW hPm hK hDm) lk_L_143 rfl rfl ⟨Nat.le_of_ble_eq_true rfl, Nat.le_of_ble_eq_true rfl⟩ ⟨Nat.le_of_ble_eq_true rfl, Nat.le_of_ble_eq_true rfl⟩ hPm hK hDm hA hS mo_0 rfl hPx (neMX hap) rfl rfl hl (Nat.le_of_ble_eq_true rfl) dL_law_1266 (fun H locs hPm hPx hS => ?_)
  replace hDm := mDs (I' := M1) (J' := N1) hDm
  refine lv_icmp_eq (tgt := 1323) hx hb dL_law_1269 (by decide) (fun _ => ?_) (fun hh => absurd rfl hh)
  exact kk _ _ _ _ _ _ hR1 hPx hPm hDx hDm hS
set_option maxHeartbeats 4000000 in
set_option maxRecDepth 100000 in
theorem law_case29 (l : Launch) {b L : Nat} {xs : Nat → Int32} (hL : L ≤ 4096) (hC : CallFix p m c code 4 s #[Value.ref b] BG RL) (hX : va_X b L xs s s.heap) (hbl : b < s.heap.size) (g : Gx) (ad bd : Nat → Nat) (qm : Nat) (hK : Kg g s) (hZ : ZM qm (fun q : Nat => s.heap.size ≤ q) s) (hap : Apart ad bd) (Rl : SI → SJ → SI → SJ → Prop) (hst : Steps_ Rl) (t : Nat) (ht : t ≤ 512) (hgo : 8 * t + 8 ≤ L) (ix : Int32) (hix : ix = nI (8 * t)) (I : SI) (J : SJ) (M : SI) (N : SJ) (H : Heap) (locs : List Loc) (ls : Array Slot) (hR : Rl I J M N) (hPx : Pg g (xW ad g I J) H) (hPm : Pg g (mW bd g M N) H) (hDx : va_D (fun q : Nat => s.heap.size ≤ q) (xW ad g I J)) (hDm : va_D (fun q : Nat => s.heap.size ≤ q) (mW bd g M N)) (hS : va_S (fun q : Nat => s.heap.size ≤ q) s.heap H locs) (hl : lv_has ls 4 [(3, .int ix), (0, .ref b), (1, .ref (ad 59)), (2, .ref (bd 0))]) (kk : ∀ (I : SI) (J : SJ) (M : SI) (N : SJ) (H : Heap) (locs : List Loc), Rl I J M N → Pg g (xW ad g I J) H → Pg g (mW bd g M N) H → va_D (fun q : Nat => s.heap.size ≤ q) (xW ad g I J) → va_D (fun q : Nat => s.heap.size ≤ q) (mW bd g M N) → va_S (fun q : Nat => s.heap.size ≤ q) s.heap H locs → W p l e room_1 s m #[Value.ref b] below meth c H locs 84 1230 (lw_Z below #[Value.ref b] s) (F0 m 1323 ls [])) : W p l e room_1 s m #[Value.ref b] below meth c H locs 84 1230 (lw_Z below #[Value.ref b] s) (F0 m 1274 ls []) := by
  have hx := hC.1
  have hb := hC.2.1
  have hts := hC.2.2.2.2
  have hown := hC.2.2.2.1
  have hA : ∀ q : Nat, s.heap.size ≤ q → (fun q : Nat => s.heap.size ≤ q) q := fun _ h => h
  have hbA : ¬ (fun q : Nat => s.heap.size ≤ q) b := Nat.not_le.mpr hbl
  obtain ⟨r, I1, J1, M1, N1, hfx, hfm, hR1⟩ := hst.2.2.2.2.2.2.2.2.2.2.2.2.2.2.2.2.2.2.2.2.2.2.2.2.2.2.2.2.2.1 I J M N  hR
  refine lv_aload_n hx hb dL_law_1274 rfl (lv_at hl 2 rfl) ?_
  refine lawI (As := []) (rest := []) hC (c_X7_image l g ad I J  H.size hfx) (okW hPx hK hDx) lk_L_144 rfl rfl ⟨Nat.le_of_ble_eq_true rfl, Nat.le_of_ble_eq_true rfl⟩ ⟨Nat.le_of_ble_eq_true rfl, Nat.le_of_ble_eq_true rfl⟩ hPx hK hDx hA hS xo_59 rfl hPm (neXM hap) rfl rfl hl (Nat.le_of_ble_eq_true rfl) dL_law_1275 (fun H locs hPx hPm hS => ?_)
  replace hDx := xDs (I' := I1) (J' := J1) hDx
  refine lv_aload_n hx hb dL_law_1278 rfl (lv_at hl 3 rfl) ?_
  refine lawI (As := []) (rest := [.int r]) hC (c_X8_image l g bd M N  H.size hfm) (okW hPm hK hDm) lk_L_147 rfl rfl ⟨Nat.le_of_ble_eq_true rfl, Nat.le_of_ble_eq_true rfl⟩ ⟨Nat.le_of_ble_eq_true rfl, Nat.le_of_ble_eq_true rfl⟩ hPm hK hDm hA hS mo_0 rfl hPx (neMX hap) rfl rfl hl (Nat.le_of_ble_eq_true rfl) dL_law_1279 (fun H locs hPm hPx hS => ?_)
  replace hDm := mDs (I' := M1) (J' := N1) hDm
  refine lv_icmp_eq (tgt := 1323) hx hb dL_law_1282 (by decide) (fun _ => ?_) (fun hh => absurd rfl hh)
  exact kk _ _ _ _ _ _ hR1 hPx hPm hDx hDm hS
set_option maxHeartbeats 4000000 in
set_option maxRecDepth 100000 in
theorem law_case30 (l : Launch) {b L : Nat} {xs : Nat → Int32} (hL : L ≤ 4096) (hC : CallFix p m c code 4 s #[Value.ref b] BG RL) (hX : va_X b L xs s s.heap) (hbl : b < s.heap.size) (g : Gx) (ad bd : Nat → Nat) (qm : Nat) (hK : Kg g s) (hZ : ZM qm (fun q : Nat => s.heap.size ≤ q) s) (hap : Apart ad bd) (Rl : SI → SJ → SI → SJ → Prop) (hst : Steps_ Rl) (t : Nat) (ht : t ≤ 512) (hgo : 8 * t + 8 ≤ L) (ix : Int32) (hix : ix = nI (8 * t)) (I : SI) (J : SJ) (M : SI) (N : SJ) (H : Heap) (locs : List Loc) (ls : Array Slot) (hR : Rl I J M N) (hPx : Pg g (xW ad g I J) H) (hPm : Pg g (mW bd g M N) H) (hDx : va_D (fun q : Nat => s.heap.size ≤ q) (xW ad g I J)) (hDm : va_D (fun q : Nat => s.heap.size ≤ q) (mW bd g M N)) (hS : va_S (fun q : Nat => s.heap.size ≤ q) s.heap H locs) (hl : lv_has ls 4 [(3, .int ix), (0, .ref b), (1, .ref (ad 59)), (2, .ref (bd 0))]) (kk : ∀ (I : SI) (J : SJ) (M : SI) (N : SJ) (H : Heap) (locs : List Loc), Rl I J M N → Pg g (xW ad g I J) H → Pg g (mW bd g M N) H → va_D (fun q : Nat => s.heap.size ≤ q) (xW ad g I J) → va_D (fun q : Nat => s.heap.size ≤ q) (mW bd g M N) → va_S (fun q : Nat => s.heap.size ≤ q) s.heap H locs → W p l e room_1 s m #[Value.ref b] below meth c H locs 84 1230 (lw_Z below #[Value.ref b] s) (F0 m 1323 ls [])) : W p l e room_1 s m #[Value.ref b] below meth c H locs 84 1230 (lw_Z below #[Value.ref b] s) (F0 m 1287 ls []) := by
  have hx := hC.1
  have hb := hC.2.1
  have hts := hC.2.2.2.2
  have hown := hC.2.2.2.1
  have hA : ∀ q : Nat, s.heap.size ≤ q → (fun q : Nat => s.heap.size ≤ q) q := fun _ h => h
  have hbA : ¬ (fun q : Nat => s.heap.size ≤ q) b := Nat.not_le.mpr hbl
  obtain ⟨r, I1, J1, M1, N1, hfx, hfm, hR1⟩ := hst.2.2.2.2.2.2.2.2.2.2.2.2.2.2.2.2.2.2.2.2.2.2.2.2.2.2.2.2.2.2.1 I J M N  hR
  refine lv_aload_n hx hb dL_law_1287 rfl (lv_at hl 2 rfl) ?_
  refine lawI (As := []) (rest := []) hC (c_X7_restore l g ad I J  H.size hfx) (okW hPx hK hDx) lk_L_148 rfl rfl ⟨Nat.le_of_ble_eq_true rfl, Nat.le_of_ble_eq_true rfl⟩ ⟨Nat.le_of_ble_eq_true rfl, Nat.le_of_ble_eq_true rfl⟩ hPx hK hDx hA hS xo_59 rfl hPm (neXM hap) rfl rfl hl (Nat.le_of_ble_eq_true rfl) dL_law_1288 (fun H locs hPx hPm hS => ?_)
  replace hDx := xDs (I' := I1) (J' := J1) hDx
  refine lv_aload_n hx hb dL_law_1291 rfl (lv_at hl 3 rfl) ?_
  refine lawI (As := []) (rest := [.int r]) hC (c_X8_restore l g bd M N  H.size hfm) (okW hPm hK hDm) lk_L_151 rfl rfl ⟨Nat.le_of_ble_eq_true rfl, Nat.le_of_ble_eq_true rfl⟩ ⟨Nat.le_of_ble_eq_true rfl, Nat.le_of_ble_eq_true rfl⟩ hPm hK hDm hA hS mo_0 rfl hPx (neMX hap) rfl rfl hl (Nat.le_of_ble_eq_true rfl) dL_law_1292 (fun H locs hPm hPx hS => ?_)
  replace hDm := mDs (I' := M1) (J' := N1) hDm
  refine lv_icmp_eq (tgt := 1323) hx hb dL_law_1295 (by decide) (fun _ => ?_) (fun hh => absurd rfl hh)
  exact kk _ _ _ _ _ _ hR1 hPx hPm hDx hDm hS
set_option maxHeartbeats 4000000 in
set_option maxRecDepth 100000 in
theorem law_case31 (l : Launch) {b L : Nat} {xs : Nat → Int32} (hL : L ≤ 4096) (hC : CallFix p m c code 4 s #[Value.ref b] BG RL) (hX : va_X b L xs s s.heap) (hbl : b < s.heap.size) (g : Gx) (ad bd : Nat → Nat) (qm : Nat) (hK : Kg g s) (hZ : ZM qm (fun q : Nat => s.heap.size ≤ q) s) (hap : Apart ad bd) (Rl : SI → SJ → SI → SJ → Prop) (hst : Steps_ Rl) (t : Nat) (ht : t ≤ 512) (hgo : 8 * t + 8 ≤ L) (ix : Int32) (hix : ix = nI (8 * t)) (I : SI) (J : SJ) (M : SI) (N : SJ) (H : Heap) (locs : List Loc) (ls : Array Slot) (hR : Rl I J M N) (hPx : Pg g (xW ad g I J) H) (hPm : Pg g (mW bd g M N) H) (hDx : va_D (fun q : Nat => s.heap.size ≤ q) (xW ad g I J)) (hDm : va_D (fun q : Nat => s.heap.size ≤ q) (mW bd g M N)) (hS : va_S (fun q : Nat => s.heap.size ≤ q) s.heap H locs) (hl : lv_has ls 4 [(3, .int ix), (0, .ref b), (1, .ref (ad 59)), (2, .ref (bd 0))]) (kk : ∀ (I : SI) (J : SJ) (M : SI) (N : SJ) (H : Heap) (locs : List Loc), Rl I J M N → Pg g (xW ad g I J) H → Pg g (mW bd g M N) H → va_D (fun q : Nat => s.heap.size ≤ q) (xW ad g I J) → va_D (fun q : Nat => s.heap.size ≤ q) (mW bd g M N) → va_S (fun q : Nat => s.heap.size ≤ q) s.heap H locs → W p l e room_1 s m #[Value.ref b] below meth c H locs 84 1230 (lw_Z below #[Value.ref b] s) (F0 m 1323 ls [])) : W p l e room_1 s m #[Value.ref b] below meth c H locs 84 1230 (lw_Z below #[Value.ref b] s) (F0 m 1300 ls []) := by
  have hx := hC.1
  have hb := hC.2.1
  have hts := hC.2.2.2.2
  have hown := hC.2.2.2.1
  have hA : ∀ q : Nat, s.heap.size ≤ q → (fun q : Nat => s.heap.size ≤ q) q := fun _ h => h
  have hbA : ¬ (fun q : Nat => s.heap.size ≤ q) b := Nat.not_le.mpr hbl
  obtain ⟨r, I1, J1, M1, N1, hfx, hfm, hR1⟩ := hst.2.2.2.2.2.2.2.2.2.2.2.2.2.2.2.2.2.2.2.2.2.2.2.2.2.2.2.2.2.2.2 I J M N (xs (Int32.toNatClampNeg (ix + (1 : Int32)))) hR
  obtain ⟨hfm, e1, e2⟩ := hfm
  rw [e1, e2] at hR1
  refine lv_aload_n hx hb dL_law_1300 rfl (lv_at hl 2 rfl) ?_
  refine lv_aload_n hx hb dL_law_1301 rfl (lv_at hl 1 rfl) ?_
  refine lv_iload_n hx hb dL_law_1302 rfl (lv_at hl 0 rfl) ?_
  refine lv_iconst (v := 1) hx hb dL_law_1303 (by decide) ?_
  refine lv_iadd hx hb dL_law_1304 ?_
  refine va_sld hx hb hX hbl hbA hS (inK hix (k := 1) rfl (by omega) hL) dL_law_1305 ?_
  refine lawI (As := [.int (xs (Int32.toNatClampNeg (ix + (1 : Int32))))]) (rest := []) hC (c_X7_count l g ad I J (xs (Int32.toNatClampNeg (ix + (1 : Int32)))) H.size hfx) (okW hPx hK hDx) lk_L_152 rfl rfl ⟨Nat.le_of_ble_eq_true rfl, Nat.le_of_ble_eq_true rfl⟩ ⟨Nat.le_of_ble_eq_true rfl, Nat.le_of_ble_eq_true rfl⟩ hPx hK hDx hA hS xo_59 rfl hPm (neXM hap) rfl rfl hl (Nat.le_of_ble_eq_true rfl) dL_law_1306 (fun H locs hPx hPm hS => ?_)
  replace hDx := xDs (I' := I1) (J' := J1) hDx
  refine lv_aload_n hx hb dL_law_1309 rfl (lv_at hl 3 rfl) ?_
  refine lv_aload_n hx hb dL_law_1310 rfl (lv_at hl 1 rfl) ?_
  refine lv_iload_n hx hb dL_law_1311 rfl (lv_at hl 0 rfl) ?_
  refine lv_iconst (v := 1) hx hb dL_law_1312 (by decide) ?_
  refine lv_iadd hx hb dL_law_1313 ?_
  refine va_sld hx hb hX hbl hbA hS (inK hix (k := 1) rfl (by omega) hL) dL_law_1314 ?_
  refine lawR (As := [.int (xs (Int32.toNatClampNeg (ix + (1 : Int32))))]) (rest := [.int r]) hC (c_X8_count l g bd M N (xs (Int32.toNatClampNeg (ix + (1 : Int32)))) hfm) lk_L_155 rfl rfl ⟨Nat.le_of_ble_eq_true rfl, Nat.le_of_ble_eq_true rfl⟩ ⟨Nat.le_of_ble_eq_true rfl, Nat.le_of_ble_eq_true rfl⟩ hPm hK mo_0 rfl rfl rfl hl (Nat.le_of_ble_eq_true rfl) dL_law_1315 ?_
  refine lv_icmp_eq (tgt := 1323) hx hb dL_law_1318 (by decide) (fun _ => ?_) (fun hh => absurd rfl hh)
  exact kk _ _ _ _ _ _ hR1 hPx hPm hDx hDm hS
set_option maxHeartbeats 4000000 in
set_option maxRecDepth 100000 in
theorem law_loop (l : Launch) {b L : Nat} {xs : Nat → Int32} (hL : L ≤ 4096) (hC : CallFix p m c code 4 s #[Value.ref b] BG RL) (hX : va_X b L xs s s.heap) (hbl : b < s.heap.size) (g : Gx) (ad bd : Nat → Nat) (qm : Nat) (hK : Kg g s) (hZ : ZM qm (fun q : Nat => s.heap.size ≤ q) s) (hap : Apart ad bd) (Rl : SI → SJ → SI → SJ → Prop) (hst : Steps_ Rl) (hr : meth.sig.returnType = ret) (hlocks : meth.locks = false) : ∀ (n t : Nat) (ix : Int32) (I : SI) (J : SJ) (M : SI) (N : SJ) (H : Heap) (locs : List Loc) (ls : Array Slot), t ≤ 512 → n + t = 513 → ix = nI (8 * t) → Rl I J M N → Pg g (xW ad g I J) H → Pg g (mW bd g M N) H → va_D (fun q : Nat => s.heap.size ≤ q) (xW ad g I J) → va_D (fun q : Nat => s.heap.size ≤ q) (mW bd g M N) → va_S (fun q : Nat => s.heap.size ≤ q) s.heap H locs → lv_has ls 4 [(3, .int ix), (0, .ref b), (1, .ref (ad 59)), (2, .ref (bd 0))] → W p l e room_1 s m #[Value.ref b] below meth c H locs 84 1230 (lw_Z below #[Value.ref b] s) (F0 m 18 ls []) := by
  have hx := hC.1
  have hb := hC.2.1
  have hts := hC.2.2.2.2
  have hown := hC.2.2.2.1
  have hbA : ¬ (fun q : Nat => s.heap.size ≤ q) b := Nat.not_le.mpr hbl
  intro n
  induction n with
  | zero => intro t ix I J M N H locs ls ht hn; exact absurd hn (by omega)
  | succ n ih =>
    intro t ix I J M N H locs ls ht hn hix hR hPx hPm hDx hDm hS hl
    refine lv_iload_n hx hb dL_law_18 rfl (lv_at hl 0 rfl) ?_
    refine lv_aload_n hx hb dL_law_19 rfl (lv_at hl 1 rfl) ?_
    refine va_slen hx hb hX hbl hbA hS dL_law_20 ?_
    refine lv_bipush (v := 8) hx hb dL_law_21 (by decide) ?_
    refine lv_isub hx hb dL_law_23 ?_
    refine lv_icmp_gt (tgt := 1329) hx hb dL_law_24 (by decide) (fun c1 => ?_) (fun c1 => ?_)
    · refine lv_iconst (v := 1) hx hb dL_law_1329 (by decide) ?_
      refine va_forget (fun q hq => hS.2.2 q hq) ?_
      refine W.widen (k := 600000) (n := 7302249) (Nat.le_of_ble_eq_true rfl) (Nat.le_of_ble_eq_true rfl) ?_
      exact lw_ret hx hb hr hlocks dL_law_1330
    · have hgo := law_go hL ht hix c1
      refine lv_aload_n hx hb dL_law_27 rfl (lv_at hl 1 rfl) ?_
      refine lv_iload_n hx hb dL_law_28 rfl (lv_at hl 0 rfl) ?_
      refine va_sld hx hb hX hbl hbA hS (by rw [hix]; exact vp_in_nI (by omega) (by omega)) dL_law_29 ?_
      refine lv_bipush (v := 31) hx hb dL_law_30 (by decide) ?_
      refine lv_iand hx hb dL_law_32 ?_
      generalize (xs (Int32.toNatClampNeg ix)) &&& 31 = sw
      have knext : ∀ (I : SI) (J : SJ) (M : SI) (N : SJ) (H : Heap) (locs : List Loc), Rl I J M N → Pg g (xW ad g I J) H → Pg g (mW bd g M N) H → va_D (fun q : Nat => s.heap.size ≤ q) (xW ad g I J) → va_D (fun q : Nat => s.heap.size ≤ q) (mW bd g M N) → va_S (fun q : Nat => s.heap.size ≤ q) s.heap H locs → W p l e room_1 s m #[Value.ref b] below meth c H locs 84 1230 (lw_Z below #[Value.ref b] s) (F0 m 1323 ls []) := by
        intro I J M N H locs hR hPx hPm hDx hDm hS
        refine lv_iinc (v := ix + 8) (lv' := [(3, .int (ix + 8)), (0, .ref b), (1, .ref (ad 59)), (2, .ref (bd 0))]) hx hb dL_law_1323 hl (k := 0) rfl rfl (by decide) rfl (fun ls hl => ?_)
        refine lv_goto (tgt := 18) hx hb dL_law_1326 (by decide) ?_
        exact ih (t + 1) (ix + 8) I J M N H locs ls (by omega) (by omega) (by rw [hix]; exact nI_add (8 * t) 8) hR hPx hPm hDx hDm hS hl
      by_cases c_0 : sw = 0
      · refine lv_tableIn (off := 143) (tgt := 176) hx hb dL_law_33 (by rw [c_0]; decide) (by rw [c_0]; decide) (by rw [c_0]; decide) (by decide) ?_
        exact law_case0 l hL hC hX hbl g ad bd qm hK hZ hap Rl hst t ht hgo ix hix I J M N H locs ls hR hPx hPm hDx hDm hS hl knext
      by_cases c_1 : sw = 1
      · refine lv_tableIn (off := 206) (tgt := 239) hx hb dL_law_33 (by rw [c_1]; decide) (by rw [c_1]; decide) (by rw [c_1]; decide) (by decide) ?_
        exact law_case1 l hL hC hX hbl g ad bd qm hK hZ hap Rl hst t ht hgo ix hix I J M N H locs ls hR hPx hPm hDx hDm hS hl knext
      by_cases c_2 : sw = 2
      · refine lv_tableIn (off := 219) (tgt := 252) hx hb dL_law_33 (by rw [c_2]; decide) (by rw [c_2]; decide) (by rw [c_2]; decide) (by decide) ?_
        exact law_case2 l hL hC hX hbl g ad bd qm hK hZ hap Rl hst t ht hgo ix hix I J M N H locs ls hR hPx hPm hDx hDm hS hl knext
      by_cases c_3 : sw = 3
      · refine lv_tableIn (off := 232) (tgt := 265) hx hb dL_law_33 (by rw [c_3]; decide) (by rw [c_3]; decide) (by rw [c_3]; decide) (by decide) ?_
        exact law_case3 l hL hC hX hbl g ad bd qm hK hZ hap Rl hst t ht hgo ix hix I J M N H locs ls hR hPx hPm hDx hDm hS hl knext
      by_cases c_4 : sw = 4
      · refine lv_tableIn (off := 265) (tgt := 298) hx hb dL_law_33 (by rw [c_4]; decide) (by rw [c_4]; decide) (by rw [c_4]; decide) (by decide) ?_
        exact law_case4 l hL hC hX hbl g ad bd qm hK hZ hap Rl hst t ht hgo ix hix I J M N H locs ls hR hPx hPm hDx hDm hS hl knext
      by_cases c_5 : sw = 5
      · refine lv_tableIn (off := 298) (tgt := 331) hx hb dL_law_33 (by rw [c_5]; decide) (by rw [c_5]; decide) (by rw [c_5]; decide) (by decide) ?_
        exact law_case5 l hL hC hX hbl g ad bd qm hK hZ hap Rl hst t ht hgo ix hix I J M N H locs ls hR hPx hPm hDx hDm hS hl knext
      by_cases c_6 : sw = 6
      · refine lv_tableIn (off := 331) (tgt := 364) hx hb dL_law_33 (by rw [c_6]; decide) (by rw [c_6]; decide) (by rw [c_6]; decide) (by decide) ?_
        exact law_case6 l hL hC hX hbl g ad bd qm hK hZ hap Rl hst t ht hgo ix hix I J M N H locs ls hR hPx hPm hDx hDm hS hl knext
      by_cases c_7 : sw = 7
      · refine lv_tableIn (off := 364) (tgt := 397) hx hb dL_law_33 (by rw [c_7]; decide) (by rw [c_7]; decide) (by rw [c_7]; decide) (by decide) ?_
        exact law_case7 l hL hC hX hbl g ad bd qm hK hZ hap Rl hst t ht hgo ix hix I J M N H locs ls hR hPx hPm hDx hDm hS hl knext
      by_cases c_8 : sw = 8
      · refine lv_tableIn (off := 417) (tgt := 450) hx hb dL_law_33 (by rw [c_8]; decide) (by rw [c_8]; decide) (by rw [c_8]; decide) (by decide) ?_
        exact law_case8 l hL hC hX hbl g ad bd qm hK hZ hap Rl hst t ht hgo ix hix I J M N H locs ls hR hPx hPm hDx hDm hS hl knext
      by_cases c_9 : sw = 9
      · refine lv_tableIn (off := 450) (tgt := 483) hx hb dL_law_33 (by rw [c_9]; decide) (by rw [c_9]; decide) (by rw [c_9]; decide) (by decide) ?_
        exact law_case9 l hL hC hX hbl g ad bd qm hK hZ hap Rl hst t ht hgo ix hix I J M N H locs ls hR hPx hPm hDx hDm hS hl knext
      by_cases c_10 : sw = 10
      · refine lv_tableIn (off := 494) (tgt := 527) hx hb dL_law_33 (by rw [c_10]; decide) (by rw [c_10]; decide) (by rw [c_10]; decide) (by decide) ?_
        exact law_case10 l hL hC hX hbl g ad bd qm hK hZ hap Rl hst t ht hgo ix hix I J M N H locs ls hR hPx hPm hDx hDm hS hl knext
      by_cases c_11 : sw = 11
      · refine lv_tableIn (off := 517) (tgt := 550) hx hb dL_law_33 (by rw [c_11]; decide) (by rw [c_11]; decide) (by rw [c_11]; decide) (by decide) ?_
        exact law_case11 l hL hC hX hbl g ad bd qm hK hZ hap Rl hst t ht hgo ix hix I J M N H locs ls hR hPx hPm hDx hDm hS hl knext
      by_cases c_12 : sw = 12
      · refine lv_tableIn (off := 540) (tgt := 573) hx hb dL_law_33 (by rw [c_12]; decide) (by rw [c_12]; decide) (by rw [c_12]; decide) (by decide) ?_
        exact law_case12 l hL hC hX hbl g ad bd qm hK hZ hap Rl hst t ht hgo ix hix I J M N H locs ls hR hPx hPm hDx hDm hS hl knext
      by_cases c_13 : sw = 13
      · refine lv_tableIn (off := 583) (tgt := 616) hx hb dL_law_33 (by rw [c_13]; decide) (by rw [c_13]; decide) (by rw [c_13]; decide) (by decide) ?_
        exact law_case13 l hL hC hX hbl g ad bd qm hK hZ hap Rl hst t ht hgo ix hix I J M N H locs ls hR hPx hPm hDx hDm hS hl knext
      by_cases c_14 : sw = 14
      · refine lv_tableIn (off := 596) (tgt := 629) hx hb dL_law_33 (by rw [c_14]; decide) (by rw [c_14]; decide) (by rw [c_14]; decide) (by decide) ?_
        exact law_case14 l hL hC hX hbl g ad bd qm hK hZ hap Rl hst t ht hgo ix hix I J M N H locs ls hR hPx hPm hDx hDm hS hl knext
      by_cases c_15 : sw = 15
      · refine lv_tableIn (off := 610) (tgt := 643) hx hb dL_law_33 (by rw [c_15]; decide) (by rw [c_15]; decide) (by rw [c_15]; decide) (by decide) ?_
        exact law_case15 l hL hC hX hbl g ad bd qm hK hZ hap Rl hst t ht hgo ix hix I J M N H locs ls hR hPx hPm hDx hDm hS hl knext
      by_cases c_16 : sw = 16
      · refine lv_tableIn (off := 624) (tgt := 657) hx hb dL_law_33 (by rw [c_16]; decide) (by rw [c_16]; decide) (by rw [c_16]; decide) (by decide) ?_
        exact law_case16 l hL hC hX hbl g ad bd qm hK hZ hap Rl hst t ht hgo ix hix I J M N H locs ls hR hPx hPm hDx hDm hS hl knext
      by_cases c_17 : sw = 17
      · refine lv_tableIn (off := 677) (tgt := 710) hx hb dL_law_33 (by rw [c_17]; decide) (by rw [c_17]; decide) (by rw [c_17]; decide) (by decide) ?_
        exact law_case17 l hL hC hX hbl g ad bd qm hK hZ hap Rl hst t ht hgo ix hix I J M N H locs ls hR hPx hPm hDx hDm hS hl knext
      by_cases c_18 : sw = 18
      · refine lv_tableIn (off := 720) (tgt := 753) hx hb dL_law_33 (by rw [c_18]; decide) (by rw [c_18]; decide) (by rw [c_18]; decide) (by decide) ?_
        exact law_case18 l hL hC hX hbl g ad bd qm hK hZ hap Rl hst t ht hgo ix hix I J M N H locs ls hR hPx hPm hDx hDm hS hl knext
      by_cases c_19 : sw = 19
      · refine lv_tableIn (off := 774) (tgt := 807) hx hb dL_law_33 (by rw [c_19]; decide) (by rw [c_19]; decide) (by rw [c_19]; decide) (by decide) ?_
        exact law_case19 l hL hC hX hbl g ad bd qm hK hZ hap Rl hst t ht hgo ix hix I J M N H locs ls hR hPx hPm hDx hDm hS hl knext
      by_cases c_20 : sw = 20
      · refine lv_tableIn (off := 807) (tgt := 840) hx hb dL_law_33 (by rw [c_20]; decide) (by rw [c_20]; decide) (by rw [c_20]; decide) (by decide) ?_
        exact law_case20 l hL hC hX hbl g ad bd qm hK hZ hap Rl hst t ht hgo ix hix I J M N H locs ls hR hPx hPm hDx hDm hS hl knext
      by_cases c_21 : sw = 21
      · refine lv_tableIn (off := 850) (tgt := 883) hx hb dL_law_33 (by rw [c_21]; decide) (by rw [c_21]; decide) (by rw [c_21]; decide) (by decide) ?_
        exact law_case21 l hL hC hX hbl g ad bd qm hK hZ hap Rl hst t ht hgo ix hix I J M N H locs ls hR hPx hPm hDx hDm hS hl knext
      by_cases c_22 : sw = 22
      · refine lv_tableIn (off := 893) (tgt := 926) hx hb dL_law_33 (by rw [c_22]; decide) (by rw [c_22]; decide) (by rw [c_22]; decide) (by decide) ?_
        exact law_case22 l hL hC hX hbl g ad bd qm hK hZ hap Rl hst t ht hgo ix hix I J M N H locs ls hR hPx hPm hDx hDm hS hl knext
      by_cases c_23 : sw = 23
      · refine lv_tableIn (off := 926) (tgt := 959) hx hb dL_law_33 (by rw [c_23]; decide) (by rw [c_23]; decide) (by rw [c_23]; decide) (by decide) ?_
        exact law_case23 l hL hC hX hbl g ad bd qm hK hZ hap Rl hst t ht hgo ix hix I J M N H locs ls hR hPx hPm hDx hDm hS hl knext
      by_cases c_24 : sw = 24
      · refine lv_tableIn (off := 960) (tgt := 993) hx hb dL_law_33 (by rw [c_24]; decide) (by rw [c_24]; decide) (by rw [c_24]; decide) (by decide) ?_
        exact law_case24 l hL hC hX hbl g ad bd qm hK hZ hap Rl hst t ht hgo ix hix I J M N H locs ls hR hPx hPm hDx hDm hS hl knext
      by_cases c_25 : sw = 25
      · refine lv_tableIn (off := 1035) (tgt := 1068) hx hb dL_law_33 (by rw [c_25]; decide) (by rw [c_25]; decide) (by rw [c_25]; decide) (by decide) ?_
        exact law_case25 l hL hC hX hbl g ad bd qm hK hZ hap Rl hst t ht hgo ix hix I J M N H locs ls hR hPx hPm hDx hDm hS hl knext
      by_cases c_26 : sw = 26
      · refine lv_tableIn (off := 1098) (tgt := 1131) hx hb dL_law_33 (by rw [c_26]; decide) (by rw [c_26]; decide) (by rw [c_26]; decide) (by decide) ?_
        exact law_case26 l hL hC hX hbl g ad bd qm hK hZ hap Rl hst t ht hgo ix hix I J M N H locs ls hR hPx hPm hDx hDm hS hl knext
      by_cases c_27 : sw = 27
      · refine lv_tableIn (off := 1185) (tgt := 1218) hx hb dL_law_33 (by rw [c_27]; decide) (by rw [c_27]; decide) (by rw [c_27]; decide) (by decide) ?_
        exact law_case27 l hL hC hX hbl g ad bd qm hK hZ hap Rl hst t ht hgo ix hix I J M N H locs ls hR hPx hPm hDx hDm hS hl knext
      by_cases c_28 : sw = 28
      · refine lv_tableIn (off := 1208) (tgt := 1241) hx hb dL_law_33 (by rw [c_28]; decide) (by rw [c_28]; decide) (by rw [c_28]; decide) (by decide) ?_
        exact law_case28 l hL hC hX hbl g ad bd qm hK hZ hap Rl hst t ht hgo ix hix I J M N H locs ls hR hPx hPm hDx hDm hS hl knext
      by_cases c_29 : sw = 29
      · refine lv_tableIn (off := 1241) (tgt := 1274) hx hb dL_law_33 (by rw [c_29]; decide) (by rw [c_29]; decide) (by rw [c_29]; decide) (by decide) ?_
        exact law_case29 l hL hC hX hbl g ad bd qm hK hZ hap Rl hst t ht hgo ix hix I J M N H locs ls hR hPx hPm hDx hDm hS hl knext
      by_cases c_30 : sw = 30
      · refine lv_tableIn (off := 1254) (tgt := 1287) hx hb dL_law_33 (by rw [c_30]; decide) (by rw [c_30]; decide) (by rw [c_30]; decide) (by decide) ?_
        exact law_case30 l hL hC hX hbl g ad bd qm hK hZ hap Rl hst t ht hgo ix hix I J M N H locs ls hR hPx hPm hDx hDm hS hl knext
      by_cases c_31 : sw = 31
      · refine lv_tableIn (off := 1267) (tgt := 1300) hx hb dL_law_33 (by rw [c_31]; decide) (by rw [c_31]; decide) (by rw [c_31]; decide) (by decide) ?_
        exact law_case31 l hL hC hX hbl g ad bd qm hK hZ hap Rl hst t ht hgo ix hix I J M N H locs ls hR hPx hPm hDx hDm hS hl knext
      refine lv_tableOut (tgt := 1323) hx hb dL_law_33 (by have e0 := ti_ne (n := 0) (by decide) c_0; have e1 := ti_ne (n := 1) (by decide) c_1; have e2 := ti_ne (n := 2) (by decide) c_2; have e3 := ti_ne (n := 3) (by decide) c_3; have e4 := ti_ne (n := 4) (by decide) c_4; have e5 := ti_ne (n := 5) (by decide) c_5; have e6 := ti_ne (n := 6) (by decide) c_6; have e7 := ti_ne (n := 7) (by decide) c_7; have e8 := ti_ne (n := 8) (by decide) c_8; have e9 := ti_ne (n := 9) (by decide) c_9; have e10 := ti_ne (n := 10) (by decide) c_10; have e11 := ti_ne (n := 11) (by decide) c_11; have e12 := ti_ne (n := 12) (by decide) c_12; have e13 := ti_ne (n := 13) (by decide) c_13; have e14 := ti_ne (n := 14) (by decide) c_14; have e15 := ti_ne (n := 15) (by decide) c_15; have e16 := ti_ne (n := 16) (by decide) c_16; have e17 := ti_ne (n := 17) (by decide) c_17; have e18 := ti_ne (n := 18) (by decide) c_18; have e19 := ti_ne (n := 19) (by decide) c_19; have e20 := ti_ne (n := 20) (by decide) c_20; have e21 := ti_ne (n := 21) (by decide) c_21; have e22 := ti_ne (n := 22) (by decide) c_22; have e23 := ti_ne (n := 23) (by decide) c_23; have e24 := ti_ne (n := 24) (by decide) c_24; have e25 := ti_ne (n := 25) (by decide) c_25; have e26 := ti_ne (n := 26) (by decide) c_26; have e27 := ti_ne (n := 27) (by decide) c_27; have e28 := ti_ne (n := 28) (by decide) c_28; have e29 := ti_ne (n := 29) (by decide) c_29; have e30 := ti_ne (n := 30) (by decide) c_30; have e31 := ti_ne (n := 31) (by decide) c_31; omega) (by decide) ?_
      exact knext I J M N H locs hR hPx hPm hDx hDm hS
end LW
