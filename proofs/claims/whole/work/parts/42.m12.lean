def FL_X8_passes_m2_2  : Nat → SI → SJ → Int32 → Option (SI × SJ)
  | 0, _, _, _ => none
  | n + 1, I, J, w2_2 => (if (8 : Int32) ≤ w2_2 then (some (I, J)) else (if (I 0 39) = 0 then (if gin (I 0 40) 200 = true then (if gin w2_2 8 = true then (FL_X8_passes_m2_2 n (u2 (u1 I 2 (upd (I 2) (Int32.toNatClampNeg w2_2) (I 21 (Int32.toNatClampNeg (I 0 40))))) 0 40 (((u1 I 2 (upd (I 2) (Int32.toNatClampNeg w2_2) (I 21 (Int32.toNatClampNeg (I 0 40))))) 0 40) + (1 : Int32))) J (w2_2 + 1)) else none) else none) else (if gin w2_2 8 = true then (if gin (I 0 40) 200 = true then (FL_X8_passes_m2_2 n (u2 (u1 I 21 (upd (I 21) (Int32.toNatClampNeg (I 0 40)) (I 2 (Int32.toNatClampNeg w2_2)))) 0 40 (((u1 I 21 (upd (I 21) (Int32.toNatClampNeg (I 0 40)) (I 2 (Int32.toNatClampNeg w2_2)))) 0 40) + (1 : Int32))) J (w2_2 + 1)) else none) else none)))
def F_X8_passes_m2 (I : SI) (J : SJ) : Option (SI × SJ) := (FL_X8_passes_m2_2 3000 I J (0 : Int32))
set_option maxHeartbeats 4000000 in
set_option maxRecDepth 100000 in
theorem c_X8_passes_m2 (l : Launch) (g : Gx) (ad : Nat → Nat) (I : SI) (J : SJ)   (sz : Nat) {rI : SI} {rJ : SJ} (h : F_X8_passes_m2 I J = some (rI, rJ)) : Met l yX8_passes (Cond.code yX8_passes cX8_passes 3 none :: BG) (k2_rm 0 0) (PcW [.ref (ad 0), .ref (ad 2)] g (mW ad g I J) sz) (QWv g (mW ad g I J) (mW ad g rI rJ) sz) 0 0 (va_A (mW ad g I J) sz) := by
  refine mkWv (by decide) (Nat.le_of_ble_eq_true rfl) ?_
  intro p e s m args below meth c H locs ls A Q hC hK hP hD hA hS hl hret
  have hx := hC.1
  have hb := hC.2.1
  have hts := hC.2.2.2.2
  have hown := hC.2.2.2.1
  replace hl : lv_has ls 3 [(0, .ref (ad 0)), (1, .ref (ad 2))] := hl
  have loop_2 : ∀ (n : Nat) (I : SI) (J : SJ) (w2_2 : Int32)  (H : Heap) (locs : List Loc) (ls : Array Slot), FL_X8_passes_m2_2 n I J w2_2 = some (rI, rJ) → Pg g (mW ad g I J) H → va_D A (mW ad g I J) → va_S A s.heap H locs → lv_has ls 3 [(0, .ref (ad 0)), (1, .ref (ad 2)), (2, .int w2_2)] → W p l e (k2_rm 0 0) s m args below meth c H locs 0 0 Q (F0 m 2 ls []) := by
    intro n
    induction n with
    | zero =>
      intro I J w2_2 H locs ls h
      exact no h
    | succ n ih =>
      intro I J w2_2 H locs ls h hP hD hS hl
      rw [FL_X8_passes_m2_2] at h
      refine lv_iload_n hx hb dX8_passes_2 rfl (lv_at hl 2 rfl) ?_
      refine lv_aload_n hx hb dX8_passes_3 rfl (lv_at hl 1 rfl) ?_
      refine ln_m2 hC hK hP dX8_passes_4 ?_
      refine lv_icmp_ge (tgt := 58) hx hb dX8_passes_5 (by decide) (fun c1 => ?_) (fun c1 => ?_)
      · replace h := (if_pos c1).symm.trans h
        obtain ⟨rfl, rfl⟩ := Prod.mk.inj (Option.some.inj h)
        exact hret _ _ _ _ dX8_passes_58 hP hD hS
      · replace h := (if_neg c1).symm.trans h
        refine lv_aload_n hx hb dX8_passes_8 rfl (lv_at hl 0 rfl) ?_
        refine gt_X8_303 hC hK hP dX8_passes_9 ?_
        refine lv_if_eq (tgt := 30) hx hb dX8_passes_12 (by decide) (fun c2 => ?_) (fun c2 => ?_)
        · replace h := (if_pos c2).symm.trans h
          refine lv_aload_n hx hb dX8_passes_30 rfl (lv_at hl 1 rfl) ?_
          refine lv_iload_n hx hb dX8_passes_31 rfl (lv_at hl 2 rfl) ?_
          refine lv_aload_n hx hb dX8_passes_32 rfl (lv_at hl 0 rfl) ?_
          refine gt_X8_71 hC hK hP dX8_passes_33 ?_
          refine lv_aload_n hx hb dX8_passes_36 rfl (lv_at hl 0 rfl) ?_
          refine gt_X8_307 hC hK hP dX8_passes_37 ?_
          obtain ⟨b3, h⟩ := og h
          refine al_m21 hC hK hP (gin_ok b3) dX8_passes_40 ?_
          obtain ⟨b4, h⟩ := og h
          refine as_m2 hC hK hP hD hS (gin_ok b4) dX8_passes_41 (fun H locs hP hD hS => ?_)
          refine lv_aload_n hx hb dX8_passes_42 rfl (lv_at hl 0 rfl) ?_
          refine lv_dup hx hb dX8_passes_43 rfl ?_
          refine gt_X8_307 hC hK hP dX8_passes_44 ?_
          refine lv_iconst (v := 1) hx hb dX8_passes_47 (by decide) ?_
          refine lv_iadd hx hb dX8_passes_48 ?_
          refine pt_X8_307 hC hK hP hD hS dX8_passes_49 (fun H locs hP hD hS => ?_)
          refine lv_iinc (v := (w2_2 + 1)) (lv' := [(2, .int (w2_2 + 1)), (0, .ref (ad 0)), (1, .ref (ad 2))]) hx hb dX8_passes_52 hl (k := 2) rfl rfl (by decide) rfl (fun ls hl => ?_)
          refine lv_goto (tgt := 2) hx hb dX8_passes_55 (by decide) ?_
          exact ih (u2 (u1 I 2 (upd (I 2) (Int32.toNatClampNeg w2_2) (I 21 (Int32.toNatClampNeg (I 0 40))))) 0 40 (((u1 I 2 (upd (I 2) (Int32.toNatClampNeg w2_2) (I 21 (Int32.toNatClampNeg (I 0 40))))) 0 40) + (1 : Int32))) J (w2_2 + 1) _ _ _ h hP hD hS (lv_sub hl [1, 2, 0] rfl)
        · replace h := (if_neg c2).symm.trans h
          refine lv_aload_n hx hb dX8_passes_15 rfl (lv_at hl 0 rfl) ?_
          refine gt_X8_71 hC hK hP dX8_passes_16 ?_
          refine lv_aload_n hx hb dX8_passes_19 rfl (lv_at hl 0 rfl) ?_
          refine gt_X8_307 hC hK hP dX8_passes_20 ?_
          refine lv_aload_n hx hb dX8_passes_23 rfl (lv_at hl 1 rfl) ?_
          refine lv_iload_n hx hb dX8_passes_24 rfl (lv_at hl 2 rfl) ?_
          obtain ⟨b5, h⟩ := og h
          refine al_m2 hC hK hP (gin_ok b5) dX8_passes_25 ?_
          obtain ⟨b6, h⟩ := og h
          refine as_m21 hC hK hP hD hS (gin_ok b6) dX8_passes_26 (fun H locs hP hD hS => ?_)
          refine lv_goto (tgt := 42) hx hb dX8_passes_27 (by decide) ?_
          refine lv_aload_n hx hb dX8_passes_42 rfl (lv_at hl 0 rfl) ?_
          refine lv_dup hx hb dX8_passes_43 rfl ?_
          refine gt_X8_307 hC hK hP dX8_passes_44 ?_
          refine lv_iconst (v := 1) hx hb dX8_passes_47 (by decide) ?_
          refine lv_iadd hx hb dX8_passes_48 ?_
          refine pt_X8_307 hC hK hP hD hS dX8_passes_49 (fun H locs hP hD hS => ?_)
          refine lv_iinc (v := (w2_2 + 1)) (lv' := [(2, .int (w2_2 + 1)), (0, .ref (ad 0)), (1, .ref (ad 2))]) hx hb dX8_passes_52 hl (k := 2) rfl rfl (by decide) rfl (fun ls hl => ?_)
          refine lv_goto (tgt := 2) hx hb dX8_passes_55 (by decide) ?_
          exact ih (u2 (u1 I 21 (upd (I 21) (Int32.toNatClampNeg (I 0 40)) (I 2 (Int32.toNatClampNeg w2_2)))) 0 40 (((u1 I 21 (upd (I 21) (Int32.toNatClampNeg (I 0 40)) (I 2 (Int32.toNatClampNeg w2_2)))) 0 40) + (1 : Int32))) J (w2_2 + 1) _ _ _ h hP hD hS (lv_sub hl [1, 2, 0] rfl)
  unfold F_X8_passes_m2 at h
  refine lv_iconst (v := 0) hx hb dX8_passes_0 (by decide) ?_
  refine lv_istore_n (lv' := [(2, .int (0 : Int32)), (0, .ref (ad 0)), (1, .ref (ad 2))]) hx hb dX8_passes_1 rfl hl (by decide) rfl (fun ls hl => ?_)
  exact loop_2 3000 I J (0 : Int32) _ _ _ h hP hD hS (lv_sub hl [1, 2, 0] rfl)
def FL_X8_passes_m4_2  : Nat → SI → SJ → Int32 → Option (SI × SJ)
  | 0, _, _, _ => none
  | n + 1, I, J, w2_2 => (if (8 : Int32) ≤ w2_2 then (some (I, J)) else (if (I 0 39) = 0 then (if gin (I 0 40) 200 = true then (if gin w2_2 8 = true then (FL_X8_passes_m4_2 n (u2 (u1 I 4 (upd (I 4) (Int32.toNatClampNeg w2_2) (I 21 (Int32.toNatClampNeg (I 0 40))))) 0 40 (((u1 I 4 (upd (I 4) (Int32.toNatClampNeg w2_2) (I 21 (Int32.toNatClampNeg (I 0 40))))) 0 40) + (1 : Int32))) J (w2_2 + 1)) else none) else none) else (if gin w2_2 8 = true then (if gin (I 0 40) 200 = true then (FL_X8_passes_m4_2 n (u2 (u1 I 21 (upd (I 21) (Int32.toNatClampNeg (I 0 40)) (I 4 (Int32.toNatClampNeg w2_2)))) 0 40 (((u1 I 21 (upd (I 21) (Int32.toNatClampNeg (I 0 40)) (I 4 (Int32.toNatClampNeg w2_2)))) 0 40) + (1 : Int32))) J (w2_2 + 1)) else none) else none)))
def F_X8_passes_m4 (I : SI) (J : SJ) : Option (SI × SJ) := (FL_X8_passes_m4_2 3000 I J (0 : Int32))
set_option maxHeartbeats 4000000 in
set_option maxRecDepth 100000 in
theorem c_X8_passes_m4 (l : Launch) (g : Gx) (ad : Nat → Nat) (I : SI) (J : SJ)   (sz : Nat) {rI : SI} {rJ : SJ} (h : F_X8_passes_m4 I J = some (rI, rJ)) : Met l yX8_passes (Cond.code yX8_passes cX8_passes 3 none :: BG) (k2_rm 0 0) (PcW [.ref (ad 0), .ref (ad 4)] g (mW ad g I J) sz) (QWv g (mW ad g I J) (mW ad g rI rJ) sz) 0 0 (va_A (mW ad g I J) sz) := by
  refine mkWv (by decide) (Nat.le_of_ble_eq_true rfl) ?_
  intro p e s m args below meth c H locs ls A Q hC hK hP hD hA hS hl hret
  have hx := hC.1
  have hb := hC.2.1
  have hts := hC.2.2.2.2
  have hown := hC.2.2.2.1
  replace hl : lv_has ls 3 [(0, .ref (ad 0)), (1, .ref (ad 4))] := hl
  have loop_2 : ∀ (n : Nat) (I : SI) (J : SJ) (w2_2 : Int32)  (H : Heap) (locs : List Loc) (ls : Array Slot), FL_X8_passes_m4_2 n I J w2_2 = some (rI, rJ) → Pg g (mW ad g I J) H → va_D A (mW ad g I J) → va_S A s.heap H locs → lv_has ls 3 [(0, .ref (ad 0)), (1, .ref (ad 4)), (2, .int w2_2)] → W p l e (k2_rm 0 0) s m args below meth c H locs 0 0 Q (F0 m 2 ls []) := by
    intro n
    induction n with
    | zero =>
      intro I J w2_2 H locs ls h
      exact no h
    | succ n ih =>
      intro I J w2_2 H locs ls h hP hD hS hl
      rw [FL_X8_passes_m4_2] at h
      refine lv_iload_n hx hb dX8_passes_2 rfl (lv_at hl 2 rfl) ?_
      refine lv_aload_n hx hb dX8_passes_3 rfl (lv_at hl 1 rfl) ?_
      refine ln_m4 hC hK hP dX8_passes_4 ?_
      refine lv_icmp_ge (tgt := 58) hx hb dX8_passes_5 (by decide) (fun c1 => ?_) (fun c1 => ?_)
      · replace h := (if_pos c1).symm.trans h
        obtain ⟨rfl, rfl⟩ := Prod.mk.inj (Option.some.inj h)
        exact hret _ _ _ _ dX8_passes_58 hP hD hS
      · replace h := (if_neg c1).symm.trans h
        refine lv_aload_n hx hb dX8_passes_8 rfl (lv_at hl 0 rfl) ?_
        refine gt_X8_303 hC hK hP dX8_passes_9 ?_
        refine lv_if_eq (tgt := 30) hx hb dX8_passes_12 (by decide) (fun c2 => ?_) (fun c2 => ?_)
        · replace h := (if_pos c2).symm.trans h
          refine lv_aload_n hx hb dX8_passes_30 rfl (lv_at hl 1 rfl) ?_
          refine lv_iload_n hx hb dX8_passes_31 rfl (lv_at hl 2 rfl) ?_
          refine lv_aload_n hx hb dX8_passes_32 rfl (lv_at hl 0 rfl) ?_
          refine gt_X8_71 hC hK hP dX8_passes_33 ?_
          refine lv_aload_n hx hb dX8_passes_36 rfl (lv_at hl 0 rfl) ?_
          refine gt_X8_307 hC hK hP dX8_passes_37 ?_
          obtain ⟨b3, h⟩ := og h
          refine al_m21 hC hK hP (gin_ok b3) dX8_passes_40 ?_
          obtain ⟨b4, h⟩ := og h
          refine as_m4 hC hK hP hD hS (gin_ok b4) dX8_passes_41 (fun H locs hP hD hS => ?_)
          refine lv_aload_n hx hb dX8_passes_42 rfl (lv_at hl 0 rfl) ?_
          refine lv_dup hx hb dX8_passes_43 rfl ?_
          refine gt_X8_307 hC hK hP dX8_passes_44 ?_
          refine lv_iconst (v := 1) hx hb dX8_passes_47 (by decide) ?_
          refine lv_iadd hx hb dX8_passes_48 ?_
          refine pt_X8_307 hC hK hP hD hS dX8_passes_49 (fun H locs hP hD hS => ?_)
          refine lv_iinc (v := (w2_2 + 1)) (lv' := [(2, .int (w2_2 + 1)), (0, .ref (ad 0)), (1, .ref (ad 4))]) hx hb dX8_passes_52 hl (k := 2) rfl rfl (by decide) rfl (fun ls hl => ?_)
          refine lv_goto (tgt := 2) hx hb dX8_passes_55 (by decide) ?_
          exact ih (u2 (u1 I 4 (upd (I 4) (Int32.toNatClampNeg w2_2) (I 21 (Int32.toNatClampNeg (I 0 40))))) 0 40 (((u1 I 4 (upd (I 4) (Int32.toNatClampNeg w2_2) (I 21 (Int32.toNatClampNeg (I 0 40))))) 0 40) + (1 : Int32))) J (w2_2 + 1) _ _ _ h hP hD hS (lv_sub hl [1, 2, 0] rfl)
        · replace h := (if_neg c2).symm.trans h
          refine lv_aload_n hx hb dX8_passes_15 rfl (lv_at hl 0 rfl) ?_
          refine gt_X8_71 hC hK hP dX8_passes_16 ?_
          refine lv_aload_n hx hb dX8_passes_19 rfl (lv_at hl 0 rfl) ?_
          refine gt_X8_307 hC hK hP dX8_passes_20 ?_
          refine lv_aload_n hx hb dX8_passes_23 rfl (lv_at hl 1 rfl) ?_
          refine lv_iload_n hx hb dX8_passes_24 rfl (lv_at hl 2 rfl) ?_
          obtain ⟨b5, h⟩ := og h
          refine al_m4 hC hK hP (gin_ok b5) dX8_passes_25 ?_
          obtain ⟨b6, h⟩ := og h
          refine as_m21 hC hK hP hD hS (gin_ok b6) dX8_passes_26 (fun H locs hP hD hS => ?_)
          refine lv_goto (tgt := 42) hx hb dX8_passes_27 (by decide) ?_
          refine lv_aload_n hx hb dX8_passes_42 rfl (lv_at hl 0 rfl) ?_
          refine lv_dup hx hb dX8_passes_43 rfl ?_
          refine gt_X8_307 hC hK hP dX8_passes_44 ?_
          refine lv_iconst (v := 1) hx hb dX8_passes_47 (by decide) ?_
          refine lv_iadd hx hb dX8_passes_48 ?_
          refine pt_X8_307 hC hK hP hD hS dX8_passes_49 (fun H locs hP hD hS => ?_)
          refine lv_iinc (v := (w2_2 + 1)) (lv' := [(2, .int (w2_2 + 1)), (0, .ref (ad 0)), (1, .ref (ad 4))]) hx hb dX8_passes_52 hl (k := 2) rfl rfl (by decide) rfl (fun ls hl => ?_)
          refine lv_goto (tgt := 2) hx hb dX8_passes_55 (by decide) ?_
          exact ih (u2 (u1 I 21 (upd (I 21) (Int32.toNatClampNeg (I 0 40)) (I 4 (Int32.toNatClampNeg w2_2)))) 0 40 (((u1 I 21 (upd (I 21) (Int32.toNatClampNeg (I 0 40)) (I 4 (Int32.toNatClampNeg w2_2)))) 0 40) + (1 : Int32))) J (w2_2 + 1) _ _ _ h hP hD hS (lv_sub hl [1, 2, 0] rfl)
  unfold F_X8_passes_m4 at h
  refine lv_iconst (v := 0) hx hb dX8_passes_0 (by decide) ?_
  refine lv_istore_n (lv' := [(2, .int (0 : Int32)), (0, .ref (ad 0)), (1, .ref (ad 4))]) hx hb dX8_passes_1 rfl hl (by decide) rfl (fun ls hl => ?_)
  exact loop_2 3000 I J (0 : Int32) _ _ _ h hP hD hS (lv_sub hl [1, 2, 0] rfl)
def FL_X8_passes_m5_2  : Nat → SI → SJ → Int32 → Option (SI × SJ)
  | 0, _, _, _ => none
  | n + 1, I, J, w2_2 => (if (8 : Int32) ≤ w2_2 then (some (I, J)) else (if (I 0 39) = 0 then (if gin (I 0 40) 200 = true then (if gin w2_2 8 = true then (FL_X8_passes_m5_2 n (u2 (u1 I 5 (upd (I 5) (Int32.toNatClampNeg w2_2) (I 21 (Int32.toNatClampNeg (I 0 40))))) 0 40 (((u1 I 5 (upd (I 5) (Int32.toNatClampNeg w2_2) (I 21 (Int32.toNatClampNeg (I 0 40))))) 0 40) + (1 : Int32))) J (w2_2 + 1)) else none) else none) else (if gin w2_2 8 = true then (if gin (I 0 40) 200 = true then (FL_X8_passes_m5_2 n (u2 (u1 I 21 (upd (I 21) (Int32.toNatClampNeg (I 0 40)) (I 5 (Int32.toNatClampNeg w2_2)))) 0 40 (((u1 I 21 (upd (I 21) (Int32.toNatClampNeg (I 0 40)) (I 5 (Int32.toNatClampNeg w2_2)))) 0 40) + (1 : Int32))) J (w2_2 + 1)) else none) else none)))
def F_X8_passes_m5 (I : SI) (J : SJ) : Option (SI × SJ) := (FL_X8_passes_m5_2 3000 I J (0 : Int32))
set_option maxHeartbeats 4000000 in
set_option maxRecDepth 100000 in
theorem c_X8_passes_m5 (l : Launch) (g : Gx) (ad : Nat → Nat) (I : SI) (J : SJ)   (sz : Nat) {rI : SI} {rJ : SJ} (h : F_X8_passes_m5 I J = some (rI, rJ)) : Met l yX8_passes (Cond.code yX8_passes cX8_passes 3 none :: BG) (k2_rm 0 0) (PcW [.ref (ad 0), .ref (ad 5)] g (mW ad g I J) sz) (QWv g (mW ad g I J) (mW ad g rI rJ) sz) 0 0 (va_A (mW ad g I J) sz) := by
  refine mkWv (by decide) (Nat.le_of_ble_eq_true rfl) ?_
  intro p e s m args below meth c H locs ls A Q hC hK hP hD hA hS hl hret
  have hx := hC.1
  have hb := hC.2.1
  have hts := hC.2.2.2.2
  have hown := hC.2.2.2.1
  replace hl : lv_has ls 3 [(0, .ref (ad 0)), (1, .ref (ad 5))] := hl
  have loop_2 : ∀ (n : Nat) (I : SI) (J : SJ) (w2_2 : Int32)  (H : Heap) (locs : List Loc) (ls : Array Slot), FL_X8_passes_m5_2 n I J w2_2 = some (rI, rJ) → Pg g (mW ad g I J) H → va_D A (mW ad g I J) → va_S A s.heap H locs → lv_has ls 3 [(0, .ref (ad 0)), (1, .ref (ad 5)), (2, .int w2_2)] → W p l e (k2_rm 0 0) s m args below meth c H locs 0 0 Q (F0 m 2 ls []) := by
    intro n
    induction n with
    | zero =>
      intro I J w2_2 H locs ls h
      exact no h
    | succ n ih =>
      intro I J w2_2 H locs ls h hP hD hS hl
      rw [FL_X8_passes_m5_2] at h
      refine lv_iload_n hx hb dX8_passes_2 rfl (lv_at hl 2 rfl) ?_
      refine lv_aload_n hx hb dX8_passes_3 rfl (lv_at hl 1 rfl) ?_
      refine ln_m5 hC hK hP dX8_passes_4 ?_
      refine lv_icmp_ge (tgt := 58) hx hb dX8_passes_5 (by decide) (fun c1 => ?_) (fun c1 => ?_)
      · replace h := (if_pos c1).symm.trans h
        obtain ⟨rfl, rfl⟩ := Prod.mk.inj (Option.some.inj h)
        exact hret _ _ _ _ dX8_passes_58 hP hD hS
      · replace h := (if_neg c1).symm.trans h
        refine lv_aload_n hx hb dX8_passes_8 rfl (lv_at hl 0 rfl) ?_
        refine gt_X8_303 hC hK hP dX8_passes_9 ?_
        refine lv_if_eq (tgt := 30) hx hb dX8_passes_12 (by decide) (fun c2 => ?_) (fun c2 => ?_)
        · replace h := (if_pos c2).symm.trans h
          refine lv_aload_n hx hb dX8_passes_30 rfl (lv_at hl 1 rfl) ?_
          refine lv_iload_n hx hb dX8_passes_31 rfl (lv_at hl 2 rfl) ?_
          refine lv_aload_n hx hb dX8_passes_32 rfl (lv_at hl 0 rfl) ?_
          refine gt_X8_71 hC hK hP dX8_passes_33 ?_
          refine lv_aload_n hx hb dX8_passes_36 rfl (lv_at hl 0 rfl) ?_
          refine gt_X8_307 hC hK hP dX8_passes_37 ?_
          obtain ⟨b3, h⟩ := og h
          refine al_m21 hC hK hP (gin_ok b3) dX8_passes_40 ?_
          obtain ⟨b4, h⟩ := og h
          refine as_m5 hC hK hP hD hS (gin_ok b4) dX8_passes_41 (fun H locs hP hD hS => ?_)
          refine lv_aload_n hx hb dX8_passes_42 rfl (lv_at hl 0 rfl) ?_
          refine lv_dup hx hb dX8_passes_43 rfl ?_
          refine gt_X8_307 hC hK hP dX8_passes_44 ?_
          refine lv_iconst (v := 1) hx hb dX8_passes_47 (by decide) ?_
          refine lv_iadd hx hb dX8_passes_48 ?_
          refine pt_X8_307 hC hK hP hD hS dX8_passes_49 (fun H locs hP hD hS => ?_)
          refine lv_iinc (v := (w2_2 + 1)) (lv' := [(2, .int (w2_2 + 1)), (0, .ref (ad 0)), (1, .ref (ad 5))]) hx hb dX8_passes_52 hl (k := 2) rfl rfl (by decide) rfl (fun ls hl => ?_)
          refine lv_goto (tgt := 2) hx hb dX8_passes_55 (by decide) ?_
          exact ih (u2 (u1 I 5 (upd (I 5) (Int32.toNatClampNeg w2_2) (I 21 (Int32.toNatClampNeg (I 0 40))))) 0 40 (((u1 I 5 (upd (I 5) (Int32.toNatClampNeg w2_2) (I 21 (Int32.toNatClampNeg (I 0 40))))) 0 40) + (1 : Int32))) J (w2_2 + 1) _ _ _ h hP hD hS (lv_sub hl [1, 2, 0] rfl)
        · replace h := (if_neg c2).symm.trans h
          refine lv_aload_n hx hb dX8_passes_15 rfl (lv_at hl 0 rfl) ?_
          refine gt_X8_71 hC hK hP dX8_passes_16 ?_
          refine lv_aload_n hx hb dX8_passes_19 rfl (lv_at hl 0 rfl) ?_
          refine gt_X8_307 hC hK hP dX8_passes_20 ?_
          refine lv_aload_n hx hb dX8_passes_23 rfl (lv_at hl 1 rfl) ?_
          refine lv_iload_n hx hb dX8_passes_24 rfl (lv_at hl 2 rfl) ?_
          obtain ⟨b5, h⟩ := og h
          refine al_m5 hC hK hP (gin_ok b5) dX8_passes_25 ?_
          obtain ⟨b6, h⟩ := og h
          refine as_m21 hC hK hP hD hS (gin_ok b6) dX8_passes_26 (fun H locs hP hD hS => ?_)
          refine lv_goto (tgt := 42) hx hb dX8_passes_27 (by decide) ?_
          refine lv_aload_n hx hb dX8_passes_42 rfl (lv_at hl 0 rfl) ?_
          refine lv_dup hx hb dX8_passes_43 rfl ?_
          refine gt_X8_307 hC hK hP dX8_passes_44 ?_
          refine lv_iconst (v := 1) hx hb dX8_passes_47 (by decide) ?_
          refine lv_iadd hx hb dX8_passes_48 ?_
          refine pt_X8_307 hC hK hP hD hS dX8_passes_49 (fun H locs hP hD hS => ?_)
          refine lv_iinc (v := (w2_2 + 1)) (lv' := [(2, .int (w2_2 + 1)), (0, .ref (ad 0)), (1, .ref (ad 5))]) hx hb dX8_passes_52 hl (k := 2) rfl rfl (by decide) rfl (fun ls hl => ?_)
          refine lv_goto (tgt := 2) hx hb dX8_passes_55 (by decide) ?_
          exact ih (u2 (u1 I 21 (upd (I 21) (Int32.toNatClampNeg (I 0 40)) (I 5 (Int32.toNatClampNeg w2_2)))) 0 40 (((u1 I 21 (upd (I 21) (Int32.toNatClampNeg (I 0 40)) (I 5 (Int32.toNatClampNeg w2_2)))) 0 40) + (1 : Int32))) J (w2_2 + 1) _ _ _ h hP hD hS (lv_sub hl [1, 2, 0] rfl)
  unfold F_X8_passes_m5 at h
  refine lv_iconst (v := 0) hx hb dX8_passes_0 (by decide) ?_
  refine lv_istore_n (lv' := [(2, .int (0 : Int32)), (0, .ref (ad 0)), (1, .ref (ad 5))]) hx hb dX8_passes_1 rfl hl (by decide) rfl (fun ls hl => ?_)
  exact loop_2 3000 I J (0 : Int32) _ _ _ h hP hD hS (lv_sub hl [1, 2, 0] rfl)
def FL_X8_passes_m6_2  : Nat → SI → SJ → Int32 → Option (SI × SJ)
  | 0, _, _, _ => none
  | n + 1, I, J, w2_2 => (if (8 : Int32) ≤ w2_2 then (some (I, J)) else (if (I 0 39) = 0 then (if gin (I 0 40) 200 = true then (if gin w2_2 8 = true then (FL_X8_passes_m6_2 n (u2 (u1 I 6 (upd (I 6) (Int32.toNatClampNeg w2_2) (I 21 (Int32.toNatClampNeg (I 0 40))))) 0 40 (((u1 I 6 (upd (I 6) (Int32.toNatClampNeg w2_2) (I 21 (Int32.toNatClampNeg (I 0 40))))) 0 40) + (1 : Int32))) J (w2_2 + 1)) else none) else none) else (if gin w2_2 8 = true then (if gin (I 0 40) 200 = true then (FL_X8_passes_m6_2 n (u2 (u1 I 21 (upd (I 21) (Int32.toNatClampNeg (I 0 40)) (I 6 (Int32.toNatClampNeg w2_2)))) 0 40 (((u1 I 21 (upd (I 21) (Int32.toNatClampNeg (I 0 40)) (I 6 (Int32.toNatClampNeg w2_2)))) 0 40) + (1 : Int32))) J (w2_2 + 1)) else none) else none)))
def F_X8_passes_m6 (I : SI) (J : SJ) : Option (SI × SJ) := (FL_X8_passes_m6_2 3000 I J (0 : Int32))
set_option maxHeartbeats 4000000 in
set_option maxRecDepth 100000 in
theorem c_X8_passes_m6 (l : Launch) (g : Gx) (ad : Nat → Nat) (I : SI) (J : SJ)   (sz : Nat) {rI : SI} {rJ : SJ} (h : F_X8_passes_m6 I J = some (rI, rJ)) : Met l yX8_passes (Cond.code yX8_passes cX8_passes 3 none :: BG) (k2_rm 0 0) (PcW [.ref (ad 0), .ref (ad 6)] g (mW ad g I J) sz) (QWv g (mW ad g I J) (mW ad g rI rJ) sz) 0 0 (va_A (mW ad g I J) sz) := by
  refine mkWv (by decide) (Nat.le_of_ble_eq_true rfl) ?_
  intro p e s m args below meth c H locs ls A Q hC hK hP hD hA hS hl hret
  have hx := hC.1
  have hb := hC.2.1
  have hts := hC.2.2.2.2
  have hown := hC.2.2.2.1
  replace hl : lv_has ls 3 [(0, .ref (ad 0)), (1, .ref (ad 6))] := hl
  have loop_2 : ∀ (n : Nat) (I : SI) (J : SJ) (w2_2 : Int32)  (H : Heap) (locs : List Loc) (ls : Array Slot), FL_X8_passes_m6_2 n I J w2_2 = some (rI, rJ) → Pg g (mW ad g I J) H → va_D A (mW ad g I J) → va_S A s.heap H locs → lv_has ls 3 [(0, .ref (ad 0)), (1, .ref (ad 6)), (2, .int w2_2)] → W p l e (k2_rm 0 0) s m args below meth c H locs 0 0 Q (F0 m 2 ls []) := by
    intro n
    induction n with
    | zero =>
      intro I J w2_2 H locs ls h
      exact no h
    | succ n ih =>
      intro I J w2_2 H locs ls h hP hD hS hl
      rw [FL_X8_passes_m6_2] at h
      refine lv_iload_n hx hb dX8_passes_2 rfl (lv_at hl 2 rfl) ?_
      refine lv_aload_n hx hb dX8_passes_3 rfl (lv_at hl 1 rfl) ?_
      refine ln_m6 hC hK hP dX8_passes_4 ?_
      refine lv_icmp_ge (tgt := 58) hx hb dX8_passes_5 (by decide) (fun c1 => ?_) (fun c1 => ?_)
      · replace h := (if_pos c1).symm.trans h
        obtain ⟨rfl, rfl⟩ := Prod.mk.inj (Option.some.inj h)
        exact hret _ _ _ _ dX8_passes_58 hP hD hS
      · replace h := (if_neg c1).symm.trans h
        refine lv_aload_n hx hb dX8_passes_8 rfl (lv_at hl 0 rfl) ?_
        refine gt_X8_303 hC hK hP dX8_passes_9 ?_
        refine lv_if_eq (tgt := 30) hx hb dX8_passes_12 (by decide) (fun c2 => ?_) (fun c2 => ?_)
        · replace h := (if_pos c2).symm.trans h
          refine lv_aload_n hx hb dX8_passes_30 rfl (lv_at hl 1 rfl) ?_
          refine lv_iload_n hx hb dX8_passes_31 rfl (lv_at hl 2 rfl) ?_
          refine lv_aload_n hx hb dX8_passes_32 rfl (lv_at hl 0 rfl) ?_
          refine gt_X8_71 hC hK hP dX8_passes_33 ?_
          refine lv_aload_n hx hb dX8_passes_36 rfl (lv_at hl 0 rfl) ?_
          refine gt_X8_307 hC hK hP dX8_passes_37 ?_
          obtain ⟨b3, h⟩ := og h
          refine al_m21 hC hK hP (gin_ok b3) dX8_passes_40 ?_
          obtain ⟨b4, h⟩ := og h
          refine as_m6 hC hK hP hD hS (gin_ok b4) dX8_passes_41 (fun H locs hP hD hS => ?_)
          refine lv_aload_n hx hb dX8_passes_42 rfl (lv_at hl 0 rfl) ?_
          refine lv_dup hx hb dX8_passes_43 rfl ?_
          refine gt_X8_307 hC hK hP dX8_passes_44 ?_
          refine lv_iconst (v := 1) hx hb dX8_passes_47 (by decide) ?_
          refine lv_iadd hx hb dX8_passes_48 ?_
          refine pt_X8_307 hC hK hP hD hS dX8_passes_49 (fun H locs hP hD hS => ?_)
          refine lv_iinc (v := (w2_2 + 1)) (lv' := [(2, .int (w2_2 + 1)), (0, .ref (ad 0)), (1, .ref (ad 6))]) hx hb dX8_passes_52 hl (k := 2) rfl rfl (by decide) rfl (fun ls hl => ?_)
          refine lv_goto (tgt := 2) hx hb dX8_passes_55 (by decide) ?_
          exact ih (u2 (u1 I 6 (upd (I 6) (Int32.toNatClampNeg w2_2) (I 21 (Int32.toNatClampNeg (I 0 40))))) 0 40 (((u1 I 6 (upd (I 6) (Int32.toNatClampNeg w2_2) (I 21 (Int32.toNatClampNeg (I 0 40))))) 0 40) + (1 : Int32))) J (w2_2 + 1) _ _ _ h hP hD hS (lv_sub hl [1, 2, 0] rfl)
        · replace h := (if_neg c2).symm.trans h
          refine lv_aload_n hx hb dX8_passes_15 rfl (lv_at hl 0 rfl) ?_
          refine gt_X8_71 hC hK hP dX8_passes_16 ?_
          refine lv_aload_n hx hb dX8_passes_19 rfl (lv_at hl 0 rfl) ?_
          refine gt_X8_307 hC hK hP dX8_passes_20 ?_
          refine lv_aload_n hx hb dX8_passes_23 rfl (lv_at hl 1 rfl) ?_
          refine lv_iload_n hx hb dX8_passes_24 rfl (lv_at hl 2 rfl) ?_
          obtain ⟨b5, h⟩ := og h
          refine al_m6 hC hK hP (gin_ok b5) dX8_passes_25 ?_
          obtain ⟨b6, h⟩ := og h
          refine as_m21 hC hK hP hD hS (gin_ok b6) dX8_passes_26 (fun H locs hP hD hS => ?_)
          refine lv_goto (tgt := 42) hx hb dX8_passes_27 (by decide) ?_
          refine lv_aload_n hx hb dX8_passes_42 rfl (lv_at hl 0 rfl) ?_
          refine lv_dup hx hb dX8_passes_43 rfl ?_
          refine gt_X8_307 hC hK hP dX8_passes_44 ?_
          refine lv_iconst (v := 1) hx hb dX8_passes_47 (by decide) ?_
          refine lv_iadd hx hb dX8_passes_48 ?_
          refine pt_X8_307 hC hK hP hD hS dX8_passes_49 (fun H locs hP hD hS => ?_)
          refine lv_iinc (v := (w2_2 + 1)) (lv' := [(2, .int (w2_2 + 1)), (0, .ref (ad 0)), (1, .ref (ad 6))]) hx hb dX8_passes_52 hl (k := 2) rfl rfl (by decide) rfl (fun ls hl => ?_)
          refine lv_goto (tgt := 2) hx hb dX8_passes_55 (by decide) ?_
          exact ih (u2 (u1 I 21 (upd (I 21) (Int32.toNatClampNeg (I 0 40)) (I 6 (Int32.toNatClampNeg w2_2)))) 0 40 (((u1 I 21 (upd (I 21) (Int32.toNatClampNeg (I 0 40)) (I 6 (Int32.toNatClampNeg w2_2)))) 0 40) + (1 : Int32))) J (w2_2 + 1) _ _ _ h hP hD hS (lv_sub hl [1, 2, 0] rfl)
  unfold F_X8_passes_m6 at h
  refine lv_iconst (v := 0) hx hb dX8_passes_0 (by decide) ?_
  refine lv_istore_n (lv' := [(2, .int (0 : Int32)), (0, .ref (ad 0)), (1, .ref (ad 6))]) hx hb dX8_passes_1 rfl hl (by decide) rfl (fun ls hl => ?_)
  exact loop_2 3000 I J (0 : Int32) _ _ _ h hP hD hS (lv_sub hl [1, 2, 0] rfl)
def FL_X8_passes_m7_2  : Nat → SI → SJ → Int32 → Option (SI × SJ)
  | 0, _, _, _ => none
  | n + 1, I, J, w2_2 => (if (8 : Int32) ≤ w2_2 then (some (I, J)) else (if (I 0 39) = 0 then (if gin (I 0 40) 200 = true then (if gin w2_2 8 = true then (FL_X8_passes_m7_2 n (u2 (u1 I 7 (upd (I 7) (Int32.toNatClampNeg w2_2) (I 21 (Int32.toNatClampNeg (I 0 40))))) 0 40 (((u1 I 7 (upd (I 7) (Int32.toNatClampNeg w2_2) (I 21 (Int32.toNatClampNeg (I 0 40))))) 0 40) + (1 : Int32))) J (w2_2 + 1)) else none) else none) else (if gin w2_2 8 = true then (if gin (I 0 40) 200 = true then (FL_X8_passes_m7_2 n (u2 (u1 I 21 (upd (I 21) (Int32.toNatClampNeg (I 0 40)) (I 7 (Int32.toNatClampNeg w2_2)))) 0 40 (((u1 I 21 (upd (I 21) (Int32.toNatClampNeg (I 0 40)) (I 7 (Int32.toNatClampNeg w2_2)))) 0 40) + (1 : Int32))) J (w2_2 + 1)) else none) else none)))
def F_X8_passes_m7 (I : SI) (J : SJ) : Option (SI × SJ) := (FL_X8_passes_m7_2 3000 I J (0 : Int32))
set_option maxHeartbeats 4000000 in
set_option maxRecDepth 100000 in
theorem c_X8_passes_m7 (l : Launch) (g : Gx) (ad : Nat → Nat) (I : SI) (J : SJ)   (sz : Nat) {rI : SI} {rJ : SJ} (h : F_X8_passes_m7 I J = some (rI, rJ)) : Met l yX8_passes (Cond.code yX8_passes cX8_passes 3 none :: BG) (k2_rm 0 0) (PcW [.ref (ad 0), .ref (ad 7)] g (mW ad g I J) sz) (QWv g (mW ad g I J) (mW ad g rI rJ) sz) 0 0 (va_A (mW ad g I J) sz) := by
  refine mkWv (by decide) (Nat.le_of_ble_eq_true rfl) ?_
  intro p e s m args below meth c H locs ls A Q hC hK hP hD hA hS hl hret
  have hx := hC.1
  have hb := hC.2.1
  have hts := hC.2.2.2.2
  have hown := hC.2.2.2.1
  replace hl : lv_has ls 3 [(0, .ref (ad 0)), (1, .ref (ad 7))] := hl
  have loop_2 : ∀ (n : Nat) (I : SI) (J : SJ) (w2_2 : Int32)  (H : Heap) (locs : List Loc) (ls : Array Slot), FL_X8_passes_m7_2 n I J w2_2 = some (rI, rJ) → Pg g (mW ad g I J) H → va_D A (mW ad g I J) → va_S A s.heap H locs → lv_has ls 3 [(0, .ref (ad 0)), (1, .ref (ad 7)), (2, .int w2_2)] → W p l e (k2_rm 0 0) s m args below meth c H locs 0 0 Q (F0 m 2 ls []) := by
    intro n
    induction n with
    | zero =>
      intro I J w2_2 H locs ls h
      exact no h
    | succ n ih =>
      intro I J w2_2 H locs ls h hP hD hS hl
      rw [FL_X8_passes_m7_2] at h
      refine lv_iload_n hx hb dX8_passes_2 rfl (lv_at hl 2 rfl) ?_
      refine lv_aload_n hx hb dX8_passes_3 rfl (lv_at hl 1 rfl) ?_
      refine ln_m7 hC hK hP dX8_passes_4 ?_
      refine lv_icmp_ge (tgt := 58) hx hb dX8_passes_5 (by decide) (fun c1 => ?_) (fun c1 => ?_)
      · replace h := (if_pos c1).symm.trans h
        obtain ⟨rfl, rfl⟩ := Prod.mk.inj (Option.some.inj h)
        exact hret _ _ _ _ dX8_passes_58 hP hD hS
      · replace h := (if_neg c1).symm.trans h
        refine lv_aload_n hx hb dX8_passes_8 rfl (lv_at hl 0 rfl) ?_
        refine gt_X8_303 hC hK hP dX8_passes_9 ?_
        refine lv_if_eq (tgt := 30) hx hb dX8_passes_12 (by decide) (fun c2 => ?_) (fun c2 => ?_)
        · replace h := (if_pos c2).symm.trans h
          refine lv_aload_n hx hb dX8_passes_30 rfl (lv_at hl 1 rfl) ?_
          refine lv_iload_n hx hb dX8_passes_31 rfl (lv_at hl 2 rfl) ?_
          refine lv_aload_n hx hb dX8_passes_32 rfl (lv_at hl 0 rfl) ?_
          refine gt_X8_71 hC hK hP dX8_passes_33 ?_
          refine lv_aload_n hx hb dX8_passes_36 rfl (lv_at hl 0 rfl) ?_
          refine gt_X8_307 hC hK hP dX8_passes_37 ?_
          obtain ⟨b3, h⟩ := og h
          refine al_m21 hC hK hP (gin_ok b3) dX8_passes_40 ?_
          obtain ⟨b4, h⟩ := og h
          refine as_m7 hC hK hP hD hS (gin_ok b4) dX8_passes_41 (fun H locs hP hD hS => ?_)
          refine lv_aload_n hx hb dX8_passes_42 rfl (lv_at hl 0 rfl) ?_
          refine lv_dup hx hb dX8_passes_43 rfl ?_
          refine gt_X8_307 hC hK hP dX8_passes_44 ?_
          refine lv_iconst (v := 1) hx hb dX8_passes_47 (by decide) ?_
          refine lv_iadd hx hb dX8_passes_48 ?_
          refine pt_X8_307 hC hK hP hD hS dX8_passes_49 (fun H locs hP hD hS => ?_)
          refine lv_iinc (v := (w2_2 + 1)) (lv' := [(2, .int (w2_2 + 1)), (0, .ref (ad 0)), (1, .ref (ad 7))]) hx hb dX8_passes_52 hl (k := 2) rfl rfl (by decide) rfl (fun ls hl => ?_)
          refine lv_goto (tgt := 2) hx hb dX8_passes_55 (by decide) ?_
          exact ih (u2 (u1 I 7 (upd (I 7) (Int32.toNatClampNeg w2_2) (I 21 (Int32.toNatClampNeg (I 0 40))))) 0 40 (((u1 I 7 (upd (I 7) (Int32.toNatClampNeg w2_2) (I 21 (Int32.toNatClampNeg (I 0 40))))) 0 40) + (1 : Int32))) J (w2_2 + 1) _ _ _ h hP hD hS (lv_sub hl [1, 2, 0] rfl)
        · replace h := (if_neg c2).symm.trans h
          refine lv_aload_n hx hb dX8_passes_15 rfl (lv_at hl 0 rfl) ?_
          refine gt_X8_71 hC hK hP dX8_passes_16 ?_
          refine lv_aload_n hx hb dX8_passes_19 rfl (lv_at hl 0 rfl) ?_
          refine gt_X8_307 hC hK hP dX8_passes_20 ?_
          refine lv_aload_n hx hb dX8_passes_23 rfl (lv_at hl 1 rfl) ?_
          refine lv_iload_n hx hb dX8_passes_24 rfl (lv_at hl 2 rfl) ?_
          obtain ⟨b5, h⟩ := og h
          refine al_m7 hC hK hP (gin_ok b5) dX8_passes_25 ?_
          obtain ⟨b6, h⟩ := og h
          refine as_m21 hC hK hP hD hS (gin_ok b6) dX8_passes_26 (fun H locs hP hD hS => ?_)
          refine lv_goto (tgt := 42) hx hb dX8_passes_27 (by decide) ?_
          refine lv_aload_n hx hb dX8_passes_42 rfl (lv_at hl 0 rfl) ?_
          refine lv_dup hx hb dX8_passes_43 rfl ?_
          refine gt_X8_307 hC hK hP dX8_passes_44 ?_
          refine lv_iconst (v := 1) hx hb dX8_passes_47 (by decide) ?_
          refine lv_iadd hx hb dX8_passes_48 ?_
          refine pt_X8_307 hC hK hP hD hS dX8_passes_49 (fun H locs hP hD hS => ?_)
          refine lv_iinc (v := (w2_2 + 1)) (lv' := [(2, .int (w2_2 + 1)), (0, .ref (ad 0)), (1, .ref (ad 7))]) hx hb dX8_passes_52 hl (k := 2) rfl rfl (by decide) rfl (fun ls hl => ?_)
          refine lv_goto (tgt := 2) hx hb dX8_passes_55 (by decide) ?_
          exact ih (u2 (u1 I 21 (upd (I 21) (Int32.toNatClampNeg (I 0 40)) (I 7 (Int32.toNatClampNeg w2_2)))) 0 40 (((u1 I 21 (upd (I 21) (Int32.toNatClampNeg (I 0 40)) (I 7 (Int32.toNatClampNeg w2_2)))) 0 40) + (1 : Int32))) J (w2_2 + 1) _ _ _ h hP hD hS (lv_sub hl [1, 2, 0] rfl)
  unfold F_X8_passes_m7 at h
  refine lv_iconst (v := 0) hx hb dX8_passes_0 (by decide) ?_
  refine lv_istore_n (lv' := [(2, .int (0 : Int32)), (0, .ref (ad 0)), (1, .ref (ad 7))]) hx hb dX8_passes_1 rfl hl (by decide) rfl (fun ls hl => ?_)
  exact loop_2 3000 I J (0 : Int32) _ _ _ h hP hD hS (lv_sub hl [1, 2, 0] rfl)
def FL_X8_passes_m13_2  : Nat → SI → SJ → Int32 → Option (SI × SJ)
  | 0, _, _, _ => none
  | n + 1, I, J, w2_2 => (if (8 : Int32) ≤ w2_2 then (some (I, J)) else (if (I 0 39) = 0 then (if gin (I 0 40) 200 = true then (if gin w2_2 8 = true then (FL_X8_passes_m13_2 n (u2 (u1 I 13 (upd (I 13) (Int32.toNatClampNeg w2_2) (I 21 (Int32.toNatClampNeg (I 0 40))))) 0 40 (((u1 I 13 (upd (I 13) (Int32.toNatClampNeg w2_2) (I 21 (Int32.toNatClampNeg (I 0 40))))) 0 40) + (1 : Int32))) J (w2_2 + 1)) else none) else none) else (if gin w2_2 8 = true then (if gin (I 0 40) 200 = true then (FL_X8_passes_m13_2 n (u2 (u1 I 21 (upd (I 21) (Int32.toNatClampNeg (I 0 40)) (I 13 (Int32.toNatClampNeg w2_2)))) 0 40 (((u1 I 21 (upd (I 21) (Int32.toNatClampNeg (I 0 40)) (I 13 (Int32.toNatClampNeg w2_2)))) 0 40) + (1 : Int32))) J (w2_2 + 1)) else none) else none)))
def F_X8_passes_m13 (I : SI) (J : SJ) : Option (SI × SJ) := (FL_X8_passes_m13_2 3000 I J (0 : Int32))
set_option maxHeartbeats 4000000 in
set_option maxRecDepth 100000 in
theorem c_X8_passes_m13 (l : Launch) (g : Gx) (ad : Nat → Nat) (I : SI) (J : SJ)   (sz : Nat) {rI : SI} {rJ : SJ} (h : F_X8_passes_m13 I J = some (rI, rJ)) : Met l yX8_passes (Cond.code yX8_passes cX8_passes 3 none :: BG) (k2_rm 0 0) (PcW [.ref (ad 0), .ref (ad 13)] g (mW ad g I J) sz) (QWv g (mW ad g I J) (mW ad g rI rJ) sz) 0 0 (va_A (mW ad g I J) sz) := by
  refine mkWv (by decide) (Nat.le_of_ble_eq_true rfl) ?_
  intro p e s m args below meth c H locs ls A Q hC hK hP hD hA hS hl hret
  have hx := hC.1
  have hb := hC.2.1
  have hts := hC.2.2.2.2
  have hown := hC.2.2.2.1
  replace hl : lv_has ls 3 [(0, .ref (ad 0)), (1, .ref (ad 13))] := hl
  have loop_2 : ∀ (n : Nat) (I : SI) (J : SJ) (w2_2 : Int32)  (H : Heap) (locs : List Loc) (ls : Array Slot), FL_X8_passes_m13_2 n I J w2_2 = some (rI, rJ) → Pg g (mW ad g I J) H → va_D A (mW ad g I J) → va_S A s.heap H locs → lv_has ls 3 [(0, .ref (ad 0)), (1, .ref (ad 13)), (2, .int w2_2)] → W p l e (k2_rm 0 0) s m args below meth c H locs 0 0 Q (F0 m 2 ls []) := by
    intro n
    induction n with
    | zero =>
      intro I J w2_2 H locs ls h
      exact no h
    | succ n ih =>
      intro I J w2_2 H locs ls h hP hD hS hl
      rw [FL_X8_passes_m13_2] at h
      refine lv_iload_n hx hb dX8_passes_2 rfl (lv_at hl 2 rfl) ?_
      refine lv_aload_n hx hb dX8_passes_3 rfl (lv_at hl 1 rfl) ?_
      refine ln_m13 hC hK hP dX8_passes_4 ?_
      refine lv_icmp_ge (tgt := 58) hx hb dX8_passes_5 (by decide) (fun c1 => ?_) (fun c1 => ?_)
      · replace h := (if_pos c1).symm.trans h
        obtain ⟨rfl, rfl⟩ := Prod.mk.inj (Option.some.inj h)
        exact hret _ _ _ _ dX8_passes_58 hP hD hS
      · replace h := (if_neg c1).symm.trans h
        refine lv_aload_n hx hb dX8_passes_8 rfl (lv_at hl 0 rfl) ?_
        refine gt_X8_303 hC hK hP dX8_passes_9 ?_
        refine lv_if_eq (tgt := 30) hx hb dX8_passes_12 (by decide) (fun c2 => ?_) (fun c2 => ?_)
        · replace h := (if_pos c2).symm.trans h
          refine lv_aload_n hx hb dX8_passes_30 rfl (lv_at hl 1 rfl) ?_
          refine lv_iload_n hx hb dX8_passes_31 rfl (lv_at hl 2 rfl) ?_
          refine lv_aload_n hx hb dX8_passes_32 rfl (lv_at hl 0 rfl) ?_
          refine gt_X8_71 hC hK hP dX8_passes_33 ?_
          refine lv_aload_n hx hb dX8_passes_36 rfl (lv_at hl 0 rfl) ?_
          refine gt_X8_307 hC hK hP dX8_passes_37 ?_
          obtain ⟨b3, h⟩ := og h
          refine al_m21 hC hK hP (gin_ok b3) dX8_passes_40 ?_
          obtain ⟨b4, h⟩ := og h
          refine as_m13 hC hK hP hD hS (gin_ok b4) dX8_passes_41 (fun H locs hP hD hS => ?_)
          refine lv_aload_n hx hb dX8_passes_42 rfl (lv_at hl 0 rfl) ?_
          refine lv_dup hx hb dX8_passes_43 rfl ?_
          refine gt_X8_307 hC hK hP dX8_passes_44 ?_
          refine lv_iconst (v := 1) hx hb dX8_passes_47 (by decide) ?_
          refine lv_iadd hx hb dX8_passes_48 ?_
          refine pt_X8_307 hC hK hP hD hS dX8_passes_49 (fun H locs hP hD hS => ?_)
          refine lv_iinc (v := (w2_2 + 1)) (lv' := [(2, .int (w2_2 + 1)), (0, .ref (ad 0)), (1, .ref (ad 13))]) hx hb dX8_passes_52 hl (k := 2) rfl rfl (by decide) rfl (fun ls hl => ?_)
          refine lv_goto (tgt := 2) hx hb dX8_passes_55 (by decide) ?_
          exact ih (u2 (u1 I 13 (upd (I 13) (Int32.toNatClampNeg w2_2) (I 21 (Int32.toNatClampNeg (I 0 40))))) 0 40 (((u1 I 13 (upd (I 13) (Int32.toNatClampNeg w2_2) (I 21 (Int32.toNatClampNeg (I 0 40))))) 0 40) + (1 : Int32))) J (w2_2 + 1) _ _ _ h hP hD hS (lv_sub hl [1, 2, 0] rfl)
        · replace h := (if_neg c2).symm.trans h
          refine lv_aload_n hx hb dX8_passes_15 rfl (lv_at hl 0 rfl) ?_
          refine gt_X8_71 hC hK hP dX8_passes_16 ?_
          refine lv_aload_n hx hb dX8_passes_19 rfl (lv_at hl 0 rfl) ?_
          refine gt_X8_307 hC hK hP dX8_passes_20 ?_
          refine lv_aload_n hx hb dX8_passes_23 rfl (lv_at hl 1 rfl) ?_
          refine lv_iload_n hx hb dX8_passes_24 rfl (lv_at hl 2 rfl) ?_
          obtain ⟨b5, h⟩ := og h
          refine al_m13 hC hK hP (gin_ok b5) dX8_passes_25 ?_
          obtain ⟨b6, h⟩ := og h
          refine as_m21 hC hK hP hD hS (gin_ok b6) dX8_passes_26 (fun H locs hP hD hS => ?_)
          refine lv_goto (tgt := 42) hx hb dX8_passes_27 (by decide) ?_
          refine lv_aload_n hx hb dX8_passes_42 rfl (lv_at hl 0 rfl) ?_
          refine lv_dup hx hb dX8_passes_43 rfl ?_
          refine gt_X8_307 hC hK hP dX8_passes_44 ?_
          refine lv_iconst (v := 1) hx hb dX8_passes_47 (by decide) ?_
          refine lv_iadd hx hb dX8_passes_48 ?_
          refine pt_X8_307 hC hK hP hD hS dX8_passes_49 (fun H locs hP hD hS => ?_)
          refine lv_iinc (v := (w2_2 + 1)) (lv' := [(2, .int (w2_2 + 1)), (0, .ref (ad 0)), (1, .ref (ad 13))]) hx hb dX8_passes_52 hl (k := 2) rfl rfl (by decide) rfl (fun ls hl => ?_)
          refine lv_goto (tgt := 2) hx hb dX8_passes_55 (by decide) ?_
          exact ih (u2 (u1 I 21 (upd (I 21) (Int32.toNatClampNeg (I 0 40)) (I 13 (Int32.toNatClampNeg w2_2)))) 0 40 (((u1 I 21 (upd (I 21) (Int32.toNatClampNeg (I 0 40)) (I 13 (Int32.toNatClampNeg w2_2)))) 0 40) + (1 : Int32))) J (w2_2 + 1) _ _ _ h hP hD hS (lv_sub hl [1, 2, 0] rfl)
  unfold F_X8_passes_m13 at h
  refine lv_iconst (v := 0) hx hb dX8_passes_0 (by decide) ?_
  refine lv_istore_n (lv' := [(2, .int (0 : Int32)), (0, .ref (ad 0)), (1, .ref (ad 13))]) hx hb dX8_passes_1 rfl hl (by decide) rfl (fun ls hl => ?_)
  exact loop_2 3000 I J (0 : Int32) _ _ _ h hP hD hS (lv_sub hl [1, 2, 0] rfl)
def FL_X8_passes_m14_2  : Nat → SI → SJ → Int32 → Option (SI × SJ)
  | 0, _, _, _ => none
  | n + 1, I, J, w2_2 => (if (8 : Int32) ≤ w2_2 then (some (I, J)) else (if (I 0 39) = 0 then (if gin (I 0 40) 200 = true then (if gin w2_2 8 = true then (FL_X8_passes_m14_2 n (u2 (u1 I 14 (upd (I 14) (Int32.toNatClampNeg w2_2) (I 21 (Int32.toNatClampNeg (I 0 40))))) 0 40 (((u1 I 14 (upd (I 14) (Int32.toNatClampNeg w2_2) (I 21 (Int32.toNatClampNeg (I 0 40))))) 0 40) + (1 : Int32))) J (w2_2 + 1)) else none) else none) else (if gin w2_2 8 = true then (if gin (I 0 40) 200 = true then (FL_X8_passes_m14_2 n (u2 (u1 I 21 (upd (I 21) (Int32.toNatClampNeg (I 0 40)) (I 14 (Int32.toNatClampNeg w2_2)))) 0 40 (((u1 I 21 (upd (I 21) (Int32.toNatClampNeg (I 0 40)) (I 14 (Int32.toNatClampNeg w2_2)))) 0 40) + (1 : Int32))) J (w2_2 + 1)) else none) else none)))
def F_X8_passes_m14 (I : SI) (J : SJ) : Option (SI × SJ) := (FL_X8_passes_m14_2 3000 I J (0 : Int32))
set_option maxHeartbeats 4000000 in
set_option maxRecDepth 100000 in
theorem c_X8_passes_m14 (l : Launch) (g : Gx) (ad : Nat → Nat) (I : SI) (J : SJ)   (sz : Nat) {rI : SI} {rJ : SJ} (h : F_X8_passes_m14 I J = some (rI, rJ)) : Met l yX8_passes (Cond.code yX8_passes cX8_passes 3 none :: BG) (k2_rm 0 0) (PcW [.ref (ad 0), .ref (ad 14)] g (mW ad g I J) sz) (QWv g (mW ad g I J) (mW ad g rI rJ) sz) 0 0 (va_A (mW ad g I J) sz) := by
  refine mkWv (by decide) (Nat.le_of_ble_eq_true rfl) ?_
  intro p e s m args below meth c H locs ls A Q hC hK hP hD hA hS hl hret
  have hx := hC.1
  have hb := hC.2.1
  have hts := hC.2.2.2.2
  have hown := hC.2.2.2.1
  replace hl : lv_has ls 3 [(0, .ref (ad 0)), (1, .ref (ad 14))] := hl
  have loop_2 : ∀ (n : Nat) (I : SI) (J : SJ) (w2_2 : Int32)  (H : Heap) (locs : List Loc) (ls : Array Slot), FL_X8_passes_m14_2 n I J w2_2 = some (rI, rJ) → Pg g (mW ad g I J) H → va_D A (mW ad g I J) → va_S A s.heap H locs → lv_has ls 3 [(0, .ref (ad 0)), (1, .ref (ad 14)), (2, .int w2_2)] → W p l e (k2_rm 0 0) s m args below meth c H locs 0 0 Q (F0 m 2 ls []) := by
    intro n
    induction n with
    | zero =>
      intro I J w2_2 H locs ls h
      exact no h
    | succ n ih =>
      intro I J w2_2 H locs ls h hP hD hS hl
      rw [FL_X8_passes_m14_2] at h
      refine lv_iload_n hx hb dX8_passes_2 rfl (lv_at hl 2 rfl) ?_
      refine lv_aload_n hx hb dX8_passes_3 rfl (lv_at hl 1 rfl) ?_
      refine ln_m14 hC hK hP dX8_passes_4 ?_
      refine lv_icmp_ge (tgt := 58) hx hb dX8_passes_5 (by decide) (fun c1 => ?_) (fun c1 => ?_)
      · replace h := (if_pos c1).symm.trans h
        obtain ⟨rfl, rfl⟩ := Prod.mk.inj (Option.some.inj h)
        exact hret _ _ _ _ dX8_passes_58 hP hD hS
      · replace h := (if_neg c1).symm.trans h
        refine lv_aload_n hx hb dX8_passes_8 rfl (lv_at hl 0 rfl) ?_
        refine gt_X8_303 hC hK hP dX8_passes_9 ?_
        refine lv_if_eq (tgt := 30) hx hb dX8_passes_12 (by decide) (fun c2 => ?_) (fun c2 => ?_)
        · replace h := (if_pos c2).symm.trans h
          refine lv_aload_n hx hb dX8_passes_30 rfl (lv_at hl 1 rfl) ?_
          refine lv_iload_n hx hb dX8_passes_31 rfl (lv_at hl 2 rfl) ?_
          refine lv_aload_n hx hb dX8_passes_32 rfl (lv_at hl 0 rfl) ?_
          refine gt_X8_71 hC hK hP dX8_passes_33 ?_
          refine lv_aload_n hx hb dX8_passes_36 rfl (lv_at hl 0 rfl) ?_
          refine gt_X8_307 hC hK hP dX8_passes_37 ?_
          obtain ⟨b3, h⟩ := og h
          refine al_m21 hC hK hP (gin_ok b3) dX8_passes_40 ?_
          obtain ⟨b4, h⟩ := og h
          refine as_m14 hC hK hP hD hS (gin_ok b4) dX8_passes_41 (fun H locs hP hD hS => ?_)
          refine lv_aload_n hx hb dX8_passes_42 rfl (lv_at hl 0 rfl) ?_
          refine lv_dup hx hb dX8_passes_43 rfl ?_
          refine gt_X8_307 hC hK hP dX8_passes_44 ?_
          refine lv_iconst (v := 1) hx hb dX8_passes_47 (by decide) ?_
          refine lv_iadd hx hb dX8_passes_48 ?_
          refine pt_X8_307 hC hK hP hD hS dX8_passes_49 (fun H locs hP hD hS => ?_)
          refine lv_iinc (v := (w2_2 + 1)) (lv' := [(2, .int (w2_2 + 1)), (0, .ref (ad 0)), (1, .ref (ad 14))]) hx hb dX8_passes_52 hl (k := 2) rfl rfl (by decide) rfl (fun ls hl => ?_)
          refine lv_goto (tgt := 2) hx hb dX8_passes_55 (by decide) ?_
          exact ih (u2 (u1 I 14 (upd (I 14) (Int32.toNatClampNeg w2_2) (I 21 (Int32.toNatClampNeg (I 0 40))))) 0 40 (((u1 I 14 (upd (I 14) (Int32.toNatClampNeg w2_2) (I 21 (Int32.toNatClampNeg (I 0 40))))) 0 40) + (1 : Int32))) J (w2_2 + 1) _ _ _ h hP hD hS (lv_sub hl [1, 2, 0] rfl)
        · replace h := (if_neg c2).symm.trans h
          refine lv_aload_n hx hb dX8_passes_15 rfl (lv_at hl 0 rfl) ?_
          refine gt_X8_71 hC hK hP dX8_passes_16 ?_
          refine lv_aload_n hx hb dX8_passes_19 rfl (lv_at hl 0 rfl) ?_
          refine gt_X8_307 hC hK hP dX8_passes_20 ?_
          refine lv_aload_n hx hb dX8_passes_23 rfl (lv_at hl 1 rfl) ?_
          refine lv_iload_n hx hb dX8_passes_24 rfl (lv_at hl 2 rfl) ?_
          obtain ⟨b5, h⟩ := og h
          refine al_m14 hC hK hP (gin_ok b5) dX8_passes_25 ?_
          obtain ⟨b6, h⟩ := og h
          refine as_m21 hC hK hP hD hS (gin_ok b6) dX8_passes_26 (fun H locs hP hD hS => ?_)
          refine lv_goto (tgt := 42) hx hb dX8_passes_27 (by decide) ?_
          refine lv_aload_n hx hb dX8_passes_42 rfl (lv_at hl 0 rfl) ?_
          refine lv_dup hx hb dX8_passes_43 rfl ?_
          refine gt_X8_307 hC hK hP dX8_passes_44 ?_
          refine lv_iconst (v := 1) hx hb dX8_passes_47 (by decide) ?_
          refine lv_iadd hx hb dX8_passes_48 ?_
          refine pt_X8_307 hC hK hP hD hS dX8_passes_49 (fun H locs hP hD hS => ?_)
          refine lv_iinc (v := (w2_2 + 1)) (lv' := [(2, .int (w2_2 + 1)), (0, .ref (ad 0)), (1, .ref (ad 14))]) hx hb dX8_passes_52 hl (k := 2) rfl rfl (by decide) rfl (fun ls hl => ?_)
          refine lv_goto (tgt := 2) hx hb dX8_passes_55 (by decide) ?_
          exact ih (u2 (u1 I 21 (upd (I 21) (Int32.toNatClampNeg (I 0 40)) (I 14 (Int32.toNatClampNeg w2_2)))) 0 40 (((u1 I 21 (upd (I 21) (Int32.toNatClampNeg (I 0 40)) (I 14 (Int32.toNatClampNeg w2_2)))) 0 40) + (1 : Int32))) J (w2_2 + 1) _ _ _ h hP hD hS (lv_sub hl [1, 2, 0] rfl)
  unfold F_X8_passes_m14 at h
  refine lv_iconst (v := 0) hx hb dX8_passes_0 (by decide) ?_
  refine lv_istore_n (lv' := [(2, .int (0 : Int32)), (0, .ref (ad 0)), (1, .ref (ad 14))]) hx hb dX8_passes_1 rfl hl (by decide) rfl (fun ls hl => ?_)
  exact loop_2 3000 I J (0 : Int32) _ _ _ h hP hD hS (lv_sub hl [1, 2, 0] rfl)
def FL_X8_passes_m15_2  : Nat → SI → SJ → Int32 → Option (SI × SJ)
  | 0, _, _, _ => none
  | n + 1, I, J, w2_2 => (if (8 : Int32) ≤ w2_2 then (some (I, J)) else (if (I 0 39) = 0 then (if gin (I 0 40) 200 = true then (if gin w2_2 8 = true then (FL_X8_passes_m15_2 n (u2 (u1 I 15 (upd (I 15) (Int32.toNatClampNeg w2_2) (I 21 (Int32.toNatClampNeg (I 0 40))))) 0 40 (((u1 I 15 (upd (I 15) (Int32.toNatClampNeg w2_2) (I 21 (Int32.toNatClampNeg (I 0 40))))) 0 40) + (1 : Int32))) J (w2_2 + 1)) else none) else none) else (if gin w2_2 8 = true then (if gin (I 0 40) 200 = true then (FL_X8_passes_m15_2 n (u2 (u1 I 21 (upd (I 21) (Int32.toNatClampNeg (I 0 40)) (I 15 (Int32.toNatClampNeg w2_2)))) 0 40 (((u1 I 21 (upd (I 21) (Int32.toNatClampNeg (I 0 40)) (I 15 (Int32.toNatClampNeg w2_2)))) 0 40) + (1 : Int32))) J (w2_2 + 1)) else none) else none)))
def F_X8_passes_m15 (I : SI) (J : SJ) : Option (SI × SJ) := (FL_X8_passes_m15_2 3000 I J (0 : Int32))
set_option maxHeartbeats 4000000 in
set_option maxRecDepth 100000 in
theorem c_X8_passes_m15 (l : Launch) (g : Gx) (ad : Nat → Nat) (I : SI) (J : SJ)   (sz : Nat) {rI : SI} {rJ : SJ} (h : F_X8_passes_m15 I J = some (rI, rJ)) : Met l yX8_passes (Cond.code yX8_passes cX8_passes 3 none :: BG) (k2_rm 0 0) (PcW [.ref (ad 0), .ref (ad 15)] g (mW ad g I J) sz) (QWv g (mW ad g I J) (mW ad g rI rJ) sz) 0 0 (va_A (mW ad g I J) sz) := by
  refine mkWv (by decide) (Nat.le_of_ble_eq_true rfl) ?_
  intro p e s m args below meth c H locs ls A Q hC hK hP hD hA hS hl hret
  have hx := hC.1
  have hb := hC.2.1
  have hts := hC.2.2.2.2
  have hown := hC.2.2.2.1
  replace hl : lv_has ls 3 [(0, .ref (ad 0)), (1, .ref (ad 15))] := hl
  have loop_2 : ∀ (n : Nat) (I : SI) (J : SJ) (w2_2 : Int32)  (H : Heap) (locs : List Loc) (ls : Array Slot), FL_X8_passes_m15_2 n I J w2_2 = some (rI, rJ) → Pg g (mW ad g I J) H → va_D A (mW ad g I J) → va_S A s.heap H locs → lv_has ls 3 [(0, .ref (ad 0)), (1, .ref (ad 15)), (2, .int w2_2)] → W p l e (k2_rm 0 0) s m args below meth c H locs 0 0 Q (F0 m 2 ls []) := by
    intro n
    induction n with
    | zero =>
      intro I J w2_2 H locs ls h
      exact no h
    | succ n ih =>
      intro I J w2_2 H locs ls h hP hD hS hl
      rw [FL_X8_passes_m15_2] at h
      refine lv_iload_n hx hb dX8_passes_2 rfl (lv_at hl 2 rfl) ?_
      refine lv_aload_n hx hb dX8_passes_3 rfl (lv_at hl 1 rfl) ?_
      refine ln_m15 hC hK hP dX8_passes_4 ?_
      refine lv_icmp_ge (tgt := 58) hx hb dX8_passes_5 (by decide) (fun c1 => ?_) (fun c1 => ?_)
      · replace h := (if_pos c1).symm.trans h
        obtain ⟨rfl, rfl⟩ := Prod.mk.inj (Option.some.inj h)
        exact hret _ _ _ _ dX8_passes_58 hP hD hS
      · replace h := (if_neg c1).symm.trans h
        refine lv_aload_n hx hb dX8_passes_8 rfl (lv_at hl 0 rfl) ?_
        refine gt_X8_303 hC hK hP dX8_passes_9 ?_
        refine lv_if_eq (tgt := 30) hx hb dX8_passes_12 (by decide) (fun c2 => ?_) (fun c2 => ?_)
        · replace h := (if_pos c2).symm.trans h
          refine lv_aload_n hx hb dX8_passes_30 rfl (lv_at hl 1 rfl) ?_
          refine lv_iload_n hx hb dX8_passes_31 rfl (lv_at hl 2 rfl) ?_
          refine lv_aload_n hx hb dX8_passes_32 rfl (lv_at hl 0 rfl) ?_
          refine gt_X8_71 hC hK hP dX8_passes_33 ?_
          refine lv_aload_n hx hb dX8_passes_36 rfl (lv_at hl 0 rfl) ?_
          refine gt_X8_307 hC hK hP dX8_passes_37 ?_
          obtain ⟨b3, h⟩ := og h
          refine al_m21 hC hK hP (gin_ok b3) dX8_passes_40 ?_
          obtain ⟨b4, h⟩ := og h
          refine as_m15 hC hK hP hD hS (gin_ok b4) dX8_passes_41 (fun H locs hP hD hS => ?_)
          refine lv_aload_n hx hb dX8_passes_42 rfl (lv_at hl 0 rfl) ?_
          refine lv_dup hx hb dX8_passes_43 rfl ?_
          refine gt_X8_307 hC hK hP dX8_passes_44 ?_
          refine lv_iconst (v := 1) hx hb dX8_passes_47 (by decide) ?_
          refine lv_iadd hx hb dX8_passes_48 ?_
          refine pt_X8_307 hC hK hP hD hS dX8_passes_49 (fun H locs hP hD hS => ?_)
          refine lv_iinc (v := (w2_2 + 1)) (lv' := [(2, .int (w2_2 + 1)), (0, .ref (ad 0)), (1, .ref (ad 15))]) hx hb dX8_passes_52 hl (k := 2) rfl rfl (by decide) rfl (fun ls hl => ?_)
          refine lv_goto (tgt := 2) hx hb dX8_passes_55 (by decide) ?_
          exact ih (u2 (u1 I 15 (upd (I 15) (Int32.toNatClampNeg w2_2) (I 21 (Int32.toNatClampNeg (I 0 40))))) 0 40 (((u1 I 15 (upd (I 15) (Int32.toNatClampNeg w2_2) (I 21 (Int32.toNatClampNeg (I 0 40))))) 0 40) + (1 : Int32))) J (w2_2 + 1) _ _ _ h hP hD hS (lv_sub hl [1, 2, 0] rfl)
        · replace h := (if_neg c2).symm.trans h
          refine lv_aload_n hx hb dX8_passes_15 rfl (lv_at hl 0 rfl) ?_
          refine gt_X8_71 hC hK hP dX8_passes_16 ?_
          refine lv_aload_n hx hb dX8_passes_19 rfl (lv_at hl 0 rfl) ?_
          refine gt_X8_307 hC hK hP dX8_passes_20 ?_
          refine lv_aload_n hx hb dX8_passes_23 rfl (lv_at hl 1 rfl) ?_
          refine lv_iload_n hx hb dX8_passes_24 rfl (lv_at hl 2 rfl) ?_
          obtain ⟨b5, h⟩ := og h
          refine al_m15 hC hK hP (gin_ok b5) dX8_passes_25 ?_
          obtain ⟨b6, h⟩ := og h
          refine as_m21 hC hK hP hD hS (gin_ok b6) dX8_passes_26 (fun H locs hP hD hS => ?_)
          refine lv_goto (tgt := 42) hx hb dX8_passes_27 (by decide) ?_
          refine lv_aload_n hx hb dX8_passes_42 rfl (lv_at hl 0 rfl) ?_
          refine lv_dup hx hb dX8_passes_43 rfl ?_
          refine gt_X8_307 hC hK hP dX8_passes_44 ?_
          refine lv_iconst (v := 1) hx hb dX8_passes_47 (by decide) ?_
          refine lv_iadd hx hb dX8_passes_48 ?_
          refine pt_X8_307 hC hK hP hD hS dX8_passes_49 (fun H locs hP hD hS => ?_)
          refine lv_iinc (v := (w2_2 + 1)) (lv' := [(2, .int (w2_2 + 1)), (0, .ref (ad 0)), (1, .ref (ad 15))]) hx hb dX8_passes_52 hl (k := 2) rfl rfl (by decide) rfl (fun ls hl => ?_)
          refine lv_goto (tgt := 2) hx hb dX8_passes_55 (by decide) ?_
          exact ih (u2 (u1 I 21 (upd (I 21) (Int32.toNatClampNeg (I 0 40)) (I 15 (Int32.toNatClampNeg w2_2)))) 0 40 (((u1 I 21 (upd (I 21) (Int32.toNatClampNeg (I 0 40)) (I 15 (Int32.toNatClampNeg w2_2)))) 0 40) + (1 : Int32))) J (w2_2 + 1) _ _ _ h hP hD hS (lv_sub hl [1, 2, 0] rfl)
  unfold F_X8_passes_m15 at h
  refine lv_iconst (v := 0) hx hb dX8_passes_0 (by decide) ?_
  refine lv_istore_n (lv' := [(2, .int (0 : Int32)), (0, .ref (ad 0)), (1, .ref (ad 15))]) hx hb dX8_passes_1 rfl hl (by decide) rfl (fun ls hl => ?_)
  exact loop_2 3000 I J (0 : Int32) _ _ _ h hP hD hS (lv_sub hl [1, 2, 0] rfl)
def FL_X8_passes_m16_2  : Nat → SI → SJ → Int32 → Option (SI × SJ)
  | 0, _, _, _ => none
  | n + 1, I, J, w2_2 => (if (8 : Int32) ≤ w2_2 then (some (I, J)) else (if (I 0 39) = 0 then (if gin (I 0 40) 200 = true then (if gin w2_2 8 = true then (FL_X8_passes_m16_2 n (u2 (u1 I 16 (upd (I 16) (Int32.toNatClampNeg w2_2) (I 21 (Int32.toNatClampNeg (I 0 40))))) 0 40 (((u1 I 16 (upd (I 16) (Int32.toNatClampNeg w2_2) (I 21 (Int32.toNatClampNeg (I 0 40))))) 0 40) + (1 : Int32))) J (w2_2 + 1)) else none) else none) else (if gin w2_2 8 = true then (if gin (I 0 40) 200 = true then (FL_X8_passes_m16_2 n (u2 (u1 I 21 (upd (I 21) (Int32.toNatClampNeg (I 0 40)) (I 16 (Int32.toNatClampNeg w2_2)))) 0 40 (((u1 I 21 (upd (I 21) (Int32.toNatClampNeg (I 0 40)) (I 16 (Int32.toNatClampNeg w2_2)))) 0 40) + (1 : Int32))) J (w2_2 + 1)) else none) else none)))
def F_X8_passes_m16 (I : SI) (J : SJ) : Option (SI × SJ) := (FL_X8_passes_m16_2 3000 I J (0 : Int32))
set_option maxHeartbeats 4000000 in
set_option maxRecDepth 100000 in
theorem c_X8_passes_m16 (l : Launch) (g : Gx) (ad : Nat → Nat) (I : SI) (J : SJ)   (sz : Nat) {rI : SI} {rJ : SJ} (h : F_X8_passes_m16 I J = some (rI, rJ)) : Met l yX8_passes (Cond.code yX8_passes cX8_passes 3 none :: BG) (k2_rm 0 0) (PcW [.ref (ad 0), .ref (ad 16)] g (mW ad g I J) sz) (QWv g (mW ad g I J) (mW ad g rI rJ) sz) 0 0 (va_A (mW ad g I J) sz) := by
  refine mkWv (by decide) (Nat.le_of_ble_eq_true rfl) ?_
  intro p e s m args below meth c H locs ls A Q hC hK hP hD hA hS hl hret
  have hx := hC.1
  have hb := hC.2.1
  have hts := hC.2.2.2.2
  have hown := hC.2.2.2.1
  replace hl : lv_has ls 3 [(0, .ref (ad 0)), (1, .ref (ad 16))] := hl
  have loop_2 : ∀ (n : Nat) (I : SI) (J : SJ) (w2_2 : Int32)  (H : Heap) (locs : List Loc) (ls : Array Slot), FL_X8_passes_m16_2 n I J w2_2 = some (rI, rJ) → Pg g (mW ad g I J) H → va_D A (mW ad g I J) → va_S A s.heap H locs → lv_has ls 3 [(0, .ref (ad 0)), (1, .ref (ad 16)), (2, .int w2_2)] → W p l e (k2_rm 0 0) s m args below meth c H locs 0 0 Q (F0 m 2 ls []) := by
    intro n
    induction n with
    | zero =>
      intro I J w2_2 H locs ls h
      exact no h
    | succ n ih =>
      intro I J w2_2 H locs ls h hP hD hS hl
      rw [FL_X8_passes_m16_2] at h
      refine lv_iload_n hx hb dX8_passes_2 rfl (lv_at hl 2 rfl) ?_
      refine lv_aload_n hx hb dX8_passes_3 rfl (lv_at hl 1 rfl) ?_
      refine ln_m16 hC hK hP dX8_passes_4 ?_
      refine lv_icmp_ge (tgt := 58) hx hb dX8_passes_5 (by decide) (fun c1 => ?_) (fun c1 => ?_)
      · replace h := (if_pos c1).symm.trans h
        obtain ⟨rfl, rfl⟩ := Prod.mk.inj (Option.some.inj h)
        exact hret _ _ _ _ dX8_passes_58 hP hD hS
      · replace h := (if_neg c1).symm.trans h
        refine lv_aload_n hx hb dX8_passes_8 rfl (lv_at hl 0 rfl) ?_
        refine gt_X8_303 hC hK hP dX8_passes_9 ?_
        refine lv_if_eq (tgt := 30) hx hb dX8_passes_12 (by decide) (fun c2 => ?_) (fun c2 => ?_)
        · replace h := (if_pos c2).symm.trans h
          refine lv_aload_n hx hb dX8_passes_30 rfl (lv_at hl 1 rfl) ?_
          refine lv_iload_n hx hb dX8_passes_31 rfl (lv_at hl 2 rfl) ?_
          refine lv_aload_n hx hb dX8_passes_32 rfl (lv_at hl 0 rfl) ?_
          refine gt_X8_71 hC hK hP dX8_passes_33 ?_
          refine lv_aload_n hx hb dX8_passes_36 rfl (lv_at hl 0 rfl) ?_
          refine gt_X8_307 hC hK hP dX8_passes_37 ?_
          obtain ⟨b3, h⟩ := og h
          refine al_m21 hC hK hP (gin_ok b3) dX8_passes_40 ?_
          obtain ⟨b4, h⟩ := og h
          refine as_m16 hC hK hP hD hS (gin_ok b4) dX8_passes_41 (fun H locs hP hD hS => ?_)
          refine lv_aload_n hx hb dX8_passes_42 rfl (lv_at hl 0 rfl) ?_
          refine lv_dup hx hb dX8_passes_43 rfl ?_
          refine gt_X8_307 hC hK hP dX8_passes_44 ?_
          refine lv_iconst (v := 1) hx hb dX8_passes_47 (by decide) ?_
          refine lv_iadd hx hb dX8_passes_48 ?_
          refine pt_X8_307 hC hK hP hD hS dX8_passes_49 (fun H locs hP hD hS => ?_)
          refine lv_iinc (v := (w2_2 + 1)) (lv' := [(2, .int (w2_2 + 1)), (0, .ref (ad 0)), (1, .ref (ad 16))]) hx hb dX8_passes_52 hl (k := 2) rfl rfl (by decide) rfl (fun ls hl => ?_)
          refine lv_goto (tgt := 2) hx hb dX8_passes_55 (by decide) ?_
          exact ih (u2 (u1 I 16 (upd (I 16) (Int32.toNatClampNeg w2_2) (I 21 (Int32.toNatClampNeg (I 0 40))))) 0 40 (((u1 I 16 (upd (I 16) (Int32.toNatClampNeg w2_2) (I 21 (Int32.toNatClampNeg (I 0 40))))) 0 40) + (1 : Int32))) J (w2_2 + 1) _ _ _ h hP hD hS (lv_sub hl [1, 2, 0] rfl)
        · replace h := (if_neg c2).symm.trans h
          refine lv_aload_n hx hb dX8_passes_15 rfl (lv_at hl 0 rfl) ?_
          refine gt_X8_71 hC hK hP dX8_passes_16 ?_
          refine lv_aload_n hx hb dX8_passes_19 rfl (lv_at hl 0 rfl) ?_
          refine gt_X8_307 hC hK hP dX8_passes_20 ?_
          refine lv_aload_n hx hb dX8_passes_23 rfl (lv_at hl 1 rfl) ?_
          refine lv_iload_n hx hb dX8_passes_24 rfl (lv_at hl 2 rfl) ?_
          obtain ⟨b5, h⟩ := og h
          refine al_m16 hC hK hP (gin_ok b5) dX8_passes_25 ?_
          obtain ⟨b6, h⟩ := og h
          refine as_m21 hC hK hP hD hS (gin_ok b6) dX8_passes_26 (fun H locs hP hD hS => ?_)
          refine lv_goto (tgt := 42) hx hb dX8_passes_27 (by decide) ?_
          refine lv_aload_n hx hb dX8_passes_42 rfl (lv_at hl 0 rfl) ?_
          refine lv_dup hx hb dX8_passes_43 rfl ?_
          refine gt_X8_307 hC hK hP dX8_passes_44 ?_
          refine lv_iconst (v := 1) hx hb dX8_passes_47 (by decide) ?_
          refine lv_iadd hx hb dX8_passes_48 ?_
          refine pt_X8_307 hC hK hP hD hS dX8_passes_49 (fun H locs hP hD hS => ?_)
          refine lv_iinc (v := (w2_2 + 1)) (lv' := [(2, .int (w2_2 + 1)), (0, .ref (ad 0)), (1, .ref (ad 16))]) hx hb dX8_passes_52 hl (k := 2) rfl rfl (by decide) rfl (fun ls hl => ?_)
          refine lv_goto (tgt := 2) hx hb dX8_passes_55 (by decide) ?_
          exact ih (u2 (u1 I 21 (upd (I 21) (Int32.toNatClampNeg (I 0 40)) (I 16 (Int32.toNatClampNeg w2_2)))) 0 40 (((u1 I 21 (upd (I 21) (Int32.toNatClampNeg (I 0 40)) (I 16 (Int32.toNatClampNeg w2_2)))) 0 40) + (1 : Int32))) J (w2_2 + 1) _ _ _ h hP hD hS (lv_sub hl [1, 2, 0] rfl)
  unfold F_X8_passes_m16 at h
  refine lv_iconst (v := 0) hx hb dX8_passes_0 (by decide) ?_
  refine lv_istore_n (lv' := [(2, .int (0 : Int32)), (0, .ref (ad 0)), (1, .ref (ad 16))]) hx hb dX8_passes_1 rfl hl (by decide) rfl (fun ls hl => ?_)
  exact loop_2 3000 I J (0 : Int32) _ _ _ h hP hD hS (lv_sub hl [1, 2, 0] rfl)
def F_X8_passOne (I : SI) (J : SJ) (v1 : Int32) : Option (Int32 × SI × SJ) := (if (I 0 39) = 0 then (if gin (I 0 40) 200 = true then (if (I 0 39) = 0 then (some ((I 21 (Int32.toNatClampNeg (I 0 40))), (u2 I 0 40 ((I 0 40) + (1 : Int32))), J)) else (if gin (I 0 40) 200 = true then (some ((I 21 (Int32.toNatClampNeg (I 0 40))), (u2 (u1 I 21 (upd (I 21) (Int32.toNatClampNeg (I 0 40)) v1)) 0 40 (((u1 I 21 (upd (I 21) (Int32.toNatClampNeg (I 0 40)) v1)) 0 40) + (1 : Int32))), J)) else none)) else none) else (if (I 0 39) = 0 then (some (v1, (u2 I 0 40 ((I 0 40) + (1 : Int32))), J)) else (if gin (I 0 40) 200 = true then (some (v1, (u2 (u1 I 21 (upd (I 21) (Int32.toNatClampNeg (I 0 40)) v1)) 0 40 (((u1 I 21 (upd (I 21) (Int32.toNatClampNeg (I 0 40)) v1)) 0 40) + (1 : Int32))), J)) else none)))
set_option maxHeartbeats 4000000 in
set_option maxRecDepth 100000 in
theorem c_X8_passOne (l : Launch) (g : Gx) (ad : Nat → Nat) (I : SI) (J : SJ) (v1 : Int32)  (sz : Nat) {r : Int32} {rI : SI} {rJ : SJ} (h : F_X8_passOne I J v1 = some (r, rI, rJ)) : Met l yX8_passOne (Cond.code yX8_passOne cX8_passOne 3 (some .int) :: BG) (k2_rm 0 0) (PcW [.ref (ad 0), .int v1] g (mW ad g I J) sz) (QWi r g (mW ad g I J) (mW ad g rI rJ) sz) 0 0 (va_A (mW ad g I J) sz) := by
  refine mkWi (by decide) (Nat.le_of_ble_eq_true rfl) ?_
  intro p e s m args below meth c H locs ls A Q hC hK hP hD hA hS hl hret
  have hx := hC.1
  have hb := hC.2.1
  have hts := hC.2.2.2.2
  have hown := hC.2.2.2.1
  replace hl : lv_has ls 3 [(0, .ref (ad 0)), (1, .int v1)] := hl
  unfold F_X8_passOne at h
  refine lv_aload_n hx hb dX8_passOne_0 rfl (lv_at hl 0 rfl) ?_
  refine gt_X8_303 hC hK hP dX8_passOne_1 ?_
  refine lv_if_eq (tgt := 11) hx hb dX8_passOne_4 (by decide) (fun c1 => ?_) (fun c1 => ?_)
  · replace h := (if_pos c1).symm.trans h
    refine lv_aload_n hx hb dX8_passOne_11 rfl (lv_at hl 0 rfl) ?_
    refine gt_X8_71 hC hK hP dX8_passOne_12 ?_
    refine lv_aload_n hx hb dX8_passOne_15 rfl (lv_at hl 0 rfl) ?_
    refine gt_X8_307 hC hK hP dX8_passOne_16 ?_
    obtain ⟨b2, h⟩ := og h
    refine al_m21 hC hK hP (gin_ok b2) dX8_passOne_19 ?_
    refine lv_istore_n (lv' := [(2, .int (I 21 (Int32.toNatClampNeg (I 0 40)))), (0, .ref (ad 0)), (1, .int v1)]) hx hb dX8_passOne_20 rfl hl (by decide) rfl (fun ls hl => ?_)
    refine lv_aload_n hx hb dX8_passOne_21 rfl (lv_at hl 1 rfl) ?_
    refine gt_X8_303 hC hK hP dX8_passOne_22 ?_
    refine lv_if_eq (tgt := 38) hx hb dX8_passOne_25 (by decide) (fun c3 => ?_) (fun c3 => ?_)
    · replace h := (if_pos c3).symm.trans h
      refine lv_aload_n hx hb dX8_passOne_38 rfl (lv_at hl 1 rfl) ?_
      refine lv_dup hx hb dX8_passOne_39 rfl ?_
      refine gt_X8_307 hC hK hP dX8_passOne_40 ?_
      refine lv_iconst (v := 1) hx hb dX8_passOne_43 (by decide) ?_
      refine lv_iadd hx hb dX8_passOne_44 ?_
      refine pt_X8_307 hC hK hP hD hS dX8_passOne_45 (fun H locs hP hD hS => ?_)
      refine lv_iload_n hx hb dX8_passOne_48 rfl (lv_at hl 0 rfl) ?_
      obtain ⟨h1, h⟩ := Prod.mk.inj (Option.some.inj h)
      obtain ⟨rfl, rfl⟩ := Prod.mk.inj h
      exact hret _ _ _ _ _ dX8_passOne_49 h1 hP hD hS
    · replace h := (if_neg c3).symm.trans h
      refine lv_aload_n hx hb dX8_passOne_28 rfl (lv_at hl 1 rfl) ?_
      refine gt_X8_71 hC hK hP dX8_passOne_29 ?_
      refine lv_aload_n hx hb dX8_passOne_32 rfl (lv_at hl 1 rfl) ?_
      refine gt_X8_307 hC hK hP dX8_passOne_33 ?_
      refine lv_iload_n hx hb dX8_passOne_36 rfl (lv_at hl 2 rfl) ?_
      obtain ⟨b4, h⟩ := og h
      refine as_m21 hC hK hP hD hS (gin_ok b4) dX8_passOne_37 (fun H locs hP hD hS => ?_)
      refine lv_aload_n hx hb dX8_passOne_38 rfl (lv_at hl 1 rfl) ?_
      refine lv_dup hx hb dX8_passOne_39 rfl ?_
      refine gt_X8_307 hC hK hP dX8_passOne_40 ?_
      refine lv_iconst (v := 1) hx hb dX8_passOne_43 (by decide) ?_
      refine lv_iadd hx hb dX8_passOne_44 ?_
      refine pt_X8_307 hC hK hP hD hS dX8_passOne_45 (fun H locs hP hD hS => ?_)
      refine lv_iload_n hx hb dX8_passOne_48 rfl (lv_at hl 0 rfl) ?_
      obtain ⟨h1, h⟩ := Prod.mk.inj (Option.some.inj h)
      obtain ⟨rfl, rfl⟩ := Prod.mk.inj h
      exact hret _ _ _ _ _ dX8_passOne_49 h1 hP hD hS
  · replace h := (if_neg c1).symm.trans h
    refine lv_iload_n hx hb dX8_passOne_7 rfl (lv_at hl 1 rfl) ?_
    refine lv_goto (tgt := 20) hx hb dX8_passOne_8 (by decide) ?_
    refine lv_istore_n (lv' := [(2, .int v1), (0, .ref (ad 0)), (1, .int v1)]) hx hb dX8_passOne_20 rfl hl (by decide) rfl (fun ls hl => ?_)
    refine lv_aload_n hx hb dX8_passOne_21 rfl (lv_at hl 1 rfl) ?_
    refine gt_X8_303 hC hK hP dX8_passOne_22 ?_
    refine lv_if_eq (tgt := 38) hx hb dX8_passOne_25 (by decide) (fun c5 => ?_) (fun c5 => ?_)
    · replace h := (if_pos c5).symm.trans h
      refine lv_aload_n hx hb dX8_passOne_38 rfl (lv_at hl 1 rfl) ?_
      refine lv_dup hx hb dX8_passOne_39 rfl ?_
      refine gt_X8_307 hC hK hP dX8_passOne_40 ?_
      refine lv_iconst (v := 1) hx hb dX8_passOne_43 (by decide) ?_
      refine lv_iadd hx hb dX8_passOne_44 ?_
      refine pt_X8_307 hC hK hP hD hS dX8_passOne_45 (fun H locs hP hD hS => ?_)
      refine lv_iload_n hx hb dX8_passOne_48 rfl (lv_at hl 0 rfl) ?_
      obtain ⟨h1, h⟩ := Prod.mk.inj (Option.some.inj h)
      obtain ⟨rfl, rfl⟩ := Prod.mk.inj h
      exact hret _ _ _ _ _ dX8_passOne_49 h1 hP hD hS
    · replace h := (if_neg c5).symm.trans h
      refine lv_aload_n hx hb dX8_passOne_28 rfl (lv_at hl 1 rfl) ?_
      refine gt_X8_71 hC hK hP dX8_passOne_29 ?_
      refine lv_aload_n hx hb dX8_passOne_32 rfl (lv_at hl 1 rfl) ?_
      refine gt_X8_307 hC hK hP dX8_passOne_33 ?_
      refine lv_iload_n hx hb dX8_passOne_36 rfl (lv_at hl 2 rfl) ?_
      obtain ⟨b6, h⟩ := og h
      refine as_m21 hC hK hP hD hS (gin_ok b6) dX8_passOne_37 (fun H locs hP hD hS => ?_)
      refine lv_aload_n hx hb dX8_passOne_38 rfl (lv_at hl 1 rfl) ?_
      refine lv_dup hx hb dX8_passOne_39 rfl ?_
      refine gt_X8_307 hC hK hP dX8_passOne_40 ?_
      refine lv_iconst (v := 1) hx hb dX8_passOne_43 (by decide) ?_
      refine lv_iadd hx hb dX8_passOne_44 ?_
      refine pt_X8_307 hC hK hP hD hS dX8_passOne_45 (fun H locs hP hD hS => ?_)
      refine lv_iload_n hx hb dX8_passOne_48 rfl (lv_at hl 0 rfl) ?_
      obtain ⟨h1, h⟩ := Prod.mk.inj (Option.some.inj h)
      obtain ⟨rfl, rfl⟩ := Prod.mk.inj h
      exact hret _ _ _ _ _ dX8_passOne_49 h1 hP hD hS
def F_X8_passesAll (I : SI) (J : SJ) (v1 : Int32) (v2 : Int32) : Option (SI × SJ) := (if gbo v2 = true then ((F_X8_passes_m2 (u2 (u2 I 0 40 ((100 : Int32) * v1)) 0 39 v2) J).bind fun (I2, J2) => ((F_X8_passes_m4 I2 J2).bind fun (I3, J3) => ((F_X8_passes_m5 I3 J3).bind fun (I4, J4) => ((F_X8_passes_m6 I4 J4).bind fun (I5, J5) => ((F_X8_passes_m7 I5 J5).bind fun (I6, J6) => ((F_X8_passes_m13 I6 J6).bind fun (I7, J7) => ((F_X8_passes_m14 I7 J7).bind fun (I8, J8) => ((F_X8_passes_m15 I8 J8).bind fun (I9, J9) => ((F_X8_passes_m16 I9 J9).bind fun (I10, J10) => ((F_X8_passOne I10 J10 (I10 0 7)).bind fun (r11, I11, J11) => ((F_X8_passOne (u2 I11 0 7 r11) J11 ((u2 I11 0 7 r11) 0 8)).bind fun (r12, I12, J12) => ((F_X8_passOne (u2 I12 0 8 r12) J12 ((u2 I12 0 8 r12) 0 21)).bind fun (r13, I13, J13) => (some ((u2 I13 0 21 r13), J13)))))))))))))) else none)
set_option maxHeartbeats 4000000 in
set_option maxRecDepth 100000 in
theorem c_X8_passesAll (l : Launch) (g : Gx) (ad : Nat → Nat) (I : SI) (J : SJ) (v1 : Int32) (v2 : Int32)  (sz : Nat) {rI : SI} {rJ : SJ} (h : F_X8_passesAll I J v1 v2 = some (rI, rJ)) : Met l yX8_passesAll (Cond.code yX8_passesAll cX8_passesAll 3 none :: BG) (k2_rm 1 22) (PcW [.ref (ad 0), .int v1, .int v2] g (mW ad g I J) sz) (QWv g (mW ad g I J) (mW ad g rI rJ) sz) 0 0 (va_A (mW ad g I J) sz) := by
  refine mkWv (by decide) (Nat.le_of_ble_eq_true rfl) ?_
  intro p e s m args below meth c H locs ls A Q hC hK hP hD hA hS hl hret
  have hx := hC.1
  have hb := hC.2.1
  have hts := hC.2.2.2.2
  have hown := hC.2.2.2.1
  replace hl : lv_has ls 3 [(0, .ref (ad 0)), (1, .int v1), (2, .int v2)] := hl
  unfold F_X8_passesAll at h
  refine lv_aload_n hx hb dX8_passesAll_0 rfl (lv_at hl 0 rfl) ?_
  refine lv_bipush (v := 100) hx hb dX8_passesAll_1 (by decide) ?_
  refine lv_iload_n hx hb dX8_passesAll_3 rfl (lv_at hl 1 rfl) ?_
  refine lv_imul hx hb dX8_passesAll_4 ?_
  refine pt_X8_307 hC hK hP hD hS dX8_passesAll_5 (fun H locs hP hD hS => ?_)
  refine lv_aload_n hx hb dX8_passesAll_8 rfl (lv_at hl 0 rfl) ?_
  refine lv_iload_n hx hb dX8_passesAll_9 rfl (lv_at hl 2 rfl) ?_
  obtain ⟨z1, h⟩ := og h
  refine pt_X8_303 z1 hC hK hP hD hS dX8_passesAll_10 (fun H locs hP hD hS => ?_)
  refine lv_aload_n hx hb dX8_passesAll_13 rfl (lv_at hl 0 rfl) ?_
  refine lv_aload_n hx hb dX8_passesAll_14 rfl (lv_at hl 0 rfl) ?_
  refine gt_X8_13 hC hK hP dX8_passesAll_15 ?_
  obtain ⟨⟨I2, J2⟩, hc2, h⟩ := ob h
  dsimp only at h
  refine callWVv (As := [.ref (ad 2)]) (rest := []) hC (c_X8_passes_m2 l g ad (u2 (u2 I 0 40 ((100 : Int32) * v1)) 0 39 v2) J   H.size hc2) lk_X8_310 rfl rfl ⟨Nat.le_of_ble_eq_true rfl, Nat.le_of_ble_eq_true rfl⟩ hP hK hD hA hS mo_0 rfl rfl rfl hl (Nat.le_of_ble_eq_true rfl) dX8_passesAll_18 (fun H locs hP hD hS => ?_)
  refine lv_aload_n hx hb dX8_passesAll_21 rfl (lv_at hl 0 rfl) ?_
  refine lv_aload_n hx hb dX8_passesAll_22 rfl (lv_at hl 0 rfl) ?_
  refine gt_X8_19 hC hK hP dX8_passesAll_23 ?_
  obtain ⟨⟨I3, J3⟩, hc3, h⟩ := ob h
  dsimp only at h
  refine callWVv (As := [.ref (ad 4)]) (rest := []) hC (c_X8_passes_m4 l g ad I2 J2   H.size hc3) lk_X8_310 rfl rfl ⟨Nat.le_of_ble_eq_true rfl, Nat.le_of_ble_eq_true rfl⟩ hP hK hD hA hS mo_0 rfl rfl rfl hl (Nat.le_of_ble_eq_true rfl) dX8_passesAll_26 (fun H locs hP hD hS => ?_)
  refine lv_aload_n hx hb dX8_passesAll_29 rfl (lv_at hl 0 rfl) ?_
  refine lv_aload_n hx hb dX8_passesAll_30 rfl (lv_at hl 0 rfl) ?_
  refine gt_X8_22 hC hK hP dX8_passesAll_31 ?_
  obtain ⟨⟨I4, J4⟩, hc4, h⟩ := ob h
  dsimp only at h
  refine callWVv (As := [.ref (ad 5)]) (rest := []) hC (c_X8_passes_m5 l g ad I3 J3   H.size hc4) lk_X8_310 rfl rfl ⟨Nat.le_of_ble_eq_true rfl, Nat.le_of_ble_eq_true rfl⟩ hP hK hD hA hS mo_0 rfl rfl rfl hl (Nat.le_of_ble_eq_true rfl) dX8_passesAll_34 (fun H locs hP hD hS => ?_)
  refine lv_aload_n hx hb dX8_passesAll_37 rfl (lv_at hl 0 rfl) ?_
  refine lv_aload_n hx hb dX8_passesAll_38 rfl (lv_at hl 0 rfl) ?_
  refine gt_X8_25 hC hK hP dX8_passesAll_39 ?_
  obtain ⟨⟨I5, J5⟩, hc5, h⟩ := ob h
  dsimp only at h
  refine callWVv (As := [.ref (ad 6)]) (rest := []) hC (c_X8_passes_m6 l g ad I4 J4   H.size hc5) lk_X8_310 rfl rfl ⟨Nat.le_of_ble_eq_true rfl, Nat.le_of_ble_eq_true rfl⟩ hP hK hD hA hS mo_0 rfl rfl rfl hl (Nat.le_of_ble_eq_true rfl) dX8_passesAll_42 (fun H locs hP hD hS => ?_)
  refine lv_aload_n hx hb dX8_passesAll_45 rfl (lv_at hl 0 rfl) ?_
  refine lv_aload_n hx hb dX8_passesAll_46 rfl (lv_at hl 0 rfl) ?_
  refine gt_X8_28 hC hK hP dX8_passesAll_47 ?_
  obtain ⟨⟨I6, J6⟩, hc6, h⟩ := ob h
  dsimp only at h
  refine callWVv (As := [.ref (ad 7)]) (rest := []) hC (c_X8_passes_m7 l g ad I5 J5   H.size hc6) lk_X8_310 rfl rfl ⟨Nat.le_of_ble_eq_true rfl, Nat.le_of_ble_eq_true rfl⟩ hP hK hD hA hS mo_0 rfl rfl rfl hl (Nat.le_of_ble_eq_true rfl) dX8_passesAll_50 (fun H locs hP hD hS => ?_)
  refine lv_aload_n hx hb dX8_passesAll_53 rfl (lv_at hl 0 rfl) ?_
  refine lv_aload_n hx hb dX8_passesAll_54 rfl (lv_at hl 0 rfl) ?_
  refine gt_X8_46 hC hK hP dX8_passesAll_55 ?_
  obtain ⟨⟨I7, J7⟩, hc7, h⟩ := ob h
  dsimp only at h
  refine callWVv (As := [.ref (ad 13)]) (rest := []) hC (c_X8_passes_m13 l g ad I6 J6   H.size hc7) lk_X8_310 rfl rfl ⟨Nat.le_of_ble_eq_true rfl, Nat.le_of_ble_eq_true rfl⟩ hP hK hD hA hS mo_0 rfl rfl rfl hl (Nat.le_of_ble_eq_true rfl) dX8_passesAll_58 (fun H locs hP hD hS => ?_)
  refine lv_aload_n hx hb dX8_passesAll_61 rfl (lv_at hl 0 rfl) ?_
  refine lv_aload_n hx hb dX8_passesAll_62 rfl (lv_at hl 0 rfl) ?_
  refine gt_X8_49 hC hK hP dX8_passesAll_63 ?_
  obtain ⟨⟨I8, J8⟩, hc8, h⟩ := ob h
  dsimp only at h
  refine callWVv (As := [.ref (ad 14)]) (rest := []) hC (c_X8_passes_m14 l g ad I7 J7   H.size hc8) lk_X8_310 rfl rfl ⟨Nat.le_of_ble_eq_true rfl, Nat.le_of_ble_eq_true rfl⟩ hP hK hD hA hS mo_0 rfl rfl rfl hl (Nat.le_of_ble_eq_true rfl) dX8_passesAll_66 (fun H locs hP hD hS => ?_)
  refine lv_aload_n hx hb dX8_passesAll_69 rfl (lv_at hl 0 rfl) ?_
  refine lv_aload_n hx hb dX8_passesAll_70 rfl (lv_at hl 0 rfl) ?_
  refine gt_X8_52 hC hK hP dX8_passesAll_71 ?_
  obtain ⟨⟨I9, J9⟩, hc9, h⟩ := ob h
  dsimp only at h
  refine callWVv (As := [.ref (ad 15)]) (rest := []) hC (c_X8_passes_m15 l g ad I8 J8   H.size hc9) lk_X8_310 rfl rfl ⟨Nat.le_of_ble_eq_true rfl, Nat.le_of_ble_eq_true rfl⟩ hP hK hD hA hS mo_0 rfl rfl rfl hl (Nat.le_of_ble_eq_true rfl) dX8_passesAll_74 (fun H locs hP hD hS => ?_)
  refine lv_aload_n hx hb dX8_passesAll_77 rfl (lv_at hl 0 rfl) ?_
  refine lv_aload_n hx hb dX8_passesAll_78 rfl (lv_at hl 0 rfl) ?_
  refine gt_X8_55 hC hK hP dX8_passesAll_79 ?_
  obtain ⟨⟨I10, J10⟩, hc10, h⟩ := ob h
  dsimp only at h
  refine callWVv (As := [.ref (ad 16)]) (rest := []) hC (c_X8_passes_m16 l g ad I9 J9   H.size hc10) lk_X8_310 rfl rfl ⟨Nat.le_of_ble_eq_true rfl, Nat.le_of_ble_eq_true rfl⟩ hP hK hD hA hS mo_0 rfl rfl rfl hl (Nat.le_of_ble_eq_true rfl) dX8_passesAll_82 (fun H locs hP hD hS => ?_)
  refine lv_aload_n hx hb dX8_passesAll_85 rfl (lv_at hl 0 rfl) ?_
  refine lv_aload_n hx hb dX8_passesAll_86 rfl (lv_at hl 0 rfl) ?_
  refine lv_aload_n hx hb dX8_passesAll_87 rfl (lv_at hl 0 rfl) ?_
  refine gt_X8_125 hC hK hP dX8_passesAll_88 ?_
  obtain ⟨⟨r11, I11, J11⟩, hc11, h⟩ := ob h
  dsimp only at h
  refine callWVi (As := [.int (I10 0 7)]) (rest := [.ref (ad 0)]) hC (c_X8_passOne l g ad I10 J10 (I10 0 7)  H.size hc11) lk_X8_314 rfl rfl ⟨Nat.le_of_ble_eq_true rfl, Nat.le_of_ble_eq_true rfl⟩ hP hK hD hA hS mo_0 rfl rfl rfl hl (Nat.le_of_ble_eq_true rfl) dX8_passesAll_91 (fun H locs hP hD hS => ?_)
  refine pt_X8_125 hC hK hP hD hS dX8_passesAll_94 (fun H locs hP hD hS => ?_)
  refine lv_aload_n hx hb dX8_passesAll_97 rfl (lv_at hl 0 rfl) ?_
  refine lv_aload_n hx hb dX8_passesAll_98 rfl (lv_at hl 0 rfl) ?_
  refine lv_aload_n hx hb dX8_passesAll_99 rfl (lv_at hl 0 rfl) ?_
  refine gt_X8_77 hC hK hP dX8_passesAll_100 ?_
  obtain ⟨⟨r12, I12, J12⟩, hc12, h⟩ := ob h
  dsimp only at h
  refine callWVi (As := [.int ((u2 I11 0 7 r11) 0 8)]) (rest := [.ref (ad 0)]) hC (c_X8_passOne l g ad (u2 I11 0 7 r11) J11 ((u2 I11 0 7 r11) 0 8)  H.size hc12) lk_X8_314 rfl rfl ⟨Nat.le_of_ble_eq_true rfl, Nat.le_of_ble_eq_true rfl⟩ hP hK hD hA hS mo_0 rfl rfl rfl hl (Nat.le_of_ble_eq_true rfl) dX8_passesAll_103 (fun H locs hP hD hS => ?_)
  refine pt_X8_77 hC hK hP hD hS dX8_passesAll_106 (fun H locs hP hD hS => ?_)
  refine lv_aload_n hx hb dX8_passesAll_109 rfl (lv_at hl 0 rfl) ?_
  refine lv_aload_n hx hb dX8_passesAll_110 rfl (lv_at hl 0 rfl) ?_
  refine lv_aload_n hx hb dX8_passesAll_111 rfl (lv_at hl 0 rfl) ?_
  refine gt_X8_149 hC hK hP dX8_passesAll_112 ?_
  obtain ⟨⟨r13, I13, J13⟩, hc13, h⟩ := ob h
  dsimp only at h
  refine callWVi (As := [.int ((u2 I12 0 8 r12) 0 21)]) (rest := [.ref (ad 0)]) hC (c_X8_passOne l g ad (u2 I12 0 8 r12) J12 ((u2 I12 0 8 r12) 0 21)  H.size hc13) lk_X8_314 rfl rfl ⟨Nat.le_of_ble_eq_true rfl, Nat.le_of_ble_eq_true rfl⟩ hP hK hD hA hS mo_0 rfl rfl rfl hl (Nat.le_of_ble_eq_true rfl) dX8_passesAll_115 (fun H locs hP hD hS => ?_)
  refine pt_X8_149 hC hK hP hD hS dX8_passesAll_118 (fun H locs hP hD hS => ?_)
  obtain ⟨rfl, rfl⟩ := Prod.mk.inj (Option.some.inj h)
  exact hret _ _ _ _ dX8_passesAll_121 hP hD hS
def FL_X8_field_86  : Nat → SI → SJ → Int32 → Option (Int32 × SI × SJ)
  | 0, _, _, _ => none
  | n + 1, I, J, w2_86 => (if (I 0 16) ≤ w2_86 then (some ((I 0 16), I, J)) else ((F_X8_comes I J w2_86).bind fun (r5, I5, J5) => (if r5 = 0 then ((F_X8_passesAll I5 J5 (1 : Int32) (0 : Int32)).bind fun (I7, J7) => (if gin w2_86 32 = true then (some (((-2000 : Int32) - (I7 10 (Int32.toNatClampNeg w2_86))), I7, J7)) else none)) else (FL_X8_field_86 n I5 J5 (w2_86 + 1)))))
def FL_X8_field_12  : Nat → SI → SJ → Int32 → Option (Int32 × SI × SJ)
  | 0, _, _, _ => none
  | n + 1, I, J, w1_12 => (if w1_12 = 0 then (if w1_12 = 0 then (some (((-1000 : Int32) - ((u2 I 0 14 (0 : Int32)) 0 15)), (u2 I 0 14 (0 : Int32)), J)) else ((F_X8_passesAll (u2 I 0 14 (0 : Int32)) J (1 : Int32) (1 : Int32)).bind fun (I3, J3) => (FL_X8_field_86 3000 I3 J3 (0 : Int32)))) else (if (I 0 15) < (I 0 14) then ((F_X8_statement I J).bind fun (r10, I10, J10) => (FL_X8_field_12 n (u2 I10 0 16 ((I10 0 16) + (if r10 = 0 then (0 : Int32) else (1 : Int32)))) J10 r10)) else (if (I 0 16) = 0 then ((F_X8_statement I J).bind fun (r16, I16, J16) => (FL_X8_field_12 n (u2 I16 0 16 ((I16 0 16) + (if r16 = 0 then (0 : Int32) else (1 : Int32)))) J16 r16)) else (if w1_12 = 0 then (some (((-1000 : Int32) - ((u2 I 0 14 (0 : Int32)) 0 15)), (u2 I 0 14 (0 : Int32)), J)) else ((F_X8_passesAll (u2 I 0 14 (0 : Int32)) J (1 : Int32) (1 : Int32)).bind fun (I15, J15) => (FL_X8_field_86 3000 I15 J15 (0 : Int32)))))))
def F_X8_field (I : SI) (J : SJ) : Option (Int32 × SI × SJ) := (FL_X8_field_12 3000 (u2 (u2 I 0 15 (0 : Int32)) 0 16 (0 : Int32)) J (1 : Int32))
set_option maxHeartbeats 4000000 in
set_option maxRecDepth 100000 in
theorem c_X8_field (l : Launch) (g : Gx) (ad : Nat → Nat) (I : SI) (J : SJ)   (sz : Nat) {r : Int32} {rI : SI} {rJ : SJ} (h : F_X8_field I J = some (r, rI, rJ)) : Met l yX8_field (Cond.code yX8_field cX8_field 3 (some .int) :: BG) (k2_rm 3 67) (PcW [.ref (ad 0)] g (mW ad g I J) sz) (QWi r g (mW ad g I J) (mW ad g rI rJ) sz) 0 0 (va_A (mW ad g I J) sz) := by
  refine mkWi (by decide) (Nat.le_of_ble_eq_true rfl) ?_
  intro p e s m args below meth c H locs ls A Q hC hK hP hD hA hS hl hret
  have hx := hC.1
  have hb := hC.2.1
  have hts := hC.2.2.2.2
  have hown := hC.2.2.2.1
  replace hl : lv_has ls 3 [(0, .ref (ad 0))] := hl
  have loop_86 : ∀ (n : Nat) (I : SI) (J : SJ) (w2_86 : Int32)  (H : Heap) (locs : List Loc) (ls : Array Slot), FL_X8_field_86 n I J w2_86 = some (r, rI, rJ) → Pg g (mW ad g I J) H → va_D A (mW ad g I J) → va_S A s.heap H locs → lv_has ls 3 [(0, .ref (ad 0)), (2, .int w2_86)] → W p l e (k2_rm 3 67) s m args below meth c H locs 0 0 Q (F0 m 86 ls []) := by
    intro n
    induction n with
    | zero =>
      intro I J w2_86 H locs ls h
      exact no h
    | succ n ih =>
      intro I J w2_86 H locs ls h hP hD hS hl
      rw [FL_X8_field_86] at h
      refine lv_iload_n hx hb dX8_field_86 rfl (lv_at hl 1 rfl) ?_
      refine lv_aload_n hx hb dX8_field_87 rfl (lv_at hl 0 rfl) ?_
      refine gt_X8_112 hC hK hP dX8_field_88 ?_
      refine lv_icmp_ge (tgt := 128) hx hb dX8_field_91 (by decide) (fun c4 => ?_) (fun c4 => ?_)
      · replace h := (if_pos c4).symm.trans h
        refine lv_aload_n hx hb dX8_field_128 rfl (lv_at hl 0 rfl) ?_
        refine gt_X8_112 hC hK hP dX8_field_129 ?_
        obtain ⟨h1, h⟩ := Prod.mk.inj (Option.some.inj h)
        obtain ⟨rfl, rfl⟩ := Prod.mk.inj h
        exact hret _ _ _ _ _ dX8_field_132 h1 hP hD hS
      · replace h := (if_neg c4).symm.trans h
        refine lv_aload_n hx hb dX8_field_94 rfl (lv_at hl 0 rfl) ?_
        refine lv_iload_n hx hb dX8_field_95 rfl (lv_at hl 1 rfl) ?_
        obtain ⟨⟨r5, I5, J5⟩, hc5, h⟩ := ob h
        dsimp only at h
        refine callWVi (As := [.int w2_86]) (rest := []) hC (c_X8_comes l g ad I J w2_86  H.size hc5) lk_X8_136 rfl rfl ⟨Nat.le_of_ble_eq_true rfl, Nat.le_of_ble_eq_true rfl⟩ hP hK hD hA hS mo_0 rfl rfl rfl hl (Nat.le_of_ble_eq_true rfl) dX8_field_96 (fun H locs hP hD hS => ?_)
        refine lv_if_eq (tgt := 105) hx hb dX8_field_99 (by decide) (fun c6 => ?_) (fun c6 => ?_)
        · replace h := (if_pos c6).symm.trans h
          refine lv_aload_n hx hb dX8_field_105 rfl (lv_at hl 0 rfl) ?_
          refine lv_iconst (v := 1) hx hb dX8_field_106 (by decide) ?_
          refine lv_iconst (v := 0) hx hb dX8_field_107 (by decide) ?_
          obtain ⟨⟨I7, J7⟩, hc7, h⟩ := ob h
          dsimp only at h
          refine callWVv (As := [.int (1 : Int32), .int (0 : Int32)]) (rest := []) hC (c_X8_passesAll l g ad I5 J5 (1 : Int32) (0 : Int32)  H.size hc7) lk_X8_132 rfl rfl ⟨Nat.le_of_ble_eq_true rfl, Nat.le_of_ble_eq_true rfl⟩ hP hK hD hA hS mo_0 rfl rfl rfl hl (Nat.le_of_ble_eq_true rfl) dX8_field_108 (fun H locs hP hD hS => ?_)
          refine lv_sipush (v := -2000) hx hb dX8_field_111 (by decide) ?_
          refine lv_aload_n hx hb dX8_field_114 rfl (lv_at hl 0 rfl) ?_
          refine gt_X8_37 hC hK hP dX8_field_115 ?_
          refine lv_iload_n hx hb dX8_field_118 rfl (lv_at hl 1 rfl) ?_
          obtain ⟨b8, h⟩ := og h
          refine al_m10 hC hK hP (gin_ok b8) dX8_field_119 ?_
          refine lv_isub hx hb dX8_field_120 ?_
          obtain ⟨h1, h⟩ := Prod.mk.inj (Option.some.inj h)
          obtain ⟨rfl, rfl⟩ := Prod.mk.inj h
          exact hret _ _ _ _ _ dX8_field_121 h1 hP hD hS
        · replace h := (if_neg c6).symm.trans h
          refine lv_goto (tgt := 122) hx hb dX8_field_102 (by decide) ?_
          refine lv_iinc (v := (w2_86 + 1)) (lv' := [(2, .int (w2_86 + 1)), (0, .ref (ad 0))]) hx hb dX8_field_122 hl (k := 1) rfl rfl (by decide) rfl (fun ls hl => ?_)
          refine lv_goto (tgt := 86) hx hb dX8_field_125 (by decide) ?_
          exact ih I5 J5 (w2_86 + 1) _ _ _ h hP hD hS (lv_sub hl [1, 0] rfl)
  have loop_12 : ∀ (n : Nat) (I : SI) (J : SJ) (w1_12 : Int32)  (H : Heap) (locs : List Loc) (ls : Array Slot), FL_X8_field_12 n I J w1_12 = some (r, rI, rJ) → Pg g (mW ad g I J) H → va_D A (mW ad g I J) → va_S A s.heap H locs → lv_has ls 3 [(0, .ref (ad 0)), (1, .int w1_12)] → W p l e (k2_rm 3 67) s m args below meth c H locs 0 0 Q (F0 m 12 ls []) := by
    intro n
    induction n with
    | zero =>
      intro I J w1_12 H locs ls h
      exact no h
    | succ n ih =>
      intro I J w1_12 H locs ls h hP hD hS hl
      rw [FL_X8_field_12] at h
      refine lv_iload_n hx hb dX8_field_12 rfl (lv_at hl 1 rfl) ?_
      refine lv_if_eq (tgt := 60) hx hb dX8_field_13 (by decide) (fun c1 => ?_) (fun c1 => ?_)
      · replace h := (if_pos c1).symm.trans h
        refine lv_aload_n hx hb dX8_field_60 rfl (lv_at hl 0 rfl) ?_
        refine lv_iconst (v := 0) hx hb dX8_field_61 (by decide) ?_
        refine pt_X8_89 hC hK hP hD hS dX8_field_62 (fun H locs hP hD hS => ?_)
        refine lv_iload_n hx hb dX8_field_65 rfl (lv_at hl 1 rfl) ?_
        refine lv_if_ne (tgt := 78) hx hb dX8_field_66 (by decide) (fun c2 => ?_) (fun c2 => ?_)
        · replace h := (if_neg c2).symm.trans h
          refine lv_aload_n hx hb dX8_field_78 rfl (lv_at hl 0 rfl) ?_
          refine lv_iconst (v := 1) hx hb dX8_field_79 (by decide) ?_
          refine lv_iconst (v := 1) hx hb dX8_field_80 (by decide) ?_
          obtain ⟨⟨I3, J3⟩, hc3, h⟩ := ob h
          dsimp only at h
          refine callWVv (As := [.int (1 : Int32), .int (1 : Int32)]) (rest := []) hC (c_X8_passesAll l g ad (u2 I 0 14 (0 : Int32)) J (1 : Int32) (1 : Int32)  H.size hc3) lk_X8_132 rfl rfl ⟨Nat.le_of_ble_eq_true rfl, Nat.le_of_ble_eq_true rfl⟩ hP hK hD hA hS mo_0 rfl rfl rfl hl (Nat.le_of_ble_eq_true rfl) dX8_field_81 (fun H locs hP hD hS => ?_)
          refine lv_iconst (v := 0) hx hb dX8_field_84 (by decide) ?_
          refine lv_istore_n (lv' := [(2, .int (0 : Int32)), (0, .ref (ad 0)), (1, .int w1_12)]) hx hb dX8_field_85 rfl hl (by decide) rfl (fun ls hl => ?_)
          exact loop_86 3000 I3 J3 (0 : Int32) _ _ _ h hP hD hS (lv_sub hl [1, 0] rfl)
        · replace h := (if_pos c2).symm.trans h
          refine lv_sipush (v := -1000) hx hb dX8_field_69 (by decide) ?_
          refine lv_aload_n hx hb dX8_field_72 rfl (lv_at hl 0 rfl) ?_
          refine gt_X8_98 hC hK hP dX8_field_73 ?_
          refine lv_isub hx hb dX8_field_76 ?_
          obtain ⟨h1, h⟩ := Prod.mk.inj (Option.some.inj h)
          obtain ⟨rfl, rfl⟩ := Prod.mk.inj h
          exact hret _ _ _ _ _ dX8_field_77 h1 hP hD hS
      · replace h := (if_neg c1).symm.trans h
        refine lv_aload_n hx hb dX8_field_16 rfl (lv_at hl 0 rfl) ?_
        refine gt_X8_98 hC hK hP dX8_field_17 ?_
        refine lv_aload_n hx hb dX8_field_20 rfl (lv_at hl 0 rfl) ?_
        refine gt_X8_89 hC hK hP dX8_field_21 ?_
        refine lv_icmp_lt (tgt := 34) hx hb dX8_field_24 (by decide) (fun c9 => ?_) (fun c9 => ?_)
        · replace h := (if_pos c9).symm.trans h
          refine lv_aload_n hx hb dX8_field_34 rfl (lv_at hl 0 rfl) ?_
          obtain ⟨⟨r10, I10, J10⟩, hc10, h⟩ := ob h
          dsimp only at h
          refine callWVi (As := []) (rest := []) hC (c_X8_statement l g ad I J   H.size hc10) lk_X8_128 rfl rfl ⟨Nat.le_of_ble_eq_true rfl, Nat.le_of_ble_eq_true rfl⟩ hP hK hD hA hS mo_0 rfl rfl rfl hl (Nat.le_of_ble_eq_true rfl) dX8_field_35 (fun H locs hP hD hS => ?_)
          refine lv_istore_n (lv' := [(1, .int r10), (0, .ref (ad 0))]) hx hb dX8_field_38 rfl hl (by decide) rfl (fun ls hl => ?_)
          refine lv_aload_n hx hb dX8_field_39 rfl (lv_at hl 1 rfl) ?_
          refine lv_dup hx hb dX8_field_40 rfl ?_
          refine gt_X8_112 hC hK hP dX8_field_41 ?_
          refine lv_iload_n hx hb dX8_field_44 rfl (lv_at hl 0 rfl) ?_
          refine tern (α := Int32) (cnd := r10 = 0) (a := (0 : Int32)) (b := (1 : Int32)) (Wj := fun vj => W p l e (k2_rm 3 67) s m args below meth c H locs 0 0 Q (F0 m 53 ls [.int vj, .int (I10 0 16), .ref (ad 0)])) (fun k12a k12b => ?_) ?_
          · refine lv_if_eq (tgt := 52) hx hb dX8_field_45 (by decide) (fun c11 => ?_) (fun c11 => ?_)
            · refine lv_iconst (v := 0) hx hb dX8_field_52 (by decide) ?_
              exact k12a c11
            · refine lv_iconst (v := 1) hx hb dX8_field_48 (by decide) ?_
              refine lv_goto (tgt := 53) hx hb dX8_field_49 (by decide) ?_
              exact k12b c11
          · show W p l e (k2_rm 3 67) s m args below meth c H locs 0 0 Q (F0 m 53 ls [.int (if r10 = 0 then (0 : Int32) else (1 : Int32)), .int (I10 0 16), .ref (ad 0)])
            refine lv_iadd hx hb dX8_field_53 ?_
            refine pt_X8_112 hC hK hP hD hS dX8_field_54 (fun H locs hP hD hS => ?_)
            refine lv_goto (tgt := 12) hx hb dX8_field_57 (by decide) ?_
            exact ih (u2 I10 0 16 ((I10 0 16) + (if r10 = 0 then (0 : Int32) else (1 : Int32)))) J10 r10 _ _ _ h hP hD hS (lv_sub hl [1, 0] rfl)
        · replace h := (if_neg c9).symm.trans h
          refine lv_aload_n hx hb dX8_field_27 rfl (lv_at hl 0 rfl) ?_
          refine gt_X8_112 hC hK hP dX8_field_28 ?_
          refine lv_if_ne (tgt := 60) hx hb dX8_field_31 (by decide) (fun c13 => ?_) (fun c13 => ?_)
          · replace h := (if_neg c13).symm.trans h
            refine lv_aload_n hx hb dX8_field_60 rfl (lv_at hl 0 rfl) ?_
            refine lv_iconst (v := 0) hx hb dX8_field_61 (by decide) ?_
            refine pt_X8_89 hC hK hP hD hS dX8_field_62 (fun H locs hP hD hS => ?_)
            refine lv_iload_n hx hb dX8_field_65 rfl (lv_at hl 1 rfl) ?_
            refine lv_if_ne (tgt := 78) hx hb dX8_field_66 (by decide) (fun c14 => ?_) (fun c14 => ?_)
            · replace h := (if_neg c14).symm.trans h
              refine lv_aload_n hx hb dX8_field_78 rfl (lv_at hl 0 rfl) ?_
              refine lv_iconst (v := 1) hx hb dX8_field_79 (by decide) ?_
              refine lv_iconst (v := 1) hx hb dX8_field_80 (by decide) ?_
              obtain ⟨⟨I15, J15⟩, hc15, h⟩ := ob h
              dsimp only at h
              refine callWVv (As := [.int (1 : Int32), .int (1 : Int32)]) (rest := []) hC (c_X8_passesAll l g ad (u2 I 0 14 (0 : Int32)) J (1 : Int32) (1 : Int32)  H.size hc15) lk_X8_132 rfl rfl ⟨Nat.le_of_ble_eq_true rfl, Nat.le_of_ble_eq_true rfl⟩ hP hK hD hA hS mo_0 rfl rfl rfl hl (Nat.le_of_ble_eq_true rfl) dX8_field_81 (fun H locs hP hD hS => ?_)
              refine lv_iconst (v := 0) hx hb dX8_field_84 (by decide) ?_
              refine lv_istore_n (lv' := [(2, .int (0 : Int32)), (0, .ref (ad 0)), (1, .int w1_12)]) hx hb dX8_field_85 rfl hl (by decide) rfl (fun ls hl => ?_)
              exact loop_86 3000 I15 J15 (0 : Int32) _ _ _ h hP hD hS (lv_sub hl [1, 0] rfl)
            · replace h := (if_pos c14).symm.trans h
              refine lv_sipush (v := -1000) hx hb dX8_field_69 (by decide) ?_
              refine lv_aload_n hx hb dX8_field_72 rfl (lv_at hl 0 rfl) ?_
              refine gt_X8_98 hC hK hP dX8_field_73 ?_
              refine lv_isub hx hb dX8_field_76 ?_
              obtain ⟨h1, h⟩ := Prod.mk.inj (Option.some.inj h)
              obtain ⟨rfl, rfl⟩ := Prod.mk.inj h
              exact hret _ _ _ _ _ dX8_field_77 h1 hP hD hS
          · replace h := (if_pos c13).symm.trans h
            refine lv_aload_n hx hb dX8_field_34 rfl (lv_at hl 0 rfl) ?_
            obtain ⟨⟨r16, I16, J16⟩, hc16, h⟩ := ob h
            dsimp only at h
            refine callWVi (As := []) (rest := []) hC (c_X8_statement l g ad I J   H.size hc16) lk_X8_128 rfl rfl ⟨Nat.le_of_ble_eq_true rfl, Nat.le_of_ble_eq_true rfl⟩ hP hK hD hA hS mo_0 rfl rfl rfl hl (Nat.le_of_ble_eq_true rfl) dX8_field_35 (fun H locs hP hD hS => ?_)
            refine lv_istore_n (lv' := [(1, .int r16), (0, .ref (ad 0))]) hx hb dX8_field_38 rfl hl (by decide) rfl (fun ls hl => ?_)
            refine lv_aload_n hx hb dX8_field_39 rfl (lv_at hl 1 rfl) ?_
            refine lv_dup hx hb dX8_field_40 rfl ?_
            refine gt_X8_112 hC hK hP dX8_field_41 ?_
            refine lv_iload_n hx hb dX8_field_44 rfl (lv_at hl 0 rfl) ?_
            refine tern (α := Int32) (cnd := r16 = 0) (a := (0 : Int32)) (b := (1 : Int32)) (Wj := fun vj => W p l e (k2_rm 3 67) s m args below meth c H locs 0 0 Q (F0 m 53 ls [.int vj, .int (I16 0 16), .ref (ad 0)])) (fun k18a k18b => ?_) ?_
            · refine lv_if_eq (tgt := 52) hx hb dX8_field_45 (by decide) (fun c17 => ?_) (fun c17 => ?_)
              · refine lv_iconst (v := 0) hx hb dX8_field_52 (by decide) ?_
                exact k18a c17
              · refine lv_iconst (v := 1) hx hb dX8_field_48 (by decide) ?_
                refine lv_goto (tgt := 53) hx hb dX8_field_49 (by decide) ?_
                exact k18b c17
            · show W p l e (k2_rm 3 67) s m args below meth c H locs 0 0 Q (F0 m 53 ls [.int (if r16 = 0 then (0 : Int32) else (1 : Int32)), .int (I16 0 16), .ref (ad 0)])
              refine lv_iadd hx hb dX8_field_53 ?_
              refine pt_X8_112 hC hK hP hD hS dX8_field_54 (fun H locs hP hD hS => ?_)
              refine lv_goto (tgt := 12) hx hb dX8_field_57 (by decide) ?_
              exact ih (u2 I16 0 16 ((I16 0 16) + (if r16 = 0 then (0 : Int32) else (1 : Int32)))) J16 r16 _ _ _ h hP hD hS (lv_sub hl [1, 0] rfl)
  unfold F_X8_field at h
  refine lv_aload_n hx hb dX8_field_0 rfl (lv_at hl 0 rfl) ?_
  refine lv_iconst (v := 0) hx hb dX8_field_1 (by decide) ?_
  refine pt_X8_98 hC hK hP hD hS dX8_field_2 (fun H locs hP hD hS => ?_)
  refine lv_aload_n hx hb dX8_field_5 rfl (lv_at hl 0 rfl) ?_
  refine lv_iconst (v := 0) hx hb dX8_field_6 (by decide) ?_
  refine pt_X8_112 hC hK hP hD hS dX8_field_7 (fun H locs hP hD hS => ?_)
  refine lv_iconst (v := 1) hx hb dX8_field_10 (by decide) ?_
  refine lv_istore_n (lv' := [(1, .int (1 : Int32)), (0, .ref (ad 0))]) hx hb dX8_field_11 rfl hl (by decide) rfl (fun ls hl => ?_)
  exact loop_12 3000 (u2 (u2 I 0 15 (0 : Int32)) 0 16 (0 : Int32)) J (1 : Int32) _ _ _ h hP hD hS (lv_sub hl [1, 0] rfl)
