def xW (ad : Nat → Nat) (g : Gx) (I : SI) (J : SJ) : va_W := [
  (ad 0, .inr (1, [.ref (ad 1), .ref (ad 2), .ref (ad 3), .ref (ad 4), .ref (ad 5), .ref (ad 6), .int (I 0 6), .int (I 0 7), .int (I 0 8)])),
  (ad 1, .inl (g.2.1, 8, .inl (I 1))),
  (ad 2, .inl (g.2.1, 8, .inl (I 2))),
  (ad 3, .inl (g.2.1, 8, .inl (I 3))),
  (ad 4, .inl (g.2.1, 6, .inl (I 4))),
  (ad 5, .inl (g.2.1, 6, .inl (I 5))),
  (ad 6, .inl (g.2.2.2, 8, .inr (.inr (.inr (.inr (fun i => some (ad (7 + i)))))))),
  (ad 7, .inr (4, [.int (I 7 0), .int (I 7 1), .int (I 7 2), .int (I 7 3)])),
  (ad 8, .inr (4, [.int (I 8 0), .int (I 8 1), .int (I 8 2), .int (I 8 3)])),
  (ad 9, .inr (4, [.int (I 9 0), .int (I 9 1), .int (I 9 2), .int (I 9 3)])),
  (ad 10, .inr (4, [.int (I 10 0), .int (I 10 1), .int (I 10 2), .int (I 10 3)])),
  (ad 11, .inr (4, [.int (I 11 0), .int (I 11 1), .int (I 11 2), .int (I 11 3)])),
  (ad 12, .inr (4, [.int (I 12 0), .int (I 12 1), .int (I 12 2), .int (I 12 3)])),
  (ad 13, .inr (4, [.int (I 13 0), .int (I 13 1), .int (I 13 2), .int (I 13 3)])),
  (ad 14, .inr (4, [.int (I 14 0), .int (I 14 1), .int (I 14 2), .int (I 14 3)])),
  (ad 15, .inr (1, [.ref (ad 16), .ref (ad 17), .ref (ad 18), .ref (ad 19), .ref (ad 20), .ref (ad 21), .int (I 15 6), .int (I 15 7), .int (I 15 8)])),
  (ad 16, .inl (g.2.1, 8, .inl (I 16))),
  (ad 17, .inl (g.2.1, 8, .inl (I 17))),
  (ad 18, .inl (g.2.1, 8, .inl (I 18))),
  (ad 19, .inl (g.2.1, 6, .inl (I 19))),
  (ad 20, .inl (g.2.1, 6, .inl (I 20))),
  (ad 21, .inl (g.2.2.2, 8, .inr (.inr (.inr (.inr (fun i => some (ad (22 + i)))))))),
  (ad 22, .inr (4, [.int (I 22 0), .int (I 22 1), .int (I 22 2), .int (I 22 3)])),
  (ad 23, .inr (4, [.int (I 23 0), .int (I 23 1), .int (I 23 2), .int (I 23 3)])),
  (ad 24, .inr (4, [.int (I 24 0), .int (I 24 1), .int (I 24 2), .int (I 24 3)])),
  (ad 25, .inr (4, [.int (I 25 0), .int (I 25 1), .int (I 25 2), .int (I 25 3)])),
  (ad 26, .inr (4, [.int (I 26 0), .int (I 26 1), .int (I 26 2), .int (I 26 3)])),
  (ad 27, .inr (4, [.int (I 27 0), .int (I 27 1), .int (I 27 2), .int (I 27 3)])),
  (ad 28, .inr (4, [.int (I 28 0), .int (I 28 1), .int (I 28 2), .int (I 28 3)])),
  (ad 29, .inr (4, [.int (I 29 0), .int (I 29 1), .int (I 29 2), .int (I 29 3)])),
  (ad 30, .inr (1, [.ref (ad 31), .ref (ad 32), .ref (ad 33), .ref (ad 34), .ref (ad 35), .ref (ad 36), .int (I 30 6), .int (I 30 7), .int (I 30 8)])),
  (ad 31, .inl (g.2.1, 8, .inl (I 31))),
  (ad 32, .inl (g.2.1, 8, .inl (I 32))),
  (ad 33, .inl (g.2.1, 8, .inl (I 33))),
  (ad 34, .inl (g.2.1, 6, .inl (I 34))),
  (ad 35, .inl (g.2.1, 6, .inl (I 35))),
  (ad 36, .inl (g.2.2.2, 8, .inr (.inr (.inr (.inr (fun i => some (ad (37 + i)))))))),
  (ad 37, .inr (4, [.int (I 37 0), .int (I 37 1), .int (I 37 2), .int (I 37 3)])),
  (ad 38, .inr (4, [.int (I 38 0), .int (I 38 1), .int (I 38 2), .int (I 38 3)])),
  (ad 39, .inr (4, [.int (I 39 0), .int (I 39 1), .int (I 39 2), .int (I 39 3)])),
  (ad 40, .inr (4, [.int (I 40 0), .int (I 40 1), .int (I 40 2), .int (I 40 3)])),
  (ad 41, .inr (4, [.int (I 41 0), .int (I 41 1), .int (I 41 2), .int (I 41 3)])),
  (ad 42, .inr (4, [.int (I 42 0), .int (I 42 1), .int (I 42 2), .int (I 42 3)])),
  (ad 43, .inr (4, [.int (I 43 0), .int (I 43 1), .int (I 43 2), .int (I 43 3)])),
  (ad 44, .inr (4, [.int (I 44 0), .int (I 44 1), .int (I 44 2), .int (I 44 3)])),
  (ad 45, .inr (5, [.ref (ad 46), .int (I 45 1), .int (I 45 2)])),
  (ad 46, .inl (g.2.1, 64, .inl (I 46))),
  (ad 47, .inr (3, [.ref (ad 0), .ref (ad 48), .ref (ad 49), .ref (ad 50), .ref (ad 51), .int (I 47 5), .int (I 47 6), .int (I 47 7), .int (I 47 8), .long (J 47 9)])),
  (ad 48, .inl (g.2.1, 9, .inl (I 48))),
  (ad 49, .inl (g.2.1, 8, .inl (I 49))),
  (ad 50, .inl (g.2.1, 8, .inl (I 50))),
  (ad 51, .inl (g.2.1, 72, .inl (I 51))),
  (ad 52, .inr (2, [.ref (ad 53), .ref (ad 54)])),
  (ad 53, .inl (g.2.2.1, 21, .inr (.inl (J 53)))),
  (ad 54, .inl (g.2.2.1, 21, .inr (.inl (J 54)))),
  (ad 55, .inr (0, [.ref (ad 56), .ref (ad 57), .int (I 55 2)])),
  (ad 56, .inl (g.2.2.1, 40, .inr (.inl (J 56)))),
  (ad 57, .inl (g.2.2.1, 44, .inr (.inl (J 57)))),
  (ad 58, .inr (4, [.int (I 58 0), .int (I 58 1), .int (I 58 2), .int (I 58 3)])),
  (ad 59, .inr (6, [.ref (ad 0), .ref (ad 15), .ref (ad 30), .ref (ad 45), .ref (ad 47), .ref (ad 52), .ref (ad 55), .ref (ad 58), .ref (ad 60), .ref (ad 61), .int (I 59 10), .int (I 59 11)])),
  (ad 60, .inl (g.2.1, 16, .inl (I 60))),
  (ad 61, .inl (g.2.1, 6, .inl (I 61)))]
def mW (ad : Nat → Nat) (g : Gx) (I : SI) (J : SJ) : va_W := [
  (ad 0, .inr (7, [.ref (ad 1), .ref (ad 2), .ref (ad 3), .ref (ad 4), .ref (ad 5), .ref (ad 6), .ref (ad 7), .int (I 0 7), .int (I 0 8), .ref (ad 8), .ref (ad 9), .ref (ad 10), .ref (ad 11), .ref (ad 12), .int (I 0 14), .int (I 0 15), .int (I 0 16), .ref (ad 13), .ref (ad 14), .ref (ad 15), .ref (ad 16), .int (I 0 21), .int (I 0 22), .int (I 0 23), .int (I 0 24), .int (I 0 25), .int (I 0 26), .int (I 0 27), .long (J 0 28), .ref (ad 17), .ref (ad 18), .ref (ad 19), .int (I 0 32), .int (I 0 33), .int (I 0 34), .ref (ad 20), .int (I 0 36), .ref (ad 21), .int (I 0 38), .int (I 0 39), .int (I 0 40)])),
  (ad 1, .inl (g.2.1, 7, .inl (I 1))),
  (ad 2, .inl (g.2.1, 8, .inl (I 2))),
  (ad 3, .inl (g.2.1, 8, .inl (I 3))),
  (ad 4, .inl (g.2.1, 8, .inl (I 4))),
  (ad 5, .inl (g.2.1, 8, .inl (I 5))),
  (ad 6, .inl (g.2.1, 8, .inl (I 6))),
  (ad 7, .inl (g.2.1, 8, .inl (I 7))),
  (ad 8, .inl (g.2.1, 64, .inl (I 8))),
  (ad 9, .inl (g.2.1, 32, .inl (I 9))),
  (ad 10, .inl (g.2.1, 32, .inl (I 10))),
  (ad 11, .inl (g.2.1, 32, .inl (I 11))),
  (ad 12, .inl (g.2.1, 32, .inl (I 12))),
  (ad 13, .inl (g.2.1, 8, .inl (I 13))),
  (ad 14, .inl (g.2.1, 8, .inl (I 14))),
  (ad 15, .inl (g.2.1, 8, .inl (I 15))),
  (ad 16, .inl (g.2.1, 8, .inl (I 16))),
  (ad 17, .inl (g.2.2.1, 44, .inr (.inl (J 17)))),
  (ad 18, .inl (g.2.1, 44, .inl (I 18))),
  (ad 19, .inl (g.2.1, 8, .inl (I 19))),
  (ad 20, .inl (g.2.1, 16, .inl (I 20))),
  (ad 21, .inl (g.2.1, 200, .inl (I 21)))]
def isE (q : Nat) : Prop := q = 0 ∨ q = 15 ∨ q = 30
def isT (t : Nat) : Prop := (7 ≤ t ∧ t < 15) ∨ (22 ≤ t ∧ t < 30) ∨ (37 ≤ t ∧ t < 45) ∨ t = 58
theorem isT_c {t : Nat} (h : isT t) : t = 7 ∨ t = 8 ∨ t = 9 ∨ t = 10 ∨ t = 11 ∨ t = 12 ∨ t = 13 ∨ t = 14 ∨ t = 22 ∨ t = 23 ∨ t = 24 ∨ t = 25 ∨ t = 26 ∨ t = 27 ∨ t = 28 ∨ t = 29 ∨ t = 37 ∨ t = 38 ∨ t = 39 ∨ t = 40 ∨ t = 41 ∨ t = 42 ∨ t = 43 ∨ t = 44 ∨ t = 58 := by unfold isT at h; omega
theorem isT_e {q i : Nat} (h : isE q) (hi : i < 8) : isT (q + 7 + i) := by unfold isE at h; unfold isT; omega
section WX
variable {g : Gx} {ad : Nat → Nat} {I : SI} {J : SJ}
theorem xo_0 : (xW ad g I J)[0]? = some (ad 0, .inr (1, [.ref (ad 1), .ref (ad 2), .ref (ad 3), .ref (ad 4), .ref (ad 5), .ref (ad 6), .int (I 0 6), .int (I 0 7), .int (I 0 8)])) := rfl
theorem xo_1 : (xW ad g I J)[1]? = some (ad 1, .inl (g.2.1, 8, .inl (I 1))) := rfl
theorem xs_1 {f : Nat → Int32} : (xW ad g I J).set 1 (ad 1, .inl (g.2.1, 8, .inl f)) = xW ad g (u1 I 1 f) J := rfl
theorem xo_2 : (xW ad g I J)[2]? = some (ad 2, .inl (g.2.1, 8, .inl (I 2))) := rfl
theorem xs_2 {f : Nat → Int32} : (xW ad g I J).set 2 (ad 2, .inl (g.2.1, 8, .inl f)) = xW ad g (u1 I 2 f) J := rfl
theorem xo_3 : (xW ad g I J)[3]? = some (ad 3, .inl (g.2.1, 8, .inl (I 3))) := rfl
theorem xs_3 {f : Nat → Int32} : (xW ad g I J).set 3 (ad 3, .inl (g.2.1, 8, .inl f)) = xW ad g (u1 I 3 f) J := rfl
theorem xo_4 : (xW ad g I J)[4]? = some (ad 4, .inl (g.2.1, 6, .inl (I 4))) := rfl
theorem xs_4 {f : Nat → Int32} : (xW ad g I J).set 4 (ad 4, .inl (g.2.1, 6, .inl f)) = xW ad g (u1 I 4 f) J := rfl
theorem xo_5 : (xW ad g I J)[5]? = some (ad 5, .inl (g.2.1, 6, .inl (I 5))) := rfl
theorem xs_5 {f : Nat → Int32} : (xW ad g I J).set 5 (ad 5, .inl (g.2.1, 6, .inl f)) = xW ad g (u1 I 5 f) J := rfl
theorem xo_6 : (xW ad g I J)[6]? = some (ad 6, .inl (g.2.2.2, 8, .inr (.inr (.inr (.inr (fun i => some (ad (7 + i)))))))) := rfl
theorem xo_7 : (xW ad g I J)[7]? = some (ad 7, .inr (4, [.int (I 7 0), .int (I 7 1), .int (I 7 2), .int (I 7 3)])) := rfl
theorem xo_8 : (xW ad g I J)[8]? = some (ad 8, .inr (4, [.int (I 8 0), .int (I 8 1), .int (I 8 2), .int (I 8 3)])) := rfl
theorem xo_9 : (xW ad g I J)[9]? = some (ad 9, .inr (4, [.int (I 9 0), .int (I 9 1), .int (I 9 2), .int (I 9 3)])) := rfl
theorem xo_10 : (xW ad g I J)[10]? = some (ad 10, .inr (4, [.int (I 10 0), .int (I 10 1), .int (I 10 2), .int (I 10 3)])) := rfl
theorem xo_11 : (xW ad g I J)[11]? = some (ad 11, .inr (4, [.int (I 11 0), .int (I 11 1), .int (I 11 2), .int (I 11 3)])) := rfl
theorem xo_12 : (xW ad g I J)[12]? = some (ad 12, .inr (4, [.int (I 12 0), .int (I 12 1), .int (I 12 2), .int (I 12 3)])) := rfl
theorem xo_13 : (xW ad g I J)[13]? = some (ad 13, .inr (4, [.int (I 13 0), .int (I 13 1), .int (I 13 2), .int (I 13 3)])) := rfl
theorem xo_14 : (xW ad g I J)[14]? = some (ad 14, .inr (4, [.int (I 14 0), .int (I 14 1), .int (I 14 2), .int (I 14 3)])) := rfl
theorem xo_15 : (xW ad g I J)[15]? = some (ad 15, .inr (1, [.ref (ad 16), .ref (ad 17), .ref (ad 18), .ref (ad 19), .ref (ad 20), .ref (ad 21), .int (I 15 6), .int (I 15 7), .int (I 15 8)])) := rfl
theorem xo_16 : (xW ad g I J)[16]? = some (ad 16, .inl (g.2.1, 8, .inl (I 16))) := rfl
theorem xs_16 {f : Nat → Int32} : (xW ad g I J).set 16 (ad 16, .inl (g.2.1, 8, .inl f)) = xW ad g (u1 I 16 f) J := rfl
theorem xo_17 : (xW ad g I J)[17]? = some (ad 17, .inl (g.2.1, 8, .inl (I 17))) := rfl
theorem xs_17 {f : Nat → Int32} : (xW ad g I J).set 17 (ad 17, .inl (g.2.1, 8, .inl f)) = xW ad g (u1 I 17 f) J := rfl
theorem xo_18 : (xW ad g I J)[18]? = some (ad 18, .inl (g.2.1, 8, .inl (I 18))) := rfl
theorem xs_18 {f : Nat → Int32} : (xW ad g I J).set 18 (ad 18, .inl (g.2.1, 8, .inl f)) = xW ad g (u1 I 18 f) J := rfl
theorem xo_19 : (xW ad g I J)[19]? = some (ad 19, .inl (g.2.1, 6, .inl (I 19))) := rfl
theorem xs_19 {f : Nat → Int32} : (xW ad g I J).set 19 (ad 19, .inl (g.2.1, 6, .inl f)) = xW ad g (u1 I 19 f) J := rfl
theorem xo_20 : (xW ad g I J)[20]? = some (ad 20, .inl (g.2.1, 6, .inl (I 20))) := rfl
theorem xs_20 {f : Nat → Int32} : (xW ad g I J).set 20 (ad 20, .inl (g.2.1, 6, .inl f)) = xW ad g (u1 I 20 f) J := rfl
theorem xo_21 : (xW ad g I J)[21]? = some (ad 21, .inl (g.2.2.2, 8, .inr (.inr (.inr (.inr (fun i => some (ad (22 + i)))))))) := rfl
theorem xo_22 : (xW ad g I J)[22]? = some (ad 22, .inr (4, [.int (I 22 0), .int (I 22 1), .int (I 22 2), .int (I 22 3)])) := rfl
theorem xo_23 : (xW ad g I J)[23]? = some (ad 23, .inr (4, [.int (I 23 0), .int (I 23 1), .int (I 23 2), .int (I 23 3)])) := rfl
theorem xo_24 : (xW ad g I J)[24]? = some (ad 24, .inr (4, [.int (I 24 0), .int (I 24 1), .int (I 24 2), .int (I 24 3)])) := rfl
theorem xo_25 : (xW ad g I J)[25]? = some (ad 25, .inr (4, [.int (I 25 0), .int (I 25 1), .int (I 25 2), .int (I 25 3)])) := rfl
theorem xo_26 : (xW ad g I J)[26]? = some (ad 26, .inr (4, [.int (I 26 0), .int (I 26 1), .int (I 26 2), .int (I 26 3)])) := rfl
theorem xo_27 : (xW ad g I J)[27]? = some (ad 27, .inr (4, [.int (I 27 0), .int (I 27 1), .int (I 27 2), .int (I 27 3)])) := rfl
theorem xo_28 : (xW ad g I J)[28]? = some (ad 28, .inr (4, [.int (I 28 0), .int (I 28 1), .int (I 28 2), .int (I 28 3)])) := rfl
theorem xo_29 : (xW ad g I J)[29]? = some (ad 29, .inr (4, [.int (I 29 0), .int (I 29 1), .int (I 29 2), .int (I 29 3)])) := rfl
theorem xo_30 : (xW ad g I J)[30]? = some (ad 30, .inr (1, [.ref (ad 31), .ref (ad 32), .ref (ad 33), .ref (ad 34), .ref (ad 35), .ref (ad 36), .int (I 30 6), .int (I 30 7), .int (I 30 8)])) := rfl
theorem xo_31 : (xW ad g I J)[31]? = some (ad 31, .inl (g.2.1, 8, .inl (I 31))) := rfl
theorem xs_31 {f : Nat → Int32} : (xW ad g I J).set 31 (ad 31, .inl (g.2.1, 8, .inl f)) = xW ad g (u1 I 31 f) J := rfl
theorem xo_32 : (xW ad g I J)[32]? = some (ad 32, .inl (g.2.1, 8, .inl (I 32))) := rfl
theorem xs_32 {f : Nat → Int32} : (xW ad g I J).set 32 (ad 32, .inl (g.2.1, 8, .inl f)) = xW ad g (u1 I 32 f) J := rfl
theorem xo_33 : (xW ad g I J)[33]? = some (ad 33, .inl (g.2.1, 8, .inl (I 33))) := rfl
theorem xs_33 {f : Nat → Int32} : (xW ad g I J).set 33 (ad 33, .inl (g.2.1, 8, .inl f)) = xW ad g (u1 I 33 f) J := rfl
theorem xo_34 : (xW ad g I J)[34]? = some (ad 34, .inl (g.2.1, 6, .inl (I 34))) := rfl
theorem xs_34 {f : Nat → Int32} : (xW ad g I J).set 34 (ad 34, .inl (g.2.1, 6, .inl f)) = xW ad g (u1 I 34 f) J := rfl
theorem xo_35 : (xW ad g I J)[35]? = some (ad 35, .inl (g.2.1, 6, .inl (I 35))) := rfl
theorem xs_35 {f : Nat → Int32} : (xW ad g I J).set 35 (ad 35, .inl (g.2.1, 6, .inl f)) = xW ad g (u1 I 35 f) J := rfl
theorem xo_36 : (xW ad g I J)[36]? = some (ad 36, .inl (g.2.2.2, 8, .inr (.inr (.inr (.inr (fun i => some (ad (37 + i)))))))) := rfl
theorem xo_37 : (xW ad g I J)[37]? = some (ad 37, .inr (4, [.int (I 37 0), .int (I 37 1), .int (I 37 2), .int (I 37 3)])) := rfl
theorem xo_38 : (xW ad g I J)[38]? = some (ad 38, .inr (4, [.int (I 38 0), .int (I 38 1), .int (I 38 2), .int (I 38 3)])) := rfl
theorem xo_39 : (xW ad g I J)[39]? = some (ad 39, .inr (4, [.int (I 39 0), .int (I 39 1), .int (I 39 2), .int (I 39 3)])) := rfl
theorem xo_40 : (xW ad g I J)[40]? = some (ad 40, .inr (4, [.int (I 40 0), .int (I 40 1), .int (I 40 2), .int (I 40 3)])) := rfl
theorem xo_41 : (xW ad g I J)[41]? = some (ad 41, .inr (4, [.int (I 41 0), .int (I 41 1), .int (I 41 2), .int (I 41 3)])) := rfl
theorem xo_42 : (xW ad g I J)[42]? = some (ad 42, .inr (4, [.int (I 42 0), .int (I 42 1), .int (I 42 2), .int (I 42 3)])) := rfl
theorem xo_43 : (xW ad g I J)[43]? = some (ad 43, .inr (4, [.int (I 43 0), .int (I 43 1), .int (I 43 2), .int (I 43 3)])) := rfl
theorem xo_44 : (xW ad g I J)[44]? = some (ad 44, .inr (4, [.int (I 44 0), .int (I 44 1), .int (I 44 2), .int (I 44 3)])) := rfl
theorem xo_45 : (xW ad g I J)[45]? = some (ad 45, .inr (5, [.ref (ad 46), .int (I 45 1), .int (I 45 2)])) := rfl
theorem xp_45_1 {v : Int32} : (xW ad g I J).set 45 (ad 45, .inr (5, ([.ref (ad 46), .int (I 45 1), .int (I 45 2)] : List Value).set 1 (.int v))) = xW ad g (u2 I 45 1 v) J := rfl
theorem xp_45_2 {v : Int32} : (xW ad g I J).set 45 (ad 45, .inr (5, ([.ref (ad 46), .int (I 45 1), .int (I 45 2)] : List Value).set 2 (.int v))) = xW ad g (u2 I 45 2 v) J := rfl
theorem xo_46 : (xW ad g I J)[46]? = some (ad 46, .inl (g.2.1, 64, .inl (I 46))) := rfl
theorem xs_46 {f : Nat → Int32} : (xW ad g I J).set 46 (ad 46, .inl (g.2.1, 64, .inl f)) = xW ad g (u1 I 46 f) J := rfl
theorem xo_47 : (xW ad g I J)[47]? = some (ad 47, .inr (3, [.ref (ad 0), .ref (ad 48), .ref (ad 49), .ref (ad 50), .ref (ad 51), .int (I 47 5), .int (I 47 6), .int (I 47 7), .int (I 47 8), .long (J 47 9)])) := rfl
theorem xp_47_5 {v : Int32} : (xW ad g I J).set 47 (ad 47, .inr (3, ([.ref (ad 0), .ref (ad 48), .ref (ad 49), .ref (ad 50), .ref (ad 51), .int (I 47 5), .int (I 47 6), .int (I 47 7), .int (I 47 8), .long (J 47 9)] : List Value).set 5 (.int v))) = xW ad g (u2 I 47 5 v) J := rfl
theorem xp_47_6 {v : Int32} : (xW ad g I J).set 47 (ad 47, .inr (3, ([.ref (ad 0), .ref (ad 48), .ref (ad 49), .ref (ad 50), .ref (ad 51), .int (I 47 5), .int (I 47 6), .int (I 47 7), .int (I 47 8), .long (J 47 9)] : List Value).set 6 (.int v))) = xW ad g (u2 I 47 6 v) J := rfl
theorem xp_47_7 {v : Int32} : (xW ad g I J).set 47 (ad 47, .inr (3, ([.ref (ad 0), .ref (ad 48), .ref (ad 49), .ref (ad 50), .ref (ad 51), .int (I 47 5), .int (I 47 6), .int (I 47 7), .int (I 47 8), .long (J 47 9)] : List Value).set 7 (.int v))) = xW ad g (u2 I 47 7 v) J := rfl
theorem xp_47_8 {v : Int32} : (xW ad g I J).set 47 (ad 47, .inr (3, ([.ref (ad 0), .ref (ad 48), .ref (ad 49), .ref (ad 50), .ref (ad 51), .int (I 47 5), .int (I 47 6), .int (I 47 7), .int (I 47 8), .long (J 47 9)] : List Value).set 8 (.int v))) = xW ad g (u2 I 47 8 v) J := rfl
theorem xp_47_9 {v : Int64} : (xW ad g I J).set 47 (ad 47, .inr (3, ([.ref (ad 0), .ref (ad 48), .ref (ad 49), .ref (ad 50), .ref (ad 51), .int (I 47 5), .int (I 47 6), .int (I 47 7), .int (I 47 8), .long (J 47 9)] : List Value).set 9 (.long v))) = xW ad g I (u2L J 47 9 v) := rfl
theorem xo_48 : (xW ad g I J)[48]? = some (ad 48, .inl (g.2.1, 9, .inl (I 48))) := rfl
theorem xs_48 {f : Nat → Int32} : (xW ad g I J).set 48 (ad 48, .inl (g.2.1, 9, .inl f)) = xW ad g (u1 I 48 f) J := rfl
theorem xo_49 : (xW ad g I J)[49]? = some (ad 49, .inl (g.2.1, 8, .inl (I 49))) := rfl
theorem xs_49 {f : Nat → Int32} : (xW ad g I J).set 49 (ad 49, .inl (g.2.1, 8, .inl f)) = xW ad g (u1 I 49 f) J := rfl
theorem xo_50 : (xW ad g I J)[50]? = some (ad 50, .inl (g.2.1, 8, .inl (I 50))) := rfl
theorem xs_50 {f : Nat → Int32} : (xW ad g I J).set 50 (ad 50, .inl (g.2.1, 8, .inl f)) = xW ad g (u1 I 50 f) J := rfl
theorem xo_51 : (xW ad g I J)[51]? = some (ad 51, .inl (g.2.1, 72, .inl (I 51))) := rfl
theorem xs_51 {f : Nat → Int32} : (xW ad g I J).set 51 (ad 51, .inl (g.2.1, 72, .inl f)) = xW ad g (u1 I 51 f) J := rfl
theorem xo_52 : (xW ad g I J)[52]? = some (ad 52, .inr (2, [.ref (ad 53), .ref (ad 54)])) := rfl
theorem xo_53 : (xW ad g I J)[53]? = some (ad 53, .inl (g.2.2.1, 21, .inr (.inl (J 53)))) := rfl
theorem xs_53 {f : Nat → Int64} : (xW ad g I J).set 53 (ad 53, .inl (g.2.2.1, 21, .inr (.inl f))) = xW ad g I (u1 J 53 f) := rfl
theorem xo_54 : (xW ad g I J)[54]? = some (ad 54, .inl (g.2.2.1, 21, .inr (.inl (J 54)))) := rfl
theorem xs_54 {f : Nat → Int64} : (xW ad g I J).set 54 (ad 54, .inl (g.2.2.1, 21, .inr (.inl f))) = xW ad g I (u1 J 54 f) := rfl
theorem xo_55 : (xW ad g I J)[55]? = some (ad 55, .inr (0, [.ref (ad 56), .ref (ad 57), .int (I 55 2)])) := rfl
theorem xp_55_2 {v : Int32} : (xW ad g I J).set 55 (ad 55, .inr (0, ([.ref (ad 56), .ref (ad 57), .int (I 55 2)] : List Value).set 2 (.int v))) = xW ad g (u2 I 55 2 v) J := rfl
theorem xo_56 : (xW ad g I J)[56]? = some (ad 56, .inl (g.2.2.1, 40, .inr (.inl (J 56)))) := rfl
theorem xs_56 {f : Nat → Int64} : (xW ad g I J).set 56 (ad 56, .inl (g.2.2.1, 40, .inr (.inl f))) = xW ad g I (u1 J 56 f) := rfl
theorem xo_57 : (xW ad g I J)[57]? = some (ad 57, .inl (g.2.2.1, 44, .inr (.inl (J 57)))) := rfl
theorem xs_57 {f : Nat → Int64} : (xW ad g I J).set 57 (ad 57, .inl (g.2.2.1, 44, .inr (.inl f))) = xW ad g I (u1 J 57 f) := rfl
theorem xo_58 : (xW ad g I J)[58]? = some (ad 58, .inr (4, [.int (I 58 0), .int (I 58 1), .int (I 58 2), .int (I 58 3)])) := rfl
theorem xo_59 : (xW ad g I J)[59]? = some (ad 59, .inr (6, [.ref (ad 0), .ref (ad 15), .ref (ad 30), .ref (ad 45), .ref (ad 47), .ref (ad 52), .ref (ad 55), .ref (ad 58), .ref (ad 60), .ref (ad 61), .int (I 59 10), .int (I 59 11)])) := rfl
theorem xp_59_10 {v : Int32} : (xW ad g I J).set 59 (ad 59, .inr (6, ([.ref (ad 0), .ref (ad 15), .ref (ad 30), .ref (ad 45), .ref (ad 47), .ref (ad 52), .ref (ad 55), .ref (ad 58), .ref (ad 60), .ref (ad 61), .int (I 59 10), .int (I 59 11)] : List Value).set 10 (.int v))) = xW ad g (u2 I 59 10 v) J := rfl
theorem xp_59_11 {v : Int32} : (xW ad g I J).set 59 (ad 59, .inr (6, ([.ref (ad 0), .ref (ad 15), .ref (ad 30), .ref (ad 45), .ref (ad 47), .ref (ad 52), .ref (ad 55), .ref (ad 58), .ref (ad 60), .ref (ad 61), .int (I 59 10), .int (I 59 11)] : List Value).set 11 (.int v))) = xW ad g (u2 I 59 11 v) J := rfl
theorem xo_60 : (xW ad g I J)[60]? = some (ad 60, .inl (g.2.1, 16, .inl (I 60))) := rfl
theorem xs_60 {f : Nat → Int32} : (xW ad g I J).set 60 (ad 60, .inl (g.2.1, 16, .inl f)) = xW ad g (u1 I 60 f) J := rfl
theorem xo_61 : (xW ad g I J)[61]? = some (ad 61, .inl (g.2.1, 6, .inl (I 61))) := rfl
theorem xs_61 {f : Nat → Int32} : (xW ad g I J).set 61 (ad 61, .inl (g.2.1, 6, .inl f)) = xW ad g (u1 I 61 f) J := rfl
theorem mo_0 : (mW ad g I J)[0]? = some (ad 0, .inr (7, [.ref (ad 1), .ref (ad 2), .ref (ad 3), .ref (ad 4), .ref (ad 5), .ref (ad 6), .ref (ad 7), .int (I 0 7), .int (I 0 8), .ref (ad 8), .ref (ad 9), .ref (ad 10), .ref (ad 11), .ref (ad 12), .int (I 0 14), .int (I 0 15), .int (I 0 16), .ref (ad 13), .ref (ad 14), .ref (ad 15), .ref (ad 16), .int (I 0 21), .int (I 0 22), .int (I 0 23), .int (I 0 24), .int (I 0 25), .int (I 0 26), .int (I 0 27), .long (J 0 28), .ref (ad 17), .ref (ad 18), .ref (ad 19), .int (I 0 32), .int (I 0 33), .int (I 0 34), .ref (ad 20), .int (I 0 36), .ref (ad 21), .int (I 0 38), .int (I 0 39), .int (I 0 40)])) := rfl
theorem mp_0_7 {v : Int32} : (mW ad g I J).set 0 (ad 0, .inr (7, ([.ref (ad 1), .ref (ad 2), .ref (ad 3), .ref (ad 4), .ref (ad 5), .ref (ad 6), .ref (ad 7), .int (I 0 7), .int (I 0 8), .ref (ad 8), .ref (ad 9), .ref (ad 10), .ref (ad 11), .ref (ad 12), .int (I 0 14), .int (I 0 15), .int (I 0 16), .ref (ad 13), .ref (ad 14), .ref (ad 15), .ref (ad 16), .int (I 0 21), .int (I 0 22), .int (I 0 23), .int (I 0 24), .int (I 0 25), .int (I 0 26), .int (I 0 27), .long (J 0 28), .ref (ad 17), .ref (ad 18), .ref (ad 19), .int (I 0 32), .int (I 0 33), .int (I 0 34), .ref (ad 20), .int (I 0 36), .ref (ad 21), .int (I 0 38), .int (I 0 39), .int (I 0 40)] : List Value).set 7 (.int v))) = mW ad g (u2 I 0 7 v) J := rfl
theorem mp_0_8 {v : Int32} : (mW ad g I J).set 0 (ad 0, .inr (7, ([.ref (ad 1), .ref (ad 2), .ref (ad 3), .ref (ad 4), .ref (ad 5), .ref (ad 6), .ref (ad 7), .int (I 0 7), .int (I 0 8), .ref (ad 8), .ref (ad 9), .ref (ad 10), .ref (ad 11), .ref (ad 12), .int (I 0 14), .int (I 0 15), .int (I 0 16), .ref (ad 13), .ref (ad 14), .ref (ad 15), .ref (ad 16), .int (I 0 21), .int (I 0 22), .int (I 0 23), .int (I 0 24), .int (I 0 25), .int (I 0 26), .int (I 0 27), .long (J 0 28), .ref (ad 17), .ref (ad 18), .ref (ad 19), .int (I 0 32), .int (I 0 33), .int (I 0 34), .ref (ad 20), .int (I 0 36), .ref (ad 21), .int (I 0 38), .int (I 0 39), .int (I 0 40)] : List Value).set 8 (.int v))) = mW ad g (u2 I 0 8 v) J := rfl
theorem mp_0_14 {v : Int32} : (mW ad g I J).set 0 (ad 0, .inr (7, ([.ref (ad 1), .ref (ad 2), .ref (ad 3), .ref (ad 4), .ref (ad 5), .ref (ad 6), .ref (ad 7), .int (I 0 7), .int (I 0 8), .ref (ad 8), .ref (ad 9), .ref (ad 10), .ref (ad 11), .ref (ad 12), .int (I 0 14), .int (I 0 15), .int (I 0 16), .ref (ad 13), .ref (ad 14), .ref (ad 15), .ref (ad 16), .int (I 0 21), .int (I 0 22), .int (I 0 23), .int (I 0 24), .int (I 0 25), .int (I 0 26), .int (I 0 27), .long (J 0 28), .ref (ad 17), .ref (ad 18), .ref (ad 19), .int (I 0 32), .int (I 0 33), .int (I 0 34), .ref (ad 20), .int (I 0 36), .ref (ad 21), .int (I 0 38), .int (I 0 39), .int (I 0 40)] : List Value).set 14 (.int v))) = mW ad g (u2 I 0 14 v) J := rfl
theorem mp_0_15 {v : Int32} : (mW ad g I J).set 0 (ad 0, .inr (7, ([.ref (ad 1), .ref (ad 2), .ref (ad 3), .ref (ad 4), .ref (ad 5), .ref (ad 6), .ref (ad 7), .int (I 0 7), .int (I 0 8), .ref (ad 8), .ref (ad 9), .ref (ad 10), .ref (ad 11), .ref (ad 12), .int (I 0 14), .int (I 0 15), .int (I 0 16), .ref (ad 13), .ref (ad 14), .ref (ad 15), .ref (ad 16), .int (I 0 21), .int (I 0 22), .int (I 0 23), .int (I 0 24), .int (I 0 25), .int (I 0 26), .int (I 0 27), .long (J 0 28), .ref (ad 17), .ref (ad 18), .ref (ad 19), .int (I 0 32), .int (I 0 33), .int (I 0 34), .ref (ad 20), .int (I 0 36), .ref (ad 21), .int (I 0 38), .int (I 0 39), .int (I 0 40)] : List Value).set 15 (.int v))) = mW ad g (u2 I 0 15 v) J := rfl
theorem mp_0_16 {v : Int32} : (mW ad g I J).set 0 (ad 0, .inr (7, ([.ref (ad 1), .ref (ad 2), .ref (ad 3), .ref (ad 4), .ref (ad 5), .ref (ad 6), .ref (ad 7), .int (I 0 7), .int (I 0 8), .ref (ad 8), .ref (ad 9), .ref (ad 10), .ref (ad 11), .ref (ad 12), .int (I 0 14), .int (I 0 15), .int (I 0 16), .ref (ad 13), .ref (ad 14), .ref (ad 15), .ref (ad 16), .int (I 0 21), .int (I 0 22), .int (I 0 23), .int (I 0 24), .int (I 0 25), .int (I 0 26), .int (I 0 27), .long (J 0 28), .ref (ad 17), .ref (ad 18), .ref (ad 19), .int (I 0 32), .int (I 0 33), .int (I 0 34), .ref (ad 20), .int (I 0 36), .ref (ad 21), .int (I 0 38), .int (I 0 39), .int (I 0 40)] : List Value).set 16 (.int v))) = mW ad g (u2 I 0 16 v) J := rfl
theorem mp_0_21 {v : Int32} : (mW ad g I J).set 0 (ad 0, .inr (7, ([.ref (ad 1), .ref (ad 2), .ref (ad 3), .ref (ad 4), .ref (ad 5), .ref (ad 6), .ref (ad 7), .int (I 0 7), .int (I 0 8), .ref (ad 8), .ref (ad 9), .ref (ad 10), .ref (ad 11), .ref (ad 12), .int (I 0 14), .int (I 0 15), .int (I 0 16), .ref (ad 13), .ref (ad 14), .ref (ad 15), .ref (ad 16), .int (I 0 21), .int (I 0 22), .int (I 0 23), .int (I 0 24), .int (I 0 25), .int (I 0 26), .int (I 0 27), .long (J 0 28), .ref (ad 17), .ref (ad 18), .ref (ad 19), .int (I 0 32), .int (I 0 33), .int (I 0 34), .ref (ad 20), .int (I 0 36), .ref (ad 21), .int (I 0 38), .int (I 0 39), .int (I 0 40)] : List Value).set 21 (.int v))) = mW ad g (u2 I 0 21 v) J := rfl
theorem mp_0_22 {v : Int32} : (mW ad g I J).set 0 (ad 0, .inr (7, ([.ref (ad 1), .ref (ad 2), .ref (ad 3), .ref (ad 4), .ref (ad 5), .ref (ad 6), .ref (ad 7), .int (I 0 7), .int (I 0 8), .ref (ad 8), .ref (ad 9), .ref (ad 10), .ref (ad 11), .ref (ad 12), .int (I 0 14), .int (I 0 15), .int (I 0 16), .ref (ad 13), .ref (ad 14), .ref (ad 15), .ref (ad 16), .int (I 0 21), .int (I 0 22), .int (I 0 23), .int (I 0 24), .int (I 0 25), .int (I 0 26), .int (I 0 27), .long (J 0 28), .ref (ad 17), .ref (ad 18), .ref (ad 19), .int (I 0 32), .int (I 0 33), .int (I 0 34), .ref (ad 20), .int (I 0 36), .ref (ad 21), .int (I 0 38), .int (I 0 39), .int (I 0 40)] : List Value).set 22 (.int v))) = mW ad g (u2 I 0 22 v) J := rfl
theorem mp_0_23 {v : Int32} : (mW ad g I J).set 0 (ad 0, .inr (7, ([.ref (ad 1), .ref (ad 2), .ref (ad 3), .ref (ad 4), .ref (ad 5), .ref (ad 6), .ref (ad 7), .int (I 0 7), .int (I 0 8), .ref (ad 8), .ref (ad 9), .ref (ad 10), .ref (ad 11), .ref (ad 12), .int (I 0 14), .int (I 0 15), .int (I 0 16), .ref (ad 13), .ref (ad 14), .ref (ad 15), .ref (ad 16), .int (I 0 21), .int (I 0 22), .int (I 0 23), .int (I 0 24), .int (I 0 25), .int (I 0 26), .int (I 0 27), .long (J 0 28), .ref (ad 17), .ref (ad 18), .ref (ad 19), .int (I 0 32), .int (I 0 33), .int (I 0 34), .ref (ad 20), .int (I 0 36), .ref (ad 21), .int (I 0 38), .int (I 0 39), .int (I 0 40)] : List Value).set 23 (.int v))) = mW ad g (u2 I 0 23 v) J := rfl
theorem mp_0_24 {v : Int32} : (mW ad g I J).set 0 (ad 0, .inr (7, ([.ref (ad 1), .ref (ad 2), .ref (ad 3), .ref (ad 4), .ref (ad 5), .ref (ad 6), .ref (ad 7), .int (I 0 7), .int (I 0 8), .ref (ad 8), .ref (ad 9), .ref (ad 10), .ref (ad 11), .ref (ad 12), .int (I 0 14), .int (I 0 15), .int (I 0 16), .ref (ad 13), .ref (ad 14), .ref (ad 15), .ref (ad 16), .int (I 0 21), .int (I 0 22), .int (I 0 23), .int (I 0 24), .int (I 0 25), .int (I 0 26), .int (I 0 27), .long (J 0 28), .ref (ad 17), .ref (ad 18), .ref (ad 19), .int (I 0 32), .int (I 0 33), .int (I 0 34), .ref (ad 20), .int (I 0 36), .ref (ad 21), .int (I 0 38), .int (I 0 39), .int (I 0 40)] : List Value).set 24 (.int v))) = mW ad g (u2 I 0 24 v) J := rfl
theorem mp_0_25 {v : Int32} : (mW ad g I J).set 0 (ad 0, .inr (7, ([.ref (ad 1), .ref (ad 2), .ref (ad 3), .ref (ad 4), .ref (ad 5), .ref (ad 6), .ref (ad 7), .int (I 0 7), .int (I 0 8), .ref (ad 8), .ref (ad 9), .ref (ad 10), .ref (ad 11), .ref (ad 12), .int (I 0 14), .int (I 0 15), .int (I 0 16), .ref (ad 13), .ref (ad 14), .ref (ad 15), .ref (ad 16), .int (I 0 21), .int (I 0 22), .int (I 0 23), .int (I 0 24), .int (I 0 25), .int (I 0 26), .int (I 0 27), .long (J 0 28), .ref (ad 17), .ref (ad 18), .ref (ad 19), .int (I 0 32), .int (I 0 33), .int (I 0 34), .ref (ad 20), .int (I 0 36), .ref (ad 21), .int (I 0 38), .int (I 0 39), .int (I 0 40)] : List Value).set 25 (.int v))) = mW ad g (u2 I 0 25 v) J := rfl
theorem mp_0_26 {v : Int32} : (mW ad g I J).set 0 (ad 0, .inr (7, ([.ref (ad 1), .ref (ad 2), .ref (ad 3), .ref (ad 4), .ref (ad 5), .ref (ad 6), .ref (ad 7), .int (I 0 7), .int (I 0 8), .ref (ad 8), .ref (ad 9), .ref (ad 10), .ref (ad 11), .ref (ad 12), .int (I 0 14), .int (I 0 15), .int (I 0 16), .ref (ad 13), .ref (ad 14), .ref (ad 15), .ref (ad 16), .int (I 0 21), .int (I 0 22), .int (I 0 23), .int (I 0 24), .int (I 0 25), .int (I 0 26), .int (I 0 27), .long (J 0 28), .ref (ad 17), .ref (ad 18), .ref (ad 19), .int (I 0 32), .int (I 0 33), .int (I 0 34), .ref (ad 20), .int (I 0 36), .ref (ad 21), .int (I 0 38), .int (I 0 39), .int (I 0 40)] : List Value).set 26 (.int v))) = mW ad g (u2 I 0 26 v) J := rfl
theorem mp_0_27 {v : Int32} : (mW ad g I J).set 0 (ad 0, .inr (7, ([.ref (ad 1), .ref (ad 2), .ref (ad 3), .ref (ad 4), .ref (ad 5), .ref (ad 6), .ref (ad 7), .int (I 0 7), .int (I 0 8), .ref (ad 8), .ref (ad 9), .ref (ad 10), .ref (ad 11), .ref (ad 12), .int (I 0 14), .int (I 0 15), .int (I 0 16), .ref (ad 13), .ref (ad 14), .ref (ad 15), .ref (ad 16), .int (I 0 21), .int (I 0 22), .int (I 0 23), .int (I 0 24), .int (I 0 25), .int (I 0 26), .int (I 0 27), .long (J 0 28), .ref (ad 17), .ref (ad 18), .ref (ad 19), .int (I 0 32), .int (I 0 33), .int (I 0 34), .ref (ad 20), .int (I 0 36), .ref (ad 21), .int (I 0 38), .int (I 0 39), .int (I 0 40)] : List Value).set 27 (.int v))) = mW ad g (u2 I 0 27 v) J := rfl
theorem mp_0_28 {v : Int64} : (mW ad g I J).set 0 (ad 0, .inr (7, ([.ref (ad 1), .ref (ad 2), .ref (ad 3), .ref (ad 4), .ref (ad 5), .ref (ad 6), .ref (ad 7), .int (I 0 7), .int (I 0 8), .ref (ad 8), .ref (ad 9), .ref (ad 10), .ref (ad 11), .ref (ad 12), .int (I 0 14), .int (I 0 15), .int (I 0 16), .ref (ad 13), .ref (ad 14), .ref (ad 15), .ref (ad 16), .int (I 0 21), .int (I 0 22), .int (I 0 23), .int (I 0 24), .int (I 0 25), .int (I 0 26), .int (I 0 27), .long (J 0 28), .ref (ad 17), .ref (ad 18), .ref (ad 19), .int (I 0 32), .int (I 0 33), .int (I 0 34), .ref (ad 20), .int (I 0 36), .ref (ad 21), .int (I 0 38), .int (I 0 39), .int (I 0 40)] : List Value).set 28 (.long v))) = mW ad g I (u2L J 0 28 v) := rfl
theorem mp_0_32 {v : Int32} : (mW ad g I J).set 0 (ad 0, .inr (7, ([.ref (ad 1), .ref (ad 2), .ref (ad 3), .ref (ad 4), .ref (ad 5), .ref (ad 6), .ref (ad 7), .int (I 0 7), .int (I 0 8), .ref (ad 8), .ref (ad 9), .ref (ad 10), .ref (ad 11), .ref (ad 12), .int (I 0 14), .int (I 0 15), .int (I 0 16), .ref (ad 13), .ref (ad 14), .ref (ad 15), .ref (ad 16), .int (I 0 21), .int (I 0 22), .int (I 0 23), .int (I 0 24), .int (I 0 25), .int (I 0 26), .int (I 0 27), .long (J 0 28), .ref (ad 17), .ref (ad 18), .ref (ad 19), .int (I 0 32), .int (I 0 33), .int (I 0 34), .ref (ad 20), .int (I 0 36), .ref (ad 21), .int (I 0 38), .int (I 0 39), .int (I 0 40)] : List Value).set 32 (.int v))) = mW ad g (u2 I 0 32 v) J := rfl
theorem mp_0_33 {v : Int32} : (mW ad g I J).set 0 (ad 0, .inr (7, ([.ref (ad 1), .ref (ad 2), .ref (ad 3), .ref (ad 4), .ref (ad 5), .ref (ad 6), .ref (ad 7), .int (I 0 7), .int (I 0 8), .ref (ad 8), .ref (ad 9), .ref (ad 10), .ref (ad 11), .ref (ad 12), .int (I 0 14), .int (I 0 15), .int (I 0 16), .ref (ad 13), .ref (ad 14), .ref (ad 15), .ref (ad 16), .int (I 0 21), .int (I 0 22), .int (I 0 23), .int (I 0 24), .int (I 0 25), .int (I 0 26), .int (I 0 27), .long (J 0 28), .ref (ad 17), .ref (ad 18), .ref (ad 19), .int (I 0 32), .int (I 0 33), .int (I 0 34), .ref (ad 20), .int (I 0 36), .ref (ad 21), .int (I 0 38), .int (I 0 39), .int (I 0 40)] : List Value).set 33 (.int v))) = mW ad g (u2 I 0 33 v) J := rfl
theorem mp_0_34 {v : Int32} : (mW ad g I J).set 0 (ad 0, .inr (7, ([.ref (ad 1), .ref (ad 2), .ref (ad 3), .ref (ad 4), .ref (ad 5), .ref (ad 6), .ref (ad 7), .int (I 0 7), .int (I 0 8), .ref (ad 8), .ref (ad 9), .ref (ad 10), .ref (ad 11), .ref (ad 12), .int (I 0 14), .int (I 0 15), .int (I 0 16), .ref (ad 13), .ref (ad 14), .ref (ad 15), .ref (ad 16), .int (I 0 21), .int (I 0 22), .int (I 0 23), .int (I 0 24), .int (I 0 25), .int (I 0 26), .int (I 0 27), .long (J 0 28), .ref (ad 17), .ref (ad 18), .ref (ad 19), .int (I 0 32), .int (I 0 33), .int (I 0 34), .ref (ad 20), .int (I 0 36), .ref (ad 21), .int (I 0 38), .int (I 0 39), .int (I 0 40)] : List Value).set 34 (.int v))) = mW ad g (u2 I 0 34 v) J := rfl
theorem mp_0_36 {v : Int32} : (mW ad g I J).set 0 (ad 0, .inr (7, ([.ref (ad 1), .ref (ad 2), .ref (ad 3), .ref (ad 4), .ref (ad 5), .ref (ad 6), .ref (ad 7), .int (I 0 7), .int (I 0 8), .ref (ad 8), .ref (ad 9), .ref (ad 10), .ref (ad 11), .ref (ad 12), .int (I 0 14), .int (I 0 15), .int (I 0 16), .ref (ad 13), .ref (ad 14), .ref (ad 15), .ref (ad 16), .int (I 0 21), .int (I 0 22), .int (I 0 23), .int (I 0 24), .int (I 0 25), .int (I 0 26), .int (I 0 27), .long (J 0 28), .ref (ad 17), .ref (ad 18), .ref (ad 19), .int (I 0 32), .int (I 0 33), .int (I 0 34), .ref (ad 20), .int (I 0 36), .ref (ad 21), .int (I 0 38), .int (I 0 39), .int (I 0 40)] : List Value).set 36 (.int v))) = mW ad g (u2 I 0 36 v) J := rfl
theorem mp_0_38 {v : Int32} : (mW ad g I J).set 0 (ad 0, .inr (7, ([.ref (ad 1), .ref (ad 2), .ref (ad 3), .ref (ad 4), .ref (ad 5), .ref (ad 6), .ref (ad 7), .int (I 0 7), .int (I 0 8), .ref (ad 8), .ref (ad 9), .ref (ad 10), .ref (ad 11), .ref (ad 12), .int (I 0 14), .int (I 0 15), .int (I 0 16), .ref (ad 13), .ref (ad 14), .ref (ad 15), .ref (ad 16), .int (I 0 21), .int (I 0 22), .int (I 0 23), .int (I 0 24), .int (I 0 25), .int (I 0 26), .int (I 0 27), .long (J 0 28), .ref (ad 17), .ref (ad 18), .ref (ad 19), .int (I 0 32), .int (I 0 33), .int (I 0 34), .ref (ad 20), .int (I 0 36), .ref (ad 21), .int (I 0 38), .int (I 0 39), .int (I 0 40)] : List Value).set 38 (.int v))) = mW ad g (u2 I 0 38 v) J := rfl
theorem mp_0_39 {v : Int32} : (mW ad g I J).set 0 (ad 0, .inr (7, ([.ref (ad 1), .ref (ad 2), .ref (ad 3), .ref (ad 4), .ref (ad 5), .ref (ad 6), .ref (ad 7), .int (I 0 7), .int (I 0 8), .ref (ad 8), .ref (ad 9), .ref (ad 10), .ref (ad 11), .ref (ad 12), .int (I 0 14), .int (I 0 15), .int (I 0 16), .ref (ad 13), .ref (ad 14), .ref (ad 15), .ref (ad 16), .int (I 0 21), .int (I 0 22), .int (I 0 23), .int (I 0 24), .int (I 0 25), .int (I 0 26), .int (I 0 27), .long (J 0 28), .ref (ad 17), .ref (ad 18), .ref (ad 19), .int (I 0 32), .int (I 0 33), .int (I 0 34), .ref (ad 20), .int (I 0 36), .ref (ad 21), .int (I 0 38), .int (I 0 39), .int (I 0 40)] : List Value).set 39 (.int v))) = mW ad g (u2 I 0 39 v) J := rfl
theorem mp_0_40 {v : Int32} : (mW ad g I J).set 0 (ad 0, .inr (7, ([.ref (ad 1), .ref (ad 2), .ref (ad 3), .ref (ad 4), .ref (ad 5), .ref (ad 6), .ref (ad 7), .int (I 0 7), .int (I 0 8), .ref (ad 8), .ref (ad 9), .ref (ad 10), .ref (ad 11), .ref (ad 12), .int (I 0 14), .int (I 0 15), .int (I 0 16), .ref (ad 13), .ref (ad 14), .ref (ad 15), .ref (ad 16), .int (I 0 21), .int (I 0 22), .int (I 0 23), .int (I 0 24), .int (I 0 25), .int (I 0 26), .int (I 0 27), .long (J 0 28), .ref (ad 17), .ref (ad 18), .ref (ad 19), .int (I 0 32), .int (I 0 33), .int (I 0 34), .ref (ad 20), .int (I 0 36), .ref (ad 21), .int (I 0 38), .int (I 0 39), .int (I 0 40)] : List Value).set 40 (.int v))) = mW ad g (u2 I 0 40 v) J := rfl
theorem mo_1 : (mW ad g I J)[1]? = some (ad 1, .inl (g.2.1, 7, .inl (I 1))) := rfl
theorem ms_1 {f : Nat → Int32} : (mW ad g I J).set 1 (ad 1, .inl (g.2.1, 7, .inl f)) = mW ad g (u1 I 1 f) J := rfl
theorem mo_2 : (mW ad g I J)[2]? = some (ad 2, .inl (g.2.1, 8, .inl (I 2))) := rfl
theorem ms_2 {f : Nat → Int32} : (mW ad g I J).set 2 (ad 2, .inl (g.2.1, 8, .inl f)) = mW ad g (u1 I 2 f) J := rfl
theorem mo_3 : (mW ad g I J)[3]? = some (ad 3, .inl (g.2.1, 8, .inl (I 3))) := rfl
theorem ms_3 {f : Nat → Int32} : (mW ad g I J).set 3 (ad 3, .inl (g.2.1, 8, .inl f)) = mW ad g (u1 I 3 f) J := rfl
theorem mo_4 : (mW ad g I J)[4]? = some (ad 4, .inl (g.2.1, 8, .inl (I 4))) := rfl
theorem ms_4 {f : Nat → Int32} : (mW ad g I J).set 4 (ad 4, .inl (g.2.1, 8, .inl f)) = mW ad g (u1 I 4 f) J := rfl
theorem mo_5 : (mW ad g I J)[5]? = some (ad 5, .inl (g.2.1, 8, .inl (I 5))) := rfl
theorem ms_5 {f : Nat → Int32} : (mW ad g I J).set 5 (ad 5, .inl (g.2.1, 8, .inl f)) = mW ad g (u1 I 5 f) J := rfl
theorem mo_6 : (mW ad g I J)[6]? = some (ad 6, .inl (g.2.1, 8, .inl (I 6))) := rfl
theorem ms_6 {f : Nat → Int32} : (mW ad g I J).set 6 (ad 6, .inl (g.2.1, 8, .inl f)) = mW ad g (u1 I 6 f) J := rfl
theorem mo_7 : (mW ad g I J)[7]? = some (ad 7, .inl (g.2.1, 8, .inl (I 7))) := rfl
theorem ms_7 {f : Nat → Int32} : (mW ad g I J).set 7 (ad 7, .inl (g.2.1, 8, .inl f)) = mW ad g (u1 I 7 f) J := rfl
theorem mo_8 : (mW ad g I J)[8]? = some (ad 8, .inl (g.2.1, 64, .inl (I 8))) := rfl
theorem ms_8 {f : Nat → Int32} : (mW ad g I J).set 8 (ad 8, .inl (g.2.1, 64, .inl f)) = mW ad g (u1 I 8 f) J := rfl
theorem mo_9 : (mW ad g I J)[9]? = some (ad 9, .inl (g.2.1, 32, .inl (I 9))) := rfl
theorem ms_9 {f : Nat → Int32} : (mW ad g I J).set 9 (ad 9, .inl (g.2.1, 32, .inl f)) = mW ad g (u1 I 9 f) J := rfl
theorem mo_10 : (mW ad g I J)[10]? = some (ad 10, .inl (g.2.1, 32, .inl (I 10))) := rfl
theorem ms_10 {f : Nat → Int32} : (mW ad g I J).set 10 (ad 10, .inl (g.2.1, 32, .inl f)) = mW ad g (u1 I 10 f) J := rfl
theorem mo_11 : (mW ad g I J)[11]? = some (ad 11, .inl (g.2.1, 32, .inl (I 11))) := rfl
theorem ms_11 {f : Nat → Int32} : (mW ad g I J).set 11 (ad 11, .inl (g.2.1, 32, .inl f)) = mW ad g (u1 I 11 f) J := rfl
theorem mo_12 : (mW ad g I J)[12]? = some (ad 12, .inl (g.2.1, 32, .inl (I 12))) := rfl
theorem ms_12 {f : Nat → Int32} : (mW ad g I J).set 12 (ad 12, .inl (g.2.1, 32, .inl f)) = mW ad g (u1 I 12 f) J := rfl
theorem mo_13 : (mW ad g I J)[13]? = some (ad 13, .inl (g.2.1, 8, .inl (I 13))) := rfl
theorem ms_13 {f : Nat → Int32} : (mW ad g I J).set 13 (ad 13, .inl (g.2.1, 8, .inl f)) = mW ad g (u1 I 13 f) J := rfl
theorem mo_14 : (mW ad g I J)[14]? = some (ad 14, .inl (g.2.1, 8, .inl (I 14))) := rfl
theorem ms_14 {f : Nat → Int32} : (mW ad g I J).set 14 (ad 14, .inl (g.2.1, 8, .inl f)) = mW ad g (u1 I 14 f) J := rfl
theorem mo_15 : (mW ad g I J)[15]? = some (ad 15, .inl (g.2.1, 8, .inl (I 15))) := rfl
theorem ms_15 {f : Nat → Int32} : (mW ad g I J).set 15 (ad 15, .inl (g.2.1, 8, .inl f)) = mW ad g (u1 I 15 f) J := rfl
theorem mo_16 : (mW ad g I J)[16]? = some (ad 16, .inl (g.2.1, 8, .inl (I 16))) := rfl
theorem ms_16 {f : Nat → Int32} : (mW ad g I J).set 16 (ad 16, .inl (g.2.1, 8, .inl f)) = mW ad g (u1 I 16 f) J := rfl
theorem mo_17 : (mW ad g I J)[17]? = some (ad 17, .inl (g.2.2.1, 44, .inr (.inl (J 17)))) := rfl
theorem ms_17 {f : Nat → Int64} : (mW ad g I J).set 17 (ad 17, .inl (g.2.2.1, 44, .inr (.inl f))) = mW ad g I (u1 J 17 f) := rfl
theorem mo_18 : (mW ad g I J)[18]? = some (ad 18, .inl (g.2.1, 44, .inl (I 18))) := rfl
theorem ms_18 {f : Nat → Int32} : (mW ad g I J).set 18 (ad 18, .inl (g.2.1, 44, .inl f)) = mW ad g (u1 I 18 f) J := rfl
theorem mo_19 : (mW ad g I J)[19]? = some (ad 19, .inl (g.2.1, 8, .inl (I 19))) := rfl
theorem ms_19 {f : Nat → Int32} : (mW ad g I J).set 19 (ad 19, .inl (g.2.1, 8, .inl f)) = mW ad g (u1 I 19 f) J := rfl
theorem mo_20 : (mW ad g I J)[20]? = some (ad 20, .inl (g.2.1, 16, .inl (I 20))) := rfl
theorem ms_20 {f : Nat → Int32} : (mW ad g I J).set 20 (ad 20, .inl (g.2.1, 16, .inl f)) = mW ad g (u1 I 20 f) J := rfl
theorem mo_21 : (mW ad g I J)[21]? = some (ad 21, .inl (g.2.1, 200, .inl (I 21))) := rfl
theorem ms_21 {f : Nat → Int32} : (mW ad g I J).set 21 (ad 21, .inl (g.2.1, 200, .inl f)) = mW ad g (u1 I 21 f) J := rfl
theorem xEo {q : Nat} (hE : isE q) : (xW ad g I J)[q]? = some (ad q, .inr (1, [.ref (ad (q + 1)), .ref (ad (q + 2)), .ref (ad (q + 3)), .ref (ad (q + 4)), .ref (ad (q + 5)), .ref (ad (q + 6)), .int (I q 6), .int (I q 7), .int (I q 8)])) := by rcases hE with rfl | rfl | rfl <;> rfl
theorem xEa1 {q : Nat} (hE : isE q) : (xW ad g I J)[q + 1]? = some (ad (q + 1), .inl (g.2.1, 8, .inl (I (q + 1)))) := by rcases hE with rfl | rfl | rfl <;> rfl
theorem xEs1 {q : Nat} (hE : isE q) {f : Nat → Int32} : (xW ad g I J).set (q + 1) (ad (q + 1), .inl (g.2.1, 8, .inl f)) = xW ad g (u1 I (q + 1) f) J := by rcases hE with rfl | rfl | rfl <;> rfl
theorem xEa2 {q : Nat} (hE : isE q) : (xW ad g I J)[q + 2]? = some (ad (q + 2), .inl (g.2.1, 8, .inl (I (q + 2)))) := by rcases hE with rfl | rfl | rfl <;> rfl
theorem xEs2 {q : Nat} (hE : isE q) {f : Nat → Int32} : (xW ad g I J).set (q + 2) (ad (q + 2), .inl (g.2.1, 8, .inl f)) = xW ad g (u1 I (q + 2) f) J := by rcases hE with rfl | rfl | rfl <;> rfl
theorem xEa3 {q : Nat} (hE : isE q) : (xW ad g I J)[q + 3]? = some (ad (q + 3), .inl (g.2.1, 8, .inl (I (q + 3)))) := by rcases hE with rfl | rfl | rfl <;> rfl
theorem xEs3 {q : Nat} (hE : isE q) {f : Nat → Int32} : (xW ad g I J).set (q + 3) (ad (q + 3), .inl (g.2.1, 8, .inl f)) = xW ad g (u1 I (q + 3) f) J := by rcases hE with rfl | rfl | rfl <;> rfl
theorem xEa4 {q : Nat} (hE : isE q) : (xW ad g I J)[q + 4]? = some (ad (q + 4), .inl (g.2.1, 6, .inl (I (q + 4)))) := by rcases hE with rfl | rfl | rfl <;> rfl
theorem xEs4 {q : Nat} (hE : isE q) {f : Nat → Int32} : (xW ad g I J).set (q + 4) (ad (q + 4), .inl (g.2.1, 6, .inl f)) = xW ad g (u1 I (q + 4) f) J := by rcases hE with rfl | rfl | rfl <;> rfl
theorem xEa5 {q : Nat} (hE : isE q) : (xW ad g I J)[q + 5]? = some (ad (q + 5), .inl (g.2.1, 6, .inl (I (q + 5)))) := by rcases hE with rfl | rfl | rfl <;> rfl
theorem xEs5 {q : Nat} (hE : isE q) {f : Nat → Int32} : (xW ad g I J).set (q + 5) (ad (q + 5), .inl (g.2.1, 6, .inl f)) = xW ad g (u1 I (q + 5) f) J := by rcases hE with rfl | rfl | rfl <;> rfl
theorem xEl {q : Nat} (hE : isE q) : (xW ad g I J)[q + 6]? = some (ad (q + 6), .inl (g.2.2.2, 8, .inr (.inr (.inr (.inr (fun i => some (ad (q + 7 + i)))))))) := by rcases hE with rfl | rfl | rfl <;> rfl
theorem xEp6 {q : Nat} (hE : isE q) {v : Int32} : (xW ad g I J).set q (ad q, .inr (1, ([.ref (ad (q + 1)), .ref (ad (q + 2)), .ref (ad (q + 3)), .ref (ad (q + 4)), .ref (ad (q + 5)), .ref (ad (q + 6)), .int (I q 6), .int (I q 7), .int (I q 8)] : List Value).set 6 (.int v))) = xW ad g (u2 I q 6 v) J := by rcases hE with rfl | rfl | rfl <;> rfl
theorem xEp7 {q : Nat} (hE : isE q) {v : Int32} : (xW ad g I J).set q (ad q, .inr (1, ([.ref (ad (q + 1)), .ref (ad (q + 2)), .ref (ad (q + 3)), .ref (ad (q + 4)), .ref (ad (q + 5)), .ref (ad (q + 6)), .int (I q 6), .int (I q 7), .int (I q 8)] : List Value).set 7 (.int v))) = xW ad g (u2 I q 7 v) J := by rcases hE with rfl | rfl | rfl <;> rfl
theorem xEp8 {q : Nat} (hE : isE q) {v : Int32} : (xW ad g I J).set q (ad q, .inr (1, ([.ref (ad (q + 1)), .ref (ad (q + 2)), .ref (ad (q + 3)), .ref (ad (q + 4)), .ref (ad (q + 5)), .ref (ad (q + 6)), .int (I q 6), .int (I q 7), .int (I q 8)] : List Value).set 8 (.int v))) = xW ad g (u2 I q 8 v) J := by rcases hE with rfl | rfl | rfl <;> rfl
theorem xTo {t : Nat} (hT : isT t) : (xW ad g I J)[t]? = some (ad t, .inr (4, [.int (I t 0), .int (I t 1), .int (I t 2), .int (I t 3)])) := by rcases isT_c hT with rfl | rfl | rfl | rfl | rfl | rfl | rfl | rfl | rfl | rfl | rfl | rfl | rfl | rfl | rfl | rfl | rfl | rfl | rfl | rfl | rfl | rfl | rfl | rfl | rfl <;> rfl
theorem xTp0 {t : Nat} (hT : isT t) {v : Int32} : (xW ad g I J).set t (ad t, .inr (4, ([.int (I t 0), .int (I t 1), .int (I t 2), .int (I t 3)] : List Value).set 0 (.int v))) = xW ad g (u2 I t 0 v) J := by rcases isT_c hT with rfl | rfl | rfl | rfl | rfl | rfl | rfl | rfl | rfl | rfl | rfl | rfl | rfl | rfl | rfl | rfl | rfl | rfl | rfl | rfl | rfl | rfl | rfl | rfl | rfl <;> rfl
theorem xTp1 {t : Nat} (hT : isT t) {v : Int32} : (xW ad g I J).set t (ad t, .inr (4, ([.int (I t 0), .int (I t 1), .int (I t 2), .int (I t 3)] : List Value).set 1 (.int v))) = xW ad g (u2 I t 1 v) J := by rcases isT_c hT with rfl | rfl | rfl | rfl | rfl | rfl | rfl | rfl | rfl | rfl | rfl | rfl | rfl | rfl | rfl | rfl | rfl | rfl | rfl | rfl | rfl | rfl | rfl | rfl | rfl <;> rfl
theorem xTp2 {t : Nat} (hT : isT t) {v : Int32} : (xW ad g I J).set t (ad t, .inr (4, ([.int (I t 0), .int (I t 1), .int (I t 2), .int (I t 3)] : List Value).set 2 (.int v))) = xW ad g (u2 I t 2 v) J := by rcases isT_c hT with rfl | rfl | rfl | rfl | rfl | rfl | rfl | rfl | rfl | rfl | rfl | rfl | rfl | rfl | rfl | rfl | rfl | rfl | rfl | rfl | rfl | rfl | rfl | rfl | rfl <;> rfl
theorem xTp3 {t : Nat} (hT : isT t) {v : Int32} : (xW ad g I J).set t (ad t, .inr (4, ([.int (I t 0), .int (I t 1), .int (I t 2), .int (I t 3)] : List Value).set 3 (.int v))) = xW ad g (u2 I t 3 v) J := by rcases isT_c hT with rfl | rfl | rfl | rfl | rfl | rfl | rfl | rfl | rfl | rfl | rfl | rfl | rfl | rfl | rfl | rfl | rfl | rfl | rfl | rfl | rfl | rfl | rfl | rfl | rfl <;> rfl
theorem u1_self {α : Type} {I : Nat → Nat → α} {k : Nat} : u1 I k (I k) = I := by
  funext x
  unfold u1
  by_cases h : x = k
  · rw [if_pos h, h]
  · rw [if_neg h]
theorem u1_u1 {α : Type} {I : Nat → Nat → α} {k : Nat} {f f' : Nat → α} : u1 (u1 I k f) k f' = u1 I k f' := by
  funext x
  unfold u1
  by_cases h : x = k
  · rw [if_pos h, if_pos h]
  · rw [if_neg h, if_neg h, if_neg h]
theorem u1_at {α : Type} {I : Nat → Nat → α} {k : Nat} {f : Nat → α} : u1 I k f k = f := by unfold u1; rw [if_pos rfl]
theorem u1_ne {α : Type} {I : Nat → Nat → α} {k j : Nat} {f : Nat → α} (h : j ≠ k) : u1 I k f j = I j := by unfold u1; rw [if_neg h]
theorem xc_1 : xW ad g I J = xW ad g (u1 I 1 (I 1)) J ∧ (∀ f, (xW ad g (u1 I 1 f) J)[1]? = some (ad 1, .inl (g.2.1, 8, .inl f))) ∧ ∀ f f', (xW ad g (u1 I 1 f) J).set 1 (ad 1, .inl (g.2.1, 8, .inl f')) = xW ad g (u1 I 1 f') J := ⟨by rw [u1_self], fun f => xo_1, fun f f' => by rw [xs_1, u1_u1]⟩
theorem xc_2 : xW ad g I J = xW ad g (u1 I 2 (I 2)) J ∧ (∀ f, (xW ad g (u1 I 2 f) J)[2]? = some (ad 2, .inl (g.2.1, 8, .inl f))) ∧ ∀ f f', (xW ad g (u1 I 2 f) J).set 2 (ad 2, .inl (g.2.1, 8, .inl f')) = xW ad g (u1 I 2 f') J := ⟨by rw [u1_self], fun f => xo_2, fun f f' => by rw [xs_2, u1_u1]⟩
theorem xc_3 : xW ad g I J = xW ad g (u1 I 3 (I 3)) J ∧ (∀ f, (xW ad g (u1 I 3 f) J)[3]? = some (ad 3, .inl (g.2.1, 8, .inl f))) ∧ ∀ f f', (xW ad g (u1 I 3 f) J).set 3 (ad 3, .inl (g.2.1, 8, .inl f')) = xW ad g (u1 I 3 f') J := ⟨by rw [u1_self], fun f => xo_3, fun f f' => by rw [xs_3, u1_u1]⟩
theorem xc_4 : xW ad g I J = xW ad g (u1 I 4 (I 4)) J ∧ (∀ f, (xW ad g (u1 I 4 f) J)[4]? = some (ad 4, .inl (g.2.1, 6, .inl f))) ∧ ∀ f f', (xW ad g (u1 I 4 f) J).set 4 (ad 4, .inl (g.2.1, 6, .inl f')) = xW ad g (u1 I 4 f') J := ⟨by rw [u1_self], fun f => xo_4, fun f f' => by rw [xs_4, u1_u1]⟩
theorem xc_5 : xW ad g I J = xW ad g (u1 I 5 (I 5)) J ∧ (∀ f, (xW ad g (u1 I 5 f) J)[5]? = some (ad 5, .inl (g.2.1, 6, .inl f))) ∧ ∀ f f', (xW ad g (u1 I 5 f) J).set 5 (ad 5, .inl (g.2.1, 6, .inl f')) = xW ad g (u1 I 5 f') J := ⟨by rw [u1_self], fun f => xo_5, fun f f' => by rw [xs_5, u1_u1]⟩
theorem xc_16 : xW ad g I J = xW ad g (u1 I 16 (I 16)) J ∧ (∀ f, (xW ad g (u1 I 16 f) J)[16]? = some (ad 16, .inl (g.2.1, 8, .inl f))) ∧ ∀ f f', (xW ad g (u1 I 16 f) J).set 16 (ad 16, .inl (g.2.1, 8, .inl f')) = xW ad g (u1 I 16 f') J := ⟨by rw [u1_self], fun f => xo_16, fun f f' => by rw [xs_16, u1_u1]⟩
theorem xc_17 : xW ad g I J = xW ad g (u1 I 17 (I 17)) J ∧ (∀ f, (xW ad g (u1 I 17 f) J)[17]? = some (ad 17, .inl (g.2.1, 8, .inl f))) ∧ ∀ f f', (xW ad g (u1 I 17 f) J).set 17 (ad 17, .inl (g.2.1, 8, .inl f')) = xW ad g (u1 I 17 f') J := ⟨by rw [u1_self], fun f => xo_17, fun f f' => by rw [xs_17, u1_u1]⟩
theorem xc_18 : xW ad g I J = xW ad g (u1 I 18 (I 18)) J ∧ (∀ f, (xW ad g (u1 I 18 f) J)[18]? = some (ad 18, .inl (g.2.1, 8, .inl f))) ∧ ∀ f f', (xW ad g (u1 I 18 f) J).set 18 (ad 18, .inl (g.2.1, 8, .inl f')) = xW ad g (u1 I 18 f') J := ⟨by rw [u1_self], fun f => xo_18, fun f f' => by rw [xs_18, u1_u1]⟩
theorem xc_19 : xW ad g I J = xW ad g (u1 I 19 (I 19)) J ∧ (∀ f, (xW ad g (u1 I 19 f) J)[19]? = some (ad 19, .inl (g.2.1, 6, .inl f))) ∧ ∀ f f', (xW ad g (u1 I 19 f) J).set 19 (ad 19, .inl (g.2.1, 6, .inl f')) = xW ad g (u1 I 19 f') J := ⟨by rw [u1_self], fun f => xo_19, fun f f' => by rw [xs_19, u1_u1]⟩
theorem xc_20 : xW ad g I J = xW ad g (u1 I 20 (I 20)) J ∧ (∀ f, (xW ad g (u1 I 20 f) J)[20]? = some (ad 20, .inl (g.2.1, 6, .inl f))) ∧ ∀ f f', (xW ad g (u1 I 20 f) J).set 20 (ad 20, .inl (g.2.1, 6, .inl f')) = xW ad g (u1 I 20 f') J := ⟨by rw [u1_self], fun f => xo_20, fun f f' => by rw [xs_20, u1_u1]⟩
theorem xc_31 : xW ad g I J = xW ad g (u1 I 31 (I 31)) J ∧ (∀ f, (xW ad g (u1 I 31 f) J)[31]? = some (ad 31, .inl (g.2.1, 8, .inl f))) ∧ ∀ f f', (xW ad g (u1 I 31 f) J).set 31 (ad 31, .inl (g.2.1, 8, .inl f')) = xW ad g (u1 I 31 f') J := ⟨by rw [u1_self], fun f => xo_31, fun f f' => by rw [xs_31, u1_u1]⟩
theorem xc_32 : xW ad g I J = xW ad g (u1 I 32 (I 32)) J ∧ (∀ f, (xW ad g (u1 I 32 f) J)[32]? = some (ad 32, .inl (g.2.1, 8, .inl f))) ∧ ∀ f f', (xW ad g (u1 I 32 f) J).set 32 (ad 32, .inl (g.2.1, 8, .inl f')) = xW ad g (u1 I 32 f') J := ⟨by rw [u1_self], fun f => xo_32, fun f f' => by rw [xs_32, u1_u1]⟩
theorem xc_33 : xW ad g I J = xW ad g (u1 I 33 (I 33)) J ∧ (∀ f, (xW ad g (u1 I 33 f) J)[33]? = some (ad 33, .inl (g.2.1, 8, .inl f))) ∧ ∀ f f', (xW ad g (u1 I 33 f) J).set 33 (ad 33, .inl (g.2.1, 8, .inl f')) = xW ad g (u1 I 33 f') J := ⟨by rw [u1_self], fun f => xo_33, fun f f' => by rw [xs_33, u1_u1]⟩
theorem xc_34 : xW ad g I J = xW ad g (u1 I 34 (I 34)) J ∧ (∀ f, (xW ad g (u1 I 34 f) J)[34]? = some (ad 34, .inl (g.2.1, 6, .inl f))) ∧ ∀ f f', (xW ad g (u1 I 34 f) J).set 34 (ad 34, .inl (g.2.1, 6, .inl f')) = xW ad g (u1 I 34 f') J := ⟨by rw [u1_self], fun f => xo_34, fun f f' => by rw [xs_34, u1_u1]⟩
theorem xc_35 : xW ad g I J = xW ad g (u1 I 35 (I 35)) J ∧ (∀ f, (xW ad g (u1 I 35 f) J)[35]? = some (ad 35, .inl (g.2.1, 6, .inl f))) ∧ ∀ f f', (xW ad g (u1 I 35 f) J).set 35 (ad 35, .inl (g.2.1, 6, .inl f')) = xW ad g (u1 I 35 f') J := ⟨by rw [u1_self], fun f => xo_35, fun f f' => by rw [xs_35, u1_u1]⟩
theorem xc_46 : xW ad g I J = xW ad g (u1 I 46 (I 46)) J ∧ (∀ f, (xW ad g (u1 I 46 f) J)[46]? = some (ad 46, .inl (g.2.1, 64, .inl f))) ∧ ∀ f f', (xW ad g (u1 I 46 f) J).set 46 (ad 46, .inl (g.2.1, 64, .inl f')) = xW ad g (u1 I 46 f') J := ⟨by rw [u1_self], fun f => xo_46, fun f f' => by rw [xs_46, u1_u1]⟩
theorem xc_48 : xW ad g I J = xW ad g (u1 I 48 (I 48)) J ∧ (∀ f, (xW ad g (u1 I 48 f) J)[48]? = some (ad 48, .inl (g.2.1, 9, .inl f))) ∧ ∀ f f', (xW ad g (u1 I 48 f) J).set 48 (ad 48, .inl (g.2.1, 9, .inl f')) = xW ad g (u1 I 48 f') J := ⟨by rw [u1_self], fun f => xo_48, fun f f' => by rw [xs_48, u1_u1]⟩
theorem xc_49 : xW ad g I J = xW ad g (u1 I 49 (I 49)) J ∧ (∀ f, (xW ad g (u1 I 49 f) J)[49]? = some (ad 49, .inl (g.2.1, 8, .inl f))) ∧ ∀ f f', (xW ad g (u1 I 49 f) J).set 49 (ad 49, .inl (g.2.1, 8, .inl f')) = xW ad g (u1 I 49 f') J := ⟨by rw [u1_self], fun f => xo_49, fun f f' => by rw [xs_49, u1_u1]⟩
theorem xc_50 : xW ad g I J = xW ad g (u1 I 50 (I 50)) J ∧ (∀ f, (xW ad g (u1 I 50 f) J)[50]? = some (ad 50, .inl (g.2.1, 8, .inl f))) ∧ ∀ f f', (xW ad g (u1 I 50 f) J).set 50 (ad 50, .inl (g.2.1, 8, .inl f')) = xW ad g (u1 I 50 f') J := ⟨by rw [u1_self], fun f => xo_50, fun f f' => by rw [xs_50, u1_u1]⟩
theorem xc_51 : xW ad g I J = xW ad g (u1 I 51 (I 51)) J ∧ (∀ f, (xW ad g (u1 I 51 f) J)[51]? = some (ad 51, .inl (g.2.1, 72, .inl f))) ∧ ∀ f f', (xW ad g (u1 I 51 f) J).set 51 (ad 51, .inl (g.2.1, 72, .inl f')) = xW ad g (u1 I 51 f') J := ⟨by rw [u1_self], fun f => xo_51, fun f f' => by rw [xs_51, u1_u1]⟩
theorem xc_53 : xW ad g I J = xW ad g I (u1 J 53 (J 53)) ∧ (∀ f, (xW ad g I (u1 J 53 f))[53]? = some (ad 53, .inl (g.2.2.1, 21, .inr (.inl f)))) ∧ ∀ f f', (xW ad g I (u1 J 53 f)).set 53 (ad 53, .inl (g.2.2.1, 21, .inr (.inl f'))) = xW ad g I (u1 J 53 f') := ⟨by rw [u1_self], fun f => xo_53, fun f f' => by rw [xs_53, u1_u1]⟩
theorem xc_54 : xW ad g I J = xW ad g I (u1 J 54 (J 54)) ∧ (∀ f, (xW ad g I (u1 J 54 f))[54]? = some (ad 54, .inl (g.2.2.1, 21, .inr (.inl f)))) ∧ ∀ f f', (xW ad g I (u1 J 54 f)).set 54 (ad 54, .inl (g.2.2.1, 21, .inr (.inl f'))) = xW ad g I (u1 J 54 f') := ⟨by rw [u1_self], fun f => xo_54, fun f f' => by rw [xs_54, u1_u1]⟩
theorem xc_56 : xW ad g I J = xW ad g I (u1 J 56 (J 56)) ∧ (∀ f, (xW ad g I (u1 J 56 f))[56]? = some (ad 56, .inl (g.2.2.1, 40, .inr (.inl f)))) ∧ ∀ f f', (xW ad g I (u1 J 56 f)).set 56 (ad 56, .inl (g.2.2.1, 40, .inr (.inl f'))) = xW ad g I (u1 J 56 f') := ⟨by rw [u1_self], fun f => xo_56, fun f f' => by rw [xs_56, u1_u1]⟩
theorem xc_57 : xW ad g I J = xW ad g I (u1 J 57 (J 57)) ∧ (∀ f, (xW ad g I (u1 J 57 f))[57]? = some (ad 57, .inl (g.2.2.1, 44, .inr (.inl f)))) ∧ ∀ f f', (xW ad g I (u1 J 57 f)).set 57 (ad 57, .inl (g.2.2.1, 44, .inr (.inl f'))) = xW ad g I (u1 J 57 f') := ⟨by rw [u1_self], fun f => xo_57, fun f f' => by rw [xs_57, u1_u1]⟩
theorem xc_60 : xW ad g I J = xW ad g (u1 I 60 (I 60)) J ∧ (∀ f, (xW ad g (u1 I 60 f) J)[60]? = some (ad 60, .inl (g.2.1, 16, .inl f))) ∧ ∀ f f', (xW ad g (u1 I 60 f) J).set 60 (ad 60, .inl (g.2.1, 16, .inl f')) = xW ad g (u1 I 60 f') J := ⟨by rw [u1_self], fun f => xo_60, fun f f' => by rw [xs_60, u1_u1]⟩
theorem xc_61 : xW ad g I J = xW ad g (u1 I 61 (I 61)) J ∧ (∀ f, (xW ad g (u1 I 61 f) J)[61]? = some (ad 61, .inl (g.2.1, 6, .inl f))) ∧ ∀ f f', (xW ad g (u1 I 61 f) J).set 61 (ad 61, .inl (g.2.1, 6, .inl f')) = xW ad g (u1 I 61 f') J := ⟨by rw [u1_self], fun f => xo_61, fun f f' => by rw [xs_61, u1_u1]⟩
theorem xEc1 {q : Nat} (hE : isE q) : xW ad g I J = xW ad g (u1 I (q + 1) (I (q + 1))) J ∧ (∀ f, (xW ad g (u1 I (q + 1) f) J)[q + 1]? = some (ad (q + 1), .inl (g.2.1, 8, .inl f))) ∧ ∀ f f', (xW ad g (u1 I (q + 1) f) J).set (q + 1) (ad (q + 1), .inl (g.2.1, 8, .inl f')) = xW ad g (u1 I (q + 1) f') J := ⟨by rw [u1_self], fun f => by rw [xEa1 hE, u1_at], fun f f' => by rw [xEs1 hE, u1_u1]⟩
theorem xEf1 {q1 q : Nat} (hE1 : isE q1) (hE : isE q) (hqq : q1 ≠ q) : ∀ f, (xW ad g (u1 I (q + 1) f) J)[q1 + 1]? = some (ad (q1 + 1), .inl (g.2.1, 8, .inl (I (q1 + 1)))) := fun f => by rw [xEa1 hE1, u1_ne (by omega)]
theorem xEc2 {q : Nat} (hE : isE q) : xW ad g I J = xW ad g (u1 I (q + 2) (I (q + 2))) J ∧ (∀ f, (xW ad g (u1 I (q + 2) f) J)[q + 2]? = some (ad (q + 2), .inl (g.2.1, 8, .inl f))) ∧ ∀ f f', (xW ad g (u1 I (q + 2) f) J).set (q + 2) (ad (q + 2), .inl (g.2.1, 8, .inl f')) = xW ad g (u1 I (q + 2) f') J := ⟨by rw [u1_self], fun f => by rw [xEa2 hE, u1_at], fun f f' => by rw [xEs2 hE, u1_u1]⟩
theorem xEf2 {q1 q : Nat} (hE1 : isE q1) (hE : isE q) (hqq : q1 ≠ q) : ∀ f, (xW ad g (u1 I (q + 2) f) J)[q1 + 2]? = some (ad (q1 + 2), .inl (g.2.1, 8, .inl (I (q1 + 2)))) := fun f => by rw [xEa2 hE1, u1_ne (by omega)]
theorem xEc3 {q : Nat} (hE : isE q) : xW ad g I J = xW ad g (u1 I (q + 3) (I (q + 3))) J ∧ (∀ f, (xW ad g (u1 I (q + 3) f) J)[q + 3]? = some (ad (q + 3), .inl (g.2.1, 8, .inl f))) ∧ ∀ f f', (xW ad g (u1 I (q + 3) f) J).set (q + 3) (ad (q + 3), .inl (g.2.1, 8, .inl f')) = xW ad g (u1 I (q + 3) f') J := ⟨by rw [u1_self], fun f => by rw [xEa3 hE, u1_at], fun f f' => by rw [xEs3 hE, u1_u1]⟩
theorem xEf3 {q1 q : Nat} (hE1 : isE q1) (hE : isE q) (hqq : q1 ≠ q) : ∀ f, (xW ad g (u1 I (q + 3) f) J)[q1 + 3]? = some (ad (q1 + 3), .inl (g.2.1, 8, .inl (I (q1 + 3)))) := fun f => by rw [xEa3 hE1, u1_ne (by omega)]
theorem xEc4 {q : Nat} (hE : isE q) : xW ad g I J = xW ad g (u1 I (q + 4) (I (q + 4))) J ∧ (∀ f, (xW ad g (u1 I (q + 4) f) J)[q + 4]? = some (ad (q + 4), .inl (g.2.1, 6, .inl f))) ∧ ∀ f f', (xW ad g (u1 I (q + 4) f) J).set (q + 4) (ad (q + 4), .inl (g.2.1, 6, .inl f')) = xW ad g (u1 I (q + 4) f') J := ⟨by rw [u1_self], fun f => by rw [xEa4 hE, u1_at], fun f f' => by rw [xEs4 hE, u1_u1]⟩
theorem xEf4 {q1 q : Nat} (hE1 : isE q1) (hE : isE q) (hqq : q1 ≠ q) : ∀ f, (xW ad g (u1 I (q + 4) f) J)[q1 + 4]? = some (ad (q1 + 4), .inl (g.2.1, 6, .inl (I (q1 + 4)))) := fun f => by rw [xEa4 hE1, u1_ne (by omega)]
theorem xEc5 {q : Nat} (hE : isE q) : xW ad g I J = xW ad g (u1 I (q + 5) (I (q + 5))) J ∧ (∀ f, (xW ad g (u1 I (q + 5) f) J)[q + 5]? = some (ad (q + 5), .inl (g.2.1, 6, .inl f))) ∧ ∀ f f', (xW ad g (u1 I (q + 5) f) J).set (q + 5) (ad (q + 5), .inl (g.2.1, 6, .inl f')) = xW ad g (u1 I (q + 5) f') J := ⟨by rw [u1_self], fun f => by rw [xEa5 hE, u1_at], fun f f' => by rw [xEs5 hE, u1_u1]⟩
theorem xEf5 {q1 q : Nat} (hE1 : isE q1) (hE : isE q) (hqq : q1 ≠ q) : ∀ f, (xW ad g (u1 I (q + 5) f) J)[q1 + 5]? = some (ad (q1 + 5), .inl (g.2.1, 6, .inl (I (q1 + 5)))) := fun f => by rw [xEa5 hE1, u1_ne (by omega)]
theorem gin_lt {i : Int32} {n : Nat} (h : gin i n = true) : i.toNatClampNeg < n := Nat.not_le.mp fun q => (gin_ok h) (Or.inr q)
end WX
