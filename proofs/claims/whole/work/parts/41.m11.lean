def F_X8_comes (I : SI) (J : SJ) (v1 : Int32) : Option (Int32 × SI × SJ) := (if gin v1 32 = true then (if gin v1 32 = true then (if gin v1 32 = true then (if (I 9 (Int32.toNatClampNeg v1)) = 101 then ((F_X8_sets I J (6 : Int32) (I 11 (Int32.toNatClampNeg v1))).bind fun (r5, I5, J5) => (if r5 = 0 then (some ((0 : Int32), I5, J5)) else ((F_X8_sets I5 J5 (7 : Int32) (I 12 (Int32.toNatClampNeg v1))).bind fun (r7, I7, J7) => (if r7 = 0 then (some ((0 : Int32), I7, J7)) else (some ((1 : Int32), I7, J7)))))) else (if (I 9 (Int32.toNatClampNeg v1)) = 102 then ((F_X8_isIn (I 11 (Int32.toNatClampNeg v1)) (1 : Int32) (100 : Int32)).bind fun r10 => (if r10 = 0 then (some ((0 : Int32), I, J)) else (if (300 : Int32) < (I 12 (Int32.toNatClampNeg v1)) then (some ((0 : Int32), I, J)) else (if (I 0 8) = (6 : Int32) then (some ((0 : Int32), I, J)) else ((F_X8_allChances I J).bind fun r14 => (if (r14 + (I 11 (Int32.toNatClampNeg v1))) ≤ (100 : Int32) then (if gin (I 0 8) 8 = true then (if gin ((u1 I 6 (upd (I 6) (Int32.toNatClampNeg (I 0 8)) (I 11 (Int32.toNatClampNeg v1)))) 0 8) 8 = true then (some ((1 : Int32), (u2 (u1 (u1 I 6 (upd (I 6) (Int32.toNatClampNeg (I 0 8)) (I 11 (Int32.toNatClampNeg v1)))) 7 (upd ((u1 I 6 (upd (I 6) (Int32.toNatClampNeg (I 0 8)) (I 11 (Int32.toNatClampNeg v1)))) 7) (Int32.toNatClampNeg ((u1 I 6 (upd (I 6) (Int32.toNatClampNeg (I 0 8)) (I 11 (Int32.toNatClampNeg v1)))) 0 8)) (I 12 (Int32.toNatClampNeg v1)))) 0 8 (((u1 (u1 I 6 (upd (I 6) (Int32.toNatClampNeg (I 0 8)) (I 11 (Int32.toNatClampNeg v1)))) 7 (upd ((u1 I 6 (upd (I 6) (Int32.toNatClampNeg (I 0 8)) (I 11 (Int32.toNatClampNeg v1)))) 7) (Int32.toNatClampNeg ((u1 I 6 (upd (I 6) (Int32.toNatClampNeg (I 0 8)) (I 11 (Int32.toNatClampNeg v1)))) 0 8)) (I 12 (Int32.toNatClampNeg v1)))) 0 8) + (1 : Int32))), J)) else none) else none) else (some ((0 : Int32), I, J)))))))) else (if (I 9 (Int32.toNatClampNeg v1)) = 103 then ((F_X8_sets I J (0 : Int32) (I 11 (Int32.toNatClampNeg v1))).bind fun (r19, I19, J19) => (if gbo r19 = true then (some (r19, I19, J19)) else none)) else (if (I 9 (Int32.toNatClampNeg v1)) = 104 then ((F_X8_isIn (I 11 (Int32.toNatClampNeg v1)) (1 : Int32) (100 : Int32)).bind fun r22 => (if r22 = 0 then (some ((0 : Int32), I, J)) else (if (300 : Int32) < (I 12 (Int32.toNatClampNeg v1)) then (some ((0 : Int32), I, J)) else (if (I 0 8) = (6 : Int32) then (some ((0 : Int32), I, J)) else ((F_X8_allChances I J).bind fun r26 => (if (r26 + (I 11 (Int32.toNatClampNeg v1))) ≤ (100 : Int32) then (if gin (I 0 8) 8 = true then (if gin ((u1 I 6 (upd (I 6) (Int32.toNatClampNeg (I 0 8)) (I 11 (Int32.toNatClampNeg v1)))) 0 8) 8 = true then (some ((1 : Int32), (u2 (u1 (u1 I 6 (upd (I 6) (Int32.toNatClampNeg (I 0 8)) (I 11 (Int32.toNatClampNeg v1)))) 7 (upd ((u1 I 6 (upd (I 6) (Int32.toNatClampNeg (I 0 8)) (I 11 (Int32.toNatClampNeg v1)))) 7) (Int32.toNatClampNeg ((u1 I 6 (upd (I 6) (Int32.toNatClampNeg (I 0 8)) (I 11 (Int32.toNatClampNeg v1)))) 0 8)) (I 12 (Int32.toNatClampNeg v1)))) 0 8 (((u1 (u1 I 6 (upd (I 6) (Int32.toNatClampNeg (I 0 8)) (I 11 (Int32.toNatClampNeg v1)))) 7 (upd ((u1 I 6 (upd (I 6) (Int32.toNatClampNeg (I 0 8)) (I 11 (Int32.toNatClampNeg v1)))) 7) (Int32.toNatClampNeg ((u1 I 6 (upd (I 6) (Int32.toNatClampNeg (I 0 8)) (I 11 (Int32.toNatClampNeg v1)))) 0 8)) (I 12 (Int32.toNatClampNeg v1)))) 0 8) + (1 : Int32))), J)) else none) else none) else (some ((0 : Int32), I, J)))))))) else (if (I 9 (Int32.toNatClampNeg v1)) = 105 then ((F_X8_isIn (I 11 (Int32.toNatClampNeg v1)) (1 : Int32) (100 : Int32)).bind fun r31 => (if r31 = 0 then (some ((0 : Int32), I, J)) else (if (300 : Int32) < (I 12 (Int32.toNatClampNeg v1)) then (some ((0 : Int32), I, J)) else (if (I 0 8) = (6 : Int32) then (some ((0 : Int32), I, J)) else ((F_X8_allChances I J).bind fun r35 => (if (r35 + (I 11 (Int32.toNatClampNeg v1))) ≤ (100 : Int32) then (if gin (I 0 8) 8 = true then (if gin ((u1 I 6 (upd (I 6) (Int32.toNatClampNeg (I 0 8)) (I 11 (Int32.toNatClampNeg v1)))) 0 8) 8 = true then (some ((1 : Int32), (u2 (u1 (u1 I 6 (upd (I 6) (Int32.toNatClampNeg (I 0 8)) (I 11 (Int32.toNatClampNeg v1)))) 7 (upd ((u1 I 6 (upd (I 6) (Int32.toNatClampNeg (I 0 8)) (I 11 (Int32.toNatClampNeg v1)))) 7) (Int32.toNatClampNeg ((u1 I 6 (upd (I 6) (Int32.toNatClampNeg (I 0 8)) (I 11 (Int32.toNatClampNeg v1)))) 0 8)) (I 12 (Int32.toNatClampNeg v1)))) 0 8 (((u1 (u1 I 6 (upd (I 6) (Int32.toNatClampNeg (I 0 8)) (I 11 (Int32.toNatClampNeg v1)))) 7 (upd ((u1 I 6 (upd (I 6) (Int32.toNatClampNeg (I 0 8)) (I 11 (Int32.toNatClampNeg v1)))) 7) (Int32.toNatClampNeg ((u1 I 6 (upd (I 6) (Int32.toNatClampNeg (I 0 8)) (I 11 (Int32.toNatClampNeg v1)))) 0 8)) (I 12 (Int32.toNatClampNeg v1)))) 0 8) + (1 : Int32))), J)) else none) else none) else (some ((0 : Int32), I, J)))))))) else (if (I 9 (Int32.toNatClampNeg v1)) = 106 then ((F_X8_isIn (I 11 (Int32.toNatClampNeg v1)) (1 : Int32) (100 : Int32)).bind fun r40 => (if r40 = 0 then (some ((0 : Int32), I, J)) else (if (300 : Int32) < (I 12 (Int32.toNatClampNeg v1)) then (some ((0 : Int32), I, J)) else (if (I 0 8) = (6 : Int32) then (some ((0 : Int32), I, J)) else ((F_X8_allChances I J).bind fun r44 => (if (r44 + (I 11 (Int32.toNatClampNeg v1))) ≤ (100 : Int32) then (if gin (I 0 8) 8 = true then (if gin ((u1 I 6 (upd (I 6) (Int32.toNatClampNeg (I 0 8)) (I 11 (Int32.toNatClampNeg v1)))) 0 8) 8 = true then (some ((1 : Int32), (u2 (u1 (u1 I 6 (upd (I 6) (Int32.toNatClampNeg (I 0 8)) (I 11 (Int32.toNatClampNeg v1)))) 7 (upd ((u1 I 6 (upd (I 6) (Int32.toNatClampNeg (I 0 8)) (I 11 (Int32.toNatClampNeg v1)))) 7) (Int32.toNatClampNeg ((u1 I 6 (upd (I 6) (Int32.toNatClampNeg (I 0 8)) (I 11 (Int32.toNatClampNeg v1)))) 0 8)) (I 12 (Int32.toNatClampNeg v1)))) 0 8 (((u1 (u1 I 6 (upd (I 6) (Int32.toNatClampNeg (I 0 8)) (I 11 (Int32.toNatClampNeg v1)))) 7 (upd ((u1 I 6 (upd (I 6) (Int32.toNatClampNeg (I 0 8)) (I 11 (Int32.toNatClampNeg v1)))) 7) (Int32.toNatClampNeg ((u1 I 6 (upd (I 6) (Int32.toNatClampNeg (I 0 8)) (I 11 (Int32.toNatClampNeg v1)))) 0 8)) (I 12 (Int32.toNatClampNeg v1)))) 0 8) + (1 : Int32))), J)) else none) else none) else (some ((0 : Int32), I, J)))))))) else (if (I 9 (Int32.toNatClampNeg v1)) = 107 then ((F_X8_isIn (I 11 (Int32.toNatClampNeg v1)) (1 : Int32) (100 : Int32)).bind fun r49 => (if r49 = 0 then (some ((0 : Int32), I, J)) else (if (300 : Int32) < (I 12 (Int32.toNatClampNeg v1)) then (some ((0 : Int32), I, J)) else (if (I 0 8) = (6 : Int32) then (some ((0 : Int32), I, J)) else ((F_X8_allChances I J).bind fun r53 => (if (r53 + (I 11 (Int32.toNatClampNeg v1))) ≤ (100 : Int32) then (if gin (I 0 8) 8 = true then (if gin ((u1 I 6 (upd (I 6) (Int32.toNatClampNeg (I 0 8)) (I 11 (Int32.toNatClampNeg v1)))) 0 8) 8 = true then (some ((1 : Int32), (u2 (u1 (u1 I 6 (upd (I 6) (Int32.toNatClampNeg (I 0 8)) (I 11 (Int32.toNatClampNeg v1)))) 7 (upd ((u1 I 6 (upd (I 6) (Int32.toNatClampNeg (I 0 8)) (I 11 (Int32.toNatClampNeg v1)))) 7) (Int32.toNatClampNeg ((u1 I 6 (upd (I 6) (Int32.toNatClampNeg (I 0 8)) (I 11 (Int32.toNatClampNeg v1)))) 0 8)) (I 12 (Int32.toNatClampNeg v1)))) 0 8 (((u1 (u1 I 6 (upd (I 6) (Int32.toNatClampNeg (I 0 8)) (I 11 (Int32.toNatClampNeg v1)))) 7 (upd ((u1 I 6 (upd (I 6) (Int32.toNatClampNeg (I 0 8)) (I 11 (Int32.toNatClampNeg v1)))) 7) (Int32.toNatClampNeg ((u1 I 6 (upd (I 6) (Int32.toNatClampNeg (I 0 8)) (I 11 (Int32.toNatClampNeg v1)))) 0 8)) (I 12 (Int32.toNatClampNeg v1)))) 0 8) + (1 : Int32))), J)) else none) else none) else (some ((0 : Int32), I, J)))))))) else (if (I 9 (Int32.toNatClampNeg v1)) = 108 then ((F_X8_isIn (I 11 (Int32.toNatClampNeg v1)) (1 : Int32) (100 : Int32)).bind fun r58 => (if r58 = 0 then (some ((0 : Int32), I, J)) else (if (300 : Int32) < (I 12 (Int32.toNatClampNeg v1)) then (some ((0 : Int32), I, J)) else (if (I 0 8) = (6 : Int32) then (some ((0 : Int32), I, J)) else ((F_X8_allChances I J).bind fun r62 => (if (r62 + (I 11 (Int32.toNatClampNeg v1))) ≤ (100 : Int32) then (if gin (I 0 8) 8 = true then (if gin ((u1 I 6 (upd (I 6) (Int32.toNatClampNeg (I 0 8)) (I 11 (Int32.toNatClampNeg v1)))) 0 8) 8 = true then (some ((1 : Int32), (u2 (u1 (u1 I 6 (upd (I 6) (Int32.toNatClampNeg (I 0 8)) (I 11 (Int32.toNatClampNeg v1)))) 7 (upd ((u1 I 6 (upd (I 6) (Int32.toNatClampNeg (I 0 8)) (I 11 (Int32.toNatClampNeg v1)))) 7) (Int32.toNatClampNeg ((u1 I 6 (upd (I 6) (Int32.toNatClampNeg (I 0 8)) (I 11 (Int32.toNatClampNeg v1)))) 0 8)) (I 12 (Int32.toNatClampNeg v1)))) 0 8 (((u1 (u1 I 6 (upd (I 6) (Int32.toNatClampNeg (I 0 8)) (I 11 (Int32.toNatClampNeg v1)))) 7 (upd ((u1 I 6 (upd (I 6) (Int32.toNatClampNeg (I 0 8)) (I 11 (Int32.toNatClampNeg v1)))) 7) (Int32.toNatClampNeg ((u1 I 6 (upd (I 6) (Int32.toNatClampNeg (I 0 8)) (I 11 (Int32.toNatClampNeg v1)))) 0 8)) (I 12 (Int32.toNatClampNeg v1)))) 0 8) + (1 : Int32))), J)) else none) else none) else (some ((0 : Int32), I, J)))))))) else (if (I 9 (Int32.toNatClampNeg v1)) = 109 then ((F_X8_sets I J (4 : Int32) (I 11 (Int32.toNatClampNeg v1))).bind fun (r67, I67, J67) => (if r67 = 0 then (some ((0 : Int32), I67, J67)) else ((F_X8_sets I67 J67 (5 : Int32) (I 12 (Int32.toNatClampNeg v1))).bind fun (r69, I69, J69) => (if r69 = 0 then (some ((0 : Int32), I69, J69)) else (some ((1 : Int32), I69, J69)))))) else (if (I 9 (Int32.toNatClampNeg v1)) = 110 then ((F_X8_isIn (I 11 (Int32.toNatClampNeg v1)) (1 : Int32) (100 : Int32)).bind fun r72 => (if r72 = 0 then (some ((0 : Int32), I, J)) else (if (300 : Int32) < (I 12 (Int32.toNatClampNeg v1)) then (some ((0 : Int32), I, J)) else (if (I 0 8) = (6 : Int32) then (some ((0 : Int32), I, J)) else ((F_X8_allChances I J).bind fun r76 => (if (r76 + (I 11 (Int32.toNatClampNeg v1))) ≤ (100 : Int32) then (if gin (I 0 8) 8 = true then (if gin ((u1 I 6 (upd (I 6) (Int32.toNatClampNeg (I 0 8)) (I 11 (Int32.toNatClampNeg v1)))) 0 8) 8 = true then (some ((1 : Int32), (u2 (u1 (u1 I 6 (upd (I 6) (Int32.toNatClampNeg (I 0 8)) (I 11 (Int32.toNatClampNeg v1)))) 7 (upd ((u1 I 6 (upd (I 6) (Int32.toNatClampNeg (I 0 8)) (I 11 (Int32.toNatClampNeg v1)))) 7) (Int32.toNatClampNeg ((u1 I 6 (upd (I 6) (Int32.toNatClampNeg (I 0 8)) (I 11 (Int32.toNatClampNeg v1)))) 0 8)) (I 12 (Int32.toNatClampNeg v1)))) 0 8 (((u1 (u1 I 6 (upd (I 6) (Int32.toNatClampNeg (I 0 8)) (I 11 (Int32.toNatClampNeg v1)))) 7 (upd ((u1 I 6 (upd (I 6) (Int32.toNatClampNeg (I 0 8)) (I 11 (Int32.toNatClampNeg v1)))) 7) (Int32.toNatClampNeg ((u1 I 6 (upd (I 6) (Int32.toNatClampNeg (I 0 8)) (I 11 (Int32.toNatClampNeg v1)))) 0 8)) (I 12 (Int32.toNatClampNeg v1)))) 0 8) + (1 : Int32))), J)) else none) else none) else (some ((0 : Int32), I, J)))))))) else (if (I 9 (Int32.toNatClampNeg v1)) = 111 then ((F_X8_sets I J (1 : Int32) (I 11 (Int32.toNatClampNeg v1))).bind fun (r81, I81, J81) => (if gbo r81 = true then (some (r81, I81, J81)) else none)) else (if (I 9 (Int32.toNatClampNeg v1)) = 112 then (if (99 : Int32) < (I 11 (Int32.toNatClampNeg v1)) then (some ((0 : Int32), I, J)) else (if (99 : Int32) < (I 12 (Int32.toNatClampNeg v1)) then (some ((0 : Int32), I, J)) else (if (I 0 7) = (8 : Int32) then (some ((0 : Int32), I, J)) else (if gin (I 0 7) 8 = true then (if gin ((u1 I 4 (upd (I 4) (Int32.toNatClampNeg (I 0 7)) (I 11 (Int32.toNatClampNeg v1)))) 0 7) 8 = true then (some ((1 : Int32), (u2 (u1 (u1 I 4 (upd (I 4) (Int32.toNatClampNeg (I 0 7)) (I 11 (Int32.toNatClampNeg v1)))) 5 (upd ((u1 I 4 (upd (I 4) (Int32.toNatClampNeg (I 0 7)) (I 11 (Int32.toNatClampNeg v1)))) 5) (Int32.toNatClampNeg ((u1 I 4 (upd (I 4) (Int32.toNatClampNeg (I 0 7)) (I 11 (Int32.toNatClampNeg v1)))) 0 7)) (I 12 (Int32.toNatClampNeg v1)))) 0 7 (((u1 (u1 I 4 (upd (I 4) (Int32.toNatClampNeg (I 0 7)) (I 11 (Int32.toNatClampNeg v1)))) 5 (upd ((u1 I 4 (upd (I 4) (Int32.toNatClampNeg (I 0 7)) (I 11 (Int32.toNatClampNeg v1)))) 5) (Int32.toNatClampNeg ((u1 I 4 (upd (I 4) (Int32.toNatClampNeg (I 0 7)) (I 11 (Int32.toNatClampNeg v1)))) 0 7)) (I 12 (Int32.toNatClampNeg v1)))) 0 7) + (1 : Int32))), J)) else none) else none)))) else (if (I 9 (Int32.toNatClampNeg v1)) = 113 then ((F_X8_isIn (I 11 (Int32.toNatClampNeg v1)) (1 : Int32) (100 : Int32)).bind fun r90 => (if r90 = 0 then (some ((0 : Int32), I, J)) else (if (300 : Int32) < (I 12 (Int32.toNatClampNeg v1)) then (some ((0 : Int32), I, J)) else (if (I 0 8) = (6 : Int32) then (some ((0 : Int32), I, J)) else ((F_X8_allChances I J).bind fun r94 => (if (r94 + (I 11 (Int32.toNatClampNeg v1))) ≤ (100 : Int32) then (if gin (I 0 8) 8 = true then (if gin ((u1 I 6 (upd (I 6) (Int32.toNatClampNeg (I 0 8)) (I 11 (Int32.toNatClampNeg v1)))) 0 8) 8 = true then (some ((1 : Int32), (u2 (u1 (u1 I 6 (upd (I 6) (Int32.toNatClampNeg (I 0 8)) (I 11 (Int32.toNatClampNeg v1)))) 7 (upd ((u1 I 6 (upd (I 6) (Int32.toNatClampNeg (I 0 8)) (I 11 (Int32.toNatClampNeg v1)))) 7) (Int32.toNatClampNeg ((u1 I 6 (upd (I 6) (Int32.toNatClampNeg (I 0 8)) (I 11 (Int32.toNatClampNeg v1)))) 0 8)) (I 12 (Int32.toNatClampNeg v1)))) 0 8 (((u1 (u1 I 6 (upd (I 6) (Int32.toNatClampNeg (I 0 8)) (I 11 (Int32.toNatClampNeg v1)))) 7 (upd ((u1 I 6 (upd (I 6) (Int32.toNatClampNeg (I 0 8)) (I 11 (Int32.toNatClampNeg v1)))) 7) (Int32.toNatClampNeg ((u1 I 6 (upd (I 6) (Int32.toNatClampNeg (I 0 8)) (I 11 (Int32.toNatClampNeg v1)))) 0 8)) (I 12 (Int32.toNatClampNeg v1)))) 0 8) + (1 : Int32))), J)) else none) else none) else (some ((0 : Int32), I, J)))))))) else (if (I 9 (Int32.toNatClampNeg v1)) = 114 then ((F_X8_isIn (I 11 (Int32.toNatClampNeg v1)) (1 : Int32) (100 : Int32)).bind fun r99 => (if r99 = 0 then (some ((0 : Int32), I, J)) else (if (300 : Int32) < (I 12 (Int32.toNatClampNeg v1)) then (some ((0 : Int32), I, J)) else (if (I 0 8) = (6 : Int32) then (some ((0 : Int32), I, J)) else ((F_X8_allChances I J).bind fun r103 => (if (r103 + (I 11 (Int32.toNatClampNeg v1))) ≤ (100 : Int32) then (if gin (I 0 8) 8 = true then (if gin ((u1 I 6 (upd (I 6) (Int32.toNatClampNeg (I 0 8)) (I 11 (Int32.toNatClampNeg v1)))) 0 8) 8 = true then (some ((1 : Int32), (u2 (u1 (u1 I 6 (upd (I 6) (Int32.toNatClampNeg (I 0 8)) (I 11 (Int32.toNatClampNeg v1)))) 7 (upd ((u1 I 6 (upd (I 6) (Int32.toNatClampNeg (I 0 8)) (I 11 (Int32.toNatClampNeg v1)))) 7) (Int32.toNatClampNeg ((u1 I 6 (upd (I 6) (Int32.toNatClampNeg (I 0 8)) (I 11 (Int32.toNatClampNeg v1)))) 0 8)) (I 12 (Int32.toNatClampNeg v1)))) 0 8 (((u1 (u1 I 6 (upd (I 6) (Int32.toNatClampNeg (I 0 8)) (I 11 (Int32.toNatClampNeg v1)))) 7 (upd ((u1 I 6 (upd (I 6) (Int32.toNatClampNeg (I 0 8)) (I 11 (Int32.toNatClampNeg v1)))) 7) (Int32.toNatClampNeg ((u1 I 6 (upd (I 6) (Int32.toNatClampNeg (I 0 8)) (I 11 (Int32.toNatClampNeg v1)))) 0 8)) (I 12 (Int32.toNatClampNeg v1)))) 0 8) + (1 : Int32))), J)) else none) else none) else (some ((0 : Int32), I, J)))))))) else (if (I 9 (Int32.toNatClampNeg v1)) = 115 then ((F_X8_sets I J (2 : Int32) (I 11 (Int32.toNatClampNeg v1))).bind fun (r108, I108, J108) => (if r108 = 0 then (some ((0 : Int32), I108, J108)) else ((F_X8_sets I108 J108 (3 : Int32) (I 12 (Int32.toNatClampNeg v1))).bind fun (r110, I110, J110) => (if r110 = 0 then (some ((0 : Int32), I110, J110)) else (some ((1 : Int32), I110, J110)))))) else ((F_X8_isIn (I 11 (Int32.toNatClampNeg v1)) (1 : Int32) (100 : Int32)).bind fun r112 => (if r112 = 0 then (some ((0 : Int32), I, J)) else (if (300 : Int32) < (I 12 (Int32.toNatClampNeg v1)) then (some ((0 : Int32), I, J)) else (if (I 0 8) = (6 : Int32) then (some ((0 : Int32), I, J)) else ((F_X8_allChances I J).bind fun r116 => (if (r116 + (I 11 (Int32.toNatClampNeg v1))) ≤ (100 : Int32) then (if gin (I 0 8) 8 = true then (if gin ((u1 I 6 (upd (I 6) (Int32.toNatClampNeg (I 0 8)) (I 11 (Int32.toNatClampNeg v1)))) 0 8) 8 = true then (some ((1 : Int32), (u2 (u1 (u1 I 6 (upd (I 6) (Int32.toNatClampNeg (I 0 8)) (I 11 (Int32.toNatClampNeg v1)))) 7 (upd ((u1 I 6 (upd (I 6) (Int32.toNatClampNeg (I 0 8)) (I 11 (Int32.toNatClampNeg v1)))) 7) (Int32.toNatClampNeg ((u1 I 6 (upd (I 6) (Int32.toNatClampNeg (I 0 8)) (I 11 (Int32.toNatClampNeg v1)))) 0 8)) (I 12 (Int32.toNatClampNeg v1)))) 0 8 (((u1 (u1 I 6 (upd (I 6) (Int32.toNatClampNeg (I 0 8)) (I 11 (Int32.toNatClampNeg v1)))) 7 (upd ((u1 I 6 (upd (I 6) (Int32.toNatClampNeg (I 0 8)) (I 11 (Int32.toNatClampNeg v1)))) 7) (Int32.toNatClampNeg ((u1 I 6 (upd (I 6) (Int32.toNatClampNeg (I 0 8)) (I 11 (Int32.toNatClampNeg v1)))) 0 8)) (I 12 (Int32.toNatClampNeg v1)))) 0 8) + (1 : Int32))), J)) else none) else none) else (some ((0 : Int32), I, J))))))))))))))))))))))) else none) else none) else none)
set_option maxHeartbeats 4000000 in
set_option maxRecDepth 100000 in
theorem c_X8_comes (l : Launch) (g : Gx) (ad : Nat → Nat) (I : SI) (J : SJ) (v1 : Int32)  (sz : Nat) {r : Int32} {rI : SI} {rJ : SJ} (h : F_X8_comes I J v1 = some (r, rI, rJ)) : Met l yX8_comes (Cond.code yX8_comes cX8_comes 4 (some .boolean) :: BG) (k2_rm 2 44) (PcW [.ref (ad 0), .int v1] g (mW ad g I J) sz) (QWi r g (mW ad g I J) (mW ad g rI rJ) sz) 0 0 (va_A (mW ad g I J) sz) := by
  refine mkWz (by decide) (Nat.le_of_ble_eq_true rfl) ?_
  intro p e s m args below meth c H locs ls A Q hC hK hP hD hA hS hl hret
  have hx := hC.1
  have hb := hC.2.1
  have hts := hC.2.2.2.2
  have hown := hC.2.2.2.1
  replace hl : lv_has ls 4 [(0, .ref (ad 0)), (1, .int v1)] := hl
  unfold F_X8_comes at h
  refine lv_aload_n hx hb dX8_comes_0 rfl (lv_at hl 0 rfl) ?_
  refine gt_X8_40 hC hK hP dX8_comes_1 ?_
  refine lv_iload_n hx hb dX8_comes_4 rfl (lv_at hl 1 rfl) ?_
  obtain ⟨b1, h⟩ := og h
  refine al_m11 hC hK hP (gin_ok b1) dX8_comes_5 ?_
  refine lv_istore_n (lv' := [(2, .int (I 11 (Int32.toNatClampNeg v1))), (0, .ref (ad 0)), (1, .int v1)]) hx hb dX8_comes_6 rfl hl (by decide) rfl (fun ls hl => ?_)
  refine lv_aload_n hx hb dX8_comes_7 rfl (lv_at hl 1 rfl) ?_
  refine gt_X8_43 hC hK hP dX8_comes_8 ?_
  refine lv_iload_n hx hb dX8_comes_11 rfl (lv_at hl 2 rfl) ?_
  obtain ⟨b2, h⟩ := og h
  refine al_m12 hC hK hP (gin_ok b2) dX8_comes_12 ?_
  refine lv_istore_n (lv' := [(3, .int (I 12 (Int32.toNatClampNeg v1))), (2, .int (I 11 (Int32.toNatClampNeg v1))), (0, .ref (ad 0)), (1, .int v1)]) hx hb dX8_comes_13 rfl hl (by decide) rfl (fun ls hl => ?_)
  refine lv_aload_n hx hb dX8_comes_14 rfl (lv_at hl 2 rfl) ?_
  refine gt_X8_34 hC hK hP dX8_comes_15 ?_
  refine lv_iload_n hx hb dX8_comes_18 rfl (lv_at hl 3 rfl) ?_
  obtain ⟨b3, h⟩ := og h
  refine al_m9 hC hK hP (gin_ok b3) dX8_comes_19 ?_
  by_cases c4 : (I 9 (Int32.toNatClampNeg v1)) = 101
  · replace h := (if_pos c4).symm.trans h
    refine lv_tableIn (off := 138) (tgt := 158) hx hb dX8_comes_20 (by rw [c4]; decide) (by rw [c4]; decide) (by rw [c4]; decide) (by decide) ?_
    refine lv_aload_n hx hb dX8_comes_158 rfl (lv_at hl 2 rfl) ?_
    refine lv_bipush (v := 6) hx hb dX8_comes_159 (by decide) ?_
    refine lv_iload_n hx hb dX8_comes_161 rfl (lv_at hl 1 rfl) ?_
    obtain ⟨⟨r5, I5, J5⟩, hc5, h⟩ := ob h
    dsimp only at h
    refine callWVi (As := [.int (6 : Int32), .int (I 11 (Int32.toNatClampNeg v1))]) (rest := []) hC (c_X8_sets l g ad I J (6 : Int32) (I 11 (Int32.toNatClampNeg v1))  H.size hc5) lk_X8_121 rfl rfl ⟨Nat.le_of_ble_eq_true rfl, Nat.le_of_ble_eq_true rfl⟩ hP hK hD hA hS mo_0 rfl rfl rfl hl (Nat.le_of_ble_eq_true rfl) dX8_comes_162 (fun H locs hP hD hS => ?_)
    refine lv_if_eq (tgt := 182) hx hb dX8_comes_165 (by decide) (fun c6 => ?_) (fun c6 => ?_)
    · replace h := (if_pos c6).symm.trans h
      refine lv_iconst (v := 0) hx hb dX8_comes_182 (by decide) ?_
      obtain ⟨h1, h⟩ := Prod.mk.inj (Option.some.inj h)
      obtain ⟨rfl, rfl⟩ := Prod.mk.inj h
      exact hret _ _ _ _ _ dX8_comes_183 rfl h1 hP hD hS
    · replace h := (if_neg c6).symm.trans h
      refine lv_aload_n hx hb dX8_comes_168 rfl (lv_at hl 2 rfl) ?_
      refine lv_bipush (v := 7) hx hb dX8_comes_169 (by decide) ?_
      refine lv_iload_n hx hb dX8_comes_171 rfl (lv_at hl 0 rfl) ?_
      obtain ⟨⟨r7, I7, J7⟩, hc7, h⟩ := ob h
      dsimp only at h
      refine callWVi (As := [.int (7 : Int32), .int (I 12 (Int32.toNatClampNeg v1))]) (rest := []) hC (c_X8_sets l g ad I5 J5 (7 : Int32) (I 12 (Int32.toNatClampNeg v1))  H.size hc7) lk_X8_121 rfl rfl ⟨Nat.le_of_ble_eq_true rfl, Nat.le_of_ble_eq_true rfl⟩ hP hK hD hA hS mo_0 rfl rfl rfl hl (Nat.le_of_ble_eq_true rfl) dX8_comes_172 (fun H locs hP hD hS => ?_)
      refine lv_if_eq (tgt := 182) hx hb dX8_comes_175 (by decide) (fun c8 => ?_) (fun c8 => ?_)
      · replace h := (if_pos c8).symm.trans h
        refine lv_iconst (v := 0) hx hb dX8_comes_182 (by decide) ?_
        obtain ⟨h1, h⟩ := Prod.mk.inj (Option.some.inj h)
        obtain ⟨rfl, rfl⟩ := Prod.mk.inj h
        exact hret _ _ _ _ _ dX8_comes_183 rfl h1 hP hD hS
      · replace h := (if_neg c8).symm.trans h
        refine lv_iconst (v := 1) hx hb dX8_comes_178 (by decide) ?_
        refine lv_goto (tgt := 183) hx hb dX8_comes_179 (by decide) ?_
        obtain ⟨h1, h⟩ := Prod.mk.inj (Option.some.inj h)
        obtain ⟨rfl, rfl⟩ := Prod.mk.inj h
        exact hret _ _ _ _ _ dX8_comes_183 rfl h1 hP hD hS
  · replace h := (if_neg c4).symm.trans h
    by_cases c9 : (I 9 (Int32.toNatClampNeg v1)) = 102
    · replace h := (if_pos c9).symm.trans h
      refine lv_tableIn (off := 219) (tgt := 239) hx hb dX8_comes_20 (by rw [c9]; decide) (by rw [c9]; decide) (by rw [c9]; decide) (by decide) ?_
      refine lv_iload_n hx hb dX8_comes_239 rfl (lv_at hl 1 rfl) ?_
      refine lv_iconst (v := 1) hx hb dX8_comes_240 (by decide) ?_
      refine lv_bipush (v := 100) hx hb dX8_comes_241 (by decide) ?_
      obtain ⟨r10, hc10, h⟩ := ob h
      refine callRS (As := [.int (I 11 (Int32.toNatClampNeg v1)), .int (1 : Int32), .int (100 : Int32)]) (rest := []) hC (c_X8_isIn l g (mW ad g I J) (I 11 (Int32.toNatClampNeg v1)) (1 : Int32) (100 : Int32) hc10) lk_X8_104 rfl rfl ⟨Nat.le_of_ble_eq_true rfl, Nat.le_of_ble_eq_true rfl⟩ hP hK rfl rfl hl (Nat.le_of_ble_eq_true rfl) dX8_comes_243 ?_
      refine lv_if_eq (tgt := 276) hx hb dX8_comes_246 (by decide) (fun c11 => ?_) (fun c11 => ?_)
      · replace h := (if_pos c11).symm.trans h
        refine lv_iconst (v := 0) hx hb dX8_comes_276 (by decide) ?_
        obtain ⟨h1, h⟩ := Prod.mk.inj (Option.some.inj h)
        obtain ⟨rfl, rfl⟩ := Prod.mk.inj h
        exact hret _ _ _ _ _ dX8_comes_277 rfl h1 hP hD hS
      · replace h := (if_neg c11).symm.trans h
        refine lv_iload_n hx hb dX8_comes_249 rfl (lv_at hl 0 rfl) ?_
        refine lv_sipush (v := 300) hx hb dX8_comes_250 (by decide) ?_
        refine lv_icmp_gt (tgt := 276) hx hb dX8_comes_253 (by decide) (fun c12 => ?_) (fun c12 => ?_)
        · replace h := (if_pos c12).symm.trans h
          refine lv_iconst (v := 0) hx hb dX8_comes_276 (by decide) ?_
          obtain ⟨h1, h⟩ := Prod.mk.inj (Option.some.inj h)
          obtain ⟨rfl, rfl⟩ := Prod.mk.inj h
          exact hret _ _ _ _ _ dX8_comes_277 rfl h1 hP hD hS
        · replace h := (if_neg c12).symm.trans h
          refine lv_aload_n hx hb dX8_comes_256 rfl (lv_at hl 2 rfl) ?_
          refine gt_X8_77 hC hK hP dX8_comes_257 ?_
          refine lv_bipush (v := 6) hx hb dX8_comes_260 (by decide) ?_
          refine lv_icmp_eq (tgt := 276) hx hb dX8_comes_262 (by decide) (fun c13 => ?_) (fun c13 => ?_)
          · replace h := (if_pos c13).symm.trans h
            refine lv_iconst (v := 0) hx hb dX8_comes_276 (by decide) ?_
            obtain ⟨h1, h⟩ := Prod.mk.inj (Option.some.inj h)
            obtain ⟨rfl, rfl⟩ := Prod.mk.inj h
            exact hret _ _ _ _ _ dX8_comes_277 rfl h1 hP hD hS
          · replace h := (if_neg c13).symm.trans h
            refine lv_aload_n hx hb dX8_comes_265 rfl (lv_at hl 2 rfl) ?_
            obtain ⟨r14, hc14, h⟩ := ob h
            refine callRV (As := []) (rest := []) hC (c_X8_allChances l g ad I J   hc14) lk_X8_81 rfl rfl ⟨Nat.le_of_ble_eq_true rfl, Nat.le_of_ble_eq_true rfl⟩ hP hK mo_0 rfl rfl rfl hl (Nat.le_of_ble_eq_true rfl) dX8_comes_266 ?_
            refine lv_iload_n hx hb dX8_comes_269 rfl (lv_at hl 1 rfl) ?_
            refine lv_iadd hx hb dX8_comes_270 ?_
            refine lv_bipush (v := 100) hx hb dX8_comes_271 (by decide) ?_
            refine lv_icmp_le (tgt := 278) hx hb dX8_comes_273 (by decide) (fun c15 => ?_) (fun c15 => ?_)
            · replace h := (if_pos c15).symm.trans h
              refine lv_aload_n hx hb dX8_comes_278 rfl (lv_at hl 2 rfl) ?_
              refine gt_X8_25 hC hK hP dX8_comes_279 ?_
              refine lv_aload_n hx hb dX8_comes_282 rfl (lv_at hl 2 rfl) ?_
              refine gt_X8_77 hC hK hP dX8_comes_283 ?_
              refine lv_iload_n hx hb dX8_comes_286 rfl (lv_at hl 1 rfl) ?_
              obtain ⟨b16, h⟩ := og h
              refine as_m6 hC hK hP hD hS (gin_ok b16) dX8_comes_287 (fun H locs hP hD hS => ?_)
              refine lv_aload_n hx hb dX8_comes_288 rfl (lv_at hl 2 rfl) ?_
              refine gt_X8_28 hC hK hP dX8_comes_289 ?_
              refine lv_aload_n hx hb dX8_comes_292 rfl (lv_at hl 2 rfl) ?_
              refine gt_X8_77 hC hK hP dX8_comes_293 ?_
              refine lv_iload_n hx hb dX8_comes_296 rfl (lv_at hl 0 rfl) ?_
              obtain ⟨b17, h⟩ := og h
              refine as_m7 hC hK hP hD hS (gin_ok b17) dX8_comes_297 (fun H locs hP hD hS => ?_)
              refine lv_aload_n hx hb dX8_comes_298 rfl (lv_at hl 2 rfl) ?_
              refine lv_dup hx hb dX8_comes_299 rfl ?_
              refine gt_X8_77 hC hK hP dX8_comes_300 ?_
              refine lv_iconst (v := 1) hx hb dX8_comes_303 (by decide) ?_
              refine lv_iadd hx hb dX8_comes_304 ?_
              refine pt_X8_77 hC hK hP hD hS dX8_comes_305 (fun H locs hP hD hS => ?_)
              refine lv_iconst (v := 1) hx hb dX8_comes_308 (by decide) ?_
              obtain ⟨h1, h⟩ := Prod.mk.inj (Option.some.inj h)
              obtain ⟨rfl, rfl⟩ := Prod.mk.inj h
              exact hret _ _ _ _ _ dX8_comes_309 rfl h1 hP hD hS
            · replace h := (if_neg c15).symm.trans h
              refine lv_iconst (v := 0) hx hb dX8_comes_276 (by decide) ?_
              obtain ⟨h1, h⟩ := Prod.mk.inj (Option.some.inj h)
              obtain ⟨rfl, rfl⟩ := Prod.mk.inj h
              exact hret _ _ _ _ _ dX8_comes_277 rfl h1 hP hD hS
    · replace h := (if_neg c9).symm.trans h
      by_cases c18 : (I 9 (Int32.toNatClampNeg v1)) = 103
      · replace h := (if_pos c18).symm.trans h
        refine lv_tableIn (off := 76) (tgt := 96) hx hb dX8_comes_20 (by rw [c18]; decide) (by rw [c18]; decide) (by rw [c18]; decide) (by decide) ?_
        refine lv_aload_n hx hb dX8_comes_96 rfl (lv_at hl 2 rfl) ?_
        refine lv_iconst (v := 0) hx hb dX8_comes_97 (by decide) ?_
        refine lv_iload_n hx hb dX8_comes_98 rfl (lv_at hl 1 rfl) ?_
        obtain ⟨⟨r19, I19, J19⟩, hc19, h⟩ := ob h
        dsimp only at h
        refine callWVi (As := [.int (0 : Int32), .int (I 11 (Int32.toNatClampNeg v1))]) (rest := []) hC (c_X8_sets l g ad I J (0 : Int32) (I 11 (Int32.toNatClampNeg v1))  H.size hc19) lk_X8_121 rfl rfl ⟨Nat.le_of_ble_eq_true rfl, Nat.le_of_ble_eq_true rfl⟩ hP hK hD hA hS mo_0 rfl rfl rfl hl (Nat.le_of_ble_eq_true rfl) dX8_comes_99 (fun H locs hP hD hS => ?_)
        obtain ⟨z20, h⟩ := og h
        obtain ⟨h1, h⟩ := Prod.mk.inj (Option.some.inj h)
        obtain ⟨rfl, rfl⟩ := Prod.mk.inj h
        exact hret _ _ _ _ _ dX8_comes_102 (gbo_ok z20).1 h1 hP hD hS
      · replace h := (if_neg c18).symm.trans h
        by_cases c21 : (I 9 (Int32.toNatClampNeg v1)) = 104
        · replace h := (if_pos c21).symm.trans h
          refine lv_tableIn (off := 219) (tgt := 239) hx hb dX8_comes_20 (by rw [c21]; decide) (by rw [c21]; decide) (by rw [c21]; decide) (by decide) ?_
          refine lv_iload_n hx hb dX8_comes_239 rfl (lv_at hl 1 rfl) ?_
          refine lv_iconst (v := 1) hx hb dX8_comes_240 (by decide) ?_
          refine lv_bipush (v := 100) hx hb dX8_comes_241 (by decide) ?_
          obtain ⟨r22, hc22, h⟩ := ob h
          refine callRS (As := [.int (I 11 (Int32.toNatClampNeg v1)), .int (1 : Int32), .int (100 : Int32)]) (rest := []) hC (c_X8_isIn l g (mW ad g I J) (I 11 (Int32.toNatClampNeg v1)) (1 : Int32) (100 : Int32) hc22) lk_X8_104 rfl rfl ⟨Nat.le_of_ble_eq_true rfl, Nat.le_of_ble_eq_true rfl⟩ hP hK rfl rfl hl (Nat.le_of_ble_eq_true rfl) dX8_comes_243 ?_
          refine lv_if_eq (tgt := 276) hx hb dX8_comes_246 (by decide) (fun c23 => ?_) (fun c23 => ?_)
          · replace h := (if_pos c23).symm.trans h
            refine lv_iconst (v := 0) hx hb dX8_comes_276 (by decide) ?_
            obtain ⟨h1, h⟩ := Prod.mk.inj (Option.some.inj h)
            obtain ⟨rfl, rfl⟩ := Prod.mk.inj h
            exact hret _ _ _ _ _ dX8_comes_277 rfl h1 hP hD hS
          · replace h := (if_neg c23).symm.trans h
            refine lv_iload_n hx hb dX8_comes_249 rfl (lv_at hl 0 rfl) ?_
            refine lv_sipush (v := 300) hx hb dX8_comes_250 (by decide) ?_
            refine lv_icmp_gt (tgt := 276) hx hb dX8_comes_253 (by decide) (fun c24 => ?_) (fun c24 => ?_)
            · replace h := (if_pos c24).symm.trans h
              refine lv_iconst (v := 0) hx hb dX8_comes_276 (by decide) ?_
              obtain ⟨h1, h⟩ := Prod.mk.inj (Option.some.inj h)
              obtain ⟨rfl, rfl⟩ := Prod.mk.inj h
              exact hret _ _ _ _ _ dX8_comes_277 rfl h1 hP hD hS
            · replace h := (if_neg c24).symm.trans h
              refine lv_aload_n hx hb dX8_comes_256 rfl (lv_at hl 2 rfl) ?_
              refine gt_X8_77 hC hK hP dX8_comes_257 ?_
              refine lv_bipush (v := 6) hx hb dX8_comes_260 (by decide) ?_
              refine lv_icmp_eq (tgt := 276) hx hb dX8_comes_262 (by decide) (fun c25 => ?_) (fun c25 => ?_)
              · replace h := (if_pos c25).symm.trans h
                refine lv_iconst (v := 0) hx hb dX8_comes_276 (by decide) ?_
                obtain ⟨h1, h⟩ := Prod.mk.inj (Option.some.inj h)
                obtain ⟨rfl, rfl⟩ := Prod.mk.inj h
                exact hret _ _ _ _ _ dX8_comes_277 rfl h1 hP hD hS
              · replace h := (if_neg c25).symm.trans h
                refine lv_aload_n hx hb dX8_comes_265 rfl (lv_at hl 2 rfl) ?_
                obtain ⟨r26, hc26, h⟩ := ob h
                refine callRV (As := []) (rest := []) hC (c_X8_allChances l g ad I J   hc26) lk_X8_81 rfl rfl ⟨Nat.le_of_ble_eq_true rfl, Nat.le_of_ble_eq_true rfl⟩ hP hK mo_0 rfl rfl rfl hl (Nat.le_of_ble_eq_true rfl) dX8_comes_266 ?_
                refine lv_iload_n hx hb dX8_comes_269 rfl (lv_at hl 1 rfl) ?_
                refine lv_iadd hx hb dX8_comes_270 ?_
                refine lv_bipush (v := 100) hx hb dX8_comes_271 (by decide) ?_
                refine lv_icmp_le (tgt := 278) hx hb dX8_comes_273 (by decide) (fun c27 => ?_) (fun c27 => ?_)
                · replace h := (if_pos c27).symm.trans h
                  refine lv_aload_n hx hb dX8_comes_278 rfl (lv_at hl 2 rfl) ?_
                  refine gt_X8_25 hC hK hP dX8_comes_279 ?_
                  refine lv_aload_n hx hb dX8_comes_282 rfl (lv_at hl 2 rfl) ?_
                  refine gt_X8_77 hC hK hP dX8_comes_283 ?_
                  refine lv_iload_n hx hb dX8_comes_286 rfl (lv_at hl 1 rfl) ?_
                  obtain ⟨b28, h⟩ := og h
                  refine as_m6 hC hK hP hD hS (gin_ok b28) dX8_comes_287 (fun H locs hP hD hS => ?_)
                  refine lv_aload_n hx hb dX8_comes_288 rfl (lv_at hl 2 rfl) ?_
                  refine gt_X8_28 hC hK hP dX8_comes_289 ?_
                  refine lv_aload_n hx hb dX8_comes_292 rfl (lv_at hl 2 rfl) ?_
                  refine gt_X8_77 hC hK hP dX8_comes_293 ?_
                  refine lv_iload_n hx hb dX8_comes_296 rfl (lv_at hl 0 rfl) ?_
                  obtain ⟨b29, h⟩ := og h
                  refine as_m7 hC hK hP hD hS (gin_ok b29) dX8_comes_297 (fun H locs hP hD hS => ?_)
                  refine lv_aload_n hx hb dX8_comes_298 rfl (lv_at hl 2 rfl) ?_
                  refine lv_dup hx hb dX8_comes_299 rfl ?_
                  refine gt_X8_77 hC hK hP dX8_comes_300 ?_
                  refine lv_iconst (v := 1) hx hb dX8_comes_303 (by decide) ?_
                  refine lv_iadd hx hb dX8_comes_304 ?_
                  refine pt_X8_77 hC hK hP hD hS dX8_comes_305 (fun H locs hP hD hS => ?_)
                  refine lv_iconst (v := 1) hx hb dX8_comes_308 (by decide) ?_
                  obtain ⟨h1, h⟩ := Prod.mk.inj (Option.some.inj h)
                  obtain ⟨rfl, rfl⟩ := Prod.mk.inj h
                  exact hret _ _ _ _ _ dX8_comes_309 rfl h1 hP hD hS
                · replace h := (if_neg c27).symm.trans h
                  refine lv_iconst (v := 0) hx hb dX8_comes_276 (by decide) ?_
                  obtain ⟨h1, h⟩ := Prod.mk.inj (Option.some.inj h)
                  obtain ⟨rfl, rfl⟩ := Prod.mk.inj h
                  exact hret _ _ _ _ _ dX8_comes_277 rfl h1 hP hD hS
        · replace h := (if_neg c21).symm.trans h
          by_cases c30 : (I 9 (Int32.toNatClampNeg v1)) = 105
          · replace h := (if_pos c30).symm.trans h
            refine lv_tableIn (off := 219) (tgt := 239) hx hb dX8_comes_20 (by rw [c30]; decide) (by rw [c30]; decide) (by rw [c30]; decide) (by decide) ?_
            refine lv_iload_n hx hb dX8_comes_239 rfl (lv_at hl 1 rfl) ?_
            refine lv_iconst (v := 1) hx hb dX8_comes_240 (by decide) ?_
            refine lv_bipush (v := 100) hx hb dX8_comes_241 (by decide) ?_
            obtain ⟨r31, hc31, h⟩ := ob h
            refine callRS (As := [.int (I 11 (Int32.toNatClampNeg v1)), .int (1 : Int32), .int (100 : Int32)]) (rest := []) hC (c_X8_isIn l g (mW ad g I J) (I 11 (Int32.toNatClampNeg v1)) (1 : Int32) (100 : Int32) hc31) lk_X8_104 rfl rfl ⟨Nat.le_of_ble_eq_true rfl, Nat.le_of_ble_eq_true rfl⟩ hP hK rfl rfl hl (Nat.le_of_ble_eq_true rfl) dX8_comes_243 ?_
            refine lv_if_eq (tgt := 276) hx hb dX8_comes_246 (by decide) (fun c32 => ?_) (fun c32 => ?_)
            · replace h := (if_pos c32).symm.trans h
              refine lv_iconst (v := 0) hx hb dX8_comes_276 (by decide) ?_
              obtain ⟨h1, h⟩ := Prod.mk.inj (Option.some.inj h)
              obtain ⟨rfl, rfl⟩ := Prod.mk.inj h
              exact hret _ _ _ _ _ dX8_comes_277 rfl h1 hP hD hS
            · replace h := (if_neg c32).symm.trans h
              refine lv_iload_n hx hb dX8_comes_249 rfl (lv_at hl 0 rfl) ?_
              refine lv_sipush (v := 300) hx hb dX8_comes_250 (by decide) ?_
              refine lv_icmp_gt (tgt := 276) hx hb dX8_comes_253 (by decide) (fun c33 => ?_) (fun c33 => ?_)
              · replace h := (if_pos c33).symm.trans h
                refine lv_iconst (v := 0) hx hb dX8_comes_276 (by decide) ?_
                obtain ⟨h1, h⟩ := Prod.mk.inj (Option.some.inj h)
                obtain ⟨rfl, rfl⟩ := Prod.mk.inj h
                exact hret _ _ _ _ _ dX8_comes_277 rfl h1 hP hD hS
              · replace h := (if_neg c33).symm.trans h
                refine lv_aload_n hx hb dX8_comes_256 rfl (lv_at hl 2 rfl) ?_
                refine gt_X8_77 hC hK hP dX8_comes_257 ?_
                refine lv_bipush (v := 6) hx hb dX8_comes_260 (by decide) ?_
                refine lv_icmp_eq (tgt := 276) hx hb dX8_comes_262 (by decide) (fun c34 => ?_) (fun c34 => ?_)
                · replace h := (if_pos c34).symm.trans h
                  refine lv_iconst (v := 0) hx hb dX8_comes_276 (by decide) ?_
                  obtain ⟨h1, h⟩ := Prod.mk.inj (Option.some.inj h)
                  obtain ⟨rfl, rfl⟩ := Prod.mk.inj h
                  exact hret _ _ _ _ _ dX8_comes_277 rfl h1 hP hD hS
                · replace h := (if_neg c34).symm.trans h
                  refine lv_aload_n hx hb dX8_comes_265 rfl (lv_at hl 2 rfl) ?_
                  obtain ⟨r35, hc35, h⟩ := ob h
                  refine callRV (As := []) (rest := []) hC (c_X8_allChances l g ad I J   hc35) lk_X8_81 rfl rfl ⟨Nat.le_of_ble_eq_true rfl, Nat.le_of_ble_eq_true rfl⟩ hP hK mo_0 rfl rfl rfl hl (Nat.le_of_ble_eq_true rfl) dX8_comes_266 ?_
                  refine lv_iload_n hx hb dX8_comes_269 rfl (lv_at hl 1 rfl) ?_
                  refine lv_iadd hx hb dX8_comes_270 ?_
                  refine lv_bipush (v := 100) hx hb dX8_comes_271 (by decide) ?_
                  refine lv_icmp_le (tgt := 278) hx hb dX8_comes_273 (by decide) (fun c36 => ?_) (fun c36 => ?_)
                  · replace h := (if_pos c36).symm.trans h
                    refine lv_aload_n hx hb dX8_comes_278 rfl (lv_at hl 2 rfl) ?_
                    refine gt_X8_25 hC hK hP dX8_comes_279 ?_
                    refine lv_aload_n hx hb dX8_comes_282 rfl (lv_at hl 2 rfl) ?_
                    refine gt_X8_77 hC hK hP dX8_comes_283 ?_
                    refine lv_iload_n hx hb dX8_comes_286 rfl (lv_at hl 1 rfl) ?_
                    obtain ⟨b37, h⟩ := og h
                    refine as_m6 hC hK hP hD hS (gin_ok b37) dX8_comes_287 (fun H locs hP hD hS => ?_)
                    refine lv_aload_n hx hb dX8_comes_288 rfl (lv_at hl 2 rfl) ?_
                    refine gt_X8_28 hC hK hP dX8_comes_289 ?_
                    refine lv_aload_n hx hb dX8_comes_292 rfl (lv_at hl 2 rfl) ?_
                    refine gt_X8_77 hC hK hP dX8_comes_293 ?_
                    refine lv_iload_n hx hb dX8_comes_296 rfl (lv_at hl 0 rfl) ?_
                    obtain ⟨b38, h⟩ := og h
                    refine as_m7 hC hK hP hD hS (gin_ok b38) dX8_comes_297 (fun H locs hP hD hS => ?_)
                    refine lv_aload_n hx hb dX8_comes_298 rfl (lv_at hl 2 rfl) ?_
                    refine lv_dup hx hb dX8_comes_299 rfl ?_
                    refine gt_X8_77 hC hK hP dX8_comes_300 ?_
                    refine lv_iconst (v := 1) hx hb dX8_comes_303 (by decide) ?_
                    refine lv_iadd hx hb dX8_comes_304 ?_
                    refine pt_X8_77 hC hK hP hD hS dX8_comes_305 (fun H locs hP hD hS => ?_)
                    refine lv_iconst (v := 1) hx hb dX8_comes_308 (by decide) ?_
                    obtain ⟨h1, h⟩ := Prod.mk.inj (Option.some.inj h)
                    obtain ⟨rfl, rfl⟩ := Prod.mk.inj h
                    exact hret _ _ _ _ _ dX8_comes_309 rfl h1 hP hD hS
                  · replace h := (if_neg c36).symm.trans h
                    refine lv_iconst (v := 0) hx hb dX8_comes_276 (by decide) ?_
                    obtain ⟨h1, h⟩ := Prod.mk.inj (Option.some.inj h)
                    obtain ⟨rfl, rfl⟩ := Prod.mk.inj h
                    exact hret _ _ _ _ _ dX8_comes_277 rfl h1 hP hD hS
          · replace h := (if_neg c30).symm.trans h
            by_cases c39 : (I 9 (Int32.toNatClampNeg v1)) = 106
            · replace h := (if_pos c39).symm.trans h
              refine lv_tableIn (off := 219) (tgt := 239) hx hb dX8_comes_20 (by rw [c39]; decide) (by rw [c39]; decide) (by rw [c39]; decide) (by decide) ?_
              refine lv_iload_n hx hb dX8_comes_239 rfl (lv_at hl 1 rfl) ?_
              refine lv_iconst (v := 1) hx hb dX8_comes_240 (by decide) ?_
              refine lv_bipush (v := 100) hx hb dX8_comes_241 (by decide) ?_
              obtain ⟨r40, hc40, h⟩ := ob h
              refine callRS (As := [.int (I 11 (Int32.toNatClampNeg v1)), .int (1 : Int32), .int (100 : Int32)]) (rest := []) hC (c_X8_isIn l g (mW ad g I J) (I 11 (Int32.toNatClampNeg v1)) (1 : Int32) (100 : Int32) hc40) lk_X8_104 rfl rfl ⟨Nat.le_of_ble_eq_true rfl, Nat.le_of_ble_eq_true rfl⟩ hP hK rfl rfl hl (Nat.le_of_ble_eq_true rfl) dX8_comes_243 ?_
              refine lv_if_eq (tgt := 276) hx hb dX8_comes_246 (by decide) (fun c41 => ?_) (fun c41 => ?_)
              · replace h := (if_pos c41).symm.trans h
                refine lv_iconst (v := 0) hx hb dX8_comes_276 (by decide) ?_
                obtain ⟨h1, h⟩ := Prod.mk.inj (Option.some.inj h)
                obtain ⟨rfl, rfl⟩ := Prod.mk.inj h
                exact hret _ _ _ _ _ dX8_comes_277 rfl h1 hP hD hS
              · replace h := (if_neg c41).symm.trans h
                refine lv_iload_n hx hb dX8_comes_249 rfl (lv_at hl 0 rfl) ?_
                refine lv_sipush (v := 300) hx hb dX8_comes_250 (by decide) ?_
                refine lv_icmp_gt (tgt := 276) hx hb dX8_comes_253 (by decide) (fun c42 => ?_) (fun c42 => ?_)
                · replace h := (if_pos c42).symm.trans h
                  refine lv_iconst (v := 0) hx hb dX8_comes_276 (by decide) ?_
                  obtain ⟨h1, h⟩ := Prod.mk.inj (Option.some.inj h)
                  obtain ⟨rfl, rfl⟩ := Prod.mk.inj h
                  exact hret _ _ _ _ _ dX8_comes_277 rfl h1 hP hD hS
                · replace h := (if_neg c42).symm.trans h
                  refine lv_aload_n hx hb dX8_comes_256 rfl (lv_at hl 2 rfl) ?_
                  refine gt_X8_77 hC hK hP dX8_comes_257 ?_
                  refine lv_bipush (v := 6) hx hb dX8_comes_260 (by decide) ?_
                  refine lv_icmp_eq (tgt := 276) hx hb dX8_comes_262 (by decide) (fun c43 => ?_) (fun c43 => ?_)
                  · replace h := (if_pos c43).symm.trans h
                    refine lv_iconst (v := 0) hx hb dX8_comes_276 (by decide) ?_
                    obtain ⟨h1, h⟩ := Prod.mk.inj (Option.some.inj h)
                    obtain ⟨rfl, rfl⟩ := Prod.mk.inj h
                    exact hret _ _ _ _ _ dX8_comes_277 rfl h1 hP hD hS
                  · replace h := (if_neg c43).symm.trans h
                    refine lv_aload_n hx hb dX8_comes_265 rfl (lv_at hl 2 rfl) ?_
                    obtain ⟨r44, hc44, h⟩ := ob h
                    refine callRV (As := []) (rest := []) hC (c_X8_allChances l g ad I J   hc44) lk_X8_81 rfl rfl ⟨Nat.le_of_ble_eq_true rfl, Nat.le_of_ble_eq_true rfl⟩ hP hK mo_0 rfl rfl rfl hl (Nat.le_of_ble_eq_true rfl) dX8_comes_266 ?_
                    refine lv_iload_n hx hb dX8_comes_269 rfl (lv_at hl 1 rfl) ?_
                    refine lv_iadd hx hb dX8_comes_270 ?_
                    refine lv_bipush (v := 100) hx hb dX8_comes_271 (by decide) ?_
                    refine lv_icmp_le (tgt := 278) hx hb dX8_comes_273 (by decide) (fun c45 => ?_) (fun c45 => ?_)
                    · replace h := (if_pos c45).symm.trans h
                      refine lv_aload_n hx hb dX8_comes_278 rfl (lv_at hl 2 rfl) ?_
                      refine gt_X8_25 hC hK hP dX8_comes_279 ?_
                      refine lv_aload_n hx hb dX8_comes_282 rfl (lv_at hl 2 rfl) ?_
                      refine gt_X8_77 hC hK hP dX8_comes_283 ?_
                      refine lv_iload_n hx hb dX8_comes_286 rfl (lv_at hl 1 rfl) ?_
                      obtain ⟨b46, h⟩ := og h
                      refine as_m6 hC hK hP hD hS (gin_ok b46) dX8_comes_287 (fun H locs hP hD hS => ?_)
                      refine lv_aload_n hx hb dX8_comes_288 rfl (lv_at hl 2 rfl) ?_
                      refine gt_X8_28 hC hK hP dX8_comes_289 ?_
                      refine lv_aload_n hx hb dX8_comes_292 rfl (lv_at hl 2 rfl) ?_
                      refine gt_X8_77 hC hK hP dX8_comes_293 ?_
                      refine lv_iload_n hx hb dX8_comes_296 rfl (lv_at hl 0 rfl) ?_
                      obtain ⟨b47, h⟩ := og h
                      refine as_m7 hC hK hP hD hS (gin_ok b47) dX8_comes_297 (fun H locs hP hD hS => ?_)
                      refine lv_aload_n hx hb dX8_comes_298 rfl (lv_at hl 2 rfl) ?_
                      refine lv_dup hx hb dX8_comes_299 rfl ?_
                      refine gt_X8_77 hC hK hP dX8_comes_300 ?_
                      refine lv_iconst (v := 1) hx hb dX8_comes_303 (by decide) ?_
                      refine lv_iadd hx hb dX8_comes_304 ?_
                      refine pt_X8_77 hC hK hP hD hS dX8_comes_305 (fun H locs hP hD hS => ?_)
                      refine lv_iconst (v := 1) hx hb dX8_comes_308 (by decide) ?_
                      obtain ⟨h1, h⟩ := Prod.mk.inj (Option.some.inj h)
                      obtain ⟨rfl, rfl⟩ := Prod.mk.inj h
                      exact hret _ _ _ _ _ dX8_comes_309 rfl h1 hP hD hS
                    · replace h := (if_neg c45).symm.trans h
                      refine lv_iconst (v := 0) hx hb dX8_comes_276 (by decide) ?_
                      obtain ⟨h1, h⟩ := Prod.mk.inj (Option.some.inj h)
                      obtain ⟨rfl, rfl⟩ := Prod.mk.inj h
                      exact hret _ _ _ _ _ dX8_comes_277 rfl h1 hP hD hS
            · replace h := (if_neg c39).symm.trans h
              by_cases c48 : (I 9 (Int32.toNatClampNeg v1)) = 107
              · replace h := (if_pos c48).symm.trans h
                refine lv_tableIn (off := 219) (tgt := 239) hx hb dX8_comes_20 (by rw [c48]; decide) (by rw [c48]; decide) (by rw [c48]; decide) (by decide) ?_
                refine lv_iload_n hx hb dX8_comes_239 rfl (lv_at hl 1 rfl) ?_
                refine lv_iconst (v := 1) hx hb dX8_comes_240 (by decide) ?_
                refine lv_bipush (v := 100) hx hb dX8_comes_241 (by decide) ?_
                obtain ⟨r49, hc49, h⟩ := ob h
                refine callRS (As := [.int (I 11 (Int32.toNatClampNeg v1)), .int (1 : Int32), .int (100 : Int32)]) (rest := []) hC (c_X8_isIn l g (mW ad g I J) (I 11 (Int32.toNatClampNeg v1)) (1 : Int32) (100 : Int32) hc49) lk_X8_104 rfl rfl ⟨Nat.le_of_ble_eq_true rfl, Nat.le_of_ble_eq_true rfl⟩ hP hK rfl rfl hl (Nat.le_of_ble_eq_true rfl) dX8_comes_243 ?_
                refine lv_if_eq (tgt := 276) hx hb dX8_comes_246 (by decide) (fun c50 => ?_) (fun c50 => ?_)
                · replace h := (if_pos c50).symm.trans h
                  refine lv_iconst (v := 0) hx hb dX8_comes_276 (by decide) ?_
                  obtain ⟨h1, h⟩ := Prod.mk.inj (Option.some.inj h)
                  obtain ⟨rfl, rfl⟩ := Prod.mk.inj h
                  exact hret _ _ _ _ _ dX8_comes_277 rfl h1 hP hD hS
                · replace h := (if_neg c50).symm.trans h
                  refine lv_iload_n hx hb dX8_comes_249 rfl (lv_at hl 0 rfl) ?_
                  refine lv_sipush (v := 300) hx hb dX8_comes_250 (by decide) ?_
                  refine lv_icmp_gt (tgt := 276) hx hb dX8_comes_253 (by decide) (fun c51 => ?_) (fun c51 => ?_)
                  · replace h := (if_pos c51).symm.trans h
                    refine lv_iconst (v := 0) hx hb dX8_comes_276 (by decide) ?_
                    obtain ⟨h1, h⟩ := Prod.mk.inj (Option.some.inj h)
                    obtain ⟨rfl, rfl⟩ := Prod.mk.inj h
                    exact hret _ _ _ _ _ dX8_comes_277 rfl h1 hP hD hS
                  · replace h := (if_neg c51).symm.trans h
                    refine lv_aload_n hx hb dX8_comes_256 rfl (lv_at hl 2 rfl) ?_
                    refine gt_X8_77 hC hK hP dX8_comes_257 ?_
                    refine lv_bipush (v := 6) hx hb dX8_comes_260 (by decide) ?_
                    refine lv_icmp_eq (tgt := 276) hx hb dX8_comes_262 (by decide) (fun c52 => ?_) (fun c52 => ?_)
                    · replace h := (if_pos c52).symm.trans h
                      refine lv_iconst (v := 0) hx hb dX8_comes_276 (by decide) ?_
                      obtain ⟨h1, h⟩ := Prod.mk.inj (Option.some.inj h)
                      obtain ⟨rfl, rfl⟩ := Prod.mk.inj h
                      exact hret _ _ _ _ _ dX8_comes_277 rfl h1 hP hD hS
                    · replace h := (if_neg c52).symm.trans h
                      refine lv_aload_n hx hb dX8_comes_265 rfl (lv_at hl 2 rfl) ?_
                      obtain ⟨r53, hc53, h⟩ := ob h
                      refine callRV (As := []) (rest := []) hC (c_X8_allChances l g ad I J   hc53) lk_X8_81 rfl rfl ⟨Nat.le_of_ble_eq_true rfl, Nat.le_of_ble_eq_true rfl⟩ hP hK mo_0 rfl rfl rfl hl (Nat.le_of_ble_eq_true rfl) dX8_comes_266 ?_
                      refine lv_iload_n hx hb dX8_comes_269 rfl (lv_at hl 1 rfl) ?_
                      refine lv_iadd hx hb dX8_comes_270 ?_
                      refine lv_bipush (v := 100) hx hb dX8_comes_271 (by decide) ?_
                      refine lv_icmp_le (tgt := 278) hx hb dX8_comes_273 (by decide) (fun c54 => ?_) (fun c54 => ?_)
                      · replace h := (if_pos c54).symm.trans h
                        refine lv_aload_n hx hb dX8_comes_278 rfl (lv_at hl 2 rfl) ?_
                        refine gt_X8_25 hC hK hP dX8_comes_279 ?_
                        refine lv_aload_n hx hb dX8_comes_282 rfl (lv_at hl 2 rfl) ?_
                        refine gt_X8_77 hC hK hP dX8_comes_283 ?_
                        refine lv_iload_n hx hb dX8_comes_286 rfl (lv_at hl 1 rfl) ?_
                        obtain ⟨b55, h⟩ := og h
                        refine as_m6 hC hK hP hD hS (gin_ok b55) dX8_comes_287 (fun H locs hP hD hS => ?_)
                        refine lv_aload_n hx hb dX8_comes_288 rfl (lv_at hl 2 rfl) ?_
                        refine gt_X8_28 hC hK hP dX8_comes_289 ?_
                        refine lv_aload_n hx hb dX8_comes_292 rfl (lv_at hl 2 rfl) ?_
                        refine gt_X8_77 hC hK hP dX8_comes_293 ?_
                        refine lv_iload_n hx hb dX8_comes_296 rfl (lv_at hl 0 rfl) ?_
                        obtain ⟨b56, h⟩ := og h
                        refine as_m7 hC hK hP hD hS (gin_ok b56) dX8_comes_297 (fun H locs hP hD hS => ?_)
                        refine lv_aload_n hx hb dX8_comes_298 rfl (lv_at hl 2 rfl) ?_
                        refine lv_dup hx hb dX8_comes_299 rfl ?_
                        refine gt_X8_77 hC hK hP dX8_comes_300 ?_
                        refine lv_iconst (v := 1) hx hb dX8_comes_303 (by decide) ?_
                        refine lv_iadd hx hb dX8_comes_304 ?_
                        refine pt_X8_77 hC hK hP hD hS dX8_comes_305 (fun H locs hP hD hS => ?_)
                        refine lv_iconst (v := 1) hx hb dX8_comes_308 (by decide) ?_
                        obtain ⟨h1, h⟩ := Prod.mk.inj (Option.some.inj h)
                        obtain ⟨rfl, rfl⟩ := Prod.mk.inj h
                        exact hret _ _ _ _ _ dX8_comes_309 rfl h1 hP hD hS
                      · replace h := (if_neg c54).symm.trans h
                        refine lv_iconst (v := 0) hx hb dX8_comes_276 (by decide) ?_
                        obtain ⟨h1, h⟩ := Prod.mk.inj (Option.some.inj h)
                        obtain ⟨rfl, rfl⟩ := Prod.mk.inj h
                        exact hret _ _ _ _ _ dX8_comes_277 rfl h1 hP hD hS
              · replace h := (if_neg c48).symm.trans h
                by_cases c57 : (I 9 (Int32.toNatClampNeg v1)) = 108
                · replace h := (if_pos c57).symm.trans h
                  refine lv_tableIn (off := 219) (tgt := 239) hx hb dX8_comes_20 (by rw [c57]; decide) (by rw [c57]; decide) (by rw [c57]; decide) (by decide) ?_
                  refine lv_iload_n hx hb dX8_comes_239 rfl (lv_at hl 1 rfl) ?_
                  refine lv_iconst (v := 1) hx hb dX8_comes_240 (by decide) ?_
                  refine lv_bipush (v := 100) hx hb dX8_comes_241 (by decide) ?_
                  obtain ⟨r58, hc58, h⟩ := ob h
                  refine callRS (As := [.int (I 11 (Int32.toNatClampNeg v1)), .int (1 : Int32), .int (100 : Int32)]) (rest := []) hC (c_X8_isIn l g (mW ad g I J) (I 11 (Int32.toNatClampNeg v1)) (1 : Int32) (100 : Int32) hc58) lk_X8_104 rfl rfl ⟨Nat.le_of_ble_eq_true rfl, Nat.le_of_ble_eq_true rfl⟩ hP hK rfl rfl hl (Nat.le_of_ble_eq_true rfl) dX8_comes_243 ?_
                  refine lv_if_eq (tgt := 276) hx hb dX8_comes_246 (by decide) (fun c59 => ?_) (fun c59 => ?_)
                  · replace h := (if_pos c59).symm.trans h
                    refine lv_iconst (v := 0) hx hb dX8_comes_276 (by decide) ?_
                    obtain ⟨h1, h⟩ := Prod.mk.inj (Option.some.inj h)
                    obtain ⟨rfl, rfl⟩ := Prod.mk.inj h
                    exact hret _ _ _ _ _ dX8_comes_277 rfl h1 hP hD hS
                  · replace h := (if_neg c59).symm.trans h
                    refine lv_iload_n hx hb dX8_comes_249 rfl (lv_at hl 0 rfl) ?_
                    refine lv_sipush (v := 300) hx hb dX8_comes_250 (by decide) ?_
                    refine lv_icmp_gt (tgt := 276) hx hb dX8_comes_253 (by decide) (fun c60 => ?_) (fun c60 => ?_)
                    · replace h := (if_pos c60).symm.trans h
                      refine lv_iconst (v := 0) hx hb dX8_comes_276 (by decide) ?_
                      obtain ⟨h1, h⟩ := Prod.mk.inj (Option.some.inj h)
                      obtain ⟨rfl, rfl⟩ := Prod.mk.inj h
                      exact hret _ _ _ _ _ dX8_comes_277 rfl h1 hP hD hS
                    · replace h := (if_neg c60).symm.trans h
                      refine lv_aload_n hx hb dX8_comes_256 rfl (lv_at hl 2 rfl) ?_
                      refine gt_X8_77 hC hK hP dX8_comes_257 ?_
                      refine lv_bipush (v := 6) hx hb dX8_comes_260 (by decide) ?_
                      refine lv_icmp_eq (tgt := 276) hx hb dX8_comes_262 (by decide) (fun c61 => ?_) (fun c61 => ?_)
                      · replace h := (if_pos c61).symm.trans h
                        refine lv_iconst (v := 0) hx hb dX8_comes_276 (by decide) ?_
                        obtain ⟨h1, h⟩ := Prod.mk.inj (Option.some.inj h)
                        obtain ⟨rfl, rfl⟩ := Prod.mk.inj h
                        exact hret _ _ _ _ _ dX8_comes_277 rfl h1 hP hD hS
                      · replace h := (if_neg c61).symm.trans h
                        refine lv_aload_n hx hb dX8_comes_265 rfl (lv_at hl 2 rfl) ?_
                        obtain ⟨r62, hc62, h⟩ := ob h
                        refine callRV (As := []) (rest := []) hC (c_X8_allChances l g ad I J   hc62) lk_X8_81 rfl rfl ⟨Nat.le_of_ble_eq_true rfl, Nat.le_of_ble_eq_true rfl⟩ hP hK mo_0 rfl rfl rfl hl (Nat.le_of_ble_eq_true rfl) dX8_comes_266 ?_
                        refine lv_iload_n hx hb dX8_comes_269 rfl (lv_at hl 1 rfl) ?_
                        refine lv_iadd hx hb dX8_comes_270 ?_
                        refine lv_bipush (v := 100) hx hb dX8_comes_271 (by decide) ?_
                        refine lv_icmp_le (tgt := 278) hx hb dX8_comes_273 (by decide) (fun c63 => ?_) (fun c63 => ?_)
                        · replace h := (if_pos c63).symm.trans h
                          refine lv_aload_n hx hb dX8_comes_278 rfl (lv_at hl 2 rfl) ?_
                          refine gt_X8_25 hC hK hP dX8_comes_279 ?_
                          refine lv_aload_n hx hb dX8_comes_282 rfl (lv_at hl 2 rfl) ?_
                          refine gt_X8_77 hC hK hP dX8_comes_283 ?_
                          refine lv_iload_n hx hb dX8_comes_286 rfl (lv_at hl 1 rfl) ?_
                          obtain ⟨b64, h⟩ := og h
                          refine as_m6 hC hK hP hD hS (gin_ok b64) dX8_comes_287 (fun H locs hP hD hS => ?_)
                          refine lv_aload_n hx hb dX8_comes_288 rfl (lv_at hl 2 rfl) ?_
                          refine gt_X8_28 hC hK hP dX8_comes_289 ?_
                          refine lv_aload_n hx hb dX8_comes_292 rfl (lv_at hl 2 rfl) ?_
                          refine gt_X8_77 hC hK hP dX8_comes_293 ?_
                          refine lv_iload_n hx hb dX8_comes_296 rfl (lv_at hl 0 rfl) ?_
                          obtain ⟨b65, h⟩ := og h
                          refine as_m7 hC hK hP hD hS (gin_ok b65) dX8_comes_297 (fun H locs hP hD hS => ?_)
                          refine lv_aload_n hx hb dX8_comes_298 rfl (lv_at hl 2 rfl) ?_
                          refine lv_dup hx hb dX8_comes_299 rfl ?_
                          refine gt_X8_77 hC hK hP dX8_comes_300 ?_
                          refine lv_iconst (v := 1) hx hb dX8_comes_303 (by decide) ?_
                          refine lv_iadd hx hb dX8_comes_304 ?_
                          refine pt_X8_77 hC hK hP hD hS dX8_comes_305 (fun H locs hP hD hS => ?_)
                          refine lv_iconst (v := 1) hx hb dX8_comes_308 (by decide) ?_
                          obtain ⟨h1, h⟩ := Prod.mk.inj (Option.some.inj h)
                          obtain ⟨rfl, rfl⟩ := Prod.mk.inj h
                          exact hret _ _ _ _ _ dX8_comes_309 rfl h1 hP hD hS
                        · replace h := (if_neg c63).symm.trans h
                          refine lv_iconst (v := 0) hx hb dX8_comes_276 (by decide) ?_
                          obtain ⟨h1, h⟩ := Prod.mk.inj (Option.some.inj h)
                          obtain ⟨rfl, rfl⟩ := Prod.mk.inj h
                          exact hret _ _ _ _ _ dX8_comes_277 rfl h1 hP hD hS
                · replace h := (if_neg c57).symm.trans h
                  by_cases c66 : (I 9 (Int32.toNatClampNeg v1)) = 109
                  · replace h := (if_pos c66).symm.trans h
                    refine lv_tableIn (off := 114) (tgt := 134) hx hb dX8_comes_20 (by rw [c66]; decide) (by rw [c66]; decide) (by rw [c66]; decide) (by decide) ?_
                    refine lv_aload_n hx hb dX8_comes_134 rfl (lv_at hl 2 rfl) ?_
                    refine lv_iconst (v := 4) hx hb dX8_comes_135 (by decide) ?_
                    refine lv_iload_n hx hb dX8_comes_136 rfl (lv_at hl 1 rfl) ?_
                    obtain ⟨⟨r67, I67, J67⟩, hc67, h⟩ := ob h
                    dsimp only at h
                    refine callWVi (As := [.int (4 : Int32), .int (I 11 (Int32.toNatClampNeg v1))]) (rest := []) hC (c_X8_sets l g ad I J (4 : Int32) (I 11 (Int32.toNatClampNeg v1))  H.size hc67) lk_X8_121 rfl rfl ⟨Nat.le_of_ble_eq_true rfl, Nat.le_of_ble_eq_true rfl⟩ hP hK hD hA hS mo_0 rfl rfl rfl hl (Nat.le_of_ble_eq_true rfl) dX8_comes_137 (fun H locs hP hD hS => ?_)
                    refine lv_if_eq (tgt := 156) hx hb dX8_comes_140 (by decide) (fun c68 => ?_) (fun c68 => ?_)
                    · replace h := (if_pos c68).symm.trans h
                      refine lv_iconst (v := 0) hx hb dX8_comes_156 (by decide) ?_
                      obtain ⟨h1, h⟩ := Prod.mk.inj (Option.some.inj h)
                      obtain ⟨rfl, rfl⟩ := Prod.mk.inj h
                      exact hret _ _ _ _ _ dX8_comes_157 rfl h1 hP hD hS
                    · replace h := (if_neg c68).symm.trans h
                      refine lv_aload_n hx hb dX8_comes_143 rfl (lv_at hl 2 rfl) ?_
                      refine lv_iconst (v := 5) hx hb dX8_comes_144 (by decide) ?_
                      refine lv_iload_n hx hb dX8_comes_145 rfl (lv_at hl 0 rfl) ?_
                      obtain ⟨⟨r69, I69, J69⟩, hc69, h⟩ := ob h
                      dsimp only at h
                      refine callWVi (As := [.int (5 : Int32), .int (I 12 (Int32.toNatClampNeg v1))]) (rest := []) hC (c_X8_sets l g ad I67 J67 (5 : Int32) (I 12 (Int32.toNatClampNeg v1))  H.size hc69) lk_X8_121 rfl rfl ⟨Nat.le_of_ble_eq_true rfl, Nat.le_of_ble_eq_true rfl⟩ hP hK hD hA hS mo_0 rfl rfl rfl hl (Nat.le_of_ble_eq_true rfl) dX8_comes_146 (fun H locs hP hD hS => ?_)
                      refine lv_if_eq (tgt := 156) hx hb dX8_comes_149 (by decide) (fun c70 => ?_) (fun c70 => ?_)
                      · replace h := (if_pos c70).symm.trans h
                        refine lv_iconst (v := 0) hx hb dX8_comes_156 (by decide) ?_
                        obtain ⟨h1, h⟩ := Prod.mk.inj (Option.some.inj h)
                        obtain ⟨rfl, rfl⟩ := Prod.mk.inj h
                        exact hret _ _ _ _ _ dX8_comes_157 rfl h1 hP hD hS
                      · replace h := (if_neg c70).symm.trans h
                        refine lv_iconst (v := 1) hx hb dX8_comes_152 (by decide) ?_
                        refine lv_goto (tgt := 157) hx hb dX8_comes_153 (by decide) ?_
                        obtain ⟨h1, h⟩ := Prod.mk.inj (Option.some.inj h)
                        obtain ⟨rfl, rfl⟩ := Prod.mk.inj h
                        exact hret _ _ _ _ _ dX8_comes_157 rfl h1 hP hD hS
                  · replace h := (if_neg c66).symm.trans h
                    by_cases c71 : (I 9 (Int32.toNatClampNeg v1)) = 110
                    · replace h := (if_pos c71).symm.trans h
                      refine lv_tableIn (off := 219) (tgt := 239) hx hb dX8_comes_20 (by rw [c71]; decide) (by rw [c71]; decide) (by rw [c71]; decide) (by decide) ?_
                      refine lv_iload_n hx hb dX8_comes_239 rfl (lv_at hl 1 rfl) ?_
                      refine lv_iconst (v := 1) hx hb dX8_comes_240 (by decide) ?_
                      refine lv_bipush (v := 100) hx hb dX8_comes_241 (by decide) ?_
                      obtain ⟨r72, hc72, h⟩ := ob h
                      refine callRS (As := [.int (I 11 (Int32.toNatClampNeg v1)), .int (1 : Int32), .int (100 : Int32)]) (rest := []) hC (c_X8_isIn l g (mW ad g I J) (I 11 (Int32.toNatClampNeg v1)) (1 : Int32) (100 : Int32) hc72) lk_X8_104 rfl rfl ⟨Nat.le_of_ble_eq_true rfl, Nat.le_of_ble_eq_true rfl⟩ hP hK rfl rfl hl (Nat.le_of_ble_eq_true rfl) dX8_comes_243 ?_
                      refine lv_if_eq (tgt := 276) hx hb dX8_comes_246 (by decide) (fun c73 => ?_) (fun c73 => ?_)
                      · replace h := (if_pos c73).symm.trans h
                        refine lv_iconst (v := 0) hx hb dX8_comes_276 (by decide) ?_
                        obtain ⟨h1, h⟩ := Prod.mk.inj (Option.some.inj h)
                        obtain ⟨rfl, rfl⟩ := Prod.mk.inj h
                        exact hret _ _ _ _ _ dX8_comes_277 rfl h1 hP hD hS
                      · replace h := (if_neg c73).symm.trans h
                        refine lv_iload_n hx hb dX8_comes_249 rfl (lv_at hl 0 rfl) ?_
                        refine lv_sipush (v := 300) hx hb dX8_comes_250 (by decide) ?_
                        refine lv_icmp_gt (tgt := 276) hx hb dX8_comes_253 (by decide) (fun c74 => ?_) (fun c74 => ?_)
                        · replace h := (if_pos c74).symm.trans h
                          refine lv_iconst (v := 0) hx hb dX8_comes_276 (by decide) ?_
                          obtain ⟨h1, h⟩ := Prod.mk.inj (Option.some.inj h)
                          obtain ⟨rfl, rfl⟩ := Prod.mk.inj h
                          exact hret _ _ _ _ _ dX8_comes_277 rfl h1 hP hD hS
                        · replace h := (if_neg c74).symm.trans h
                          refine lv_aload_n hx hb dX8_comes_256 rfl (lv_at hl 2 rfl) ?_
                          refine gt_X8_77 hC hK hP dX8_comes_257 ?_
                          refine lv_bipush (v := 6) hx hb dX8_comes_260 (by decide) ?_
                          refine lv_icmp_eq (tgt := 276) hx hb dX8_comes_262 (by decide) (fun c75 => ?_) (fun c75 => ?_)
                          · replace h := (if_pos c75).symm.trans h
                            refine lv_iconst (v := 0) hx hb dX8_comes_276 (by decide) ?_
                            obtain ⟨h1, h⟩ := Prod.mk.inj (Option.some.inj h)
                            obtain ⟨rfl, rfl⟩ := Prod.mk.inj h
                            exact hret _ _ _ _ _ dX8_comes_277 rfl h1 hP hD hS
                          · replace h := (if_neg c75).symm.trans h
                            refine lv_aload_n hx hb dX8_comes_265 rfl (lv_at hl 2 rfl) ?_
                            obtain ⟨r76, hc76, h⟩ := ob h
                            refine callRV (As := []) (rest := []) hC (c_X8_allChances l g ad I J   hc76) lk_X8_81 rfl rfl ⟨Nat.le_of_ble_eq_true rfl, Nat.le_of_ble_eq_true rfl⟩ hP hK mo_0 rfl rfl rfl hl (Nat.le_of_ble_eq_true rfl) dX8_comes_266 ?_
                            refine lv_iload_n hx hb dX8_comes_269 rfl (lv_at hl 1 rfl) ?_
                            refine lv_iadd hx hb dX8_comes_270 ?_
                            refine lv_bipush (v := 100) hx hb dX8_comes_271 (by decide) ?_
                            refine lv_icmp_le (tgt := 278) hx hb dX8_comes_273 (by decide) (fun c77 => ?_) (fun c77 => ?_)
                            · replace h := (if_pos c77).symm.trans h
                              refine lv_aload_n hx hb dX8_comes_278 rfl (lv_at hl 2 rfl) ?_
                              refine gt_X8_25 hC hK hP dX8_comes_279 ?_
                              refine lv_aload_n hx hb dX8_comes_282 rfl (lv_at hl 2 rfl) ?_
                              refine gt_X8_77 hC hK hP dX8_comes_283 ?_
                              refine lv_iload_n hx hb dX8_comes_286 rfl (lv_at hl 1 rfl) ?_
                              obtain ⟨b78, h⟩ := og h
                              refine as_m6 hC hK hP hD hS (gin_ok b78) dX8_comes_287 (fun H locs hP hD hS => ?_)
                              refine lv_aload_n hx hb dX8_comes_288 rfl (lv_at hl 2 rfl) ?_
                              refine gt_X8_28 hC hK hP dX8_comes_289 ?_
                              refine lv_aload_n hx hb dX8_comes_292 rfl (lv_at hl 2 rfl) ?_
                              refine gt_X8_77 hC hK hP dX8_comes_293 ?_
                              refine lv_iload_n hx hb dX8_comes_296 rfl (lv_at hl 0 rfl) ?_
                              obtain ⟨b79, h⟩ := og h
                              refine as_m7 hC hK hP hD hS (gin_ok b79) dX8_comes_297 (fun H locs hP hD hS => ?_)
                              refine lv_aload_n hx hb dX8_comes_298 rfl (lv_at hl 2 rfl) ?_
                              refine lv_dup hx hb dX8_comes_299 rfl ?_
                              refine gt_X8_77 hC hK hP dX8_comes_300 ?_
                              refine lv_iconst (v := 1) hx hb dX8_comes_303 (by decide) ?_
                              refine lv_iadd hx hb dX8_comes_304 ?_
                              refine pt_X8_77 hC hK hP hD hS dX8_comes_305 (fun H locs hP hD hS => ?_)
                              refine lv_iconst (v := 1) hx hb dX8_comes_308 (by decide) ?_
                              obtain ⟨h1, h⟩ := Prod.mk.inj (Option.some.inj h)
                              obtain ⟨rfl, rfl⟩ := Prod.mk.inj h
                              exact hret _ _ _ _ _ dX8_comes_309 rfl h1 hP hD hS
                            · replace h := (if_neg c77).symm.trans h
                              refine lv_iconst (v := 0) hx hb dX8_comes_276 (by decide) ?_
                              obtain ⟨h1, h⟩ := Prod.mk.inj (Option.some.inj h)
                              obtain ⟨rfl, rfl⟩ := Prod.mk.inj h
                              exact hret _ _ _ _ _ dX8_comes_277 rfl h1 hP hD hS
                    · replace h := (if_neg c71).symm.trans h
                      by_cases c80 : (I 9 (Int32.toNatClampNeg v1)) = 111
                      · replace h := (if_pos c80).symm.trans h
                        refine lv_tableIn (off := 83) (tgt := 103) hx hb dX8_comes_20 (by rw [c80]; decide) (by rw [c80]; decide) (by rw [c80]; decide) (by decide) ?_
                        refine lv_aload_n hx hb dX8_comes_103 rfl (lv_at hl 2 rfl) ?_
                        refine lv_iconst (v := 1) hx hb dX8_comes_104 (by decide) ?_
                        refine lv_iload_n hx hb dX8_comes_105 rfl (lv_at hl 1 rfl) ?_
                        obtain ⟨⟨r81, I81, J81⟩, hc81, h⟩ := ob h
                        dsimp only at h
                        refine callWVi (As := [.int (1 : Int32), .int (I 11 (Int32.toNatClampNeg v1))]) (rest := []) hC (c_X8_sets l g ad I J (1 : Int32) (I 11 (Int32.toNatClampNeg v1))  H.size hc81) lk_X8_121 rfl rfl ⟨Nat.le_of_ble_eq_true rfl, Nat.le_of_ble_eq_true rfl⟩ hP hK hD hA hS mo_0 rfl rfl rfl hl (Nat.le_of_ble_eq_true rfl) dX8_comes_106 (fun H locs hP hD hS => ?_)
                        obtain ⟨z82, h⟩ := og h
                        obtain ⟨h1, h⟩ := Prod.mk.inj (Option.some.inj h)
                        obtain ⟨rfl, rfl⟩ := Prod.mk.inj h
                        exact hret _ _ _ _ _ dX8_comes_109 (gbo_ok z82).1 h1 hP hD hS
                      · replace h := (if_neg c80).symm.trans h
                        by_cases c83 : (I 9 (Int32.toNatClampNeg v1)) = 112
                        · replace h := (if_pos c83).symm.trans h
                          refine lv_tableIn (off := 164) (tgt := 184) hx hb dX8_comes_20 (by rw [c83]; decide) (by rw [c83]; decide) (by rw [c83]; decide) (by decide) ?_
                          refine lv_iload_n hx hb dX8_comes_184 rfl (lv_at hl 1 rfl) ?_
                          refine lv_bipush (v := 99) hx hb dX8_comes_185 (by decide) ?_
                          refine lv_icmp_gt (tgt := 205) hx hb dX8_comes_187 (by decide) (fun c84 => ?_) (fun c84 => ?_)
                          · replace h := (if_pos c84).symm.trans h
                            refine lv_iconst (v := 0) hx hb dX8_comes_205 (by decide) ?_
                            obtain ⟨h1, h⟩ := Prod.mk.inj (Option.some.inj h)
                            obtain ⟨rfl, rfl⟩ := Prod.mk.inj h
                            exact hret _ _ _ _ _ dX8_comes_206 rfl h1 hP hD hS
                          · replace h := (if_neg c84).symm.trans h
                            refine lv_iload_n hx hb dX8_comes_190 rfl (lv_at hl 0 rfl) ?_
                            refine lv_bipush (v := 99) hx hb dX8_comes_191 (by decide) ?_
                            refine lv_icmp_gt (tgt := 205) hx hb dX8_comes_193 (by decide) (fun c85 => ?_) (fun c85 => ?_)
                            · replace h := (if_pos c85).symm.trans h
                              refine lv_iconst (v := 0) hx hb dX8_comes_205 (by decide) ?_
                              obtain ⟨h1, h⟩ := Prod.mk.inj (Option.some.inj h)
                              obtain ⟨rfl, rfl⟩ := Prod.mk.inj h
                              exact hret _ _ _ _ _ dX8_comes_206 rfl h1 hP hD hS
                            · replace h := (if_neg c85).symm.trans h
                              refine lv_aload_n hx hb dX8_comes_196 rfl (lv_at hl 2 rfl) ?_
                              refine gt_X8_125 hC hK hP dX8_comes_197 ?_
                              refine lv_bipush (v := 8) hx hb dX8_comes_200 (by decide) ?_
                              refine lv_icmp_ne (tgt := 207) hx hb dX8_comes_202 (by decide) (fun c86 => ?_) (fun c86 => ?_)
                              · replace h := (if_neg c86).symm.trans h
                                refine lv_aload_n hx hb dX8_comes_207 rfl (lv_at hl 2 rfl) ?_
                                refine gt_X8_19 hC hK hP dX8_comes_208 ?_
                                refine lv_aload_n hx hb dX8_comes_211 rfl (lv_at hl 2 rfl) ?_
                                refine gt_X8_125 hC hK hP dX8_comes_212 ?_
                                refine lv_iload_n hx hb dX8_comes_215 rfl (lv_at hl 1 rfl) ?_
                                obtain ⟨b87, h⟩ := og h
                                refine as_m4 hC hK hP hD hS (gin_ok b87) dX8_comes_216 (fun H locs hP hD hS => ?_)
                                refine lv_aload_n hx hb dX8_comes_217 rfl (lv_at hl 2 rfl) ?_
                                refine gt_X8_22 hC hK hP dX8_comes_218 ?_
                                refine lv_aload_n hx hb dX8_comes_221 rfl (lv_at hl 2 rfl) ?_
                                refine gt_X8_125 hC hK hP dX8_comes_222 ?_
                                refine lv_iload_n hx hb dX8_comes_225 rfl (lv_at hl 0 rfl) ?_
                                obtain ⟨b88, h⟩ := og h
                                refine as_m5 hC hK hP hD hS (gin_ok b88) dX8_comes_226 (fun H locs hP hD hS => ?_)
                                refine lv_aload_n hx hb dX8_comes_227 rfl (lv_at hl 2 rfl) ?_
                                refine lv_dup hx hb dX8_comes_228 rfl ?_
                                refine gt_X8_125 hC hK hP dX8_comes_229 ?_
                                refine lv_iconst (v := 1) hx hb dX8_comes_232 (by decide) ?_
                                refine lv_iadd hx hb dX8_comes_233 ?_
                                refine pt_X8_125 hC hK hP hD hS dX8_comes_234 (fun H locs hP hD hS => ?_)
                                refine lv_iconst (v := 1) hx hb dX8_comes_237 (by decide) ?_
                                obtain ⟨h1, h⟩ := Prod.mk.inj (Option.some.inj h)
                                obtain ⟨rfl, rfl⟩ := Prod.mk.inj h
                                exact hret _ _ _ _ _ dX8_comes_238 rfl h1 hP hD hS
                              · replace h := (if_pos c86).symm.trans h
                                refine lv_iconst (v := 0) hx hb dX8_comes_205 (by decide) ?_
                                obtain ⟨h1, h⟩ := Prod.mk.inj (Option.some.inj h)
                                obtain ⟨rfl, rfl⟩ := Prod.mk.inj h
                                exact hret _ _ _ _ _ dX8_comes_206 rfl h1 hP hD hS
                        · replace h := (if_neg c83).symm.trans h
                          by_cases c89 : (I 9 (Int32.toNatClampNeg v1)) = 113
                          · replace h := (if_pos c89).symm.trans h
                            refine lv_tableIn (off := 219) (tgt := 239) hx hb dX8_comes_20 (by rw [c89]; decide) (by rw [c89]; decide) (by rw [c89]; decide) (by decide) ?_
                            refine lv_iload_n hx hb dX8_comes_239 rfl (lv_at hl 1 rfl) ?_
                            refine lv_iconst (v := 1) hx hb dX8_comes_240 (by decide) ?_
                            refine lv_bipush (v := 100) hx hb dX8_comes_241 (by decide) ?_
                            obtain ⟨r90, hc90, h⟩ := ob h
                            refine callRS (As := [.int (I 11 (Int32.toNatClampNeg v1)), .int (1 : Int32), .int (100 : Int32)]) (rest := []) hC (c_X8_isIn l g (mW ad g I J) (I 11 (Int32.toNatClampNeg v1)) (1 : Int32) (100 : Int32) hc90) lk_X8_104 rfl rfl ⟨Nat.le_of_ble_eq_true rfl, Nat.le_of_ble_eq_true rfl⟩ hP hK rfl rfl hl (Nat.le_of_ble_eq_true rfl) dX8_comes_243 ?_
                            refine lv_if_eq (tgt := 276) hx hb dX8_comes_246 (by decide) (fun c91 => ?_) (fun c91 => ?_)
                            · replace h := (if_pos c91).symm.trans h
                              refine lv_iconst (v := 0) hx hb dX8_comes_276 (by decide) ?_
                              obtain ⟨h1, h⟩ := Prod.mk.inj (Option.some.inj h)
                              obtain ⟨rfl, rfl⟩ := Prod.mk.inj h
                              exact hret _ _ _ _ _ dX8_comes_277 rfl h1 hP hD hS
                            · replace h := (if_neg c91).symm.trans h
                              refine lv_iload_n hx hb dX8_comes_249 rfl (lv_at hl 0 rfl) ?_
                              refine lv_sipush (v := 300) hx hb dX8_comes_250 (by decide) ?_
                              refine lv_icmp_gt (tgt := 276) hx hb dX8_comes_253 (by decide) (fun c92 => ?_) (fun c92 => ?_)
                              · replace h := (if_pos c92).symm.trans h
                                refine lv_iconst (v := 0) hx hb dX8_comes_276 (by decide) ?_
                                obtain ⟨h1, h⟩ := Prod.mk.inj (Option.some.inj h)
                                obtain ⟨rfl, rfl⟩ := Prod.mk.inj h
                                exact hret _ _ _ _ _ dX8_comes_277 rfl h1 hP hD hS
                              · replace h := (if_neg c92).symm.trans h
                                refine lv_aload_n hx hb dX8_comes_256 rfl (lv_at hl 2 rfl) ?_
                                refine gt_X8_77 hC hK hP dX8_comes_257 ?_
                                refine lv_bipush (v := 6) hx hb dX8_comes_260 (by decide) ?_
                                refine lv_icmp_eq (tgt := 276) hx hb dX8_comes_262 (by decide) (fun c93 => ?_) (fun c93 => ?_)
                                · replace h := (if_pos c93).symm.trans h
                                  refine lv_iconst (v := 0) hx hb dX8_comes_276 (by decide) ?_
                                  obtain ⟨h1, h⟩ := Prod.mk.inj (Option.some.inj h)
                                  obtain ⟨rfl, rfl⟩ := Prod.mk.inj h
                                  exact hret _ _ _ _ _ dX8_comes_277 rfl h1 hP hD hS
                                · replace h := (if_neg c93).symm.trans h
                                  refine lv_aload_n hx hb dX8_comes_265 rfl (lv_at hl 2 rfl) ?_
                                  obtain ⟨r94, hc94, h⟩ := ob h
                                  refine callRV (As := []) (rest := []) hC (c_X8_allChances l g ad I J   hc94) lk_X8_81 rfl rfl ⟨Nat.le_of_ble_eq_true rfl, Nat.le_of_ble_eq_true rfl⟩ hP hK mo_0 rfl rfl rfl hl (Nat.le_of_ble_eq_true rfl) dX8_comes_266 ?_
                                  refine lv_iload_n hx hb dX8_comes_269 rfl (lv_at hl 1 rfl) ?_
                                  refine lv_iadd hx hb dX8_comes_270 ?_
                                  refine lv_bipush (v := 100) hx hb dX8_comes_271 (by decide) ?_
                                  refine lv_icmp_le (tgt := 278) hx hb dX8_comes_273 (by decide) (fun c95 => ?_) (fun c95 => ?_)
                                  · replace h := (if_pos c95).symm.trans h
                                    refine lv_aload_n hx hb dX8_comes_278 rfl (lv_at hl 2 rfl) ?_
                                    refine gt_X8_25 hC hK hP dX8_comes_279 ?_
                                    refine lv_aload_n hx hb dX8_comes_282 rfl (lv_at hl 2 rfl) ?_
                                    refine gt_X8_77 hC hK hP dX8_comes_283 ?_
                                    refine lv_iload_n hx hb dX8_comes_286 rfl (lv_at hl 1 rfl) ?_
                                    obtain ⟨b96, h⟩ := og h
                                    refine as_m6 hC hK hP hD hS (gin_ok b96) dX8_comes_287 (fun H locs hP hD hS => ?_)
                                    refine lv_aload_n hx hb dX8_comes_288 rfl (lv_at hl 2 rfl) ?_
                                    refine gt_X8_28 hC hK hP dX8_comes_289 ?_
                                    refine lv_aload_n hx hb dX8_comes_292 rfl (lv_at hl 2 rfl) ?_
                                    refine gt_X8_77 hC hK hP dX8_comes_293 ?_
                                    refine lv_iload_n hx hb dX8_comes_296 rfl (lv_at hl 0 rfl) ?_
                                    obtain ⟨b97, h⟩ := og h
                                    refine as_m7 hC hK hP hD hS (gin_ok b97) dX8_comes_297 (fun H locs hP hD hS => ?_)
                                    refine lv_aload_n hx hb dX8_comes_298 rfl (lv_at hl 2 rfl) ?_
                                    refine lv_dup hx hb dX8_comes_299 rfl ?_
                                    refine gt_X8_77 hC hK hP dX8_comes_300 ?_
                                    refine lv_iconst (v := 1) hx hb dX8_comes_303 (by decide) ?_
                                    refine lv_iadd hx hb dX8_comes_304 ?_
                                    refine pt_X8_77 hC hK hP hD hS dX8_comes_305 (fun H locs hP hD hS => ?_)
                                    refine lv_iconst (v := 1) hx hb dX8_comes_308 (by decide) ?_
                                    obtain ⟨h1, h⟩ := Prod.mk.inj (Option.some.inj h)
                                    obtain ⟨rfl, rfl⟩ := Prod.mk.inj h
                                    exact hret _ _ _ _ _ dX8_comes_309 rfl h1 hP hD hS
                                  · replace h := (if_neg c95).symm.trans h
                                    refine lv_iconst (v := 0) hx hb dX8_comes_276 (by decide) ?_
                                    obtain ⟨h1, h⟩ := Prod.mk.inj (Option.some.inj h)
                                    obtain ⟨rfl, rfl⟩ := Prod.mk.inj h
                                    exact hret _ _ _ _ _ dX8_comes_277 rfl h1 hP hD hS
                          · replace h := (if_neg c89).symm.trans h
                            by_cases c98 : (I 9 (Int32.toNatClampNeg v1)) = 114
                            · replace h := (if_pos c98).symm.trans h
                              refine lv_tableIn (off := 219) (tgt := 239) hx hb dX8_comes_20 (by rw [c98]; decide) (by rw [c98]; decide) (by rw [c98]; decide) (by decide) ?_
                              refine lv_iload_n hx hb dX8_comes_239 rfl (lv_at hl 1 rfl) ?_
                              refine lv_iconst (v := 1) hx hb dX8_comes_240 (by decide) ?_
                              refine lv_bipush (v := 100) hx hb dX8_comes_241 (by decide) ?_
                              obtain ⟨r99, hc99, h⟩ := ob h
                              refine callRS (As := [.int (I 11 (Int32.toNatClampNeg v1)), .int (1 : Int32), .int (100 : Int32)]) (rest := []) hC (c_X8_isIn l g (mW ad g I J) (I 11 (Int32.toNatClampNeg v1)) (1 : Int32) (100 : Int32) hc99) lk_X8_104 rfl rfl ⟨Nat.le_of_ble_eq_true rfl, Nat.le_of_ble_eq_true rfl⟩ hP hK rfl rfl hl (Nat.le_of_ble_eq_true rfl) dX8_comes_243 ?_
                              refine lv_if_eq (tgt := 276) hx hb dX8_comes_246 (by decide) (fun c100 => ?_) (fun c100 => ?_)
                              · replace h := (if_pos c100).symm.trans h
                                refine lv_iconst (v := 0) hx hb dX8_comes_276 (by decide) ?_
                                obtain ⟨h1, h⟩ := Prod.mk.inj (Option.some.inj h)
                                obtain ⟨rfl, rfl⟩ := Prod.mk.inj h
                                exact hret _ _ _ _ _ dX8_comes_277 rfl h1 hP hD hS
                              · replace h := (if_neg c100).symm.trans h
                                refine lv_iload_n hx hb dX8_comes_249 rfl (lv_at hl 0 rfl) ?_
                                refine lv_sipush (v := 300) hx hb dX8_comes_250 (by decide) ?_
                                refine lv_icmp_gt (tgt := 276) hx hb dX8_comes_253 (by decide) (fun c101 => ?_) (fun c101 => ?_)
                                · replace h := (if_pos c101).symm.trans h
                                  refine lv_iconst (v := 0) hx hb dX8_comes_276 (by decide) ?_
                                  obtain ⟨h1, h⟩ := Prod.mk.inj (Option.some.inj h)
                                  obtain ⟨rfl, rfl⟩ := Prod.mk.inj h
                                  exact hret _ _ _ _ _ dX8_comes_277 rfl h1 hP hD hS
                                · replace h := (if_neg c101).symm.trans h
                                  refine lv_aload_n hx hb dX8_comes_256 rfl (lv_at hl 2 rfl) ?_
                                  refine gt_X8_77 hC hK hP dX8_comes_257 ?_
                                  refine lv_bipush (v := 6) hx hb dX8_comes_260 (by decide) ?_
                                  refine lv_icmp_eq (tgt := 276) hx hb dX8_comes_262 (by decide) (fun c102 => ?_) (fun c102 => ?_)
                                  · replace h := (if_pos c102).symm.trans h
                                    refine lv_iconst (v := 0) hx hb dX8_comes_276 (by decide) ?_
                                    obtain ⟨h1, h⟩ := Prod.mk.inj (Option.some.inj h)
                                    obtain ⟨rfl, rfl⟩ := Prod.mk.inj h
                                    exact hret _ _ _ _ _ dX8_comes_277 rfl h1 hP hD hS
                                  · replace h := (if_neg c102).symm.trans h
                                    refine lv_aload_n hx hb dX8_comes_265 rfl (lv_at hl 2 rfl) ?_
                                    obtain ⟨r103, hc103, h⟩ := ob h
                                    refine callRV (As := []) (rest := []) hC (c_X8_allChances l g ad I J   hc103) lk_X8_81 rfl rfl ⟨Nat.le_of_ble_eq_true rfl, Nat.le_of_ble_eq_true rfl⟩ hP hK mo_0 rfl rfl rfl hl (Nat.le_of_ble_eq_true rfl) dX8_comes_266 ?_
                                    refine lv_iload_n hx hb dX8_comes_269 rfl (lv_at hl 1 rfl) ?_
                                    refine lv_iadd hx hb dX8_comes_270 ?_
                                    refine lv_bipush (v := 100) hx hb dX8_comes_271 (by decide) ?_
                                    refine lv_icmp_le (tgt := 278) hx hb dX8_comes_273 (by decide) (fun c104 => ?_) (fun c104 => ?_)
                                    · replace h := (if_pos c104).symm.trans h
                                      refine lv_aload_n hx hb dX8_comes_278 rfl (lv_at hl 2 rfl) ?_
                                      refine gt_X8_25 hC hK hP dX8_comes_279 ?_
                                      refine lv_aload_n hx hb dX8_comes_282 rfl (lv_at hl 2 rfl) ?_
                                      refine gt_X8_77 hC hK hP dX8_comes_283 ?_
                                      refine lv_iload_n hx hb dX8_comes_286 rfl (lv_at hl 1 rfl) ?_
                                      obtain ⟨b105, h⟩ := og h
                                      refine as_m6 hC hK hP hD hS (gin_ok b105) dX8_comes_287 (fun H locs hP hD hS => ?_)
                                      refine lv_aload_n hx hb dX8_comes_288 rfl (lv_at hl 2 rfl) ?_
                                      refine gt_X8_28 hC hK hP dX8_comes_289 ?_
                                      refine lv_aload_n hx hb dX8_comes_292 rfl (lv_at hl 2 rfl) ?_
                                      refine gt_X8_77 hC hK hP dX8_comes_293 ?_
                                      refine lv_iload_n hx hb dX8_comes_296 rfl (lv_at hl 0 rfl) ?_
                                      obtain ⟨b106, h⟩ := og h
                                      refine as_m7 hC hK hP hD hS (gin_ok b106) dX8_comes_297 (fun H locs hP hD hS => ?_)
                                      refine lv_aload_n hx hb dX8_comes_298 rfl (lv_at hl 2 rfl) ?_
                                      refine lv_dup hx hb dX8_comes_299 rfl ?_
                                      refine gt_X8_77 hC hK hP dX8_comes_300 ?_
                                      refine lv_iconst (v := 1) hx hb dX8_comes_303 (by decide) ?_
                                      refine lv_iadd hx hb dX8_comes_304 ?_
                                      refine pt_X8_77 hC hK hP hD hS dX8_comes_305 (fun H locs hP hD hS => ?_)
                                      refine lv_iconst (v := 1) hx hb dX8_comes_308 (by decide) ?_
                                      obtain ⟨h1, h⟩ := Prod.mk.inj (Option.some.inj h)
                                      obtain ⟨rfl, rfl⟩ := Prod.mk.inj h
                                      exact hret _ _ _ _ _ dX8_comes_309 rfl h1 hP hD hS
                                    · replace h := (if_neg c104).symm.trans h
                                      refine lv_iconst (v := 0) hx hb dX8_comes_276 (by decide) ?_
                                      obtain ⟨h1, h⟩ := Prod.mk.inj (Option.some.inj h)
                                      obtain ⟨rfl, rfl⟩ := Prod.mk.inj h
                                      exact hret _ _ _ _ _ dX8_comes_277 rfl h1 hP hD hS
                            · replace h := (if_neg c98).symm.trans h
                              by_cases c107 : (I 9 (Int32.toNatClampNeg v1)) = 115
                              · replace h := (if_pos c107).symm.trans h
                                refine lv_tableIn (off := 90) (tgt := 110) hx hb dX8_comes_20 (by rw [c107]; decide) (by rw [c107]; decide) (by rw [c107]; decide) (by decide) ?_
                                refine lv_aload_n hx hb dX8_comes_110 rfl (lv_at hl 2 rfl) ?_
                                refine lv_iconst (v := 2) hx hb dX8_comes_111 (by decide) ?_
                                refine lv_iload_n hx hb dX8_comes_112 rfl (lv_at hl 1 rfl) ?_
                                obtain ⟨⟨r108, I108, J108⟩, hc108, h⟩ := ob h
                                dsimp only at h
                                refine callWVi (As := [.int (2 : Int32), .int (I 11 (Int32.toNatClampNeg v1))]) (rest := []) hC (c_X8_sets l g ad I J (2 : Int32) (I 11 (Int32.toNatClampNeg v1))  H.size hc108) lk_X8_121 rfl rfl ⟨Nat.le_of_ble_eq_true rfl, Nat.le_of_ble_eq_true rfl⟩ hP hK hD hA hS mo_0 rfl rfl rfl hl (Nat.le_of_ble_eq_true rfl) dX8_comes_113 (fun H locs hP hD hS => ?_)
                                refine lv_if_eq (tgt := 132) hx hb dX8_comes_116 (by decide) (fun c109 => ?_) (fun c109 => ?_)
                                · replace h := (if_pos c109).symm.trans h
                                  refine lv_iconst (v := 0) hx hb dX8_comes_132 (by decide) ?_
                                  obtain ⟨h1, h⟩ := Prod.mk.inj (Option.some.inj h)
                                  obtain ⟨rfl, rfl⟩ := Prod.mk.inj h
                                  exact hret _ _ _ _ _ dX8_comes_133 rfl h1 hP hD hS
                                · replace h := (if_neg c109).symm.trans h
                                  refine lv_aload_n hx hb dX8_comes_119 rfl (lv_at hl 2 rfl) ?_
                                  refine lv_iconst (v := 3) hx hb dX8_comes_120 (by decide) ?_
                                  refine lv_iload_n hx hb dX8_comes_121 rfl (lv_at hl 0 rfl) ?_
                                  obtain ⟨⟨r110, I110, J110⟩, hc110, h⟩ := ob h
                                  dsimp only at h
                                  refine callWVi (As := [.int (3 : Int32), .int (I 12 (Int32.toNatClampNeg v1))]) (rest := []) hC (c_X8_sets l g ad I108 J108 (3 : Int32) (I 12 (Int32.toNatClampNeg v1))  H.size hc110) lk_X8_121 rfl rfl ⟨Nat.le_of_ble_eq_true rfl, Nat.le_of_ble_eq_true rfl⟩ hP hK hD hA hS mo_0 rfl rfl rfl hl (Nat.le_of_ble_eq_true rfl) dX8_comes_122 (fun H locs hP hD hS => ?_)
                                  refine lv_if_eq (tgt := 132) hx hb dX8_comes_125 (by decide) (fun c111 => ?_) (fun c111 => ?_)
                                  · replace h := (if_pos c111).symm.trans h
                                    refine lv_iconst (v := 0) hx hb dX8_comes_132 (by decide) ?_
                                    obtain ⟨h1, h⟩ := Prod.mk.inj (Option.some.inj h)
                                    obtain ⟨rfl, rfl⟩ := Prod.mk.inj h
                                    exact hret _ _ _ _ _ dX8_comes_133 rfl h1 hP hD hS
                                  · replace h := (if_neg c111).symm.trans h
                                    refine lv_iconst (v := 1) hx hb dX8_comes_128 (by decide) ?_
                                    refine lv_goto (tgt := 133) hx hb dX8_comes_129 (by decide) ?_
                                    obtain ⟨h1, h⟩ := Prod.mk.inj (Option.some.inj h)
                                    obtain ⟨rfl, rfl⟩ := Prod.mk.inj h
                                    exact hret _ _ _ _ _ dX8_comes_133 rfl h1 hP hD hS
                              · replace h := (if_neg c107).symm.trans h
                                refine lv_tableOut (tgt := 239) hx hb dX8_comes_20 (by have ec4 := ti_ne (n := 101) (by decide) c4; have ec9 := ti_ne (n := 102) (by decide) c9; have ec18 := ti_ne (n := 103) (by decide) c18; have ec21 := ti_ne (n := 104) (by decide) c21; have ec30 := ti_ne (n := 105) (by decide) c30; have ec39 := ti_ne (n := 106) (by decide) c39; have ec48 := ti_ne (n := 107) (by decide) c48; have ec57 := ti_ne (n := 108) (by decide) c57; have ec66 := ti_ne (n := 109) (by decide) c66; have ec71 := ti_ne (n := 110) (by decide) c71; have ec80 := ti_ne (n := 111) (by decide) c80; have ec83 := ti_ne (n := 112) (by decide) c83; have ec89 := ti_ne (n := 113) (by decide) c89; have ec98 := ti_ne (n := 114) (by decide) c98; have ec107 := ti_ne (n := 115) (by decide) c107; omega) (by decide) ?_
                                refine lv_iload_n hx hb dX8_comes_239 rfl (lv_at hl 1 rfl) ?_
                                refine lv_iconst (v := 1) hx hb dX8_comes_240 (by decide) ?_
                                refine lv_bipush (v := 100) hx hb dX8_comes_241 (by decide) ?_
                                obtain ⟨r112, hc112, h⟩ := ob h
                                refine callRS (As := [.int (I 11 (Int32.toNatClampNeg v1)), .int (1 : Int32), .int (100 : Int32)]) (rest := []) hC (c_X8_isIn l g (mW ad g I J) (I 11 (Int32.toNatClampNeg v1)) (1 : Int32) (100 : Int32) hc112) lk_X8_104 rfl rfl ⟨Nat.le_of_ble_eq_true rfl, Nat.le_of_ble_eq_true rfl⟩ hP hK rfl rfl hl (Nat.le_of_ble_eq_true rfl) dX8_comes_243 ?_
                                refine lv_if_eq (tgt := 276) hx hb dX8_comes_246 (by decide) (fun c113 => ?_) (fun c113 => ?_)
                                · replace h := (if_pos c113).symm.trans h
                                  refine lv_iconst (v := 0) hx hb dX8_comes_276 (by decide) ?_
                                  obtain ⟨h1, h⟩ := Prod.mk.inj (Option.some.inj h)
                                  obtain ⟨rfl, rfl⟩ := Prod.mk.inj h
                                  exact hret _ _ _ _ _ dX8_comes_277 rfl h1 hP hD hS
                                · replace h := (if_neg c113).symm.trans h
                                  refine lv_iload_n hx hb dX8_comes_249 rfl (lv_at hl 0 rfl) ?_
                                  refine lv_sipush (v := 300) hx hb dX8_comes_250 (by decide) ?_
                                  refine lv_icmp_gt (tgt := 276) hx hb dX8_comes_253 (by decide) (fun c114 => ?_) (fun c114 => ?_)
                                  · replace h := (if_pos c114).symm.trans h
                                    refine lv_iconst (v := 0) hx hb dX8_comes_276 (by decide) ?_
                                    obtain ⟨h1, h⟩ := Prod.mk.inj (Option.some.inj h)
                                    obtain ⟨rfl, rfl⟩ := Prod.mk.inj h
                                    exact hret _ _ _ _ _ dX8_comes_277 rfl h1 hP hD hS
                                  · replace h := (if_neg c114).symm.trans h
                                    refine lv_aload_n hx hb dX8_comes_256 rfl (lv_at hl 2 rfl) ?_
                                    refine gt_X8_77 hC hK hP dX8_comes_257 ?_
                                    refine lv_bipush (v := 6) hx hb dX8_comes_260 (by decide) ?_
                                    refine lv_icmp_eq (tgt := 276) hx hb dX8_comes_262 (by decide) (fun c115 => ?_) (fun c115 => ?_)
                                    · replace h := (if_pos c115).symm.trans h
                                      refine lv_iconst (v := 0) hx hb dX8_comes_276 (by decide) ?_
                                      obtain ⟨h1, h⟩ := Prod.mk.inj (Option.some.inj h)
                                      obtain ⟨rfl, rfl⟩ := Prod.mk.inj h
                                      exact hret _ _ _ _ _ dX8_comes_277 rfl h1 hP hD hS
                                    · replace h := (if_neg c115).symm.trans h
                                      refine lv_aload_n hx hb dX8_comes_265 rfl (lv_at hl 2 rfl) ?_
                                      obtain ⟨r116, hc116, h⟩ := ob h
                                      refine callRV (As := []) (rest := []) hC (c_X8_allChances l g ad I J   hc116) lk_X8_81 rfl rfl ⟨Nat.le_of_ble_eq_true rfl, Nat.le_of_ble_eq_true rfl⟩ hP hK mo_0 rfl rfl rfl hl (Nat.le_of_ble_eq_true rfl) dX8_comes_266 ?_
                                      refine lv_iload_n hx hb dX8_comes_269 rfl (lv_at hl 1 rfl) ?_
                                      refine lv_iadd hx hb dX8_comes_270 ?_
                                      refine lv_bipush (v := 100) hx hb dX8_comes_271 (by decide) ?_
                                      refine lv_icmp_le (tgt := 278) hx hb dX8_comes_273 (by decide) (fun c117 => ?_) (fun c117 => ?_)
                                      · replace h := (if_pos c117).symm.trans h
                                        refine lv_aload_n hx hb dX8_comes_278 rfl (lv_at hl 2 rfl) ?_
                                        refine gt_X8_25 hC hK hP dX8_comes_279 ?_
                                        refine lv_aload_n hx hb dX8_comes_282 rfl (lv_at hl 2 rfl) ?_
                                        refine gt_X8_77 hC hK hP dX8_comes_283 ?_
                                        refine lv_iload_n hx hb dX8_comes_286 rfl (lv_at hl 1 rfl) ?_
                                        obtain ⟨b118, h⟩ := og h
                                        refine as_m6 hC hK hP hD hS (gin_ok b118) dX8_comes_287 (fun H locs hP hD hS => ?_)
                                        refine lv_aload_n hx hb dX8_comes_288 rfl (lv_at hl 2 rfl) ?_
                                        refine gt_X8_28 hC hK hP dX8_comes_289 ?_
                                        refine lv_aload_n hx hb dX8_comes_292 rfl (lv_at hl 2 rfl) ?_
                                        refine gt_X8_77 hC hK hP dX8_comes_293 ?_
                                        refine lv_iload_n hx hb dX8_comes_296 rfl (lv_at hl 0 rfl) ?_
                                        obtain ⟨b119, h⟩ := og h
                                        refine as_m7 hC hK hP hD hS (gin_ok b119) dX8_comes_297 (fun H locs hP hD hS => ?_)
                                        refine lv_aload_n hx hb dX8_comes_298 rfl (lv_at hl 2 rfl) ?_
                                        refine lv_dup hx hb dX8_comes_299 rfl ?_
                                        refine gt_X8_77 hC hK hP dX8_comes_300 ?_
                                        refine lv_iconst (v := 1) hx hb dX8_comes_303 (by decide) ?_
                                        refine lv_iadd hx hb dX8_comes_304 ?_
                                        refine pt_X8_77 hC hK hP hD hS dX8_comes_305 (fun H locs hP hD hS => ?_)
                                        refine lv_iconst (v := 1) hx hb dX8_comes_308 (by decide) ?_
                                        obtain ⟨h1, h⟩ := Prod.mk.inj (Option.some.inj h)
                                        obtain ⟨rfl, rfl⟩ := Prod.mk.inj h
                                        exact hret _ _ _ _ _ dX8_comes_309 rfl h1 hP hD hS
                                      · replace h := (if_neg c117).symm.trans h
                                        refine lv_iconst (v := 0) hx hb dX8_comes_276 (by decide) ?_
                                        obtain ⟨h1, h⟩ := Prod.mk.inj (Option.some.inj h)
                                        obtain ⟨rfl, rfl⟩ := Prod.mk.inj h
                                        exact hret _ _ _ _ _ dX8_comes_277 rfl h1 hP hD hS
