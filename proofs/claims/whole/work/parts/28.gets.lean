section Gets
variable {I : Nat → Nat → Int32} {D : Nat → Nat → Option Nat} {K : Nat → Nat} {n : Nat} {Z : Nat → Cl}
theorem c0 : isC (enc I D K n Z) 0 10 = some () := isC_e s_0
theorem r0_0 : gN (enc I D K n Z) 0 10 0 = some 1 := gN_e s_0 0 rfl
theorem r0_1 : gN (enc I D K n Z) 0 10 1 = some 2 := gN_e s_0 1 rfl
theorem r0_2 : gN (enc I D K n Z) 0 10 2 = some 8 := gN_e s_0 2 rfl
theorem r0_3 : gN (enc I D K n Z) 0 10 3 = some 9 := gN_e s_0 3 rfl
theorem r0_4 : gN (enc I D K n Z) 0 10 4 = some 13 := gN_e s_0 4 rfl
theorem r0_5 : gN (enc I D K n Z) 0 10 5 = some 16 := gN_e s_0 5 rfl
theorem r0_6 : gN (enc I D K n Z) 0 10 6 = some 17 := gN_e s_0 6 rfl
theorem r0_7 : gN (enc I D K n Z) 0 10 7 = some 24 := gN_e s_0 7 rfl
theorem r0_8 : gN (enc I D K n Z) 0 10 8 = some 25 := gN_e s_0 8 rfl
theorem r0_9 : gN (enc I D K n Z) 0 10 9 = some 26 := gN_e s_0 9 rfl
theorem r0_10 : gN (enc I D K n Z) 0 10 10 = some 28 := gN_e s_0 10 rfl
theorem r0_11 : gN (enc I D K n Z) 0 10 11 = some 29 := gN_e s_0 11 rfl
theorem g0_12 : gI (enc I D K n Z) 0 10 12 = some (I 0 12) := gI_e s_0 12 rfl
theorem p0_12 (v : Int32) : pV (enc I D K n Z) 0 10 12 (.inl v) = some (enc (va_up I 0 (upd (I 0) 12 v)) D K n Z) := pV_e s_0 12 rfl v
theorem g0_13 : gI (enc I D K n Z) 0 10 13 = some (I 0 13) := gI_e s_0 13 rfl
theorem p0_13 (v : Int32) : pV (enc I D K n Z) 0 10 13 (.inl v) = some (enc (va_up I 0 (upd (I 0) 13 v)) D K n Z) := pV_e s_0 13 rfl v
theorem g0_14 : gI (enc I D K n Z) 0 10 14 = some (I 0 14) := gI_e s_0 14 rfl
theorem p0_14 (v : Int32) : pV (enc I D K n Z) 0 10 14 (.inl v) = some (enc (va_up I 0 (upd (I 0) 14 v)) D K n Z) := pV_e s_0 14 rfl v
theorem g0_15 : gI (enc I D K n Z) 0 10 15 = some (I 0 15) := gI_e s_0 15 rfl
theorem p0_15 (v : Int32) : pV (enc I D K n Z) 0 10 15 (.inl v) = some (enc (va_up I 0 (upd (I 0) 15 v)) D K n Z) := pV_e s_0 15 rfl v
theorem c2 : isC (enc I D K n Z) 2 6 = some () := isC_e s_2
theorem r2_0 : gN (enc I D K n Z) 2 6 0 = some 3 := gN_e s_2 0 rfl
theorem r2_1 : gN (enc I D K n Z) 2 6 1 = some 4 := gN_e s_2 1 rfl
theorem g2_2 : gI (enc I D K n Z) 2 6 2 = some (I 2 2) := gI_e s_2 2 rfl
theorem p2_2 (v : Int32) : pV (enc I D K n Z) 2 6 2 (.inl v) = some (enc (va_up I 2 (upd (I 2) 2 v)) D K n Z) := pV_e s_2 2 rfl v
theorem g2_3 : gI (enc I D K n Z) 2 6 3 = some (I 2 3) := gI_e s_2 3 rfl
theorem p2_3 (v : Int32) : pV (enc I D K n Z) 2 6 3 (.inl v) = some (enc (va_up I 2 (upd (I 2) 3 v)) D K n Z) := pV_e s_2 3 rfl v
theorem g2_4 : gI (enc I D K n Z) 2 6 4 = some (I 2 4) := gI_e s_2 4 rfl
theorem p2_4 (v : Int32) : pV (enc I D K n Z) 2 6 4 (.inl v) = some (enc (va_up I 2 (upd (I 2) 4 v)) D K n Z) := pV_e s_2 4 rfl v
theorem c4 : isC (enc I D K n Z) 4 2 = some () := isC_e (s_H (a := 4) (by simp [isH]))
theorem r4_0 : gN (enc I D K n Z) 4 2 0 = some 5 := gN_e (s_H (a := 4) (by simp [isH])) 0 rfl
theorem r4_1 : gN (enc I D K n Z) 4 2 1 = some 6 := gN_e (s_H (a := 4) (by simp [isH])) 1 rfl
theorem r4_2 : gN (enc I D K n Z) 4 2 2 = some 7 := gN_e (s_H (a := 4) (by simp [isH])) 2 rfl
theorem g4_3 : gI (enc I D K n Z) 4 2 3 = some (I 4 3) := gI_e (s_H (a := 4) (by simp [isH])) 3 rfl
theorem p4_3 (v : Int32) : pV (enc I D K n Z) 4 2 3 (.inl v) = some (enc (va_up I 4 (upd (I 4) 3 v)) D K n Z) := pV_e (s_H (a := 4) (by simp [isH])) 3 rfl v
theorem g4_4 : gI (enc I D K n Z) 4 2 4 = some (I 4 4) := gI_e (s_H (a := 4) (by simp [isH])) 4 rfl
theorem p4_4 (v : Int32) : pV (enc I D K n Z) 4 2 4 (.inl v) = some (enc (va_up I 4 (upd (I 4) 4 v)) D K n Z) := pV_e (s_H (a := 4) (by simp [isH])) 4 rfl v
theorem g4_5 : gI (enc I D K n Z) 4 2 5 = some (I 4 5) := gI_e (s_H (a := 4) (by simp [isH])) 5 rfl
theorem p4_5 (v : Int32) : pV (enc I D K n Z) 4 2 5 (.inl v) = some (enc (va_up I 4 (upd (I 4) 5 v)) D K n Z) := pV_e (s_H (a := 4) (by simp [isH])) 5 rfl v
theorem g4_6 : gI (enc I D K n Z) 4 2 6 = some (I 4 6) := gI_e (s_H (a := 4) (by simp [isH])) 6 rfl
theorem p4_6 (v : Int32) : pV (enc I D K n Z) 4 2 6 (.inl v) = some (enc (va_up I 4 (upd (I 4) 6 v)) D K n Z) := pV_e (s_H (a := 4) (by simp [isH])) 6 rfl v
theorem g4_7 : gI (enc I D K n Z) 4 2 7 = some (I 4 7) := gI_e (s_H (a := 4) (by simp [isH])) 7 rfl
theorem p4_7 (v : Int32) : pV (enc I D K n Z) 4 2 7 (.inl v) = some (enc (va_up I 4 (upd (I 4) 7 v)) D K n Z) := pV_e (s_H (a := 4) (by simp [isH])) 7 rfl v
theorem g4_8 : gI (enc I D K n Z) 4 2 8 = some (I 4 8) := gI_e (s_H (a := 4) (by simp [isH])) 8 rfl
theorem p4_8 (v : Int32) : pV (enc I D K n Z) 4 2 8 (.inl v) = some (enc (va_up I 4 (upd (I 4) 8 v)) D K n Z) := pV_e (s_H (a := 4) (by simp [isH])) 8 rfl v
theorem c9 : isC (enc I D K n Z) 9 2 = some () := isC_e (s_H (a := 9) (by simp [isH]))
theorem r9_0 : gN (enc I D K n Z) 9 2 0 = some 10 := gN_e (s_H (a := 9) (by simp [isH])) 0 rfl
theorem r9_1 : gN (enc I D K n Z) 9 2 1 = some 11 := gN_e (s_H (a := 9) (by simp [isH])) 1 rfl
theorem r9_2 : gN (enc I D K n Z) 9 2 2 = some 12 := gN_e (s_H (a := 9) (by simp [isH])) 2 rfl
theorem g9_3 : gI (enc I D K n Z) 9 2 3 = some (I 9 3) := gI_e (s_H (a := 9) (by simp [isH])) 3 rfl
theorem p9_3 (v : Int32) : pV (enc I D K n Z) 9 2 3 (.inl v) = some (enc (va_up I 9 (upd (I 9) 3 v)) D K n Z) := pV_e (s_H (a := 9) (by simp [isH])) 3 rfl v
theorem g9_4 : gI (enc I D K n Z) 9 2 4 = some (I 9 4) := gI_e (s_H (a := 9) (by simp [isH])) 4 rfl
theorem p9_4 (v : Int32) : pV (enc I D K n Z) 9 2 4 (.inl v) = some (enc (va_up I 9 (upd (I 9) 4 v)) D K n Z) := pV_e (s_H (a := 9) (by simp [isH])) 4 rfl v
theorem g9_5 : gI (enc I D K n Z) 9 2 5 = some (I 9 5) := gI_e (s_H (a := 9) (by simp [isH])) 5 rfl
theorem p9_5 (v : Int32) : pV (enc I D K n Z) 9 2 5 (.inl v) = some (enc (va_up I 9 (upd (I 9) 5 v)) D K n Z) := pV_e (s_H (a := 9) (by simp [isH])) 5 rfl v
theorem g9_6 : gI (enc I D K n Z) 9 2 6 = some (I 9 6) := gI_e (s_H (a := 9) (by simp [isH])) 6 rfl
theorem p9_6 (v : Int32) : pV (enc I D K n Z) 9 2 6 (.inl v) = some (enc (va_up I 9 (upd (I 9) 6 v)) D K n Z) := pV_e (s_H (a := 9) (by simp [isH])) 6 rfl v
theorem g9_7 : gI (enc I D K n Z) 9 2 7 = some (I 9 7) := gI_e (s_H (a := 9) (by simp [isH])) 7 rfl
theorem p9_7 (v : Int32) : pV (enc I D K n Z) 9 2 7 (.inl v) = some (enc (va_up I 9 (upd (I 9) 7 v)) D K n Z) := pV_e (s_H (a := 9) (by simp [isH])) 7 rfl v
theorem g9_8 : gI (enc I D K n Z) 9 2 8 = some (I 9 8) := gI_e (s_H (a := 9) (by simp [isH])) 8 rfl
theorem p9_8 (v : Int32) : pV (enc I D K n Z) 9 2 8 (.inl v) = some (enc (va_up I 9 (upd (I 9) 8 v)) D K n Z) := pV_e (s_H (a := 9) (by simp [isH])) 8 rfl v
theorem c17 : isC (enc I D K n Z) 17 2 = some () := isC_e (s_H (a := 17) (by simp [isH]))
theorem r17_0 : gN (enc I D K n Z) 17 2 0 = some 18 := gN_e (s_H (a := 17) (by simp [isH])) 0 rfl
theorem r17_1 : gN (enc I D K n Z) 17 2 1 = some 19 := gN_e (s_H (a := 17) (by simp [isH])) 1 rfl
theorem r17_2 : gN (enc I D K n Z) 17 2 2 = some 20 := gN_e (s_H (a := 17) (by simp [isH])) 2 rfl
theorem g17_3 : gI (enc I D K n Z) 17 2 3 = some (I 17 3) := gI_e (s_H (a := 17) (by simp [isH])) 3 rfl
theorem p17_3 (v : Int32) : pV (enc I D K n Z) 17 2 3 (.inl v) = some (enc (va_up I 17 (upd (I 17) 3 v)) D K n Z) := pV_e (s_H (a := 17) (by simp [isH])) 3 rfl v
theorem g17_4 : gI (enc I D K n Z) 17 2 4 = some (I 17 4) := gI_e (s_H (a := 17) (by simp [isH])) 4 rfl
theorem p17_4 (v : Int32) : pV (enc I D K n Z) 17 2 4 (.inl v) = some (enc (va_up I 17 (upd (I 17) 4 v)) D K n Z) := pV_e (s_H (a := 17) (by simp [isH])) 4 rfl v
theorem g17_5 : gI (enc I D K n Z) 17 2 5 = some (I 17 5) := gI_e (s_H (a := 17) (by simp [isH])) 5 rfl
theorem p17_5 (v : Int32) : pV (enc I D K n Z) 17 2 5 (.inl v) = some (enc (va_up I 17 (upd (I 17) 5 v)) D K n Z) := pV_e (s_H (a := 17) (by simp [isH])) 5 rfl v
theorem g17_6 : gI (enc I D K n Z) 17 2 6 = some (I 17 6) := gI_e (s_H (a := 17) (by simp [isH])) 6 rfl
theorem p17_6 (v : Int32) : pV (enc I D K n Z) 17 2 6 (.inl v) = some (enc (va_up I 17 (upd (I 17) 6 v)) D K n Z) := pV_e (s_H (a := 17) (by simp [isH])) 6 rfl v
theorem g17_7 : gI (enc I D K n Z) 17 2 7 = some (I 17 7) := gI_e (s_H (a := 17) (by simp [isH])) 7 rfl
theorem p17_7 (v : Int32) : pV (enc I D K n Z) 17 2 7 (.inl v) = some (enc (va_up I 17 (upd (I 17) 7 v)) D K n Z) := pV_e (s_H (a := 17) (by simp [isH])) 7 rfl v
theorem g17_8 : gI (enc I D K n Z) 17 2 8 = some (I 17 8) := gI_e (s_H (a := 17) (by simp [isH])) 8 rfl
theorem p17_8 (v : Int32) : pV (enc I D K n Z) 17 2 8 (.inl v) = some (enc (va_up I 17 (upd (I 17) 8 v)) D K n Z) := pV_e (s_H (a := 17) (by simp [isH])) 8 rfl v
theorem c8 : isC (enc I D K n Z) 8 9 = some () := isC_e s_8
theorem r8_0 : gN (enc I D K n Z) 8 9 0 = some 9 := gN_e s_8 0 rfl
theorem r8_1 : gN (enc I D K n Z) 8 9 1 = some 13 := gN_e s_8 1 rfl
theorem r8_2 : gN (enc I D K n Z) 8 9 2 = some 15 := gN_e s_8 2 rfl
theorem g8_3 : gI (enc I D K n Z) 8 9 3 = some (I 8 3) := gI_e s_8 3 rfl
theorem p8_3 (v : Int32) : pV (enc I D K n Z) 8 9 3 (.inl v) = some (enc (va_up I 8 (upd (I 8) 3 v)) D K n Z) := pV_e s_8 3 rfl v
theorem g8_4 : gI (enc I D K n Z) 8 9 4 = some (I 8 4) := gI_e s_8 4 rfl
theorem p8_4 (v : Int32) : pV (enc I D K n Z) 8 9 4 (.inl v) = some (enc (va_up I 8 (upd (I 8) 4 v)) D K n Z) := pV_e s_8 4 rfl v
theorem g8_5 : gI (enc I D K n Z) 8 9 5 = some (I 8 5) := gI_e s_8 5 rfl
theorem p8_5 (v : Int32) : pV (enc I D K n Z) 8 9 5 (.inl v) = some (enc (va_up I 8 (upd (I 8) 5 v)) D K n Z) := pV_e s_8 5 rfl v
theorem g8_6 : gI (enc I D K n Z) 8 9 6 = some (I 8 6) := gI_e s_8 6 rfl
theorem p8_6 (v : Int32) : pV (enc I D K n Z) 8 9 6 (.inl v) = some (enc (va_up I 8 (upd (I 8) 6 v)) D K n Z) := pV_e s_8 6 rfl v
theorem g8_7 : gI (enc I D K n Z) 8 9 7 = some (I 8 7) := gI_e s_8 7 rfl
theorem p8_7 (v : Int32) : pV (enc I D K n Z) 8 9 7 (.inl v) = some (enc (va_up I 8 (upd (I 8) 7 v)) D K n Z) := pV_e s_8 7 rfl v
theorem g8_8 : gI (enc I D K n Z) 8 9 8 = some (I 8 8) := gI_e s_8 8 rfl
theorem p8_8 (v : Int32) : pV (enc I D K n Z) 8 9 8 (.inl v) = some (enc (va_up I 8 (upd (I 8) 8 v)) D K n Z) := pV_e s_8 8 rfl v
theorem g8_9 : gI (enc I D K n Z) 8 9 9 = some (I 8 9) := gI_e s_8 9 rfl
theorem p8_9 (v : Int32) : pV (enc I D K n Z) 8 9 9 (.inl v) = some (enc (va_up I 8 (upd (I 8) 9 v)) D K n Z) := pV_e s_8 9 rfl v
theorem g8_10 : gI (enc I D K n Z) 8 9 10 = some (I 8 10) := gI_e s_8 10 rfl
theorem p8_10 (v : Int32) : pV (enc I D K n Z) 8 9 10 (.inl v) = some (enc (va_up I 8 (upd (I 8) 10 v)) D K n Z) := pV_e s_8 10 rfl v
theorem c16 : isC (enc I D K n Z) 16 9 = some () := isC_e s_16
theorem r16_0 : gN (enc I D K n Z) 16 9 0 = some 17 := gN_e s_16 0 rfl
theorem r16_1 : gN (enc I D K n Z) 16 9 1 = some 21 := gN_e s_16 1 rfl
theorem r16_2 : gN (enc I D K n Z) 16 9 2 = some 23 := gN_e s_16 2 rfl
theorem g16_3 : gI (enc I D K n Z) 16 9 3 = some (I 16 3) := gI_e s_16 3 rfl
theorem p16_3 (v : Int32) : pV (enc I D K n Z) 16 9 3 (.inl v) = some (enc (va_up I 16 (upd (I 16) 3 v)) D K n Z) := pV_e s_16 3 rfl v
theorem g16_4 : gI (enc I D K n Z) 16 9 4 = some (I 16 4) := gI_e s_16 4 rfl
theorem p16_4 (v : Int32) : pV (enc I D K n Z) 16 9 4 (.inl v) = some (enc (va_up I 16 (upd (I 16) 4 v)) D K n Z) := pV_e s_16 4 rfl v
theorem g16_5 : gI (enc I D K n Z) 16 9 5 = some (I 16 5) := gI_e s_16 5 rfl
theorem p16_5 (v : Int32) : pV (enc I D K n Z) 16 9 5 (.inl v) = some (enc (va_up I 16 (upd (I 16) 5 v)) D K n Z) := pV_e s_16 5 rfl v
theorem g16_6 : gI (enc I D K n Z) 16 9 6 = some (I 16 6) := gI_e s_16 6 rfl
theorem p16_6 (v : Int32) : pV (enc I D K n Z) 16 9 6 (.inl v) = some (enc (va_up I 16 (upd (I 16) 6 v)) D K n Z) := pV_e s_16 6 rfl v
theorem g16_7 : gI (enc I D K n Z) 16 9 7 = some (I 16 7) := gI_e s_16 7 rfl
theorem p16_7 (v : Int32) : pV (enc I D K n Z) 16 9 7 (.inl v) = some (enc (va_up I 16 (upd (I 16) 7 v)) D K n Z) := pV_e s_16 7 rfl v
theorem g16_8 : gI (enc I D K n Z) 16 9 8 = some (I 16 8) := gI_e s_16 8 rfl
theorem p16_8 (v : Int32) : pV (enc I D K n Z) 16 9 8 (.inl v) = some (enc (va_up I 16 (upd (I 16) 8 v)) D K n Z) := pV_e s_16 8 rfl v
theorem g16_9 : gI (enc I D K n Z) 16 9 9 = some (I 16 9) := gI_e s_16 9 rfl
theorem p16_9 (v : Int32) : pV (enc I D K n Z) 16 9 9 (.inl v) = some (enc (va_up I 16 (upd (I 16) 9 v)) D K n Z) := pV_e s_16 9 rfl v
theorem g16_10 : gI (enc I D K n Z) 16 9 10 = some (I 16 10) := gI_e s_16 10 rfl
theorem p16_10 (v : Int32) : pV (enc I D K n Z) 16 9 10 (.inl v) = some (enc (va_up I 16 (upd (I 16) 10 v)) D K n Z) := pV_e s_16 10 rfl v
theorem c13 : isC (enc I D K n Z) 13 5 = some () := isC_e s_13
theorem r13_0 : gN (enc I D K n Z) 13 5 0 = some 14 := gN_e s_13 0 rfl
theorem g13_1 : gI (enc I D K n Z) 13 5 1 = some (I 13 1) := gI_e s_13 1 rfl
theorem p13_1 (v : Int32) : pV (enc I D K n Z) 13 5 1 (.inl v) = some (enc (va_up I 13 (upd (I 13) 1 v)) D K n Z) := pV_e s_13 1 rfl v
theorem c21 : isC (enc I D K n Z) 21 5 = some () := isC_e s_21
theorem r21_0 : gN (enc I D K n Z) 21 5 0 = some 22 := gN_e s_21 0 rfl
theorem g21_1 : gI (enc I D K n Z) 21 5 1 = some (I 21 1) := gI_e s_21 1 rfl
theorem p21_1 (v : Int32) : pV (enc I D K n Z) 21 5 1 (.inl v) = some (enc (va_up I 21 (upd (I 21) 1 v)) D K n Z) := pV_e s_21 1 rfl v
theorem c26 : isC (enc I D K n Z) 26 5 = some () := isC_e s_26
theorem r26_0 : gN (enc I D K n Z) 26 5 0 = some 27 := gN_e s_26 0 rfl
theorem g26_1 : gI (enc I D K n Z) 26 5 1 = some (I 26 1) := gI_e s_26 1 rfl
theorem p26_1 (v : Int32) : pV (enc I D K n Z) 26 5 1 (.inl v) = some (enc (va_up I 26 (upd (I 26) 1 v)) D K n Z) := pV_e s_26 1 rfl v
theorem c162 : isC (enc I D K n Z) 162 11 = some () := isC_e s_162
theorem g162_0 : gI (enc I D K n Z) 162 11 0 = some (I 162 0) := gI_e s_162 0 rfl
theorem p162_0 (v : Int32) : pV (enc I D K n Z) 162 11 0 (.inl v) = some (enc (va_up I 162 (upd (I 162) 0 v)) D K n Z) := pV_e s_162 0 rfl v
theorem g162_1 : gI (enc I D K n Z) 162 11 1 = some (I 162 1) := gI_e s_162 1 rfl
theorem p162_1 (v : Int32) : pV (enc I D K n Z) 162 11 1 (.inl v) = some (enc (va_up I 162 (upd (I 162) 1 v)) D K n Z) := pV_e s_162 1 rfl v
theorem r162_2 : gN (enc I D K n Z) 162 11 2 = some 163 := gN_e s_162 2 rfl
theorem r162_3 : gN (enc I D K n Z) 162 11 3 = some 164 := gN_e s_162 3 rfl
theorem r162_4 : gN (enc I D K n Z) 162 11 4 = some 165 := gN_e s_162 4 rfl
theorem r162_5 : gN (enc I D K n Z) 162 11 5 = some 166 := gN_e s_162 5 rfl
theorem r162_6 : gN (enc I D K n Z) 162 11 6 = some 167 := gN_e s_162 6 rfl
theorem r162_7 : gN (enc I D K n Z) 162 11 7 = some 168 := gN_e s_162 7 rfl
theorem r162_8 : gN (enc I D K n Z) 162 11 8 = some 169 := gN_e s_162 8 rfl
theorem g162_9 : gI (enc I D K n Z) 162 11 9 = some (I 162 9) := gI_e s_162 9 rfl
theorem p162_9 (v : Int32) : pV (enc I D K n Z) 162 11 9 (.inl v) = some (enc (va_up I 162 (upd (I 162) 9 v)) D K n Z) := pV_e s_162 9 rfl v
theorem r162_10 : gN (enc I D K n Z) 162 11 10 = some 170 := gN_e s_162 10 rfl
theorem g162_11 : gI (enc I D K n Z) 162 11 11 = some (I 162 11) := gI_e s_162 11 rfl
theorem p162_11 (v : Int32) : pV (enc I D K n Z) 162 11 11 (.inl v) = some (enc (va_up I 162 (upd (I 162) 11 v)) D K n Z) := pV_e s_162 11 rfl v
theorem g162_12 : gI (enc I D K n Z) 162 11 12 = some (I 162 12) := gI_e s_162 12 rfl
theorem p162_12 (v : Int32) : pV (enc I D K n Z) 162 11 12 (.inl v) = some (enc (va_up I 162 (upd (I 162) 12 v)) D K n Z) := pV_e s_162 12 rfl v
theorem g162_13 : gI (enc I D K n Z) 162 11 13 = some (I 162 13) := gI_e s_162 13 rfl
theorem p162_13 (v : Int32) : pV (enc I D K n Z) 162 11 13 (.inl v) = some (enc (va_up I 162 (upd (I 162) 13 v)) D K n Z) := pV_e s_162 13 rfl v
theorem g162_14 : gI (enc I D K n Z) 162 11 14 = some (I 162 14) := gI_e s_162 14 rfl
theorem p162_14 (v : Int32) : pV (enc I D K n Z) 162 11 14 (.inl v) = some (enc (va_up I 162 (upd (I 162) 14 v)) D K n Z) := pV_e s_162 14 rfl v
theorem g162_15 : gI (enc I D K n Z) 162 11 15 = some (I 162 15) := gI_e s_162 15 rfl
theorem p162_15 (v : Int32) : pV (enc I D K n Z) 162 11 15 (.inl v) = some (enc (va_up I 162 (upd (I 162) 15 v)) D K n Z) := pV_e s_162 15 rfl v
theorem g162_16 : gI (enc I D K n Z) 162 11 16 = some (I 162 16) := gI_e s_162 16 rfl
theorem p162_16 (v : Int32) : pV (enc I D K n Z) 162 11 16 (.inl v) = some (enc (va_up I 162 (upd (I 162) 16 v)) D K n Z) := pV_e s_162 16 rfl v
theorem g162_17 : gI (enc I D K n Z) 162 11 17 = some (I 162 17) := gI_e s_162 17 rfl
theorem p162_17 (v : Int32) : pV (enc I D K n Z) 162 11 17 (.inl v) = some (enc (va_up I 162 (upd (I 162) 17 v)) D K n Z) := pV_e s_162 17 rfl v
theorem g162_18 : gI (enc I D K n Z) 162 11 18 = some (I 162 18) := gI_e s_162 18 rfl
theorem p162_18 (v : Int32) : pV (enc I D K n Z) 162 11 18 (.inl v) = some (enc (va_up I 162 (upd (I 162) 18 v)) D K n Z) := pV_e s_162 18 rfl v
theorem r162_19 : gN (enc I D K n Z) 162 11 19 = some 171 := gN_e s_162 19 rfl
theorem r162_20 : gN (enc I D K n Z) 162 11 20 = some 172 := gN_e s_162 20 rfl
theorem g162_21 : gI (enc I D K n Z) 162 11 21 = some (I 162 21) := gI_e s_162 21 rfl
theorem p162_21 (v : Int32) : pV (enc I D K n Z) 162 11 21 (.inl v) = some (enc (va_up I 162 (upd (I 162) 21 v)) D K n Z) := pV_e s_162 21 rfl v
theorem g162_22 : gI (enc I D K n Z) 162 11 22 = some (I 162 22) := gI_e s_162 22 rfl
theorem p162_22 (v : Int32) : pV (enc I D K n Z) 162 11 22 (.inl v) = some (enc (va_up I 162 (upd (I 162) 22 v)) D K n Z) := pV_e s_162 22 rfl v
theorem g162_23 : gI (enc I D K n Z) 162 11 23 = some (I 162 23) := gI_e s_162 23 rfl
theorem p162_23 (v : Int32) : pV (enc I D K n Z) 162 11 23 (.inl v) = some (enc (va_up I 162 (upd (I 162) 23 v)) D K n Z) := pV_e s_162 23 rfl v
theorem g162_24 : gI (enc I D K n Z) 162 11 24 = some (I 162 24) := gI_e s_162 24 rfl
theorem p162_24 (v : Int32) : pV (enc I D K n Z) 162 11 24 (.inl v) = some (enc (va_up I 162 (upd (I 162) 24 v)) D K n Z) := pV_e s_162 24 rfl v
theorem g162_25 : gI (enc I D K n Z) 162 11 25 = some (I 162 25) := gI_e s_162 25 rfl
theorem p162_25 (v : Int32) : pV (enc I D K n Z) 162 11 25 (.inl v) = some (enc (va_up I 162 (upd (I 162) 25 v)) D K n Z) := pV_e s_162 25 rfl v
theorem r162_26 : gN (enc I D K n Z) 162 11 26 = some 173 := gN_e s_162 26 rfl
theorem g162_27 : gI (enc I D K n Z) 162 11 27 = some (I 162 27) := gI_e s_162 27 rfl
theorem p162_27 (v : Int32) : pV (enc I D K n Z) 162 11 27 (.inl v) = some (enc (va_up I 162 (upd (I 162) 27 v)) D K n Z) := pV_e s_162 27 rfl v
theorem r162_28 : gN (enc I D K n Z) 162 11 28 = some 174 := gN_e s_162 28 rfl
theorem r162_29 : gN (enc I D K n Z) 162 11 29 = some 175 := gN_e s_162 29 rfl
theorem r162_30 : gN (enc I D K n Z) 162 11 30 = some 176 := gN_e s_162 30 rfl
theorem g162_31 : gI (enc I D K n Z) 162 11 31 = some (I 162 31) := gI_e s_162 31 rfl
theorem p162_31 (v : Int32) : pV (enc I D K n Z) 162 11 31 (.inl v) = some (enc (va_up I 162 (upd (I 162) 31 v)) D K n Z) := pV_e s_162 31 rfl v
theorem l3 (k : Nat) (hk : k < 110) : ald (enc I D K n Z) 3 0 (nI k) = some (I 3 k) := ald_n s_3 k hk (by decide)
theorem t3 (k : Nat) (x : Int32) (hk : k < 110) : ast (enc I D K n Z) 3 0 (nI k) x = some (enc (va_up I 3 (upd (I 3) k x)) D K n Z) := ast_n s_3 k x hk (by decide)
theorem n3 : aln (enc I D K n Z) 3 0 = some (nI 110) := aln_e s_3
theorem l5 (k : Nat) (hk : k < 8) : ald (enc I D K n Z) 5 0 (nI k) = some (I 5 k) := ald_n (show shp K n 5 = some (.inr (.inl (0, 8))) from rfl) k hk (by decide)
theorem t5 (k : Nat) (x : Int32) (hk : k < 8) : ast (enc I D K n Z) 5 0 (nI k) x = some (enc (va_up I 5 (upd (I 5) k x)) D K n Z) := ast_n (show shp K n 5 = some (.inr (.inl (0, 8))) from rfl) k x hk (by decide)
theorem n5 : aln (enc I D K n Z) 5 0 = some (nI 8) := aln_e (show shp K n 5 = some (.inr (.inl (0, 8))) from rfl)
theorem l6 (k : Nat) (hk : k < 8) : ald (enc I D K n Z) 6 0 (nI k) = some (I 6 k) := ald_n (show shp K n 6 = some (.inr (.inl (0, 8))) from rfl) k hk (by decide)
theorem t6 (k : Nat) (x : Int32) (hk : k < 8) : ast (enc I D K n Z) 6 0 (nI k) x = some (enc (va_up I 6 (upd (I 6) k x)) D K n Z) := ast_n (show shp K n 6 = some (.inr (.inl (0, 8))) from rfl) k x hk (by decide)
theorem n6 : aln (enc I D K n Z) 6 0 = some (nI 8) := aln_e (show shp K n 6 = some (.inr (.inl (0, 8))) from rfl)
theorem l10 (k : Nat) (hk : k < 8) : ald (enc I D K n Z) 10 0 (nI k) = some (I 10 k) := ald_n (show shp K n 10 = some (.inr (.inl (0, 8))) from rfl) k hk (by decide)
theorem t10 (k : Nat) (x : Int32) (hk : k < 8) : ast (enc I D K n Z) 10 0 (nI k) x = some (enc (va_up I 10 (upd (I 10) k x)) D K n Z) := ast_n (show shp K n 10 = some (.inr (.inl (0, 8))) from rfl) k x hk (by decide)
theorem n10 : aln (enc I D K n Z) 10 0 = some (nI 8) := aln_e (show shp K n 10 = some (.inr (.inl (0, 8))) from rfl)
theorem l11 (k : Nat) (hk : k < 8) : ald (enc I D K n Z) 11 0 (nI k) = some (I 11 k) := ald_n (show shp K n 11 = some (.inr (.inl (0, 8))) from rfl) k hk (by decide)
theorem t11 (k : Nat) (x : Int32) (hk : k < 8) : ast (enc I D K n Z) 11 0 (nI k) x = some (enc (va_up I 11 (upd (I 11) k x)) D K n Z) := ast_n (show shp K n 11 = some (.inr (.inl (0, 8))) from rfl) k x hk (by decide)
theorem n11 : aln (enc I D K n Z) 11 0 = some (nI 8) := aln_e (show shp K n 11 = some (.inr (.inl (0, 8))) from rfl)
theorem l14 (k : Nat) (hk : k < 17) : ald (enc I D K n Z) 14 0 (nI k) = some (I 14 k) := ald_n s_14 k hk (by decide)
theorem t14 (k : Nat) (x : Int32) (hk : k < 17) : ast (enc I D K n Z) 14 0 (nI k) x = some (enc (va_up I 14 (upd (I 14) k x)) D K n Z) := ast_n s_14 k x hk (by decide)
theorem n14 : aln (enc I D K n Z) 14 0 = some (nI 17) := aln_e s_14
theorem l15 (k : Nat) (hk : k < 8) : ald (enc I D K n Z) 15 0 (nI k) = some (I 15 k) := ald_n s_15 k hk (by decide)
theorem t15 (k : Nat) (x : Int32) (hk : k < 8) : ast (enc I D K n Z) 15 0 (nI k) x = some (enc (va_up I 15 (upd (I 15) k x)) D K n Z) := ast_n s_15 k x hk (by decide)
theorem n15 : aln (enc I D K n Z) 15 0 = some (nI 8) := aln_e s_15
theorem l18 (k : Nat) (hk : k < 8) : ald (enc I D K n Z) 18 0 (nI k) = some (I 18 k) := ald_n (show shp K n 18 = some (.inr (.inl (0, 8))) from rfl) k hk (by decide)
theorem t18 (k : Nat) (x : Int32) (hk : k < 8) : ast (enc I D K n Z) 18 0 (nI k) x = some (enc (va_up I 18 (upd (I 18) k x)) D K n Z) := ast_n (show shp K n 18 = some (.inr (.inl (0, 8))) from rfl) k x hk (by decide)
theorem n18 : aln (enc I D K n Z) 18 0 = some (nI 8) := aln_e (show shp K n 18 = some (.inr (.inl (0, 8))) from rfl)
theorem l19 (k : Nat) (hk : k < 8) : ald (enc I D K n Z) 19 0 (nI k) = some (I 19 k) := ald_n (show shp K n 19 = some (.inr (.inl (0, 8))) from rfl) k hk (by decide)
theorem t19 (k : Nat) (x : Int32) (hk : k < 8) : ast (enc I D K n Z) 19 0 (nI k) x = some (enc (va_up I 19 (upd (I 19) k x)) D K n Z) := ast_n (show shp K n 19 = some (.inr (.inl (0, 8))) from rfl) k x hk (by decide)
theorem n19 : aln (enc I D K n Z) 19 0 = some (nI 8) := aln_e (show shp K n 19 = some (.inr (.inl (0, 8))) from rfl)
theorem l22 (k : Nat) (hk : k < 17) : ald (enc I D K n Z) 22 0 (nI k) = some (I 22 k) := ald_n s_22 k hk (by decide)
theorem t22 (k : Nat) (x : Int32) (hk : k < 17) : ast (enc I D K n Z) 22 0 (nI k) x = some (enc (va_up I 22 (upd (I 22) k x)) D K n Z) := ast_n s_22 k x hk (by decide)
theorem n22 : aln (enc I D K n Z) 22 0 = some (nI 17) := aln_e s_22
theorem l23 (k : Nat) (hk : k < 8) : ald (enc I D K n Z) 23 0 (nI k) = some (I 23 k) := ald_n s_23 k hk (by decide)
theorem t23 (k : Nat) (x : Int32) (hk : k < 8) : ast (enc I D K n Z) 23 0 (nI k) x = some (enc (va_up I 23 (upd (I 23) k x)) D K n Z) := ast_n s_23 k x hk (by decide)
theorem n23 : aln (enc I D K n Z) 23 0 = some (nI 8) := aln_e s_23
theorem l27 (k : Nat) (hk : k < 16) : ald (enc I D K n Z) 27 0 (nI k) = some (I 27 k) := ald_n s_27 k hk (by decide)
theorem t27 (k : Nat) (x : Int32) (hk : k < 16) : ast (enc I D K n Z) 27 0 (nI k) x = some (enc (va_up I 27 (upd (I 27) k x)) D K n Z) := ast_n s_27 k x hk (by decide)
theorem n27 : aln (enc I D K n Z) 27 0 = some (nI 16) := aln_e s_27
theorem l29 (k : Nat) (hk : k < 3) : ald (enc I D K n Z) 29 0 (nI k) = some (I 29 k) := ald_n s_29 k hk (by decide)
theorem t29 (k : Nat) (x : Int32) (hk : k < 3) : ast (enc I D K n Z) 29 0 (nI k) x = some (enc (va_up I 29 (upd (I 29) k x)) D K n Z) := ast_n s_29 k x hk (by decide)
theorem n29 : aln (enc I D K n Z) 29 0 = some (nI 3) := aln_e s_29
theorem l163 (k : Nat) (hk : k < 8) : ald (enc I D K n Z) 163 0 (nI k) = some (I 163 k) := ald_n s_163 k hk (by decide)
theorem t163 (k : Nat) (x : Int32) (hk : k < 8) : ast (enc I D K n Z) 163 0 (nI k) x = some (enc (va_up I 163 (upd (I 163) k x)) D K n Z) := ast_n s_163 k x hk (by decide)
theorem n163 : aln (enc I D K n Z) 163 0 = some (nI 8) := aln_e s_163
theorem l164 (k : Nat) (hk : k < 8) : ald (enc I D K n Z) 164 0 (nI k) = some (I 164 k) := ald_n s_164 k hk (by decide)
theorem t164 (k : Nat) (x : Int32) (hk : k < 8) : ast (enc I D K n Z) 164 0 (nI k) x = some (enc (va_up I 164 (upd (I 164) k x)) D K n Z) := ast_n s_164 k x hk (by decide)
theorem n164 : aln (enc I D K n Z) 164 0 = some (nI 8) := aln_e s_164
theorem l165 (k : Nat) (hk : k < 320) : ald (enc I D K n Z) 165 0 (nI k) = some (I 165 k) := ald_n s_165 k hk (by decide)
theorem t165 (k : Nat) (x : Int32) (hk : k < 320) : ast (enc I D K n Z) 165 0 (nI k) x = some (enc (va_up I 165 (upd (I 165) k x)) D K n Z) := ast_n s_165 k x hk (by decide)
theorem n165 : aln (enc I D K n Z) 165 0 = some (nI 320) := aln_e s_165
theorem l166 (k : Nat) (hk : k < 54) : ald (enc I D K n Z) 166 0 (nI k) = some (I 166 k) := ald_n s_166 k hk (by decide)
theorem t166 (k : Nat) (x : Int32) (hk : k < 54) : ast (enc I D K n Z) 166 0 (nI k) x = some (enc (va_up I 166 (upd (I 166) k x)) D K n Z) := ast_n s_166 k x hk (by decide)
theorem n166 : aln (enc I D K n Z) 166 0 = some (nI 54) := aln_e s_166
theorem l167 (k : Nat) (hk : k < 54) : ald (enc I D K n Z) 167 0 (nI k) = some (I 167 k) := ald_n s_167 k hk (by decide)
theorem t167 (k : Nat) (x : Int32) (hk : k < 54) : ast (enc I D K n Z) 167 0 (nI k) x = some (enc (va_up I 167 (upd (I 167) k x)) D K n Z) := ast_n s_167 k x hk (by decide)
theorem n167 : aln (enc I D K n Z) 167 0 = some (nI 54) := aln_e s_167
theorem l168 (k : Nat) (hk : k < 54) : ald (enc I D K n Z) 168 0 (nI k) = some (I 168 k) := ald_n s_168 k hk (by decide)
theorem t168 (k : Nat) (x : Int32) (hk : k < 54) : ast (enc I D K n Z) 168 0 (nI k) x = some (enc (va_up I 168 (upd (I 168) k x)) D K n Z) := ast_n s_168 k x hk (by decide)
theorem n168 : aln (enc I D K n Z) 168 0 = some (nI 54) := aln_e s_168
theorem l169 (k : Nat) (hk : k < 1296) : ald (enc I D K n Z) 169 0 (nI k) = some (I 169 k) := ald_n s_169 k hk (by decide)
theorem t169 (k : Nat) (x : Int32) (hk : k < 1296) : ast (enc I D K n Z) 169 0 (nI k) x = some (enc (va_up I 169 (upd (I 169) k x)) D K n Z) := ast_n s_169 k x hk (by decide)
theorem n169 : aln (enc I D K n Z) 169 0 = some (nI 1296) := aln_e s_169
theorem l170 (k : Nat) (hk : k < 110) : ald (enc I D K n Z) 170 0 (nI k) = some (I 170 k) := ald_n s_170 k hk (by decide)
theorem t170 (k : Nat) (x : Int32) (hk : k < 110) : ast (enc I D K n Z) 170 0 (nI k) x = some (enc (va_up I 170 (upd (I 170) k x)) D K n Z) := ast_n s_170 k x hk (by decide)
theorem n170 : aln (enc I D K n Z) 170 0 = some (nI 110) := aln_e s_170
theorem l171 (k : Nat) (hk : k < 8) : ald (enc I D K n Z) 171 0 (nI k) = some (I 171 k) := ald_n s_171 k hk (by decide)
theorem t171 (k : Nat) (x : Int32) (hk : k < 8) : ast (enc I D K n Z) 171 0 (nI k) x = some (enc (va_up I 171 (upd (I 171) k x)) D K n Z) := ast_n s_171 k x hk (by decide)
theorem n171 : aln (enc I D K n Z) 171 0 = some (nI 8) := aln_e s_171
theorem l172 (k : Nat) (hk : k < 8) : ald (enc I D K n Z) 172 0 (nI k) = some (I 172 k) := ald_n s_172 k hk (by decide)
theorem t172 (k : Nat) (x : Int32) (hk : k < 8) : ast (enc I D K n Z) 172 0 (nI k) x = some (enc (va_up I 172 (upd (I 172) k x)) D K n Z) := ast_n s_172 k x hk (by decide)
theorem n172 : aln (enc I D K n Z) 172 0 = some (nI 8) := aln_e s_172
theorem l173 (k : Nat) (hk : k < 20) : ald (enc I D K n Z) 173 0 (nI k) = some (I 173 k) := ald_n s_173 k hk (by decide)
theorem t173 (k : Nat) (x : Int32) (hk : k < 20) : ast (enc I D K n Z) 173 0 (nI k) x = some (enc (va_up I 173 (upd (I 173) k x)) D K n Z) := ast_n s_173 k x hk (by decide)
theorem n173 : aln (enc I D K n Z) 173 0 = some (nI 20) := aln_e s_173
theorem l175 (k : Nat) (hk : k < 108) : ald (enc I D K n Z) 175 0 (nI k) = some (I 175 k) := ald_n s_175 k hk (by decide)
theorem t175 (k : Nat) (x : Int32) (hk : k < 108) : ast (enc I D K n Z) 175 0 (nI k) x = some (enc (va_up I 175 (upd (I 175) k x)) D K n Z) := ast_n s_175 k x hk (by decide)
theorem n175 : aln (enc I D K n Z) 175 0 = some (nI 108) := aln_e s_175
theorem l176 (k : Nat) (hk : k < 16) : ald (enc I D K n Z) 176 0 (nI k) = some (I 176 k) := ald_n s_176 k hk (by decide)
theorem t176 (k : Nat) (x : Int32) (hk : k < 16) : ast (enc I D K n Z) 176 0 (nI k) x = some (enc (va_up I 176 (upd (I 176) k x)) D K n Z) := ast_n s_176 k x hk (by decide)
theorem n176 : aln (enc I D K n Z) 176 0 = some (nI 16) := aln_e s_176
theorem q1 (k : Nat) (hk : k < 8) : aldq (enc I D K n Z) 1 2 (nI k) = some (D 1 k) := aldq_e s_1 k hk (by decide)
theorem qn1 (k : Nat) (hk : k < 8) : aldn (enc I D K n Z) 1 2 (nI k) = D 1 k := aldn_e s_1 k hk (by decide)
theorem ql1 : qln (enc I D K n Z) 1 2 = some (nI 8) := qln_e s_1
theorem q7 (k : Nat) (hk : k < 8) : aldq (enc I D K n Z) 7 4 (nI k) = some (D 7 k) := aldq_e (show shp K n 7 = some (.inr (.inr (4, 8))) from rfl) k hk (by decide)
theorem qn7 (k : Nat) (hk : k < 8) : aldn (enc I D K n Z) 7 4 (nI k) = D 7 k := aldn_e (show shp K n 7 = some (.inr (.inr (4, 8))) from rfl) k hk (by decide)
theorem ql7 : qln (enc I D K n Z) 7 4 = some (nI 8) := qln_e (show shp K n 7 = some (.inr (.inr (4, 8))) from rfl)
theorem q12 (k : Nat) (hk : k < 8) : aldq (enc I D K n Z) 12 4 (nI k) = some (D 12 k) := aldq_e (show shp K n 12 = some (.inr (.inr (4, 8))) from rfl) k hk (by decide)
theorem qn12 (k : Nat) (hk : k < 8) : aldn (enc I D K n Z) 12 4 (nI k) = D 12 k := aldn_e (show shp K n 12 = some (.inr (.inr (4, 8))) from rfl) k hk (by decide)
theorem ql12 : qln (enc I D K n Z) 12 4 = some (nI 8) := qln_e (show shp K n 12 = some (.inr (.inr (4, 8))) from rfl)
theorem q20 (k : Nat) (hk : k < 8) : aldq (enc I D K n Z) 20 4 (nI k) = some (D 20 k) := aldq_e (show shp K n 20 = some (.inr (.inr (4, 8))) from rfl) k hk (by decide)
theorem qn20 (k : Nat) (hk : k < 8) : aldn (enc I D K n Z) 20 4 (nI k) = D 20 k := aldn_e (show shp K n 20 = some (.inr (.inr (4, 8))) from rfl) k hk (by decide)
theorem ql20 : qln (enc I D K n Z) 20 4 = some (nI 8) := qln_e (show shp K n 20 = some (.inr (.inr (4, 8))) from rfl)
theorem q24 (k : Nat) (hk : k < 24) : aldq (enc I D K n Z) 24 3 (nI k) = some (D 24 k) := aldq_e s_24 k hk (by decide)
theorem qn24 (k : Nat) (hk : k < 24) : aldn (enc I D K n Z) 24 3 (nI k) = D 24 k := aldn_e s_24 k hk (by decide)
theorem ql24 : qln (enc I D K n Z) 24 3 = some (nI 24) := qln_e s_24
theorem q25 (k : Nat) (hk : k < 2) : aldq (enc I D K n Z) 25 3 (nI k) = some (D 25 k) := aldq_e s_25 k hk (by decide)
theorem qn25 (k : Nat) (hk : k < 2) : aldn (enc I D K n Z) 25 3 (nI k) = D 25 k := aldn_e s_25 k hk (by decide)
theorem ql25 : qln (enc I D K n Z) 25 3 = some (nI 2) := qln_e s_25
theorem q28 (k : Nat) (hk : k < 3) : aldq (enc I D K n Z) 28 3 (nI k) = some (D 28 k) := aldq_e s_28 k hk (by decide)
theorem qn28 (k : Nat) (hk : k < 3) : aldn (enc I D K n Z) 28 3 (nI k) = D 28 k := aldn_e s_28 k hk (by decide)
theorem ql28 : qln (enc I D K n Z) 28 3 = some (nI 3) := qln_e s_28
end Gets
