/-! what each method answers and does, read off its bytecode -/
def f_J9_min_7cf53 (a0 : Int32) (a1 : Int32) : Option (Int32) :=
  if a1 < a0 then some a1 else
 some a0
def f_X3_copyFrom (gd : Nat) (gs : Nat) (m0 : cj_Mm) : Option (cj_Mm) :=
  cj_lt (cj_upG m0 gd (cj_up2 (m0 gd) 1 0 (m0 gs 1 0))) (fun (s1 : cj_Mm) =>
 cj_lt (cj_upG s1 gd (cj_upr (s1 gd) 2 (va_cpy (s1 gs 2) (s1 gd 2) 0 0 6))) (fun (s3 : cj_Mm) =>
 cj_lt (cj_upG s3 gd (cj_upr (s3 gd) 3 (va_cpy (s3 gs 3) (s3 gd 3) 0 0 6))) (fun (s5 : cj_Mm) =>
 cj_lt (cj_upG s5 gd (cj_upr (s5 gd) 4 (va_cpy (s5 gs 4) (s5 gd 4) 0 0 6))) (fun (s7 : cj_Mm) =>
 cj_lt (cj_upG s7 gd (cj_upr (s7 gd) 5 (va_cpy (s7 gs 5) (s7 gd 5) 0 0 6))) (fun (s9 : cj_Mm) =>
 cj_lt (cj_upG s9 gd (cj_upr (s9 gd) 6 (va_cpy (s9 gs 6) (s9 gd 6) 0 0 6))) (fun (s11 : cj_Mm) =>
 cj_lt (cj_upG s11 gd (cj_upr (s11 gd) 7 (va_cpy (s11 gs 7) (s11 gd 7) 0 0 6))) (fun (s13 : cj_Mm) =>
 cj_lt (cj_upG s13 gd (cj_upr (s13 gd) 8 (va_cpy (s13 gs 8) (s13 gd 8) 0 0 72))) (fun (s15 : cj_Mm) =>
 some s15))))))))
def f_X6_copyFrom (gd : Nat) (gs : Nat) (m0 : cj_Mm) : Option (cj_Mm) :=
  cj_lt (cj_upG m0 gd (cj_up2 (m0 gd) 9 0 (m0 gs 9 0))) (fun (s1 : cj_Mm) =>
 cj_lt (cj_upG s1 gd (cj_up2 (s1 gd) 9 1 (s1 gs 9 1))) (fun (s2 : cj_Mm) =>
 cj_lt (cj_upG s2 gd (cj_upr (s2 gd) 10 (va_cpy (s2 gs 10) (s2 gd 10) 0 0 10))) (fun (s4 : cj_Mm) =>
 cj_lt (cj_upG s4 gd (cj_upr (s4 gd) 11 (va_cpy (s4 gs 11) (s4 gd 11) 0 0 10))) (fun (s6 : cj_Mm) =>
 cj_lt (cj_upG s6 gd (cj_upr (s6 gd) 12 (va_cpy (s6 gs 12) (s6 gd 12) 0 0 10))) (fun (s8 : cj_Mm) =>
 cj_lt (cj_upG s8 gd (cj_upr (s8 gd) 13 (va_cpy (s8 gs 13) (s8 gd 13) 0 0 10))) (fun (s10 : cj_Mm) =>
 some s10))))))
def f_X2_copyFrom (gd : Nat) (gs : Nat) (m0 : cj_Mm) : Option (cj_Mm) :=
  cj_lt (cj_upG m0 gd (cj_up2 (m0 gd) 14 0 (m0 gs 14 0))) (fun (s1 : cj_Mm) =>
 cj_lt (cj_upG s1 gd (cj_upr (s1 gd) 15 (va_cpy (s1 gs 15) (s1 gd 15) 0 0 4))) (fun (s3 : cj_Mm) =>
 cj_lt (cj_upG s3 gd (cj_upr (s3 gd) 16 (va_cpy (s3 gs 16) (s3 gd 16) 0 0 4))) (fun (s5 : cj_Mm) =>
 cj_lt (cj_upG s5 gd (cj_upr (s5 gd) 17 (va_cpy (s5 gs 17) (s5 gd 17) 0 0 4))) (fun (s7 : cj_Mm) =>
 cj_lt (cj_upG s7 gd (cj_upr (s7 gd) 18 (va_cpy (s7 gs 18) (s7 gd 18) 0 0 4))) (fun (s9 : cj_Mm) =>
 cj_lt (cj_upG s9 gd (cj_upr (s9 gd) 19 (va_cpy (s9 gs 19) (s9 gd 19) 0 0 4))) (fun (s11 : cj_Mm) =>
 cj_lt (cj_upG s11 gd (cj_upr (s11 gd) 20 (va_cpy (s11 gs 20) (s11 gd 20) 0 0 4))) (fun (s13 : cj_Mm) =>
 some s13)))))))
def f_X0_copyFrom (gd : Nat) (gs : Nat) (m0 : cj_Mm) : Option (cj_Mm) :=
  cj_bd (f_X3_copyFrom gd gs m0) (fun (s2 : cj_Mm) =>
 cj_bd (f_X6_copyFrom gd gs s2) (fun (s4 : cj_Mm) =>
 cj_bd (f_X2_copyFrom gd gs s4) (fun (s6 : cj_Mm) =>
 cj_lt (cj_upG s6 gd (cj_up2 (s6 gd) 0 3 (s6 gs 0 3))) (fun (s7 : cj_Mm) =>
 cj_lt (cj_upG s7 gd (cj_up2 (s7 gd) 0 4 (s7 gs 0 4))) (fun (s8 : cj_Mm) =>
 cj_lt (cj_upG s8 gd (cj_up2 (s8 gd) 0 5 (s8 gs 0 5))) (fun (s9 : cj_Mm) =>
 cj_lt (cj_upG s9 gd (cj_up2 (s9 gd) 0 6 (s9 gs 0 6))) (fun (s10 : cj_Mm) =>
 cj_lt (cj_upG s10 gd (cj_up2 (s10 gd) 0 7 (s10 gs 0 7))) (fun (s11 : cj_Mm) =>
 cj_lt (cj_upG s11 gd (cj_up2 (s11 gd) 0 8 (s11 gs 0 8))) (fun (s12 : cj_Mm) =>
 cj_lt (cj_upG s12 gd (cj_up2 (s12 gd) 0 9 (s12 gs 0 9))) (fun (s13 : cj_Mm) =>
 some s13))))))))))
def f_X8_isWithin (a0 : Int32) (a1 : Int32) (a2 : Int32) : Option (Int32) :=
  if a0 < a1 then some 0 else
 if a2 < a0 then some 0 else
 some 1
def f_X3_isTaken_L2 (y1 : Int32) (y2 : Int32) (s4 : cj_S) : Nat → Int32 → Option (Int32)
  | 0, _ => none
  | n + 1, x3 => if (s4 1 0) ≤ x3 then some 0 else
 cj_gd x3 6 (
 if (s4 2 x3.toNatClampNeg) = y1 then cj_gd x3 6 (
 if (s4 3 x3.toNatClampNeg) = y2 then some 1 else
 f_X3_isTaken_L2 y1 y2 s4 n (x3 + 1)) else
 f_X3_isTaken_L2 y1 y2 s4 n (x3 + 1))
def f_X3_isTaken (s0 : cj_S) (a1 : Int32) (a2 : Int32) : Option (Int32) :=
  f_X3_isTaken_L2 a1 a2 s0 cj_FU 0
def f_X0_addPerson (s0 : cj_S) (a1 : Int32) (a2 : Int32) : Option (Int32 × cj_S) :=
  cj_bd (f_X8_isWithin a1 0 3) (fun (x2 : Int32) =>
 if x2 = 0 then some ((-1000001), s0) else
 cj_bd (f_X8_isWithin a2 0 5) (fun (x4 : Int32) =>
 if x4 = 0 then some ((-1000001), s0) else
 cj_bd (f_X3_isTaken s0 a1 a2) (fun (x6 : Int32) =>
 if x6 = 0 then if (s0 1 0) < 6 then cj_gd (s0 1 0) 6 (
 cj_lt (cj_up2 s0 2 ((s0 1 0).toNatClampNeg) a1) (fun (s7 : cj_S) =>
 cj_gd (s7 1 0) 6 (
 cj_lt (cj_up2 s7 3 ((s7 1 0).toNatClampNeg) a2) (fun (s8 : cj_S) =>
 cj_lt (cj_up2 s8 1 0 ((s8 1 0) + 1)) (fun (s9 : cj_S) =>
 some ((s9 1 0) - 1, s9)))))) else
 some ((-1000003), s0) else
 some ((-1000002), s0))))
def f_X3_has (s0 : cj_S) (a1 : Int32) : Option (Int32) :=
  if a1 < 0 then some 0 else
 if (s0 1 0) ≤ a1 then some 0 else
 some 1
def f_X3_angleAfter (s0 : cj_S) (a1 : Int32) (a2 : Int32) : Option (Int32) :=
  cj_gd a1 6 (
 cj_gd a1 6 (
 cj_lt ((s0 4 a1.toNatClampNeg) + ((s0 5 a1.toNatClampNeg) * a2)) (fun (x1 : Int32) =>
 some (x1 - x1 / 12 * 12))))
def f_X3_seenAside_L2 (y1 : Int32) (s3 : cj_S) : Nat → Int32 → Option (Int32)
  | 0, _ => none
  | n + 1, x2 => if (s3 1 0) ≤ x2 then some 2 else
 cj_gd x2 6 (
 cj_gd y1 6 (
 if (s3 3 x2.toNatClampNeg) = (s3 3 y1.toNatClampNeg) then cj_gd x2 6 (
 cj_gd y1 6 (
 if (s3 2 y1.toNatClampNeg) ≤ (s3 2 x2.toNatClampNeg) then f_X3_seenAside_L2 y1 s3 n (x2 + 1) else
 some 0)) else
 f_X3_seenAside_L2 y1 s3 n (x2 + 1)))
def f_X3_seenAside (s0 : cj_S) (a1 : Int32) : Option (Int32) :=
  f_X3_seenAside_L2 a1 s0 cj_FU 0
def f_X3_features_L5 (y1 : Int32) (y2 : Int32) : Nat → Int32 → Int32 → Option (Int32)
  | 0, _, _ => none
  | n + 1, x3, x4 => if y2 < x4 then some x3 else
 cj_lt ((y1 + x4) + 12) (fun (x5 : Int32) =>
 cj_lt (x3 ||| (1 <<< ((x5 - x5 / 12 * 12) &&& 31))) (fun (x6 : Int32) =>
 f_X3_features_L5 y1 y2 n x6 (x4 + 1)))
def f_X3_features (a0 : Int32) (a1 : Int32) : Option (Int32) :=
  f_X3_features_L5 a0 a1 cj_FU 0 (-a1)
def f_X3_seenAfter (s0 : cj_S) (a1 : Int32) (a2 : Int32) : Option (Int32) :=
  cj_bd (f_X3_angleAfter s0 a1 a2) (fun (x2 : Int32) =>
 cj_bd (f_X3_seenAside s0 a1) (fun (x4 : Int32) =>
 cj_bd (f_X3_features x2 x4) (fun (x6 : Int32) =>
 some x6)))
def f_X0_turnPerson (s0 : cj_S) (a1 : Int32) (a2 : Int32) (a3 : Int32) : Option (Int32 × cj_S) :=
  cj_bd (f_X3_has s0 a1) (fun (x2 : Int32) =>
 if x2 = 0 then some ((-1000001), s0) else
 cj_bd (f_X8_isWithin a2 0 11) (fun (x4 : Int32) =>
 if x4 = 0 then some ((-1000001), s0) else
 cj_bd (f_X8_isWithin a3 0 11) (fun (x6 : Int32) =>
 if x6 = 0 then some ((-1000001), s0) else
 cj_gd a1 6 (
 cj_lt (cj_up2 s0 4 a1.toNatClampNeg a2) (fun (s7 : cj_S) =>
 cj_gd a1 6 (
 cj_lt (cj_up2 s7 5 a1.toNatClampNeg a3) (fun (s8 : cj_S) =>
 cj_bd (f_X3_seenAfter s8 a1 0) (fun (x10 : Int32) =>
 some (x10, s8)))))))))
def f_X0_addPaper (s0 : cj_S) (a1 : Int32) (a2 : Int32) : Option (Int32 × cj_S) :=
  cj_bd (f_X8_isWithin a1 1 20) (fun (x2 : Int32) =>
 if x2 = 0 then some ((-1000001), s0) else
 cj_bd (f_X8_isWithin a2 1 299) (fun (x4 : Int32) =>
 if x4 = 0 then some ((-1000001), s0) else
 if (s0 14 0) < 4 then cj_gd (s0 14 0) 4 (
 cj_lt (cj_up2 s0 15 ((s0 14 0).toNatClampNeg) a1) (fun (s5 : cj_S) =>
 cj_gd (s5 14 0) 4 (
 cj_lt (cj_up2 s5 16 ((s5 14 0).toNatClampNeg) a2) (fun (s6 : cj_S) =>
 cj_lt (cj_up2 s6 14 0 ((s6 14 0) + 1)) (fun (s7 : cj_S) =>
 some ((s7 14 0) - 1, s7)))))) else
 some ((-1000003), s0)))
def f_X0_lookAt (s0 : cj_S) (a1 : Int32) : Option (Int32 × cj_S) :=
  cj_lt (fun (u : Unit) => cj_lt (cj_up2 s0 0 6 a1) (fun (s2 : cj_S) =>
 if a1 = ((-1)) then some (0, s2) else
 cj_bd (f_X3_seenAfter s2 a1 0) (fun (x4 : Int32) =>
 some (x4, s2)))) (fun K1 =>
 if a1 = ((-1)) then K1 () else
 cj_bd (f_X3_has s0 a1) (fun (x6 : Int32) =>
 if x6 = 0 then some ((-1000001), s0) else
 K1 ()))
def f_X6_add (s0 : cj_S) (a1 : Int32) : Option (Int32 × cj_S) :=
  cj_gd (s0 9 0) 10 (
 cj_lt (cj_up2 s0 10 ((s0 9 0).toNatClampNeg) (s0 9 1)) (fun (s1 : cj_S) =>
 cj_gd (s1 9 0) 10 (
 cj_lt (cj_up2 s1 11 ((s1 9 0).toNatClampNeg) a1) (fun (s2 : cj_S) =>
 cj_gd (s2 9 0) 10 (
 cj_lt (cj_up2 s2 12 ((s2 9 0).toNatClampNeg) 0) (fun (s3 : cj_S) =>
 cj_gd (s3 9 0) 10 (
 cj_lt (cj_up2 s3 13 ((s3 9 0).toNatClampNeg) 0) (fun (s4 : cj_S) =>
 cj_lt (cj_up2 s4 9 0 ((s4 9 0) + 1)) (fun (s5 : cj_S) =>
 cj_lt (cj_up2 s5 9 1 ((s5 9 1) + 1)) (fun (s6 : cj_S) =>
 some ((s6 9 1) - 1, s6)))))))))))
def f_X0_beginSheet (s0 : cj_S) (a1 : Int32) : Option (Int32 × cj_S) :=
  cj_bd (f_X3_has s0 a1) (fun (x2 : Int32) =>
 if x2 = 0 then some ((-1000001), s0) else
 if (s0 9 0) < 10 then cj_bp (f_X6_add s0 a1) (fun (x4 : Int32) (s5 : cj_S) =>
 some (x4, s5)) else
 some ((-1000003), s0))
def f_X6_placeOf_L2 (y1 : Int32) (s3 : cj_S) : Nat → Int32 → Option (Int32)
  | 0, _ => none
  | n + 1, x2 => if (s3 9 0) ≤ x2 then some ((-1)) else
 cj_gd x2 10 (
 if (s3 10 x2.toNatClampNeg) = y1 then some x2 else
 f_X6_placeOf_L2 y1 s3 n (x2 + 1))
def f_X6_placeOf (s0 : cj_S) (a1 : Int32) : Option (Int32) :=
  f_X6_placeOf_L2 a1 s0 cj_FU 0
def f_X3_rememberedSince_L5 (y1 : Int32) (y2 : Int32) (s5 : cj_S) : Nat → Int32 → Int32 → Option (Int32)
  | 0, _, _ => none
  | n + 1, x3, x4 => if 12 ≤ x4 then some x3 else
 cj_gd ((y1 * 12) + x4) 72 (
 cj_lt (s5 8 ((y1 * 12) + x4).toNatClampNeg) (fun (x6 : Int32) =>
 if x6 = ((-1)) then f_X3_rememberedSince_L5 y1 y2 s5 n x3 (x4 + 1) else
 if x6 < y2 then f_X3_rememberedSince_L5 y1 y2 s5 n x3 (x4 + 1) else
 cj_lt (x3 ||| (1 <<< (x4 &&& 31))) (fun (x7 : Int32) =>
 f_X3_rememberedSince_L5 y1 y2 s5 n x7 (x4 + 1))))
def f_X3_rememberedSince (s0 : cj_S) (a1 : Int32) (a2 : Int32) : Option (Int32) :=
  f_X3_rememberedSince_L5 a1 a2 s0 cj_FU 0 0
def f_X0_remembered (s0 : cj_S) (a1 : Int32) : Option (Int32) :=
  cj_bd (f_X3_rememberedSince s0 a1 ((s0 0 5) - (s0 0 3))) (fun (x2 : Int32) =>
 some x2)
def f_X0_drawable (s0 : cj_S) (a1 : Int32) : Option (Int32) :=
  cj_gd a1 10 (
 cj_bd (f_X0_remembered s0 (s0 11 a1.toNatClampNeg)) (fun (x2 : Int32) =>
 cj_gd a1 10 (
 some (x2 &&& ((s0 12 a1.toNatClampNeg) ^^^ ((-1)))))))
def f_X8_hasBit (a0 : Int32) (a1 : Int32) : Option (Int32) :=
  if ((a0 >>> (a1 &&& 31)) &&& 1) = 0 then some 0 else
 some 1
def f_J9_max_7cf53 (a0 : Int32) (a1 : Int32) : Option (Int32) :=
  if a0 < a1 then some a1 else
 some a0
def f_J6_bitCount_0f7a4 (a0 : Int32) : Option (Int32) :=
  cj_lt (a0 - ((cj_us a0 1) &&& 1431655765)) (fun (x1 : Int32) =>
 cj_lt ((x1 &&& 858993459) + ((cj_us x1 2) &&& 858993459)) (fun (x2 : Int32) =>
 cj_lt ((x2 + (cj_us x2 4)) &&& 252645135) (fun (x3 : Int32) =>
 cj_lt ((x3 + (cj_us x3 8)) + (cj_us (x3 + (cj_us x3 8)) 16)) (fun (x4 : Int32) =>
 some (x4 &&& 63)))))
def f_X0_drawFeature (s0 : cj_S) (a1 : Int32) (a2 : Int32) : Option (Int32 × cj_S) :=
  cj_bd (f_X6_placeOf s0 a1) (fun (x2 : Int32) =>
 if x2 = ((-1)) then some ((-1000001), s0) else
 cj_bd (f_X8_isWithin a2 0 11) (fun (x4 : Int32) =>
 if x4 = 0 then some ((-1000001), s0) else
 cj_bd (f_X0_drawable s0 x2) (fun (x6 : Int32) =>
 cj_bd (f_X8_hasBit x6 a2) (fun (x8 : Int32) =>
 if x8 = 0 then some ((-1000002), s0) else
 if (s0 0 7) < 3 then cj_lt (cj_up2 s0 0 7 ((s0 0 7) + 1)) (fun (s9 : cj_S) =>
 cj_gd x2 10 (
 cj_gd x2 10 (
 cj_lt (cj_up2 s9 12 x2.toNatClampNeg ((s9 12 x2.toNatClampNeg) ||| (1 <<< (a2 &&& 31)))) (fun (s10 : cj_S) =>
 cj_gd x2 10 (
 cj_bd (f_J9_max_7cf53 (s10 13 x2.toNatClampNeg) ((s10 0 5) + (s10 0 4))) (fun (x12 : Int32) =>
 cj_gd x2 10 (
 cj_lt (cj_up2 s10 13 x2.toNatClampNeg x12) (fun (s13 : cj_S) =>
 cj_gd x2 10 (
 cj_bd (f_J6_bitCount_0f7a4 (s13 12 x2.toNatClampNeg)) (fun (x15 : Int32) =>
 some (x15, s13))))))))))) else
 some ((-1000003), s0)))))
def f_X6_removeAt_L2 (K : cj_S → Option (cj_S)) : Nat → Int32 → cj_S → Option (cj_S)
  | 0, _, _ => none
  | n + 1, x1, s2 => if (s2 9 0) ≤ (x1 + 1) then K s2 else
 cj_gd (x1 + 1) 10 (
 cj_gd x1 10 (
 cj_lt (cj_up2 s2 10 x1.toNatClampNeg (s2 10 (x1 + 1).toNatClampNeg)) (fun (s4 : cj_S) =>
 cj_gd (x1 + 1) 10 (
 cj_gd x1 10 (
 cj_lt (cj_up2 s4 11 x1.toNatClampNeg (s4 11 (x1 + 1).toNatClampNeg)) (fun (s5 : cj_S) =>
 cj_gd (x1 + 1) 10 (
 cj_gd x1 10 (
 cj_lt (cj_up2 s5 12 x1.toNatClampNeg (s5 12 (x1 + 1).toNatClampNeg)) (fun (s6 : cj_S) =>
 cj_gd (x1 + 1) 10 (
 cj_gd x1 10 (
 cj_lt (cj_up2 s6 13 x1.toNatClampNeg (s6 13 (x1 + 1).toNatClampNeg)) (fun (s7 : cj_S) =>
 f_X6_removeAt_L2 K n (x1 + 1) s7))))))))))))
def f_X6_removeAt (s0 : cj_S) (a1 : Int32) : Option (cj_S) :=
  f_X6_removeAt_L2 (fun (s8 : cj_S) =>
 cj_lt (cj_up2 s8 9 0 ((s8 9 0) - 1)) (fun (s9 : cj_S) =>
 some s9)) cj_FU a1 s0
def f_X0_tearOut (s0 : cj_S) (a1 : Int32) : Option (Int32 × cj_S) :=
  cj_bd (f_X6_placeOf s0 a1) (fun (x2 : Int32) =>
 if x2 = ((-1)) then some ((-1000001), s0) else
 cj_bd (f_X6_removeAt s0 x2) (fun (s4 : cj_S) =>
 some (s4 9 0, s4)))
def f_X0_day (s0 : cj_S) : Option (Int32) :=
  some ((s0 0 5) / 300)
def f_X0_hasVerdict (s0 : cj_S) (a1 : Int32) : Option (Int32) :=
  cj_gd a1 6 (
 cj_bd (f_X0_day s0) (fun (x2 : Int32) =>
 if (s0 6 a1.toNatClampNeg) = x2 then some 1 else
 some 0))
def f_X6_ofPerson_L4 (y1 : Int32) (s4 : cj_S) : Nat → Int32 → Int32 → Option (Int32)
  | 0, _, _ => none
  | n + 1, x2, x3 => if (s4 9 0) ≤ x3 then some x2 else
 cj_gd x3 10 (
 if (s4 11 x3.toNatClampNeg) = y1 then f_X6_ofPerson_L4 y1 s4 n (x2 + 1) (x3 + 1) else
 f_X6_ofPerson_L4 y1 s4 n x2 (x3 + 1))
def f_X6_ofPerson (s0 : cj_S) (a1 : Int32) : Option (Int32) :=
  f_X6_ofPerson_L4 a1 s0 cj_FU 0 0
def f_X0_tellVerdict (s0 : cj_S) (a1 : Int32) : Option (Int32 × cj_S) :=
  cj_bd (f_X3_has s0 a1) (fun (x2 : Int32) =>
 if x2 = 0 then some ((-1000001), s0) else
 cj_bd (f_X0_hasVerdict s0 a1) (fun (x4 : Int32) =>
 if x4 = 0 then cj_bd (f_X0_day s0) (fun (x6 : Int32) =>
 cj_gd a1 6 (
 cj_lt (cj_up2 s0 6 a1.toNatClampNeg x6) (fun (s7 : cj_S) =>
 cj_bd (f_X6_ofPerson s7 a1) (fun (x9 : Int32) =>
 some (x9, s7))))) else
 some ((-1000002), s0)))
def f_X2_has (s0 : cj_S) (a1 : Int32) : Option (Int32) :=
  if a1 < 0 then some 0 else
 if (s0 14 0) ≤ a1 then some 0 else
 some 1
def f_X0_wetFor (s0 : cj_S) (a1 : Int32) : Option (Int32) :=
  cj_gd a1 10 (
 if (s0 13 a1.toNatClampNeg) ≤ (s0 0 5) then some 0 else
 cj_gd a1 10 (
 some ((s0 13 a1.toNatClampNeg) - (s0 0 5))))
def f_X0_isDry (s0 : cj_S) (a1 : Int32) : Option (Int32) :=
  cj_gd a1 10 (
 if (s0 12 a1.toNatClampNeg) = 0 then some 0 else
 cj_bd (f_X0_wetFor s0 a1) (fun (x2 : Int32) =>
 if x2 = 0 then some 1 else
 some 0))
def f_X2_peopleBoughtOn (s0 : cj_S) (a1 : Int32) (a2 : Int32) : Option (Int32) :=
  cj_gd a1 4 (
 if (s0 19 a1.toNatClampNeg) = a2 then cj_gd a1 4 (
 some (s0 20 a1.toNatClampNeg)) else
 some 0)
def f_X0_canSell (s0 : cj_S) (a1 : Int32) (a2 : Int32) : Option (Int32) :=
  cj_bd (f_X0_isDry s0 a1) (fun (x2 : Int32) =>
 if x2 = 0 then some 0 else
 cj_bd (f_X0_day s0) (fun (x4 : Int32) =>
 cj_bd (f_X2_peopleBoughtOn s0 a2 x4) (fun (x6 : Int32) =>
 cj_gd a1 10 (
 cj_bd (f_X8_hasBit x6 (s0 11 a1.toNatClampNeg)) (fun (x8 : Int32) =>
 if x8 = 0 then some 1 else
 some 0)))))
def f_X0_hour (s0 : cj_S) : Option (Int32) :=
  some ((s0 0 5) - (s0 0 5) / 300 * 300)
def f_X0_priceAt (s0 : cj_S) (a1 : Int32) (a2 : Int32) : Option (Int32) :=
  cj_gd a2 4 (
 cj_gd a1 10 (
 cj_bd (f_J6_bitCount_0f7a4 (s0 12 a1.toNatClampNeg)) (fun (x2 : Int32) =>
 cj_gd a1 10 (
 cj_bd (f_X0_hasVerdict s0 (s0 11 a1.toNatClampNeg)) (fun (x4 : Int32) =>
 cj_lt (fun (x6 : Int32) => cj_bd (f_X0_hour s0) (fun (x8 : Int32) =>
 cj_gd a2 4 (
 if x8 ≤ (s0 16 a2.toNatClampNeg) then some x6 else
 some (x6 / 2)))) (fun K5 =>
 if x4 = 0 then K5 ((s0 15 a2.toNatClampNeg) * x2) else
 cj_lt (((s0 15 a2.toNatClampNeg) * x2) * 2) (fun (x9 : Int32) =>
 K5 x9)))))))
def f_X2_buy (s0 : cj_S) (a1 : Int32) (a2 : Int32) (a3 : Int32) (a4 : Int32) : Option (cj_S) :=
  cj_bd (f_X2_peopleBoughtOn s0 a1 a4) (fun (x2 : Int32) =>
 cj_gd a1 4 (
 cj_lt (cj_up2 s0 20 a1.toNatClampNeg (x2 ||| (1 <<< (a2 &&& 31)))) (fun (s3 : cj_S) =>
 cj_gd a1 4 (
 cj_lt (cj_up2 s3 19 a1.toNatClampNeg a4) (fun (s4 : cj_S) =>
 cj_gd a1 4 (
 cj_gd a1 4 (
 cj_lt (cj_up2 s4 17 a1.toNatClampNeg ((s4 17 a1.toNatClampNeg) + 1)) (fun (s5 : cj_S) =>
 cj_gd a1 4 (
 cj_gd a1 4 (
 cj_lt (cj_up2 s5 18 a1.toNatClampNeg ((s5 18 a1.toNatClampNeg) + a3)) (fun (s6 : cj_S) =>
 some s6)))))))))))
def f_X0_sellSheet (s0 : cj_S) (a1 : Int32) (a2 : Int32) : Option (Int32 × cj_S) :=
  cj_bd (f_X6_placeOf s0 a1) (fun (x2 : Int32) =>
 if x2 = ((-1)) then some ((-1000001), s0) else
 cj_bd (f_X2_has s0 a2) (fun (x4 : Int32) =>
 if x4 = 0 then some ((-1000001), s0) else
 cj_bd (f_X0_canSell s0 x2 a2) (fun (x6 : Int32) =>
 if x6 = 0 then some ((-1000002), s0) else
 cj_gd x2 10 (
 cj_bd (f_X0_priceAt s0 x2 a2) (fun (x8 : Int32) =>
 cj_bd (f_X0_day s0) (fun (x10 : Int32) =>
 cj_bd (f_X2_buy s0 a2 (s0 11 x2.toNatClampNeg) x8 x10) (fun (s12 : cj_S) =>
 cj_gd (s0 11 x2.toNatClampNeg) 6 (
 cj_gd (s0 11 x2.toNatClampNeg) 6 (
 cj_lt (cj_up2 s12 7 ((s0 11 x2.toNatClampNeg).toNatClampNeg) ((s12 7 (s0 11 x2.toNatClampNeg).toNatClampNeg) + x8)) (fun (s13 : cj_S) =>
 cj_lt (cj_up2 s13 0 9 ((s13 0 9) + x8)) (fun (s14 : cj_S) =>
 cj_lt (cj_up2 s14 0 8 ((s14 0 8) + 1)) (fun (s15 : cj_S) =>
 cj_bd (f_X6_removeAt s15 x2) (fun (s17 : cj_S) =>
 some (x8, s17))))))))))))))
def f_X3_watch_L40 (K : cj_S → Option (cj_S)) (y15 : Int32) (y16 : Int32) (y17 : Int32) (y18 : Int32) (y19 : Int32) (y20 : Int32) : Nat → Int32 → cj_S → Option (cj_S)
  | 0, _, _ => none
  | n + 1, x21, s22 => if 12 ≤ x21 then K s22 else
 cj_bd (f_X8_hasBit y20 x21) (fun (x25 : Int32) =>
 if x25 = 0 then f_X3_watch_L40 K y15 y16 y17 y18 y19 y20 n (x21 + 1) s22 else
 cj_gd ((y15 * 12) + x21) 72 (
 cj_lt (cj_up2 s22 8 (((y15 * 12) + x21).toNatClampNeg) (y16 + y19)) (fun (s26 : cj_S) =>
 f_X3_watch_L40 K y15 y16 y17 y18 y19 y20 n (x21 + 1) s26)))
def f_X3_watch_L17 (y5 : Int32) (y6 : Int32) (y7 : Int32) (y8 : Int32) : Nat → Int32 → cj_S → Option (cj_S)
  | 0, _, _ => none
  | n + 1, x9, s10 => if y7 ≤ x9 then some s10 else
 cj_bd (f_X3_angleAfter s10 y5 x9) (fun (x12 : Int32) =>
 cj_bd (f_X3_features x12 y8) (fun (x14 : Int32) =>
 f_X3_watch_L40 (fun (s27 : cj_S) =>
 f_X3_watch_L17 y5 y6 y7 y8 n (x9 + 1) s27) y5 y6 y7 y8 x9 x14 cj_FU 0 s10))
def f_X3_watch (s0 : cj_S) (a1 : Int32) (a2 : Int32) (a3 : Int32) : Option (cj_S) :=
  cj_bd (f_X3_seenAside s0 a1) (fun (x2 : Int32) =>
 cj_bd (f_J9_max_7cf53 0 (a3 - 12)) (fun (x4 : Int32) =>
 f_X3_watch_L17 a1 a2 a3 x2 cj_FU x4 s0))
def f_X3_turnAll_L2 (y1 : Int32) : Nat → Int32 → cj_S → Option (cj_S)
  | 0, _, _ => none
  | n + 1, x2, s3 => if (s3 1 0) ≤ x2 then some s3 else
 cj_bd (f_X3_angleAfter s3 x2 y1) (fun (x5 : Int32) =>
 cj_gd x2 6 (
 cj_lt (cj_up2 s3 4 x2.toNatClampNeg x5) (fun (s6 : cj_S) =>
 f_X3_turnAll_L2 y1 n (x2 + 1) s6)))
def f_X3_turnAll (s0 : cj_S) (a1 : Int32) : Option (cj_S) :=
  f_X3_turnAll_L2 a1 cj_FU 0 s0
def f_X0_advance (s0 : cj_S) (a1 : Int32) : Option (cj_S) :=
  cj_lt (fun (s2 : cj_S) => cj_bd (f_X3_turnAll s2 a1) (fun (s4 : cj_S) =>
 cj_lt (cj_up2 s4 0 5 ((s4 0 5) + a1)) (fun (s5 : cj_S) =>
 cj_lt (cj_up2 s5 0 7 0) (fun (s6 : cj_S) =>
 some s6)))) (fun K1 =>
 if (s0 0 6) = ((-1)) then K1 s0 else
 cj_bd (f_X3_watch s0 (s0 0 6) (s0 0 5) a1) (fun (s8 : cj_S) =>
 K1 s8))
def f_X0_passMinutes_L38 (s7 : cj_S) : Nat → Int32 → Int32 → Option (Int32 × cj_S)
  | 0, _, _ => none
  | n + 1, x5, x6 => if (s7 1 0) ≤ x6 then some (x5, s7) else
 cj_bd (f_X0_remembered s7 x6) (fun (x9 : Int32) =>
 cj_bd (f_J6_bitCount_0f7a4 x9) (fun (x11 : Int32) =>
 f_X0_passMinutes_L38 s7 n (x5 + x11) (x6 + 1)))
def f_X0_passMinutes (s0 : cj_S) (a1 : Int32) : Option (Int32 × cj_S) :=
  cj_bd (f_X8_isWithin a1 1 300) (fun (x2 : Int32) =>
 if x2 = 0 then some ((-1000001), s0) else
 if ((s0 0 5) + a1) ≤ 9999 then cj_bd (f_X0_advance s0 a1) (fun (s4 : cj_S) =>
 f_X0_passMinutes_L38 s4 cj_FU 0 0) else
 some ((-1000003), s0))
def f_X0_changeSetting (s0 : cj_S) (a1 : Int32) (a2 : Int32) : Option (Int32 × cj_S) :=
  cj_lt (fun (u : Unit) => if a1 = 1 then cj_bd (f_X8_isWithin a2 0 60) (fun (x3 : Int32) =>
 if x3 = 0 then some ((-1000001), s0) else
 cj_lt (cj_up2 s0 0 4 a2) (fun (s4 : cj_S) =>
 some (s0 0 4, s4))) else
 some ((-1000001), s0)) (fun K1 =>
 if a1 = 0 then cj_bd (f_X8_isWithin a2 1 200) (fun (x6 : Int32) =>
 if x6 = 0 then K1 () else
 cj_lt (cj_up2 s0 0 3 a2) (fun (s7 : cj_S) =>
 some (s0 0 3, s7))) else
 K1 ())
def f_X0_perform (s0 : cj_S) (a1 : Int32) (a2 : Int32) (a3 : Int32) : Option (Int32 × cj_S) :=
  if a1 = 98 then cj_bp (f_X0_beginSheet s0 a2) (fun (x2 : Int32) (s3 : cj_S) =>
 some (x2, s3)) else
 if a1 = 100 then cj_bp (f_X0_drawFeature s0 a2 a3) (fun (x6 : Int32) (s7 : cj_S) =>
 some (x6, s7)) else
 if a1 = 108 then cj_bp (f_X0_lookAt s0 a2) (fun (x10 : Int32) (s11 : cj_S) =>
 some (x10, s11)) else
 if a1 = 109 then cj_bp (f_X0_passMinutes s0 a2) (fun (x14 : Int32) (s15 : cj_S) =>
 some (x14, s15)) else
 if a1 = 115 then cj_bp (f_X0_sellSheet s0 a2 a3) (fun (x18 : Int32) (s19 : cj_S) =>
 some (x18, s19)) else
 if a1 = 118 then cj_bp (f_X0_tellVerdict s0 a2) (fun (x22 : Int32) (s23 : cj_S) =>
 some (x22, s23)) else
 some ((-1000001), s0)
def f_X0_findBestSale_L20 (K : cj_Mm → Option (Int32 × cj_Mm)) (g : Nat) (y5 : Int32) : Nat → Int32 → cj_Mm → Option (Int32 × cj_Mm)
  | 0, _, _ => none
  | n + 1, x6, s7 => if (s7 g 14 0) ≤ x6 then K s7 else
 cj_bd (f_X0_priceAt (s7 g) y5 x6) (fun (x10 : Int32) =>
 if x10 ≤ (s7 4 0 2) then f_X0_findBestSale_L20 K g y5 n (x6 + 1) s7 else
 cj_bd (f_X0_canSell (s7 g) y5 x6) (fun (x12 : Int32) =>
 if x12 = 0 then f_X0_findBestSale_L20 K g y5 n (x6 + 1) s7 else
 cj_gd y5 10 (
 cj_lt (cj_upG s7 4 (cj_up2 (s7 4) 0 0 (s7 g 10 y5.toNatClampNeg))) (fun (s13 : cj_Mm) =>
 cj_lt (cj_upG s13 4 (cj_up2 (s13 4) 0 1 x6)) (fun (s14 : cj_Mm) =>
 cj_lt (cj_upG s14 4 (cj_up2 (s14 4) 0 2 x10)) (fun (s15 : cj_Mm) =>
 f_X0_findBestSale_L20 K g y5 n (x6 + 1) s15))))))
def f_X0_findBestSale_L7 (K : cj_Mm → Option (Int32 × cj_Mm)) (g : Nat) : Nat → Int32 → cj_Mm → Option (Int32 × cj_Mm)
  | 0, _, _ => none
  | n + 1, x2, s3 => if (s3 g 9 0) ≤ x2 then K s3 else
 f_X0_findBestSale_L20 (fun (s16 : cj_Mm) =>
 f_X0_findBestSale_L7 K g n (x2 + 1) s16) g x2 cj_FU 0 s3
def f_X0_findBestSale (g : Nat) (m0 : cj_Mm) : Option (Int32 × cj_Mm) :=
  cj_lt (cj_upG m0 4 (cj_up2 (m0 4) 0 2 ((-1)))) (fun (s1 : cj_Mm) =>
 f_X0_findBestSale_L7 (fun (s17 : cj_Mm) =>
 if (s17 4 0 2) = ((-1)) then some (0, s17) else
 some (1, s17)) g cj_FU 0 s1)
def f_X0_tellOfPerson (s0 : cj_S) (a1 : Int32) (a2 : Int32) : Option (Int32) :=
  cj_bd (f_X3_has s0 a1) (fun (x2 : Int32) =>
 if x2 = 0 then some ((-1000001)) else
 if a2 = 0 then cj_gd a1 6 (
 some (s0 2 a1.toNatClampNeg)) else
 if a2 = 1 then cj_gd a1 6 (
 some (s0 3 a1.toNatClampNeg)) else
 if a2 = 2 then cj_gd a1 6 (
 some (s0 4 a1.toNatClampNeg)) else
 if a2 = 3 then cj_gd a1 6 (
 some (s0 5 a1.toNatClampNeg)) else
 if a2 = 4 then cj_bd (f_X3_seenAfter s0 a1 0) (fun (x8 : Int32) =>
 some x8) else
 if a2 = 5 then cj_bd (f_X0_remembered s0 a1) (fun (x11 : Int32) =>
 some x11) else
 if a2 = 6 then cj_bd (f_X0_hasVerdict s0 a1) (fun (x14 : Int32) =>
 if x14 = 0 then some 0 else
 some 1) else
 if a2 = 7 then cj_bd (f_X6_ofPerson s0 a1) (fun (x17 : Int32) =>
 some x17) else
 if a2 = 8 then cj_gd a1 6 (
 some (s0 7 a1.toNatClampNeg)) else
 some ((-1000001)))
def f_X0_tellOfSheet (s0 : cj_S) (a1 : Int32) (a2 : Int32) : Option (Int32) :=
  cj_bd (f_X6_placeOf s0 a1) (fun (x2 : Int32) =>
 if x2 = ((-1)) then some ((-1000001)) else
 if a2 = 0 then cj_gd x2 10 (
 some (s0 11 x2.toNatClampNeg)) else
 if a2 = 1 then cj_gd x2 10 (
 some (s0 12 x2.toNatClampNeg)) else
 if a2 = 2 then cj_gd x2 10 (
 cj_bd (f_J6_bitCount_0f7a4 (s0 12 x2.toNatClampNeg)) (fun (x6 : Int32) =>
 some x6)) else
 if a2 = 3 then cj_bd (f_X0_isDry s0 x2) (fun (x9 : Int32) =>
 if x9 = 0 then some 0 else
 some 1) else
 if a2 = 4 then cj_bd (f_X0_wetFor s0 x2) (fun (x12 : Int32) =>
 some x12) else
 if a2 = 5 then cj_bd (f_X0_drawable s0 x2) (fun (x15 : Int32) =>
 some x15) else
 some ((-1000001)))
def f_X0_tellOfPaper (s0 : cj_S) (a1 : Int32) (a2 : Int32) : Option (Int32) :=
  cj_bd (f_X2_has s0 a1) (fun (x2 : Int32) =>
 if x2 = 0 then some ((-1000001)) else
 if a2 = 0 then cj_gd a1 4 (
 some (s0 15 a1.toNatClampNeg)) else
 if a2 = 1 then cj_gd a1 4 (
 some (s0 16 a1.toNatClampNeg)) else
 if a2 = 2 then cj_gd a1 4 (
 some (s0 17 a1.toNatClampNeg)) else
 if a2 = 3 then cj_gd a1 4 (
 some (s0 18 a1.toNatClampNeg)) else
 if a2 = 4 then cj_bd (f_X0_day s0) (fun (x8 : Int32) =>
 cj_bd (f_X2_peopleBoughtOn s0 a1 x8) (fun (x10 : Int32) =>
 some x10)) else
 some ((-1000001)))
def f_X0_tellCount (s0 : cj_S) (a1 : Int32) : Option (Int32) :=
  if a1 = 0 then some (s0 1 0) else
 if a1 = 1 then some (s0 14 0) else
 if a1 = 2 then some (s0 9 0) else
 if a1 = 3 then some (s0 9 1) else
 if a1 = 4 then some (s0 0 5) else
 if a1 = 5 then cj_bd (f_X0_day s0) (fun (x7 : Int32) =>
 some x7) else
 if a1 = 6 then cj_bd (f_X0_hour s0) (fun (x10 : Int32) =>
 some x10) else
 if a1 = 7 then if (s0 0 6) = ((-1)) then some ((-1000004)) else
 some (s0 0 6) else
 if a1 = 8 then some (3 - (s0 0 7)) else
 if a1 = 9 then some (s0 0 8) else
 if a1 = 10 then some (s0 0 9) else
 if a1 = 20 then some (s0 0 3) else
 if a1 = 21 then some (s0 0 4) else
 some ((-1000001))
def f_X1_prepare (m0 : cj_Mm) : Option (cj_Mm) :=
  cj_lt ((m0 1 0 1) + (m0 1 0 2)) (fun (x1 : Int32) =>
 cj_lt (x1 - x1 / 5 * 5) (fun (x2 : Int32) =>
 cj_gd x2 5 (
 cj_bd (f_X0_copyFrom (7 + x2.toNatClampNeg) 5 m0) (fun (s4 : cj_Mm) =>
 some s4))))
def f_X1_settle (s0 : cj_S) (a1 : Int32) : Option (Int32 × cj_S) :=
  cj_lt (fun (u : Unit) => if a1 < 0 then some (a1, s0) else
 cj_lt ((s0 0 1) + 1) (fun (x2 : Int32) =>
 cj_lt (cj_up2 s0 0 1 (x2 - x2 / 5 * 5)) (fun (s3 : cj_S) =>
 some (a1, s3)))) (fun K1 =>
 if a1 < 0 then K1 () else
 if 4 ≤ (s0 0 2) then K1 () else
 cj_lt (cj_up2 s0 0 2 ((s0 0 2) + 1)) (fun (s4 : cj_S) =>
 some (a1, s4)))
def f_X1_restore (m0 : cj_Mm) : Option (Int32 × cj_Mm) :=
  if 0 < (m0 1 0 2) then cj_lt (cj_upG m0 1 (cj_up2 (m0 1) 0 2 ((m0 1 0 2) - 1))) (fun (s1 : cj_Mm) =>
 cj_lt ((s1 1 0 1) + (s1 1 0 2)) (fun (x2 : Int32) =>
 cj_lt (x2 - x2 / 5 * 5) (fun (x3 : Int32) =>
 cj_gd x3 5 (
 cj_bd (f_X0_copyFrom 5 (7 + x3.toNatClampNeg) s1) (fun (s5 : cj_Mm) =>
 some (s5 1 0 2, s5)))))) else
 some ((-1000002), m0)
def f_X7_next (s0 : cj_S) : Option (Int32) :=
  if (s0 0 2) < 0 then some 32 else
 if (s0 0 1) ≤ (s0 0 2) then some 32 else
 cj_gd (s0 0 2) 60 (
 cj_gp (0 ≤ (s0 1 (s0 0 2).toNatClampNeg) ∧ (s0 1 (s0 0 2).toNatClampNeg) ≤ 65535) (
 some (s0 1 (s0 0 2).toNatClampNeg)))
def f_X7_isOneNumber (a0 : Int32) : Option (Int32) :=
  if a0 = 108 then some 1 else
 if a0 = 98 then some 1 else
 if a0 = 118 then some 1 else
 if a0 = 109 then some 1 else
 some 0
def f_X7_isTwoNumbers (a0 : Int32) : Option (Int32) :=
  if a0 = 100 then some 1 else
 if a0 = 115 then some 1 else
 some 0
def f_X7_readNumber_L4 : Nat → Int32 → Int32 → cj_S → Option (Int32 × cj_S)
  | 0, _, _, _ => none
  | n + 1, x1, x2, s3 => if 3 ≤ x2 then some (x1, s3) else
 cj_bd (f_X7_next s3) (fun (x5 : Int32) =>
 cj_bd (f_X8_isWithin x5 48 57) (fun (x7 : Int32) =>
 if x7 = 0 then some (x1, s3) else
 cj_bd (f_J9_max_7cf53 x1 0) (fun (x9 : Int32) =>
 cj_bd (f_X7_next s3) (fun (x11 : Int32) =>
 cj_lt ((x9 * 10) + (x11 - 48)) (fun (x12 : Int32) =>
 cj_lt (cj_up2 s3 0 2 ((s3 0 2) + 1)) (fun (s13 : cj_S) =>
 f_X7_readNumber_L4 n x12 (x2 + 1) s13))))))
def f_X7_readNumber (s0 : cj_S) : Option (Int32 × cj_S) :=
  f_X7_readNumber_L4 cj_FU ((-1)) 0 s0
def f_X7_readOrder (s0 : cj_S) (a1 : Int32) : Option (Int32 × cj_S) :=
  cj_lt (cj_up2 s0 0 2 a1) (fun (s1 : cj_S) =>
 cj_bd (f_X7_next s1) (fun (x3 : Int32) =>
 cj_gp (0 ≤ x3 ∧ x3 ≤ 65535) (
 cj_lt (cj_up2 s1 0 3 x3) (fun (s4 : cj_S) =>
 cj_bd (f_X7_isOneNumber (s4 0 3)) (fun (x6 : Int32) =>
 cj_lt (fun (u : Unit) => cj_lt (cj_up2 s4 0 2 ((s4 0 2) + 1)) (fun (s8 : cj_S) =>
 cj_bp (f_X7_readNumber s8) (fun (x10 : Int32) (s11 : cj_S) =>
 cj_lt (cj_up2 s11 0 4 x10) (fun (s12 : cj_S) =>
 cj_lt (cj_up2 s12 0 5 ((-1))) (fun (s13 : cj_S) =>
 if (s13 0 4) = ((-1)) then some (0, s13) else
 cj_bd (f_X7_isTwoNumbers (s13 0 3)) (fun (x15 : Int32) =>
 cj_lt (fun (s17 : cj_S) => cj_bd (f_X7_next s17) (fun (x19 : Int32) =>
 if x19 = 59 then cj_lt (cj_up2 s17 0 2 ((s17 0 2) + 1)) (fun (s20 : cj_S) =>
 some (1, s20)) else
 some (0, s17))) (fun K16 =>
 if x15 = 0 then K16 s13 else
 cj_bd (f_X7_next s13) (fun (x22 : Int32) =>
 if x22 = 44 then cj_lt (cj_up2 s13 0 2 ((s13 0 2) + 1)) (fun (s23 : cj_S) =>
 cj_bp (f_X7_readNumber s23) (fun (x25 : Int32) (s26 : cj_S) =>
 cj_lt (cj_up2 s26 0 5 x25) (fun (s27 : cj_S) =>
 if (s27 0 5) = ((-1)) then some (0, s27) else
 K16 s27))) else
 some (0, s13))))))))) (fun K7 =>
 if x6 = 0 then cj_bd (f_X7_isTwoNumbers (s4 0 3)) (fun (x29 : Int32) =>
 if x29 = 0 then some (0, s4) else
 K7 ()) else
 K7 ()))))))
def f_X4_fail (s0 : cj_S) (a1 : Int32) (a2 : Int32) (a3 : Int32) : Option (cj_S) :=
  cj_lt (cj_up2 s0 0 1 a1) (fun (s1 : cj_S) =>
 cj_lt (cj_up2 s1 0 2 a2) (fun (s2 : cj_S) =>
 cj_lt (cj_up2 s2 0 3 a3) (fun (s3 : cj_S) =>
 some s3)))
def f_X4_run_L12 (K : Int32 → Int32 → cj_Mm → Option (cj_Mm)) : Nat → Int32 → cj_Mm → Option (cj_Mm)
  | 0, _, _ => none
  | n + 1, x3, s4 => if 60 ≤ (s4 3 0 0) then some s4 else
 if (s4 2 0 1) ≤ x3 then some s4 else
 cj_bp (f_X7_readOrder (s4 2) x3) (fun (x9 : Int32) (s10 : cj_S) =>
 cj_lt (cj_upG s4 2 s10) (fun (s11 : cj_Mm) =>
 if x9 = 0 then cj_bd (f_X4_fail (s11 3) x3 1 ((s11 2 0 2) - x3)) (fun (s18 : cj_S) =>
 cj_lt (cj_upG s11 3 s18) (fun (s19 : cj_Mm) =>
 some s19)) else
 cj_bp (f_X0_perform (s11 6) (s11 2 0 3) (s11 2 0 4) (s11 2 0 5)) (fun (x13 : Int32) (s14 : cj_S) =>
 cj_lt (cj_upG s11 6 s14) (fun (s15 : cj_Mm) =>
 if 0 ≤ x13 then cj_lt (cj_upG s15 3 (cj_up2 (s15 3) 0 0 ((s15 3 0 0) + 1))) (fun (s16 : cj_Mm) =>
 f_X4_run_L12 K n (s15 2 0 2) s16) else
 K x3 x13 s15))))
def f_X4_run (m0 : cj_Mm) : Option (cj_Mm) :=
  cj_lt (cj_upG m0 3 (cj_up2 (m0 3) 0 0 0)) (fun (s1 : cj_Mm) =>
 cj_lt (cj_upG s1 3 (cj_up2 (s1 3) 0 1 ((-1)))) (fun (s2 : cj_Mm) =>
 f_X4_run_L12 (fun (x20 : Int32) (x21 : Int32) (s22 : cj_Mm) =>
 cj_bd (f_X4_fail (s22 3) x20 2 x21) (fun (s24 : cj_S) =>
 cj_lt (cj_upG s22 3 s24) (fun (s25 : cj_Mm) =>
 some s25))) cj_FU 0 s2))
def f_X7_append (s0 : cj_S) (a1 : Int32) : Option (Int32 × cj_S) :=
  cj_bd (f_X8_isWithin a1 32 126) (fun (x2 : Int32) =>
 if x2 = 0 then some ((-1000001), s0) else
 if (s0 0 1) < 60 then cj_gd (s0 0 1) 60 (
 cj_lt (cj_up2 s0 1 ((s0 0 1).toNatClampNeg) (vp_nar .char (cj_ch a1))) (fun (s3 : cj_S) =>
 cj_lt (cj_up2 s3 0 1 ((s3 0 1) + 1)) (fun (s4 : cj_S) =>
 some (s4 0 1, s4)))) else
 some ((-1000003), s0))
def f_X8_person (m0 : cj_Mm) (a1 : Int32) (a2 : Int32) : Option (Int32 × cj_Mm) :=
  cj_bd (f_X1_prepare m0) (fun (s2 : cj_Mm) =>
 cj_bp (f_X0_addPerson (s2 5) a1 a2) (fun (x4 : Int32) (s5 : cj_S) =>
 cj_lt (cj_upG s2 5 s5) (fun (s6 : cj_Mm) =>
 cj_bp (f_X1_settle (s6 1) x4) (fun (x8 : Int32) (s9 : cj_S) =>
 cj_lt (cj_upG s6 1 s9) (fun (s10 : cj_Mm) =>
 some (x8, s10))))))
def f_X8_turn (m0 : cj_Mm) (a1 : Int32) (a2 : Int32) (a3 : Int32) : Option (Int32 × cj_Mm) :=
  cj_bd (f_X1_prepare m0) (fun (s2 : cj_Mm) =>
 cj_bp (f_X0_turnPerson (s2 5) a1 a2 a3) (fun (x4 : Int32) (s5 : cj_S) =>
 cj_lt (cj_upG s2 5 s5) (fun (s6 : cj_Mm) =>
 cj_bp (f_X1_settle (s6 1) x4) (fun (x8 : Int32) (s9 : cj_S) =>
 cj_lt (cj_upG s6 1 s9) (fun (s10 : cj_Mm) =>
 some (x8, s10))))))
def f_X8_paper (m0 : cj_Mm) (a1 : Int32) (a2 : Int32) : Option (Int32 × cj_Mm) :=
  cj_bd (f_X1_prepare m0) (fun (s2 : cj_Mm) =>
 cj_bp (f_X0_addPaper (s2 5) a1 a2) (fun (x4 : Int32) (s5 : cj_S) =>
 cj_lt (cj_upG s2 5 s5) (fun (s6 : cj_Mm) =>
 cj_bp (f_X1_settle (s6 1) x4) (fun (x8 : Int32) (s9 : cj_S) =>
 cj_lt (cj_upG s6 1 s9) (fun (s10 : cj_Mm) =>
 some (x8, s10))))))
def f_X8_look (m0 : cj_Mm) (a1 : Int32) : Option (Int32 × cj_Mm) :=
  cj_bd (f_X1_prepare m0) (fun (s2 : cj_Mm) =>
 cj_bp (f_X0_lookAt (s2 5) a1) (fun (x4 : Int32) (s5 : cj_S) =>
 cj_lt (cj_upG s2 5 s5) (fun (s6 : cj_Mm) =>
 cj_bp (f_X1_settle (s6 1) x4) (fun (x8 : Int32) (s9 : cj_S) =>
 cj_lt (cj_upG s6 1 s9) (fun (s10 : cj_Mm) =>
 some (x8, s10))))))
def f_X8_sheet (m0 : cj_Mm) (a1 : Int32) : Option (Int32 × cj_Mm) :=
  cj_bd (f_X1_prepare m0) (fun (s2 : cj_Mm) =>
 cj_bp (f_X0_beginSheet (s2 5) a1) (fun (x4 : Int32) (s5 : cj_S) =>
 cj_lt (cj_upG s2 5 s5) (fun (s6 : cj_Mm) =>
 cj_bp (f_X1_settle (s6 1) x4) (fun (x8 : Int32) (s9 : cj_S) =>
 cj_lt (cj_upG s6 1 s9) (fun (s10 : cj_Mm) =>
 some (x8, s10))))))
def f_X8_draw (m0 : cj_Mm) (a1 : Int32) (a2 : Int32) : Option (Int32 × cj_Mm) :=
  cj_bd (f_X1_prepare m0) (fun (s2 : cj_Mm) =>
 cj_bp (f_X0_drawFeature (s2 5) a1 a2) (fun (x4 : Int32) (s5 : cj_S) =>
 cj_lt (cj_upG s2 5 s5) (fun (s6 : cj_Mm) =>
 cj_bp (f_X1_settle (s6 1) x4) (fun (x8 : Int32) (s9 : cj_S) =>
 cj_lt (cj_upG s6 1 s9) (fun (s10 : cj_Mm) =>
 some (x8, s10))))))
def f_X8_tear (m0 : cj_Mm) (a1 : Int32) : Option (Int32 × cj_Mm) :=
  cj_bd (f_X1_prepare m0) (fun (s2 : cj_Mm) =>
 cj_bp (f_X0_tearOut (s2 5) a1) (fun (x4 : Int32) (s5 : cj_S) =>
 cj_lt (cj_upG s2 5 s5) (fun (s6 : cj_Mm) =>
 cj_bp (f_X1_settle (s6 1) x4) (fun (x8 : Int32) (s9 : cj_S) =>
 cj_lt (cj_upG s6 1 s9) (fun (s10 : cj_Mm) =>
 some (x8, s10))))))
def f_X8_verdict (m0 : cj_Mm) (a1 : Int32) : Option (Int32 × cj_Mm) :=
  cj_bd (f_X1_prepare m0) (fun (s2 : cj_Mm) =>
 cj_bp (f_X0_tellVerdict (s2 5) a1) (fun (x4 : Int32) (s5 : cj_S) =>
 cj_lt (cj_upG s2 5 s5) (fun (s6 : cj_Mm) =>
 cj_bp (f_X1_settle (s6 1) x4) (fun (x8 : Int32) (s9 : cj_S) =>
 cj_lt (cj_upG s6 1 s9) (fun (s10 : cj_Mm) =>
 some (x8, s10))))))
def f_X8_sell (m0 : cj_Mm) (a1 : Int32) (a2 : Int32) : Option (Int32 × cj_Mm) :=
  cj_bd (f_X1_prepare m0) (fun (s2 : cj_Mm) =>
 cj_bp (f_X0_sellSheet (s2 5) a1 a2) (fun (x4 : Int32) (s5 : cj_S) =>
 cj_lt (cj_upG s2 5 s5) (fun (s6 : cj_Mm) =>
 cj_bp (f_X1_settle (s6 1) x4) (fun (x8 : Int32) (s9 : cj_S) =>
 cj_lt (cj_upG s6 1 s9) (fun (s10 : cj_Mm) =>
 some (x8, s10))))))
def f_X8_pass (m0 : cj_Mm) (a1 : Int32) : Option (Int32 × cj_Mm) :=
  cj_bd (f_X1_prepare m0) (fun (s2 : cj_Mm) =>
 cj_bp (f_X0_passMinutes (s2 5) a1) (fun (x4 : Int32) (s5 : cj_S) =>
 cj_lt (cj_upG s2 5 s5) (fun (s6 : cj_Mm) =>
 cj_bp (f_X1_settle (s6 1) x4) (fun (x8 : Int32) (s9 : cj_S) =>
 cj_lt (cj_upG s6 1 s9) (fun (s10 : cj_Mm) =>
 some (x8, s10))))))
def f_X8_set (m0 : cj_Mm) (a1 : Int32) (a2 : Int32) : Option (Int32 × cj_Mm) :=
  cj_bd (f_X1_prepare m0) (fun (s2 : cj_Mm) =>
 cj_bp (f_X0_changeSetting (s2 5) a1 a2) (fun (x4 : Int32) (s5 : cj_S) =>
 cj_lt (cj_upG s2 5 s5) (fun (s6 : cj_Mm) =>
 cj_bp (f_X1_settle (s6 1) x4) (fun (x8 : Int32) (s9 : cj_S) =>
 cj_lt (cj_upG s6 1 s9) (fun (s10 : cj_Mm) =>
 some (x8, s10))))))
def f_X8_personOf (m0 : cj_Mm) (a1 : Int32) (a2 : Int32) : Option (Int32) :=
  cj_bd (f_X0_tellOfPerson (m0 5) a1 a2) (fun (x2 : Int32) =>
 some x2)
def f_X8_sheetOf (m0 : cj_Mm) (a1 : Int32) (a2 : Int32) : Option (Int32) :=
  cj_bd (f_X0_tellOfSheet (m0 5) a1 a2) (fun (x2 : Int32) =>
 some x2)
def f_X8_paperOf (m0 : cj_Mm) (a1 : Int32) (a2 : Int32) : Option (Int32) :=
  cj_bd (f_X0_tellOfPaper (m0 5) a1 a2) (fun (x2 : Int32) =>
 some x2)
def f_X8_price (m0 : cj_Mm) (a1 : Int32) (a2 : Int32) : Option (Int32) :=
  cj_bd (f_X6_placeOf (m0 5) a1) (fun (x2 : Int32) =>
 if x2 = ((-1)) then some ((-1000001)) else
 cj_bd (f_X2_has (m0 5) a2) (fun (x4 : Int32) =>
 if x4 = 0 then some ((-1000001)) else
 cj_bd (f_X0_priceAt (m0 5) x2 a2) (fun (x6 : Int32) =>
 some x6)))
def f_X8_number (m0 : cj_Mm) (a1 : Int32) : Option (Int32) :=
  if 0 ≤ a1 then if (m0 5 9 0) ≤ a1 then some ((-1000004)) else
 cj_gd a1 10 (
 some (m0 5 10 a1.toNatClampNeg)) else
 some ((-1000001))
def f_X8_seenIn_L29 (y5 : Int32) (y6 : Int32) (s8 : cj_Mm) : Nat → Int32 → Option (Int32)
  | 0, _ => none
  | n + 1, x7 => if 12 ≤ x7 then some ((-1000004)) else
 cj_bd (f_X3_seenAfter (s8 5) y5 x7) (fun (x10 : Int32) =>
 cj_bd (f_X8_hasBit x10 y6) (fun (x12 : Int32) =>
 if x12 = 0 then f_X8_seenIn_L29 y5 y6 s8 n (x7 + 1) else
 some x7))
def f_X8_seenIn (m0 : cj_Mm) (a1 : Int32) (a2 : Int32) : Option (Int32) :=
  cj_bd (f_X3_has (m0 5) a1) (fun (x2 : Int32) =>
 if x2 = 0 then some ((-1000001)) else
 cj_bd (f_X8_isWithin a2 0 11) (fun (x4 : Int32) =>
 if x4 = 0 then some ((-1000001)) else
 f_X8_seenIn_L29 a1 a2 m0 cj_FU 0))
def f_X8_would (m0 : cj_Mm) (a1 : Int32) (a2 : Int32) : Option (Int32 × cj_Mm) :=
  cj_bd (f_X3_has (m0 5) a1) (fun (x2 : Int32) =>
 if x2 = 0 then some ((-1000001), m0) else
 cj_bd (f_X8_isWithin a2 0 300) (fun (x4 : Int32) =>
 if x4 = 0 then some ((-1000001), m0) else
 cj_bd (f_X0_copyFrom 6 5 m0) (fun (s6 : cj_Mm) =>
 cj_lt (cj_upG s6 6 (cj_up2 (s6 6) 0 6 a1)) (fun (s7 : cj_Mm) =>
 cj_bd (f_X0_advance (s7 6) a2) (fun (s9 : cj_S) =>
 cj_lt (cj_upG s7 6 s9) (fun (s10 : cj_Mm) =>
 cj_bd (f_X0_remembered (s10 6) a1) (fun (x12 : Int32) =>
 cj_bd (f_J6_bitCount_0f7a4 x12) (fun (x14 : Int32) =>
 some (x14, s10)))))))))
def f_X8_best (m0 : cj_Mm) (a1 : Int32) : Option (Int32 × cj_Mm) :=
  cj_bd (f_X8_isWithin a1 0 2) (fun (x2 : Int32) =>
 if x2 = 0 then some ((-1000001), m0) else
 cj_bp (f_X0_findBestSale 5 m0) (fun (x4 : Int32) (s5 : cj_Mm) =>
 if x4 = 0 then some ((-1000004), s5) else
 if a1 = 0 then some (s5 4 0 0, s5) else
 if a1 = 1 then some (s5 4 0 1, s5) else
 some (s5 4 0 2, s5)))
def f_X8_sellAll_L15 : Nat → Int32 → Int32 → cj_Mm → Option (Int32 × cj_Mm)
  | 0, _, _, _ => none
  | n + 1, x3, x4, s5 => if 10 ≤ x4 then some (x3, s5) else
 cj_bp (f_X0_findBestSale 6 s5) (fun (x7 : Int32) (s8 : cj_Mm) =>
 if x7 = 0 then some (x3, s8) else
 cj_bp (f_X0_sellSheet (s8 6) (s8 4 0 0) (s8 4 0 1)) (fun (x10 : Int32) (s11 : cj_S) =>
 cj_lt (cj_upG s8 6 s11) (fun (s12 : cj_Mm) =>
 f_X8_sellAll_L15 n (x3 + x10) (x4 + 1) s12)))
def f_X8_sellAll (m0 : cj_Mm) : Option (Int32 × cj_Mm) :=
  cj_bd (f_X0_copyFrom 6 5 m0) (fun (s2 : cj_Mm) =>
 f_X8_sellAll_L15 cj_FU 0 0 s2)
def f_X8_bitsOf_L15 (K : UInt32 → Int32 → Option (Int32)) : Nat → UInt32 → Int32 → Int32 → Option (Int32)
  | 0, _, _, _ => none
  | n + 1, x1, x2, x3 => if 127 ≤ x3 then K x1 x2 else
 if (Op.cmpValue (FP.fcmp x1 FP.fconst2) .l) < 0 then K x1 x2 else
 cj_gp (FP.fdiv x1 FP.fconst2 &&& 0x7fffffff ≤ 0x7f800000) (
 cj_lt (FP.fdiv x1 FP.fconst2) (fun (x6 : UInt32) =>
 f_X8_bitsOf_L15 K n x6 (x2 + 1) (x3 + 1)))
def f_X8_bitsOf_L42 (K : UInt32 → Int32 → Option (Int32)) : Nat → UInt32 → Int32 → Int32 → Option (Int32)
  | 0, _, _, _ => none
  | n + 1, x9, x10, x11 => if 126 ≤ x11 then K x9 x10 else
 if 0 ≤ (Op.cmpValue (FP.fcmp x9 FP.fconst1) .g) then K x9 x10 else
 cj_gp (FP.fmul x9 FP.fconst2 &&& 0x7fffffff ≤ 0x7f800000) (
 cj_lt (FP.fmul x9 FP.fconst2) (fun (x14 : UInt32) =>
 f_X8_bitsOf_L42 K n x14 (x10 + (-1)) (x11 + 1)))
def f_X8_bitsOf (a0 : UInt32) : Option (Int32) :=
  if 0 < (Op.cmpValue (FP.fcmp a0 FP.fconst0) .g) then f_X8_bitsOf_L15 (fun (x7 : UInt32) (x8 : Int32) =>
 f_X8_bitsOf_L42 (fun (x15 : UInt32) (x16 : Int32) =>
 cj_gp (FP.fsub x15 FP.fconst1 &&& 0x7fffffff ≤ 0x7f800000) (
 cj_gp (FP.fmul (FP.fsub x15 FP.fconst1) 1258291200 &&& 0x7fffffff ≤ 0x7f800000) (
 some ((x16 <<< (23 &&& 31)) + (FP.f2i (FP.fmul (FP.fsub x15 FP.fconst1) 1258291200)))))) cj_FU x7 x8 0) cj_FU a0 127 0 else
 some 0
def f_X8_mean (m0 : cj_Mm) : Option (Int32) :=
  if 0 < (m0 5 0 8) then cj_gp (FP.fdiv (FP.i2f (m0 5 0 9)) (FP.i2f (m0 5 0 8)) &&& 0x7fffffff ≤ 0x7f800000) (
 cj_bd (f_X8_bitsOf (FP.fdiv (FP.i2f (m0 5 0 9)) (FP.i2f (m0 5 0 8)))) (fun (x2 : Int32) =>
 some x2)) else
 some ((-1000004))
def f_X8_count (m0 : cj_Mm) (a1 : Int32) : Option (Int32) :=
  if a1 = 11 then some (m0 1 0 2) else
 if a1 = 12 then some (m0 2 0 1) else
 cj_bd (f_X0_tellCount (m0 5) a1) (fun (x4 : Int32) =>
 some x4)
def f_X8_undo (m0 : cj_Mm) : Option (Int32 × cj_Mm) :=
  cj_bp (f_X1_restore m0) (fun (x2 : Int32) (s3 : cj_Mm) =>
 some (x2, s3))
def f_X8_type (m0 : cj_Mm) (a1 : Int32) : Option (Int32 × cj_Mm) :=
  cj_bp (f_X7_append (m0 2) a1) (fun (x2 : Int32) (s3 : cj_S) =>
 cj_lt (cj_upG m0 2 s3) (fun (s4 : cj_Mm) =>
 some (x2, s4)))
def f_X8_clearText (m0 : cj_Mm) : Option (Int32 × cj_Mm) :=
  cj_lt (cj_upG m0 2 (cj_up2 (m0 2) 0 1 0)) (fun (s1 : cj_Mm) =>
 some (m0 2 0 1, s1))
def f_X8_fault (m0 : cj_Mm) (a1 : Int32) : Option (Int32 × cj_Mm) :=
  cj_bd (f_X8_isWithin a1 0 2) (fun (x2 : Int32) =>
 if x2 = 0 then some ((-1000001), m0) else
 cj_bd (f_X0_copyFrom 6 5 m0) (fun (s4 : cj_Mm) =>
 cj_bd (f_X4_run s4) (fun (s6 : cj_Mm) =>
 if (s6 3 0 1) = ((-1)) then some ((-1000004), s6) else
 if a1 = 0 then some (s6 3 0 1, s6) else
 if a1 = 1 then some (s6 3 0 2, s6) else
 some (s6 3 0 3, s6))))
def f_X8_play (m0 : cj_Mm) : Option (Int32 × cj_Mm) :=
  cj_bd (f_X0_copyFrom 6 5 m0) (fun (s2 : cj_Mm) =>
 cj_bd (f_X4_run s2) (fun (s4 : cj_Mm) =>
 if (s4 3 0 1) = ((-1)) then cj_bd (f_X1_prepare s4) (fun (s6 : cj_Mm) =>
 cj_bd (f_X0_copyFrom 5 6 s6) (fun (s8 : cj_Mm) =>
 cj_bp (f_X1_settle (s8 1) (s8 3 0 0)) (fun (x10 : Int32) (s11 : cj_S) =>
 cj_lt (cj_upG s8 1 s11) (fun (s12 : cj_Mm) =>
 some (x10, s12))))) else
 some ((-1000002), s4)))
def f_X9_in (a0 : Int32) (a1 : Int32) (a2 : Int32) : Option (Int32) :=
  if a0 < a1 then some 0 else
 if a2 < a0 then some 0 else
 some 1
def f_X9_copies_L2 (kf : Nat) (kt : Nat) : Nat → Int32 → cj_S → Option (cj_S)
  | 0, _, _ => none
  | n + 1, x1, s2 => if 183 ≤ x1 then some s2 else
 cj_gd x1 183 (
 cj_gd x1 183 (
 cj_lt (cj_up2 s2 kt x1.toNatClampNeg (s2 kf x1.toNatClampNeg)) (fun (s3 : cj_S) =>
 f_X9_copies_L2 kf kt n (x1 + 1) s3)))
def f_X9_copies (kf : Nat) (kt : Nat) (s0 : cj_S) : Option (cj_S) :=
  f_X9_copies_L2 kf kt cj_FU 0 s0
def f_X9_changes_L59 (K : cj_S → Option (cj_S)) : Nat → Int32 → cj_S → Option (cj_S)
  | 0, _, _ => none
  | n + 1, x3, s4 => if 183 ≤ x3 then K s4 else
 cj_gd x3 183 (
 cj_gd ((183 * (s4 0 4)) + x3) 732 (
 cj_lt (cj_up2 s4 2 (((183 * (s4 0 4)) + x3).toNatClampNeg) (s4 1 x3.toNatClampNeg)) (fun (s6 : cj_S) =>
 f_X9_changes_L59 K n (x3 + 1) s6)))
def f_X9_changes_L18 (K : cj_S → Option (cj_S)) : Nat → Int32 → cj_S → Option (cj_S)
  | 0, _, _ => none
  | n + 1, x9, s10 => if 549 ≤ x9 then K s10 else
 cj_gd (x9 + 183) 732 (
 cj_gd x9 732 (
 cj_lt (cj_up2 s10 2 x9.toNatClampNeg (s10 2 (x9 + 183).toNatClampNeg)) (fun (s12 : cj_S) =>
 f_X9_changes_L18 K n (x9 + 1) s12)))
def f_X9_changes (s0 : cj_S) : Option (cj_S) :=
  if (s0 0 5) = 0 then cj_lt (fun (s2 : cj_S) => f_X9_changes_L59 (fun (s7 : cj_S) =>
 cj_lt (cj_up2 s7 0 4 ((s7 0 4) + 1)) (fun (s8 : cj_S) =>
 some s8)) cj_FU 0 s2) (fun K1 =>
 if (s0 0 4) = 4 then f_X9_changes_L18 (fun (s13 : cj_S) =>
 cj_lt (cj_up2 s13 0 4 ((s13 0 4) - 1)) (fun (s14 : cj_S) =>
 K1 s14)) cj_FU 0 s0 else
 K1 s0) else
 some s0
def f_X9_ones_L4 : Nat → Int32 → Int32 → Option (Int32)
  | 0, _, _ => none
  | n + 1, x1, x2 => if x2 = 0 then some x1 else
 f_X9_ones_L4 n (x1 + 1) (x2 &&& (x2 - 1))
def f_X9_ones (a0 : Int32) : Option (Int32) :=
  f_X9_ones_L4 cj_FU 0 a0
def f_X9_isPerson (s0 : cj_S) (a1 : Int32) : Option (Int32) :=
  if a1 < 0 then some 0 else
 if (s0 1 0) ≤ a1 then some 0 else
 some 1
def f_X9_isPaper (s0 : cj_S) (a1 : Int32) : Option (Int32) :=
  if a1 < 0 then some 0 else
 if (s0 1 1) ≤ a1 then some 0 else
 some 1
def f_X9_of (s0 : cj_S) (a1 : Int32) (a2 : Int32) : Option (Int32) :=
  cj_gd ((11 + (18 * a1)) + a2) 183 (
 some (s0 1 ((11 + (18 * a1)) + a2).toNatClampNeg))
def f_X9_sets (s0 : cj_S) (a1 : Int32) (a2 : Int32) (a3 : Int32) : Option (cj_S) :=
  cj_gd ((11 + (18 * a1)) + a2) 183 (
 cj_lt (cj_up2 s0 1 (((11 + (18 * a1)) + a2).toNatClampNeg) a3) (fun (s1 : cj_S) =>
 some s1))
def f_X9_ofSheet (s0 : cj_S) (a1 : Int32) (a2 : Int32) : Option (Int32) :=
  cj_gd ((119 + (4 * a1)) + a2) 183 (
 some (s0 1 ((119 + (4 * a1)) + a2).toNatClampNeg))
def f_X9_ofPaper (s0 : cj_S) (a1 : Int32) (a2 : Int32) : Option (Int32) :=
  cj_gd ((159 + (6 * a1)) + a2) 183 (
 some (s0 1 ((159 + (6 * a1)) + a2).toNatClampNeg))
def f_X9_day (s0 : cj_S) : Option (Int32) :=
  some ((s0 1 4) / 300)
def f_X9_isHidden_L4 (y1 : Int32) (s4 : cj_S) : Nat → Int32 → Int32 → Option (Int32)
  | 0, _, _ => none
  | n + 1, x2, x3 => if (s4 1 0) ≤ x3 then cj_gp (x2 = 0 ∨ x2 = 1) (
 some x2) else
 if x2 = 0 then cj_bd (f_X9_of s4 x3 1) (fun (x6 : Int32) =>
 cj_bd (f_X9_of s4 y1 1) (fun (x8 : Int32) =>
 if x6 = x8 then cj_bd (f_X9_of s4 x3 0) (fun (x10 : Int32) =>
 cj_bd (f_X9_of s4 y1 0) (fun (x12 : Int32) =>
 if x12 ≤ x10 then f_X9_isHidden_L4 y1 s4 n 0 (x3 + 1) else
 f_X9_isHidden_L4 y1 s4 n 1 (x3 + 1))) else
 f_X9_isHidden_L4 y1 s4 n 0 (x3 + 1))) else
 f_X9_isHidden_L4 y1 s4 n 1 (x3 + 1)
def f_X9_isHidden (s0 : cj_S) (a1 : Int32) : Option (Int32) :=
  f_X9_isHidden_L4 a1 s0 cj_FU 0 0
def f_X9_seenAt_L22 (y5 : Int32) (y7 : Int32) (s9 : cj_S) : Nat → Int32 → Int32 → Option (Int32)
  | 0, _, _ => none
  | n + 1, x6, x8 => if y7 < x8 then some x6 else
 cj_lt ((y5 + x8) + 12) (fun (x10 : Int32) =>
 cj_lt (x6 ||| (1 <<< ((x10 - x10 / 12 * 12) &&& 31))) (fun (x11 : Int32) =>
 f_X9_seenAt_L22 y5 y7 s9 n x11 (x8 + 1)))
def f_X9_seenAt (s0 : cj_S) (a1 : Int32) (a2 : Int32) : Option (Int32) :=
  cj_bd (f_X9_isHidden s0 a1) (fun (x2 : Int32) =>
 cj_lt (fun (x4 : Int32) => f_X9_seenAt_L22 a2 x4 s0 cj_FU 0 (-x4)) (fun K3 =>
 if x2 = 0 then K3 2 else
 K3 0))
def f_X9_seen (s0 : cj_S) (a1 : Int32) : Option (Int32) :=
  cj_bd (f_X9_of s0 a1 2) (fun (x2 : Int32) =>
 cj_bd (f_X9_seenAt s0 a1 x2) (fun (x4 : Int32) =>
 some x4))
def f_X9_remembered_L4 (y1 : Int32) (s4 : cj_S) : Nat → Int32 → Int32 → Option (Int32)
  | 0, _, _ => none
  | n + 1, x2, x3 => if 12 ≤ x3 then some x2 else
 cj_bd (f_X9_of s4 y1 (6 + x3)) (fun (x6 : Int32) =>
 if x6 < 0 then f_X9_remembered_L4 y1 s4 n (x2 ||| 0) (x3 + 1) else
 if (s4 1 9) < ((s4 1 4) - x6) then f_X9_remembered_L4 y1 s4 n (x2 ||| 0) (x3 + 1) else
 cj_lt (x2 ||| (1 <<< (x3 &&& 31))) (fun (x7 : Int32) =>
 f_X9_remembered_L4 y1 s4 n x7 (x3 + 1)))
def f_X9_remembered (s0 : cj_S) (a1 : Int32) : Option (Int32) :=
  f_X9_remembered_L4 a1 s0 cj_FU 0 0
def f_X9_person_L23 (K : Unit → Option (Int32 × cj_S)) (y5 : Int32) (y6 : Int32) (s8 : cj_S) : Nat → Int32 → Option (Int32 × cj_S)
  | 0, _ => none
  | n + 1, x7 => if (s8 1 0) ≤ x7 then K () else
 cj_bd (f_X9_of s8 x7 0) (fun (x10 : Int32) =>
 if x10 = y5 then cj_bd (f_X9_of s8 x7 1) (fun (x12 : Int32) =>
 if x12 = y6 then some ((-1000002), s8) else
 f_X9_person_L23 K y5 y6 s8 n (x7 + 1)) else
 f_X9_person_L23 K y5 y6 s8 n (x7 + 1))
def f_X9_person_L106 (K : cj_S → Option (Int32 × cj_S)) (y21 : Int32) : Nat → Int32 → cj_S → Option (Int32 × cj_S)
  | 0, _, _ => none
  | n + 1, x22, s23 => if 12 ≤ x22 then K s23 else
 cj_bd (f_X9_sets s23 y21 (6 + x22) ((-1))) (fun (s26 : cj_S) =>
 f_X9_person_L106 K y21 n (x22 + 1) s26)
def f_X9_person (s0 : cj_S) (a1 : Int32) (a2 : Int32) : Option (Int32 × cj_S) :=
  cj_bd (f_X9_in a1 0 3) (fun (x2 : Int32) =>
 if x2 = 0 then some ((-1000001), s0) else
 cj_bd (f_X9_in a2 0 5) (fun (x4 : Int32) =>
 if x4 = 0 then some ((-1000001), s0) else
 f_X9_person_L23 (fun (u : Unit) =>
 if (s0 1 0) = 6 then some ((-1000003), s0) else
 cj_bd (f_X9_changes s0) (fun (s14 : cj_S) =>
 cj_bd (f_X9_sets s14 (s0 1 0) 0 a1) (fun (s16 : cj_S) =>
 cj_bd (f_X9_sets s16 (s0 1 0) 1 a2) (fun (s18 : cj_S) =>
 cj_bd (f_X9_sets s18 (s0 1 0) 4 ((-1))) (fun (s20 : cj_S) =>
 f_X9_person_L106 (fun (s27 : cj_S) =>
 cj_lt (cj_up2 s27 1 0 ((s27 1 0) + 1)) (fun (s28 : cj_S) =>
 some (s0 1 0, s28))) (s0 1 0) cj_FU 0 s20))))) a1 a2 s0 cj_FU 0))
def f_X9_turn (s0 : cj_S) (a1 : Int32) (a2 : Int32) (a3 : Int32) : Option (Int32 × cj_S) :=
  cj_bd (f_X9_isPerson s0 a1) (fun (x2 : Int32) =>
 if x2 = 0 then some ((-1000001), s0) else
 cj_bd (f_X9_in a2 0 11) (fun (x4 : Int32) =>
 if x4 = 0 then some ((-1000001), s0) else
 cj_bd (f_X9_in a3 0 11) (fun (x6 : Int32) =>
 if x6 = 0 then some ((-1000001), s0) else
 cj_bd (f_X9_changes s0) (fun (s8 : cj_S) =>
 cj_bd (f_X9_sets s8 a1 2 a2) (fun (s10 : cj_S) =>
 cj_bd (f_X9_sets s10 a1 3 a3) (fun (s12 : cj_S) =>
 cj_bd (f_X9_seen s12 a1) (fun (x14 : Int32) =>
 some (x14, s12))))))))
def f_X9_paper (s0 : cj_S) (a1 : Int32) (a2 : Int32) : Option (Int32 × cj_S) :=
  cj_bd (f_X9_in a1 1 20) (fun (x2 : Int32) =>
 if x2 = 0 then some ((-1000001), s0) else
 cj_bd (f_X9_in a2 1 299) (fun (x4 : Int32) =>
 if x4 = 0 then some ((-1000001), s0) else
 if (s0 1 1) = 4 then some ((-1000003), s0) else
 cj_bd (f_X9_changes s0) (fun (s6 : cj_S) =>
 cj_gd ((159 + (6 * (s0 1 1))) + 0) 183 (
 cj_lt (cj_up2 s6 1 (((159 + (6 * (s0 1 1))) + 0).toNatClampNeg) a1) (fun (s7 : cj_S) =>
 cj_gd ((159 + (6 * (s0 1 1))) + 1) 183 (
 cj_lt (cj_up2 s7 1 (((159 + (6 * (s0 1 1))) + 1).toNatClampNeg) a2) (fun (s8 : cj_S) =>
 cj_gd ((159 + (6 * (s0 1 1))) + 4) 183 (
 cj_lt (cj_up2 s8 1 (((159 + (6 * (s0 1 1))) + 4).toNatClampNeg) ((-1))) (fun (s9 : cj_S) =>
 cj_lt (cj_up2 s9 1 1 ((s9 1 1) + 1)) (fun (s10 : cj_S) =>
 some (s0 1 1, s10)))))))))))
def f_X9_look (s0 : cj_S) (a1 : Int32) : Option (Int32 × cj_S) :=
  cj_lt (fun (u : Unit) => cj_bd (f_X9_changes s0) (fun (s3 : cj_S) =>
 cj_lt (cj_up2 s3 1 5 a1) (fun (s4 : cj_S) =>
 if a1 = ((-1)) then some (0, s4) else
 cj_bd (f_X9_seen s4 a1) (fun (x6 : Int32) =>
 some (x6, s4))))) (fun K1 =>
 if a1 = ((-1)) then K1 () else
 cj_bd (f_X9_isPerson s0 a1) (fun (x8 : Int32) =>
 if x8 = 0 then some ((-1000001), s0) else
 K1 ()))
def f_X9_slot_L2 (y1 : Int32) (s3 : cj_S) : Nat → Int32 → Option (Int32)
  | 0, _ => none
  | n + 1, x2 => if (s3 1 2) ≤ x2 then some ((-1000004)) else
 cj_bd (f_X9_ofSheet s3 x2 0) (fun (x5 : Int32) =>
 if x5 = y1 then some x2 else
 f_X9_slot_L2 y1 s3 n (x2 + 1))
def f_X9_slot (s0 : cj_S) (a1 : Int32) : Option (Int32) :=
  f_X9_slot_L2 a1 s0 cj_FU 0
def f_X9_sheet (s0 : cj_S) (a1 : Int32) : Option (Int32 × cj_S) :=
  cj_bd (f_X9_isPerson s0 a1) (fun (x2 : Int32) =>
 if x2 = 0 then some ((-1000001), s0) else
 if (s0 1 2) = 10 then some ((-1000003), s0) else
 cj_bd (f_X9_changes s0) (fun (s4 : cj_S) =>
 cj_gd ((119 + (4 * (s0 1 2))) + 0) 183 (
 cj_lt (cj_up2 s4 1 (((119 + (4 * (s0 1 2))) + 0).toNatClampNeg) (s4 1 3)) (fun (s5 : cj_S) =>
 cj_gd ((119 + (4 * (s0 1 2))) + 1) 183 (
 cj_lt (cj_up2 s5 1 (((119 + (4 * (s0 1 2))) + 1).toNatClampNeg) a1) (fun (s6 : cj_S) =>
 cj_gd ((119 + (4 * (s0 1 2))) + 2) 183 (
 cj_lt (cj_up2 s6 1 (((119 + (4 * (s0 1 2))) + 2).toNatClampNeg) 0) (fun (s7 : cj_S) =>
 cj_gd ((119 + (4 * (s0 1 2))) + 3) 183 (
 cj_lt (cj_up2 s7 1 (((119 + (4 * (s0 1 2))) + 3).toNatClampNeg) 0) (fun (s8 : cj_S) =>
 cj_lt (cj_up2 s8 1 2 ((s8 1 2) + 1)) (fun (s9 : cj_S) =>
 cj_lt (cj_up2 s9 1 3 ((s9 1 3) + 1)) (fun (s10 : cj_S) =>
 some ((s10 1 3) - 1, s10)))))))))))))
def f_X9_drawable (s0 : cj_S) (a1 : Int32) : Option (Int32) :=
  cj_bd (f_X9_ofSheet s0 a1 1) (fun (x2 : Int32) =>
 cj_bd (f_X9_remembered s0 x2) (fun (x4 : Int32) =>
 cj_bd (f_X9_ofSheet s0 a1 2) (fun (x6 : Int32) =>
 some (x4 &&& (x6 ^^^ ((-1)))))))
def f_X9_draw (s0 : cj_S) (a1 : Int32) (a2 : Int32) : Option (Int32 × cj_S) :=
  cj_bd (f_X9_slot s0 a1) (fun (x2 : Int32) =>
 if x2 < 0 then some ((-1000001), s0) else
 cj_bd (f_X9_in a2 0 11) (fun (x4 : Int32) =>
 if x4 = 0 then some ((-1000001), s0) else
 cj_bd (f_X9_drawable s0 x2) (fun (x6 : Int32) =>
 if (x6 &&& (1 <<< (a2 &&& 31))) = 0 then some ((-1000002), s0) else
 if (s0 1 6) = 3 then some ((-1000003), s0) else
 cj_bd (f_X9_changes s0) (fun (s8 : cj_S) =>
 cj_gd ((119 + (4 * x2)) + 2) 183 (
 cj_gd ((119 + (4 * x2)) + 2) 183 (
 cj_lt (cj_up2 s8 1 (((119 + (4 * x2)) + 2).toNatClampNeg) ((s8 1 ((119 + (4 * x2)) + 2).toNatClampNeg) ||| (1 <<< (a2 &&& 31)))) (fun (s9 : cj_S) =>
 cj_bd (f_X9_ofSheet s9 x2 3) (fun (x11 : Int32) =>
 cj_lt (fun (x13 : Int32) => cj_gd ((119 + (4 * x2)) + 3) 183 (
 cj_lt (cj_up2 s9 1 (((119 + (4 * x2)) + 3).toNatClampNeg) x13) (fun (s14 : cj_S) =>
 cj_lt (cj_up2 s14 1 6 ((s14 1 6) + 1)) (fun (s15 : cj_S) =>
 cj_bd (f_X9_ofSheet s15 x2 2) (fun (x17 : Int32) =>
 cj_bd (f_X9_ones x17) (fun (x19 : Int32) =>
 some (x19, s15))))))) (fun K12 =>
 if ((s8 1 4) + (s8 1 10)) ≤ x11 then cj_bd (f_X9_ofSheet s9 x2 3) (fun (x21 : Int32) =>
 K12 x21) else
 K12 ((s8 1 4) + (s8 1 10)))))))))))
def f_X9_takesOut_L17 : Nat → Int32 → cj_S → Option (cj_S)
  | 0, _, _ => none
  | n + 1, x2, s3 => if (119 + (4 * (s3 1 2))) ≤ x2 then some s3 else
 cj_gd (x2 + 4) 183 (
 cj_gd x2 183 (
 cj_lt (cj_up2 s3 1 x2.toNatClampNeg (s3 1 (x2 + 4).toNatClampNeg)) (fun (s4 : cj_S) =>
 f_X9_takesOut_L17 n (x2 + 1) s4)))
def f_X9_takesOut (s0 : cj_S) (a1 : Int32) : Option (cj_S) :=
  cj_lt (cj_up2 s0 1 2 ((s0 1 2) - 1)) (fun (s1 : cj_S) =>
 f_X9_takesOut_L17 cj_FU (119 + (4 * a1)) s1)
def f_X9_tear (s0 : cj_S) (a1 : Int32) : Option (Int32 × cj_S) :=
  cj_bd (f_X9_slot s0 a1) (fun (x2 : Int32) =>
 if 0 ≤ x2 then cj_bd (f_X9_changes s0) (fun (s4 : cj_S) =>
 cj_bd (f_X9_takesOut s4 x2) (fun (s6 : cj_S) =>
 some (s6 1 2, s6))) else
 some ((-1000001), s0))
def f_X9_sheetsOf_L4 (y1 : Int32) (s4 : cj_S) : Nat → Int32 → Int32 → Option (Int32)
  | 0, _, _ => none
  | n + 1, x2, x3 => if (s4 1 2) ≤ x3 then some x2 else
 cj_bd (f_X9_ofSheet s4 x3 1) (fun (x6 : Int32) =>
 if x6 = y1 then f_X9_sheetsOf_L4 y1 s4 n (x2 + 1) (x3 + 1) else
 f_X9_sheetsOf_L4 y1 s4 n (x2 + 0) (x3 + 1))
def f_X9_sheetsOf (s0 : cj_S) (a1 : Int32) : Option (Int32) :=
  f_X9_sheetsOf_L4 a1 s0 cj_FU 0 0
def f_X9_hasVerdict (s0 : cj_S) (a1 : Int32) : Option (Int32) :=
  cj_bd (f_X9_of s0 a1 4) (fun (x2 : Int32) =>
 cj_bd (f_X9_day s0) (fun (x4 : Int32) =>
 if x2 = x4 then some 1 else
 some 0))
def f_X9_verdict (s0 : cj_S) (a1 : Int32) : Option (Int32 × cj_S) :=
  cj_bd (f_X9_isPerson s0 a1) (fun (x2 : Int32) =>
 if x2 = 0 then some ((-1000001), s0) else
 cj_bd (f_X9_hasVerdict s0 a1) (fun (x4 : Int32) =>
 if x4 = 0 then cj_bd (f_X9_changes s0) (fun (s6 : cj_S) =>
 cj_bd (f_X9_day s6) (fun (x8 : Int32) =>
 cj_bd (f_X9_sets s6 a1 4 x8) (fun (s10 : cj_S) =>
 cj_bd (f_X9_sheetsOf s10 a1) (fun (x12 : Int32) =>
 some (x12, s10))))) else
 some ((-1000002), s0)))
def f_X9_isDry (s0 : cj_S) (a1 : Int32) : Option (Int32) :=
  cj_bd (f_X9_ofSheet s0 a1 2) (fun (x2 : Int32) =>
 if x2 = 0 then some 0 else
 cj_bd (f_X9_ofSheet s0 a1 3) (fun (x4 : Int32) =>
 if (s0 1 4) < x4 then some 0 else
 some 1))
def f_X9_boughtOf (s0 : cj_S) (a1 : Int32) : Option (Int32) :=
  cj_bd (f_X9_ofPaper s0 a1 4) (fun (x2 : Int32) =>
 cj_bd (f_X9_day s0) (fun (x4 : Int32) =>
 if x2 = x4 then cj_bd (f_X9_ofPaper s0 a1 5) (fun (x6 : Int32) =>
 some x6) else
 some 0))
def f_X9_canSell (s0 : cj_S) (a1 : Int32) (a2 : Int32) : Option (Int32) :=
  cj_bd (f_X9_isDry s0 a1) (fun (x2 : Int32) =>
 if x2 = 0 then some 0 else
 cj_bd (f_X9_boughtOf s0 a2) (fun (x4 : Int32) =>
 cj_bd (f_X9_ofSheet s0 a1 1) (fun (x6 : Int32) =>
 if ((x4 >>> (x6 &&& 31)) &&& 1) = 0 then some 1 else
 some 0)))
def f_X9_priceOf (s0 : cj_S) (a1 : Int32) (a2 : Int32) : Option (Int32) :=
  cj_bd (f_X9_ofPaper s0 a2 0) (fun (x2 : Int32) =>
 cj_bd (f_X9_ofSheet s0 a1 2) (fun (x4 : Int32) =>
 cj_bd (f_X9_ones x4) (fun (x6 : Int32) =>
 cj_bd (f_X9_ofSheet s0 a1 1) (fun (x8 : Int32) =>
 cj_bd (f_X9_hasVerdict s0 x8) (fun (x10 : Int32) =>
 cj_lt (fun (x12 : Int32) => cj_bd (f_X9_ofPaper s0 a2 1) (fun (x14 : Int32) =>
 if ((s0 1 4) - (s0 1 4) / 300 * 300) ≤ x14 then some x12 else
 some (x12 / 2))) (fun K11 =>
 if x10 = 0 then K11 (x2 * x6) else
 K11 (2 * (x2 * x6))))))))
def f_X9_sells (s0 : cj_S) (a1 : Int32) (a2 : Int32) : Option (Int32 × cj_S) :=
  cj_bd (f_X9_priceOf s0 a1 a2) (fun (x2 : Int32) =>
 cj_bd (f_X9_ofSheet s0 a1 1) (fun (x4 : Int32) =>
 cj_bd (f_X9_boughtOf s0 a2) (fun (x6 : Int32) =>
 cj_gd ((159 + (6 * a2)) + 5) 183 (
 cj_lt (cj_up2 s0 1 (((159 + (6 * a2)) + 5).toNatClampNeg) (x6 ||| (1 <<< (x4 &&& 31)))) (fun (s7 : cj_S) =>
 cj_bd (f_X9_day s7) (fun (x9 : Int32) =>
 cj_gd ((159 + (6 * a2)) + 4) 183 (
 cj_lt (cj_up2 s7 1 (((159 + (6 * a2)) + 4).toNatClampNeg) x9) (fun (s10 : cj_S) =>
 cj_gd ((159 + (6 * a2)) + 2) 183 (
 cj_gd ((159 + (6 * a2)) + 2) 183 (
 cj_lt (cj_up2 s10 1 (((159 + (6 * a2)) + 2).toNatClampNeg) ((s10 1 ((159 + (6 * a2)) + 2).toNatClampNeg) + 1)) (fun (s11 : cj_S) =>
 cj_gd ((159 + (6 * a2)) + 3) 183 (
 cj_gd ((159 + (6 * a2)) + 3) 183 (
 cj_lt (cj_up2 s11 1 (((159 + (6 * a2)) + 3).toNatClampNeg) ((s11 1 ((159 + (6 * a2)) + 3).toNatClampNeg) + x2)) (fun (s12 : cj_S) =>
 cj_gd ((11 + (18 * x4)) + 5) 183 (
 cj_gd ((11 + (18 * x4)) + 5) 183 (
 cj_lt (cj_up2 s12 1 (((11 + (18 * x4)) + 5).toNatClampNeg) ((s12 1 ((11 + (18 * x4)) + 5).toNatClampNeg) + x2)) (fun (s13 : cj_S) =>
 cj_lt (cj_up2 s13 1 7 ((s13 1 7) + 1)) (fun (s14 : cj_S) =>
 cj_lt (cj_up2 s14 1 8 ((s14 1 8) + x2)) (fun (s15 : cj_S) =>
 cj_bd (f_X9_takesOut s15 a1) (fun (s17 : cj_S) =>
 some (x2, s17)))))))))))))))))))))
def f_X9_sell (s0 : cj_S) (a1 : Int32) (a2 : Int32) : Option (Int32 × cj_S) :=
  cj_bd (f_X9_slot s0 a1) (fun (x2 : Int32) =>
 if x2 < 0 then some ((-1000001), s0) else
 cj_bd (f_X9_isPaper s0 a2) (fun (x4 : Int32) =>
 if x4 = 0 then some ((-1000001), s0) else
 cj_bd (f_X9_canSell s0 x2 a2) (fun (x6 : Int32) =>
 if x6 = 0 then some ((-1000002), s0) else
 cj_bd (f_X9_changes s0) (fun (s8 : cj_S) =>
 cj_bp (f_X9_sells s8 x2 a2) (fun (x10 : Int32) (s11 : cj_S) =>
 some (x10, s11))))))
def f_X9_sees_L2 (y1 : Int32) : Nat → Int32 → cj_S → Option (cj_S)
  | 0, _, _ => none
  | n + 1, x2, s3 => if 12 ≤ x2 then some s3 else
 cj_bd (f_X9_seen s3 y1) (fun (x5 : Int32) =>
 if ((x5 >>> (x2 &&& 31)) &&& 1) = 1 then cj_bd (f_X9_sets s3 y1 (6 + x2) (s3 1 4)) (fun (s7 : cj_S) =>
 f_X9_sees_L2 y1 n (x2 + 1) s7) else
 f_X9_sees_L2 y1 n (x2 + 1) s3)
def f_X9_sees (s0 : cj_S) (a1 : Int32) : Option (cj_S) :=
  f_X9_sees_L2 a1 cj_FU 0 s0
def f_X9_minute_L21 (K : cj_S → Option (cj_S)) : Nat → Int32 → cj_S → Option (cj_S)
  | 0, _, _ => none
  | n + 1, x3, s4 => if (s4 1 0) ≤ x3 then K s4 else
 cj_bd (f_X9_of s4 x3 2) (fun (x7 : Int32) =>
 cj_bd (f_X9_of s4 x3 3) (fun (x9 : Int32) =>
 cj_lt (x7 + x9) (fun (x10 : Int32) =>
 cj_bd (f_X9_sets s4 x3 2 (x10 - x10 / 12 * 12)) (fun (s12 : cj_S) =>
 f_X9_minute_L21 K n (x3 + 1) s12))))
def f_X9_minute (s0 : cj_S) : Option (cj_S) :=
  cj_lt (fun (s2 : cj_S) => f_X9_minute_L21 (fun (s13 : cj_S) =>
 cj_lt (cj_up2 s13 1 4 ((s13 1 4) + 1)) (fun (s14 : cj_S) =>
 cj_lt (cj_up2 s14 1 6 0) (fun (s15 : cj_S) =>
 some s15))) cj_FU 0 s2) (fun K1 =>
 if (s0 1 5) < 0 then K1 s0 else
 cj_bd (f_X9_sees s0 (s0 1 5)) (fun (s17 : cj_S) =>
 K1 s17))
def f_X9_pass_L37 (K : cj_S → Option (Int32 × cj_S)) (y5 : Int32) : Nat → Int32 → cj_S → Option (Int32 × cj_S)
  | 0, _, _ => none
  | n + 1, x6, s7 => if y5 ≤ x6 then K s7 else
 cj_bd (f_X9_minute s7) (fun (s10 : cj_S) =>
 f_X9_pass_L37 K y5 n (x6 + 1) s10)
def f_X9_pass_L56 (s14 : cj_S) : Nat → Int32 → Int32 → Option (Int32 × cj_S)
  | 0, _, _ => none
  | n + 1, x12, x13 => if (s14 1 0) ≤ x13 then some (x12, s14) else
 cj_bd (f_X9_remembered s14 x13) (fun (x16 : Int32) =>
 cj_bd (f_X9_ones x16) (fun (x18 : Int32) =>
 f_X9_pass_L56 s14 n (x12 + x18) (x13 + 1)))
def f_X9_pass (s0 : cj_S) (a1 : Int32) : Option (Int32 × cj_S) :=
  cj_bd (f_X9_in a1 1 300) (fun (x2 : Int32) =>
 if x2 = 0 then some ((-1000001), s0) else
 if ((s0 1 4) + a1) ≤ 9999 then cj_bd (f_X9_changes s0) (fun (s4 : cj_S) =>
 f_X9_pass_L37 (fun (s11 : cj_S) =>
 f_X9_pass_L56 s11 cj_FU 0 0) a1 cj_FU 0 s4) else
 some ((-1000003), s0))
def f_X9_set (s0 : cj_S) (a1 : Int32) (a2 : Int32) : Option (Int32 × cj_S) :=
  cj_bd (f_X9_in a1 0 1) (fun (x2 : Int32) =>
 if x2 = 0 then some ((-1000001), s0) else
 cj_lt (fun (x4 : Int32) => cj_bd (f_X9_in a2 (1 - a1) x4) (fun (x6 : Int32) =>
 if x6 = 0 then some ((-1000001), s0) else
 cj_bd (f_X9_changes s0) (fun (s8 : cj_S) =>
 cj_gd (9 + a1) 183 (
 cj_gd (9 + a1) 183 (
 cj_lt (cj_up2 s8 1 ((9 + a1).toNatClampNeg) a2) (fun (s9 : cj_S) =>
 some (s8 1 (9 + a1).toNatClampNeg, s9))))))) (fun K3 =>
 if a1 = 0 then K3 200 else
 K3 60))
def f_X9_personOf (s0 : cj_S) (a1 : Int32) (a2 : Int32) : Option (Int32) :=
  cj_bd (f_X9_isPerson s0 a1) (fun (x2 : Int32) =>
 if x2 = 0 then some ((-1000001)) else
 cj_bd (f_X9_in a2 0 8) (fun (x4 : Int32) =>
 if x4 = 0 then some ((-1000001)) else
 if a2 = 4 then cj_bd (f_X9_seen s0 a1) (fun (x6 : Int32) =>
 some x6) else
 if a2 = 5 then cj_bd (f_X9_remembered s0 a1) (fun (x9 : Int32) =>
 some x9) else
 if a2 = 6 then cj_bd (f_X9_hasVerdict s0 a1) (fun (x12 : Int32) =>
 if x12 = 0 then some 0 else
 some 1) else
 if a2 = 7 then cj_bd (f_X9_sheetsOf s0 a1) (fun (x15 : Int32) =>
 some x15) else
 if a2 = 8 then cj_bd (f_X9_of s0 a1 5) (fun (x18 : Int32) =>
 some x18) else
 cj_bd (f_X9_of s0 a1 a2) (fun (x21 : Int32) =>
 some x21)))
def f_X9_sheetOf (s0 : cj_S) (a1 : Int32) (a2 : Int32) : Option (Int32) :=
  cj_bd (f_X9_slot s0 a1) (fun (x2 : Int32) =>
 if x2 < 0 then some ((-1000001)) else
 cj_bd (f_X9_in a2 0 5) (fun (x4 : Int32) =>
 if x4 = 0 then some ((-1000001)) else
 if a2 = 0 then cj_bd (f_X9_ofSheet s0 x2 (a2 + 1)) (fun (x6 : Int32) =>
 some x6) else
 if a2 = 1 then cj_bd (f_X9_ofSheet s0 x2 (a2 + 1)) (fun (x9 : Int32) =>
 some x9) else
 if a2 = 2 then cj_bd (f_X9_ofSheet s0 x2 2) (fun (x12 : Int32) =>
 cj_bd (f_X9_ones x12) (fun (x14 : Int32) =>
 some x14)) else
 if a2 = 3 then cj_bd (f_X9_isDry s0 x2) (fun (x17 : Int32) =>
 if x17 = 0 then some 0 else
 some 1) else
 if a2 = 4 then cj_bd (f_X9_ofSheet s0 x2 3) (fun (x20 : Int32) =>
 if x20 ≤ (s0 1 4) then some 0 else
 cj_bd (f_X9_ofSheet s0 x2 3) (fun (x22 : Int32) =>
 some (x22 - (s0 1 4)))) else
 cj_bd (f_X9_drawable s0 x2) (fun (x25 : Int32) =>
 some x25)))
def f_X9_paperOf (s0 : cj_S) (a1 : Int32) (a2 : Int32) : Option (Int32) :=
  cj_bd (f_X9_isPaper s0 a1) (fun (x2 : Int32) =>
 if x2 = 0 then some ((-1000001)) else
 cj_bd (f_X9_in a2 0 4) (fun (x4 : Int32) =>
 if x4 = 0 then some ((-1000001)) else
 if 4 ≤ a2 then cj_bd (f_X9_boughtOf s0 a1) (fun (x6 : Int32) =>
 some x6) else
 cj_bd (f_X9_ofPaper s0 a1 a2) (fun (x8 : Int32) =>
 some x8)))
def f_X9_price (s0 : cj_S) (a1 : Int32) (a2 : Int32) : Option (Int32) :=
  cj_bd (f_X9_slot s0 a1) (fun (x2 : Int32) =>
 if x2 < 0 then some ((-1000001)) else
 cj_bd (f_X9_isPaper s0 a2) (fun (x4 : Int32) =>
 if x4 = 0 then some ((-1000001)) else
 cj_bd (f_X9_priceOf s0 x2 a2) (fun (x6 : Int32) =>
 some x6)))
def f_X9_number (s0 : cj_S) (a1 : Int32) : Option (Int32) :=
  if 0 ≤ a1 then if (s0 1 2) ≤ a1 then some ((-1000004)) else
 cj_bd (f_X9_ofSheet s0 a1 0) (fun (x2 : Int32) =>
 some x2) else
 some ((-1000001))
def f_X9_seenIn_L23 (y5 : Int32) (y6 : Int32) (s8 : cj_S) : Nat → Int32 → Option (Int32)
  | 0, _ => none
  | n + 1, x7 => if 12 ≤ x7 then some ((-1000004)) else
 cj_bd (f_X9_of s8 y5 2) (fun (x10 : Int32) =>
 cj_bd (f_X9_of s8 y5 3) (fun (x12 : Int32) =>
 cj_lt (x10 + (x7 * x12)) (fun (x13 : Int32) =>
 cj_lt (x13 - x13 / 12 * 12) (fun (x14 : Int32) =>
 cj_bd (f_X9_seenAt s8 y5 x14) (fun (x16 : Int32) =>
 if ((x16 >>> (y6 &&& 31)) &&& 1) = 1 then some x7 else
 f_X9_seenIn_L23 y5 y6 s8 n (x7 + 1))))))
def f_X9_seenIn (s0 : cj_S) (a1 : Int32) (a2 : Int32) : Option (Int32) :=
  cj_bd (f_X9_isPerson s0 a1) (fun (x2 : Int32) =>
 if x2 = 0 then some ((-1000001)) else
 cj_bd (f_X9_in a2 0 11) (fun (x4 : Int32) =>
 if x4 = 0 then some ((-1000001)) else
 f_X9_seenIn_L23 a1 a2 s0 cj_FU 0))
def f_X9_would_L42 (K : cj_S → Option (Int32 × cj_S)) (y8 : Int32) (y9 : Int32) : Nat → Int32 → cj_S → Option (Int32 × cj_S)
  | 0, _, _ => none
  | n + 1, x10, s11 => if y9 ≤ x10 then K s11 else
 cj_bd (f_X9_minute s11) (fun (s14 : cj_S) =>
 f_X9_would_L42 K y8 y9 n (x10 + 1) s14)
def f_X9_would (s0 : cj_S) (a1 : Int32) (a2 : Int32) : Option (Int32 × cj_S) :=
  cj_bd (f_X9_isPerson s0 a1) (fun (x2 : Int32) =>
 if x2 = 0 then some ((-1000001), s0) else
 cj_bd (f_X9_in a2 0 300) (fun (x4 : Int32) =>
 if x4 = 0 then some ((-1000001), s0) else
 cj_bd (f_X9_copies 1 4 s0) (fun (s6 : cj_S) =>
 cj_lt (cj_up2 s6 1 5 a1) (fun (s7 : cj_S) =>
 f_X9_would_L42 (fun (s15 : cj_S) =>
 cj_bd (f_X9_remembered s15 a1) (fun (x17 : Int32) =>
 cj_bd (f_X9_ones x17) (fun (x19 : Int32) =>
 cj_bd (f_X9_copies 4 1 s15) (fun (s21 : cj_S) =>
 some (x19, s21))))) a1 a2 cj_FU 0 s7))))
def f_X9_bestSale_L20 (K : Int32 → Int32 → Option (Int32)) (y7 : Int32) (s9 : cj_S) : Nat → Int32 → Int32 → Int32 → Option (Int32)
  | 0, _, _, _ => none
  | n + 1, x5, x6, x8 => if (s9 1 1) ≤ x8 then K x5 x6 else
 cj_bd (f_X9_canSell s9 y7 x8) (fun (x13 : Int32) =>
 cj_lt (fun (x15 : Int32) => cj_lt (fun (x17 : Int32) => if x15 = 0 then f_X9_bestSale_L20 K y7 s9 n x17 x6 (x8 + 1) else
 cj_bd (f_X9_priceOf s9 y7 x8) (fun (x19 : Int32) =>
 f_X9_bestSale_L20 K y7 s9 n x17 x19 (x8 + 1))) (fun K16 =>
 if x15 = 0 then K16 x5 else
 K16 ((10 * y7) + x8))) (fun K14 =>
 cj_lt (fun (u : Unit) => K14 0) (fun K20 =>
 if x13 = 0 then K20 () else
 cj_bd (f_X9_priceOf s9 y7 x8) (fun (x22 : Int32) =>
 if x22 ≤ x6 then K20 () else
 K14 1))))
def f_X9_bestSale_L7 (s4 : cj_S) : Nat → Int32 → Int32 → Int32 → Option (Int32)
  | 0, _, _, _ => none
  | n + 1, x1, x2, x3 => if (s4 1 2) ≤ x3 then some x1 else
 f_X9_bestSale_L20 (fun (x23 : Int32) (x24 : Int32) =>
 f_X9_bestSale_L7 s4 n x23 x24 (x3 + 1)) x3 s4 cj_FU x1 x2 0
def f_X9_bestSale (s0 : cj_S) : Option (Int32) :=
  f_X9_bestSale_L7 s0 cj_FU ((-1000004)) ((-1)) 0
def f_X9_best (s0 : cj_S) (a1 : Int32) : Option (Int32) :=
  cj_bd (f_X9_in a1 0 2) (fun (x2 : Int32) =>
 if x2 = 0 then some ((-1000001)) else
 cj_bd (f_X9_bestSale s0) (fun (x4 : Int32) =>
 if 0 ≤ x4 then if a1 = 0 then cj_bd (f_X9_ofSheet s0 (x4 / 10) 0) (fun (x8 : Int32) =>
 some x8) else
 if a1 = 1 then some (x4 - x4 / 10 * 10) else
 cj_bd (f_X9_priceOf s0 (x4 / 10) (x4 - x4 / 10 * 10)) (fun (x6 : Int32) =>
 some x6) else
 some ((-1000004))))
def f_X9_sellAll_L18 (K : Int32 → cj_S → Option (Int32 × cj_S)) : Nat → Int32 → Int32 → cj_S → Option (Int32 × cj_S)
  | 0, _, _, _ => none
  | n + 1, x5, x6, s7 => if x6 < 0 then K x5 s7 else
 cj_bp (f_X9_sells s7 (x6 / 10) (x6 - x6 / 10 * 10)) (fun (x11 : Int32) (s12 : cj_S) =>
 cj_bd (f_X9_bestSale s12) (fun (x14 : Int32) =>
 f_X9_sellAll_L18 K n (x5 + x11) x14 s12))
def f_X9_sellAll (s0 : cj_S) : Option (Int32 × cj_S) :=
  cj_bd (f_X9_copies 1 4 s0) (fun (s2 : cj_S) =>
 cj_bd (f_X9_bestSale s2) (fun (x4 : Int32) =>
 f_X9_sellAll_L18 (fun (x15 : Int32) (s16 : cj_S) =>
 cj_bd (f_X9_copies 4 1 s16) (fun (s18 : cj_S) =>
 some (x15, s18))) cj_FU 0 x4 s2))
def f_Jxf58ca_isNaN_12338 (a0 : UInt32) : Option (Int32) :=
  if (Op.cmpValue (FP.fcmp a0 a0) .l) = 0 then some 0 else
 some 1
def f_Jxf58ca_floatToIntBits_5c35a (a0 : UInt32) : Option (Int32) :=
  cj_bd (f_Jxf58ca_isNaN_12338 a0) (fun (x2 : Int32) =>
 if x2 = 0 then some (UInt32.toInt32 a0) else
 some 2143289344)
def f_X9_mean (s0 : cj_S) : Option (Int32) :=
  cj_lt (fun (x2 : Int32) => cj_gp (FP.fdiv (FP.i2f (s0 1 8)) (FP.i2f x2) &&& 0x7fffffff ≤ 0x7f800000) (
 cj_lt (FP.fdiv (FP.i2f (s0 1 8)) (FP.i2f x2)) (fun (x3 : UInt32) =>
 if (s0 1 7) = 0 then some ((-1000004)) else
 cj_bd (f_Jxf58ca_floatToIntBits_5c35a x3) (fun (x5 : Int32) =>
 some x5)))) (fun K1 =>
 if (s0 1 7) = 0 then K1 1 else
 K1 (s0 1 7))
def f_X9_count (s0 : cj_S) (a1 : Int32) : Option (Int32) :=
  if a1 = 0 then cj_gd a1 183 (
 some (s0 1 a1.toNatClampNeg)) else
 if a1 = 1 then cj_gd a1 183 (
 some (s0 1 a1.toNatClampNeg)) else
 if a1 = 2 then cj_gd a1 183 (
 some (s0 1 a1.toNatClampNeg)) else
 if a1 = 3 then cj_gd a1 183 (
 some (s0 1 a1.toNatClampNeg)) else
 if a1 = 4 then cj_gd a1 183 (
 some (s0 1 a1.toNatClampNeg)) else
 if a1 = 5 then cj_bd (f_X9_day s0) (fun (x7 : Int32) =>
 some x7) else
 if a1 = 6 then some ((s0 1 4) - (s0 1 4) / 300 * 300) else
 if a1 = 7 then if 0 ≤ (s0 1 5) then some (s0 1 5) else
 some ((-1000004)) else
 if a1 = 8 then some (3 - (s0 1 6)) else
 if a1 = 9 then some (s0 1 7) else
 if a1 = 10 then some (s0 1 8) else
 if a1 = 11 then some (s0 0 4) else
 if a1 = 12 then some (s0 0 7) else
 cj_bd (f_X9_in a1 20 21) (fun (x17 : Int32) =>
 if x17 = 0 then some ((-1000001)) else
 cj_gd ((9 + a1) - 20) 183 (
 some (s0 1 ((9 + a1) - 20).toNatClampNeg)))
def f_X9_undo_L22 : Nat → Int32 → cj_S → Option (Int32 × cj_S)
  | 0, _, _ => none
  | n + 1, x2, s3 => if 183 ≤ x2 then some (s3 0 4, s3) else
 cj_gd ((183 * (s3 0 4)) + x2) 732 (
 cj_gd x2 183 (
 cj_lt (cj_up2 s3 1 x2.toNatClampNeg (s3 2 ((183 * (s3 0 4)) + x2).toNatClampNeg)) (fun (s4 : cj_S) =>
 f_X9_undo_L22 n (x2 + 1) s4)))
def f_X9_undo (s0 : cj_S) : Option (Int32 × cj_S) :=
  if (s0 0 4) = 0 then some ((-1000002), s0) else
 cj_lt (cj_up2 s0 0 4 ((s0 0 4) - 1)) (fun (s1 : cj_S) =>
 f_X9_undo_L22 cj_FU 0 s1)
def f_X9_type (s0 : cj_S) (a1 : Int32) : Option (Int32 × cj_S) :=
  cj_bd (f_X9_in a1 32 126) (fun (x2 : Int32) =>
 if x2 = 0 then some ((-1000001), s0) else
 if (s0 0 7) = 60 then some ((-1000003), s0) else
 cj_gd (s0 0 7) 60 (
 cj_lt (cj_up2 s0 5 ((s0 0 7).toNatClampNeg) a1) (fun (s3 : cj_S) =>
 cj_lt (cj_up2 s3 0 7 ((s3 0 7) + 1)) (fun (s4 : cj_S) =>
 some (s4 0 7, s4)))))
def f_X9_clearText (s0 : cj_S) : Option (Int32 × cj_S) :=
  cj_lt (cj_up2 s0 0 7 0) (fun (s1 : cj_S) =>
 some (s0 0 7, s1))
def f_X9_isAt (s0 : cj_S) (a1 : Int32) (a2 : Int32) : Option (Int32) :=
  if (s0 0 7) ≤ (s0 0 8) then some 0 else
 cj_gd (s0 0 8) 60 (
 cj_bd (f_X9_in (s0 5 (s0 0 8).toNatClampNeg) a1 a2) (fun (x2 : Int32) =>
 if x2 = 0 then some 0 else
 some 1))
def f_X9_sign (s0 : cj_S) (a1 : Int32) : Option (Int32 × cj_S) :=
  cj_bd (f_X9_isAt s0 a1 a1) (fun (x2 : Int32) =>
 if x2 = 0 then cj_lt (cj_up2 s0 0 8 ((s0 0 8) + 0)) (fun (s3 : cj_S) =>
 cj_gp (x2 = 0 ∨ x2 = 1) (
 some (x2, s3))) else
 cj_lt (cj_up2 s0 0 8 ((s0 0 8) + 1)) (fun (s4 : cj_S) =>
 cj_gp (x2 = 0 ∨ x2 = 1) (
 some (x2, s4))))
def f_X9_numbered_L12 (K : cj_S → Option (Int32 × cj_S)) (y2 : Int32) (y3 : Int32) : Nat → cj_S → Option (Int32 × cj_S)
  | 0, _ => none
  | n + 1, s4 => cj_bd (f_X9_isAt s4 48 57) (fun (x7 : Int32) =>
 if x7 = 0 then K s4 else
 if 3 ≤ ((s4 0 8) - y3) then K s4 else
 cj_gd y2 2 (
 cj_gd (s4 0 8) 60 (
 cj_gd y2 2 (
 cj_lt (cj_up2 s4 6 y2.toNatClampNeg (((10 * (s4 6 y2.toNatClampNeg)) + (s4 5 (s4 0 8).toNatClampNeg)) - 48)) (fun (s8 : cj_S) =>
 cj_lt (cj_up2 s8 0 8 ((s8 0 8) + 1)) (fun (s9 : cj_S) =>
 f_X9_numbered_L12 K y2 y3 n s9))))))
def f_X9_numbered (s0 : cj_S) (a1 : Int32) : Option (Int32 × cj_S) :=
  cj_gd a1 2 (
 cj_lt (cj_up2 s0 6 a1.toNatClampNeg 0) (fun (s1 : cj_S) =>
 f_X9_numbered_L12 (fun (s10 : cj_S) =>
 if (s10 0 8) ≤ (s0 0 8) then some (0, s10) else
 some (1, s10)) a1 (s0 0 8) cj_FU s1))
def f_X9_numbersOf (a0 : Int32) : Option (Int32) :=
  if a0 = 100 then some 2 else
 if a0 = 115 then some 2 else
 if a0 = 108 then some 1 else
 if a0 = 98 then some 1 else
 if a0 = 118 then some 1 else
 if a0 = 109 then some 1 else
 some 0
def f_X9_reads (s0 : cj_S) : Option (Int32 × cj_S) :=
  cj_bd (f_X9_isAt s0 33 126) (fun (x2 : Int32) =>
 cj_lt (fun (x4 : Int32) => cj_lt (cj_up2 s0 0 13 x4) (fun (s5 : cj_S) =>
 cj_bd (f_X9_numbersOf (s5 0 13)) (fun (x7 : Int32) =>
 if x7 = 0 then some (0, s5) else
 cj_lt (cj_up2 s5 0 8 ((s5 0 8) + 1)) (fun (s8 : cj_S) =>
 cj_bp (f_X9_numbered s8 0) (fun (x10 : Int32) (s11 : cj_S) =>
 cj_lt (fun (x13 : Int32) (s14 : cj_S) => if x13 = 0 then some (0, s14) else
 cj_bp (f_X9_sign s14 59) (fun (x16 : Int32) (s17 : cj_S) =>
 if x16 = 0 then some (0, s17) else
 some (1, s17))) (fun K12 =>
 if x10 = 0 then K12 x10 s11 else
 if x7 = 2 then cj_bp (f_X9_sign s11 44) (fun (x19 : Int32) (s20 : cj_S) =>
 cj_lt (fun (x22 : Int32) (s23 : cj_S) => K12 x22 s23) (fun K21 =>
 cj_lt (fun (s25 : cj_S) => K21 0 s25) (fun K24 =>
 if x19 = 0 then K24 s20 else
 cj_bp (f_X9_numbered s20 1) (fun (x27 : Int32) (s28 : cj_S) =>
 if x27 = 0 then K24 s28 else
 K21 1 s28)))) else
 K12 x10 s11)))))) (fun K3 =>
 if x2 = 0 then K3 0 else
 cj_gd (s0 0 8) 60 (
 K3 (s0 5 (s0 0 8).toNatClampNeg))))
def f_X9_calls (s0 : cj_S) : Option (Int32 × cj_S) :=
  if (s0 0 13) = 98 then cj_bp (f_X9_sheet s0 (s0 6 0)) (fun (x2 : Int32) (s3 : cj_S) =>
 some (x2, s3)) else
 if (s0 0 13) = 100 then cj_bp (f_X9_draw s0 (s0 6 0) (s0 6 1)) (fun (x6 : Int32) (s7 : cj_S) =>
 some (x6, s7)) else
 if (s0 0 13) = 108 then cj_bp (f_X9_look s0 (s0 6 0)) (fun (x10 : Int32) (s11 : cj_S) =>
 some (x10, s11)) else
 if (s0 0 13) = 115 then cj_bp (f_X9_sell s0 (s0 6 0) (s0 6 1)) (fun (x14 : Int32) (s15 : cj_S) =>
 some (x14, s15)) else
 if (s0 0 13) = 118 then cj_bp (f_X9_verdict s0 (s0 6 0)) (fun (x18 : Int32) (s19 : cj_S) =>
 some (x18, s19)) else
 cj_bp (f_X9_pass s0 (s0 6 0)) (fun (x22 : Int32) (s23 : cj_S) =>
 some (x22, s23))
def f_X9_plays_L22 (K : Int32 → cj_S → Option (Int32 × cj_S)) : Nat → Int32 → cj_S → Option (Int32 × cj_S)
  | 0, _, _ => none
  | n + 1, x5, s6 => if (s6 0 7) ≤ (s6 0 8) then K x5 s6 else
 if x5 = 0 then K x5 s6 else
 cj_lt (cj_up2 s6 0 9 (s6 0 8)) (fun (s9 : cj_S) =>
 cj_bp (f_X9_reads s9) (fun (x11 : Int32) (s12 : cj_S) =>
 cj_lt (fun (x14 : Int32) (s15 : cj_S) => cj_lt (fun (x17 : Int32) => cj_lt (fun (x19 : Int32) => cj_lt (cj_up2 s15 0 10 x19) (fun (s20 : cj_S) =>
 cj_lt (fun (x22 : Int32) => cj_lt (cj_up2 s20 0 11 x22) (fun (s23 : cj_S) =>
 cj_lt (cj_up2 s23 0 12 ((s23 0 12) + 1)) (fun (s24 : cj_S) =>
 f_X9_plays_L22 K n x17 s24))) (fun K21 =>
 if x11 = 0 then K21 ((s20 0 8) - (s20 0 9)) else
 K21 x14))) (fun K18 =>
 if x11 = 0 then K18 1 else
 K18 2)) (fun K16 =>
 cj_lt (fun (u : Unit) => K16 0) (fun K25 =>
 if x11 = 0 then K25 () else
 if x14 < 0 then K25 () else
 K16 1))) (fun K13 =>
 if x11 = 0 then K13 0 s12 else
 cj_bp (f_X9_calls s12) (fun (x27 : Int32) (s28 : cj_S) =>
 K13 x27 s28))))
def f_X9_plays (s0 : cj_S) : Option (Int32 × cj_S) :=
  cj_lt (cj_up2 s0 0 5 1) (fun (s1 : cj_S) =>
 cj_lt (cj_up2 s1 0 8 0) (fun (s2 : cj_S) =>
 cj_lt (cj_up2 s2 0 9 0) (fun (s3 : cj_S) =>
 cj_lt (cj_up2 s3 0 12 0) (fun (s4 : cj_S) =>
 f_X9_plays_L22 (fun (x29 : Int32) (s30 : cj_S) =>
 cj_lt (cj_up2 s30 0 5 0) (fun (s31 : cj_S) =>
 cj_gp (x29 = 0 ∨ x29 = 1) (
 some (x29, s31)))) cj_FU 1 s4))))
def f_X9_fault (s0 : cj_S) (a1 : Int32) : Option (Int32 × cj_S) :=
  cj_bd (f_X9_in a1 0 2) (fun (x2 : Int32) =>
 if x2 = 0 then some ((-1000001), s0) else
 cj_bd (f_X9_copies 1 3 s0) (fun (s4 : cj_S) =>
 cj_bp (f_X9_plays s4) (fun (x6 : Int32) (s7 : cj_S) =>
 cj_bd (f_X9_copies 3 1 s7) (fun (s9 : cj_S) =>
 if x6 = 0 then if a1 = 0 then some (s9 0 9, s9) else
 if a1 = 1 then some (s9 0 10, s9) else
 some (s9 0 11, s9) else
 some ((-1000004), s9)))))
def f_X9_play (s0 : cj_S) : Option (Int32 × cj_S) :=
  cj_bd (f_X9_copies 1 3 s0) (fun (s2 : cj_S) =>
 cj_bp (f_X9_plays s2) (fun (x4 : Int32) (s5 : cj_S) =>
 cj_bd (f_X9_copies 3 1 s5) (fun (s7 : cj_S) =>
 if x4 = 0 then some ((-1000002), s7) else
 cj_bd (f_X9_changes s7) (fun (s9 : cj_S) =>
 cj_bp (f_X9_plays s9) (fun (x11 : Int32) (s12 : cj_S) =>
 if x11 = 0 then some ((-1000004), s12) else
 some (s12 0 12, s12))))))
