/-! what each constructor leaves: cells from base on -/
def cj_fl (n : Nat) : Nat → Int32 := fun j => if j < n then (-1) else 0
theorem cj_fl0 : (fun _ => 0 : Nat → Int32) = cj_fl 0 := by funext j; unfold cj_fl; rw [if_neg (Nat.not_lt_zero j)]
theorem cj_flS (n : Nat) : upd (cj_fl n) n (-1) = cj_fl (n + 1) := by
  funext j
  unfold upd cj_fl
  by_cases h : j = n
  · rw [if_pos h, if_pos (by omega)]
  · rw [if_neg h]
    by_cases h2 : j < n
    · rw [if_pos h2, if_pos (by omega)]
    · rw [if_neg h2, if_neg (by omega)]
abbrev cj_z (z : cj_Zc) (n : Nat) : va_E := .inl (z.1, n, .inl (fun _ => 0))
def cj_lP (z : cj_Zc) (b : Nat) : List va_E := [.inr (3, [.int 0, .ref (b + 1), .ref (b + 2), .ref (b + 3), .ref (b + 4), .ref (b + 5), .ref (b + 6), .ref (b + 7)]), cj_z z 6, cj_z z 6, cj_z z 6, cj_z z 6, .inl (z.1, 6, .inl (cj_fl 6)), cj_z z 6, .inl (z.1, 72, .inl (cj_fl 72))]
def cj_lS (z : cj_Zc) (b : Nat) : List va_E := [.inr (6, [.int 0, .int 0, .ref (b + 1), .ref (b + 2), .ref (b + 3), .ref (b + 4)]), cj_z z 10, cj_z z 10, cj_z z 10, cj_z z 10]
def cj_lA (z : cj_Zc) (b : Nat) : List va_E := [.inr (2, [.int 0, .ref (b + 1), .ref (b + 2), .ref (b + 3), .ref (b + 4), .ref (b + 5), .ref (b + 6)]), cj_z z 4, cj_z z 4, cj_z z 4, cj_z z 4, cj_z z 4, cj_z z 4]
def cj_lC (z : cj_Zc) (b : Nat) : List va_E := (([.inr (0, [.ref (b + 1), .ref (b + 9), .ref (b + 14), .int 40, .int 10, .int 0, .int (-1), .int 0, .int 0, .int 0])] ++ cj_lP z (b + 1)) ++ cj_lS z (b + 9)) ++ cj_lA z (b + 14)
def cj_sf (b : Nat) : Nat → Option Nat := va_up (va_up (va_up (va_up (va_up (fun _ => none) 0 (some (b + 2))) 1 (some (b + 23))) 2 (some (b + 44))) 3 (some (b + 65))) 4 (some (b + 86))
def cj_lH (z : cj_Zc) (b : Nat) : List va_E := (((([.inr (1, [.ref (b + 1), .int 0, .int 0]), .inl (z.2.2, 5, .inr (.inr (.inr (.inr (cj_sf b)))))] ++ cj_lC z (b + 2)) ++ cj_lC z (b + 23)) ++ cj_lC z (b + 44)) ++ cj_lC z (b + 65)) ++ cj_lC z (b + 86)
def cj_lT (z : cj_Zc) (b : Nat) : List va_E := [.inr (7, [.ref (b + 1), .int 0, .int 0, .int 0, .int 0, .int 0]), .inl (z.2.1, 60, .inl (fun _ => 0))]
def cj_lJ (z : cj_Zc) (b : Nat) : List va_E := ((((([.inr (8, [.ref (b + 1), .ref (b + 22), .ref (b + 43), .ref (b + 150), .ref (b + 152), .ref (b + 153)])] ++ cj_lC z (b + 1)) ++ cj_lC z (b + 22)) ++ cj_lH z (b + 43)) ++ cj_lT z (b + 150)) ++ [.inr (4, [.int 0, .int 0, .int 0, .int 0])]) ++ [.inr (5, [.int 0, .int 0, .int 0])]
def cj_lM (z : cj_Zc) (b : Nat) : List va_E := [.inr (9, [.ref (b + 1), .ref (b + 2), .ref (b + 3), .ref (b + 4), .int 0, .int 0, .ref (b + 5), .int 0, .int 0, .int 0, .int 0, .int 0, .int 0, .int 0, .ref (b + 6)]), .inl (z.1, 183, .inl (upd (upd (upd (fun _ => 0) 5 (-1)) 9 40) 10 10)), cj_z z 732, cj_z z 183, cj_z z 183, cj_z z 60, cj_z z 2]
theorem cjq_40 : Jvm.Cond.initialized "CourtJotter$Sale" ∈ cj_ws := cj_mem 40 (by decide +kernel) rfl
theorem cjq_50 : Jvm.Cond.code ({ cls := "CourtJotter", name := "<init>", desc := "()V" } : Jvm.MethodName) prog_1_method_1_code (1 : Nat) (Option.none : Option Jvm.ClassFile.FieldType) ∈ cj_ws := cj_mem 50 (by decide +kernel) rfl
theorem cjq_51 : Jvm.Cond.methodLink "CourtJotter" (1 : Nat) ({ cls := "java/lang/Object", name := "<init>", desc := "()V" } : Jvm.MethodName) ∈ cj_ws := cj_mem 51 (by decide +kernel) rfl
theorem cjq_52 : Jvm.Cond.instanceMethod ({ cls := "java/lang/Object", name := "<init>", desc := "()V" } : Jvm.MethodName) ∈ cj_ws := cj_mem 52 (by decide +kernel) rfl
theorem cjq_53 : Jvm.Cond.code ({ cls := "java/lang/Object", name := "<init>", desc := "()V" } : Jvm.MethodName) object_method_1_code (1 : Nat) (Option.none : Option Jvm.ClassFile.FieldType) ∈ cj_ws := cj_mem 53 (by decide +kernel) rfl
theorem cjq_54 : Jvm.Cond.classLink "CourtJotter" (7 : Nat) "CourtJotter$Court" ∈ cj_ws := cj_mem 54 (by decide +kernel) rfl
theorem cjq_55 : Jvm.Cond.instantiable "CourtJotter$Court" (10 : Nat) ∈ cj_ws := cj_mem 55 (by decide +kernel) rfl
theorem cjq_57 : Jvm.Cond.instanceMethod ({ cls := "CourtJotter$Court", name := "<init>", desc := "()V" } : Jvm.MethodName) ∈ cj_ws := cj_mem 57 (by decide +kernel) rfl
theorem cjq_58 : Jvm.Cond.code ({ cls := "CourtJotter$Court", name := "<init>", desc := "()V" } : Jvm.MethodName) prog_2_method_1_code (1 : Nat) (Option.none : Option Jvm.ClassFile.FieldType) ∈ cj_ws := cj_mem 58 (by decide +kernel) rfl
theorem cjq_59 : Jvm.Cond.methodLink "CourtJotter$Court" (3 : Nat) ({ cls := "java/lang/Object", name := "<init>", desc := "()V" } : Jvm.MethodName) ∈ cj_ws := cj_mem 59 (by decide +kernel) rfl
theorem cjq_60 : Jvm.Cond.classLink "CourtJotter$Court" (9 : Nat) "CourtJotter$People" ∈ cj_ws := cj_mem 60 (by decide +kernel) rfl
theorem cjq_61 : Jvm.Cond.instantiable "CourtJotter$People" (8 : Nat) ∈ cj_ws := cj_mem 61 (by decide +kernel) rfl
theorem cjq_62 : Jvm.Cond.methodLink "CourtJotter$Court" (11 : Nat) ({ cls := "CourtJotter$People", name := "<init>", desc := "()V" } : Jvm.MethodName) ∈ cj_ws := cj_mem 62 (by decide +kernel) rfl
theorem cjq_63 : Jvm.Cond.instanceMethod ({ cls := "CourtJotter$People", name := "<init>", desc := "()V" } : Jvm.MethodName) ∈ cj_ws := cj_mem 63 (by decide +kernel) rfl
theorem cjq_64 : Jvm.Cond.code ({ cls := "CourtJotter$People", name := "<init>", desc := "()V" } : Jvm.MethodName) prog_5_method_1_code (2 : Nat) (Option.none : Option Jvm.ClassFile.FieldType) ∈ cj_ws := cj_mem 64 (by decide +kernel) rfl
theorem cjq_65 : Jvm.Cond.methodLink "CourtJotter$People" (3 : Nat) ({ cls := "java/lang/Object", name := "<init>", desc := "()V" } : Jvm.MethodName) ∈ cj_ws := cj_mem 65 (by decide +kernel) rfl
theorem cjq_98 : Jvm.Cond.arrayClass Jvm.ClassFile.FieldType.int ∈ cj_ws := cj_mem 98 (by decide +kernel) rfl
theorem cjq_99 : Jvm.Cond.classLink "CourtJotter$Court" (18 : Nat) "CourtJotter$Sheets" ∈ cj_ws := cj_mem 99 (by decide +kernel) rfl
theorem cjq_100 : Jvm.Cond.instantiable "CourtJotter$Sheets" (6 : Nat) ∈ cj_ws := cj_mem 100 (by decide +kernel) rfl
theorem cjq_102 : Jvm.Cond.instanceMethod ({ cls := "CourtJotter$Sheets", name := "<init>", desc := "()V" } : Jvm.MethodName) ∈ cj_ws := cj_mem 102 (by decide +kernel) rfl
theorem cjq_103 : Jvm.Cond.code ({ cls := "CourtJotter$Sheets", name := "<init>", desc := "()V" } : Jvm.MethodName) prog_8_method_1_code (1 : Nat) (Option.none : Option Jvm.ClassFile.FieldType) ∈ cj_ws := cj_mem 103 (by decide +kernel) rfl
theorem cjq_104 : Jvm.Cond.methodLink "CourtJotter$Sheets" (3 : Nat) ({ cls := "java/lang/Object", name := "<init>", desc := "()V" } : Jvm.MethodName) ∈ cj_ws := cj_mem 104 (by decide +kernel) rfl
theorem cjq_132 : Jvm.Cond.classLink "CourtJotter$Court" (25 : Nat) "CourtJotter$Papers" ∈ cj_ws := cj_mem 132 (by decide +kernel) rfl
theorem cjq_133 : Jvm.Cond.instantiable "CourtJotter$Papers" (7 : Nat) ∈ cj_ws := cj_mem 133 (by decide +kernel) rfl
theorem cjq_135 : Jvm.Cond.instanceMethod ({ cls := "CourtJotter$Papers", name := "<init>", desc := "()V" } : Jvm.MethodName) ∈ cj_ws := cj_mem 135 (by decide +kernel) rfl
theorem cjq_136 : Jvm.Cond.code ({ cls := "CourtJotter$Papers", name := "<init>", desc := "()V" } : Jvm.MethodName) prog_4_method_1_code (1 : Nat) (Option.none : Option Jvm.ClassFile.FieldType) ∈ cj_ws := cj_mem 136 (by decide +kernel) rfl
theorem cjq_137 : Jvm.Cond.methodLink "CourtJotter$Papers" (3 : Nat) ({ cls := "java/lang/Object", name := "<init>", desc := "()V" } : Jvm.MethodName) ∈ cj_ws := cj_mem 137 (by decide +kernel) rfl
theorem cjq_202 : Jvm.Cond.classLink "CourtJotter" (19 : Nat) "CourtJotter$History" ∈ cj_ws := cj_mem 202 (by decide +kernel) rfl
theorem cjq_203 : Jvm.Cond.instantiable "CourtJotter$History" (3 : Nat) ∈ cj_ws := cj_mem 203 (by decide +kernel) rfl
theorem cjq_204 : Jvm.Cond.methodLink "CourtJotter" (21 : Nat) ({ cls := "CourtJotter$History", name := "<init>", desc := "()V" } : Jvm.MethodName) ∈ cj_ws := cj_mem 204 (by decide +kernel) rfl
theorem cjq_205 : Jvm.Cond.instanceMethod ({ cls := "CourtJotter$History", name := "<init>", desc := "()V" } : Jvm.MethodName) ∈ cj_ws := cj_mem 205 (by decide +kernel) rfl
theorem cjq_206 : Jvm.Cond.code ({ cls := "CourtJotter$History", name := "<init>", desc := "()V" } : Jvm.MethodName) prog_3_method_1_code (2 : Nat) (Option.none : Option Jvm.ClassFile.FieldType) ∈ cj_ws := cj_mem 206 (by decide +kernel) rfl
theorem cjq_207 : Jvm.Cond.methodLink "CourtJotter$History" (3 : Nat) ({ cls := "java/lang/Object", name := "<init>", desc := "()V" } : Jvm.MethodName) ∈ cj_ws := cj_mem 207 (by decide +kernel) rfl
theorem cjq_208 : Jvm.Cond.classLink "CourtJotter$History" (11 : Nat) "CourtJotter$Court" ∈ cj_ws := cj_mem 208 (by decide +kernel) rfl
theorem cjq_222 : Jvm.Cond.classLink "CourtJotter" (26 : Nat) "CourtJotter$Text" ∈ cj_ws := cj_mem 222 (by decide +kernel) rfl
theorem cjq_223 : Jvm.Cond.instantiable "CourtJotter$Text" (6 : Nat) ∈ cj_ws := cj_mem 223 (by decide +kernel) rfl
theorem cjq_225 : Jvm.Cond.instanceMethod ({ cls := "CourtJotter$Text", name := "<init>", desc := "()V" } : Jvm.MethodName) ∈ cj_ws := cj_mem 225 (by decide +kernel) rfl
theorem cjq_226 : Jvm.Cond.code ({ cls := "CourtJotter$Text", name := "<init>", desc := "()V" } : Jvm.MethodName) prog_9_method_1_code (1 : Nat) (Option.none : Option Jvm.ClassFile.FieldType) ∈ cj_ws := cj_mem 226 (by decide +kernel) rfl
theorem cjq_227 : Jvm.Cond.methodLink "CourtJotter$Text" (3 : Nat) ({ cls := "java/lang/Object", name := "<init>", desc := "()V" } : Jvm.MethodName) ∈ cj_ws := cj_mem 227 (by decide +kernel) rfl
theorem cjq_253 : Jvm.Cond.arrayClass Jvm.ClassFile.FieldType.char ∈ cj_ws := cj_mem 253 (by decide +kernel) rfl
theorem cjq_254 : Jvm.Cond.classLink "CourtJotter" (33 : Nat) "CourtJotter$Rehearsal" ∈ cj_ws := cj_mem 254 (by decide +kernel) rfl
theorem cjq_255 : Jvm.Cond.instantiable "CourtJotter$Rehearsal" (4 : Nat) ∈ cj_ws := cj_mem 255 (by decide +kernel) rfl
theorem cjq_257 : Jvm.Cond.instanceMethod ({ cls := "CourtJotter$Rehearsal", name := "<init>", desc := "()V" } : Jvm.MethodName) ∈ cj_ws := cj_mem 257 (by decide +kernel) rfl
theorem cjq_258 : Jvm.Cond.code ({ cls := "CourtJotter$Rehearsal", name := "<init>", desc := "()V" } : Jvm.MethodName) prog_6_method_1_code (1 : Nat) (Option.none : Option Jvm.ClassFile.FieldType) ∈ cj_ws := cj_mem 258 (by decide +kernel) rfl
theorem cjq_259 : Jvm.Cond.methodLink "CourtJotter$Rehearsal" (3 : Nat) ({ cls := "java/lang/Object", name := "<init>", desc := "()V" } : Jvm.MethodName) ∈ cj_ws := cj_mem 259 (by decide +kernel) rfl
theorem cjq_277 : Jvm.Cond.classLink "CourtJotter" (40 : Nat) "CourtJotter$Sale" ∈ cj_ws := cj_mem 277 (by decide +kernel) rfl
theorem cjq_278 : Jvm.Cond.instantiable "CourtJotter$Sale" (3 : Nat) ∈ cj_ws := cj_mem 278 (by decide +kernel) rfl
theorem cjq_280 : Jvm.Cond.instanceMethod ({ cls := "CourtJotter$Sale", name := "<init>", desc := "()V" } : Jvm.MethodName) ∈ cj_ws := cj_mem 280 (by decide +kernel) rfl
theorem cjq_281 : Jvm.Cond.code ({ cls := "CourtJotter$Sale", name := "<init>", desc := "()V" } : Jvm.MethodName) prog_7_method_1_code (1 : Nat) (Option.none : Option Jvm.ClassFile.FieldType) ∈ cj_ws := cj_mem 281 (by decide +kernel) rfl
theorem cjq_282 : Jvm.Cond.methodLink "CourtJotter$Sale" (1 : Nat) ({ cls := "java/lang/Object", name := "<init>", desc := "()V" } : Jvm.MethodName) ∈ cj_ws := cj_mem 282 (by decide +kernel) rfl
theorem cjq_718 : Jvm.Cond.code ({ cls := "CourtJotterModel", name := "<init>", desc := "()V" } : Jvm.MethodName) prog_11_method_1_code (1 : Nat) (Option.none : Option Jvm.ClassFile.FieldType) ∈ cj_ws := cj_mem 718 (by decide +kernel) rfl
theorem cjq_719 : Jvm.Cond.methodLink "CourtJotterModel" (1 : Nat) ({ cls := "java/lang/Object", name := "<init>", desc := "()V" } : Jvm.MethodName) ∈ cj_ws := cj_mem 719 (by decide +kernel) rfl
theorem cw_X3_init : cj_cw yX3_init cX3_init 2 0 none := ⟨cjq_64, cjq_34, by decide +kernel, by decide +kernel, by decide +kernel⟩
theorem cw_X6_init : cj_cw yX6_init cX6_init 1 0 none := ⟨cjq_103, cjq_35, by decide +kernel, by decide +kernel, by decide +kernel⟩
theorem cw_X2_init : cj_cw yX2_init cX2_init 1 0 none := ⟨cjq_136, cjq_36, by decide +kernel, by decide +kernel, by decide +kernel⟩
theorem cw_X0_init : cj_cw yX0_init cX0_init 1 0 none := ⟨cjq_58, cjq_33, by decide +kernel, by decide +kernel, by decide +kernel⟩
theorem cw_X7_init : cj_cw yX7_init cX7_init 1 0 none := ⟨cjq_226, cjq_38, by decide +kernel, by decide +kernel, by decide +kernel⟩
theorem cw_X4_init : cj_cw yX4_init cX4_init 1 0 none := ⟨cjq_258, cjq_39, by decide +kernel, by decide +kernel, by decide +kernel⟩
theorem cw_X5_init : cj_cw yX5_init cX5_init 1 0 none := ⟨cjq_281, cjq_40, by decide +kernel, by decide +kernel, by decide +kernel⟩
theorem cw_X1_init : cj_cw yX1_init cX1_init 2 0 none := ⟨cjq_206, cjq_37, by decide +kernel, by decide +kernel, by decide +kernel⟩
theorem cw_X8_init : cj_cw yX8_init cX8_init 1 0 none := ⟨cjq_50, cjq_32, by decide +kernel, by decide +kernel, by decide +kernel⟩
theorem cw_X9_init : cj_cw yX9_init cX9_init 1 0 none := ⟨cjq_718, cjq_41, by decide +kernel, by decide +kernel, by decide +kernel⟩
set_option maxHeartbeats 4000000 in
set_option maxRecDepth 100000 in
theorem cjb_fillA {D : va_G} {z : cj_Zc} {base : Nat} {X : cj_X} {Q : State → Prop} {n0 m0 : Nat} (C : cj_BC (X, D, z, base) cX3_init 2 RX3 1 7 108) (kk : ∀ cs2, cs2 = [.inr (3, [.int 0, .ref (base + 1), .ref (base + 2), .ref (base + 3), .ref (base + 4), .ref (base + 5), .ref (base + 6), .ref (base + 7)]), cj_z z 6, cj_z z 6, cj_z z 6, cj_z z 6, .inl (z.1, 6, .inl (cj_fl 6)), cj_z z 6, cj_z z 72] → cj_B (X, D, z, base) Q cs2 84 [(0, .ref base)] [] n0 m0) : ∀ (k i : Nat), i + k = 6 → cj_B (X, D, z, base) Q [.inr (3, [.int 0, .ref (base + 1), .ref (base + 2), .ref (base + 3), .ref (base + 4), .ref (base + 5), .ref (base + 6), .ref (base + 7)]), cj_z z 6, cj_z z 6, cj_z z 6, cj_z z 6, .inl (z.1, 6, .inl (cj_fl i)), cj_z z 6, cj_z z 72] 62 [(1, .int (nI i)), (0, .ref base)] [] n0 m0 := by
  intro k
  induction k with
  | zero =>
    intro i hi
    have hi : i = 6 := by omega
    subst hi
    refine cjb_iload_n C dX3_init_62 rfl 0 rfl ?_
    refine cjb_aload_n C dX3_init_63 rfl 1 rfl ?_
    refine cjb_get (i := 0) (k := 5) (v := .ref (base + 5)) C rfl rfl cj_in3 (by decide) rfl cjq_76 rfl dX3_init_64 ?_
    refine cjb_alen (i := 5) (t0 := 0) C rfl rfl rfl dX3_init_67 ?_
    refine cjb_geT C 84 dX3_init_68 rfl (by decide) ?_
    refine cjb_sub [1] rfl ?_
    exact kk _ rfl
  | succ k ih =>
    intro i hi
    refine cjb_iload_n C dX3_init_62 rfl 0 rfl ?_
    refine cjb_aload_n C dX3_init_63 rfl 1 rfl ?_
    refine cjb_get (i := 0) (k := 5) (v := .ref (base + 5)) C rfl rfl cj_in3 (by decide) rfl cjq_76 rfl dX3_init_64 ?_
    refine cjb_alen (i := 5) (t0 := 0) C rfl rfl rfl dX3_init_67 ?_
    refine cjb_geF C 84 dX3_init_68 rfl (nI_ge (by omega) (by omega)) ?_
    refine cjb_aload_n C dX3_init_71 rfl 1 rfl ?_
    refine cjb_get (i := 0) (k := 5) (v := .ref (base + 5)) C rfl rfl cj_in3 (by decide) rfl cjq_76 rfl dX3_init_72 ?_
    refine cjb_iload_n C dX3_init_75 rfl 0 rfl ?_
    refine cjb_iconst C (-1) dX3_init_76 rfl ?_
    refine cjb_iast (i := 5) C rfl (vp_in_nI (by omega) (by omega)) dX3_init_77 rfl ?_
    rw [nI_clamp (by omega), cj_flS]
    refine cjb_iinc (lv' := [(1, .int (nI (i + 1))), (0, .ref base)]) C dX3_init_78 (j := 0) rfl (nI_1 i) (by decide) rfl ?_
    refine cjb_goto C 62 dX3_init_81 rfl ?_
    exact ih (i + 1) (by omega)
set_option maxHeartbeats 4000000 in
set_option maxRecDepth 100000 in
theorem cjb_fillB {D : va_G} {z : cj_Zc} {base : Nat} {X : cj_X} {Q : State → Prop} {n0 m0 : Nat} (C : cj_BC (X, D, z, base) cX3_init 2 RX3 1 7 108) (kk : ∀ cs2, cs2 = [.inr (3, [.int 0, .ref (base + 1), .ref (base + 2), .ref (base + 3), .ref (base + 4), .ref (base + 5), .ref (base + 6), .ref (base + 7)]), cj_z z 6, cj_z z 6, cj_z z 6, cj_z z 6, .inl (z.1, 6, .inl (cj_fl 6)), cj_z z 6, .inl (z.1, 72, .inl (cj_fl 72))] → cj_B (X, D, z, base) Q cs2 108 [(0, .ref base)] [] n0 m0) : ∀ (k i : Nat), i + k = 72 → cj_B (X, D, z, base) Q [.inr (3, [.int 0, .ref (base + 1), .ref (base + 2), .ref (base + 3), .ref (base + 4), .ref (base + 5), .ref (base + 6), .ref (base + 7)]), cj_z z 6, cj_z z 6, cj_z z 6, cj_z z 6, .inl (z.1, 6, .inl (cj_fl 6)), cj_z z 6, .inl (z.1, 72, .inl (cj_fl i))] 86 [(1, .int (nI i)), (0, .ref base)] [] n0 m0 := by
  intro k
  induction k with
  | zero =>
    intro i hi
    have hi : i = 72 := by omega
    subst hi
    refine cjb_iload_n C dX3_init_86 rfl 0 rfl ?_
    refine cjb_aload_n C dX3_init_87 rfl 1 rfl ?_
    refine cjb_get (i := 0) (k := 7) (v := .ref (base + 7)) C rfl rfl cj_in3 (by decide) rfl cjq_80 rfl dX3_init_88 ?_
    refine cjb_alen (i := 7) (t0 := 0) C rfl rfl rfl dX3_init_91 ?_
    refine cjb_geT C 108 dX3_init_92 rfl (by decide) ?_
    refine cjb_sub [1] rfl ?_
    exact kk _ rfl
  | succ k ih =>
    intro i hi
    refine cjb_iload_n C dX3_init_86 rfl 0 rfl ?_
    refine cjb_aload_n C dX3_init_87 rfl 1 rfl ?_
    refine cjb_get (i := 0) (k := 7) (v := .ref (base + 7)) C rfl rfl cj_in3 (by decide) rfl cjq_80 rfl dX3_init_88 ?_
    refine cjb_alen (i := 7) (t0 := 0) C rfl rfl rfl dX3_init_91 ?_
    refine cjb_geF C 108 dX3_init_92 rfl (nI_ge (by omega) (by omega)) ?_
    refine cjb_aload_n C dX3_init_95 rfl 1 rfl ?_
    refine cjb_get (i := 0) (k := 7) (v := .ref (base + 7)) C rfl rfl cj_in3 (by decide) rfl cjq_80 rfl dX3_init_96 ?_
    refine cjb_iload_n C dX3_init_99 rfl 0 rfl ?_
    refine cjb_iconst C (-1) dX3_init_100 rfl ?_
    refine cjb_iast (i := 7) C rfl (vp_in_nI (by omega) (by omega)) dX3_init_101 rfl ?_
    rw [nI_clamp (by omega), cj_flS]
    refine cjb_iinc (lv' := [(1, .int (nI (i + 1))), (0, .ref base)]) C dX3_init_102 (j := 0) rfl (nI_1 i) (by decide) rfl ?_
    refine cjb_goto C 86 dX3_init_105 rfl ?_
    exact ih (i + 1) (by omega)
set_option maxHeartbeats 4000000 in
set_option maxRecDepth 100000 in
theorem ct_X3_init {l : Launch} {D : va_G} {z : cj_Zc} (base : Nat) : cj_Bt l D z yX3_init cX3_init 2 1 7 108 base (.inr (3, [.int 0, .null, .null, .null, .null, .null, .null, .null])) (cj_lP z base) := by
  refine cj_Bt.of (by decide +kernel) rfl (by decide) (fun X hX C => ?_)
  subst hX
  have C : cj_BC (X, D, z, base) cX3_init 2 RX3 1 7 108 := C
  refine cjb_aload_n C dX3_init_0 rfl 0 rfl ?_
  refine cjb_obj C cjq_65 cjq_52 cjq_53 (by decide) (Nat.le_of_ble_eq_true rfl) dX3_init_1 ?_
  refine cjb_aload_n C dX3_init_4 rfl 0 rfl ?_
  refine cjb_bipush C 6 dX3_init_5 rfl ?_
  refine cjb_newa (n := 1) (N := 6) (t0 := 0) (at_ := .int) (ty := .int) C rfl cjq_98 rfl (fun _ h => h) rfl (by decide) rfl (Nat.le_of_ble_eq_true rfl) rfl (Nat.le_of_ble_eq_true rfl) (Nat.le_of_ble_eq_true rfl) dX3_init_7 ?_
  show cj_B _ _ [.inr (3, [.int 0, .null, .null, .null, .null, .null, .null, .null]), cj_z z 6] _ _ _ _ _
  refine cjb_putF (i := 0) (k := 1) (cs2 := [.inr (3, [.int 0, .ref (base + 1), .null, .null, .null, .null, .null, .null]), cj_z z 6]) C rfl rfl cj_in3 tyX3_ok nmX3 (by decide) rfl ⟨rfl, by decide +kernel⟩ cjq_68 rfl rfl rfl (Nat.le_of_ble_eq_true rfl) dX3_init_9 rfl ?_
  refine cjb_aload_n C dX3_init_12 rfl 0 rfl ?_
  refine cjb_bipush C 6 dX3_init_13 rfl ?_
  refine cjb_newa (n := 2) (N := 6) (t0 := 0) (at_ := .int) (ty := .int) C rfl cjq_98 rfl (fun _ h => h) rfl (by decide) rfl (Nat.le_of_ble_eq_true rfl) rfl (Nat.le_of_ble_eq_true rfl) (Nat.le_of_ble_eq_true rfl) dX3_init_15 ?_
  show cj_B _ _ [.inr (3, [.int 0, .ref (base + 1), .null, .null, .null, .null, .null, .null]), cj_z z 6, cj_z z 6] _ _ _ _ _
  refine cjb_putF (i := 0) (k := 2) (cs2 := [.inr (3, [.int 0, .ref (base + 1), .ref (base + 2), .null, .null, .null, .null, .null]), cj_z z 6, cj_z z 6]) C rfl rfl cj_in3 tyX3_ok nmX3 (by decide) rfl ⟨rfl, by decide +kernel⟩ cjq_70 rfl rfl rfl (Nat.le_of_ble_eq_true rfl) dX3_init_17 rfl ?_
  refine cjb_aload_n C dX3_init_20 rfl 0 rfl ?_
  refine cjb_bipush C 6 dX3_init_21 rfl ?_
  refine cjb_newa (n := 3) (N := 6) (t0 := 0) (at_ := .int) (ty := .int) C rfl cjq_98 rfl (fun _ h => h) rfl (by decide) rfl (Nat.le_of_ble_eq_true rfl) rfl (Nat.le_of_ble_eq_true rfl) (Nat.le_of_ble_eq_true rfl) dX3_init_23 ?_
  show cj_B _ _ [.inr (3, [.int 0, .ref (base + 1), .ref (base + 2), .null, .null, .null, .null, .null]), cj_z z 6, cj_z z 6, cj_z z 6] _ _ _ _ _
  refine cjb_putF (i := 0) (k := 3) (cs2 := [.inr (3, [.int 0, .ref (base + 1), .ref (base + 2), .ref (base + 3), .null, .null, .null, .null]), cj_z z 6, cj_z z 6, cj_z z 6]) C rfl rfl cj_in3 tyX3_ok nmX3 (by decide) rfl ⟨rfl, by decide +kernel⟩ cjq_72 rfl rfl rfl (Nat.le_of_ble_eq_true rfl) dX3_init_25 rfl ?_
  refine cjb_aload_n C dX3_init_28 rfl 0 rfl ?_
  refine cjb_bipush C 6 dX3_init_29 rfl ?_
  refine cjb_newa (n := 4) (N := 6) (t0 := 0) (at_ := .int) (ty := .int) C rfl cjq_98 rfl (fun _ h => h) rfl (by decide) rfl (Nat.le_of_ble_eq_true rfl) rfl (Nat.le_of_ble_eq_true rfl) (Nat.le_of_ble_eq_true rfl) dX3_init_31 ?_
  show cj_B _ _ [.inr (3, [.int 0, .ref (base + 1), .ref (base + 2), .ref (base + 3), .null, .null, .null, .null]), cj_z z 6, cj_z z 6, cj_z z 6, cj_z z 6] _ _ _ _ _
  refine cjb_putF (i := 0) (k := 4) (cs2 := [.inr (3, [.int 0, .ref (base + 1), .ref (base + 2), .ref (base + 3), .ref (base + 4), .null, .null, .null]), cj_z z 6, cj_z z 6, cj_z z 6, cj_z z 6]) C rfl rfl cj_in3 tyX3_ok nmX3 (by decide) rfl ⟨rfl, by decide +kernel⟩ cjq_74 rfl rfl rfl (Nat.le_of_ble_eq_true rfl) dX3_init_33 rfl ?_
  refine cjb_aload_n C dX3_init_36 rfl 0 rfl ?_
  refine cjb_bipush C 6 dX3_init_37 rfl ?_
  refine cjb_newa (n := 5) (N := 6) (t0 := 0) (at_ := .int) (ty := .int) C rfl cjq_98 rfl (fun _ h => h) rfl (by decide) rfl (Nat.le_of_ble_eq_true rfl) rfl (Nat.le_of_ble_eq_true rfl) (Nat.le_of_ble_eq_true rfl) dX3_init_39 ?_
  show cj_B _ _ [.inr (3, [.int 0, .ref (base + 1), .ref (base + 2), .ref (base + 3), .ref (base + 4), .null, .null, .null]), cj_z z 6, cj_z z 6, cj_z z 6, cj_z z 6, cj_z z 6] _ _ _ _ _
  refine cjb_putF (i := 0) (k := 5) (cs2 := [.inr (3, [.int 0, .ref (base + 1), .ref (base + 2), .ref (base + 3), .ref (base + 4), .ref (base + 5), .null, .null]), cj_z z 6, cj_z z 6, cj_z z 6, cj_z z 6, cj_z z 6]) C rfl rfl cj_in3 tyX3_ok nmX3 (by decide) rfl ⟨rfl, by decide +kernel⟩ cjq_76 rfl rfl rfl (Nat.le_of_ble_eq_true rfl) dX3_init_41 rfl ?_
  refine cjb_aload_n C dX3_init_44 rfl 0 rfl ?_
  refine cjb_bipush C 6 dX3_init_45 rfl ?_
  refine cjb_newa (n := 6) (N := 6) (t0 := 0) (at_ := .int) (ty := .int) C rfl cjq_98 rfl (fun _ h => h) rfl (by decide) rfl (Nat.le_of_ble_eq_true rfl) rfl (Nat.le_of_ble_eq_true rfl) (Nat.le_of_ble_eq_true rfl) dX3_init_47 ?_
  show cj_B _ _ [.inr (3, [.int 0, .ref (base + 1), .ref (base + 2), .ref (base + 3), .ref (base + 4), .ref (base + 5), .null, .null]), cj_z z 6, cj_z z 6, cj_z z 6, cj_z z 6, cj_z z 6, cj_z z 6] _ _ _ _ _
  refine cjb_putF (i := 0) (k := 6) (cs2 := [.inr (3, [.int 0, .ref (base + 1), .ref (base + 2), .ref (base + 3), .ref (base + 4), .ref (base + 5), .ref (base + 6), .null]), cj_z z 6, cj_z z 6, cj_z z 6, cj_z z 6, cj_z z 6, cj_z z 6]) C rfl rfl cj_in3 tyX3_ok nmX3 (by decide) rfl ⟨rfl, by decide +kernel⟩ cjq_78 rfl rfl rfl (Nat.le_of_ble_eq_true rfl) dX3_init_49 rfl ?_
  refine cjb_aload_n C dX3_init_52 rfl 0 rfl ?_
  refine cjb_bipush C 72 dX3_init_53 rfl ?_
  refine cjb_newa (n := 7) (N := 72) (t0 := 0) (at_ := .int) (ty := .int) C rfl cjq_98 rfl (fun _ h => h) rfl (by decide) rfl (Nat.le_of_ble_eq_true rfl) rfl (Nat.le_of_ble_eq_true rfl) (Nat.le_of_ble_eq_true rfl) dX3_init_55 ?_
  show cj_B _ _ [.inr (3, [.int 0, .ref (base + 1), .ref (base + 2), .ref (base + 3), .ref (base + 4), .ref (base + 5), .ref (base + 6), .null]), cj_z z 6, cj_z z 6, cj_z z 6, cj_z z 6, cj_z z 6, cj_z z 6, cj_z z 72] _ _ _ _ _
  refine cjb_putF (i := 0) (k := 7) (cs2 := [.inr (3, [.int 0, .ref (base + 1), .ref (base + 2), .ref (base + 3), .ref (base + 4), .ref (base + 5), .ref (base + 6), .ref (base + 7)]), cj_z z 6, cj_z z 6, cj_z z 6, cj_z z 6, cj_z z 6, cj_z z 6, cj_z z 72]) C rfl rfl cj_in3 tyX3_ok nmX3 (by decide) rfl ⟨rfl, by decide +kernel⟩ cjq_80 rfl rfl rfl (Nat.le_of_ble_eq_true rfl) dX3_init_57 rfl ?_
  refine cjb_iconst C 0 dX3_init_60 rfl ?_
  refine cjb_istore_n (lv' := [(1, .int 0), (0, .ref base)]) C dX3_init_61 rfl (by decide) rfl ?_
  refine cjb_fillA C (fun cs2 h => ?_) 6 0 rfl
  subst h
  refine cjb_iconst C 0 dX3_init_84 rfl ?_
  refine cjb_istore_n (lv' := [(1, .int 0), (0, .ref base)]) C dX3_init_85 rfl (by decide) rfl ?_
  refine cjb_fillB C (fun cs2 h => ?_) 72 0 rfl
  subst h
  exact cjb_ret (by decide +kernel) C rfl rfl dX3_init_108
set_option maxHeartbeats 4000000 in
set_option maxRecDepth 100000 in
theorem ct_X6_init {l : Launch} {D : va_G} {z : cj_Zc} (base : Nat) : cj_Bt l D z yX6_init cX6_init 1 1 4 40 base (.inr (6, [.int 0, .int 0, .null, .null, .null, .null])) (cj_lS z base) := by
  refine cj_Bt.of (by decide +kernel) rfl (by decide) (fun X hX C => ?_)
  subst hX
  have C : cj_BC (X, D, z, base) cX6_init 1 RX6 1 4 40 := C
  refine cjb_aload_n C dX6_init_0 rfl 0 rfl ?_
  refine cjb_obj C cjq_104 cjq_52 cjq_53 (by decide) (Nat.le_of_ble_eq_true rfl) dX6_init_1 ?_
  refine cjb_aload_n C dX6_init_4 rfl 0 rfl ?_
  refine cjb_bipush C 10 dX6_init_5 rfl ?_
  refine cjb_newa (n := 1) (N := 10) (t0 := 0) (at_ := .int) (ty := .int) C rfl cjq_98 rfl (fun _ h => h) rfl (by decide) rfl (Nat.le_of_ble_eq_true rfl) rfl (Nat.le_of_ble_eq_true rfl) (Nat.le_of_ble_eq_true rfl) dX6_init_7 ?_
  show cj_B _ _ [.inr (6, [.int 0, .int 0, .null, .null, .null, .null]), cj_z z 10] _ _ _ _ _
  refine cjb_putF (i := 0) (k := 2) (cs2 := [.inr (6, [.int 0, .int 0, .ref (base + 1), .null, .null, .null]), cj_z z 10]) C rfl rfl cj_in6 tyX6_ok nmX6 (by decide) rfl ⟨rfl, by decide +kernel⟩ cjq_110 rfl rfl rfl (Nat.le_of_ble_eq_true rfl) dX6_init_9 rfl ?_
  refine cjb_aload_n C dX6_init_12 rfl 0 rfl ?_
  refine cjb_bipush C 10 dX6_init_13 rfl ?_
  refine cjb_newa (n := 2) (N := 10) (t0 := 0) (at_ := .int) (ty := .int) C rfl cjq_98 rfl (fun _ h => h) rfl (by decide) rfl (Nat.le_of_ble_eq_true rfl) rfl (Nat.le_of_ble_eq_true rfl) (Nat.le_of_ble_eq_true rfl) dX6_init_15 ?_
  show cj_B _ _ [.inr (6, [.int 0, .int 0, .ref (base + 1), .null, .null, .null]), cj_z z 10, cj_z z 10] _ _ _ _ _
  refine cjb_putF (i := 0) (k := 3) (cs2 := [.inr (6, [.int 0, .int 0, .ref (base + 1), .ref (base + 2), .null, .null]), cj_z z 10, cj_z z 10]) C rfl rfl cj_in6 tyX6_ok nmX6 (by decide) rfl ⟨rfl, by decide +kernel⟩ cjq_113 rfl rfl rfl (Nat.le_of_ble_eq_true rfl) dX6_init_17 rfl ?_
  refine cjb_aload_n C dX6_init_20 rfl 0 rfl ?_
  refine cjb_bipush C 10 dX6_init_21 rfl ?_
  refine cjb_newa (n := 3) (N := 10) (t0 := 0) (at_ := .int) (ty := .int) C rfl cjq_98 rfl (fun _ h => h) rfl (by decide) rfl (Nat.le_of_ble_eq_true rfl) rfl (Nat.le_of_ble_eq_true rfl) (Nat.le_of_ble_eq_true rfl) dX6_init_23 ?_
  show cj_B _ _ [.inr (6, [.int 0, .int 0, .ref (base + 1), .ref (base + 2), .null, .null]), cj_z z 10, cj_z z 10, cj_z z 10] _ _ _ _ _
  refine cjb_putF (i := 0) (k := 4) (cs2 := [.inr (6, [.int 0, .int 0, .ref (base + 1), .ref (base + 2), .ref (base + 3), .null]), cj_z z 10, cj_z z 10, cj_z z 10]) C rfl rfl cj_in6 tyX6_ok nmX6 (by decide) rfl ⟨rfl, by decide +kernel⟩ cjq_115 rfl rfl rfl (Nat.le_of_ble_eq_true rfl) dX6_init_25 rfl ?_
  refine cjb_aload_n C dX6_init_28 rfl 0 rfl ?_
  refine cjb_bipush C 10 dX6_init_29 rfl ?_
  refine cjb_newa (n := 4) (N := 10) (t0 := 0) (at_ := .int) (ty := .int) C rfl cjq_98 rfl (fun _ h => h) rfl (by decide) rfl (Nat.le_of_ble_eq_true rfl) rfl (Nat.le_of_ble_eq_true rfl) (Nat.le_of_ble_eq_true rfl) dX6_init_31 ?_
  show cj_B _ _ [.inr (6, [.int 0, .int 0, .ref (base + 1), .ref (base + 2), .ref (base + 3), .null]), cj_z z 10, cj_z z 10, cj_z z 10, cj_z z 10] _ _ _ _ _
  refine cjb_putF (i := 0) (k := 5) (cs2 := [.inr (6, [.int 0, .int 0, .ref (base + 1), .ref (base + 2), .ref (base + 3), .ref (base + 4)]), cj_z z 10, cj_z z 10, cj_z z 10, cj_z z 10]) C rfl rfl cj_in6 tyX6_ok nmX6 (by decide) rfl ⟨rfl, by decide +kernel⟩ cjq_117 rfl rfl rfl (Nat.le_of_ble_eq_true rfl) dX6_init_33 rfl ?_
  exact cjb_ret (by decide +kernel) C rfl rfl dX6_init_36
set_option maxHeartbeats 4000000 in
set_option maxRecDepth 100000 in
theorem ct_X2_init {l : Launch} {D : va_G} {z : cj_Zc} (base : Nat) : cj_Bt l D z yX2_init cX2_init 1 1 6 24 base (.inr (2, [.int 0, .null, .null, .null, .null, .null, .null])) (cj_lA z base) := by
  refine cj_Bt.of (by decide +kernel) rfl (by decide) (fun X hX C => ?_)
  subst hX
  have C : cj_BC (X, D, z, base) cX2_init 1 RX2 1 6 24 := C
  refine cjb_aload_n C dX2_init_0 rfl 0 rfl ?_
  refine cjb_obj C cjq_137 cjq_52 cjq_53 (by decide) (Nat.le_of_ble_eq_true rfl) dX2_init_1 ?_
  refine cjb_aload_n C dX2_init_4 rfl 0 rfl ?_
  refine cjb_iconst C 4 dX2_init_5 rfl ?_
  refine cjb_newa (n := 1) (N := 4) (t0 := 0) (at_ := .int) (ty := .int) C rfl cjq_98 rfl (fun _ h => h) rfl (by decide) rfl (Nat.le_of_ble_eq_true rfl) rfl (Nat.le_of_ble_eq_true rfl) (Nat.le_of_ble_eq_true rfl) dX2_init_6 ?_
  show cj_B _ _ [.inr (2, [.int 0, .null, .null, .null, .null, .null, .null]), cj_z z 4] _ _ _ _ _
  refine cjb_putF (i := 0) (k := 1) (cs2 := [.inr (2, [.int 0, .ref (base + 1), .null, .null, .null, .null, .null]), cj_z z 4]) C rfl rfl cj_in2 tyX2_ok nmX2 (by decide) rfl ⟨rfl, by decide +kernel⟩ cjq_140 rfl rfl rfl (Nat.le_of_ble_eq_true rfl) dX2_init_8 rfl ?_
  refine cjb_aload_n C dX2_init_11 rfl 0 rfl ?_
  refine cjb_iconst C 4 dX2_init_12 rfl ?_
  refine cjb_newa (n := 2) (N := 4) (t0 := 0) (at_ := .int) (ty := .int) C rfl cjq_98 rfl (fun _ h => h) rfl (by decide) rfl (Nat.le_of_ble_eq_true rfl) rfl (Nat.le_of_ble_eq_true rfl) (Nat.le_of_ble_eq_true rfl) dX2_init_13 ?_
  show cj_B _ _ [.inr (2, [.int 0, .ref (base + 1), .null, .null, .null, .null, .null]), cj_z z 4, cj_z z 4] _ _ _ _ _
  refine cjb_putF (i := 0) (k := 2) (cs2 := [.inr (2, [.int 0, .ref (base + 1), .ref (base + 2), .null, .null, .null, .null]), cj_z z 4, cj_z z 4]) C rfl rfl cj_in2 tyX2_ok nmX2 (by decide) rfl ⟨rfl, by decide +kernel⟩ cjq_142 rfl rfl rfl (Nat.le_of_ble_eq_true rfl) dX2_init_15 rfl ?_
  refine cjb_aload_n C dX2_init_18 rfl 0 rfl ?_
  refine cjb_iconst C 4 dX2_init_19 rfl ?_
  refine cjb_newa (n := 3) (N := 4) (t0 := 0) (at_ := .int) (ty := .int) C rfl cjq_98 rfl (fun _ h => h) rfl (by decide) rfl (Nat.le_of_ble_eq_true rfl) rfl (Nat.le_of_ble_eq_true rfl) (Nat.le_of_ble_eq_true rfl) dX2_init_20 ?_
  show cj_B _ _ [.inr (2, [.int 0, .ref (base + 1), .ref (base + 2), .null, .null, .null, .null]), cj_z z 4, cj_z z 4, cj_z z 4] _ _ _ _ _
  refine cjb_putF (i := 0) (k := 3) (cs2 := [.inr (2, [.int 0, .ref (base + 1), .ref (base + 2), .ref (base + 3), .null, .null, .null]), cj_z z 4, cj_z z 4, cj_z z 4]) C rfl rfl cj_in2 tyX2_ok nmX2 (by decide) rfl ⟨rfl, by decide +kernel⟩ cjq_144 rfl rfl rfl (Nat.le_of_ble_eq_true rfl) dX2_init_22 rfl ?_
  refine cjb_aload_n C dX2_init_25 rfl 0 rfl ?_
  refine cjb_iconst C 4 dX2_init_26 rfl ?_
  refine cjb_newa (n := 4) (N := 4) (t0 := 0) (at_ := .int) (ty := .int) C rfl cjq_98 rfl (fun _ h => h) rfl (by decide) rfl (Nat.le_of_ble_eq_true rfl) rfl (Nat.le_of_ble_eq_true rfl) (Nat.le_of_ble_eq_true rfl) dX2_init_27 ?_
  show cj_B _ _ [.inr (2, [.int 0, .ref (base + 1), .ref (base + 2), .ref (base + 3), .null, .null, .null]), cj_z z 4, cj_z z 4, cj_z z 4, cj_z z 4] _ _ _ _ _
  refine cjb_putF (i := 0) (k := 4) (cs2 := [.inr (2, [.int 0, .ref (base + 1), .ref (base + 2), .ref (base + 3), .ref (base + 4), .null, .null]), cj_z z 4, cj_z z 4, cj_z z 4, cj_z z 4]) C rfl rfl cj_in2 tyX2_ok nmX2 (by decide) rfl ⟨rfl, by decide +kernel⟩ cjq_146 rfl rfl rfl (Nat.le_of_ble_eq_true rfl) dX2_init_29 rfl ?_
  refine cjb_aload_n C dX2_init_32 rfl 0 rfl ?_
  refine cjb_iconst C 4 dX2_init_33 rfl ?_
  refine cjb_newa (n := 5) (N := 4) (t0 := 0) (at_ := .int) (ty := .int) C rfl cjq_98 rfl (fun _ h => h) rfl (by decide) rfl (Nat.le_of_ble_eq_true rfl) rfl (Nat.le_of_ble_eq_true rfl) (Nat.le_of_ble_eq_true rfl) dX2_init_34 ?_
  show cj_B _ _ [.inr (2, [.int 0, .ref (base + 1), .ref (base + 2), .ref (base + 3), .ref (base + 4), .null, .null]), cj_z z 4, cj_z z 4, cj_z z 4, cj_z z 4, cj_z z 4] _ _ _ _ _
  refine cjb_putF (i := 0) (k := 5) (cs2 := [.inr (2, [.int 0, .ref (base + 1), .ref (base + 2), .ref (base + 3), .ref (base + 4), .ref (base + 5), .null]), cj_z z 4, cj_z z 4, cj_z z 4, cj_z z 4, cj_z z 4]) C rfl rfl cj_in2 tyX2_ok nmX2 (by decide) rfl ⟨rfl, by decide +kernel⟩ cjq_148 rfl rfl rfl (Nat.le_of_ble_eq_true rfl) dX2_init_36 rfl ?_
  refine cjb_aload_n C dX2_init_39 rfl 0 rfl ?_
  refine cjb_iconst C 4 dX2_init_40 rfl ?_
  refine cjb_newa (n := 6) (N := 4) (t0 := 0) (at_ := .int) (ty := .int) C rfl cjq_98 rfl (fun _ h => h) rfl (by decide) rfl (Nat.le_of_ble_eq_true rfl) rfl (Nat.le_of_ble_eq_true rfl) (Nat.le_of_ble_eq_true rfl) dX2_init_41 ?_
  show cj_B _ _ [.inr (2, [.int 0, .ref (base + 1), .ref (base + 2), .ref (base + 3), .ref (base + 4), .ref (base + 5), .null]), cj_z z 4, cj_z z 4, cj_z z 4, cj_z z 4, cj_z z 4, cj_z z 4] _ _ _ _ _
  refine cjb_putF (i := 0) (k := 6) (cs2 := [.inr (2, [.int 0, .ref (base + 1), .ref (base + 2), .ref (base + 3), .ref (base + 4), .ref (base + 5), .ref (base + 6)]), cj_z z 4, cj_z z 4, cj_z z 4, cj_z z 4, cj_z z 4, cj_z z 4]) C rfl rfl cj_in2 tyX2_ok nmX2 (by decide) rfl ⟨rfl, by decide +kernel⟩ cjq_149 rfl rfl rfl (Nat.le_of_ble_eq_true rfl) dX2_init_43 rfl ?_
  exact cjb_ret (by decide +kernel) C rfl rfl dX2_init_46
set_option maxHeartbeats 4000000 in
set_option maxRecDepth 100000 in
theorem ct_X0_init {l : Launch} {D : va_G} {z : cj_Zc} (base : Nat) : cj_Bt l D z yX0_init cX0_init 1 2 20 193 base (.inr (0, [.null, .null, .null, .int 0, .int 0, .int 0, .int 0, .int 0, .int 0, .int 0])) (cj_lC z base) := by
  refine cj_Bt.of (by decide +kernel) rfl (by decide) (fun X hX C => ?_)
  subst hX
  have C : cj_BC (X, D, z, base) cX0_init 1 RX0 2 20 193 := C
  refine cjb_aload_n C dX0_init_0 rfl 0 rfl ?_
  refine cjb_obj C cjq_59 cjq_52 cjq_53 (by decide) (Nat.le_of_ble_eq_true rfl) dX0_init_1 ?_
  refine cjb_aload_n C dX0_init_4 rfl 0 rfl ?_
  refine cjb_new (ci := 3) (n := 1) (fs := [.int 0, .null, .null, .null, .null, .null, .null, .null]) C rfl cj_in3 tyX3 tyX3_ok cjq_60 cjq_61 cjq_34 (fun j hj => by rcases (show j = 0 ∨ j = 1 ∨ j = 2 ∨ j = 3 ∨ j = 4 ∨ j = 5 ∨ j = 6 ∨ j = 7 by omega) with rfl | rfl | rfl | rfl | rfl | rfl | rfl | rfl <;> rfl) rfl (Nat.le_of_ble_eq_true rfl) (Nat.le_of_ble_eq_true rfl) dX0_init_5 ?_
  refine cjb_dup C dX0_init_8 rfl ?_
  refine cjb_callI C cw_X3_init (ct_X3_init (base + 1)) rfl rfl cjq_63 cjq_62 ⟨Nat.le_of_ble_eq_true rfl, Nat.le_of_ble_eq_true rfl⟩ (Nat.le_of_ble_eq_true rfl) (Nat.le_of_ble_eq_true rfl) (Nat.le_of_ble_eq_true rfl) dX0_init_9 ?_
  refine cjb_putF (i := 0) (k := 0) (cs2 := ([.inr (0, [.ref (base + 1), .null, .null, .int 0, .int 0, .int 0, .int 0, .int 0, .int 0, .int 0])] ++ cj_lP z (base + 1))) C rfl rfl cj_in0 tyX0_ok nmX0 (by decide) rfl ⟨rfl, by decide +kernel⟩ cjq_165 rfl rfl rfl (Nat.le_of_ble_eq_true rfl) dX0_init_12 rfl ?_
  refine cjb_aload_n C dX0_init_15 rfl 0 rfl ?_
  refine cjb_new (ci := 6) (n := 9) (fs := [.int 0, .int 0, .null, .null, .null, .null]) C rfl cj_in6 tyX6 tyX6_ok cjq_99 cjq_100 cjq_35 (fun j hj => by rcases (show j = 0 ∨ j = 1 ∨ j = 2 ∨ j = 3 ∨ j = 4 ∨ j = 5 by omega) with rfl | rfl | rfl | rfl | rfl | rfl <;> rfl) rfl (Nat.le_of_ble_eq_true rfl) (Nat.le_of_ble_eq_true rfl) dX0_init_16 ?_
  refine cjb_dup C dX0_init_19 rfl ?_
  refine cjb_callN C cw_X6_init (ct_X6_init (base + 9)) rfl rfl cjq_102 cjn_X0_20 ⟨Nat.le_of_ble_eq_true rfl, Nat.le_of_ble_eq_true rfl⟩ (Nat.le_of_ble_eq_true rfl) (Nat.le_of_ble_eq_true rfl) (Nat.le_of_ble_eq_true rfl) dX0_init_20 ?_
  refine cjb_putF (i := 0) (k := 1) (cs2 := (([.inr (0, [.ref (base + 1), .ref (base + 9), .null, .int 0, .int 0, .int 0, .int 0, .int 0, .int 0, .int 0])] ++ cj_lP z (base + 1)) ++ cj_lS z (base + 9))) C rfl rfl cj_in0 tyX0_ok nmX0 (by decide) rfl ⟨rfl, by decide +kernel⟩ cjq_167 rfl rfl rfl (Nat.le_of_ble_eq_true rfl) dX0_init_23 rfl ?_
  refine cjb_aload_n C dX0_init_26 rfl 0 rfl ?_
  refine cjb_new (ci := 2) (n := 14) (fs := [.int 0, .null, .null, .null, .null, .null, .null]) C rfl cj_in2 tyX2 tyX2_ok cjq_132 cjq_133 cjq_36 (fun j hj => by rcases (show j = 0 ∨ j = 1 ∨ j = 2 ∨ j = 3 ∨ j = 4 ∨ j = 5 ∨ j = 6 by omega) with rfl | rfl | rfl | rfl | rfl | rfl | rfl <;> rfl) rfl (Nat.le_of_ble_eq_true rfl) (Nat.le_of_ble_eq_true rfl) dX0_init_27 ?_
  refine cjb_dup C dX0_init_30 rfl ?_
  refine cjb_callN C cw_X2_init (ct_X2_init (base + 14)) rfl rfl cjq_135 cjn_X0_27 ⟨Nat.le_of_ble_eq_true rfl, Nat.le_of_ble_eq_true rfl⟩ (Nat.le_of_ble_eq_true rfl) (Nat.le_of_ble_eq_true rfl) (Nat.le_of_ble_eq_true rfl) dX0_init_31 ?_
  refine cjb_putF (i := 0) (k := 2) (cs2 := ((([.inr (0, [.ref (base + 1), .ref (base + 9), .ref (base + 14), .int 0, .int 0, .int 0, .int 0, .int 0, .int 0, .int 0])] ++ cj_lP z (base + 1)) ++ cj_lS z (base + 9)) ++ cj_lA z (base + 14))) C rfl rfl cj_in0 tyX0_ok nmX0 (by decide) rfl ⟨rfl, by decide +kernel⟩ cjq_169 rfl rfl rfl (Nat.le_of_ble_eq_true rfl) dX0_init_34 rfl ?_
  refine cjb_aload_n C dX0_init_37 rfl 0 rfl ?_
  refine cjb_bipush C 40 dX0_init_38 rfl ?_
  refine cjb_put (i := 0) (k := 3) (cs2 := ((([.inr (0, [.ref (base + 1), .ref (base + 9), .ref (base + 14), .int 40, .int 0, .int 0, .int 0, .int 0, .int 0, .int 0])] ++ cj_lP z (base + 1)) ++ cj_lS z (base + 9)) ++ cj_lA z (base + 14))) C rfl rfl cj_in0 tyX0_ok nmX0 (by decide) rfl cjq_171 rfl rfl rfl (Nat.le_of_ble_eq_true rfl) dX0_init_40 rfl ?_
  refine cjb_aload_n C dX0_init_43 rfl 0 rfl ?_
  refine cjb_bipush C 10 dX0_init_44 rfl ?_
  refine cjb_put (i := 0) (k := 4) (cs2 := ((([.inr (0, [.ref (base + 1), .ref (base + 9), .ref (base + 14), .int 40, .int 10, .int 0, .int 0, .int 0, .int 0, .int 0])] ++ cj_lP z (base + 1)) ++ cj_lS z (base + 9)) ++ cj_lA z (base + 14))) C rfl rfl cj_in0 tyX0_ok nmX0 (by decide) rfl cjq_172 rfl rfl rfl (Nat.le_of_ble_eq_true rfl) dX0_init_46 rfl ?_
  refine cjb_aload_n C dX0_init_49 rfl 0 rfl ?_
  refine cjb_iconst C (-1) dX0_init_50 rfl ?_
  refine cjb_put (i := 0) (k := 6) (cs2 := ((([.inr (0, [.ref (base + 1), .ref (base + 9), .ref (base + 14), .int 40, .int 10, .int 0, .int ((-1)), .int 0, .int 0, .int 0])] ++ cj_lP z (base + 1)) ++ cj_lS z (base + 9)) ++ cj_lA z (base + 14))) C rfl rfl cj_in0 tyX0_ok nmX0 (by decide) rfl cjq_174 rfl rfl rfl (Nat.le_of_ble_eq_true rfl) dX0_init_51 rfl ?_
  exact cjb_ret (by decide +kernel) C rfl rfl dX0_init_54
set_option maxHeartbeats 4000000 in
set_option maxRecDepth 100000 in
theorem ct_X7_init {l : Launch} {D : va_G} {z : cj_Zc} (base : Nat) : cj_Bt l D z yX7_init cX7_init 1 1 1 60 base (.inr (7, [.null, .int 0, .int 0, .int 0, .int 0, .int 0])) (cj_lT z base) := by
  refine cj_Bt.of (by decide +kernel) rfl (by decide) (fun X hX C => ?_)
  subst hX
  have C : cj_BC (X, D, z, base) cX7_init 1 RX7 1 1 60 := C
  refine cjb_aload_n C dX7_init_0 rfl 0 rfl ?_
  refine cjb_obj C cjq_227 cjq_52 cjq_53 (by decide) (Nat.le_of_ble_eq_true rfl) dX7_init_1 ?_
  refine cjb_aload_n C dX7_init_4 rfl 0 rfl ?_
  refine cjb_bipush C 60 dX7_init_5 rfl ?_
  refine cjb_newa (n := 1) (N := 60) (t0 := 1) (at_ := .char) (ty := .char) C rfl cjq_253 rfl (fun _ h => h) rfl (by decide) rfl (Nat.le_of_ble_eq_true rfl) rfl (Nat.le_of_ble_eq_true rfl) (Nat.le_of_ble_eq_true rfl) dX7_init_7 ?_
  show cj_B _ _ [.inr (7, [.null, .int 0, .int 0, .int 0, .int 0, .int 0]), .inl (z.2.1, 60, .inl (fun _ => 0))] _ _ _ _ _
  refine cjb_putF (i := 0) (k := 0) (cs2 := [.inr (7, [.ref (base + 1), .int 0, .int 0, .int 0, .int 0, .int 0]), .inl (z.2.1, 60, .inl (fun _ => 0))]) C rfl rfl cj_in7 tyX7_ok nmX7 (by decide) rfl ⟨rfl, by decide +kernel⟩ cjq_228 rfl rfl rfl (Nat.le_of_ble_eq_true rfl) dX7_init_9 rfl ?_
  exact cjb_ret (by decide +kernel) C rfl rfl dX7_init_12
set_option maxHeartbeats 4000000 in
set_option maxRecDepth 100000 in
theorem ct_X4_init {l : Launch} {D : va_G} {z : cj_Zc} (base : Nat) : cj_Bt l D z yX4_init cX4_init 1 1 0 0 base (.inr (4, [.int 0, .int 0, .int 0, .int 0])) ([.inr (4, [.int 0, .int 0, .int 0, .int 0])]) := by
  refine cj_Bt.of (by decide +kernel) rfl (by decide) (fun X hX C => ?_)
  subst hX
  have C : cj_BC (X, D, z, base) cX4_init 1 RX4 1 0 0 := C
  refine cjb_aload_n C dX4_init_0 rfl 0 rfl ?_
  refine cjb_obj C cjq_259 cjq_52 cjq_53 (by decide) (Nat.le_of_ble_eq_true rfl) dX4_init_1 ?_
  exact cjb_ret (by decide +kernel) C rfl rfl dX4_init_4
set_option maxHeartbeats 4000000 in
set_option maxRecDepth 100000 in
theorem ct_X5_init {l : Launch} {D : va_G} {z : cj_Zc} (base : Nat) : cj_Bt l D z yX5_init cX5_init 1 1 0 0 base (.inr (5, [.int 0, .int 0, .int 0])) ([.inr (5, [.int 0, .int 0, .int 0])]) := by
  refine cj_Bt.of (by decide +kernel) rfl (by decide) (fun X hX C => ?_)
  subst hX
  have C : cj_BC (X, D, z, base) cX5_init 1 RX5 1 0 0 := C
  refine cjb_aload_n C dX5_init_0 rfl 0 rfl ?_
  refine cjb_obj C cjq_282 cjq_52 cjq_53 (by decide) (Nat.le_of_ble_eq_true rfl) dX5_init_1 ?_
  exact cjb_ret (by decide +kernel) C rfl rfl dX5_init_4
set_option maxHeartbeats 4000000 in
set_option maxRecDepth 100000 in
theorem ct_X1_init {l : Launch} {D : va_G} {z : cj_Zc} (base : Nat) : cj_Bt l D z yX1_init cX1_init 2 3 106 1020 base (.inr (1, [.null, .int 0, .int 0])) (cj_lH z base) := by
  refine cj_Bt.of (by decide +kernel) rfl (by decide) (fun X hX C => ?_)
  subst hX
  have C : cj_BC (X, D, z, base) cX1_init 2 RX1 3 106 1020 := C
  refine cjb_aload_n C dX1_init_0 rfl 0 rfl ?_
  refine cjb_obj C cjq_207 cjq_52 cjq_53 (by decide) (Nat.le_of_ble_eq_true rfl) dX1_init_1 ?_
  refine cjb_aload_n C dX1_init_4 rfl 0 rfl ?_
  refine cjb_iconst C 5 dX1_init_5 rfl ?_
  refine cjb_newq (n := 1) (N := 5) C cjq_208 (by decide) rfl (Nat.le_of_ble_eq_true rfl) rfl (Nat.le_of_ble_eq_true rfl) (Nat.le_of_ble_eq_true rfl) dX1_init_6 ?_
  show cj_B _ _ [.inr (1, [.null, .int 0, .int 0]), .inl (z.2.2, 5, .inr (.inr (.inr (.inr (fun _ => none)))))] _ _ _ _ _
  refine cjb_putF (i := 0) (k := 0) (cs2 := [.inr (1, [.ref (base + 1), .int 0, .int 0]), .inl (z.2.2, 5, .inr (.inr (.inr (.inr (fun _ => none)))))]) C rfl rfl cj_in1 tyX1_ok nmX1 (by decide) rfl ⟨rfl, by decide +kernel⟩ cjq_211 rfl rfl rfl (Nat.le_of_ble_eq_true rfl) dX1_init_9 rfl ?_
  refine cjb_iconst C 0 dX1_init_12 rfl ?_
  refine cjb_istore_n (lv' := [(1, .int 0), (0, .ref base)]) C dX1_init_13 rfl (by decide) rfl ?_
  refine cjb_iload_n C dX1_init_14 rfl 0 rfl ?_
  refine cjb_aload_n C dX1_init_15 rfl 1 rfl ?_
  refine cjb_get (i := 0) (k := 0) (v := .ref (base + 1)) C rfl rfl cj_in1 (by decide) rfl cjq_211 rfl dX1_init_16 ?_
  refine cjb_alen (i := 1) (t0 := 2) C rfl rfl rfl dX1_init_19 ?_
  refine cjb_geF C 42 dX1_init_20 rfl (by decide) ?_
  refine cjb_aload_n C dX1_init_23 rfl 1 rfl ?_
  refine cjb_get (i := 0) (k := 0) (v := .ref (base + 1)) C rfl rfl cj_in1 (by decide) rfl cjq_211 rfl dX1_init_24 ?_
  refine cjb_iload_n C dX1_init_27 rfl 0 rfl ?_
  refine cjb_new (ci := 0) (n := 2) (fs := [.null, .null, .null, .int 0, .int 0, .int 0, .int 0, .int 0, .int 0, .int 0]) C rfl cj_in0 tyX0 tyX0_ok cjq_208 cjq_55 cjq_33 (fun j hj => by rcases (show j = 0 ∨ j = 1 ∨ j = 2 ∨ j = 3 ∨ j = 4 ∨ j = 5 ∨ j = 6 ∨ j = 7 ∨ j = 8 ∨ j = 9 by omega) with rfl | rfl | rfl | rfl | rfl | rfl | rfl | rfl | rfl | rfl <;> rfl) rfl (Nat.le_of_ble_eq_true rfl) (Nat.le_of_ble_eq_true rfl) dX1_init_28 ?_
  refine cjb_dup C dX1_init_31 rfl ?_
  refine cjb_callN C cw_X0_init (ct_X0_init (base + 2)) rfl rfl cjq_57 cjn_X1_17 ⟨Nat.le_of_ble_eq_true rfl, Nat.le_of_ble_eq_true rfl⟩ (Nat.le_of_ble_eq_true rfl) (Nat.le_of_ble_eq_true rfl) (Nat.le_of_ble_eq_true rfl) dX1_init_32 ?_
  refine cjb_aast (i := 1) (iv := 2) (cs2 := ([.inr (1, [.ref (base + 1), .int 0, .int 0]), .inl (z.2.2, 5, .inr (.inr (.inr (.inr (va_up (fun _ => none) 0 (some (base + 2)))))))] ++ cj_lC z (base + 2))) C rfl rfl rfl (by unfold vp_in; decide) dX1_init_35 rfl ?_
  refine cjb_iinc (lv' := [(1, .int 1), (0, .ref base)]) C dX1_init_36 (j := 0) rfl rfl (by decide) rfl ?_
  refine cjb_goto C 14 dX1_init_39 rfl ?_
  refine cjb_iload_n C dX1_init_14 rfl 0 rfl ?_
  refine cjb_aload_n C dX1_init_15 rfl 1 rfl ?_
  refine cjb_get (i := 0) (k := 0) (v := .ref (base + 1)) C rfl rfl cj_in1 (by decide) rfl cjq_211 rfl dX1_init_16 ?_
  refine cjb_alen (i := 1) (t0 := 2) C rfl rfl rfl dX1_init_19 ?_
  refine cjb_geF C 42 dX1_init_20 rfl (by decide) ?_
  refine cjb_aload_n C dX1_init_23 rfl 1 rfl ?_
  refine cjb_get (i := 0) (k := 0) (v := .ref (base + 1)) C rfl rfl cj_in1 (by decide) rfl cjq_211 rfl dX1_init_24 ?_
  refine cjb_iload_n C dX1_init_27 rfl 0 rfl ?_
  refine cjb_new (ci := 0) (n := 23) (fs := [.null, .null, .null, .int 0, .int 0, .int 0, .int 0, .int 0, .int 0, .int 0]) C rfl cj_in0 tyX0 tyX0_ok cjq_208 cjq_55 cjq_33 (fun j hj => by rcases (show j = 0 ∨ j = 1 ∨ j = 2 ∨ j = 3 ∨ j = 4 ∨ j = 5 ∨ j = 6 ∨ j = 7 ∨ j = 8 ∨ j = 9 by omega) with rfl | rfl | rfl | rfl | rfl | rfl | rfl | rfl | rfl | rfl <;> rfl) rfl (Nat.le_of_ble_eq_true rfl) (Nat.le_of_ble_eq_true rfl) dX1_init_28 ?_
  refine cjb_dup C dX1_init_31 rfl ?_
  refine cjb_callN C cw_X0_init (ct_X0_init (base + 23)) rfl rfl cjq_57 cjn_X1_17 ⟨Nat.le_of_ble_eq_true rfl, Nat.le_of_ble_eq_true rfl⟩ (Nat.le_of_ble_eq_true rfl) (Nat.le_of_ble_eq_true rfl) (Nat.le_of_ble_eq_true rfl) dX1_init_32 ?_
  refine cjb_aast (i := 1) (iv := 23) (cs2 := (([.inr (1, [.ref (base + 1), .int 0, .int 0]), .inl (z.2.2, 5, .inr (.inr (.inr (.inr (va_up (va_up (fun _ => none) 0 (some (base + 2))) 1 (some (base + 23)))))))] ++ cj_lC z (base + 2)) ++ cj_lC z (base + 23))) C rfl rfl rfl (by unfold vp_in; decide) dX1_init_35 rfl ?_
  refine cjb_iinc (lv' := [(1, .int 2), (0, .ref base)]) C dX1_init_36 (j := 0) rfl rfl (by decide) rfl ?_
  refine cjb_goto C 14 dX1_init_39 rfl ?_
  refine cjb_iload_n C dX1_init_14 rfl 0 rfl ?_
  refine cjb_aload_n C dX1_init_15 rfl 1 rfl ?_
  refine cjb_get (i := 0) (k := 0) (v := .ref (base + 1)) C rfl rfl cj_in1 (by decide) rfl cjq_211 rfl dX1_init_16 ?_
  refine cjb_alen (i := 1) (t0 := 2) C rfl rfl rfl dX1_init_19 ?_
  refine cjb_geF C 42 dX1_init_20 rfl (by decide) ?_
  refine cjb_aload_n C dX1_init_23 rfl 1 rfl ?_
  refine cjb_get (i := 0) (k := 0) (v := .ref (base + 1)) C rfl rfl cj_in1 (by decide) rfl cjq_211 rfl dX1_init_24 ?_
  refine cjb_iload_n C dX1_init_27 rfl 0 rfl ?_
  refine cjb_new (ci := 0) (n := 44) (fs := [.null, .null, .null, .int 0, .int 0, .int 0, .int 0, .int 0, .int 0, .int 0]) C rfl cj_in0 tyX0 tyX0_ok cjq_208 cjq_55 cjq_33 (fun j hj => by rcases (show j = 0 ∨ j = 1 ∨ j = 2 ∨ j = 3 ∨ j = 4 ∨ j = 5 ∨ j = 6 ∨ j = 7 ∨ j = 8 ∨ j = 9 by omega) with rfl | rfl | rfl | rfl | rfl | rfl | rfl | rfl | rfl | rfl <;> rfl) rfl (Nat.le_of_ble_eq_true rfl) (Nat.le_of_ble_eq_true rfl) dX1_init_28 ?_
  refine cjb_dup C dX1_init_31 rfl ?_
  refine cjb_callN C cw_X0_init (ct_X0_init (base + 44)) rfl rfl cjq_57 cjn_X1_17 ⟨Nat.le_of_ble_eq_true rfl, Nat.le_of_ble_eq_true rfl⟩ (Nat.le_of_ble_eq_true rfl) (Nat.le_of_ble_eq_true rfl) (Nat.le_of_ble_eq_true rfl) dX1_init_32 ?_
  refine cjb_aast (i := 1) (iv := 44) (cs2 := ((([.inr (1, [.ref (base + 1), .int 0, .int 0]), .inl (z.2.2, 5, .inr (.inr (.inr (.inr (va_up (va_up (va_up (fun _ => none) 0 (some (base + 2))) 1 (some (base + 23))) 2 (some (base + 44)))))))] ++ cj_lC z (base + 2)) ++ cj_lC z (base + 23)) ++ cj_lC z (base + 44))) C rfl rfl rfl (by unfold vp_in; decide) dX1_init_35 rfl ?_
  refine cjb_iinc (lv' := [(1, .int 3), (0, .ref base)]) C dX1_init_36 (j := 0) rfl rfl (by decide) rfl ?_
  refine cjb_goto C 14 dX1_init_39 rfl ?_
  refine cjb_iload_n C dX1_init_14 rfl 0 rfl ?_
  refine cjb_aload_n C dX1_init_15 rfl 1 rfl ?_
  refine cjb_get (i := 0) (k := 0) (v := .ref (base + 1)) C rfl rfl cj_in1 (by decide) rfl cjq_211 rfl dX1_init_16 ?_
  refine cjb_alen (i := 1) (t0 := 2) C rfl rfl rfl dX1_init_19 ?_
  refine cjb_geF C 42 dX1_init_20 rfl (by decide) ?_
  refine cjb_aload_n C dX1_init_23 rfl 1 rfl ?_
  refine cjb_get (i := 0) (k := 0) (v := .ref (base + 1)) C rfl rfl cj_in1 (by decide) rfl cjq_211 rfl dX1_init_24 ?_
  refine cjb_iload_n C dX1_init_27 rfl 0 rfl ?_
  refine cjb_new (ci := 0) (n := 65) (fs := [.null, .null, .null, .int 0, .int 0, .int 0, .int 0, .int 0, .int 0, .int 0]) C rfl cj_in0 tyX0 tyX0_ok cjq_208 cjq_55 cjq_33 (fun j hj => by rcases (show j = 0 ∨ j = 1 ∨ j = 2 ∨ j = 3 ∨ j = 4 ∨ j = 5 ∨ j = 6 ∨ j = 7 ∨ j = 8 ∨ j = 9 by omega) with rfl | rfl | rfl | rfl | rfl | rfl | rfl | rfl | rfl | rfl <;> rfl) rfl (Nat.le_of_ble_eq_true rfl) (Nat.le_of_ble_eq_true rfl) dX1_init_28 ?_
  refine cjb_dup C dX1_init_31 rfl ?_
  refine cjb_callN C cw_X0_init (ct_X0_init (base + 65)) rfl rfl cjq_57 cjn_X1_17 ⟨Nat.le_of_ble_eq_true rfl, Nat.le_of_ble_eq_true rfl⟩ (Nat.le_of_ble_eq_true rfl) (Nat.le_of_ble_eq_true rfl) (Nat.le_of_ble_eq_true rfl) dX1_init_32 ?_
  refine cjb_aast (i := 1) (iv := 65) (cs2 := (((([.inr (1, [.ref (base + 1), .int 0, .int 0]), .inl (z.2.2, 5, .inr (.inr (.inr (.inr (va_up (va_up (va_up (va_up (fun _ => none) 0 (some (base + 2))) 1 (some (base + 23))) 2 (some (base + 44))) 3 (some (base + 65)))))))] ++ cj_lC z (base + 2)) ++ cj_lC z (base + 23)) ++ cj_lC z (base + 44)) ++ cj_lC z (base + 65))) C rfl rfl rfl (by unfold vp_in; decide) dX1_init_35 rfl ?_
  refine cjb_iinc (lv' := [(1, .int 4), (0, .ref base)]) C dX1_init_36 (j := 0) rfl rfl (by decide) rfl ?_
  refine cjb_goto C 14 dX1_init_39 rfl ?_
  refine cjb_iload_n C dX1_init_14 rfl 0 rfl ?_
  refine cjb_aload_n C dX1_init_15 rfl 1 rfl ?_
  refine cjb_get (i := 0) (k := 0) (v := .ref (base + 1)) C rfl rfl cj_in1 (by decide) rfl cjq_211 rfl dX1_init_16 ?_
  refine cjb_alen (i := 1) (t0 := 2) C rfl rfl rfl dX1_init_19 ?_
  refine cjb_geF C 42 dX1_init_20 rfl (by decide) ?_
  refine cjb_aload_n C dX1_init_23 rfl 1 rfl ?_
  refine cjb_get (i := 0) (k := 0) (v := .ref (base + 1)) C rfl rfl cj_in1 (by decide) rfl cjq_211 rfl dX1_init_24 ?_
  refine cjb_iload_n C dX1_init_27 rfl 0 rfl ?_
  refine cjb_new (ci := 0) (n := 86) (fs := [.null, .null, .null, .int 0, .int 0, .int 0, .int 0, .int 0, .int 0, .int 0]) C rfl cj_in0 tyX0 tyX0_ok cjq_208 cjq_55 cjq_33 (fun j hj => by rcases (show j = 0 ∨ j = 1 ∨ j = 2 ∨ j = 3 ∨ j = 4 ∨ j = 5 ∨ j = 6 ∨ j = 7 ∨ j = 8 ∨ j = 9 by omega) with rfl | rfl | rfl | rfl | rfl | rfl | rfl | rfl | rfl | rfl <;> rfl) rfl (Nat.le_of_ble_eq_true rfl) (Nat.le_of_ble_eq_true rfl) dX1_init_28 ?_
  refine cjb_dup C dX1_init_31 rfl ?_
  refine cjb_callN C cw_X0_init (ct_X0_init (base + 86)) rfl rfl cjq_57 cjn_X1_17 ⟨Nat.le_of_ble_eq_true rfl, Nat.le_of_ble_eq_true rfl⟩ (Nat.le_of_ble_eq_true rfl) (Nat.le_of_ble_eq_true rfl) (Nat.le_of_ble_eq_true rfl) dX1_init_32 ?_
  refine cjb_aast (i := 1) (iv := 86) (cs2 := ((((([.inr (1, [.ref (base + 1), .int 0, .int 0]), .inl (z.2.2, 5, .inr (.inr (.inr (.inr (va_up (va_up (va_up (va_up (va_up (fun _ => none) 0 (some (base + 2))) 1 (some (base + 23))) 2 (some (base + 44))) 3 (some (base + 65))) 4 (some (base + 86)))))))] ++ cj_lC z (base + 2)) ++ cj_lC z (base + 23)) ++ cj_lC z (base + 44)) ++ cj_lC z (base + 65)) ++ cj_lC z (base + 86))) C rfl rfl rfl (by unfold vp_in; decide) dX1_init_35 rfl ?_
  refine cjb_iinc (lv' := [(1, .int 5), (0, .ref base)]) C dX1_init_36 (j := 0) rfl rfl (by decide) rfl ?_
  refine cjb_goto C 14 dX1_init_39 rfl ?_
  refine cjb_iload_n C dX1_init_14 rfl 0 rfl ?_
  refine cjb_aload_n C dX1_init_15 rfl 1 rfl ?_
  refine cjb_get (i := 0) (k := 0) (v := .ref (base + 1)) C rfl rfl cj_in1 (by decide) rfl cjq_211 rfl dX1_init_16 ?_
  refine cjb_alen (i := 1) (t0 := 2) C rfl rfl rfl dX1_init_19 ?_
  refine cjb_geT C 42 dX1_init_20 rfl (by decide) ?_
  exact cjb_ret (by decide +kernel) C rfl rfl dX1_init_42
set_option maxHeartbeats 4000000 in
set_option maxRecDepth 100000 in
theorem ct_X8_init {l : Launch} {D : va_G} {z : cj_Zc} (base : Nat) : cj_Bt l D z yX8_init cX8_init 1 4 153 1502 base (.inr (8, [.null, .null, .null, .null, .null, .null])) (cj_lJ z base) := by
  refine cj_Bt.of (by decide +kernel) rfl (by decide) (fun X hX C => ?_)
  subst hX
  have C : cj_BC (X, D, z, base) cX8_init 1 RX8 4 153 1502 := C
  refine cjb_aload_n C dX8_init_0 rfl 0 rfl ?_
  refine cjb_obj C cjq_51 cjq_52 cjq_53 (by decide) (Nat.le_of_ble_eq_true rfl) dX8_init_1 ?_
  refine cjb_aload_n C dX8_init_4 rfl 0 rfl ?_
  refine cjb_new (ci := 0) (n := 1) (fs := [.null, .null, .null, .int 0, .int 0, .int 0, .int 0, .int 0, .int 0, .int 0]) C rfl cj_in0 tyX0 tyX0_ok cjq_54 cjq_55 cjq_33 (fun j hj => by rcases (show j = 0 ∨ j = 1 ∨ j = 2 ∨ j = 3 ∨ j = 4 ∨ j = 5 ∨ j = 6 ∨ j = 7 ∨ j = 8 ∨ j = 9 by omega) with rfl | rfl | rfl | rfl | rfl | rfl | rfl | rfl | rfl | rfl <;> rfl) rfl (Nat.le_of_ble_eq_true rfl) (Nat.le_of_ble_eq_true rfl) dX8_init_5 ?_
  refine cjb_dup C dX8_init_8 rfl ?_
  refine cjb_callN C cw_X0_init (ct_X0_init (base + 1)) rfl rfl cjq_57 cjn_X8_9 ⟨Nat.le_of_ble_eq_true rfl, Nat.le_of_ble_eq_true rfl⟩ (Nat.le_of_ble_eq_true rfl) (Nat.le_of_ble_eq_true rfl) (Nat.le_of_ble_eq_true rfl) dX8_init_9 ?_
  refine cjb_putF (i := 0) (k := 0) (cs2 := ([.inr (8, [.ref (base + 1), .null, .null, .null, .null, .null])] ++ cj_lC z (base + 1))) C rfl rfl cj_in8 tyX8_ok nmX8 (by decide) rfl ⟨rfl, by decide +kernel⟩ cjq_296 rfl rfl rfl (Nat.le_of_ble_eq_true rfl) dX8_init_12 rfl ?_
  refine cjb_aload_n C dX8_init_15 rfl 0 rfl ?_
  refine cjb_new (ci := 0) (n := 22) (fs := [.null, .null, .null, .int 0, .int 0, .int 0, .int 0, .int 0, .int 0, .int 0]) C rfl cj_in0 tyX0 tyX0_ok cjq_54 cjq_55 cjq_33 (fun j hj => by rcases (show j = 0 ∨ j = 1 ∨ j = 2 ∨ j = 3 ∨ j = 4 ∨ j = 5 ∨ j = 6 ∨ j = 7 ∨ j = 8 ∨ j = 9 by omega) with rfl | rfl | rfl | rfl | rfl | rfl | rfl | rfl | rfl | rfl <;> rfl) rfl (Nat.le_of_ble_eq_true rfl) (Nat.le_of_ble_eq_true rfl) dX8_init_16 ?_
  refine cjb_dup C dX8_init_19 rfl ?_
  refine cjb_callN C cw_X0_init (ct_X0_init (base + 22)) rfl rfl cjq_57 cjn_X8_9 ⟨Nat.le_of_ble_eq_true rfl, Nat.le_of_ble_eq_true rfl⟩ (Nat.le_of_ble_eq_true rfl) (Nat.le_of_ble_eq_true rfl) (Nat.le_of_ble_eq_true rfl) dX8_init_20 ?_
  refine cjb_putF (i := 0) (k := 1) (cs2 := (([.inr (8, [.ref (base + 1), .ref (base + 22), .null, .null, .null, .null])] ++ cj_lC z (base + 1)) ++ cj_lC z (base + 22))) C rfl rfl cj_in8 tyX8_ok nmX8 (by decide) rfl ⟨rfl, by decide +kernel⟩ cjq_297 rfl rfl rfl (Nat.le_of_ble_eq_true rfl) dX8_init_23 rfl ?_
  refine cjb_aload_n C dX8_init_26 rfl 0 rfl ?_
  refine cjb_new (ci := 1) (n := 43) (fs := [.null, .int 0, .int 0]) C rfl cj_in1 tyX1 tyX1_ok cjq_202 cjq_203 cjq_37 (fun j hj => by rcases (show j = 0 ∨ j = 1 ∨ j = 2 by omega) with rfl | rfl | rfl <;> rfl) rfl (Nat.le_of_ble_eq_true rfl) (Nat.le_of_ble_eq_true rfl) dX8_init_27 ?_
  refine cjb_dup C dX8_init_30 rfl ?_
  refine cjb_callI C cw_X1_init (ct_X1_init (base + 43)) rfl rfl cjq_205 cjq_204 ⟨Nat.le_of_ble_eq_true rfl, Nat.le_of_ble_eq_true rfl⟩ (Nat.le_of_ble_eq_true rfl) (Nat.le_of_ble_eq_true rfl) (Nat.le_of_ble_eq_true rfl) dX8_init_31 ?_
  refine cjb_putF (i := 0) (k := 2) (cs2 := ((([.inr (8, [.ref (base + 1), .ref (base + 22), .ref (base + 43), .null, .null, .null])] ++ cj_lC z (base + 1)) ++ cj_lC z (base + 22)) ++ cj_lH z (base + 43))) C rfl rfl cj_in8 tyX8_ok nmX8 (by decide) rfl ⟨rfl, by decide +kernel⟩ cjq_298 rfl rfl rfl (Nat.le_of_ble_eq_true rfl) dX8_init_34 rfl ?_
  refine cjb_aload_n C dX8_init_37 rfl 0 rfl ?_
  refine cjb_new (ci := 7) (n := 150) (fs := [.null, .int 0, .int 0, .int 0, .int 0, .int 0]) C rfl cj_in7 tyX7 tyX7_ok cjq_222 cjq_223 cjq_38 (fun j hj => by rcases (show j = 0 ∨ j = 1 ∨ j = 2 ∨ j = 3 ∨ j = 4 ∨ j = 5 by omega) with rfl | rfl | rfl | rfl | rfl | rfl <;> rfl) rfl (Nat.le_of_ble_eq_true rfl) (Nat.le_of_ble_eq_true rfl) dX8_init_38 ?_
  refine cjb_dup C dX8_init_41 rfl ?_
  refine cjb_callN C cw_X7_init (ct_X7_init (base + 150)) rfl rfl cjq_225 cjn_X8_28 ⟨Nat.le_of_ble_eq_true rfl, Nat.le_of_ble_eq_true rfl⟩ (Nat.le_of_ble_eq_true rfl) (Nat.le_of_ble_eq_true rfl) (Nat.le_of_ble_eq_true rfl) dX8_init_42 ?_
  refine cjb_putF (i := 0) (k := 3) (cs2 := (((([.inr (8, [.ref (base + 1), .ref (base + 22), .ref (base + 43), .ref (base + 150), .null, .null])] ++ cj_lC z (base + 1)) ++ cj_lC z (base + 22)) ++ cj_lH z (base + 43)) ++ cj_lT z (base + 150))) C rfl rfl cj_in8 tyX8_ok nmX8 (by decide) rfl ⟨rfl, by decide +kernel⟩ cjq_299 rfl rfl rfl (Nat.le_of_ble_eq_true rfl) dX8_init_45 rfl ?_
  refine cjb_aload_n C dX8_init_48 rfl 0 rfl ?_
  refine cjb_new (ci := 4) (n := 152) (fs := [.int 0, .int 0, .int 0, .int 0]) C rfl cj_in4 tyX4 tyX4_ok cjq_254 cjq_255 cjq_39 (fun j hj => by rcases (show j = 0 ∨ j = 1 ∨ j = 2 ∨ j = 3 by omega) with rfl | rfl | rfl | rfl <;> rfl) rfl (Nat.le_of_ble_eq_true rfl) (Nat.le_of_ble_eq_true rfl) dX8_init_49 ?_
  refine cjb_dup C dX8_init_52 rfl ?_
  refine cjb_callN C cw_X4_init (ct_X4_init (base + 152)) rfl rfl cjq_257 cjn_X8_35 ⟨Nat.le_of_ble_eq_true rfl, Nat.le_of_ble_eq_true rfl⟩ (Nat.le_of_ble_eq_true rfl) (Nat.le_of_ble_eq_true rfl) (Nat.le_of_ble_eq_true rfl) dX8_init_53 ?_
  refine cjb_putF (i := 0) (k := 4) (cs2 := ((((([.inr (8, [.ref (base + 1), .ref (base + 22), .ref (base + 43), .ref (base + 150), .ref (base + 152), .null])] ++ cj_lC z (base + 1)) ++ cj_lC z (base + 22)) ++ cj_lH z (base + 43)) ++ cj_lT z (base + 150)) ++ [.inr (4, [.int 0, .int 0, .int 0, .int 0])])) C rfl rfl cj_in8 tyX8_ok nmX8 (by decide) rfl ⟨rfl, by decide +kernel⟩ cjq_300 rfl rfl rfl (Nat.le_of_ble_eq_true rfl) dX8_init_56 rfl ?_
  refine cjb_aload_n C dX8_init_59 rfl 0 rfl ?_
  refine cjb_new (ci := 5) (n := 153) (fs := [.int 0, .int 0, .int 0]) C rfl cj_in5 tyX5 tyX5_ok cjq_277 cjq_278 cjq_40 (fun j hj => by rcases (show j = 0 ∨ j = 1 ∨ j = 2 by omega) with rfl | rfl | rfl <;> rfl) rfl (Nat.le_of_ble_eq_true rfl) (Nat.le_of_ble_eq_true rfl) dX8_init_60 ?_
  refine cjb_dup C dX8_init_63 rfl ?_
  refine cjb_callN C cw_X5_init (ct_X5_init (base + 153)) rfl rfl cjq_280 cjn_X8_42 ⟨Nat.le_of_ble_eq_true rfl, Nat.le_of_ble_eq_true rfl⟩ (Nat.le_of_ble_eq_true rfl) (Nat.le_of_ble_eq_true rfl) (Nat.le_of_ble_eq_true rfl) dX8_init_64 ?_
  refine cjb_putF (i := 0) (k := 5) (cs2 := (((((([.inr (8, [.ref (base + 1), .ref (base + 22), .ref (base + 43), .ref (base + 150), .ref (base + 152), .ref (base + 153)])] ++ cj_lC z (base + 1)) ++ cj_lC z (base + 22)) ++ cj_lH z (base + 43)) ++ cj_lT z (base + 150)) ++ [.inr (4, [.int 0, .int 0, .int 0, .int 0])]) ++ [.inr (5, [.int 0, .int 0, .int 0])])) C rfl rfl cj_in8 tyX8_ok nmX8 (by decide) rfl ⟨rfl, by decide +kernel⟩ cjq_301 rfl rfl rfl (Nat.le_of_ble_eq_true rfl) dX8_init_67 rfl ?_
  exact cjb_ret (by decide +kernel) C rfl rfl dX8_init_70
set_option maxHeartbeats 4000000 in
set_option maxRecDepth 100000 in
theorem ct_X9_init {l : Launch} {D : va_G} {z : cj_Zc} (base : Nat) : cj_Bt l D z yX9_init cX9_init 1 1 6 1343 base (.inr (9, [.null, .null, .null, .null, .int 0, .int 0, .null, .int 0, .int 0, .int 0, .int 0, .int 0, .int 0, .int 0, .null])) (cj_lM z base) := by
  refine cj_Bt.of (by decide +kernel) rfl (by decide) (fun X hX C => ?_)
  subst hX
  have C : cj_BC (X, D, z, base) cX9_init 1 RX9 1 6 1343 := C
  refine cjb_aload_n C dX9_init_0 rfl 0 rfl ?_
  refine cjb_obj C cjq_719 cjq_52 cjq_53 (by decide) (Nat.le_of_ble_eq_true rfl) dX9_init_1 ?_
  refine cjb_aload_n C dX9_init_4 rfl 0 rfl ?_
  refine cjb_sipush C 183 dX9_init_5 rfl ?_
  refine cjb_newa (n := 1) (N := 183) (t0 := 0) (at_ := .int) (ty := .int) C rfl cjq_98 rfl (fun _ h => h) rfl (by decide) rfl (Nat.le_of_ble_eq_true rfl) rfl (Nat.le_of_ble_eq_true rfl) (Nat.le_of_ble_eq_true rfl) dX9_init_8 ?_
  show cj_B _ _ [.inr (9, [.null, .null, .null, .null, .int 0, .int 0, .null, .int 0, .int 0, .int 0, .int 0, .int 0, .int 0, .int 0, .null]), cj_z z 183] _ _ _ _ _
  refine cjb_putF (i := 0) (k := 0) (cs2 := [.inr (9, [.ref (base + 1), .null, .null, .null, .int 0, .int 0, .null, .int 0, .int 0, .int 0, .int 0, .int 0, .int 0, .int 0, .null]), cj_z z 183]) C rfl rfl cj_in9 tyX9_ok nmX9 (by decide) rfl ⟨rfl, by decide +kernel⟩ cjq_720 rfl rfl rfl (Nat.le_of_ble_eq_true rfl) dX9_init_10 rfl ?_
  refine cjb_aload_n C dX9_init_13 rfl 0 rfl ?_
  refine cjb_sipush C 732 dX9_init_14 rfl ?_
  refine cjb_newa (n := 2) (N := 732) (t0 := 0) (at_ := .int) (ty := .int) C rfl cjq_98 rfl (fun _ h => h) rfl (by decide) rfl (Nat.le_of_ble_eq_true rfl) rfl (Nat.le_of_ble_eq_true rfl) (Nat.le_of_ble_eq_true rfl) dX9_init_17 ?_
  show cj_B _ _ [.inr (9, [.ref (base + 1), .null, .null, .null, .int 0, .int 0, .null, .int 0, .int 0, .int 0, .int 0, .int 0, .int 0, .int 0, .null]), cj_z z 183, cj_z z 732] _ _ _ _ _
  refine cjb_putF (i := 0) (k := 1) (cs2 := [.inr (9, [.ref (base + 1), .ref (base + 2), .null, .null, .int 0, .int 0, .null, .int 0, .int 0, .int 0, .int 0, .int 0, .int 0, .int 0, .null]), cj_z z 183, cj_z z 732]) C rfl rfl cj_in9 tyX9_ok nmX9 (by decide) rfl ⟨rfl, by decide +kernel⟩ cjq_721 rfl rfl rfl (Nat.le_of_ble_eq_true rfl) dX9_init_19 rfl ?_
  refine cjb_aload_n C dX9_init_22 rfl 0 rfl ?_
  refine cjb_sipush C 183 dX9_init_23 rfl ?_
  refine cjb_newa (n := 3) (N := 183) (t0 := 0) (at_ := .int) (ty := .int) C rfl cjq_98 rfl (fun _ h => h) rfl (by decide) rfl (Nat.le_of_ble_eq_true rfl) rfl (Nat.le_of_ble_eq_true rfl) (Nat.le_of_ble_eq_true rfl) dX9_init_26 ?_
  show cj_B _ _ [.inr (9, [.ref (base + 1), .ref (base + 2), .null, .null, .int 0, .int 0, .null, .int 0, .int 0, .int 0, .int 0, .int 0, .int 0, .int 0, .null]), cj_z z 183, cj_z z 732, cj_z z 183] _ _ _ _ _
  refine cjb_putF (i := 0) (k := 2) (cs2 := [.inr (9, [.ref (base + 1), .ref (base + 2), .ref (base + 3), .null, .int 0, .int 0, .null, .int 0, .int 0, .int 0, .int 0, .int 0, .int 0, .int 0, .null]), cj_z z 183, cj_z z 732, cj_z z 183]) C rfl rfl cj_in9 tyX9_ok nmX9 (by decide) rfl ⟨rfl, by decide +kernel⟩ cjq_722 rfl rfl rfl (Nat.le_of_ble_eq_true rfl) dX9_init_28 rfl ?_
  refine cjb_aload_n C dX9_init_31 rfl 0 rfl ?_
  refine cjb_sipush C 183 dX9_init_32 rfl ?_
  refine cjb_newa (n := 4) (N := 183) (t0 := 0) (at_ := .int) (ty := .int) C rfl cjq_98 rfl (fun _ h => h) rfl (by decide) rfl (Nat.le_of_ble_eq_true rfl) rfl (Nat.le_of_ble_eq_true rfl) (Nat.le_of_ble_eq_true rfl) dX9_init_35 ?_
  show cj_B _ _ [.inr (9, [.ref (base + 1), .ref (base + 2), .ref (base + 3), .null, .int 0, .int 0, .null, .int 0, .int 0, .int 0, .int 0, .int 0, .int 0, .int 0, .null]), cj_z z 183, cj_z z 732, cj_z z 183, cj_z z 183] _ _ _ _ _
  refine cjb_putF (i := 0) (k := 3) (cs2 := [.inr (9, [.ref (base + 1), .ref (base + 2), .ref (base + 3), .ref (base + 4), .int 0, .int 0, .null, .int 0, .int 0, .int 0, .int 0, .int 0, .int 0, .int 0, .null]), cj_z z 183, cj_z z 732, cj_z z 183, cj_z z 183]) C rfl rfl cj_in9 tyX9_ok nmX9 (by decide) rfl ⟨rfl, by decide +kernel⟩ cjq_723 rfl rfl rfl (Nat.le_of_ble_eq_true rfl) dX9_init_37 rfl ?_
  refine cjb_aload_n C dX9_init_40 rfl 0 rfl ?_
  refine cjb_bipush C 60 dX9_init_41 rfl ?_
  refine cjb_newa (n := 5) (N := 60) (t0 := 0) (at_ := .int) (ty := .int) C rfl cjq_98 rfl (fun _ h => h) rfl (by decide) rfl (Nat.le_of_ble_eq_true rfl) rfl (Nat.le_of_ble_eq_true rfl) (Nat.le_of_ble_eq_true rfl) dX9_init_43 ?_
  show cj_B _ _ [.inr (9, [.ref (base + 1), .ref (base + 2), .ref (base + 3), .ref (base + 4), .int 0, .int 0, .null, .int 0, .int 0, .int 0, .int 0, .int 0, .int 0, .int 0, .null]), cj_z z 183, cj_z z 732, cj_z z 183, cj_z z 183, cj_z z 60] _ _ _ _ _
  refine cjb_putF (i := 0) (k := 6) (cs2 := [.inr (9, [.ref (base + 1), .ref (base + 2), .ref (base + 3), .ref (base + 4), .int 0, .int 0, .ref (base + 5), .int 0, .int 0, .int 0, .int 0, .int 0, .int 0, .int 0, .null]), cj_z z 183, cj_z z 732, cj_z z 183, cj_z z 183, cj_z z 60]) C rfl rfl cj_in9 tyX9_ok nmX9 (by decide) rfl ⟨rfl, by decide +kernel⟩ cjq_726 rfl rfl rfl (Nat.le_of_ble_eq_true rfl) dX9_init_45 rfl ?_
  refine cjb_aload_n C dX9_init_48 rfl 0 rfl ?_
  refine cjb_iconst C 2 dX9_init_49 rfl ?_
  refine cjb_newa (n := 6) (N := 2) (t0 := 0) (at_ := .int) (ty := .int) C rfl cjq_98 rfl (fun _ h => h) rfl (by decide) rfl (Nat.le_of_ble_eq_true rfl) rfl (Nat.le_of_ble_eq_true rfl) (Nat.le_of_ble_eq_true rfl) dX9_init_50 ?_
  show cj_B _ _ [.inr (9, [.ref (base + 1), .ref (base + 2), .ref (base + 3), .ref (base + 4), .int 0, .int 0, .ref (base + 5), .int 0, .int 0, .int 0, .int 0, .int 0, .int 0, .int 0, .null]), cj_z z 183, cj_z z 732, cj_z z 183, cj_z z 183, cj_z z 60, cj_z z 2] _ _ _ _ _
  refine cjb_putF (i := 0) (k := 14) (cs2 := [.inr (9, [.ref (base + 1), .ref (base + 2), .ref (base + 3), .ref (base + 4), .int 0, .int 0, .ref (base + 5), .int 0, .int 0, .int 0, .int 0, .int 0, .int 0, .int 0, .ref (base + 6)]), cj_z z 183, cj_z z 732, cj_z z 183, cj_z z 183, cj_z z 60, cj_z z 2]) C rfl rfl cj_in9 tyX9_ok nmX9 (by decide) rfl ⟨rfl, by decide +kernel⟩ cjq_734 rfl rfl rfl (Nat.le_of_ble_eq_true rfl) dX9_init_52 rfl ?_
  refine cjb_aload_n C dX9_init_55 rfl 0 rfl ?_
  refine cjb_get (i := 0) (k := 0) (v := .ref (base + 1)) C rfl rfl cj_in9 (by decide) rfl cjq_720 rfl dX9_init_56 ?_
  refine cjb_iconst C 5 dX9_init_59 rfl ?_
  refine cjb_iconst C (-1) dX9_init_60 rfl ?_
  refine cjb_iast (i := 1) (cs2 := [.inr (9, [.ref (base + 1), .ref (base + 2), .ref (base + 3), .ref (base + 4), .int 0, .int 0, .ref (base + 5), .int 0, .int 0, .int 0, .int 0, .int 0, .int 0, .int 0, .ref (base + 6)]), .inl (z.1, 183, .inl (upd (fun _ => 0) 5 ((-1)))), cj_z z 732, cj_z z 183, cj_z z 183, cj_z z 60, cj_z z 2]) C rfl (by unfold vp_in; decide) dX9_init_61 rfl ?_
  refine cjb_aload_n C dX9_init_62 rfl 0 rfl ?_
  refine cjb_get (i := 0) (k := 0) (v := .ref (base + 1)) C rfl rfl cj_in9 (by decide) rfl cjq_720 rfl dX9_init_63 ?_
  refine cjb_bipush C 9 dX9_init_66 rfl ?_
  refine cjb_bipush C 40 dX9_init_68 rfl ?_
  refine cjb_iast (i := 1) (cs2 := [.inr (9, [.ref (base + 1), .ref (base + 2), .ref (base + 3), .ref (base + 4), .int 0, .int 0, .ref (base + 5), .int 0, .int 0, .int 0, .int 0, .int 0, .int 0, .int 0, .ref (base + 6)]), .inl (z.1, 183, .inl (upd (upd (fun _ => 0) 5 ((-1))) 9 40)), cj_z z 732, cj_z z 183, cj_z z 183, cj_z z 60, cj_z z 2]) C rfl (by unfold vp_in; decide) dX9_init_70 rfl ?_
  refine cjb_aload_n C dX9_init_71 rfl 0 rfl ?_
  refine cjb_get (i := 0) (k := 0) (v := .ref (base + 1)) C rfl rfl cj_in9 (by decide) rfl cjq_720 rfl dX9_init_72 ?_
  refine cjb_bipush C 10 dX9_init_75 rfl ?_
  refine cjb_bipush C 10 dX9_init_77 rfl ?_
  refine cjb_iast (i := 1) (cs2 := [.inr (9, [.ref (base + 1), .ref (base + 2), .ref (base + 3), .ref (base + 4), .int 0, .int 0, .ref (base + 5), .int 0, .int 0, .int 0, .int 0, .int 0, .int 0, .int 0, .ref (base + 6)]), .inl (z.1, 183, .inl (upd (upd (upd (fun _ => 0) 5 ((-1))) 9 40) 10 10)), cj_z z 732, cj_z z 183, cj_z z 183, cj_z z 60, cj_z z 2]) C rfl (by unfold vp_in; decide) dX9_init_79 rfl ?_
  exact cjb_ret (by decide +kernel) C rfl rfl dX9_init_80
