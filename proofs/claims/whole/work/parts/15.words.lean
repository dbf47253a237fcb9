/-! the words of the tables that are used, by their places -/
abbrev cj_S : Type := Nat → Nat → Int32
def cj_FU : Nat := 1000
theorem cj_vin {i : Int32} {n : Nat} (h : vp_in i n) : i.toNatClampNeg < n := Nat.not_le.mp fun q => h (Or.inr q)
theorem cj_jn {κ : Type} {α : Type} {P : Prop} {Hyp : κ → Prop} {K0 : κ} {body : κ → Option α} {r : α} (hf : cj_lt K0 body = some r) (h1 : Hyp K0) (h2 : ∀ K, Hyp K → body K = some r → P) : P := h2 K0 h1 hf
theorem eC_0 {z : cj_Zc} {ad : cj_Ad} {g : Nat} (h : cj_isC g) : cj_EL z ad g 0 = some (fun f => .inr (0, [.ref (ad g 1), .ref (ad g 9), .ref (ad g 14), .int (f 3), .int (f 4), .int (f 5), .int (f 6), .int (f 7), .int (f 8), .int (f 9)])) := cj_ec h 0
theorem eC_1 {z : cj_Zc} {ad : cj_Ad} {g : Nat} (h : cj_isC g) : cj_EL z ad g 1 = some (fun f => .inr (3, [.int (f 0), .ref (ad g 2), .ref (ad g 3), .ref (ad g 4), .ref (ad g 5), .ref (ad g 6), .ref (ad g 7), .ref (ad g 8)])) := cj_ec h 1
theorem eC_2 {z : cj_Zc} {ad : cj_Ad} {g : Nat} (h : cj_isC g) : cj_EL z ad g 2 = some (fun f => .inl (z.1, 6, .inl f)) := cj_ec h 2
theorem eC_3 {z : cj_Zc} {ad : cj_Ad} {g : Nat} (h : cj_isC g) : cj_EL z ad g 3 = some (fun f => .inl (z.1, 6, .inl f)) := cj_ec h 3
theorem eC_4 {z : cj_Zc} {ad : cj_Ad} {g : Nat} (h : cj_isC g) : cj_EL z ad g 4 = some (fun f => .inl (z.1, 6, .inl f)) := cj_ec h 4
theorem eC_5 {z : cj_Zc} {ad : cj_Ad} {g : Nat} (h : cj_isC g) : cj_EL z ad g 5 = some (fun f => .inl (z.1, 6, .inl f)) := cj_ec h 5
theorem eC_6 {z : cj_Zc} {ad : cj_Ad} {g : Nat} (h : cj_isC g) : cj_EL z ad g 6 = some (fun f => .inl (z.1, 6, .inl f)) := cj_ec h 6
theorem eC_7 {z : cj_Zc} {ad : cj_Ad} {g : Nat} (h : cj_isC g) : cj_EL z ad g 7 = some (fun f => .inl (z.1, 6, .inl f)) := cj_ec h 7
theorem eC_8 {z : cj_Zc} {ad : cj_Ad} {g : Nat} (h : cj_isC g) : cj_EL z ad g 8 = some (fun f => .inl (z.1, 72, .inl f)) := cj_ec h 8
theorem eC_9 {z : cj_Zc} {ad : cj_Ad} {g : Nat} (h : cj_isC g) : cj_EL z ad g 9 = some (fun f => .inr (6, [.int (f 0), .int (f 1), .ref (ad g 10), .ref (ad g 11), .ref (ad g 12), .ref (ad g 13)])) := cj_ec h 9
theorem eC_10 {z : cj_Zc} {ad : cj_Ad} {g : Nat} (h : cj_isC g) : cj_EL z ad g 10 = some (fun f => .inl (z.1, 10, .inl f)) := cj_ec h 10
theorem eC_11 {z : cj_Zc} {ad : cj_Ad} {g : Nat} (h : cj_isC g) : cj_EL z ad g 11 = some (fun f => .inl (z.1, 10, .inl f)) := cj_ec h 11
theorem eC_12 {z : cj_Zc} {ad : cj_Ad} {g : Nat} (h : cj_isC g) : cj_EL z ad g 12 = some (fun f => .inl (z.1, 10, .inl f)) := cj_ec h 12
theorem eC_13 {z : cj_Zc} {ad : cj_Ad} {g : Nat} (h : cj_isC g) : cj_EL z ad g 13 = some (fun f => .inl (z.1, 10, .inl f)) := cj_ec h 13
theorem eC_14 {z : cj_Zc} {ad : cj_Ad} {g : Nat} (h : cj_isC g) : cj_EL z ad g 14 = some (fun f => .inr (2, [.int (f 0), .ref (ad g 15), .ref (ad g 16), .ref (ad g 17), .ref (ad g 18), .ref (ad g 19), .ref (ad g 20)])) := cj_ec h 14
theorem eC_15 {z : cj_Zc} {ad : cj_Ad} {g : Nat} (h : cj_isC g) : cj_EL z ad g 15 = some (fun f => .inl (z.1, 4, .inl f)) := cj_ec h 15
theorem eC_16 {z : cj_Zc} {ad : cj_Ad} {g : Nat} (h : cj_isC g) : cj_EL z ad g 16 = some (fun f => .inl (z.1, 4, .inl f)) := cj_ec h 16
theorem eC_17 {z : cj_Zc} {ad : cj_Ad} {g : Nat} (h : cj_isC g) : cj_EL z ad g 17 = some (fun f => .inl (z.1, 4, .inl f)) := cj_ec h 17
theorem eC_18 {z : cj_Zc} {ad : cj_Ad} {g : Nat} (h : cj_isC g) : cj_EL z ad g 18 = some (fun f => .inl (z.1, 4, .inl f)) := cj_ec h 18
theorem eC_19 {z : cj_Zc} {ad : cj_Ad} {g : Nat} (h : cj_isC g) : cj_EL z ad g 19 = some (fun f => .inl (z.1, 4, .inl f)) := cj_ec h 19
theorem eC_20 {z : cj_Zc} {ad : cj_Ad} {g : Nat} (h : cj_isC g) : cj_EL z ad g 20 = some (fun f => .inl (z.1, 4, .inl f)) := cj_ec h 20
theorem e0_0 {z : cj_Zc} {ad : cj_Ad} : cj_EL z ad 0 0 = some (fun _ => .inr (8, [.ref (ad 5 0), .ref (ad 6 0), .ref (ad 1 0), .ref (ad 2 0), .ref (ad 3 0), .ref (ad 4 0)])) := rfl
theorem e1_0 {z : cj_Zc} {ad : cj_Ad} : cj_EL z ad 1 0 = some (fun f => .inr (1, [.ref (ad 1 1), .int (f 1), .int (f 2)])) := rfl
theorem e1_1 {z : cj_Zc} {ad : cj_Ad} : cj_EL z ad 1 1 = some (fun _ => .inl (z.2.2, 5, .inr (.inr (.inr (.inr (fun j => some (ad (7 + j) 0))))))) := rfl
theorem e2_0 {z : cj_Zc} {ad : cj_Ad} : cj_EL z ad 2 0 = some (fun f => .inr (7, [.ref (ad 2 1), .int (f 1), .int (f 2), .int (f 3), .int (f 4), .int (f 5)])) := rfl
theorem e2_1 {z : cj_Zc} {ad : cj_Ad} : cj_EL z ad 2 1 = some (fun f => .inl (z.2.1, 60, .inl f)) := rfl
theorem e3_0 {z : cj_Zc} {ad : cj_Ad} : cj_EL z ad 3 0 = some (fun f => .inr (4, [.int (f 0), .int (f 1), .int (f 2), .int (f 3)])) := rfl
theorem e4_0 {z : cj_Zc} {ad : cj_Ad} : cj_EL z ad 4 0 = some (fun f => .inr (5, [.int (f 0), .int (f 1), .int (f 2)])) := rfl
theorem eM_0 {z : cj_Zc} {ad : cj_Ad} : cj_EM z ad 0 0 = some (fun f => .inr (9, [.ref (ad 0 1), .ref (ad 0 2), .ref (ad 0 3), .ref (ad 0 4), .int (f 4), .int (f 5), .ref (ad 0 5), .int (f 7), .int (f 8), .int (f 9), .int (f 10), .int (f 11), .int (f 12), .int (f 13), .ref (ad 0 6)])) := rfl
theorem eM_1 {z : cj_Zc} {ad : cj_Ad} : cj_EM z ad 0 1 = some (fun f => .inl (z.1, 183, .inl f)) := rfl
theorem eM_2 {z : cj_Zc} {ad : cj_Ad} : cj_EM z ad 0 2 = some (fun f => .inl (z.1, 732, .inl f)) := rfl
theorem eM_3 {z : cj_Zc} {ad : cj_Ad} : cj_EM z ad 0 3 = some (fun f => .inl (z.1, 183, .inl f)) := rfl
theorem eM_4 {z : cj_Zc} {ad : cj_Ad} : cj_EM z ad 0 4 = some (fun f => .inl (z.1, 183, .inl f)) := rfl
theorem eM_5 {z : cj_Zc} {ad : cj_Ad} : cj_EM z ad 0 5 = some (fun f => .inl (z.1, 60, .inl f)) := rfl
theorem eM_6 {z : cj_Zc} {ad : cj_Ad} : cj_EM z ad 0 6 = some (fun f => .inl (z.1, 2, .inl f)) := rfl
theorem cjn_X8_9 : ("CourtJotter", 9, (⟨"CourtJotter$Court", "<init>", "()V"⟩ : MethodName), "CourtJotter") ∈ cj_nst := by decide +kernel
theorem cjn_X0_20 : ("CourtJotter$Court", 20, (⟨"CourtJotter$Sheets", "<init>", "()V"⟩ : MethodName), "CourtJotter") ∈ cj_nst := by decide +kernel
theorem cjn_X0_27 : ("CourtJotter$Court", 27, (⟨"CourtJotter$Papers", "<init>", "()V"⟩ : MethodName), "CourtJotter") ∈ cj_nst := by decide +kernel
theorem cjn_X1_17 : ("CourtJotter$History", 17, (⟨"CourtJotter$Court", "<init>", "()V"⟩ : MethodName), "CourtJotter") ∈ cj_nst := by decide +kernel
theorem cjn_X8_28 : ("CourtJotter", 28, (⟨"CourtJotter$Text", "<init>", "()V"⟩ : MethodName), "CourtJotter") ∈ cj_nst := by decide +kernel
theorem cjn_X8_35 : ("CourtJotter", 35, (⟨"CourtJotter$Rehearsal", "<init>", "()V"⟩ : MethodName), "CourtJotter") ∈ cj_nst := by decide +kernel
theorem cjn_X8_42 : ("CourtJotter", 42, (⟨"CourtJotter$Sale", "<init>", "()V"⟩ : MethodName), "CourtJotter") ∈ cj_nst := by decide +kernel
theorem cjn_X3_37 : ("CourtJotter$People", 37, (⟨"CourtJotter", "copyRow", "([I[I)V"⟩ : MethodName), "CourtJotter") ∈ cj_nst := by decide +kernel
theorem cjn_X6_31 : ("CourtJotter$Sheets", 31, (⟨"CourtJotter", "copyRow", "([I[I)V"⟩ : MethodName), "CourtJotter") ∈ cj_nst := by decide +kernel
theorem cjn_X2_34 : ("CourtJotter$Papers", 34, (⟨"CourtJotter", "copyRow", "([I[I)V"⟩ : MethodName), "CourtJotter") ∈ cj_nst := by decide +kernel
theorem cjn_X0_64 : ("CourtJotter$Court", 64, (⟨"CourtJotter", "isWithin", "(III)Z"⟩ : MethodName), "CourtJotter") ∈ cj_nst := by decide +kernel
theorem cjn_X0_117 : ("CourtJotter$Court", 117, (⟨"CourtJotter", "hasBit", "(II)Z"⟩ : MethodName), "CourtJotter") ∈ cj_nst := by decide +kernel
theorem cjn_X3_57 : ("CourtJotter$People", 57, (⟨"CourtJotter", "hasBit", "(II)Z"⟩ : MethodName), "CourtJotter") ∈ cj_nst := by decide +kernel
theorem cjn_X7_15 : ("CourtJotter$Text", 15, (⟨"CourtJotter", "isWithin", "(III)Z"⟩ : MethodName), "CourtJotter") ∈ cj_nst := by decide +kernel
theorem cjq_0 : Cond.selects "CourtJotterModel" ⟨"CourtJotterModel", "of", "(II)I"⟩ ⟨"CourtJotterModel", "of", "(II)I"⟩ ∈ cj_ws := cj_mem 0 (by decide +kernel) rfl
theorem cjq_1 : Cond.selects "CourtJotterModel" ⟨"CourtJotterModel", "changes", "()V"⟩ ⟨"CourtJotterModel", "changes", "()V"⟩ ∈ cj_ws := cj_mem 1 (by decide +kernel) rfl
theorem cjq_2 : Cond.selects "CourtJotterModel" ⟨"CourtJotterModel", "sets", "(III)V"⟩ ⟨"CourtJotterModel", "sets", "(III)V"⟩ ∈ cj_ws := cj_mem 2 (by decide +kernel) rfl
theorem cjq_3 : Cond.selects "CourtJotterModel" ⟨"CourtJotterModel", "isPerson", "(I)Z"⟩ ⟨"CourtJotterModel", "isPerson", "(I)Z"⟩ ∈ cj_ws := cj_mem 3 (by decide +kernel) rfl
theorem cjq_4 : Cond.selects "CourtJotterModel" ⟨"CourtJotterModel", "seen", "(I)I"⟩ ⟨"CourtJotterModel", "seen", "(I)I"⟩ ∈ cj_ws := cj_mem 4 (by decide +kernel) rfl
theorem cjq_5 : Cond.selects "CourtJotterModel" ⟨"CourtJotterModel", "seenAt", "(II)I"⟩ ⟨"CourtJotterModel", "seenAt", "(II)I"⟩ ∈ cj_ws := cj_mem 5 (by decide +kernel) rfl
theorem cjq_6 : Cond.selects "CourtJotterModel" ⟨"CourtJotterModel", "isHidden", "(I)Z"⟩ ⟨"CourtJotterModel", "isHidden", "(I)Z"⟩ ∈ cj_ws := cj_mem 6 (by decide +kernel) rfl
theorem cjq_7 : Cond.selects "CourtJotterModel" ⟨"CourtJotterModel", "slot", "(I)I"⟩ ⟨"CourtJotterModel", "slot", "(I)I"⟩ ∈ cj_ws := cj_mem 7 (by decide +kernel) rfl
theorem cjq_8 : Cond.selects "CourtJotterModel" ⟨"CourtJotterModel", "ofSheet", "(II)I"⟩ ⟨"CourtJotterModel", "ofSheet", "(II)I"⟩ ∈ cj_ws := cj_mem 8 (by decide +kernel) rfl
theorem cjq_9 : Cond.selects "CourtJotterModel" ⟨"CourtJotterModel", "drawable", "(I)I"⟩ ⟨"CourtJotterModel", "drawable", "(I)I"⟩ ∈ cj_ws := cj_mem 9 (by decide +kernel) rfl
theorem cjq_10 : Cond.selects "CourtJotterModel" ⟨"CourtJotterModel", "remembered", "(I)I"⟩ ⟨"CourtJotterModel", "remembered", "(I)I"⟩ ∈ cj_ws := cj_mem 10 (by decide +kernel) rfl
theorem cjq_11 : Cond.selects "CourtJotterModel" ⟨"CourtJotterModel", "takesOut", "(I)V"⟩ ⟨"CourtJotterModel", "takesOut", "(I)V"⟩ ∈ cj_ws := cj_mem 11 (by decide +kernel) rfl
theorem cjq_12 : Cond.selects "CourtJotterModel" ⟨"CourtJotterModel", "hasVerdict", "(I)Z"⟩ ⟨"CourtJotterModel", "hasVerdict", "(I)Z"⟩ ∈ cj_ws := cj_mem 12 (by decide +kernel) rfl
theorem cjq_13 : Cond.selects "CourtJotterModel" ⟨"CourtJotterModel", "day", "()I"⟩ ⟨"CourtJotterModel", "day", "()I"⟩ ∈ cj_ws := cj_mem 13 (by decide +kernel) rfl
theorem cjq_14 : Cond.selects "CourtJotterModel" ⟨"CourtJotterModel", "sheetsOf", "(I)I"⟩ ⟨"CourtJotterModel", "sheetsOf", "(I)I"⟩ ∈ cj_ws := cj_mem 14 (by decide +kernel) rfl
theorem cjq_15 : Cond.selects "CourtJotterModel" ⟨"CourtJotterModel", "isPaper", "(I)Z"⟩ ⟨"CourtJotterModel", "isPaper", "(I)Z"⟩ ∈ cj_ws := cj_mem 15 (by decide +kernel) rfl
theorem cjq_16 : Cond.selects "CourtJotterModel" ⟨"CourtJotterModel", "canSell", "(II)Z"⟩ ⟨"CourtJotterModel", "canSell", "(II)Z"⟩ ∈ cj_ws := cj_mem 16 (by decide +kernel) rfl
theorem cjq_17 : Cond.selects "CourtJotterModel" ⟨"CourtJotterModel", "isDry", "(I)Z"⟩ ⟨"CourtJotterModel", "isDry", "(I)Z"⟩ ∈ cj_ws := cj_mem 17 (by decide +kernel) rfl
theorem cjq_18 : Cond.selects "CourtJotterModel" ⟨"CourtJotterModel", "boughtOf", "(I)I"⟩ ⟨"CourtJotterModel", "boughtOf", "(I)I"⟩ ∈ cj_ws := cj_mem 18 (by decide +kernel) rfl
theorem cjq_19 : Cond.selects "CourtJotterModel" ⟨"CourtJotterModel", "ofPaper", "(II)I"⟩ ⟨"CourtJotterModel", "ofPaper", "(II)I"⟩ ∈ cj_ws := cj_mem 19 (by decide +kernel) rfl
theorem cjq_20 : Cond.selects "CourtJotterModel" ⟨"CourtJotterModel", "sells", "(II)I"⟩ ⟨"CourtJotterModel", "sells", "(II)I"⟩ ∈ cj_ws := cj_mem 20 (by decide +kernel) rfl
theorem cjq_21 : Cond.selects "CourtJotterModel" ⟨"CourtJotterModel", "priceOf", "(II)I"⟩ ⟨"CourtJotterModel", "priceOf", "(II)I"⟩ ∈ cj_ws := cj_mem 21 (by decide +kernel) rfl
theorem cjq_22 : Cond.selects "CourtJotterModel" ⟨"CourtJotterModel", "minute", "()V"⟩ ⟨"CourtJotterModel", "minute", "()V"⟩ ∈ cj_ws := cj_mem 22 (by decide +kernel) rfl
theorem cjq_23 : Cond.selects "CourtJotterModel" ⟨"CourtJotterModel", "sees", "(I)V"⟩ ⟨"CourtJotterModel", "sees", "(I)V"⟩ ∈ cj_ws := cj_mem 23 (by decide +kernel) rfl
theorem cjq_24 : Cond.selects "CourtJotterModel" ⟨"CourtJotterModel", "bestSale", "()I"⟩ ⟨"CourtJotterModel", "bestSale", "()I"⟩ ∈ cj_ws := cj_mem 24 (by decide +kernel) rfl
theorem cjq_25 : Cond.selects "CourtJotterModel" ⟨"CourtJotterModel", "plays", "()Z"⟩ ⟨"CourtJotterModel", "plays", "()Z"⟩ ∈ cj_ws := cj_mem 25 (by decide +kernel) rfl
theorem cjq_26 : Cond.selects "CourtJotterModel" ⟨"CourtJotterModel", "reads", "()Z"⟩ ⟨"CourtJotterModel", "reads", "()Z"⟩ ∈ cj_ws := cj_mem 26 (by decide +kernel) rfl
theorem cjq_27 : Cond.selects "CourtJotterModel" ⟨"CourtJotterModel", "isAt", "(II)Z"⟩ ⟨"CourtJotterModel", "isAt", "(II)Z"⟩ ∈ cj_ws := cj_mem 27 (by decide +kernel) rfl
theorem cjq_28 : Cond.selects "CourtJotterModel" ⟨"CourtJotterModel", "numbered", "(I)Z"⟩ ⟨"CourtJotterModel", "numbered", "(I)Z"⟩ ∈ cj_ws := cj_mem 28 (by decide +kernel) rfl
theorem cjq_29 : Cond.selects "CourtJotterModel" ⟨"CourtJotterModel", "sign", "(I)Z"⟩ ⟨"CourtJotterModel", "sign", "(I)Z"⟩ ∈ cj_ws := cj_mem 29 (by decide +kernel) rfl
theorem cjq_30 : Cond.selects "CourtJotterModel" ⟨"CourtJotterModel", "calls", "()I"⟩ ⟨"CourtJotterModel", "calls", "()I"⟩ ∈ cj_ws := cj_mem 30 (by decide +kernel) rfl
theorem cjq_32 : Jvm.Cond.initialized "CourtJotter" ∈ cj_ws := cj_mem 32 (by decide +kernel) rfl
theorem cjq_33 : Jvm.Cond.initialized "CourtJotter$Court" ∈ cj_ws := cj_mem 33 (by decide +kernel) rfl
theorem cjq_34 : Jvm.Cond.initialized "CourtJotter$People" ∈ cj_ws := cj_mem 34 (by decide +kernel) rfl
theorem cjq_35 : Jvm.Cond.initialized "CourtJotter$Sheets" ∈ cj_ws := cj_mem 35 (by decide +kernel) rfl
theorem cjq_36 : Jvm.Cond.initialized "CourtJotter$Papers" ∈ cj_ws := cj_mem 36 (by decide +kernel) rfl
theorem cjq_37 : Jvm.Cond.initialized "CourtJotter$History" ∈ cj_ws := cj_mem 37 (by decide +kernel) rfl
theorem cjq_38 : Jvm.Cond.initialized "CourtJotter$Text" ∈ cj_ws := cj_mem 38 (by decide +kernel) rfl
theorem cjq_39 : Jvm.Cond.initialized "CourtJotter$Rehearsal" ∈ cj_ws := cj_mem 39 (by decide +kernel) rfl
theorem cjq_41 : Jvm.Cond.initialized "CourtJotterModel" ∈ cj_ws := cj_mem 41 (by decide +kernel) rfl
theorem cjq_42 : Jvm.Cond.initialized "java/lang/Math" ∈ cj_ws := cj_mem 42 (by decide +kernel) rfl
theorem cjq_43 : Jvm.Cond.initialized "java/lang/System" ∈ cj_ws := cj_mem 43 (by decide +kernel) rfl
theorem cjq_44 : Jvm.Cond.initialized "java/lang/Integer" ∈ cj_ws := cj_mem 44 (by decide +kernel) rfl
theorem cjq_45 : Jvm.Cond.initialized "java/lang/Float" ∈ cj_ws := cj_mem 45 (by decide +kernel) rfl
theorem cjq_66 : Jvm.Cond.fieldLink "CourtJotter$People" (33 : Nat) "CourtJotter$People" "count" "I" ∈ cj_ws := cj_mem 66 (by decide +kernel) rfl
theorem cjq_67 : Jvm.Cond.fieldLink "CourtJotter$Court" (74 : Nat) "CourtJotter$People" "count" "I" ∈ cj_ws := cj_mem 67 (by decide +kernel) rfl
theorem cjq_68 : Jvm.Cond.fieldLink "CourtJotter$People" (9 : Nat) "CourtJotter$People" "rows" "[I" ∈ cj_ws := cj_mem 68 (by decide +kernel) rfl
theorem cjq_69 : Jvm.Cond.fieldLink "CourtJotter$Court" (78 : Nat) "CourtJotter$People" "rows" "[I" ∈ cj_ws := cj_mem 69 (by decide +kernel) rfl
theorem cjq_70 : Jvm.Cond.fieldLink "CourtJotter$People" (15 : Nat) "CourtJotter$People" "seats" "[I" ∈ cj_ws := cj_mem 70 (by decide +kernel) rfl
theorem cjq_71 : Jvm.Cond.fieldLink "CourtJotter$Court" (82 : Nat) "CourtJotter$People" "seats" "[I" ∈ cj_ws := cj_mem 71 (by decide +kernel) rfl
theorem cjq_72 : Jvm.Cond.fieldLink "CourtJotter$People" (18 : Nat) "CourtJotter$People" "angles" "[I" ∈ cj_ws := cj_mem 72 (by decide +kernel) rfl
theorem cjq_73 : Jvm.Cond.fieldLink "CourtJotter$Court" (89 : Nat) "CourtJotter$People" "angles" "[I" ∈ cj_ws := cj_mem 73 (by decide +kernel) rfl
theorem cjq_74 : Jvm.Cond.fieldLink "CourtJotter$People" (21 : Nat) "CourtJotter$People" "steps" "[I" ∈ cj_ws := cj_mem 74 (by decide +kernel) rfl
theorem cjq_75 : Jvm.Cond.fieldLink "CourtJotter$Court" (92 : Nat) "CourtJotter$People" "steps" "[I" ∈ cj_ws := cj_mem 75 (by decide +kernel) rfl
theorem cjq_76 : Jvm.Cond.fieldLink "CourtJotter$People" (24 : Nat) "CourtJotter$People" "verdictDays" "[I" ∈ cj_ws := cj_mem 76 (by decide +kernel) rfl
theorem cjq_77 : Jvm.Cond.fieldLink "CourtJotter$Court" (143 : Nat) "CourtJotter$People" "verdictDays" "[I" ∈ cj_ws := cj_mem 77 (by decide +kernel) rfl
theorem cjq_78 : Jvm.Cond.fieldLink "CourtJotter$People" (27 : Nat) "CourtJotter$People" "paid" "[I" ∈ cj_ws := cj_mem 78 (by decide +kernel) rfl
theorem cjq_79 : Jvm.Cond.fieldLink "CourtJotter$Court" (166 : Nat) "CourtJotter$People" "paid" "[I" ∈ cj_ws := cj_mem 79 (by decide +kernel) rfl
theorem cjq_80 : Jvm.Cond.fieldLink "CourtJotter$People" (30 : Nat) "CourtJotter$People" "seenMinutes" "[I" ∈ cj_ws := cj_mem 80 (by decide +kernel) rfl
theorem cjq_105 : Jvm.Cond.fieldLink "CourtJotter$Sheets" (24 : Nat) "CourtJotter$Sheets" "count" "I" ∈ cj_ws := cj_mem 105 (by decide +kernel) rfl
theorem cjq_106 : Jvm.Cond.fieldLink "CourtJotter$Court" (106 : Nat) "CourtJotter$Sheets" "count" "I" ∈ cj_ws := cj_mem 106 (by decide +kernel) rfl
theorem cjq_107 : Jvm.Cond.fieldLink "CourtJotter" (122 : Nat) "CourtJotter$Sheets" "count" "I" ∈ cj_ws := cj_mem 107 (by decide +kernel) rfl
theorem cjq_108 : Jvm.Cond.fieldLink "CourtJotter$Sheets" (28 : Nat) "CourtJotter$Sheets" "begun" "I" ∈ cj_ws := cj_mem 108 (by decide +kernel) rfl
theorem cjq_109 : Jvm.Cond.fieldLink "CourtJotter$Court" (232 : Nat) "CourtJotter$Sheets" "begun" "I" ∈ cj_ws := cj_mem 109 (by decide +kernel) rfl
theorem cjq_110 : Jvm.Cond.fieldLink "CourtJotter$Sheets" (9 : Nat) "CourtJotter$Sheets" "numbers" "[I" ∈ cj_ws := cj_mem 110 (by decide +kernel) rfl
theorem cjq_111 : Jvm.Cond.fieldLink "CourtJotter$Court" (204 : Nat) "CourtJotter$Sheets" "numbers" "[I" ∈ cj_ws := cj_mem 111 (by decide +kernel) rfl
theorem cjq_112 : Jvm.Cond.fieldLink "CourtJotter" (126 : Nat) "CourtJotter$Sheets" "numbers" "[I" ∈ cj_ws := cj_mem 112 (by decide +kernel) rfl
theorem cjq_113 : Jvm.Cond.fieldLink "CourtJotter$Sheets" (15 : Nat) "CourtJotter$Sheets" "people" "[I" ∈ cj_ws := cj_mem 113 (by decide +kernel) rfl
theorem cjq_114 : Jvm.Cond.fieldLink "CourtJotter$Court" (157 : Nat) "CourtJotter$Sheets" "people" "[I" ∈ cj_ws := cj_mem 114 (by decide +kernel) rfl
theorem cjq_115 : Jvm.Cond.fieldLink "CourtJotter$Sheets" (18 : Nat) "CourtJotter$Sheets" "drawn" "[I" ∈ cj_ws := cj_mem 115 (by decide +kernel) rfl
theorem cjq_116 : Jvm.Cond.fieldLink "CourtJotter$Court" (120 : Nat) "CourtJotter$Sheets" "drawn" "[I" ∈ cj_ws := cj_mem 116 (by decide +kernel) rfl
theorem cjq_117 : Jvm.Cond.fieldLink "CourtJotter$Sheets" (21 : Nat) "CourtJotter$Sheets" "dryMinutes" "[I" ∈ cj_ws := cj_mem 117 (by decide +kernel) rfl
theorem cjq_118 : Jvm.Cond.fieldLink "CourtJotter$Court" (123 : Nat) "CourtJotter$Sheets" "dryMinutes" "[I" ∈ cj_ws := cj_mem 118 (by decide +kernel) rfl
theorem cjq_138 : Jvm.Cond.fieldLink "CourtJotter$Papers" (30 : Nat) "CourtJotter$Papers" "count" "I" ∈ cj_ws := cj_mem 138 (by decide +kernel) rfl
theorem cjq_139 : Jvm.Cond.fieldLink "CourtJotter$Court" (99 : Nat) "CourtJotter$Papers" "count" "I" ∈ cj_ws := cj_mem 139 (by decide +kernel) rfl
theorem cjq_140 : Jvm.Cond.fieldLink "CourtJotter$Papers" (9 : Nat) "CourtJotter$Papers" "rates" "[I" ∈ cj_ws := cj_mem 140 (by decide +kernel) rfl
theorem cjq_141 : Jvm.Cond.fieldLink "CourtJotter$Court" (100 : Nat) "CourtJotter$Papers" "rates" "[I" ∈ cj_ws := cj_mem 141 (by decide +kernel) rfl
theorem cjq_142 : Jvm.Cond.fieldLink "CourtJotter$Papers" (15 : Nat) "CourtJotter$Papers" "hours" "[I" ∈ cj_ws := cj_mem 142 (by decide +kernel) rfl
theorem cjq_143 : Jvm.Cond.fieldLink "CourtJotter$Court" (103 : Nat) "CourtJotter$Papers" "hours" "[I" ∈ cj_ws := cj_mem 143 (by decide +kernel) rfl
theorem cjq_144 : Jvm.Cond.fieldLink "CourtJotter$Papers" (18 : Nat) "CourtJotter$Papers" "bought" "[I" ∈ cj_ws := cj_mem 144 (by decide +kernel) rfl
theorem cjq_145 : Jvm.Cond.fieldLink "CourtJotter$Court" (228 : Nat) "CourtJotter$Papers" "bought" "[I" ∈ cj_ws := cj_mem 145 (by decide +kernel) rfl
theorem cjq_146 : Jvm.Cond.fieldLink "CourtJotter$Papers" (21 : Nat) "CourtJotter$Papers" "paid" "[I" ∈ cj_ws := cj_mem 146 (by decide +kernel) rfl
theorem cjq_147 : Jvm.Cond.fieldLink "CourtJotter$Court" (231 : Nat) "CourtJotter$Papers" "paid" "[I" ∈ cj_ws := cj_mem 147 (by decide +kernel) rfl
theorem cjq_148 : Jvm.Cond.fieldLink "CourtJotter$Papers" (24 : Nat) "CourtJotter$Papers" "buyingDays" "[I" ∈ cj_ws := cj_mem 148 (by decide +kernel) rfl
theorem cjq_149 : Jvm.Cond.fieldLink "CourtJotter$Papers" (27 : Nat) "CourtJotter$Papers" "peopleBought" "[I" ∈ cj_ws := cj_mem 149 (by decide +kernel) rfl
theorem cjq_165 : Jvm.Cond.fieldLink "CourtJotter$Court" (12 : Nat) "CourtJotter$Court" "people" "LCourtJotter$People;" ∈ cj_ws := cj_mem 165 (by decide +kernel) rfl
theorem cjq_166 : Jvm.Cond.fieldLink "CourtJotter" (131 : Nat) "CourtJotter$Court" "people" "LCourtJotter$People;" ∈ cj_ws := cj_mem 166 (by decide +kernel) rfl
theorem cjq_167 : Jvm.Cond.fieldLink "CourtJotter$Court" (21 : Nat) "CourtJotter$Court" "sheets" "LCourtJotter$Sheets;" ∈ cj_ws := cj_mem 167 (by decide +kernel) rfl
theorem cjq_168 : Jvm.Cond.fieldLink "CourtJotter" (99 : Nat) "CourtJotter$Court" "sheets" "LCourtJotter$Sheets;" ∈ cj_ws := cj_mem 168 (by decide +kernel) rfl
theorem cjq_169 : Jvm.Cond.fieldLink "CourtJotter$Court" (28 : Nat) "CourtJotter$Court" "papers" "LCourtJotter$Papers;" ∈ cj_ws := cj_mem 169 (by decide +kernel) rfl
theorem cjq_170 : Jvm.Cond.fieldLink "CourtJotter" (108 : Nat) "CourtJotter$Court" "papers" "LCourtJotter$Papers;" ∈ cj_ws := cj_mem 170 (by decide +kernel) rfl
theorem cjq_171 : Jvm.Cond.fieldLink "CourtJotter$Court" (32 : Nat) "CourtJotter$Court" "memory" "I" ∈ cj_ws := cj_mem 171 (by decide +kernel) rfl
theorem cjq_172 : Jvm.Cond.fieldLink "CourtJotter$Court" (36 : Nat) "CourtJotter$Court" "drying" "I" ∈ cj_ws := cj_mem 172 (by decide +kernel) rfl
theorem cjq_173 : Jvm.Cond.fieldLink "CourtJotter$Court" (52 : Nat) "CourtJotter$Court" "minute" "I" ∈ cj_ws := cj_mem 173 (by decide +kernel) rfl
theorem cjq_174 : Jvm.Cond.fieldLink "CourtJotter$Court" (39 : Nat) "CourtJotter$Court" "lookedAt" "I" ∈ cj_ws := cj_mem 174 (by decide +kernel) rfl
theorem cjq_175 : Jvm.Cond.fieldLink "CourtJotter" (152 : Nat) "CourtJotter$Court" "lookedAt" "I" ∈ cj_ws := cj_mem 175 (by decide +kernel) rfl
theorem cjq_176 : Jvm.Cond.fieldLink "CourtJotter$Court" (55 : Nat) "CourtJotter$Court" "drawnThisMinute" "I" ∈ cj_ws := cj_mem 176 (by decide +kernel) rfl
theorem cjq_177 : Jvm.Cond.fieldLink "CourtJotter$Court" (58 : Nat) "CourtJotter$Court" "sold" "I" ∈ cj_ws := cj_mem 177 (by decide +kernel) rfl
theorem cjq_178 : Jvm.Cond.fieldLink "CourtJotter" (180 : Nat) "CourtJotter$Court" "sold" "I" ∈ cj_ws := cj_mem 178 (by decide +kernel) rfl
theorem cjq_179 : Jvm.Cond.fieldLink "CourtJotter$Court" (61 : Nat) "CourtJotter$Court" "paid" "I" ∈ cj_ws := cj_mem 179 (by decide +kernel) rfl
theorem cjq_180 : Jvm.Cond.fieldLink "CourtJotter" (183 : Nat) "CourtJotter$Court" "paid" "I" ∈ cj_ws := cj_mem 180 (by decide +kernel) rfl
theorem cjq_211 : Jvm.Cond.fieldLink "CourtJotter$History" (13 : Nat) "CourtJotter$History" "states" "[LCourtJotter$Court;" ∈ cj_ws := cj_mem 211 (by decide +kernel) rfl
theorem cjq_212 : Jvm.Cond.fieldLink "CourtJotter$History" (18 : Nat) "CourtJotter$History" "oldest" "I" ∈ cj_ws := cj_mem 212 (by decide +kernel) rfl
theorem cjq_213 : Jvm.Cond.fieldLink "CourtJotter$History" (22 : Nat) "CourtJotter$History" "size" "I" ∈ cj_ws := cj_mem 213 (by decide +kernel) rfl
theorem cjq_214 : Jvm.Cond.fieldLink "CourtJotter" (190 : Nat) "CourtJotter$History" "size" "I" ∈ cj_ws := cj_mem 214 (by decide +kernel) rfl
theorem cjq_228 : Jvm.Cond.fieldLink "CourtJotter$Text" (9 : Nat) "CourtJotter$Text" "characters" "[C" ∈ cj_ws := cj_mem 228 (by decide +kernel) rfl
theorem cjq_229 : Jvm.Cond.fieldLink "CourtJotter$Text" (20 : Nat) "CourtJotter$Text" "length" "I" ∈ cj_ws := cj_mem 229 (by decide +kernel) rfl
theorem cjq_230 : Jvm.Cond.fieldLink "CourtJotter$Rehearsal" (18 : Nat) "CourtJotter$Text" "length" "I" ∈ cj_ws := cj_mem 230 (by decide +kernel) rfl
theorem cjq_231 : Jvm.Cond.fieldLink "CourtJotter" (193 : Nat) "CourtJotter$Text" "length" "I" ∈ cj_ws := cj_mem 231 (by decide +kernel) rfl
theorem cjq_232 : Jvm.Cond.fieldLink "CourtJotter$Rehearsal" (27 : Nat) "CourtJotter$Text" "at" "I" ∈ cj_ws := cj_mem 232 (by decide +kernel) rfl
theorem cjq_233 : Jvm.Cond.fieldLink "CourtJotter$Text" (25 : Nat) "CourtJotter$Text" "at" "I" ∈ cj_ws := cj_mem 233 (by decide +kernel) rfl
theorem cjq_234 : Jvm.Cond.fieldLink "CourtJotter$Rehearsal" (34 : Nat) "CourtJotter$Text" "kind" "C" ∈ cj_ws := cj_mem 234 (by decide +kernel) rfl
theorem cjq_235 : Jvm.Cond.fieldLink "CourtJotter$Text" (32 : Nat) "CourtJotter$Text" "kind" "C" ∈ cj_ws := cj_mem 235 (by decide +kernel) rfl
theorem cjq_236 : Jvm.Cond.fieldLink "CourtJotter$Rehearsal" (38 : Nat) "CourtJotter$Text" "first" "I" ∈ cj_ws := cj_mem 236 (by decide +kernel) rfl
theorem cjq_237 : Jvm.Cond.fieldLink "CourtJotter$Text" (47 : Nat) "CourtJotter$Text" "first" "I" ∈ cj_ws := cj_mem 237 (by decide +kernel) rfl
theorem cjq_238 : Jvm.Cond.fieldLink "CourtJotter$Rehearsal" (41 : Nat) "CourtJotter$Text" "second" "I" ∈ cj_ws := cj_mem 238 (by decide +kernel) rfl
theorem cjq_239 : Jvm.Cond.fieldLink "CourtJotter$Text" (50 : Nat) "CourtJotter$Text" "second" "I" ∈ cj_ws := cj_mem 239 (by decide +kernel) rfl
theorem cjq_260 : Jvm.Cond.fieldLink "CourtJotter$Rehearsal" (9 : Nat) "CourtJotter$Rehearsal" "done" "I" ∈ cj_ws := cj_mem 260 (by decide +kernel) rfl
theorem cjq_261 : Jvm.Cond.fieldLink "CourtJotter" (220 : Nat) "CourtJotter$Rehearsal" "done" "I" ∈ cj_ws := cj_mem 261 (by decide +kernel) rfl
theorem cjq_262 : Jvm.Cond.fieldLink "CourtJotter$Rehearsal" (15 : Nat) "CourtJotter$Rehearsal" "position" "I" ∈ cj_ws := cj_mem 262 (by decide +kernel) rfl
theorem cjq_263 : Jvm.Cond.fieldLink "CourtJotter" (210 : Nat) "CourtJotter$Rehearsal" "position" "I" ∈ cj_ws := cj_mem 263 (by decide +kernel) rfl
theorem cjq_264 : Jvm.Cond.fieldLink "CourtJotter$Rehearsal" (50 : Nat) "CourtJotter$Rehearsal" "reason" "I" ∈ cj_ws := cj_mem 264 (by decide +kernel) rfl
theorem cjq_265 : Jvm.Cond.fieldLink "CourtJotter" (213 : Nat) "CourtJotter$Rehearsal" "reason" "I" ∈ cj_ws := cj_mem 265 (by decide +kernel) rfl
theorem cjq_266 : Jvm.Cond.fieldLink "CourtJotter$Rehearsal" (53 : Nat) "CourtJotter$Rehearsal" "cause" "I" ∈ cj_ws := cj_mem 266 (by decide +kernel) rfl
theorem cjq_267 : Jvm.Cond.fieldLink "CourtJotter" (216 : Nat) "CourtJotter$Rehearsal" "cause" "I" ∈ cj_ws := cj_mem 267 (by decide +kernel) rfl
theorem cjq_283 : Jvm.Cond.fieldLink "CourtJotter$Court" (207 : Nat) "CourtJotter$Sale" "sheet" "I" ∈ cj_ws := cj_mem 283 (by decide +kernel) rfl
theorem cjq_284 : Jvm.Cond.fieldLink "CourtJotter" (171 : Nat) "CourtJotter$Sale" "sheet" "I" ∈ cj_ws := cj_mem 284 (by decide +kernel) rfl
theorem cjq_285 : Jvm.Cond.fieldLink "CourtJotter$Court" (210 : Nat) "CourtJotter$Sale" "paper" "I" ∈ cj_ws := cj_mem 285 (by decide +kernel) rfl
theorem cjq_286 : Jvm.Cond.fieldLink "CourtJotter" (174 : Nat) "CourtJotter$Sale" "paper" "I" ∈ cj_ws := cj_mem 286 (by decide +kernel) rfl
theorem cjq_287 : Jvm.Cond.fieldLink "CourtJotter$Court" (199 : Nat) "CourtJotter$Sale" "price" "I" ∈ cj_ws := cj_mem 287 (by decide +kernel) rfl
theorem cjq_288 : Jvm.Cond.fieldLink "CourtJotter" (177 : Nat) "CourtJotter$Sale" "price" "I" ∈ cj_ws := cj_mem 288 (by decide +kernel) rfl
theorem cjq_296 : Jvm.Cond.fieldLink "CourtJotter" (10 : Nat) "CourtJotter" "court" "LCourtJotter$Court;" ∈ cj_ws := cj_mem 296 (by decide +kernel) rfl
theorem cjq_297 : Jvm.Cond.fieldLink "CourtJotter" (16 : Nat) "CourtJotter" "trial" "LCourtJotter$Court;" ∈ cj_ws := cj_mem 297 (by decide +kernel) rfl
theorem cjq_298 : Jvm.Cond.fieldLink "CourtJotter" (22 : Nat) "CourtJotter" "history" "LCourtJotter$History;" ∈ cj_ws := cj_mem 298 (by decide +kernel) rfl
theorem cjq_299 : Jvm.Cond.fieldLink "CourtJotter" (29 : Nat) "CourtJotter" "text" "LCourtJotter$Text;" ∈ cj_ws := cj_mem 299 (by decide +kernel) rfl
theorem cjq_300 : Jvm.Cond.fieldLink "CourtJotter" (36 : Nat) "CourtJotter" "rehearsal" "LCourtJotter$Rehearsal;" ∈ cj_ws := cj_mem 300 (by decide +kernel) rfl
theorem cjq_301 : Jvm.Cond.fieldLink "CourtJotter" (43 : Nat) "CourtJotter" "sale" "LCourtJotter$Sale;" ∈ cj_ws := cj_mem 301 (by decide +kernel) rfl
theorem cjq_318 : Jvm.Cond.code ({ cls := "CourtJotter", name := "person", desc := "(II)I" } : Jvm.MethodName) prog_1_method_2_code (3 : Nat) (Option.some Jvm.ClassFile.FieldType.int) ∈ cj_ws := cj_mem 318 (by decide +kernel) rfl
theorem cjq_319 : Jvm.Cond.methodLink "CourtJotter" (47 : Nat) ({ cls := "CourtJotter$History", name := "prepare", desc := "(LCourtJotter$Court;)V" } : Jvm.MethodName) ∈ cj_ws := cj_mem 319 (by decide +kernel) rfl
theorem cjq_320 : Jvm.Cond.instanceMethod ({ cls := "CourtJotter$History", name := "prepare", desc := "(LCourtJotter$Court;)V" } : Jvm.MethodName) ∈ cj_ws := cj_mem 320 (by decide +kernel) rfl
theorem cjq_321 : Jvm.Cond.selects "CourtJotter$History" ({ cls := "CourtJotter$History", name := "prepare", desc := "(LCourtJotter$Court;)V" } : Jvm.MethodName) ({ cls := "CourtJotter$History", name := "prepare", desc := "(LCourtJotter$Court;)V" } : Jvm.MethodName) ∈ cj_ws := cj_mem 321 (by decide +kernel) rfl
theorem cjq_322 : Jvm.Cond.code ({ cls := "CourtJotter$History", name := "prepare", desc := "(LCourtJotter$Court;)V" } : Jvm.MethodName) prog_3_method_2_code (3 : Nat) (Option.none : Option Jvm.ClassFile.FieldType) ∈ cj_ws := cj_mem 322 (by decide +kernel) rfl
theorem cjq_323 : Jvm.Cond.methodLink "CourtJotter$History" (25 : Nat) ({ cls := "CourtJotter$Court", name := "copyFrom", desc := "(LCourtJotter$Court;)V" } : Jvm.MethodName) ∈ cj_ws := cj_mem 323 (by decide +kernel) rfl
theorem cjq_324 : Jvm.Cond.instanceMethod ({ cls := "CourtJotter$Court", name := "copyFrom", desc := "(LCourtJotter$Court;)V" } : Jvm.MethodName) ∈ cj_ws := cj_mem 324 (by decide +kernel) rfl
theorem cjq_325 : Jvm.Cond.selects "CourtJotter$Court" ({ cls := "CourtJotter$Court", name := "copyFrom", desc := "(LCourtJotter$Court;)V" } : Jvm.MethodName) ({ cls := "CourtJotter$Court", name := "copyFrom", desc := "(LCourtJotter$Court;)V" } : Jvm.MethodName) ∈ cj_ws := cj_mem 325 (by decide +kernel) rfl
theorem cjq_326 : Jvm.Cond.code ({ cls := "CourtJotter$Court", name := "copyFrom", desc := "(LCourtJotter$Court;)V" } : Jvm.MethodName) prog_2_method_2_code (2 : Nat) (Option.none : Option Jvm.ClassFile.FieldType) ∈ cj_ws := cj_mem 326 (by decide +kernel) rfl
theorem cjq_327 : Jvm.Cond.methodLink "CourtJotter$Court" (42 : Nat) ({ cls := "CourtJotter$People", name := "copyFrom", desc := "(LCourtJotter$People;)V" } : Jvm.MethodName) ∈ cj_ws := cj_mem 327 (by decide +kernel) rfl
theorem cjq_328 : Jvm.Cond.instanceMethod ({ cls := "CourtJotter$People", name := "copyFrom", desc := "(LCourtJotter$People;)V" } : Jvm.MethodName) ∈ cj_ws := cj_mem 328 (by decide +kernel) rfl
theorem cjq_329 : Jvm.Cond.selects "CourtJotter$People" ({ cls := "CourtJotter$People", name := "copyFrom", desc := "(LCourtJotter$People;)V" } : Jvm.MethodName) ({ cls := "CourtJotter$People", name := "copyFrom", desc := "(LCourtJotter$People;)V" } : Jvm.MethodName) ∈ cj_ws := cj_mem 329 (by decide +kernel) rfl
theorem cjq_330 : Jvm.Cond.code ({ cls := "CourtJotter$People", name := "copyFrom", desc := "(LCourtJotter$People;)V" } : Jvm.MethodName) prog_5_method_2_code (2 : Nat) (Option.none : Option Jvm.ClassFile.FieldType) ∈ cj_ws := cj_mem 330 (by decide +kernel) rfl
theorem cjq_332 : Jvm.Cond.static ({ cls := "CourtJotter", name := "copyRow", desc := "([I[I)V" } : Jvm.MethodName) ∈ cj_ws := cj_mem 332 (by decide +kernel) rfl
theorem cjq_333 : Jvm.Cond.code ({ cls := "CourtJotter", name := "copyRow", desc := "([I[I)V" } : Jvm.MethodName) prog_1_method_31_code (2 : Nat) (Option.none : Option Jvm.ClassFile.FieldType) ∈ cj_ws := cj_mem 333 (by decide +kernel) rfl
theorem cjq_334 : Jvm.Cond.methodLink "CourtJotter" (223 : Nat) ({ cls := "java/lang/Math", name := "min", desc := "(II)I" } : Jvm.MethodName) ∈ cj_ws := cj_mem 334 (by decide +kernel) rfl
theorem cjq_335 : Jvm.Cond.static ({ cls := "java/lang/Math", name := "min", desc := "(II)I" } : Jvm.MethodName) ∈ cj_ws := cj_mem 335 (by decide +kernel) rfl
theorem cjq_336 : Jvm.Cond.code ({ cls := "java/lang/Math", name := "min", desc := "(II)I" } : Jvm.MethodName) prog_14_method_69_code (2 : Nat) (Option.some Jvm.ClassFile.FieldType.int) ∈ cj_ws := cj_mem 336 (by decide +kernel) rfl
theorem cjq_337 : Jvm.Cond.methodLink "CourtJotter" (228 : Nat) ({ cls := "java/lang/System", name := "arraycopy", desc := "(Ljava/lang/Object;ILjava/lang/Object;II)V" } : Jvm.MethodName) ∈ cj_ws := cj_mem 337 (by decide +kernel) rfl
theorem cjq_338 : Jvm.Cond.static ({ cls := "java/lang/System", name := "arraycopy", desc := "(Ljava/lang/Object;ILjava/lang/Object;II)V" } : Jvm.MethodName) ∈ cj_ws := cj_mem 338 (by decide +kernel) rfl
theorem cjq_339 : Jvm.Cond.native ({ cls := "java/lang/System", name := "arraycopy", desc := "(Ljava/lang/Object;ILjava/lang/Object;II)V" } : Jvm.MethodName) ∈ cj_ws := cj_mem 339 (by decide +kernel) rfl
theorem cjq_340 : Jvm.Cond.methodLink "CourtJotter$Court" (46 : Nat) ({ cls := "CourtJotter$Sheets", name := "copyFrom", desc := "(LCourtJotter$Sheets;)V" } : Jvm.MethodName) ∈ cj_ws := cj_mem 340 (by decide +kernel) rfl
theorem cjq_341 : Jvm.Cond.instanceMethod ({ cls := "CourtJotter$Sheets", name := "copyFrom", desc := "(LCourtJotter$Sheets;)V" } : Jvm.MethodName) ∈ cj_ws := cj_mem 341 (by decide +kernel) rfl
theorem cjq_342 : Jvm.Cond.selects "CourtJotter$Sheets" ({ cls := "CourtJotter$Sheets", name := "copyFrom", desc := "(LCourtJotter$Sheets;)V" } : Jvm.MethodName) ({ cls := "CourtJotter$Sheets", name := "copyFrom", desc := "(LCourtJotter$Sheets;)V" } : Jvm.MethodName) ∈ cj_ws := cj_mem 342 (by decide +kernel) rfl
theorem cjq_343 : Jvm.Cond.code ({ cls := "CourtJotter$Sheets", name := "copyFrom", desc := "(LCourtJotter$Sheets;)V" } : Jvm.MethodName) prog_8_method_2_code (2 : Nat) (Option.none : Option Jvm.ClassFile.FieldType) ∈ cj_ws := cj_mem 343 (by decide +kernel) rfl
theorem cjq_345 : Jvm.Cond.methodLink "CourtJotter$Court" (49 : Nat) ({ cls := "CourtJotter$Papers", name := "copyFrom", desc := "(LCourtJotter$Papers;)V" } : Jvm.MethodName) ∈ cj_ws := cj_mem 345 (by decide +kernel) rfl
theorem cjq_346 : Jvm.Cond.instanceMethod ({ cls := "CourtJotter$Papers", name := "copyFrom", desc := "(LCourtJotter$Papers;)V" } : Jvm.MethodName) ∈ cj_ws := cj_mem 346 (by decide +kernel) rfl
theorem cjq_347 : Jvm.Cond.selects "CourtJotter$Papers" ({ cls := "CourtJotter$Papers", name := "copyFrom", desc := "(LCourtJotter$Papers;)V" } : Jvm.MethodName) ({ cls := "CourtJotter$Papers", name := "copyFrom", desc := "(LCourtJotter$Papers;)V" } : Jvm.MethodName) ∈ cj_ws := cj_mem 347 (by decide +kernel) rfl
theorem cjq_348 : Jvm.Cond.code ({ cls := "CourtJotter$Papers", name := "copyFrom", desc := "(LCourtJotter$Papers;)V" } : Jvm.MethodName) prog_4_method_2_code (2 : Nat) (Option.none : Option Jvm.ClassFile.FieldType) ∈ cj_ws := cj_mem 348 (by decide +kernel) rfl
theorem cjq_350 : Jvm.Cond.methodLink "CourtJotter" (51 : Nat) ({ cls := "CourtJotter$Court", name := "addPerson", desc := "(II)I" } : Jvm.MethodName) ∈ cj_ws := cj_mem 350 (by decide +kernel) rfl
theorem cjq_351 : Jvm.Cond.instanceMethod ({ cls := "CourtJotter$Court", name := "addPerson", desc := "(II)I" } : Jvm.MethodName) ∈ cj_ws := cj_mem 351 (by decide +kernel) rfl
theorem cjq_352 : Jvm.Cond.selects "CourtJotter$Court" ({ cls := "CourtJotter$Court", name := "addPerson", desc := "(II)I" } : Jvm.MethodName) ({ cls := "CourtJotter$Court", name := "addPerson", desc := "(II)I" } : Jvm.MethodName) ∈ cj_ws := cj_mem 352 (by decide +kernel) rfl
theorem cjq_353 : Jvm.Cond.code ({ cls := "CourtJotter$Court", name := "addPerson", desc := "(II)I" } : Jvm.MethodName) prog_2_method_3_code (3 : Nat) (Option.some Jvm.ClassFile.FieldType.int) ∈ cj_ws := cj_mem 353 (by decide +kernel) rfl
theorem cjq_355 : Jvm.Cond.static ({ cls := "CourtJotter", name := "isWithin", desc := "(III)Z" } : Jvm.MethodName) ∈ cj_ws := cj_mem 355 (by decide +kernel) rfl
theorem cjq_356 : Jvm.Cond.code ({ cls := "CourtJotter", name := "isWithin", desc := "(III)Z" } : Jvm.MethodName) prog_1_method_29_code (3 : Nat) (Option.some Jvm.ClassFile.FieldType.boolean) ∈ cj_ws := cj_mem 356 (by decide +kernel) rfl
theorem cjq_357 : Jvm.Cond.constant "CourtJotter$Court" (68 : Nat) (-1000001 : Int32) ∈ cj_ws := cj_mem 357 (by decide +kernel) rfl
theorem cjq_358 : Jvm.Cond.methodLink "CourtJotter$Court" (69 : Nat) ({ cls := "CourtJotter$People", name := "isTaken", desc := "(II)Z" } : Jvm.MethodName) ∈ cj_ws := cj_mem 358 (by decide +kernel) rfl
theorem cjq_359 : Jvm.Cond.instanceMethod ({ cls := "CourtJotter$People", name := "isTaken", desc := "(II)Z" } : Jvm.MethodName) ∈ cj_ws := cj_mem 359 (by decide +kernel) rfl
theorem cjq_360 : Jvm.Cond.selects "CourtJotter$People" ({ cls := "CourtJotter$People", name := "isTaken", desc := "(II)Z" } : Jvm.MethodName) ({ cls := "CourtJotter$People", name := "isTaken", desc := "(II)Z" } : Jvm.MethodName) ∈ cj_ws := cj_mem 360 (by decide +kernel) rfl
theorem cjq_361 : Jvm.Cond.code ({ cls := "CourtJotter$People", name := "isTaken", desc := "(II)Z" } : Jvm.MethodName) prog_5_method_4_code (4 : Nat) (Option.some Jvm.ClassFile.FieldType.boolean) ∈ cj_ws := cj_mem 361 (by decide +kernel) rfl
theorem cjq_362 : Jvm.Cond.constant "CourtJotter$Court" (73 : Nat) (-1000002 : Int32) ∈ cj_ws := cj_mem 362 (by decide +kernel) rfl
theorem cjq_363 : Jvm.Cond.constant "CourtJotter$Court" (77 : Nat) (-1000003 : Int32) ∈ cj_ws := cj_mem 363 (by decide +kernel) rfl
theorem cjq_364 : Jvm.Cond.methodLink "CourtJotter" (55 : Nat) ({ cls := "CourtJotter$History", name := "settle", desc := "(I)I" } : Jvm.MethodName) ∈ cj_ws := cj_mem 364 (by decide +kernel) rfl
theorem cjq_365 : Jvm.Cond.instanceMethod ({ cls := "CourtJotter$History", name := "settle", desc := "(I)I" } : Jvm.MethodName) ∈ cj_ws := cj_mem 365 (by decide +kernel) rfl
theorem cjq_366 : Jvm.Cond.selects "CourtJotter$History" ({ cls := "CourtJotter$History", name := "settle", desc := "(I)I" } : Jvm.MethodName) ({ cls := "CourtJotter$History", name := "settle", desc := "(I)I" } : Jvm.MethodName) ∈ cj_ws := cj_mem 366 (by decide +kernel) rfl
theorem cjq_367 : Jvm.Cond.code ({ cls := "CourtJotter$History", name := "settle", desc := "(I)I" } : Jvm.MethodName) prog_3_method_3_code (2 : Nat) (Option.some Jvm.ClassFile.FieldType.int) ∈ cj_ws := cj_mem 367 (by decide +kernel) rfl
theorem cjq_371 : Jvm.Cond.code ({ cls := "CourtJotter", name := "turn", desc := "(III)I" } : Jvm.MethodName) prog_1_method_3_code (4 : Nat) (Option.some Jvm.ClassFile.FieldType.int) ∈ cj_ws := cj_mem 371 (by decide +kernel) rfl
theorem cjq_372 : Jvm.Cond.methodLink "CourtJotter" (59 : Nat) ({ cls := "CourtJotter$Court", name := "turnPerson", desc := "(III)I" } : Jvm.MethodName) ∈ cj_ws := cj_mem 372 (by decide +kernel) rfl
theorem cjq_373 : Jvm.Cond.instanceMethod ({ cls := "CourtJotter$Court", name := "turnPerson", desc := "(III)I" } : Jvm.MethodName) ∈ cj_ws := cj_mem 373 (by decide +kernel) rfl
theorem cjq_374 : Jvm.Cond.selects "CourtJotter$Court" ({ cls := "CourtJotter$Court", name := "turnPerson", desc := "(III)I" } : Jvm.MethodName) ({ cls := "CourtJotter$Court", name := "turnPerson", desc := "(III)I" } : Jvm.MethodName) ∈ cj_ws := cj_mem 374 (by decide +kernel) rfl
theorem cjq_375 : Jvm.Cond.code ({ cls := "CourtJotter$Court", name := "turnPerson", desc := "(III)I" } : Jvm.MethodName) prog_2_method_4_code (4 : Nat) (Option.some Jvm.ClassFile.FieldType.int) ∈ cj_ws := cj_mem 375 (by decide +kernel) rfl
theorem cjq_376 : Jvm.Cond.methodLink "CourtJotter$Court" (85 : Nat) ({ cls := "CourtJotter$People", name := "has", desc := "(I)Z" } : Jvm.MethodName) ∈ cj_ws := cj_mem 376 (by decide +kernel) rfl
theorem cjq_377 : Jvm.Cond.instanceMethod ({ cls := "CourtJotter$People", name := "has", desc := "(I)Z" } : Jvm.MethodName) ∈ cj_ws := cj_mem 377 (by decide +kernel) rfl
theorem cjq_378 : Jvm.Cond.selects "CourtJotter$People" ({ cls := "CourtJotter$People", name := "has", desc := "(I)Z" } : Jvm.MethodName) ({ cls := "CourtJotter$People", name := "has", desc := "(I)Z" } : Jvm.MethodName) ∈ cj_ws := cj_mem 378 (by decide +kernel) rfl
theorem cjq_379 : Jvm.Cond.code ({ cls := "CourtJotter$People", name := "has", desc := "(I)Z" } : Jvm.MethodName) prog_5_method_3_code (2 : Nat) (Option.some Jvm.ClassFile.FieldType.boolean) ∈ cj_ws := cj_mem 379 (by decide +kernel) rfl
theorem cjq_380 : Jvm.Cond.methodLink "CourtJotter$Court" (95 : Nat) ({ cls := "CourtJotter$People", name := "seenAfter", desc := "(II)I" } : Jvm.MethodName) ∈ cj_ws := cj_mem 380 (by decide +kernel) rfl
theorem cjq_381 : Jvm.Cond.instanceMethod ({ cls := "CourtJotter$People", name := "seenAfter", desc := "(II)I" } : Jvm.MethodName) ∈ cj_ws := cj_mem 381 (by decide +kernel) rfl
theorem cjq_382 : Jvm.Cond.selects "CourtJotter$People" ({ cls := "CourtJotter$People", name := "seenAfter", desc := "(II)I" } : Jvm.MethodName) ({ cls := "CourtJotter$People", name := "seenAfter", desc := "(II)I" } : Jvm.MethodName) ∈ cj_ws := cj_mem 382 (by decide +kernel) rfl
theorem cjq_383 : Jvm.Cond.code ({ cls := "CourtJotter$People", name := "seenAfter", desc := "(II)I" } : Jvm.MethodName) prog_5_method_7_code (3 : Nat) (Option.some Jvm.ClassFile.FieldType.int) ∈ cj_ws := cj_mem 383 (by decide +kernel) rfl
theorem cjq_384 : Jvm.Cond.methodLink "CourtJotter$People" (41 : Nat) ({ cls := "CourtJotter$People", name := "angleAfter", desc := "(II)I" } : Jvm.MethodName) ∈ cj_ws := cj_mem 384 (by decide +kernel) rfl
theorem cjq_385 : Jvm.Cond.instanceMethod ({ cls := "CourtJotter$People", name := "angleAfter", desc := "(II)I" } : Jvm.MethodName) ∈ cj_ws := cj_mem 385 (by decide +kernel) rfl
theorem cjq_386 : Jvm.Cond.selects "CourtJotter$People" ({ cls := "CourtJotter$People", name := "angleAfter", desc := "(II)I" } : Jvm.MethodName) ({ cls := "CourtJotter$People", name := "angleAfter", desc := "(II)I" } : Jvm.MethodName) ∈ cj_ws := cj_mem 386 (by decide +kernel) rfl
theorem cjq_387 : Jvm.Cond.code ({ cls := "CourtJotter$People", name := "angleAfter", desc := "(II)I" } : Jvm.MethodName) prog_5_method_6_code (3 : Nat) (Option.some Jvm.ClassFile.FieldType.int) ∈ cj_ws := cj_mem 387 (by decide +kernel) rfl
theorem cjq_388 : Jvm.Cond.methodLink "CourtJotter$People" (45 : Nat) ({ cls := "CourtJotter$People", name := "seenAside", desc := "(I)I" } : Jvm.MethodName) ∈ cj_ws := cj_mem 388 (by decide +kernel) rfl
theorem cjq_389 : Jvm.Cond.instanceMethod ({ cls := "CourtJotter$People", name := "seenAside", desc := "(I)I" } : Jvm.MethodName) ∈ cj_ws := cj_mem 389 (by decide +kernel) rfl
theorem cjq_390 : Jvm.Cond.selects "CourtJotter$People" ({ cls := "CourtJotter$People", name := "seenAside", desc := "(I)I" } : Jvm.MethodName) ({ cls := "CourtJotter$People", name := "seenAside", desc := "(I)I" } : Jvm.MethodName) ∈ cj_ws := cj_mem 390 (by decide +kernel) rfl
theorem cjq_391 : Jvm.Cond.code ({ cls := "CourtJotter$People", name := "seenAside", desc := "(I)I" } : Jvm.MethodName) prog_5_method_5_code (3 : Nat) (Option.some Jvm.ClassFile.FieldType.int) ∈ cj_ws := cj_mem 391 (by decide +kernel) rfl
theorem cjq_392 : Jvm.Cond.methodLink "CourtJotter$People" (49 : Nat) ({ cls := "CourtJotter$People", name := "features", desc := "(II)I" } : Jvm.MethodName) ∈ cj_ws := cj_mem 392 (by decide +kernel) rfl
theorem cjq_393 : Jvm.Cond.static ({ cls := "CourtJotter$People", name := "features", desc := "(II)I" } : Jvm.MethodName) ∈ cj_ws := cj_mem 393 (by decide +kernel) rfl
theorem cjq_394 : Jvm.Cond.code ({ cls := "CourtJotter$People", name := "features", desc := "(II)I" } : Jvm.MethodName) prog_5_method_9_code (4 : Nat) (Option.some Jvm.ClassFile.FieldType.int) ∈ cj_ws := cj_mem 394 (by decide +kernel) rfl
theorem cjq_398 : Jvm.Cond.code ({ cls := "CourtJotter", name := "paper", desc := "(II)I" } : Jvm.MethodName) prog_1_method_4_code (3 : Nat) (Option.some Jvm.ClassFile.FieldType.int) ∈ cj_ws := cj_mem 398 (by decide +kernel) rfl
theorem cjq_399 : Jvm.Cond.methodLink "CourtJotter" (63 : Nat) ({ cls := "CourtJotter$Court", name := "addPaper", desc := "(II)I" } : Jvm.MethodName) ∈ cj_ws := cj_mem 399 (by decide +kernel) rfl
theorem cjq_400 : Jvm.Cond.instanceMethod ({ cls := "CourtJotter$Court", name := "addPaper", desc := "(II)I" } : Jvm.MethodName) ∈ cj_ws := cj_mem 400 (by decide +kernel) rfl
theorem cjq_401 : Jvm.Cond.selects "CourtJotter$Court" ({ cls := "CourtJotter$Court", name := "addPaper", desc := "(II)I" } : Jvm.MethodName) ({ cls := "CourtJotter$Court", name := "addPaper", desc := "(II)I" } : Jvm.MethodName) ∈ cj_ws := cj_mem 401 (by decide +kernel) rfl
theorem cjq_402 : Jvm.Cond.code ({ cls := "CourtJotter$Court", name := "addPaper", desc := "(II)I" } : Jvm.MethodName) prog_2_method_5_code (3 : Nat) (Option.some Jvm.ClassFile.FieldType.int) ∈ cj_ws := cj_mem 402 (by decide +kernel) rfl
theorem cjq_406 : Jvm.Cond.code ({ cls := "CourtJotter", name := "look", desc := "(I)I" } : Jvm.MethodName) prog_1_method_5_code (2 : Nat) (Option.some Jvm.ClassFile.FieldType.int) ∈ cj_ws := cj_mem 406 (by decide +kernel) rfl
theorem cjq_407 : Jvm.Cond.methodLink "CourtJotter" (66 : Nat) ({ cls := "CourtJotter$Court", name := "lookAt", desc := "(I)I" } : Jvm.MethodName) ∈ cj_ws := cj_mem 407 (by decide +kernel) rfl
theorem cjq_408 : Jvm.Cond.instanceMethod ({ cls := "CourtJotter$Court", name := "lookAt", desc := "(I)I" } : Jvm.MethodName) ∈ cj_ws := cj_mem 408 (by decide +kernel) rfl
theorem cjq_409 : Jvm.Cond.selects "CourtJotter$Court" ({ cls := "CourtJotter$Court", name := "lookAt", desc := "(I)I" } : Jvm.MethodName) ({ cls := "CourtJotter$Court", name := "lookAt", desc := "(I)I" } : Jvm.MethodName) ∈ cj_ws := cj_mem 409 (by decide +kernel) rfl
theorem cjq_410 : Jvm.Cond.code ({ cls := "CourtJotter$Court", name := "lookAt", desc := "(I)I" } : Jvm.MethodName) prog_2_method_6_code (2 : Nat) (Option.some Jvm.ClassFile.FieldType.int) ∈ cj_ws := cj_mem 410 (by decide +kernel) rfl
theorem cjq_414 : Jvm.Cond.code ({ cls := "CourtJotter", name := "sheet", desc := "(I)I" } : Jvm.MethodName) prog_1_method_6_code (2 : Nat) (Option.some Jvm.ClassFile.FieldType.int) ∈ cj_ws := cj_mem 414 (by decide +kernel) rfl
theorem cjq_415 : Jvm.Cond.methodLink "CourtJotter" (69 : Nat) ({ cls := "CourtJotter$Court", name := "beginSheet", desc := "(I)I" } : Jvm.MethodName) ∈ cj_ws := cj_mem 415 (by decide +kernel) rfl
theorem cjq_416 : Jvm.Cond.instanceMethod ({ cls := "CourtJotter$Court", name := "beginSheet", desc := "(I)I" } : Jvm.MethodName) ∈ cj_ws := cj_mem 416 (by decide +kernel) rfl
theorem cjq_417 : Jvm.Cond.selects "CourtJotter$Court" ({ cls := "CourtJotter$Court", name := "beginSheet", desc := "(I)I" } : Jvm.MethodName) ({ cls := "CourtJotter$Court", name := "beginSheet", desc := "(I)I" } : Jvm.MethodName) ∈ cj_ws := cj_mem 417 (by decide +kernel) rfl
theorem cjq_418 : Jvm.Cond.code ({ cls := "CourtJotter$Court", name := "beginSheet", desc := "(I)I" } : Jvm.MethodName) prog_2_method_7_code (2 : Nat) (Option.some Jvm.ClassFile.FieldType.int) ∈ cj_ws := cj_mem 418 (by decide +kernel) rfl
theorem cjq_419 : Jvm.Cond.methodLink "CourtJotter$Court" (107 : Nat) ({ cls := "CourtJotter$Sheets", name := "add", desc := "(I)I" } : Jvm.MethodName) ∈ cj_ws := cj_mem 419 (by decide +kernel) rfl
theorem cjq_420 : Jvm.Cond.instanceMethod ({ cls := "CourtJotter$Sheets", name := "add", desc := "(I)I" } : Jvm.MethodName) ∈ cj_ws := cj_mem 420 (by decide +kernel) rfl
theorem cjq_421 : Jvm.Cond.selects "CourtJotter$Sheets" ({ cls := "CourtJotter$Sheets", name := "add", desc := "(I)I" } : Jvm.MethodName) ({ cls := "CourtJotter$Sheets", name := "add", desc := "(I)I" } : Jvm.MethodName) ∈ cj_ws := cj_mem 421 (by decide +kernel) rfl
theorem cjq_422 : Jvm.Cond.code ({ cls := "CourtJotter$Sheets", name := "add", desc := "(I)I" } : Jvm.MethodName) prog_8_method_5_code (2 : Nat) (Option.some Jvm.ClassFile.FieldType.int) ∈ cj_ws := cj_mem 422 (by decide +kernel) rfl
theorem cjq_426 : Jvm.Cond.code ({ cls := "CourtJotter", name := "draw", desc := "(II)I" } : Jvm.MethodName) prog_1_method_7_code (3 : Nat) (Option.some Jvm.ClassFile.FieldType.int) ∈ cj_ws := cj_mem 426 (by decide +kernel) rfl
theorem cjq_427 : Jvm.Cond.methodLink "CourtJotter" (72 : Nat) ({ cls := "CourtJotter$Court", name := "drawFeature", desc := "(II)I" } : Jvm.MethodName) ∈ cj_ws := cj_mem 427 (by decide +kernel) rfl
theorem cjq_428 : Jvm.Cond.instanceMethod ({ cls := "CourtJotter$Court", name := "drawFeature", desc := "(II)I" } : Jvm.MethodName) ∈ cj_ws := cj_mem 428 (by decide +kernel) rfl
theorem cjq_429 : Jvm.Cond.selects "CourtJotter$Court" ({ cls := "CourtJotter$Court", name := "drawFeature", desc := "(II)I" } : Jvm.MethodName) ({ cls := "CourtJotter$Court", name := "drawFeature", desc := "(II)I" } : Jvm.MethodName) ∈ cj_ws := cj_mem 429 (by decide +kernel) rfl
theorem cjq_430 : Jvm.Cond.code ({ cls := "CourtJotter$Court", name := "drawFeature", desc := "(II)I" } : Jvm.MethodName) prog_2_method_8_code (4 : Nat) (Option.some Jvm.ClassFile.FieldType.int) ∈ cj_ws := cj_mem 430 (by decide +kernel) rfl
theorem cjq_431 : Jvm.Cond.methodLink "CourtJotter$Court" (111 : Nat) ({ cls := "CourtJotter$Sheets", name := "placeOf", desc := "(I)I" } : Jvm.MethodName) ∈ cj_ws := cj_mem 431 (by decide +kernel) rfl
theorem cjq_432 : Jvm.Cond.instanceMethod ({ cls := "CourtJotter$Sheets", name := "placeOf", desc := "(I)I" } : Jvm.MethodName) ∈ cj_ws := cj_mem 432 (by decide +kernel) rfl
theorem cjq_433 : Jvm.Cond.selects "CourtJotter$Sheets" ({ cls := "CourtJotter$Sheets", name := "placeOf", desc := "(I)I" } : Jvm.MethodName) ({ cls := "CourtJotter$Sheets", name := "placeOf", desc := "(I)I" } : Jvm.MethodName) ∈ cj_ws := cj_mem 433 (by decide +kernel) rfl
theorem cjq_434 : Jvm.Cond.code ({ cls := "CourtJotter$Sheets", name := "placeOf", desc := "(I)I" } : Jvm.MethodName) prog_8_method_3_code (3 : Nat) (Option.some Jvm.ClassFile.FieldType.int) ∈ cj_ws := cj_mem 434 (by decide +kernel) rfl
theorem cjq_435 : Jvm.Cond.methodLink "CourtJotter$Court" (114 : Nat) ({ cls := "CourtJotter$Court", name := "drawable", desc := "(I)I" } : Jvm.MethodName) ∈ cj_ws := cj_mem 435 (by decide +kernel) rfl
theorem cjq_436 : Jvm.Cond.instanceMethod ({ cls := "CourtJotter$Court", name := "drawable", desc := "(I)I" } : Jvm.MethodName) ∈ cj_ws := cj_mem 436 (by decide +kernel) rfl
theorem cjq_437 : Jvm.Cond.selects "CourtJotter$Court" ({ cls := "CourtJotter$Court", name := "drawable", desc := "(I)I" } : Jvm.MethodName) ({ cls := "CourtJotter$Court", name := "drawable", desc := "(I)I" } : Jvm.MethodName) ∈ cj_ws := cj_mem 437 (by decide +kernel) rfl
theorem cjq_438 : Jvm.Cond.code ({ cls := "CourtJotter$Court", name := "drawable", desc := "(I)I" } : Jvm.MethodName) prog_2_method_23_code (2 : Nat) (Option.some Jvm.ClassFile.FieldType.int) ∈ cj_ws := cj_mem 438 (by decide +kernel) rfl
theorem cjq_439 : Jvm.Cond.methodLink "CourtJotter$Court" (171 : Nat) ({ cls := "CourtJotter$Court", name := "remembered", desc := "(I)I" } : Jvm.MethodName) ∈ cj_ws := cj_mem 439 (by decide +kernel) rfl
theorem cjq_440 : Jvm.Cond.instanceMethod ({ cls := "CourtJotter$Court", name := "remembered", desc := "(I)I" } : Jvm.MethodName) ∈ cj_ws := cj_mem 440 (by decide +kernel) rfl
theorem cjq_441 : Jvm.Cond.selects "CourtJotter$Court" ({ cls := "CourtJotter$Court", name := "remembered", desc := "(I)I" } : Jvm.MethodName) ({ cls := "CourtJotter$Court", name := "remembered", desc := "(I)I" } : Jvm.MethodName) ∈ cj_ws := cj_mem 441 (by decide +kernel) rfl
theorem cjq_442 : Jvm.Cond.code ({ cls := "CourtJotter$Court", name := "remembered", desc := "(I)I" } : Jvm.MethodName) prog_2_method_22_code (2 : Nat) (Option.some Jvm.ClassFile.FieldType.int) ∈ cj_ws := cj_mem 442 (by decide +kernel) rfl
theorem cjq_443 : Jvm.Cond.methodLink "CourtJotter$Court" (222 : Nat) ({ cls := "CourtJotter$People", name := "rememberedSince", desc := "(II)I" } : Jvm.MethodName) ∈ cj_ws := cj_mem 443 (by decide +kernel) rfl
theorem cjq_444 : Jvm.Cond.instanceMethod ({ cls := "CourtJotter$People", name := "rememberedSince", desc := "(II)I" } : Jvm.MethodName) ∈ cj_ws := cj_mem 444 (by decide +kernel) rfl
theorem cjq_445 : Jvm.Cond.selects "CourtJotter$People" ({ cls := "CourtJotter$People", name := "rememberedSince", desc := "(II)I" } : Jvm.MethodName) ({ cls := "CourtJotter$People", name := "rememberedSince", desc := "(II)I" } : Jvm.MethodName) ∈ cj_ws := cj_mem 445 (by decide +kernel) rfl
theorem cjq_446 : Jvm.Cond.code ({ cls := "CourtJotter$People", name := "rememberedSince", desc := "(II)I" } : Jvm.MethodName) prog_5_method_11_code (6 : Nat) (Option.some Jvm.ClassFile.FieldType.int) ∈ cj_ws := cj_mem 446 (by decide +kernel) rfl
theorem cjq_448 : Jvm.Cond.static ({ cls := "CourtJotter", name := "hasBit", desc := "(II)Z" } : Jvm.MethodName) ∈ cj_ws := cj_mem 448 (by decide +kernel) rfl
theorem cjq_449 : Jvm.Cond.code ({ cls := "CourtJotter", name := "hasBit", desc := "(II)Z" } : Jvm.MethodName) prog_1_method_30_code (2 : Nat) (Option.some Jvm.ClassFile.FieldType.boolean) ∈ cj_ws := cj_mem 449 (by decide +kernel) rfl
theorem cjq_450 : Jvm.Cond.methodLink "CourtJotter$Court" (126 : Nat) ({ cls := "java/lang/Math", name := "max", desc := "(II)I" } : Jvm.MethodName) ∈ cj_ws := cj_mem 450 (by decide +kernel) rfl
theorem cjq_451 : Jvm.Cond.static ({ cls := "java/lang/Math", name := "max", desc := "(II)I" } : Jvm.MethodName) ∈ cj_ws := cj_mem 451 (by decide +kernel) rfl
theorem cjq_452 : Jvm.Cond.code ({ cls := "java/lang/Math", name := "max", desc := "(II)I" } : Jvm.MethodName) prog_14_method_65_code (2 : Nat) (Option.some Jvm.ClassFile.FieldType.int) ∈ cj_ws := cj_mem 452 (by decide +kernel) rfl
theorem cjq_453 : Jvm.Cond.methodLink "CourtJotter$Court" (131 : Nat) ({ cls := "java/lang/Integer", name := "bitCount", desc := "(I)I" } : Jvm.MethodName) ∈ cj_ws := cj_mem 453 (by decide +kernel) rfl
theorem cjq_454 : Jvm.Cond.static ({ cls := "java/lang/Integer", name := "bitCount", desc := "(I)I" } : Jvm.MethodName) ∈ cj_ws := cj_mem 454 (by decide +kernel) rfl
theorem cjq_455 : Jvm.Cond.code ({ cls := "java/lang/Integer", name := "bitCount", desc := "(I)I" } : Jvm.MethodName) prog_13_method_49_code (1 : Nat) (Option.some Jvm.ClassFile.FieldType.int) ∈ cj_ws := cj_mem 455 (by decide +kernel) rfl
theorem cjq_456 : Jvm.Cond.constant "java/lang/Integer" (265 : Nat) (1431655765 : Int32) ∈ cj_ws := cj_mem 456 (by decide +kernel) rfl
theorem cjq_457 : Jvm.Cond.constant "java/lang/Integer" (266 : Nat) (858993459 : Int32) ∈ cj_ws := cj_mem 457 (by decide +kernel) rfl
theorem cjq_458 : Jvm.Cond.constant "java/lang/Integer" (267 : Nat) (252645135 : Int32) ∈ cj_ws := cj_mem 458 (by decide +kernel) rfl
theorem cjq_462 : Jvm.Cond.code ({ cls := "CourtJotter", name := "tear", desc := "(I)I" } : Jvm.MethodName) prog_1_method_8_code (2 : Nat) (Option.some Jvm.ClassFile.FieldType.int) ∈ cj_ws := cj_mem 462 (by decide +kernel) rfl
theorem cjq_463 : Jvm.Cond.methodLink "CourtJotter" (75 : Nat) ({ cls := "CourtJotter$Court", name := "tearOut", desc := "(I)I" } : Jvm.MethodName) ∈ cj_ws := cj_mem 463 (by decide +kernel) rfl
theorem cjq_464 : Jvm.Cond.instanceMethod ({ cls := "CourtJotter$Court", name := "tearOut", desc := "(I)I" } : Jvm.MethodName) ∈ cj_ws := cj_mem 464 (by decide +kernel) rfl
theorem cjq_465 : Jvm.Cond.selects "CourtJotter$Court" ({ cls := "CourtJotter$Court", name := "tearOut", desc := "(I)I" } : Jvm.MethodName) ({ cls := "CourtJotter$Court", name := "tearOut", desc := "(I)I" } : Jvm.MethodName) ∈ cj_ws := cj_mem 465 (by decide +kernel) rfl
theorem cjq_466 : Jvm.Cond.code ({ cls := "CourtJotter$Court", name := "tearOut", desc := "(I)I" } : Jvm.MethodName) prog_2_method_9_code (3 : Nat) (Option.some Jvm.ClassFile.FieldType.int) ∈ cj_ws := cj_mem 466 (by decide +kernel) rfl
theorem cjq_467 : Jvm.Cond.methodLink "CourtJotter$Court" (136 : Nat) ({ cls := "CourtJotter$Sheets", name := "removeAt", desc := "(I)V" } : Jvm.MethodName) ∈ cj_ws := cj_mem 467 (by decide +kernel) rfl
theorem cjq_468 : Jvm.Cond.instanceMethod ({ cls := "CourtJotter$Sheets", name := "removeAt", desc := "(I)V" } : Jvm.MethodName) ∈ cj_ws := cj_mem 468 (by decide +kernel) rfl
theorem cjq_469 : Jvm.Cond.selects "CourtJotter$Sheets" ({ cls := "CourtJotter$Sheets", name := "removeAt", desc := "(I)V" } : Jvm.MethodName) ({ cls := "CourtJotter$Sheets", name := "removeAt", desc := "(I)V" } : Jvm.MethodName) ∈ cj_ws := cj_mem 469 (by decide +kernel) rfl
theorem cjq_470 : Jvm.Cond.code ({ cls := "CourtJotter$Sheets", name := "removeAt", desc := "(I)V" } : Jvm.MethodName) prog_8_method_6_code (3 : Nat) (Option.none : Option Jvm.ClassFile.FieldType) ∈ cj_ws := cj_mem 470 (by decide +kernel) rfl
theorem cjq_474 : Jvm.Cond.code ({ cls := "CourtJotter", name := "verdict", desc := "(I)I" } : Jvm.MethodName) prog_1_method_9_code (2 : Nat) (Option.some Jvm.ClassFile.FieldType.int) ∈ cj_ws := cj_mem 474 (by decide +kernel) rfl
theorem cjq_475 : Jvm.Cond.methodLink "CourtJotter" (78 : Nat) ({ cls := "CourtJotter$Court", name := "tellVerdict", desc := "(I)I" } : Jvm.MethodName) ∈ cj_ws := cj_mem 475 (by decide +kernel) rfl
theorem cjq_476 : Jvm.Cond.instanceMethod ({ cls := "CourtJotter$Court", name := "tellVerdict", desc := "(I)I" } : Jvm.MethodName) ∈ cj_ws := cj_mem 476 (by decide +kernel) rfl
theorem cjq_477 : Jvm.Cond.selects "CourtJotter$Court" ({ cls := "CourtJotter$Court", name := "tellVerdict", desc := "(I)I" } : Jvm.MethodName) ({ cls := "CourtJotter$Court", name := "tellVerdict", desc := "(I)I" } : Jvm.MethodName) ∈ cj_ws := cj_mem 477 (by decide +kernel) rfl
theorem cjq_478 : Jvm.Cond.code ({ cls := "CourtJotter$Court", name := "tellVerdict", desc := "(I)I" } : Jvm.MethodName) prog_2_method_10_code (2 : Nat) (Option.some Jvm.ClassFile.FieldType.int) ∈ cj_ws := cj_mem 478 (by decide +kernel) rfl
theorem cjq_479 : Jvm.Cond.methodLink "CourtJotter$Court" (140 : Nat) ({ cls := "CourtJotter$Court", name := "hasVerdict", desc := "(I)Z" } : Jvm.MethodName) ∈ cj_ws := cj_mem 479 (by decide +kernel) rfl
theorem cjq_480 : Jvm.Cond.instanceMethod ({ cls := "CourtJotter$Court", name := "hasVerdict", desc := "(I)Z" } : Jvm.MethodName) ∈ cj_ws := cj_mem 480 (by decide +kernel) rfl
theorem cjq_481 : Jvm.Cond.selects "CourtJotter$Court" ({ cls := "CourtJotter$Court", name := "hasVerdict", desc := "(I)Z" } : Jvm.MethodName) ({ cls := "CourtJotter$Court", name := "hasVerdict", desc := "(I)Z" } : Jvm.MethodName) ∈ cj_ws := cj_mem 481 (by decide +kernel) rfl
theorem cjq_482 : Jvm.Cond.code ({ cls := "CourtJotter$Court", name := "hasVerdict", desc := "(I)Z" } : Jvm.MethodName) prog_2_method_21_code (2 : Nat) (Option.some Jvm.ClassFile.FieldType.boolean) ∈ cj_ws := cj_mem 482 (by decide +kernel) rfl
theorem cjq_483 : Jvm.Cond.methodLink "CourtJotter$Court" (146 : Nat) ({ cls := "CourtJotter$Court", name := "day", desc := "()I" } : Jvm.MethodName) ∈ cj_ws := cj_mem 483 (by decide +kernel) rfl
theorem cjq_484 : Jvm.Cond.instanceMethod ({ cls := "CourtJotter$Court", name := "day", desc := "()I" } : Jvm.MethodName) ∈ cj_ws := cj_mem 484 (by decide +kernel) rfl
theorem cjq_485 : Jvm.Cond.selects "CourtJotter$Court" ({ cls := "CourtJotter$Court", name := "day", desc := "()I" } : Jvm.MethodName) ({ cls := "CourtJotter$Court", name := "day", desc := "()I" } : Jvm.MethodName) ∈ cj_ws := cj_mem 485 (by decide +kernel) rfl
theorem cjq_486 : Jvm.Cond.code ({ cls := "CourtJotter$Court", name := "day", desc := "()I" } : Jvm.MethodName) prog_2_method_19_code (1 : Nat) (Option.some Jvm.ClassFile.FieldType.int) ∈ cj_ws := cj_mem 486 (by decide +kernel) rfl
theorem cjq_487 : Jvm.Cond.methodLink "CourtJotter$Court" (150 : Nat) ({ cls := "CourtJotter$Sheets", name := "ofPerson", desc := "(I)I" } : Jvm.MethodName) ∈ cj_ws := cj_mem 487 (by decide +kernel) rfl
theorem cjq_488 : Jvm.Cond.instanceMethod ({ cls := "CourtJotter$Sheets", name := "ofPerson", desc := "(I)I" } : Jvm.MethodName) ∈ cj_ws := cj_mem 488 (by decide +kernel) rfl
theorem cjq_489 : Jvm.Cond.selects "CourtJotter$Sheets" ({ cls := "CourtJotter$Sheets", name := "ofPerson", desc := "(I)I" } : Jvm.MethodName) ({ cls := "CourtJotter$Sheets", name := "ofPerson", desc := "(I)I" } : Jvm.MethodName) ∈ cj_ws := cj_mem 489 (by decide +kernel) rfl
theorem cjq_490 : Jvm.Cond.code ({ cls := "CourtJotter$Sheets", name := "ofPerson", desc := "(I)I" } : Jvm.MethodName) prog_8_method_4_code (4 : Nat) (Option.some Jvm.ClassFile.FieldType.int) ∈ cj_ws := cj_mem 490 (by decide +kernel) rfl
theorem cjq_494 : Jvm.Cond.code ({ cls := "CourtJotter", name := "sell", desc := "(II)I" } : Jvm.MethodName) prog_1_method_10_code (3 : Nat) (Option.some Jvm.ClassFile.FieldType.int) ∈ cj_ws := cj_mem 494 (by decide +kernel) rfl
theorem cjq_495 : Jvm.Cond.methodLink "CourtJotter" (81 : Nat) ({ cls := "CourtJotter$Court", name := "sellSheet", desc := "(II)I" } : Jvm.MethodName) ∈ cj_ws := cj_mem 495 (by decide +kernel) rfl
theorem cjq_496 : Jvm.Cond.instanceMethod ({ cls := "CourtJotter$Court", name := "sellSheet", desc := "(II)I" } : Jvm.MethodName) ∈ cj_ws := cj_mem 496 (by decide +kernel) rfl
theorem cjq_497 : Jvm.Cond.selects "CourtJotter$Court" ({ cls := "CourtJotter$Court", name := "sellSheet", desc := "(II)I" } : Jvm.MethodName) ({ cls := "CourtJotter$Court", name := "sellSheet", desc := "(II)I" } : Jvm.MethodName) ∈ cj_ws := cj_mem 497 (by decide +kernel) rfl
theorem cjq_498 : Jvm.Cond.code ({ cls := "CourtJotter$Court", name := "sellSheet", desc := "(II)I" } : Jvm.MethodName) prog_2_method_11_code (6 : Nat) (Option.some Jvm.ClassFile.FieldType.int) ∈ cj_ws := cj_mem 498 (by decide +kernel) rfl
theorem cjq_499 : Jvm.Cond.methodLink "CourtJotter$Court" (153 : Nat) ({ cls := "CourtJotter$Papers", name := "has", desc := "(I)Z" } : Jvm.MethodName) ∈ cj_ws := cj_mem 499 (by decide +kernel) rfl
theorem cjq_500 : Jvm.Cond.instanceMethod ({ cls := "CourtJotter$Papers", name := "has", desc := "(I)Z" } : Jvm.MethodName) ∈ cj_ws := cj_mem 500 (by decide +kernel) rfl
theorem cjq_501 : Jvm.Cond.selects "CourtJotter$Papers" ({ cls := "CourtJotter$Papers", name := "has", desc := "(I)Z" } : Jvm.MethodName) ({ cls := "CourtJotter$Papers", name := "has", desc := "(I)Z" } : Jvm.MethodName) ∈ cj_ws := cj_mem 501 (by decide +kernel) rfl
theorem cjq_502 : Jvm.Cond.code ({ cls := "CourtJotter$Papers", name := "has", desc := "(I)Z" } : Jvm.MethodName) prog_4_method_3_code (2 : Nat) (Option.some Jvm.ClassFile.FieldType.boolean) ∈ cj_ws := cj_mem 502 (by decide +kernel) rfl
theorem cjq_503 : Jvm.Cond.methodLink "CourtJotter$Court" (154 : Nat) ({ cls := "CourtJotter$Court", name := "canSell", desc := "(II)Z" } : Jvm.MethodName) ∈ cj_ws := cj_mem 503 (by decide +kernel) rfl
theorem cjq_504 : Jvm.Cond.instanceMethod ({ cls := "CourtJotter$Court", name := "canSell", desc := "(II)Z" } : Jvm.MethodName) ∈ cj_ws := cj_mem 504 (by decide +kernel) rfl
theorem cjq_505 : Jvm.Cond.selects "CourtJotter$Court" ({ cls := "CourtJotter$Court", name := "canSell", desc := "(II)Z" } : Jvm.MethodName) ({ cls := "CourtJotter$Court", name := "canSell", desc := "(II)Z" } : Jvm.MethodName) ∈ cj_ws := cj_mem 505 (by decide +kernel) rfl
theorem cjq_506 : Jvm.Cond.code ({ cls := "CourtJotter$Court", name := "canSell", desc := "(II)Z" } : Jvm.MethodName) prog_2_method_17_code (3 : Nat) (Option.some Jvm.ClassFile.FieldType.boolean) ∈ cj_ws := cj_mem 506 (by decide +kernel) rfl
theorem cjq_507 : Jvm.Cond.methodLink "CourtJotter$Court" (213 : Nat) ({ cls := "CourtJotter$Court", name := "isDry", desc := "(I)Z" } : Jvm.MethodName) ∈ cj_ws := cj_mem 507 (by decide +kernel) rfl
theorem cjq_508 : Jvm.Cond.instanceMethod ({ cls := "CourtJotter$Court", name := "isDry", desc := "(I)Z" } : Jvm.MethodName) ∈ cj_ws := cj_mem 508 (by decide +kernel) rfl
theorem cjq_509 : Jvm.Cond.selects "CourtJotter$Court" ({ cls := "CourtJotter$Court", name := "isDry", desc := "(I)Z" } : Jvm.MethodName) ({ cls := "CourtJotter$Court", name := "isDry", desc := "(I)Z" } : Jvm.MethodName) ∈ cj_ws := cj_mem 509 (by decide +kernel) rfl
theorem cjq_510 : Jvm.Cond.code ({ cls := "CourtJotter$Court", name := "isDry", desc := "(I)Z" } : Jvm.MethodName) prog_2_method_25_code (2 : Nat) (Option.some Jvm.ClassFile.FieldType.boolean) ∈ cj_ws := cj_mem 510 (by decide +kernel) rfl
theorem cjq_511 : Jvm.Cond.methodLink "CourtJotter$Court" (225 : Nat) ({ cls := "CourtJotter$Court", name := "wetFor", desc := "(I)I" } : Jvm.MethodName) ∈ cj_ws := cj_mem 511 (by decide +kernel) rfl
theorem cjq_512 : Jvm.Cond.instanceMethod ({ cls := "CourtJotter$Court", name := "wetFor", desc := "(I)I" } : Jvm.MethodName) ∈ cj_ws := cj_mem 512 (by decide +kernel) rfl
theorem cjq_513 : Jvm.Cond.selects "CourtJotter$Court" ({ cls := "CourtJotter$Court", name := "wetFor", desc := "(I)I" } : Jvm.MethodName) ({ cls := "CourtJotter$Court", name := "wetFor", desc := "(I)I" } : Jvm.MethodName) ∈ cj_ws := cj_mem 513 (by decide +kernel) rfl
theorem cjq_514 : Jvm.Cond.code ({ cls := "CourtJotter$Court", name := "wetFor", desc := "(I)I" } : Jvm.MethodName) prog_2_method_24_code (2 : Nat) (Option.some Jvm.ClassFile.FieldType.int) ∈ cj_ws := cj_mem 514 (by decide +kernel) rfl
theorem cjq_515 : Jvm.Cond.methodLink "CourtJotter$Court" (216 : Nat) ({ cls := "CourtJotter$Papers", name := "peopleBoughtOn", desc := "(II)I" } : Jvm.MethodName) ∈ cj_ws := cj_mem 515 (by decide +kernel) rfl
theorem cjq_516 : Jvm.Cond.instanceMethod ({ cls := "CourtJotter$Papers", name := "peopleBoughtOn", desc := "(II)I" } : Jvm.MethodName) ∈ cj_ws := cj_mem 516 (by decide +kernel) rfl
theorem cjq_517 : Jvm.Cond.selects "CourtJotter$Papers" ({ cls := "CourtJotter$Papers", name := "peopleBoughtOn", desc := "(II)I" } : Jvm.MethodName) ({ cls := "CourtJotter$Papers", name := "peopleBoughtOn", desc := "(II)I" } : Jvm.MethodName) ∈ cj_ws := cj_mem 517 (by decide +kernel) rfl
theorem cjq_518 : Jvm.Cond.code ({ cls := "CourtJotter$Papers", name := "peopleBoughtOn", desc := "(II)I" } : Jvm.MethodName) prog_4_method_4_code (3 : Nat) (Option.some Jvm.ClassFile.FieldType.int) ∈ cj_ws := cj_mem 518 (by decide +kernel) rfl
theorem cjq_519 : Jvm.Cond.methodLink "CourtJotter$Court" (159 : Nat) ({ cls := "CourtJotter$Court", name := "priceAt", desc := "(II)I" } : Jvm.MethodName) ∈ cj_ws := cj_mem 519 (by decide +kernel) rfl
theorem cjq_520 : Jvm.Cond.instanceMethod ({ cls := "CourtJotter$Court", name := "priceAt", desc := "(II)I" } : Jvm.MethodName) ∈ cj_ws := cj_mem 520 (by decide +kernel) rfl
theorem cjq_521 : Jvm.Cond.selects "CourtJotter$Court" ({ cls := "CourtJotter$Court", name := "priceAt", desc := "(II)I" } : Jvm.MethodName) ({ cls := "CourtJotter$Court", name := "priceAt", desc := "(II)I" } : Jvm.MethodName) ∈ cj_ws := cj_mem 521 (by decide +kernel) rfl
theorem cjq_522 : Jvm.Cond.code ({ cls := "CourtJotter$Court", name := "priceAt", desc := "(II)I" } : Jvm.MethodName) prog_2_method_18_code (4 : Nat) (Option.some Jvm.ClassFile.FieldType.int) ∈ cj_ws := cj_mem 522 (by decide +kernel) rfl
theorem cjq_523 : Jvm.Cond.methodLink "CourtJotter$Court" (219 : Nat) ({ cls := "CourtJotter$Court", name := "hour", desc := "()I" } : Jvm.MethodName) ∈ cj_ws := cj_mem 523 (by decide +kernel) rfl
theorem cjq_524 : Jvm.Cond.instanceMethod ({ cls := "CourtJotter$Court", name := "hour", desc := "()I" } : Jvm.MethodName) ∈ cj_ws := cj_mem 524 (by decide +kernel) rfl
theorem cjq_525 : Jvm.Cond.selects "CourtJotter$Court" ({ cls := "CourtJotter$Court", name := "hour", desc := "()I" } : Jvm.MethodName) ({ cls := "CourtJotter$Court", name := "hour", desc := "()I" } : Jvm.MethodName) ∈ cj_ws := cj_mem 525 (by decide +kernel) rfl
theorem cjq_526 : Jvm.Cond.code ({ cls := "CourtJotter$Court", name := "hour", desc := "()I" } : Jvm.MethodName) prog_2_method_20_code (1 : Nat) (Option.some Jvm.ClassFile.FieldType.int) ∈ cj_ws := cj_mem 526 (by decide +kernel) rfl
theorem cjq_527 : Jvm.Cond.methodLink "CourtJotter$Court" (162 : Nat) ({ cls := "CourtJotter$Papers", name := "buy", desc := "(IIII)V" } : Jvm.MethodName) ∈ cj_ws := cj_mem 527 (by decide +kernel) rfl
theorem cjq_528 : Jvm.Cond.instanceMethod ({ cls := "CourtJotter$Papers", name := "buy", desc := "(IIII)V" } : Jvm.MethodName) ∈ cj_ws := cj_mem 528 (by decide +kernel) rfl
theorem cjq_529 : Jvm.Cond.selects "CourtJotter$Papers" ({ cls := "CourtJotter$Papers", name := "buy", desc := "(IIII)V" } : Jvm.MethodName) ({ cls := "CourtJotter$Papers", name := "buy", desc := "(IIII)V" } : Jvm.MethodName) ∈ cj_ws := cj_mem 529 (by decide +kernel) rfl
theorem cjq_530 : Jvm.Cond.code ({ cls := "CourtJotter$Papers", name := "buy", desc := "(IIII)V" } : Jvm.MethodName) prog_4_method_5_code (5 : Nat) (Option.none : Option Jvm.ClassFile.FieldType) ∈ cj_ws := cj_mem 530 (by decide +kernel) rfl
theorem cjq_531 : Jvm.Cond.methodLink "CourtJotter$Papers" (38 : Nat) ({ cls := "CourtJotter$Papers", name := "peopleBoughtOn", desc := "(II)I" } : Jvm.MethodName) ∈ cj_ws := cj_mem 531 (by decide +kernel) rfl
theorem cjq_535 : Jvm.Cond.code ({ cls := "CourtJotter", name := "pass", desc := "(I)I" } : Jvm.MethodName) prog_1_method_11_code (2 : Nat) (Option.some Jvm.ClassFile.FieldType.int) ∈ cj_ws := cj_mem 535 (by decide +kernel) rfl
theorem cjq_536 : Jvm.Cond.methodLink "CourtJotter" (84 : Nat) ({ cls := "CourtJotter$Court", name := "passMinutes", desc := "(I)I" } : Jvm.MethodName) ∈ cj_ws := cj_mem 536 (by decide +kernel) rfl
theorem cjq_537 : Jvm.Cond.instanceMethod ({ cls := "CourtJotter$Court", name := "passMinutes", desc := "(I)I" } : Jvm.MethodName) ∈ cj_ws := cj_mem 537 (by decide +kernel) rfl
theorem cjq_538 : Jvm.Cond.selects "CourtJotter$Court" ({ cls := "CourtJotter$Court", name := "passMinutes", desc := "(I)I" } : Jvm.MethodName) ({ cls := "CourtJotter$Court", name := "passMinutes", desc := "(I)I" } : Jvm.MethodName) ∈ cj_ws := cj_mem 538 (by decide +kernel) rfl
theorem cjq_539 : Jvm.Cond.code ({ cls := "CourtJotter$Court", name := "passMinutes", desc := "(I)I" } : Jvm.MethodName) prog_2_method_12_code (4 : Nat) (Option.some Jvm.ClassFile.FieldType.int) ∈ cj_ws := cj_mem 539 (by decide +kernel) rfl
theorem cjq_540 : Jvm.Cond.methodLink "CourtJotter$Court" (168 : Nat) ({ cls := "CourtJotter$Court", name := "advance", desc := "(I)V" } : Jvm.MethodName) ∈ cj_ws := cj_mem 540 (by decide +kernel) rfl
theorem cjq_541 : Jvm.Cond.instanceMethod ({ cls := "CourtJotter$Court", name := "advance", desc := "(I)V" } : Jvm.MethodName) ∈ cj_ws := cj_mem 541 (by decide +kernel) rfl
theorem cjq_542 : Jvm.Cond.selects "CourtJotter$Court" ({ cls := "CourtJotter$Court", name := "advance", desc := "(I)V" } : Jvm.MethodName) ({ cls := "CourtJotter$Court", name := "advance", desc := "(I)V" } : Jvm.MethodName) ∈ cj_ws := cj_mem 542 (by decide +kernel) rfl
theorem cjq_543 : Jvm.Cond.code ({ cls := "CourtJotter$Court", name := "advance", desc := "(I)V" } : Jvm.MethodName) prog_2_method_15_code (2 : Nat) (Option.none : Option Jvm.ClassFile.FieldType) ∈ cj_ws := cj_mem 543 (by decide +kernel) rfl
theorem cjq_544 : Jvm.Cond.methodLink "CourtJotter$Court" (192 : Nat) ({ cls := "CourtJotter$People", name := "watch", desc := "(III)V" } : Jvm.MethodName) ∈ cj_ws := cj_mem 544 (by decide +kernel) rfl
theorem cjq_545 : Jvm.Cond.instanceMethod ({ cls := "CourtJotter$People", name := "watch", desc := "(III)V" } : Jvm.MethodName) ∈ cj_ws := cj_mem 545 (by decide +kernel) rfl
theorem cjq_546 : Jvm.Cond.selects "CourtJotter$People" ({ cls := "CourtJotter$People", name := "watch", desc := "(III)V" } : Jvm.MethodName) ({ cls := "CourtJotter$People", name := "watch", desc := "(III)V" } : Jvm.MethodName) ∈ cj_ws := cj_mem 546 (by decide +kernel) rfl
theorem cjq_547 : Jvm.Cond.code ({ cls := "CourtJotter$People", name := "watch", desc := "(III)V" } : Jvm.MethodName) prog_5_method_8_code (8 : Nat) (Option.none : Option Jvm.ClassFile.FieldType) ∈ cj_ws := cj_mem 547 (by decide +kernel) rfl
theorem cjq_548 : Jvm.Cond.methodLink "CourtJotter$People" (52 : Nat) ({ cls := "java/lang/Math", name := "max", desc := "(II)I" } : Jvm.MethodName) ∈ cj_ws := cj_mem 548 (by decide +kernel) rfl
theorem cjq_550 : Jvm.Cond.methodLink "CourtJotter$Court" (196 : Nat) ({ cls := "CourtJotter$People", name := "turnAll", desc := "(I)V" } : Jvm.MethodName) ∈ cj_ws := cj_mem 550 (by decide +kernel) rfl
theorem cjq_551 : Jvm.Cond.instanceMethod ({ cls := "CourtJotter$People", name := "turnAll", desc := "(I)V" } : Jvm.MethodName) ∈ cj_ws := cj_mem 551 (by decide +kernel) rfl
theorem cjq_552 : Jvm.Cond.selects "CourtJotter$People" ({ cls := "CourtJotter$People", name := "turnAll", desc := "(I)V" } : Jvm.MethodName) ({ cls := "CourtJotter$People", name := "turnAll", desc := "(I)V" } : Jvm.MethodName) ∈ cj_ws := cj_mem 552 (by decide +kernel) rfl
theorem cjq_553 : Jvm.Cond.code ({ cls := "CourtJotter$People", name := "turnAll", desc := "(I)V" } : Jvm.MethodName) prog_5_method_10_code (3 : Nat) (Option.none : Option Jvm.ClassFile.FieldType) ∈ cj_ws := cj_mem 553 (by decide +kernel) rfl
theorem cjq_557 : Jvm.Cond.code ({ cls := "CourtJotter", name := "set", desc := "(II)I" } : Jvm.MethodName) prog_1_method_12_code (3 : Nat) (Option.some Jvm.ClassFile.FieldType.int) ∈ cj_ws := cj_mem 557 (by decide +kernel) rfl
theorem cjq_558 : Jvm.Cond.methodLink "CourtJotter" (87 : Nat) ({ cls := "CourtJotter$Court", name := "changeSetting", desc := "(II)I" } : Jvm.MethodName) ∈ cj_ws := cj_mem 558 (by decide +kernel) rfl
theorem cjq_559 : Jvm.Cond.instanceMethod ({ cls := "CourtJotter$Court", name := "changeSetting", desc := "(II)I" } : Jvm.MethodName) ∈ cj_ws := cj_mem 559 (by decide +kernel) rfl
theorem cjq_560 : Jvm.Cond.selects "CourtJotter$Court" ({ cls := "CourtJotter$Court", name := "changeSetting", desc := "(II)I" } : Jvm.MethodName) ({ cls := "CourtJotter$Court", name := "changeSetting", desc := "(II)I" } : Jvm.MethodName) ∈ cj_ws := cj_mem 560 (by decide +kernel) rfl
theorem cjq_561 : Jvm.Cond.code ({ cls := "CourtJotter$Court", name := "changeSetting", desc := "(II)I" } : Jvm.MethodName) prog_2_method_13_code (4 : Nat) (Option.some Jvm.ClassFile.FieldType.int) ∈ cj_ws := cj_mem 561 (by decide +kernel) rfl
theorem cjq_565 : Jvm.Cond.code ({ cls := "CourtJotter", name := "personOf", desc := "(II)I" } : Jvm.MethodName) prog_1_method_13_code (3 : Nat) (Option.some Jvm.ClassFile.FieldType.int) ∈ cj_ws := cj_mem 565 (by decide +kernel) rfl
theorem cjq_566 : Jvm.Cond.methodLink "CourtJotter" (90 : Nat) ({ cls := "CourtJotter$Court", name := "tellOfPerson", desc := "(II)I" } : Jvm.MethodName) ∈ cj_ws := cj_mem 566 (by decide +kernel) rfl
theorem cjq_567 : Jvm.Cond.instanceMethod ({ cls := "CourtJotter$Court", name := "tellOfPerson", desc := "(II)I" } : Jvm.MethodName) ∈ cj_ws := cj_mem 567 (by decide +kernel) rfl
theorem cjq_568 : Jvm.Cond.selects "CourtJotter$Court" ({ cls := "CourtJotter$Court", name := "tellOfPerson", desc := "(II)I" } : Jvm.MethodName) ({ cls := "CourtJotter$Court", name := "tellOfPerson", desc := "(II)I" } : Jvm.MethodName) ∈ cj_ws := cj_mem 568 (by decide +kernel) rfl
theorem cjq_569 : Jvm.Cond.code ({ cls := "CourtJotter$Court", name := "tellOfPerson", desc := "(II)I" } : Jvm.MethodName) prog_2_method_26_code (3 : Nat) (Option.some Jvm.ClassFile.FieldType.int) ∈ cj_ws := cj_mem 569 (by decide +kernel) rfl
theorem cjq_573 : Jvm.Cond.code ({ cls := "CourtJotter", name := "sheetOf", desc := "(II)I" } : Jvm.MethodName) prog_1_method_14_code (3 : Nat) (Option.some Jvm.ClassFile.FieldType.int) ∈ cj_ws := cj_mem 573 (by decide +kernel) rfl
theorem cjq_574 : Jvm.Cond.methodLink "CourtJotter" (93 : Nat) ({ cls := "CourtJotter$Court", name := "tellOfSheet", desc := "(II)I" } : Jvm.MethodName) ∈ cj_ws := cj_mem 574 (by decide +kernel) rfl
theorem cjq_575 : Jvm.Cond.instanceMethod ({ cls := "CourtJotter$Court", name := "tellOfSheet", desc := "(II)I" } : Jvm.MethodName) ∈ cj_ws := cj_mem 575 (by decide +kernel) rfl
theorem cjq_576 : Jvm.Cond.selects "CourtJotter$Court" ({ cls := "CourtJotter$Court", name := "tellOfSheet", desc := "(II)I" } : Jvm.MethodName) ({ cls := "CourtJotter$Court", name := "tellOfSheet", desc := "(II)I" } : Jvm.MethodName) ∈ cj_ws := cj_mem 576 (by decide +kernel) rfl
theorem cjq_577 : Jvm.Cond.code ({ cls := "CourtJotter$Court", name := "tellOfSheet", desc := "(II)I" } : Jvm.MethodName) prog_2_method_27_code (4 : Nat) (Option.some Jvm.ClassFile.FieldType.int) ∈ cj_ws := cj_mem 577 (by decide +kernel) rfl
theorem cjq_581 : Jvm.Cond.code ({ cls := "CourtJotter", name := "paperOf", desc := "(II)I" } : Jvm.MethodName) prog_1_method_15_code (3 : Nat) (Option.some Jvm.ClassFile.FieldType.int) ∈ cj_ws := cj_mem 581 (by decide +kernel) rfl
theorem cjq_582 : Jvm.Cond.methodLink "CourtJotter" (96 : Nat) ({ cls := "CourtJotter$Court", name := "tellOfPaper", desc := "(II)I" } : Jvm.MethodName) ∈ cj_ws := cj_mem 582 (by decide +kernel) rfl
theorem cjq_583 : Jvm.Cond.instanceMethod ({ cls := "CourtJotter$Court", name := "tellOfPaper", desc := "(II)I" } : Jvm.MethodName) ∈ cj_ws := cj_mem 583 (by decide +kernel) rfl
theorem cjq_584 : Jvm.Cond.selects "CourtJotter$Court" ({ cls := "CourtJotter$Court", name := "tellOfPaper", desc := "(II)I" } : Jvm.MethodName) ({ cls := "CourtJotter$Court", name := "tellOfPaper", desc := "(II)I" } : Jvm.MethodName) ∈ cj_ws := cj_mem 584 (by decide +kernel) rfl
theorem cjq_585 : Jvm.Cond.code ({ cls := "CourtJotter$Court", name := "tellOfPaper", desc := "(II)I" } : Jvm.MethodName) prog_2_method_28_code (3 : Nat) (Option.some Jvm.ClassFile.FieldType.int) ∈ cj_ws := cj_mem 585 (by decide +kernel) rfl
theorem cjq_589 : Jvm.Cond.code ({ cls := "CourtJotter", name := "price", desc := "(II)I" } : Jvm.MethodName) prog_1_method_16_code (4 : Nat) (Option.some Jvm.ClassFile.FieldType.int) ∈ cj_ws := cj_mem 589 (by decide +kernel) rfl
theorem cjq_590 : Jvm.Cond.methodLink "CourtJotter" (103 : Nat) ({ cls := "CourtJotter$Sheets", name := "placeOf", desc := "(I)I" } : Jvm.MethodName) ∈ cj_ws := cj_mem 590 (by decide +kernel) rfl
theorem cjq_591 : Jvm.Cond.methodLink "CourtJotter" (112 : Nat) ({ cls := "CourtJotter$Papers", name := "has", desc := "(I)Z" } : Jvm.MethodName) ∈ cj_ws := cj_mem 591 (by decide +kernel) rfl
theorem cjq_592 : Jvm.Cond.constant "CourtJotter" (118 : Nat) (-1000001 : Int32) ∈ cj_ws := cj_mem 592 (by decide +kernel) rfl
theorem cjq_593 : Jvm.Cond.methodLink "CourtJotter" (119 : Nat) ({ cls := "CourtJotter$Court", name := "priceAt", desc := "(II)I" } : Jvm.MethodName) ∈ cj_ws := cj_mem 593 (by decide +kernel) rfl
theorem cjq_597 : Jvm.Cond.code ({ cls := "CourtJotter", name := "number", desc := "(I)I" } : Jvm.MethodName) prog_1_method_17_code (2 : Nat) (Option.some Jvm.ClassFile.FieldType.int) ∈ cj_ws := cj_mem 597 (by decide +kernel) rfl
theorem cjq_598 : Jvm.Cond.constant "CourtJotter" (130 : Nat) (-1000004 : Int32) ∈ cj_ws := cj_mem 598 (by decide +kernel) rfl
theorem cjq_602 : Jvm.Cond.code ({ cls := "CourtJotter", name := "seenIn", desc := "(II)I" } : Jvm.MethodName) prog_1_method_18_code (4 : Nat) (Option.some Jvm.ClassFile.FieldType.int) ∈ cj_ws := cj_mem 602 (by decide +kernel) rfl
theorem cjq_603 : Jvm.Cond.methodLink "CourtJotter" (135 : Nat) ({ cls := "CourtJotter$People", name := "has", desc := "(I)Z" } : Jvm.MethodName) ∈ cj_ws := cj_mem 603 (by decide +kernel) rfl
theorem cjq_604 : Jvm.Cond.methodLink "CourtJotter" (138 : Nat) ({ cls := "CourtJotter", name := "isWithin", desc := "(III)Z" } : Jvm.MethodName) ∈ cj_ws := cj_mem 604 (by decide +kernel) rfl
theorem cjq_605 : Jvm.Cond.methodLink "CourtJotter" (142 : Nat) ({ cls := "CourtJotter$People", name := "seenAfter", desc := "(II)I" } : Jvm.MethodName) ∈ cj_ws := cj_mem 605 (by decide +kernel) rfl
theorem cjq_606 : Jvm.Cond.methodLink "CourtJotter" (145 : Nat) ({ cls := "CourtJotter", name := "hasBit", desc := "(II)Z" } : Jvm.MethodName) ∈ cj_ws := cj_mem 606 (by decide +kernel) rfl
theorem cjq_610 : Jvm.Cond.code ({ cls := "CourtJotter", name := "would", desc := "(II)I" } : Jvm.MethodName) prog_1_method_19_code (3 : Nat) (Option.some Jvm.ClassFile.FieldType.int) ∈ cj_ws := cj_mem 610 (by decide +kernel) rfl
theorem cjq_611 : Jvm.Cond.methodLink "CourtJotter" (149 : Nat) ({ cls := "CourtJotter$Court", name := "copyFrom", desc := "(LCourtJotter$Court;)V" } : Jvm.MethodName) ∈ cj_ws := cj_mem 611 (by decide +kernel) rfl
theorem cjq_612 : Jvm.Cond.methodLink "CourtJotter" (155 : Nat) ({ cls := "CourtJotter$Court", name := "advance", desc := "(I)V" } : Jvm.MethodName) ∈ cj_ws := cj_mem 612 (by decide +kernel) rfl
theorem cjq_613 : Jvm.Cond.methodLink "CourtJotter" (159 : Nat) ({ cls := "CourtJotter$Court", name := "remembered", desc := "(I)I" } : Jvm.MethodName) ∈ cj_ws := cj_mem 613 (by decide +kernel) rfl
theorem cjq_614 : Jvm.Cond.methodLink "CourtJotter" (162 : Nat) ({ cls := "java/lang/Integer", name := "bitCount", desc := "(I)I" } : Jvm.MethodName) ∈ cj_ws := cj_mem 614 (by decide +kernel) rfl
theorem cjq_618 : Jvm.Cond.code ({ cls := "CourtJotter", name := "best", desc := "(I)I" } : Jvm.MethodName) prog_1_method_20_code (2 : Nat) (Option.some Jvm.ClassFile.FieldType.int) ∈ cj_ws := cj_mem 618 (by decide +kernel) rfl
theorem cjq_619 : Jvm.Cond.methodLink "CourtJotter" (167 : Nat) ({ cls := "CourtJotter$Court", name := "findBestSale", desc := "(LCourtJotter$Sale;)Z" } : Jvm.MethodName) ∈ cj_ws := cj_mem 619 (by decide +kernel) rfl
theorem cjq_620 : Jvm.Cond.instanceMethod ({ cls := "CourtJotter$Court", name := "findBestSale", desc := "(LCourtJotter$Sale;)Z" } : Jvm.MethodName) ∈ cj_ws := cj_mem 620 (by decide +kernel) rfl
theorem cjq_621 : Jvm.Cond.selects "CourtJotter$Court" ({ cls := "CourtJotter$Court", name := "findBestSale", desc := "(LCourtJotter$Sale;)Z" } : Jvm.MethodName) ({ cls := "CourtJotter$Court", name := "findBestSale", desc := "(LCourtJotter$Sale;)Z" } : Jvm.MethodName) ∈ cj_ws := cj_mem 621 (by decide +kernel) rfl
theorem cjq_622 : Jvm.Cond.code ({ cls := "CourtJotter$Court", name := "findBestSale", desc := "(LCourtJotter$Sale;)Z" } : Jvm.MethodName) prog_2_method_16_code (5 : Nat) (Option.some Jvm.ClassFile.FieldType.boolean) ∈ cj_ws := cj_mem 622 (by decide +kernel) rfl
theorem cjq_626 : Jvm.Cond.code ({ cls := "CourtJotter", name := "sellAll", desc := "()I" } : Jvm.MethodName) prog_1_method_21_code (3 : Nat) (Option.some Jvm.ClassFile.FieldType.int) ∈ cj_ws := cj_mem 626 (by decide +kernel) rfl
theorem cjq_630 : Jvm.Cond.code ({ cls := "CourtJotter", name := "mean", desc := "()I" } : Jvm.MethodName) prog_1_method_22_code (1 : Nat) (Option.some Jvm.ClassFile.FieldType.int) ∈ cj_ws := cj_mem 630 (by decide +kernel) rfl
theorem cjq_631 : Jvm.Cond.methodLink "CourtJotter" (186 : Nat) ({ cls := "CourtJotter", name := "bitsOf", desc := "(F)I" } : Jvm.MethodName) ∈ cj_ws := cj_mem 631 (by decide +kernel) rfl
theorem cjq_632 : Jvm.Cond.static ({ cls := "CourtJotter", name := "bitsOf", desc := "(F)I" } : Jvm.MethodName) ∈ cj_ws := cj_mem 632 (by decide +kernel) rfl
theorem cjq_633 : Jvm.Cond.code ({ cls := "CourtJotter", name := "bitsOf", desc := "(F)I" } : Jvm.MethodName) prog_1_method_32_code (4 : Nat) (Option.some Jvm.ClassFile.FieldType.int) ∈ cj_ws := cj_mem 633 (by decide +kernel) rfl
theorem cjq_634 : Jvm.Cond.constantFloat "CourtJotter" (234 : Nat) (1258291200 : UInt32) ∈ cj_ws := cj_mem 634 (by decide +kernel) rfl
theorem cjq_638 : Jvm.Cond.code ({ cls := "CourtJotter", name := "count", desc := "(I)I" } : Jvm.MethodName) prog_1_method_23_code (2 : Nat) (Option.some Jvm.ClassFile.FieldType.int) ∈ cj_ws := cj_mem 638 (by decide +kernel) rfl
theorem cjq_639 : Jvm.Cond.methodLink "CourtJotter" (196 : Nat) ({ cls := "CourtJotter$Court", name := "tellCount", desc := "(I)I" } : Jvm.MethodName) ∈ cj_ws := cj_mem 639 (by decide +kernel) rfl
theorem cjq_640 : Jvm.Cond.instanceMethod ({ cls := "CourtJotter$Court", name := "tellCount", desc := "(I)I" } : Jvm.MethodName) ∈ cj_ws := cj_mem 640 (by decide +kernel) rfl
theorem cjq_641 : Jvm.Cond.selects "CourtJotter$Court" ({ cls := "CourtJotter$Court", name := "tellCount", desc := "(I)I" } : Jvm.MethodName) ({ cls := "CourtJotter$Court", name := "tellCount", desc := "(I)I" } : Jvm.MethodName) ∈ cj_ws := cj_mem 641 (by decide +kernel) rfl
theorem cjq_642 : Jvm.Cond.code ({ cls := "CourtJotter$Court", name := "tellCount", desc := "(I)I" } : Jvm.MethodName) prog_2_method_29_code (2 : Nat) (Option.some Jvm.ClassFile.FieldType.int) ∈ cj_ws := cj_mem 642 (by decide +kernel) rfl
theorem cjq_643 : Jvm.Cond.constant "CourtJotter$Court" (235 : Nat) (-1000004 : Int32) ∈ cj_ws := cj_mem 643 (by decide +kernel) rfl
theorem cjq_647 : Jvm.Cond.code ({ cls := "CourtJotter", name := "undo", desc := "()I" } : Jvm.MethodName) prog_1_method_24_code (1 : Nat) (Option.some Jvm.ClassFile.FieldType.int) ∈ cj_ws := cj_mem 647 (by decide +kernel) rfl
theorem cjq_648 : Jvm.Cond.methodLink "CourtJotter" (199 : Nat) ({ cls := "CourtJotter$History", name := "restore", desc := "(LCourtJotter$Court;)I" } : Jvm.MethodName) ∈ cj_ws := cj_mem 648 (by decide +kernel) rfl
theorem cjq_649 : Jvm.Cond.instanceMethod ({ cls := "CourtJotter$History", name := "restore", desc := "(LCourtJotter$Court;)I" } : Jvm.MethodName) ∈ cj_ws := cj_mem 649 (by decide +kernel) rfl
theorem cjq_650 : Jvm.Cond.selects "CourtJotter$History" ({ cls := "CourtJotter$History", name := "restore", desc := "(LCourtJotter$Court;)I" } : Jvm.MethodName) ({ cls := "CourtJotter$History", name := "restore", desc := "(LCourtJotter$Court;)I" } : Jvm.MethodName) ∈ cj_ws := cj_mem 650 (by decide +kernel) rfl
theorem cjq_651 : Jvm.Cond.code ({ cls := "CourtJotter$History", name := "restore", desc := "(LCourtJotter$Court;)I" } : Jvm.MethodName) prog_3_method_4_code (3 : Nat) (Option.some Jvm.ClassFile.FieldType.int) ∈ cj_ws := cj_mem 651 (by decide +kernel) rfl
theorem cjq_652 : Jvm.Cond.constant "CourtJotter$History" (29 : Nat) (-1000002 : Int32) ∈ cj_ws := cj_mem 652 (by decide +kernel) rfl
theorem cjq_656 : Jvm.Cond.code ({ cls := "CourtJotter", name := "type", desc := "(I)I" } : Jvm.MethodName) prog_1_method_25_code (2 : Nat) (Option.some Jvm.ClassFile.FieldType.int) ∈ cj_ws := cj_mem 656 (by decide +kernel) rfl
theorem cjq_657 : Jvm.Cond.methodLink "CourtJotter" (203 : Nat) ({ cls := "CourtJotter$Text", name := "append", desc := "(I)I" } : Jvm.MethodName) ∈ cj_ws := cj_mem 657 (by decide +kernel) rfl
theorem cjq_658 : Jvm.Cond.instanceMethod ({ cls := "CourtJotter$Text", name := "append", desc := "(I)I" } : Jvm.MethodName) ∈ cj_ws := cj_mem 658 (by decide +kernel) rfl
theorem cjq_659 : Jvm.Cond.selects "CourtJotter$Text" ({ cls := "CourtJotter$Text", name := "append", desc := "(I)I" } : Jvm.MethodName) ({ cls := "CourtJotter$Text", name := "append", desc := "(I)I" } : Jvm.MethodName) ∈ cj_ws := cj_mem 659 (by decide +kernel) rfl
theorem cjq_660 : Jvm.Cond.code ({ cls := "CourtJotter$Text", name := "append", desc := "(I)I" } : Jvm.MethodName) prog_9_method_2_code (2 : Nat) (Option.some Jvm.ClassFile.FieldType.int) ∈ cj_ws := cj_mem 660 (by decide +kernel) rfl
theorem cjq_662 : Jvm.Cond.constant "CourtJotter$Text" (19 : Nat) (-1000001 : Int32) ∈ cj_ws := cj_mem 662 (by decide +kernel) rfl
theorem cjq_663 : Jvm.Cond.constant "CourtJotter$Text" (24 : Nat) (-1000003 : Int32) ∈ cj_ws := cj_mem 663 (by decide +kernel) rfl
theorem cjq_667 : Jvm.Cond.code ({ cls := "CourtJotter", name := "clearText", desc := "()I" } : Jvm.MethodName) prog_1_method_26_code (2 : Nat) (Option.some Jvm.ClassFile.FieldType.int) ∈ cj_ws := cj_mem 667 (by decide +kernel) rfl
theorem cjq_671 : Jvm.Cond.code ({ cls := "CourtJotter", name := "fault", desc := "(I)I" } : Jvm.MethodName) prog_1_method_27_code (2 : Nat) (Option.some Jvm.ClassFile.FieldType.int) ∈ cj_ws := cj_mem 671 (by decide +kernel) rfl
theorem cjq_672 : Jvm.Cond.methodLink "CourtJotter" (206 : Nat) ({ cls := "CourtJotter$Rehearsal", name := "run", desc := "(LCourtJotter$Text;LCourtJotter$Court;)V" } : Jvm.MethodName) ∈ cj_ws := cj_mem 672 (by decide +kernel) rfl
theorem cjq_673 : Jvm.Cond.instanceMethod ({ cls := "CourtJotter$Rehearsal", name := "run", desc := "(LCourtJotter$Text;LCourtJotter$Court;)V" } : Jvm.MethodName) ∈ cj_ws := cj_mem 673 (by decide +kernel) rfl
theorem cjq_674 : Jvm.Cond.selects "CourtJotter$Rehearsal" ({ cls := "CourtJotter$Rehearsal", name := "run", desc := "(LCourtJotter$Text;LCourtJotter$Court;)V" } : Jvm.MethodName) ({ cls := "CourtJotter$Rehearsal", name := "run", desc := "(LCourtJotter$Text;LCourtJotter$Court;)V" } : Jvm.MethodName) ∈ cj_ws := cj_mem 674 (by decide +kernel) rfl
theorem cjq_675 : Jvm.Cond.code ({ cls := "CourtJotter$Rehearsal", name := "run", desc := "(LCourtJotter$Text;LCourtJotter$Court;)V" } : Jvm.MethodName) prog_6_method_2_code (5 : Nat) (Option.none : Option Jvm.ClassFile.FieldType) ∈ cj_ws := cj_mem 675 (by decide +kernel) rfl
theorem cjq_676 : Jvm.Cond.methodLink "CourtJotter$Rehearsal" (23 : Nat) ({ cls := "CourtJotter$Text", name := "readOrder", desc := "(I)Z" } : Jvm.MethodName) ∈ cj_ws := cj_mem 676 (by decide +kernel) rfl
theorem cjq_677 : Jvm.Cond.instanceMethod ({ cls := "CourtJotter$Text", name := "readOrder", desc := "(I)Z" } : Jvm.MethodName) ∈ cj_ws := cj_mem 677 (by decide +kernel) rfl
theorem cjq_678 : Jvm.Cond.selects "CourtJotter$Text" ({ cls := "CourtJotter$Text", name := "readOrder", desc := "(I)Z" } : Jvm.MethodName) ({ cls := "CourtJotter$Text", name := "readOrder", desc := "(I)Z" } : Jvm.MethodName) ∈ cj_ws := cj_mem 678 (by decide +kernel) rfl
theorem cjq_679 : Jvm.Cond.code ({ cls := "CourtJotter$Text", name := "readOrder", desc := "(I)Z" } : Jvm.MethodName) prog_9_method_3_code (2 : Nat) (Option.some Jvm.ClassFile.FieldType.boolean) ∈ cj_ws := cj_mem 679 (by decide +kernel) rfl
theorem cjq_680 : Jvm.Cond.methodLink "CourtJotter$Text" (28 : Nat) ({ cls := "CourtJotter$Text", name := "next", desc := "()C" } : Jvm.MethodName) ∈ cj_ws := cj_mem 680 (by decide +kernel) rfl
theorem cjq_681 : Jvm.Cond.instanceMethod ({ cls := "CourtJotter$Text", name := "next", desc := "()C" } : Jvm.MethodName) ∈ cj_ws := cj_mem 681 (by decide +kernel) rfl
theorem cjq_682 : Jvm.Cond.selects "CourtJotter$Text" ({ cls := "CourtJotter$Text", name := "next", desc := "()C" } : Jvm.MethodName) ({ cls := "CourtJotter$Text", name := "next", desc := "()C" } : Jvm.MethodName) ∈ cj_ws := cj_mem 682 (by decide +kernel) rfl
theorem cjq_683 : Jvm.Cond.code ({ cls := "CourtJotter$Text", name := "next", desc := "()C" } : Jvm.MethodName) prog_9_method_4_code (1 : Nat) (Option.some Jvm.ClassFile.FieldType.char) ∈ cj_ws := cj_mem 683 (by decide +kernel) rfl
theorem cjq_684 : Jvm.Cond.methodLink "CourtJotter$Text" (36 : Nat) ({ cls := "CourtJotter$Text", name := "isOneNumber", desc := "(C)Z" } : Jvm.MethodName) ∈ cj_ws := cj_mem 684 (by decide +kernel) rfl
theorem cjq_685 : Jvm.Cond.static ({ cls := "CourtJotter$Text", name := "isOneNumber", desc := "(C)Z" } : Jvm.MethodName) ∈ cj_ws := cj_mem 685 (by decide +kernel) rfl
theorem cjq_686 : Jvm.Cond.code ({ cls := "CourtJotter$Text", name := "isOneNumber", desc := "(C)Z" } : Jvm.MethodName) prog_9_method_6_code (1 : Nat) (Option.some Jvm.ClassFile.FieldType.boolean) ∈ cj_ws := cj_mem 686 (by decide +kernel) rfl
theorem cjq_687 : Jvm.Cond.methodLink "CourtJotter$Text" (40 : Nat) ({ cls := "CourtJotter$Text", name := "isTwoNumbers", desc := "(C)Z" } : Jvm.MethodName) ∈ cj_ws := cj_mem 687 (by decide +kernel) rfl
theorem cjq_688 : Jvm.Cond.static ({ cls := "CourtJotter$Text", name := "isTwoNumbers", desc := "(C)Z" } : Jvm.MethodName) ∈ cj_ws := cj_mem 688 (by decide +kernel) rfl
theorem cjq_689 : Jvm.Cond.code ({ cls := "CourtJotter$Text", name := "isTwoNumbers", desc := "(C)Z" } : Jvm.MethodName) prog_9_method_7_code (1 : Nat) (Option.some Jvm.ClassFile.FieldType.boolean) ∈ cj_ws := cj_mem 689 (by decide +kernel) rfl
theorem cjq_690 : Jvm.Cond.methodLink "CourtJotter$Text" (43 : Nat) ({ cls := "CourtJotter$Text", name := "readNumber", desc := "()I" } : Jvm.MethodName) ∈ cj_ws := cj_mem 690 (by decide +kernel) rfl
theorem cjq_691 : Jvm.Cond.instanceMethod ({ cls := "CourtJotter$Text", name := "readNumber", desc := "()I" } : Jvm.MethodName) ∈ cj_ws := cj_mem 691 (by decide +kernel) rfl
theorem cjq_692 : Jvm.Cond.selects "CourtJotter$Text" ({ cls := "CourtJotter$Text", name := "readNumber", desc := "()I" } : Jvm.MethodName) ({ cls := "CourtJotter$Text", name := "readNumber", desc := "()I" } : Jvm.MethodName) ∈ cj_ws := cj_mem 692 (by decide +kernel) rfl
theorem cjq_693 : Jvm.Cond.code ({ cls := "CourtJotter$Text", name := "readNumber", desc := "()I" } : Jvm.MethodName) prog_9_method_5_code (3 : Nat) (Option.some Jvm.ClassFile.FieldType.int) ∈ cj_ws := cj_mem 693 (by decide +kernel) rfl
theorem cjq_694 : Jvm.Cond.methodLink "CourtJotter$Text" (53 : Nat) ({ cls := "java/lang/Math", name := "max", desc := "(II)I" } : Jvm.MethodName) ∈ cj_ws := cj_mem 694 (by decide +kernel) rfl
theorem cjq_695 : Jvm.Cond.methodLink "CourtJotter$Rehearsal" (30 : Nat) ({ cls := "CourtJotter$Rehearsal", name := "fail", desc := "(III)V" } : Jvm.MethodName) ∈ cj_ws := cj_mem 695 (by decide +kernel) rfl
theorem cjq_696 : Jvm.Cond.instanceMethod ({ cls := "CourtJotter$Rehearsal", name := "fail", desc := "(III)V" } : Jvm.MethodName) ∈ cj_ws := cj_mem 696 (by decide +kernel) rfl
theorem cjq_697 : Jvm.Cond.selects "CourtJotter$Rehearsal" ({ cls := "CourtJotter$Rehearsal", name := "fail", desc := "(III)V" } : Jvm.MethodName) ({ cls := "CourtJotter$Rehearsal", name := "fail", desc := "(III)V" } : Jvm.MethodName) ∈ cj_ws := cj_mem 697 (by decide +kernel) rfl
theorem cjq_698 : Jvm.Cond.code ({ cls := "CourtJotter$Rehearsal", name := "fail", desc := "(III)V" } : Jvm.MethodName) prog_6_method_3_code (4 : Nat) (Option.none : Option Jvm.ClassFile.FieldType) ∈ cj_ws := cj_mem 698 (by decide +kernel) rfl
theorem cjq_699 : Jvm.Cond.methodLink "CourtJotter$Rehearsal" (44 : Nat) ({ cls := "CourtJotter$Court", name := "perform", desc := "(CII)I" } : Jvm.MethodName) ∈ cj_ws := cj_mem 699 (by decide +kernel) rfl
theorem cjq_700 : Jvm.Cond.instanceMethod ({ cls := "CourtJotter$Court", name := "perform", desc := "(CII)I" } : Jvm.MethodName) ∈ cj_ws := cj_mem 700 (by decide +kernel) rfl
theorem cjq_701 : Jvm.Cond.selects "CourtJotter$Court" ({ cls := "CourtJotter$Court", name := "perform", desc := "(CII)I" } : Jvm.MethodName) ({ cls := "CourtJotter$Court", name := "perform", desc := "(CII)I" } : Jvm.MethodName) ∈ cj_ws := cj_mem 701 (by decide +kernel) rfl
theorem cjq_702 : Jvm.Cond.code ({ cls := "CourtJotter$Court", name := "perform", desc := "(CII)I" } : Jvm.MethodName) prog_2_method_14_code (4 : Nat) (Option.some Jvm.ClassFile.FieldType.int) ∈ cj_ws := cj_mem 702 (by decide +kernel) rfl
theorem cjq_703 : Jvm.Cond.methodLink "CourtJotter$Court" (174 : Nat) ({ cls := "CourtJotter$Court", name := "lookAt", desc := "(I)I" } : Jvm.MethodName) ∈ cj_ws := cj_mem 703 (by decide +kernel) rfl
theorem cjq_704 : Jvm.Cond.methodLink "CourtJotter$Court" (177 : Nat) ({ cls := "CourtJotter$Court", name := "beginSheet", desc := "(I)I" } : Jvm.MethodName) ∈ cj_ws := cj_mem 704 (by decide +kernel) rfl
theorem cjq_705 : Jvm.Cond.methodLink "CourtJotter$Court" (180 : Nat) ({ cls := "CourtJotter$Court", name := "drawFeature", desc := "(II)I" } : Jvm.MethodName) ∈ cj_ws := cj_mem 705 (by decide +kernel) rfl
theorem cjq_706 : Jvm.Cond.methodLink "CourtJotter$Court" (183 : Nat) ({ cls := "CourtJotter$Court", name := "tellVerdict", desc := "(I)I" } : Jvm.MethodName) ∈ cj_ws := cj_mem 706 (by decide +kernel) rfl
theorem cjq_707 : Jvm.Cond.methodLink "CourtJotter$Court" (186 : Nat) ({ cls := "CourtJotter$Court", name := "sellSheet", desc := "(II)I" } : Jvm.MethodName) ∈ cj_ws := cj_mem 707 (by decide +kernel) rfl
theorem cjq_708 : Jvm.Cond.methodLink "CourtJotter$Court" (189 : Nat) ({ cls := "CourtJotter$Court", name := "passMinutes", desc := "(I)I" } : Jvm.MethodName) ∈ cj_ws := cj_mem 708 (by decide +kernel) rfl
theorem cjq_712 : Jvm.Cond.code ({ cls := "CourtJotter", name := "play", desc := "()I" } : Jvm.MethodName) prog_1_method_28_code (1 : Nat) (Option.some Jvm.ClassFile.FieldType.int) ∈ cj_ws := cj_mem 712 (by decide +kernel) rfl
theorem cjq_713 : Jvm.Cond.constant "CourtJotter" (219 : Nat) (-1000002 : Int32) ∈ cj_ws := cj_mem 713 (by decide +kernel) rfl
theorem cjq_720 : Jvm.Cond.fieldLink "CourtJotterModel" (7 : Nat) "CourtJotterModel" "s" "[I" ∈ cj_ws := cj_mem 720 (by decide +kernel) rfl
theorem cjq_721 : Jvm.Cond.fieldLink "CourtJotterModel" (13 : Nat) "CourtJotterModel" "past" "[I" ∈ cj_ws := cj_mem 721 (by decide +kernel) rfl
theorem cjq_722 : Jvm.Cond.fieldLink "CourtJotterModel" (16 : Nat) "CourtJotterModel" "held" "[I" ∈ cj_ws := cj_mem 722 (by decide +kernel) rfl
theorem cjq_723 : Jvm.Cond.fieldLink "CourtJotterModel" (19 : Nat) "CourtJotterModel" "tried" "[I" ∈ cj_ws := cj_mem 723 (by decide +kernel) rfl
theorem cjq_724 : Jvm.Cond.fieldLink "CourtJotterModel" (32 : Nat) "CourtJotterModel" "pasts" "I" ∈ cj_ws := cj_mem 724 (by decide +kernel) rfl
theorem cjq_725 : Jvm.Cond.fieldLink "CourtJotterModel" (28 : Nat) "CourtJotterModel" "runs" "Z" ∈ cj_ws := cj_mem 725 (by decide +kernel) rfl
theorem cjq_726 : Jvm.Cond.fieldLink "CourtJotterModel" (22 : Nat) "CourtJotterModel" "text" "[I" ∈ cj_ws := cj_mem 726 (by decide +kernel) rfl
theorem cjq_727 : Jvm.Cond.fieldLink "CourtJotterModel" (139 : Nat) "CourtJotterModel" "typed" "I" ∈ cj_ws := cj_mem 727 (by decide +kernel) rfl
theorem cjq_728 : Jvm.Cond.fieldLink "CourtJotterModel" (142 : Nat) "CourtJotterModel" "spot" "I" ∈ cj_ws := cj_mem 728 (by decide +kernel) rfl
theorem cjq_729 : Jvm.Cond.fieldLink "CourtJotterModel" (178 : Nat) "CourtJotterModel" "from" "I" ∈ cj_ws := cj_mem 729 (by decide +kernel) rfl
theorem cjq_730 : Jvm.Cond.fieldLink "CourtJotterModel" (191 : Nat) "CourtJotterModel" "reason" "I" ∈ cj_ws := cj_mem 730 (by decide +kernel) rfl
theorem cjq_731 : Jvm.Cond.fieldLink "CourtJotterModel" (194 : Nat) "CourtJotterModel" "cause" "I" ∈ cj_ws := cj_mem 731 (by decide +kernel) rfl
theorem cjq_732 : Jvm.Cond.fieldLink "CourtJotterModel" (181 : Nat) "CourtJotterModel" "orders" "I" ∈ cj_ws := cj_mem 732 (by decide +kernel) rfl
theorem cjq_733 : Jvm.Cond.fieldLink "CourtJotterModel" (148 : Nat) "CourtJotterModel" "order" "I" ∈ cj_ws := cj_mem 733 (by decide +kernel) rfl
theorem cjq_734 : Jvm.Cond.fieldLink "CourtJotterModel" (25 : Nat) "CourtJotterModel" "told" "[I" ∈ cj_ws := cj_mem 734 (by decide +kernel) rfl
theorem cjq_769 : Jvm.Cond.code ({ cls := "CourtJotterModel", name := "person", desc := "(II)I" } : Jvm.MethodName) prog_11_method_18_code (5 : Nat) (Option.some Jvm.ClassFile.FieldType.int) ∈ cj_ws := cj_mem 769 (by decide +kernel) rfl
theorem cjq_770 : Jvm.Cond.methodLink "CourtJotterModel" (47 : Nat) ({ cls := "CourtJotterModel", name := "in", desc := "(III)Z" } : Jvm.MethodName) ∈ cj_ws := cj_mem 770 (by decide +kernel) rfl
theorem cjq_771 : Jvm.Cond.static ({ cls := "CourtJotterModel", name := "in", desc := "(III)Z" } : Jvm.MethodName) ∈ cj_ws := cj_mem 771 (by decide +kernel) rfl
theorem cjq_772 : Jvm.Cond.code ({ cls := "CourtJotterModel", name := "in", desc := "(III)Z" } : Jvm.MethodName) prog_11_method_3_code (3 : Nat) (Option.some Jvm.ClassFile.FieldType.boolean) ∈ cj_ws := cj_mem 772 (by decide +kernel) rfl
theorem cjq_773 : Jvm.Cond.constant "CourtJotterModel" (51 : Nat) (-1000001 : Int32) ∈ cj_ws := cj_mem 773 (by decide +kernel) rfl
theorem cjq_774 : Jvm.Cond.methodLink "CourtJotterModel" (36 : Nat) ({ cls := "CourtJotterModel", name := "of", desc := "(II)I" } : Jvm.MethodName) ∈ cj_ws := cj_mem 774 (by decide +kernel) rfl
theorem cjq_776 : Jvm.Cond.instanceMethod ({ cls := "CourtJotterModel", name := "of", desc := "(II)I" } : Jvm.MethodName) ∈ cj_ws := cj_mem 776 (by decide +kernel) rfl
theorem cjq_777 : Jvm.Cond.code ({ cls := "CourtJotterModel", name := "of", desc := "(II)I" } : Jvm.MethodName) prog_11_method_9_code (3 : Nat) (Option.some Jvm.ClassFile.FieldType.int) ∈ cj_ws := cj_mem 777 (by decide +kernel) rfl
theorem cjq_778 : Jvm.Cond.constant "CourtJotterModel" (52 : Nat) (-1000002 : Int32) ∈ cj_ws := cj_mem 778 (by decide +kernel) rfl
theorem cjq_779 : Jvm.Cond.constant "CourtJotterModel" (53 : Nat) (-1000003 : Int32) ∈ cj_ws := cj_mem 779 (by decide +kernel) rfl
theorem cjq_780 : Jvm.Cond.methodLink "CourtJotterModel" (54 : Nat) ({ cls := "CourtJotterModel", name := "changes", desc := "()V" } : Jvm.MethodName) ∈ cj_ws := cj_mem 780 (by decide +kernel) rfl
theorem cjq_782 : Jvm.Cond.instanceMethod ({ cls := "CourtJotterModel", name := "changes", desc := "()V" } : Jvm.MethodName) ∈ cj_ws := cj_mem 782 (by decide +kernel) rfl
theorem cjq_783 : Jvm.Cond.code ({ cls := "CourtJotterModel", name := "changes", desc := "()V" } : Jvm.MethodName) prog_11_method_5_code (2 : Nat) (Option.none : Option Jvm.ClassFile.FieldType) ∈ cj_ws := cj_mem 783 (by decide +kernel) rfl
theorem cjq_784 : Jvm.Cond.methodLink "CourtJotterModel" (57 : Nat) ({ cls := "CourtJotterModel", name := "sets", desc := "(III)V" } : Jvm.MethodName) ∈ cj_ws := cj_mem 784 (by decide +kernel) rfl
theorem cjq_786 : Jvm.Cond.instanceMethod ({ cls := "CourtJotterModel", name := "sets", desc := "(III)V" } : Jvm.MethodName) ∈ cj_ws := cj_mem 786 (by decide +kernel) rfl
theorem cjq_787 : Jvm.Cond.code ({ cls := "CourtJotterModel", name := "sets", desc := "(III)V" } : Jvm.MethodName) prog_11_method_10_code (4 : Nat) (Option.none : Option Jvm.ClassFile.FieldType) ∈ cj_ws := cj_mem 787 (by decide +kernel) rfl
theorem cjq_791 : Jvm.Cond.code ({ cls := "CourtJotterModel", name := "turn", desc := "(III)I" } : Jvm.MethodName) prog_11_method_19_code (4 : Nat) (Option.some Jvm.ClassFile.FieldType.int) ∈ cj_ws := cj_mem 791 (by decide +kernel) rfl
theorem cjq_792 : Jvm.Cond.methodLink "CourtJotterModel" (61 : Nat) ({ cls := "CourtJotterModel", name := "isPerson", desc := "(I)Z" } : Jvm.MethodName) ∈ cj_ws := cj_mem 792 (by decide +kernel) rfl
theorem cjq_794 : Jvm.Cond.instanceMethod ({ cls := "CourtJotterModel", name := "isPerson", desc := "(I)Z" } : Jvm.MethodName) ∈ cj_ws := cj_mem 794 (by decide +kernel) rfl
theorem cjq_795 : Jvm.Cond.code ({ cls := "CourtJotterModel", name := "isPerson", desc := "(I)Z" } : Jvm.MethodName) prog_11_method_7_code (2 : Nat) (Option.some Jvm.ClassFile.FieldType.boolean) ∈ cj_ws := cj_mem 795 (by decide +kernel) rfl
theorem cjq_796 : Jvm.Cond.methodLink "CourtJotterModel" (64 : Nat) ({ cls := "CourtJotterModel", name := "seen", desc := "(I)I" } : Jvm.MethodName) ∈ cj_ws := cj_mem 796 (by decide +kernel) rfl
theorem cjq_798 : Jvm.Cond.instanceMethod ({ cls := "CourtJotterModel", name := "seen", desc := "(I)I" } : Jvm.MethodName) ∈ cj_ws := cj_mem 798 (by decide +kernel) rfl
theorem cjq_799 : Jvm.Cond.code ({ cls := "CourtJotterModel", name := "seen", desc := "(I)I" } : Jvm.MethodName) prog_11_method_16_code (2 : Nat) (Option.some Jvm.ClassFile.FieldType.int) ∈ cj_ws := cj_mem 799 (by decide +kernel) rfl
theorem cjq_800 : Jvm.Cond.methodLink "CourtJotterModel" (44 : Nat) ({ cls := "CourtJotterModel", name := "seenAt", desc := "(II)I" } : Jvm.MethodName) ∈ cj_ws := cj_mem 800 (by decide +kernel) rfl
theorem cjq_802 : Jvm.Cond.instanceMethod ({ cls := "CourtJotterModel", name := "seenAt", desc := "(II)I" } : Jvm.MethodName) ∈ cj_ws := cj_mem 802 (by decide +kernel) rfl
theorem cjq_803 : Jvm.Cond.code ({ cls := "CourtJotterModel", name := "seenAt", desc := "(II)I" } : Jvm.MethodName) prog_11_method_15_code (6 : Nat) (Option.some Jvm.ClassFile.FieldType.int) ∈ cj_ws := cj_mem 803 (by decide +kernel) rfl
theorem cjq_804 : Jvm.Cond.methodLink "CourtJotterModel" (40 : Nat) ({ cls := "CourtJotterModel", name := "isHidden", desc := "(I)Z" } : Jvm.MethodName) ∈ cj_ws := cj_mem 804 (by decide +kernel) rfl
theorem cjq_806 : Jvm.Cond.instanceMethod ({ cls := "CourtJotterModel", name := "isHidden", desc := "(I)Z" } : Jvm.MethodName) ∈ cj_ws := cj_mem 806 (by decide +kernel) rfl
theorem cjq_807 : Jvm.Cond.code ({ cls := "CourtJotterModel", name := "isHidden", desc := "(I)Z" } : Jvm.MethodName) prog_11_method_14_code (4 : Nat) (Option.some Jvm.ClassFile.FieldType.boolean) ∈ cj_ws := cj_mem 807 (by decide +kernel) rfl
theorem cjq_811 : Jvm.Cond.code ({ cls := "CourtJotterModel", name := "paper", desc := "(II)I" } : Jvm.MethodName) prog_11_method_20_code (4 : Nat) (Option.some Jvm.ClassFile.FieldType.int) ∈ cj_ws := cj_mem 811 (by decide +kernel) rfl
theorem cjq_813 : Jvm.Cond.instanceMethod ({ cls := "CourtJotterModel", name := "look", desc := "(I)I" } : Jvm.MethodName) ∈ cj_ws := cj_mem 813 (by decide +kernel) rfl
theorem cjq_814 : Jvm.Cond.selects "CourtJotterModel" ({ cls := "CourtJotterModel", name := "look", desc := "(I)I" } : Jvm.MethodName) ({ cls := "CourtJotterModel", name := "look", desc := "(I)I" } : Jvm.MethodName) ∈ cj_ws := cj_mem 814 (by decide +kernel) rfl
theorem cjq_815 : Jvm.Cond.code ({ cls := "CourtJotterModel", name := "look", desc := "(I)I" } : Jvm.MethodName) prog_11_method_21_code (2 : Nat) (Option.some Jvm.ClassFile.FieldType.int) ∈ cj_ws := cj_mem 815 (by decide +kernel) rfl
theorem cjq_817 : Jvm.Cond.instanceMethod ({ cls := "CourtJotterModel", name := "sheet", desc := "(I)I" } : Jvm.MethodName) ∈ cj_ws := cj_mem 817 (by decide +kernel) rfl
theorem cjq_818 : Jvm.Cond.selects "CourtJotterModel" ({ cls := "CourtJotterModel", name := "sheet", desc := "(I)I" } : Jvm.MethodName) ({ cls := "CourtJotterModel", name := "sheet", desc := "(I)I" } : Jvm.MethodName) ∈ cj_ws := cj_mem 818 (by decide +kernel) rfl
theorem cjq_819 : Jvm.Cond.code ({ cls := "CourtJotterModel", name := "sheet", desc := "(I)I" } : Jvm.MethodName) prog_11_method_23_code (3 : Nat) (Option.some Jvm.ClassFile.FieldType.int) ∈ cj_ws := cj_mem 819 (by decide +kernel) rfl
theorem cjq_821 : Jvm.Cond.instanceMethod ({ cls := "CourtJotterModel", name := "draw", desc := "(II)I" } : Jvm.MethodName) ∈ cj_ws := cj_mem 821 (by decide +kernel) rfl
theorem cjq_822 : Jvm.Cond.selects "CourtJotterModel" ({ cls := "CourtJotterModel", name := "draw", desc := "(II)I" } : Jvm.MethodName) ({ cls := "CourtJotterModel", name := "draw", desc := "(II)I" } : Jvm.MethodName) ∈ cj_ws := cj_mem 822 (by decide +kernel) rfl
theorem cjq_823 : Jvm.Cond.code ({ cls := "CourtJotterModel", name := "draw", desc := "(II)I" } : Jvm.MethodName) prog_11_method_25_code (5 : Nat) (Option.some Jvm.ClassFile.FieldType.int) ∈ cj_ws := cj_mem 823 (by decide +kernel) rfl
theorem cjq_824 : Jvm.Cond.methodLink "CourtJotterModel" (75 : Nat) ({ cls := "CourtJotterModel", name := "slot", desc := "(I)I" } : Jvm.MethodName) ∈ cj_ws := cj_mem 824 (by decide +kernel) rfl
theorem cjq_826 : Jvm.Cond.instanceMethod ({ cls := "CourtJotterModel", name := "slot", desc := "(I)I" } : Jvm.MethodName) ∈ cj_ws := cj_mem 826 (by decide +kernel) rfl
theorem cjq_827 : Jvm.Cond.code ({ cls := "CourtJotterModel", name := "slot", desc := "(I)I" } : Jvm.MethodName) prog_11_method_22_code (3 : Nat) (Option.some Jvm.ClassFile.FieldType.int) ∈ cj_ws := cj_mem 827 (by decide +kernel) rfl
theorem cjq_828 : Jvm.Cond.methodLink "CourtJotterModel" (68 : Nat) ({ cls := "CourtJotterModel", name := "ofSheet", desc := "(II)I" } : Jvm.MethodName) ∈ cj_ws := cj_mem 828 (by decide +kernel) rfl
theorem cjq_830 : Jvm.Cond.instanceMethod ({ cls := "CourtJotterModel", name := "ofSheet", desc := "(II)I" } : Jvm.MethodName) ∈ cj_ws := cj_mem 830 (by decide +kernel) rfl
theorem cjq_831 : Jvm.Cond.code ({ cls := "CourtJotterModel", name := "ofSheet", desc := "(II)I" } : Jvm.MethodName) prog_11_method_11_code (3 : Nat) (Option.some Jvm.ClassFile.FieldType.int) ∈ cj_ws := cj_mem 831 (by decide +kernel) rfl
theorem cjq_832 : Jvm.Cond.constant "CourtJotterModel" (71 : Nat) (-1000004 : Int32) ∈ cj_ws := cj_mem 832 (by decide +kernel) rfl
theorem cjq_833 : Jvm.Cond.methodLink "CourtJotterModel" (78 : Nat) ({ cls := "CourtJotterModel", name := "drawable", desc := "(I)I" } : Jvm.MethodName) ∈ cj_ws := cj_mem 833 (by decide +kernel) rfl
theorem cjq_835 : Jvm.Cond.instanceMethod ({ cls := "CourtJotterModel", name := "drawable", desc := "(I)I" } : Jvm.MethodName) ∈ cj_ws := cj_mem 835 (by decide +kernel) rfl
theorem cjq_836 : Jvm.Cond.code ({ cls := "CourtJotterModel", name := "drawable", desc := "(I)I" } : Jvm.MethodName) prog_11_method_24_code (2 : Nat) (Option.some Jvm.ClassFile.FieldType.int) ∈ cj_ws := cj_mem 836 (by decide +kernel) rfl
theorem cjq_837 : Jvm.Cond.methodLink "CourtJotterModel" (72 : Nat) ({ cls := "CourtJotterModel", name := "remembered", desc := "(I)I" } : Jvm.MethodName) ∈ cj_ws := cj_mem 837 (by decide +kernel) rfl
theorem cjq_839 : Jvm.Cond.instanceMethod ({ cls := "CourtJotterModel", name := "remembered", desc := "(I)I" } : Jvm.MethodName) ∈ cj_ws := cj_mem 839 (by decide +kernel) rfl
theorem cjq_840 : Jvm.Cond.code ({ cls := "CourtJotterModel", name := "remembered", desc := "(I)I" } : Jvm.MethodName) prog_11_method_17_code (5 : Nat) (Option.some Jvm.ClassFile.FieldType.int) ∈ cj_ws := cj_mem 840 (by decide +kernel) rfl
theorem cjq_841 : Jvm.Cond.methodLink "CourtJotterModel" (81 : Nat) ({ cls := "CourtJotterModel", name := "ones", desc := "(I)I" } : Jvm.MethodName) ∈ cj_ws := cj_mem 841 (by decide +kernel) rfl
theorem cjq_842 : Jvm.Cond.static ({ cls := "CourtJotterModel", name := "ones", desc := "(I)I" } : Jvm.MethodName) ∈ cj_ws := cj_mem 842 (by decide +kernel) rfl
theorem cjq_843 : Jvm.Cond.code ({ cls := "CourtJotterModel", name := "ones", desc := "(I)I" } : Jvm.MethodName) prog_11_method_6_code (3 : Nat) (Option.some Jvm.ClassFile.FieldType.int) ∈ cj_ws := cj_mem 843 (by decide +kernel) rfl
theorem cjq_847 : Jvm.Cond.code ({ cls := "CourtJotterModel", name := "tear", desc := "(I)I" } : Jvm.MethodName) prog_11_method_27_code (3 : Nat) (Option.some Jvm.ClassFile.FieldType.int) ∈ cj_ws := cj_mem 847 (by decide +kernel) rfl
theorem cjq_848 : Jvm.Cond.methodLink "CourtJotterModel" (84 : Nat) ({ cls := "CourtJotterModel", name := "takesOut", desc := "(I)V" } : Jvm.MethodName) ∈ cj_ws := cj_mem 848 (by decide +kernel) rfl
theorem cjq_850 : Jvm.Cond.instanceMethod ({ cls := "CourtJotterModel", name := "takesOut", desc := "(I)V" } : Jvm.MethodName) ∈ cj_ws := cj_mem 850 (by decide +kernel) rfl
theorem cjq_851 : Jvm.Cond.code ({ cls := "CourtJotterModel", name := "takesOut", desc := "(I)V" } : Jvm.MethodName) prog_11_method_26_code (3 : Nat) (Option.none : Option Jvm.ClassFile.FieldType) ∈ cj_ws := cj_mem 851 (by decide +kernel) rfl
theorem cjq_853 : Jvm.Cond.instanceMethod ({ cls := "CourtJotterModel", name := "verdict", desc := "(I)I" } : Jvm.MethodName) ∈ cj_ws := cj_mem 853 (by decide +kernel) rfl
theorem cjq_854 : Jvm.Cond.selects "CourtJotterModel" ({ cls := "CourtJotterModel", name := "verdict", desc := "(I)I" } : Jvm.MethodName) ({ cls := "CourtJotterModel", name := "verdict", desc := "(I)I" } : Jvm.MethodName) ∈ cj_ws := cj_mem 854 (by decide +kernel) rfl
theorem cjq_855 : Jvm.Cond.code ({ cls := "CourtJotterModel", name := "verdict", desc := "(I)I" } : Jvm.MethodName) prog_11_method_30_code (2 : Nat) (Option.some Jvm.ClassFile.FieldType.int) ∈ cj_ws := cj_mem 855 (by decide +kernel) rfl
theorem cjq_856 : Jvm.Cond.methodLink "CourtJotterModel" (92 : Nat) ({ cls := "CourtJotterModel", name := "hasVerdict", desc := "(I)Z" } : Jvm.MethodName) ∈ cj_ws := cj_mem 856 (by decide +kernel) rfl
theorem cjq_858 : Jvm.Cond.instanceMethod ({ cls := "CourtJotterModel", name := "hasVerdict", desc := "(I)Z" } : Jvm.MethodName) ∈ cj_ws := cj_mem 858 (by decide +kernel) rfl
theorem cjq_859 : Jvm.Cond.code ({ cls := "CourtJotterModel", name := "hasVerdict", desc := "(I)Z" } : Jvm.MethodName) prog_11_method_29_code (2 : Nat) (Option.some Jvm.ClassFile.FieldType.boolean) ∈ cj_ws := cj_mem 859 (by decide +kernel) rfl
theorem cjq_860 : Jvm.Cond.methodLink "CourtJotterModel" (88 : Nat) ({ cls := "CourtJotterModel", name := "day", desc := "()I" } : Jvm.MethodName) ∈ cj_ws := cj_mem 860 (by decide +kernel) rfl
theorem cjq_862 : Jvm.Cond.instanceMethod ({ cls := "CourtJotterModel", name := "day", desc := "()I" } : Jvm.MethodName) ∈ cj_ws := cj_mem 862 (by decide +kernel) rfl
theorem cjq_863 : Jvm.Cond.code ({ cls := "CourtJotterModel", name := "day", desc := "()I" } : Jvm.MethodName) prog_11_method_13_code (1 : Nat) (Option.some Jvm.ClassFile.FieldType.int) ∈ cj_ws := cj_mem 863 (by decide +kernel) rfl
theorem cjq_864 : Jvm.Cond.methodLink "CourtJotterModel" (95 : Nat) ({ cls := "CourtJotterModel", name := "sheetsOf", desc := "(I)I" } : Jvm.MethodName) ∈ cj_ws := cj_mem 864 (by decide +kernel) rfl
theorem cjq_866 : Jvm.Cond.instanceMethod ({ cls := "CourtJotterModel", name := "sheetsOf", desc := "(I)I" } : Jvm.MethodName) ∈ cj_ws := cj_mem 866 (by decide +kernel) rfl
theorem cjq_867 : Jvm.Cond.code ({ cls := "CourtJotterModel", name := "sheetsOf", desc := "(I)I" } : Jvm.MethodName) prog_11_method_28_code (4 : Nat) (Option.some Jvm.ClassFile.FieldType.int) ∈ cj_ws := cj_mem 867 (by decide +kernel) rfl
theorem cjq_869 : Jvm.Cond.instanceMethod ({ cls := "CourtJotterModel", name := "sell", desc := "(II)I" } : Jvm.MethodName) ∈ cj_ws := cj_mem 869 (by decide +kernel) rfl
theorem cjq_870 : Jvm.Cond.selects "CourtJotterModel" ({ cls := "CourtJotterModel", name := "sell", desc := "(II)I" } : Jvm.MethodName) ({ cls := "CourtJotterModel", name := "sell", desc := "(II)I" } : Jvm.MethodName) ∈ cj_ws := cj_mem 870 (by decide +kernel) rfl
theorem cjq_871 : Jvm.Cond.code ({ cls := "CourtJotterModel", name := "sell", desc := "(II)I" } : Jvm.MethodName) prog_11_method_36_code (4 : Nat) (Option.some Jvm.ClassFile.FieldType.int) ∈ cj_ws := cj_mem 871 (by decide +kernel) rfl
theorem cjq_872 : Jvm.Cond.methodLink "CourtJotterModel" (110 : Nat) ({ cls := "CourtJotterModel", name := "isPaper", desc := "(I)Z" } : Jvm.MethodName) ∈ cj_ws := cj_mem 872 (by decide +kernel) rfl
theorem cjq_874 : Jvm.Cond.instanceMethod ({ cls := "CourtJotterModel", name := "isPaper", desc := "(I)Z" } : Jvm.MethodName) ∈ cj_ws := cj_mem 874 (by decide +kernel) rfl
theorem cjq_875 : Jvm.Cond.code ({ cls := "CourtJotterModel", name := "isPaper", desc := "(I)Z" } : Jvm.MethodName) prog_11_method_8_code (2 : Nat) (Option.some Jvm.ClassFile.FieldType.boolean) ∈ cj_ws := cj_mem 875 (by decide +kernel) rfl
theorem cjq_876 : Jvm.Cond.methodLink "CourtJotterModel" (113 : Nat) ({ cls := "CourtJotterModel", name := "canSell", desc := "(II)Z" } : Jvm.MethodName) ∈ cj_ws := cj_mem 876 (by decide +kernel) rfl
theorem cjq_878 : Jvm.Cond.instanceMethod ({ cls := "CourtJotterModel", name := "canSell", desc := "(II)Z" } : Jvm.MethodName) ∈ cj_ws := cj_mem 878 (by decide +kernel) rfl
theorem cjq_879 : Jvm.Cond.code ({ cls := "CourtJotterModel", name := "canSell", desc := "(II)Z" } : Jvm.MethodName) prog_11_method_33_code (3 : Nat) (Option.some Jvm.ClassFile.FieldType.boolean) ∈ cj_ws := cj_mem 879 (by decide +kernel) rfl
theorem cjq_880 : Jvm.Cond.methodLink "CourtJotterModel" (101 : Nat) ({ cls := "CourtJotterModel", name := "isDry", desc := "(I)Z" } : Jvm.MethodName) ∈ cj_ws := cj_mem 880 (by decide +kernel) rfl
theorem cjq_882 : Jvm.Cond.instanceMethod ({ cls := "CourtJotterModel", name := "isDry", desc := "(I)Z" } : Jvm.MethodName) ∈ cj_ws := cj_mem 882 (by decide +kernel) rfl
theorem cjq_883 : Jvm.Cond.code ({ cls := "CourtJotterModel", name := "isDry", desc := "(I)Z" } : Jvm.MethodName) prog_11_method_31_code (2 : Nat) (Option.some Jvm.ClassFile.FieldType.boolean) ∈ cj_ws := cj_mem 883 (by decide +kernel) rfl
theorem cjq_884 : Jvm.Cond.methodLink "CourtJotterModel" (104 : Nat) ({ cls := "CourtJotterModel", name := "boughtOf", desc := "(I)I" } : Jvm.MethodName) ∈ cj_ws := cj_mem 884 (by decide +kernel) rfl
theorem cjq_886 : Jvm.Cond.instanceMethod ({ cls := "CourtJotterModel", name := "boughtOf", desc := "(I)I" } : Jvm.MethodName) ∈ cj_ws := cj_mem 886 (by decide +kernel) rfl
theorem cjq_887 : Jvm.Cond.code ({ cls := "CourtJotterModel", name := "boughtOf", desc := "(I)I" } : Jvm.MethodName) prog_11_method_32_code (2 : Nat) (Option.some Jvm.ClassFile.FieldType.int) ∈ cj_ws := cj_mem 887 (by decide +kernel) rfl
theorem cjq_888 : Jvm.Cond.methodLink "CourtJotterModel" (98 : Nat) ({ cls := "CourtJotterModel", name := "ofPaper", desc := "(II)I" } : Jvm.MethodName) ∈ cj_ws := cj_mem 888 (by decide +kernel) rfl
theorem cjq_890 : Jvm.Cond.instanceMethod ({ cls := "CourtJotterModel", name := "ofPaper", desc := "(II)I" } : Jvm.MethodName) ∈ cj_ws := cj_mem 890 (by decide +kernel) rfl
theorem cjq_891 : Jvm.Cond.code ({ cls := "CourtJotterModel", name := "ofPaper", desc := "(II)I" } : Jvm.MethodName) prog_11_method_12_code (3 : Nat) (Option.some Jvm.ClassFile.FieldType.int) ∈ cj_ws := cj_mem 891 (by decide +kernel) rfl
theorem cjq_892 : Jvm.Cond.methodLink "CourtJotterModel" (117 : Nat) ({ cls := "CourtJotterModel", name := "sells", desc := "(II)I" } : Jvm.MethodName) ∈ cj_ws := cj_mem 892 (by decide +kernel) rfl
theorem cjq_894 : Jvm.Cond.instanceMethod ({ cls := "CourtJotterModel", name := "sells", desc := "(II)I" } : Jvm.MethodName) ∈ cj_ws := cj_mem 894 (by decide +kernel) rfl
theorem cjq_895 : Jvm.Cond.code ({ cls := "CourtJotterModel", name := "sells", desc := "(II)I" } : Jvm.MethodName) prog_11_method_35_code (5 : Nat) (Option.some Jvm.ClassFile.FieldType.int) ∈ cj_ws := cj_mem 895 (by decide +kernel) rfl
theorem cjq_896 : Jvm.Cond.methodLink "CourtJotterModel" (107 : Nat) ({ cls := "CourtJotterModel", name := "priceOf", desc := "(II)I" } : Jvm.MethodName) ∈ cj_ws := cj_mem 896 (by decide +kernel) rfl
theorem cjq_898 : Jvm.Cond.instanceMethod ({ cls := "CourtJotterModel", name := "priceOf", desc := "(II)I" } : Jvm.MethodName) ∈ cj_ws := cj_mem 898 (by decide +kernel) rfl
theorem cjq_899 : Jvm.Cond.code ({ cls := "CourtJotterModel", name := "priceOf", desc := "(II)I" } : Jvm.MethodName) prog_11_method_34_code (4 : Nat) (Option.some Jvm.ClassFile.FieldType.int) ∈ cj_ws := cj_mem 899 (by decide +kernel) rfl
theorem cjq_901 : Jvm.Cond.instanceMethod ({ cls := "CourtJotterModel", name := "pass", desc := "(I)I" } : Jvm.MethodName) ∈ cj_ws := cj_mem 901 (by decide +kernel) rfl
theorem cjq_902 : Jvm.Cond.selects "CourtJotterModel" ({ cls := "CourtJotterModel", name := "pass", desc := "(I)I" } : Jvm.MethodName) ({ cls := "CourtJotterModel", name := "pass", desc := "(I)I" } : Jvm.MethodName) ∈ cj_ws := cj_mem 902 (by decide +kernel) rfl
theorem cjq_903 : Jvm.Cond.code ({ cls := "CourtJotterModel", name := "pass", desc := "(I)I" } : Jvm.MethodName) prog_11_method_39_code (4 : Nat) (Option.some Jvm.ClassFile.FieldType.int) ∈ cj_ws := cj_mem 903 (by decide +kernel) rfl
theorem cjq_904 : Jvm.Cond.methodLink "CourtJotterModel" (123 : Nat) ({ cls := "CourtJotterModel", name := "minute", desc := "()V" } : Jvm.MethodName) ∈ cj_ws := cj_mem 904 (by decide +kernel) rfl
theorem cjq_906 : Jvm.Cond.instanceMethod ({ cls := "CourtJotterModel", name := "minute", desc := "()V" } : Jvm.MethodName) ∈ cj_ws := cj_mem 906 (by decide +kernel) rfl
theorem cjq_907 : Jvm.Cond.code ({ cls := "CourtJotterModel", name := "minute", desc := "()V" } : Jvm.MethodName) prog_11_method_38_code (2 : Nat) (Option.none : Option Jvm.ClassFile.FieldType) ∈ cj_ws := cj_mem 907 (by decide +kernel) rfl
theorem cjq_908 : Jvm.Cond.methodLink "CourtJotterModel" (120 : Nat) ({ cls := "CourtJotterModel", name := "sees", desc := "(I)V" } : Jvm.MethodName) ∈ cj_ws := cj_mem 908 (by decide +kernel) rfl
theorem cjq_910 : Jvm.Cond.instanceMethod ({ cls := "CourtJotterModel", name := "sees", desc := "(I)V" } : Jvm.MethodName) ∈ cj_ws := cj_mem 910 (by decide +kernel) rfl
theorem cjq_911 : Jvm.Cond.code ({ cls := "CourtJotterModel", name := "sees", desc := "(I)V" } : Jvm.MethodName) prog_11_method_37_code (3 : Nat) (Option.none : Option Jvm.ClassFile.FieldType) ∈ cj_ws := cj_mem 911 (by decide +kernel) rfl
theorem cjq_915 : Jvm.Cond.code ({ cls := "CourtJotterModel", name := "set", desc := "(II)I" } : Jvm.MethodName) prog_11_method_40_code (4 : Nat) (Option.some Jvm.ClassFile.FieldType.int) ∈ cj_ws := cj_mem 915 (by decide +kernel) rfl
theorem cjq_919 : Jvm.Cond.code ({ cls := "CourtJotterModel", name := "personOf", desc := "(II)I" } : Jvm.MethodName) prog_11_method_41_code (3 : Nat) (Option.some Jvm.ClassFile.FieldType.int) ∈ cj_ws := cj_mem 919 (by decide +kernel) rfl
theorem cjq_923 : Jvm.Cond.code ({ cls := "CourtJotterModel", name := "sheetOf", desc := "(II)I" } : Jvm.MethodName) prog_11_method_42_code (4 : Nat) (Option.some Jvm.ClassFile.FieldType.int) ∈ cj_ws := cj_mem 923 (by decide +kernel) rfl
theorem cjq_927 : Jvm.Cond.code ({ cls := "CourtJotterModel", name := "paperOf", desc := "(II)I" } : Jvm.MethodName) prog_11_method_43_code (3 : Nat) (Option.some Jvm.ClassFile.FieldType.int) ∈ cj_ws := cj_mem 927 (by decide +kernel) rfl
theorem cjq_931 : Jvm.Cond.code ({ cls := "CourtJotterModel", name := "price", desc := "(II)I" } : Jvm.MethodName) prog_11_method_44_code (4 : Nat) (Option.some Jvm.ClassFile.FieldType.int) ∈ cj_ws := cj_mem 931 (by decide +kernel) rfl
theorem cjq_935 : Jvm.Cond.code ({ cls := "CourtJotterModel", name := "number", desc := "(I)I" } : Jvm.MethodName) prog_11_method_45_code (2 : Nat) (Option.some Jvm.ClassFile.FieldType.int) ∈ cj_ws := cj_mem 935 (by decide +kernel) rfl
theorem cjq_939 : Jvm.Cond.code ({ cls := "CourtJotterModel", name := "seenIn", desc := "(II)I" } : Jvm.MethodName) prog_11_method_46_code (5 : Nat) (Option.some Jvm.ClassFile.FieldType.int) ∈ cj_ws := cj_mem 939 (by decide +kernel) rfl
theorem cjq_943 : Jvm.Cond.code ({ cls := "CourtJotterModel", name := "would", desc := "(II)I" } : Jvm.MethodName) prog_11_method_47_code (4 : Nat) (Option.some Jvm.ClassFile.FieldType.int) ∈ cj_ws := cj_mem 943 (by decide +kernel) rfl
theorem cjq_944 : Jvm.Cond.methodLink "CourtJotterModel" (126 : Nat) ({ cls := "CourtJotterModel", name := "copies", desc := "([I[I)V" } : Jvm.MethodName) ∈ cj_ws := cj_mem 944 (by decide +kernel) rfl
theorem cjq_945 : Jvm.Cond.static ({ cls := "CourtJotterModel", name := "copies", desc := "([I[I)V" } : Jvm.MethodName) ∈ cj_ws := cj_mem 945 (by decide +kernel) rfl
theorem cjq_946 : Jvm.Cond.code ({ cls := "CourtJotterModel", name := "copies", desc := "([I[I)V" } : Jvm.MethodName) prog_11_method_4_code (3 : Nat) (Option.none : Option Jvm.ClassFile.FieldType) ∈ cj_ws := cj_mem 946 (by decide +kernel) rfl
theorem cjq_950 : Jvm.Cond.code ({ cls := "CourtJotterModel", name := "best", desc := "(I)I" } : Jvm.MethodName) prog_11_method_49_code (3 : Nat) (Option.some Jvm.ClassFile.FieldType.int) ∈ cj_ws := cj_mem 950 (by decide +kernel) rfl
theorem cjq_951 : Jvm.Cond.methodLink "CourtJotterModel" (130 : Nat) ({ cls := "CourtJotterModel", name := "bestSale", desc := "()I" } : Jvm.MethodName) ∈ cj_ws := cj_mem 951 (by decide +kernel) rfl
theorem cjq_953 : Jvm.Cond.instanceMethod ({ cls := "CourtJotterModel", name := "bestSale", desc := "()I" } : Jvm.MethodName) ∈ cj_ws := cj_mem 953 (by decide +kernel) rfl
theorem cjq_954 : Jvm.Cond.code ({ cls := "CourtJotterModel", name := "bestSale", desc := "()I" } : Jvm.MethodName) prog_11_method_48_code (6 : Nat) (Option.some Jvm.ClassFile.FieldType.int) ∈ cj_ws := cj_mem 954 (by decide +kernel) rfl
theorem cjq_958 : Jvm.Cond.code ({ cls := "CourtJotterModel", name := "sellAll", desc := "()I" } : Jvm.MethodName) prog_11_method_50_code (3 : Nat) (Option.some Jvm.ClassFile.FieldType.int) ∈ cj_ws := cj_mem 958 (by decide +kernel) rfl
theorem cjq_962 : Jvm.Cond.code ({ cls := "CourtJotterModel", name := "mean", desc := "()I" } : Jvm.MethodName) prog_11_method_51_code (2 : Nat) (Option.some Jvm.ClassFile.FieldType.int) ∈ cj_ws := cj_mem 962 (by decide +kernel) rfl
theorem cjq_963 : Jvm.Cond.methodLink "CourtJotterModel" (133 : Nat) ({ cls := "java/lang/Float", name := "floatToIntBits", desc := "(F)I" } : Jvm.MethodName) ∈ cj_ws := cj_mem 963 (by decide +kernel) rfl
theorem cjq_964 : Jvm.Cond.static ({ cls := "java/lang/Float", name := "floatToIntBits", desc := "(F)I" } : Jvm.MethodName) ∈ cj_ws := cj_mem 964 (by decide +kernel) rfl
theorem cjq_965 : Jvm.Cond.code ({ cls := "java/lang/Float", name := "floatToIntBits", desc := "(F)I" } : Jvm.MethodName) prog_12_method_24_code (1 : Nat) (Option.some Jvm.ClassFile.FieldType.int) ∈ cj_ws := cj_mem 965 (by decide +kernel) rfl
theorem cjq_966 : Jvm.Cond.methodLink "java/lang/Float" (59 : Nat) ({ cls := "java/lang/Float", name := "isNaN", desc := "(F)Z" } : Jvm.MethodName) ∈ cj_ws := cj_mem 966 (by decide +kernel) rfl
theorem cjq_967 : Jvm.Cond.static ({ cls := "java/lang/Float", name := "isNaN", desc := "(F)Z" } : Jvm.MethodName) ∈ cj_ws := cj_mem 967 (by decide +kernel) rfl
theorem cjq_968 : Jvm.Cond.code ({ cls := "java/lang/Float", name := "isNaN", desc := "(F)Z" } : Jvm.MethodName) prog_12_method_6_code (1 : Nat) (Option.some Jvm.ClassFile.FieldType.boolean) ∈ cj_ws := cj_mem 968 (by decide +kernel) rfl
theorem cjq_969 : Jvm.Cond.methodLink "java/lang/Float" (74 : Nat) ({ cls := "java/lang/Float", name := "floatToRawIntBits", desc := "(F)I" } : Jvm.MethodName) ∈ cj_ws := cj_mem 969 (by decide +kernel) rfl
theorem cjq_970 : Jvm.Cond.static ({ cls := "java/lang/Float", name := "floatToRawIntBits", desc := "(F)I" } : Jvm.MethodName) ∈ cj_ws := cj_mem 970 (by decide +kernel) rfl
theorem cjq_971 : Jvm.Cond.native ({ cls := "java/lang/Float", name := "floatToRawIntBits", desc := "(F)I" } : Jvm.MethodName) ∈ cj_ws := cj_mem 971 (by decide +kernel) rfl
theorem cjq_972 : Jvm.Cond.constant "java/lang/Float" (77 : Nat) (2143289344 : Int32) ∈ cj_ws := cj_mem 972 (by decide +kernel) rfl
theorem cjq_976 : Jvm.Cond.code ({ cls := "CourtJotterModel", name := "count", desc := "(I)I" } : Jvm.MethodName) prog_11_method_52_code (2 : Nat) (Option.some Jvm.ClassFile.FieldType.int) ∈ cj_ws := cj_mem 976 (by decide +kernel) rfl
theorem cjq_980 : Jvm.Cond.code ({ cls := "CourtJotterModel", name := "undo", desc := "()I" } : Jvm.MethodName) prog_11_method_53_code (2 : Nat) (Option.some Jvm.ClassFile.FieldType.int) ∈ cj_ws := cj_mem 980 (by decide +kernel) rfl
theorem cjq_984 : Jvm.Cond.code ({ cls := "CourtJotterModel", name := "type", desc := "(I)I" } : Jvm.MethodName) prog_11_method_54_code (2 : Nat) (Option.some Jvm.ClassFile.FieldType.int) ∈ cj_ws := cj_mem 984 (by decide +kernel) rfl
theorem cjq_988 : Jvm.Cond.code ({ cls := "CourtJotterModel", name := "clearText", desc := "()I" } : Jvm.MethodName) prog_11_method_55_code (2 : Nat) (Option.some Jvm.ClassFile.FieldType.int) ∈ cj_ws := cj_mem 988 (by decide +kernel) rfl
theorem cjq_992 : Jvm.Cond.code ({ cls := "CourtJotterModel", name := "fault", desc := "(I)I" } : Jvm.MethodName) prog_11_method_63_code (3 : Nat) (Option.some Jvm.ClassFile.FieldType.int) ∈ cj_ws := cj_mem 992 (by decide +kernel) rfl
theorem cjq_993 : Jvm.Cond.methodLink "CourtJotterModel" (197 : Nat) ({ cls := "CourtJotterModel", name := "plays", desc := "()Z" } : Jvm.MethodName) ∈ cj_ws := cj_mem 993 (by decide +kernel) rfl
theorem cjq_995 : Jvm.Cond.instanceMethod ({ cls := "CourtJotterModel", name := "plays", desc := "()Z" } : Jvm.MethodName) ∈ cj_ws := cj_mem 995 (by decide +kernel) rfl
theorem cjq_996 : Jvm.Cond.code ({ cls := "CourtJotterModel", name := "plays", desc := "()Z" } : Jvm.MethodName) prog_11_method_62_code (4 : Nat) (Option.some Jvm.ClassFile.FieldType.boolean) ∈ cj_ws := cj_mem 996 (by decide +kernel) rfl
theorem cjq_997 : Jvm.Cond.methodLink "CourtJotterModel" (184 : Nat) ({ cls := "CourtJotterModel", name := "reads", desc := "()Z" } : Jvm.MethodName) ∈ cj_ws := cj_mem 997 (by decide +kernel) rfl
theorem cjq_999 : Jvm.Cond.instanceMethod ({ cls := "CourtJotterModel", name := "reads", desc := "()Z" } : Jvm.MethodName) ∈ cj_ws := cj_mem 999 (by decide +kernel) rfl
theorem cjq_1000 : Jvm.Cond.code ({ cls := "CourtJotterModel", name := "reads", desc := "()Z" } : Jvm.MethodName) prog_11_method_60_code (3 : Nat) (Option.some Jvm.ClassFile.FieldType.boolean) ∈ cj_ws := cj_mem 1000 (by decide +kernel) rfl
theorem cjq_1001 : Jvm.Cond.methodLink "CourtJotterModel" (145 : Nat) ({ cls := "CourtJotterModel", name := "isAt", desc := "(II)Z" } : Jvm.MethodName) ∈ cj_ws := cj_mem 1001 (by decide +kernel) rfl
theorem cjq_1003 : Jvm.Cond.instanceMethod ({ cls := "CourtJotterModel", name := "isAt", desc := "(II)Z" } : Jvm.MethodName) ∈ cj_ws := cj_mem 1003 (by decide +kernel) rfl
theorem cjq_1004 : Jvm.Cond.code ({ cls := "CourtJotterModel", name := "isAt", desc := "(II)Z" } : Jvm.MethodName) prog_11_method_56_code (3 : Nat) (Option.some Jvm.ClassFile.FieldType.boolean) ∈ cj_ws := cj_mem 1004 (by decide +kernel) rfl
theorem cjq_1005 : Jvm.Cond.methodLink "CourtJotterModel" (151 : Nat) ({ cls := "CourtJotterModel", name := "numbersOf", desc := "(I)I" } : Jvm.MethodName) ∈ cj_ws := cj_mem 1005 (by decide +kernel) rfl
theorem cjq_1006 : Jvm.Cond.static ({ cls := "CourtJotterModel", name := "numbersOf", desc := "(I)I" } : Jvm.MethodName) ∈ cj_ws := cj_mem 1006 (by decide +kernel) rfl
theorem cjq_1007 : Jvm.Cond.code ({ cls := "CourtJotterModel", name := "numbersOf", desc := "(I)I" } : Jvm.MethodName) prog_11_method_59_code (1 : Nat) (Option.some Jvm.ClassFile.FieldType.int) ∈ cj_ws := cj_mem 1007 (by decide +kernel) rfl
theorem cjq_1008 : Jvm.Cond.methodLink "CourtJotterModel" (154 : Nat) ({ cls := "CourtJotterModel", name := "numbered", desc := "(I)Z" } : Jvm.MethodName) ∈ cj_ws := cj_mem 1008 (by decide +kernel) rfl
theorem cjq_1010 : Jvm.Cond.instanceMethod ({ cls := "CourtJotterModel", name := "numbered", desc := "(I)Z" } : Jvm.MethodName) ∈ cj_ws := cj_mem 1010 (by decide +kernel) rfl
theorem cjq_1011 : Jvm.Cond.code ({ cls := "CourtJotterModel", name := "numbered", desc := "(I)Z" } : Jvm.MethodName) prog_11_method_58_code (3 : Nat) (Option.some Jvm.ClassFile.FieldType.boolean) ∈ cj_ws := cj_mem 1011 (by decide +kernel) rfl
theorem cjq_1012 : Jvm.Cond.methodLink "CourtJotterModel" (157 : Nat) ({ cls := "CourtJotterModel", name := "sign", desc := "(I)Z" } : Jvm.MethodName) ∈ cj_ws := cj_mem 1012 (by decide +kernel) rfl
theorem cjq_1014 : Jvm.Cond.instanceMethod ({ cls := "CourtJotterModel", name := "sign", desc := "(I)Z" } : Jvm.MethodName) ∈ cj_ws := cj_mem 1014 (by decide +kernel) rfl
theorem cjq_1015 : Jvm.Cond.code ({ cls := "CourtJotterModel", name := "sign", desc := "(I)Z" } : Jvm.MethodName) prog_11_method_57_code (3 : Nat) (Option.some Jvm.ClassFile.FieldType.boolean) ∈ cj_ws := cj_mem 1015 (by decide +kernel) rfl
theorem cjq_1016 : Jvm.Cond.methodLink "CourtJotterModel" (188 : Nat) ({ cls := "CourtJotterModel", name := "calls", desc := "()I" } : Jvm.MethodName) ∈ cj_ws := cj_mem 1016 (by decide +kernel) rfl
theorem cjq_1018 : Jvm.Cond.instanceMethod ({ cls := "CourtJotterModel", name := "calls", desc := "()I" } : Jvm.MethodName) ∈ cj_ws := cj_mem 1018 (by decide +kernel) rfl
theorem cjq_1019 : Jvm.Cond.code ({ cls := "CourtJotterModel", name := "calls", desc := "()I" } : Jvm.MethodName) prog_11_method_61_code (1 : Nat) (Option.some Jvm.ClassFile.FieldType.int) ∈ cj_ws := cj_mem 1019 (by decide +kernel) rfl
theorem cjq_1020 : Jvm.Cond.methodLink "CourtJotterModel" (160 : Nat) ({ cls := "CourtJotterModel", name := "look", desc := "(I)I" } : Jvm.MethodName) ∈ cj_ws := cj_mem 1020 (by decide +kernel) rfl
theorem cjq_1021 : Jvm.Cond.methodLink "CourtJotterModel" (163 : Nat) ({ cls := "CourtJotterModel", name := "sheet", desc := "(I)I" } : Jvm.MethodName) ∈ cj_ws := cj_mem 1021 (by decide +kernel) rfl
theorem cjq_1022 : Jvm.Cond.methodLink "CourtJotterModel" (166 : Nat) ({ cls := "CourtJotterModel", name := "draw", desc := "(II)I" } : Jvm.MethodName) ∈ cj_ws := cj_mem 1022 (by decide +kernel) rfl
theorem cjq_1023 : Jvm.Cond.methodLink "CourtJotterModel" (169 : Nat) ({ cls := "CourtJotterModel", name := "verdict", desc := "(I)I" } : Jvm.MethodName) ∈ cj_ws := cj_mem 1023 (by decide +kernel) rfl
theorem cjq_1024 : Jvm.Cond.methodLink "CourtJotterModel" (172 : Nat) ({ cls := "CourtJotterModel", name := "sell", desc := "(II)I" } : Jvm.MethodName) ∈ cj_ws := cj_mem 1024 (by decide +kernel) rfl
theorem cjq_1025 : Jvm.Cond.methodLink "CourtJotterModel" (175 : Nat) ({ cls := "CourtJotterModel", name := "pass", desc := "(I)I" } : Jvm.MethodName) ∈ cj_ws := cj_mem 1025 (by decide +kernel) rfl
theorem cjq_1029 : Jvm.Cond.code ({ cls := "CourtJotterModel", name := "play", desc := "()I" } : Jvm.MethodName) prog_11_method_64_code (2 : Nat) (Option.some Jvm.ClassFile.FieldType.int) ∈ cj_ws := cj_mem 1029 (by decide +kernel) rfl
theorem cw_J9_min_7cf53 : cj_cw yJ9_min_7cf53 cJ9_min_7cf53 2 2 (some .int) := ⟨cjq_336, cjq_42, by decide +kernel, by decide +kernel, by decide +kernel⟩
theorem cw_X3_copyFrom : cj_cw yX3_copyFrom cX3_copyFrom 2 1 none := ⟨cjq_330, cjq_34, by decide +kernel, by decide +kernel, by decide +kernel⟩
theorem cw_X6_copyFrom : cj_cw yX6_copyFrom cX6_copyFrom 2 1 none := ⟨cjq_343, cjq_35, by decide +kernel, by decide +kernel, by decide +kernel⟩
theorem cw_X2_copyFrom : cj_cw yX2_copyFrom cX2_copyFrom 2 1 none := ⟨cjq_348, cjq_36, by decide +kernel, by decide +kernel, by decide +kernel⟩
theorem cw_X0_copyFrom : cj_cw yX0_copyFrom cX0_copyFrom 2 1 none := ⟨cjq_326, cjq_33, by decide +kernel, by decide +kernel, by decide +kernel⟩
theorem cw_X8_isWithin : cj_cw yX8_isWithin cX8_isWithin 3 3 (some .boolean) := ⟨cjq_356, cjq_32, by decide +kernel, by decide +kernel, by decide +kernel⟩
theorem cw_X3_isTaken : cj_cw yX3_isTaken cX3_isTaken 4 2 (some .boolean) := ⟨cjq_361, cjq_34, by decide +kernel, by decide +kernel, by decide +kernel⟩
theorem cw_X0_addPerson : cj_cw yX0_addPerson cX0_addPerson 3 2 (some .int) := ⟨cjq_353, cjq_33, by decide +kernel, by decide +kernel, by decide +kernel⟩
theorem cw_X3_has : cj_cw yX3_has cX3_has 2 1 (some .boolean) := ⟨cjq_379, cjq_34, by decide +kernel, by decide +kernel, by decide +kernel⟩
theorem cw_X3_angleAfter : cj_cw yX3_angleAfter cX3_angleAfter 3 2 (some .int) := ⟨cjq_387, cjq_34, by decide +kernel, by decide +kernel, by decide +kernel⟩
theorem cw_X3_seenAside : cj_cw yX3_seenAside cX3_seenAside 3 1 (some .int) := ⟨cjq_391, cjq_34, by decide +kernel, by decide +kernel, by decide +kernel⟩
theorem cw_X3_features : cj_cw yX3_features cX3_features 4 2 (some .int) := ⟨cjq_394, cjq_34, by decide +kernel, by decide +kernel, by decide +kernel⟩
theorem cw_X3_seenAfter : cj_cw yX3_seenAfter cX3_seenAfter 3 2 (some .int) := ⟨cjq_383, cjq_34, by decide +kernel, by decide +kernel, by decide +kernel⟩
theorem cw_X0_turnPerson : cj_cw yX0_turnPerson cX0_turnPerson 4 3 (some .int) := ⟨cjq_375, cjq_33, by decide +kernel, by decide +kernel, by decide +kernel⟩
theorem cw_X0_addPaper : cj_cw yX0_addPaper cX0_addPaper 3 2 (some .int) := ⟨cjq_402, cjq_33, by decide +kernel, by decide +kernel, by decide +kernel⟩
theorem cw_X0_lookAt : cj_cw yX0_lookAt cX0_lookAt 2 1 (some .int) := ⟨cjq_410, cjq_33, by decide +kernel, by decide +kernel, by decide +kernel⟩
theorem cw_X6_add : cj_cw yX6_add cX6_add 2 1 (some .int) := ⟨cjq_422, cjq_35, by decide +kernel, by decide +kernel, by decide +kernel⟩
theorem cw_X0_beginSheet : cj_cw yX0_beginSheet cX0_beginSheet 2 1 (some .int) := ⟨cjq_418, cjq_33, by decide +kernel, by decide +kernel, by decide +kernel⟩
theorem cw_X6_placeOf : cj_cw yX6_placeOf cX6_placeOf 3 1 (some .int) := ⟨cjq_434, cjq_35, by decide +kernel, by decide +kernel, by decide +kernel⟩
theorem cw_X3_rememberedSince : cj_cw yX3_rememberedSince cX3_rememberedSince 6 2 (some .int) := ⟨cjq_446, cjq_34, by decide +kernel, by decide +kernel, by decide +kernel⟩
theorem cw_X0_remembered : cj_cw yX0_remembered cX0_remembered 2 1 (some .int) := ⟨cjq_442, cjq_33, by decide +kernel, by decide +kernel, by decide +kernel⟩
theorem cw_X0_drawable : cj_cw yX0_drawable cX0_drawable 2 1 (some .int) := ⟨cjq_438, cjq_33, by decide +kernel, by decide +kernel, by decide +kernel⟩
theorem cw_X8_hasBit : cj_cw yX8_hasBit cX8_hasBit 2 2 (some .boolean) := ⟨cjq_449, cjq_32, by decide +kernel, by decide +kernel, by decide +kernel⟩
theorem cw_J9_max_7cf53 : cj_cw yJ9_max_7cf53 cJ9_max_7cf53 2 2 (some .int) := ⟨cjq_452, cjq_42, by decide +kernel, by decide +kernel, by decide +kernel⟩
theorem cw_J6_bitCount_0f7a4 : cj_cw yJ6_bitCount_0f7a4 cJ6_bitCount_0f7a4 1 1 (some .int) := ⟨cjq_455, cjq_44, by decide +kernel, by decide +kernel, by decide +kernel⟩
theorem cw_X0_drawFeature : cj_cw yX0_drawFeature cX0_drawFeature 4 2 (some .int) := ⟨cjq_430, cjq_33, by decide +kernel, by decide +kernel, by decide +kernel⟩
theorem cw_X6_removeAt : cj_cw yX6_removeAt cX6_removeAt 3 1 none := ⟨cjq_470, cjq_35, by decide +kernel, by decide +kernel, by decide +kernel⟩
theorem cw_X0_tearOut : cj_cw yX0_tearOut cX0_tearOut 3 1 (some .int) := ⟨cjq_466, cjq_33, by decide +kernel, by decide +kernel, by decide +kernel⟩
theorem cw_X0_day : cj_cw yX0_day cX0_day 1 0 (some .int) := ⟨cjq_486, cjq_33, by decide +kernel, by decide +kernel, by decide +kernel⟩
theorem cw_X0_hasVerdict : cj_cw yX0_hasVerdict cX0_hasVerdict 2 1 (some .boolean) := ⟨cjq_482, cjq_33, by decide +kernel, by decide +kernel, by decide +kernel⟩
theorem cw_X6_ofPerson : cj_cw yX6_ofPerson cX6_ofPerson 4 1 (some .int) := ⟨cjq_490, cjq_35, by decide +kernel, by decide +kernel, by decide +kernel⟩
theorem cw_X0_tellVerdict : cj_cw yX0_tellVerdict cX0_tellVerdict 2 1 (some .int) := ⟨cjq_478, cjq_33, by decide +kernel, by decide +kernel, by decide +kernel⟩
theorem cw_X2_has : cj_cw yX2_has cX2_has 2 1 (some .boolean) := ⟨cjq_502, cjq_36, by decide +kernel, by decide +kernel, by decide +kernel⟩
theorem cw_X0_wetFor : cj_cw yX0_wetFor cX0_wetFor 2 1 (some .int) := ⟨cjq_514, cjq_33, by decide +kernel, by decide +kernel, by decide +kernel⟩
theorem cw_X0_isDry : cj_cw yX0_isDry cX0_isDry 2 1 (some .boolean) := ⟨cjq_510, cjq_33, by decide +kernel, by decide +kernel, by decide +kernel⟩
theorem cw_X2_peopleBoughtOn : cj_cw yX2_peopleBoughtOn cX2_peopleBoughtOn 3 2 (some .int) := ⟨cjq_518, cjq_36, by decide +kernel, by decide +kernel, by decide +kernel⟩
theorem cw_X0_canSell : cj_cw yX0_canSell cX0_canSell 3 2 (some .boolean) := ⟨cjq_506, cjq_33, by decide +kernel, by decide +kernel, by decide +kernel⟩
theorem cw_X0_hour : cj_cw yX0_hour cX0_hour 1 0 (some .int) := ⟨cjq_526, cjq_33, by decide +kernel, by decide +kernel, by decide +kernel⟩
theorem cw_X0_priceAt : cj_cw yX0_priceAt cX0_priceAt 4 2 (some .int) := ⟨cjq_522, cjq_33, by decide +kernel, by decide +kernel, by decide +kernel⟩
theorem cw_X2_buy : cj_cw yX2_buy cX2_buy 5 4 none := ⟨cjq_530, cjq_36, by decide +kernel, by decide +kernel, by decide +kernel⟩
theorem cw_X0_sellSheet : cj_cw yX0_sellSheet cX0_sellSheet 6 2 (some .int) := ⟨cjq_498, cjq_33, by decide +kernel, by decide +kernel, by decide +kernel⟩
theorem cw_X3_watch : cj_cw yX3_watch cX3_watch 8 3 none := ⟨cjq_547, cjq_34, by decide +kernel, by decide +kernel, by decide +kernel⟩
theorem cw_X3_turnAll : cj_cw yX3_turnAll cX3_turnAll 3 1 none := ⟨cjq_553, cjq_34, by decide +kernel, by decide +kernel, by decide +kernel⟩
theorem cw_X0_advance : cj_cw yX0_advance cX0_advance 2 1 none := ⟨cjq_543, cjq_33, by decide +kernel, by decide +kernel, by decide +kernel⟩
theorem cw_X0_passMinutes : cj_cw yX0_passMinutes cX0_passMinutes 4 1 (some .int) := ⟨cjq_539, cjq_33, by decide +kernel, by decide +kernel, by decide +kernel⟩
theorem cw_X0_changeSetting : cj_cw yX0_changeSetting cX0_changeSetting 4 2 (some .int) := ⟨cjq_561, cjq_33, by decide +kernel, by decide +kernel, by decide +kernel⟩
theorem cw_X0_perform : cj_cw yX0_perform cX0_perform 4 3 (some .int) := ⟨cjq_702, cjq_33, by decide +kernel, by decide +kernel, by decide +kernel⟩
theorem cw_X0_findBestSale : cj_cw yX0_findBestSale cX0_findBestSale 5 1 (some .boolean) := ⟨cjq_622, cjq_33, by decide +kernel, by decide +kernel, by decide +kernel⟩
theorem cw_X0_tellOfPerson : cj_cw yX0_tellOfPerson cX0_tellOfPerson 3 2 (some .int) := ⟨cjq_569, cjq_33, by decide +kernel, by decide +kernel, by decide +kernel⟩
theorem cw_X0_tellOfSheet : cj_cw yX0_tellOfSheet cX0_tellOfSheet 4 2 (some .int) := ⟨cjq_577, cjq_33, by decide +kernel, by decide +kernel, by decide +kernel⟩
theorem cw_X0_tellOfPaper : cj_cw yX0_tellOfPaper cX0_tellOfPaper 3 2 (some .int) := ⟨cjq_585, cjq_33, by decide +kernel, by decide +kernel, by decide +kernel⟩
theorem cw_X0_tellCount : cj_cw yX0_tellCount cX0_tellCount 2 1 (some .int) := ⟨cjq_642, cjq_33, by decide +kernel, by decide +kernel, by decide +kernel⟩
theorem cw_X1_prepare : cj_cw yX1_prepare cX1_prepare 3 1 none := ⟨cjq_322, cjq_37, by decide +kernel, by decide +kernel, by decide +kernel⟩
theorem cw_X1_settle : cj_cw yX1_settle cX1_settle 2 1 (some .int) := ⟨cjq_367, cjq_37, by decide +kernel, by decide +kernel, by decide +kernel⟩
theorem cw_X1_restore : cj_cw yX1_restore cX1_restore 3 1 (some .int) := ⟨cjq_651, cjq_37, by decide +kernel, by decide +kernel, by decide +kernel⟩
theorem cw_X7_next : cj_cw yX7_next cX7_next 1 0 (some .char) := ⟨cjq_683, cjq_38, by decide +kernel, by decide +kernel, by decide +kernel⟩
theorem cw_X7_isOneNumber : cj_cw yX7_isOneNumber cX7_isOneNumber 1 1 (some .boolean) := ⟨cjq_686, cjq_38, by decide +kernel, by decide +kernel, by decide +kernel⟩
theorem cw_X7_isTwoNumbers : cj_cw yX7_isTwoNumbers cX7_isTwoNumbers 1 1 (some .boolean) := ⟨cjq_689, cjq_38, by decide +kernel, by decide +kernel, by decide +kernel⟩
theorem cw_X7_readNumber : cj_cw yX7_readNumber cX7_readNumber 3 0 (some .int) := ⟨cjq_693, cjq_38, by decide +kernel, by decide +kernel, by decide +kernel⟩
theorem cw_X7_readOrder : cj_cw yX7_readOrder cX7_readOrder 2 1 (some .boolean) := ⟨cjq_679, cjq_38, by decide +kernel, by decide +kernel, by decide +kernel⟩
theorem cw_X4_fail : cj_cw yX4_fail cX4_fail 4 3 none := ⟨cjq_698, cjq_39, by decide +kernel, by decide +kernel, by decide +kernel⟩
theorem cw_X4_run : cj_cw yX4_run cX4_run 5 2 none := ⟨cjq_675, cjq_39, by decide +kernel, by decide +kernel, by decide +kernel⟩
theorem cw_X7_append : cj_cw yX7_append cX7_append 2 1 (some .int) := ⟨cjq_660, cjq_38, by decide +kernel, by decide +kernel, by decide +kernel⟩
theorem cw_X8_person : cj_cw yX8_person cX8_person 3 2 (some .int) := ⟨cjq_318, cjq_32, by decide +kernel, by decide +kernel, by decide +kernel⟩
theorem cw_X8_turn : cj_cw yX8_turn cX8_turn 4 3 (some .int) := ⟨cjq_371, cjq_32, by decide +kernel, by decide +kernel, by decide +kernel⟩
theorem cw_X8_paper : cj_cw yX8_paper cX8_paper 3 2 (some .int) := ⟨cjq_398, cjq_32, by decide +kernel, by decide +kernel, by decide +kernel⟩
theorem cw_X8_look : cj_cw yX8_look cX8_look 2 1 (some .int) := ⟨cjq_406, cjq_32, by decide +kernel, by decide +kernel, by decide +kernel⟩
theorem cw_X8_sheet : cj_cw yX8_sheet cX8_sheet 2 1 (some .int) := ⟨cjq_414, cjq_32, by decide +kernel, by decide +kernel, by decide +kernel⟩
theorem cw_X8_draw : cj_cw yX8_draw cX8_draw 3 2 (some .int) := ⟨cjq_426, cjq_32, by decide +kernel, by decide +kernel, by decide +kernel⟩
theorem cw_X8_tear : cj_cw yX8_tear cX8_tear 2 1 (some .int) := ⟨cjq_462, cjq_32, by decide +kernel, by decide +kernel, by decide +kernel⟩
theorem cw_X8_verdict : cj_cw yX8_verdict cX8_verdict 2 1 (some .int) := ⟨cjq_474, cjq_32, by decide +kernel, by decide +kernel, by decide +kernel⟩
theorem cw_X8_sell : cj_cw yX8_sell cX8_sell 3 2 (some .int) := ⟨cjq_494, cjq_32, by decide +kernel, by decide +kernel, by decide +kernel⟩
theorem cw_X8_pass : cj_cw yX8_pass cX8_pass 2 1 (some .int) := ⟨cjq_535, cjq_32, by decide +kernel, by decide +kernel, by decide +kernel⟩
theorem cw_X8_set : cj_cw yX8_set cX8_set 3 2 (some .int) := ⟨cjq_557, cjq_32, by decide +kernel, by decide +kernel, by decide +kernel⟩
theorem cw_X8_personOf : cj_cw yX8_personOf cX8_personOf 3 2 (some .int) := ⟨cjq_565, cjq_32, by decide +kernel, by decide +kernel, by decide +kernel⟩
theorem cw_X8_sheetOf : cj_cw yX8_sheetOf cX8_sheetOf 3 2 (some .int) := ⟨cjq_573, cjq_32, by decide +kernel, by decide +kernel, by decide +kernel⟩
theorem cw_X8_paperOf : cj_cw yX8_paperOf cX8_paperOf 3 2 (some .int) := ⟨cjq_581, cjq_32, by decide +kernel, by decide +kernel, by decide +kernel⟩
theorem cw_X8_price : cj_cw yX8_price cX8_price 4 2 (some .int) := ⟨cjq_589, cjq_32, by decide +kernel, by decide +kernel, by decide +kernel⟩
theorem cw_X8_number : cj_cw yX8_number cX8_number 2 1 (some .int) := ⟨cjq_597, cjq_32, by decide +kernel, by decide +kernel, by decide +kernel⟩
theorem cw_X8_seenIn : cj_cw yX8_seenIn cX8_seenIn 4 2 (some .int) := ⟨cjq_602, cjq_32, by decide +kernel, by decide +kernel, by decide +kernel⟩
theorem cw_X8_would : cj_cw yX8_would cX8_would 3 2 (some .int) := ⟨cjq_610, cjq_32, by decide +kernel, by decide +kernel, by decide +kernel⟩
theorem cw_X8_best : cj_cw yX8_best cX8_best 2 1 (some .int) := ⟨cjq_618, cjq_32, by decide +kernel, by decide +kernel, by decide +kernel⟩
theorem cw_X8_sellAll : cj_cw yX8_sellAll cX8_sellAll 3 0 (some .int) := ⟨cjq_626, cjq_32, by decide +kernel, by decide +kernel, by decide +kernel⟩
theorem cw_X8_bitsOf : cj_cw yX8_bitsOf cX8_bitsOf 4 1 (some .int) := ⟨cjq_633, cjq_32, by decide +kernel, by decide +kernel, by decide +kernel⟩
theorem cw_X8_mean : cj_cw yX8_mean cX8_mean 1 0 (some .int) := ⟨cjq_630, cjq_32, by decide +kernel, by decide +kernel, by decide +kernel⟩
theorem cw_X8_count : cj_cw yX8_count cX8_count 2 1 (some .int) := ⟨cjq_638, cjq_32, by decide +kernel, by decide +kernel, by decide +kernel⟩
theorem cw_X8_undo : cj_cw yX8_undo cX8_undo 1 0 (some .int) := ⟨cjq_647, cjq_32, by decide +kernel, by decide +kernel, by decide +kernel⟩
theorem cw_X8_type : cj_cw yX8_type cX8_type 2 1 (some .int) := ⟨cjq_656, cjq_32, by decide +kernel, by decide +kernel, by decide +kernel⟩
theorem cw_X8_clearText : cj_cw yX8_clearText cX8_clearText 2 0 (some .int) := ⟨cjq_667, cjq_32, by decide +kernel, by decide +kernel, by decide +kernel⟩
theorem cw_X8_fault : cj_cw yX8_fault cX8_fault 2 1 (some .int) := ⟨cjq_671, cjq_32, by decide +kernel, by decide +kernel, by decide +kernel⟩
theorem cw_X8_play : cj_cw yX8_play cX8_play 1 0 (some .int) := ⟨cjq_712, cjq_32, by decide +kernel, by decide +kernel, by decide +kernel⟩
theorem cw_X9_in : cj_cw yX9_in cX9_in 3 3 (some .boolean) := ⟨cjq_772, cjq_41, by decide +kernel, by decide +kernel, by decide +kernel⟩
theorem cw_X9_copies : cj_cw yX9_copies cX9_copies 3 2 none := ⟨cjq_946, cjq_41, by decide +kernel, by decide +kernel, by decide +kernel⟩
theorem cw_X9_changes : cj_cw yX9_changes cX9_changes 2 0 none := ⟨cjq_783, cjq_41, by decide +kernel, by decide +kernel, by decide +kernel⟩
theorem cw_X9_ones : cj_cw yX9_ones cX9_ones 3 1 (some .int) := ⟨cjq_843, cjq_41, by decide +kernel, by decide +kernel, by decide +kernel⟩
theorem cw_X9_isPerson : cj_cw yX9_isPerson cX9_isPerson 2 1 (some .boolean) := ⟨cjq_795, cjq_41, by decide +kernel, by decide +kernel, by decide +kernel⟩
theorem cw_X9_isPaper : cj_cw yX9_isPaper cX9_isPaper 2 1 (some .boolean) := ⟨cjq_875, cjq_41, by decide +kernel, by decide +kernel, by decide +kernel⟩
theorem cw_X9_of : cj_cw yX9_of cX9_of 3 2 (some .int) := ⟨cjq_777, cjq_41, by decide +kernel, by decide +kernel, by decide +kernel⟩
theorem cw_X9_sets : cj_cw yX9_sets cX9_sets 4 3 none := ⟨cjq_787, cjq_41, by decide +kernel, by decide +kernel, by decide +kernel⟩
theorem cw_X9_ofSheet : cj_cw yX9_ofSheet cX9_ofSheet 3 2 (some .int) := ⟨cjq_831, cjq_41, by decide +kernel, by decide +kernel, by decide +kernel⟩
theorem cw_X9_ofPaper : cj_cw yX9_ofPaper cX9_ofPaper 3 2 (some .int) := ⟨cjq_891, cjq_41, by decide +kernel, by decide +kernel, by decide +kernel⟩
theorem cw_X9_day : cj_cw yX9_day cX9_day 1 0 (some .int) := ⟨cjq_863, cjq_41, by decide +kernel, by decide +kernel, by decide +kernel⟩
theorem cw_X9_isHidden : cj_cw yX9_isHidden cX9_isHidden 4 1 (some .boolean) := ⟨cjq_807, cjq_41, by decide +kernel, by decide +kernel, by decide +kernel⟩
theorem cw_X9_seenAt : cj_cw yX9_seenAt cX9_seenAt 6 2 (some .int) := ⟨cjq_803, cjq_41, by decide +kernel, by decide +kernel, by decide +kernel⟩
theorem cw_X9_seen : cj_cw yX9_seen cX9_seen 2 1 (some .int) := ⟨cjq_799, cjq_41, by decide +kernel, by decide +kernel, by decide +kernel⟩
theorem cw_X9_remembered : cj_cw yX9_remembered cX9_remembered 5 1 (some .int) := ⟨cjq_840, cjq_41, by decide +kernel, by decide +kernel, by decide +kernel⟩
theorem cw_X9_person : cj_cw yX9_person cX9_person 5 2 (some .int) := ⟨cjq_769, cjq_41, by decide +kernel, by decide +kernel, by decide +kernel⟩
theorem cw_X9_turn : cj_cw yX9_turn cX9_turn 4 3 (some .int) := ⟨cjq_791, cjq_41, by decide +kernel, by decide +kernel, by decide +kernel⟩
theorem cw_X9_paper : cj_cw yX9_paper cX9_paper 4 2 (some .int) := ⟨cjq_811, cjq_41, by decide +kernel, by decide +kernel, by decide +kernel⟩
theorem cw_X9_look : cj_cw yX9_look cX9_look 2 1 (some .int) := ⟨cjq_815, cjq_41, by decide +kernel, by decide +kernel, by decide +kernel⟩
theorem cw_X9_slot : cj_cw yX9_slot cX9_slot 3 1 (some .int) := ⟨cjq_827, cjq_41, by decide +kernel, by decide +kernel, by decide +kernel⟩
theorem cw_X9_sheet : cj_cw yX9_sheet cX9_sheet 3 1 (some .int) := ⟨cjq_819, cjq_41, by decide +kernel, by decide +kernel, by decide +kernel⟩
theorem cw_X9_drawable : cj_cw yX9_drawable cX9_drawable 2 1 (some .int) := ⟨cjq_836, cjq_41, by decide +kernel, by decide +kernel, by decide +kernel⟩
theorem cw_X9_draw : cj_cw yX9_draw cX9_draw 5 2 (some .int) := ⟨cjq_823, cjq_41, by decide +kernel, by decide +kernel, by decide +kernel⟩
theorem cw_X9_takesOut : cj_cw yX9_takesOut cX9_takesOut 3 1 none := ⟨cjq_851, cjq_41, by decide +kernel, by decide +kernel, by decide +kernel⟩
theorem cw_X9_tear : cj_cw yX9_tear cX9_tear 3 1 (some .int) := ⟨cjq_847, cjq_41, by decide +kernel, by decide +kernel, by decide +kernel⟩
theorem cw_X9_sheetsOf : cj_cw yX9_sheetsOf cX9_sheetsOf 4 1 (some .int) := ⟨cjq_867, cjq_41, by decide +kernel, by decide +kernel, by decide +kernel⟩
theorem cw_X9_hasVerdict : cj_cw yX9_hasVerdict cX9_hasVerdict 2 1 (some .boolean) := ⟨cjq_859, cjq_41, by decide +kernel, by decide +kernel, by decide +kernel⟩
theorem cw_X9_verdict : cj_cw yX9_verdict cX9_verdict 2 1 (some .int) := ⟨cjq_855, cjq_41, by decide +kernel, by decide +kernel, by decide +kernel⟩
theorem cw_X9_isDry : cj_cw yX9_isDry cX9_isDry 2 1 (some .boolean) := ⟨cjq_883, cjq_41, by decide +kernel, by decide +kernel, by decide +kernel⟩
theorem cw_X9_boughtOf : cj_cw yX9_boughtOf cX9_boughtOf 2 1 (some .int) := ⟨cjq_887, cjq_41, by decide +kernel, by decide +kernel, by decide +kernel⟩
theorem cw_X9_canSell : cj_cw yX9_canSell cX9_canSell 3 2 (some .boolean) := ⟨cjq_879, cjq_41, by decide +kernel, by decide +kernel, by decide +kernel⟩
theorem cw_X9_priceOf : cj_cw yX9_priceOf cX9_priceOf 4 2 (some .int) := ⟨cjq_899, cjq_41, by decide +kernel, by decide +kernel, by decide +kernel⟩
theorem cw_X9_sells : cj_cw yX9_sells cX9_sells 5 2 (some .int) := ⟨cjq_895, cjq_41, by decide +kernel, by decide +kernel, by decide +kernel⟩
theorem cw_X9_sell : cj_cw yX9_sell cX9_sell 4 2 (some .int) := ⟨cjq_871, cjq_41, by decide +kernel, by decide +kernel, by decide +kernel⟩
theorem cw_X9_sees : cj_cw yX9_sees cX9_sees 3 1 none := ⟨cjq_911, cjq_41, by decide +kernel, by decide +kernel, by decide +kernel⟩
theorem cw_X9_minute : cj_cw yX9_minute cX9_minute 2 0 none := ⟨cjq_907, cjq_41, by decide +kernel, by decide +kernel, by decide +kernel⟩
theorem cw_X9_pass : cj_cw yX9_pass cX9_pass 4 1 (some .int) := ⟨cjq_903, cjq_41, by decide +kernel, by decide +kernel, by decide +kernel⟩
theorem cw_X9_set : cj_cw yX9_set cX9_set 4 2 (some .int) := ⟨cjq_915, cjq_41, by decide +kernel, by decide +kernel, by decide +kernel⟩
theorem cw_X9_personOf : cj_cw yX9_personOf cX9_personOf 3 2 (some .int) := ⟨cjq_919, cjq_41, by decide +kernel, by decide +kernel, by decide +kernel⟩
theorem cw_X9_sheetOf : cj_cw yX9_sheetOf cX9_sheetOf 4 2 (some .int) := ⟨cjq_923, cjq_41, by decide +kernel, by decide +kernel, by decide +kernel⟩
theorem cw_X9_paperOf : cj_cw yX9_paperOf cX9_paperOf 3 2 (some .int) := ⟨cjq_927, cjq_41, by decide +kernel, by decide +kernel, by decide +kernel⟩
theorem cw_X9_price : cj_cw yX9_price cX9_price 4 2 (some .int) := ⟨cjq_931, cjq_41, by decide +kernel, by decide +kernel, by decide +kernel⟩
theorem cw_X9_number : cj_cw yX9_number cX9_number 2 1 (some .int) := ⟨cjq_935, cjq_41, by decide +kernel, by decide +kernel, by decide +kernel⟩
theorem cw_X9_seenIn : cj_cw yX9_seenIn cX9_seenIn 5 2 (some .int) := ⟨cjq_939, cjq_41, by decide +kernel, by decide +kernel, by decide +kernel⟩
theorem cw_X9_would : cj_cw yX9_would cX9_would 4 2 (some .int) := ⟨cjq_943, cjq_41, by decide +kernel, by decide +kernel, by decide +kernel⟩
theorem cw_X9_bestSale : cj_cw yX9_bestSale cX9_bestSale 6 0 (some .int) := ⟨cjq_954, cjq_41, by decide +kernel, by decide +kernel, by decide +kernel⟩
theorem cw_X9_best : cj_cw yX9_best cX9_best 3 1 (some .int) := ⟨cjq_950, cjq_41, by decide +kernel, by decide +kernel, by decide +kernel⟩
theorem cw_X9_sellAll : cj_cw yX9_sellAll cX9_sellAll 3 0 (some .int) := ⟨cjq_958, cjq_41, by decide +kernel, by decide +kernel, by decide +kernel⟩
theorem cw_Jxf58ca_isNaN_12338 : cj_cw yJxf58ca_isNaN_12338 cJxf58ca_isNaN_12338 1 1 (some .boolean) := ⟨cjq_968, cjq_45, by decide +kernel, by decide +kernel, by decide +kernel⟩
theorem cw_Jxf58ca_floatToIntBits_5c35a : cj_cw yJxf58ca_floatToIntBits_5c35a cJxf58ca_floatToIntBits_5c35a 1 1 (some .int) := ⟨cjq_965, cjq_45, by decide +kernel, by decide +kernel, by decide +kernel⟩
theorem cw_X9_mean : cj_cw yX9_mean cX9_mean 2 0 (some .int) := ⟨cjq_962, cjq_41, by decide +kernel, by decide +kernel, by decide +kernel⟩
theorem cw_X9_count : cj_cw yX9_count cX9_count 2 1 (some .int) := ⟨cjq_976, cjq_41, by decide +kernel, by decide +kernel, by decide +kernel⟩
theorem cw_X9_undo : cj_cw yX9_undo cX9_undo 2 0 (some .int) := ⟨cjq_980, cjq_41, by decide +kernel, by decide +kernel, by decide +kernel⟩
theorem cw_X9_type : cj_cw yX9_type cX9_type 2 1 (some .int) := ⟨cjq_984, cjq_41, by decide +kernel, by decide +kernel, by decide +kernel⟩
theorem cw_X9_clearText : cj_cw yX9_clearText cX9_clearText 2 0 (some .int) := ⟨cjq_988, cjq_41, by decide +kernel, by decide +kernel, by decide +kernel⟩
theorem cw_X9_isAt : cj_cw yX9_isAt cX9_isAt 3 2 (some .boolean) := ⟨cjq_1004, cjq_41, by decide +kernel, by decide +kernel, by decide +kernel⟩
theorem cw_X9_sign : cj_cw yX9_sign cX9_sign 3 1 (some .boolean) := ⟨cjq_1015, cjq_41, by decide +kernel, by decide +kernel, by decide +kernel⟩
theorem cw_X9_numbered : cj_cw yX9_numbered cX9_numbered 3 1 (some .boolean) := ⟨cjq_1011, cjq_41, by decide +kernel, by decide +kernel, by decide +kernel⟩
theorem cw_X9_numbersOf : cj_cw yX9_numbersOf cX9_numbersOf 1 1 (some .int) := ⟨cjq_1007, cjq_41, by decide +kernel, by decide +kernel, by decide +kernel⟩
theorem cw_X9_reads : cj_cw yX9_reads cX9_reads 3 0 (some .boolean) := ⟨cjq_1000, cjq_41, by decide +kernel, by decide +kernel, by decide +kernel⟩
theorem cw_X9_calls : cj_cw yX9_calls cX9_calls 1 0 (some .int) := ⟨cjq_1019, cjq_41, by decide +kernel, by decide +kernel, by decide +kernel⟩
theorem cw_X9_plays : cj_cw yX9_plays cX9_plays 4 0 (some .boolean) := ⟨cjq_996, cjq_41, by decide +kernel, by decide +kernel, by decide +kernel⟩
theorem cw_X9_fault : cj_cw yX9_fault cX9_fault 3 1 (some .int) := ⟨cjq_992, cjq_41, by decide +kernel, by decide +kernel, by decide +kernel⟩
theorem cw_X9_play : cj_cw yX9_play cX9_play 2 0 (some .int) := ⟨cjq_1029, cjq_41, by decide +kernel, by decide +kernel, by decide +kernel⟩
theorem cw_X8_copyRow : cj_cw yX8_copyRow cX8_copyRow 2 2 none := ⟨cjq_333, cjq_32, by decide +kernel, by decide +kernel, by decide +kernel⟩
