section
/-- a private method of a class that the tables say can be made, by its rows of tables_1 -/
def lw_okq (q : MethodName × Nat) : Prop := (q.1.cls ≠ "java/lang/invoke/MethodHandle" ∧ q.1.cls ≠ "java/lang/invoke/VarHandle") ∧ Cond.instantiable q.1.cls q.2 ∈ tables_1 ∧ Cond.privateMethod q.1 ∈ tables_1 ∧ Cond.instanceMethod q.1 ∈ tables_1
theorem lw_p0 : lw_okq (⟨"CourtJotterModel", "of", "(II)I"⟩, 15) := ⟨⟨by decide +kernel, by decide +kernel⟩, List.mem_of_getElem? (i := 684) (by decide +kernel), List.mem_of_getElem? (i := 744) (by decide +kernel), List.mem_of_getElem? (i := 745) (by decide +kernel)⟩
theorem lw_p1 : lw_okq (⟨"CourtJotterModel", "changes", "()V"⟩, 15) := ⟨⟨by decide +kernel, by decide +kernel⟩, List.mem_of_getElem? (i := 684) (by decide +kernel), List.mem_of_getElem? (i := 750) (by decide +kernel), List.mem_of_getElem? (i := 751) (by decide +kernel)⟩
theorem lw_p2 : lw_okq (⟨"CourtJotterModel", "sets", "(III)V"⟩, 15) := ⟨⟨by decide +kernel, by decide +kernel⟩, List.mem_of_getElem? (i := 684) (by decide +kernel), List.mem_of_getElem? (i := 754) (by decide +kernel), List.mem_of_getElem? (i := 755) (by decide +kernel)⟩
theorem lw_p3 : lw_okq (⟨"CourtJotterModel", "isPerson", "(I)Z"⟩, 15) := ⟨⟨by decide +kernel, by decide +kernel⟩, List.mem_of_getElem? (i := 684) (by decide +kernel), List.mem_of_getElem? (i := 762) (by decide +kernel), List.mem_of_getElem? (i := 763) (by decide +kernel)⟩
theorem lw_p4 : lw_okq (⟨"CourtJotterModel", "seen", "(I)I"⟩, 15) := ⟨⟨by decide +kernel, by decide +kernel⟩, List.mem_of_getElem? (i := 684) (by decide +kernel), List.mem_of_getElem? (i := 766) (by decide +kernel), List.mem_of_getElem? (i := 767) (by decide +kernel)⟩
theorem lw_p5 : lw_okq (⟨"CourtJotterModel", "seenAt", "(II)I"⟩, 15) := ⟨⟨by decide +kernel, by decide +kernel⟩, List.mem_of_getElem? (i := 684) (by decide +kernel), List.mem_of_getElem? (i := 770) (by decide +kernel), List.mem_of_getElem? (i := 771) (by decide +kernel)⟩
theorem lw_p6 : lw_okq (⟨"CourtJotterModel", "isHidden", "(I)Z"⟩, 15) := ⟨⟨by decide +kernel, by decide +kernel⟩, List.mem_of_getElem? (i := 684) (by decide +kernel), List.mem_of_getElem? (i := 774) (by decide +kernel), List.mem_of_getElem? (i := 775) (by decide +kernel)⟩
theorem lw_p7 : lw_okq (⟨"CourtJotterModel", "slot", "(I)I"⟩, 15) := ⟨⟨by decide +kernel, by decide +kernel⟩, List.mem_of_getElem? (i := 684) (by decide +kernel), List.mem_of_getElem? (i := 794) (by decide +kernel), List.mem_of_getElem? (i := 795) (by decide +kernel)⟩
theorem lw_p8 : lw_okq (⟨"CourtJotterModel", "ofSheet", "(II)I"⟩, 15) := ⟨⟨by decide +kernel, by decide +kernel⟩, List.mem_of_getElem? (i := 684) (by decide +kernel), List.mem_of_getElem? (i := 798) (by decide +kernel), List.mem_of_getElem? (i := 799) (by decide +kernel)⟩
theorem lw_p9 : lw_okq (⟨"CourtJotterModel", "drawable", "(I)I"⟩, 15) := ⟨⟨by decide +kernel, by decide +kernel⟩, List.mem_of_getElem? (i := 684) (by decide +kernel), List.mem_of_getElem? (i := 803) (by decide +kernel), List.mem_of_getElem? (i := 804) (by decide +kernel)⟩
theorem lw_p10 : lw_okq (⟨"CourtJotterModel", "remembered", "(I)I"⟩, 15) := ⟨⟨by decide +kernel, by decide +kernel⟩, List.mem_of_getElem? (i := 684) (by decide +kernel), List.mem_of_getElem? (i := 807) (by decide +kernel), List.mem_of_getElem? (i := 808) (by decide +kernel)⟩
theorem lw_p11 : lw_okq (⟨"CourtJotterModel", "takesOut", "(I)V"⟩, 15) := ⟨⟨by decide +kernel, by decide +kernel⟩, List.mem_of_getElem? (i := 684) (by decide +kernel), List.mem_of_getElem? (i := 818) (by decide +kernel), List.mem_of_getElem? (i := 819) (by decide +kernel)⟩
theorem lw_p12 : lw_okq (⟨"CourtJotterModel", "hasVerdict", "(I)Z"⟩, 15) := ⟨⟨by decide +kernel, by decide +kernel⟩, List.mem_of_getElem? (i := 684) (by decide +kernel), List.mem_of_getElem? (i := 826) (by decide +kernel), List.mem_of_getElem? (i := 827) (by decide +kernel)⟩
theorem lw_p13 : lw_okq (⟨"CourtJotterModel", "day", "()I"⟩, 15) := ⟨⟨by decide +kernel, by decide +kernel⟩, List.mem_of_getElem? (i := 684) (by decide +kernel), List.mem_of_getElem? (i := 830) (by decide +kernel), List.mem_of_getElem? (i := 831) (by decide +kernel)⟩
theorem lw_p14 : lw_okq (⟨"CourtJotterModel", "sheetsOf", "(I)I"⟩, 15) := ⟨⟨by decide +kernel, by decide +kernel⟩, List.mem_of_getElem? (i := 684) (by decide +kernel), List.mem_of_getElem? (i := 834) (by decide +kernel), List.mem_of_getElem? (i := 835) (by decide +kernel)⟩
theorem lw_p15 : lw_okq (⟨"CourtJotterModel", "isPaper", "(I)Z"⟩, 15) := ⟨⟨by decide +kernel, by decide +kernel⟩, List.mem_of_getElem? (i := 684) (by decide +kernel), List.mem_of_getElem? (i := 842) (by decide +kernel), List.mem_of_getElem? (i := 843) (by decide +kernel)⟩
def lw_privs_1 : List (MethodName × Nat) := [(⟨"CourtJotterModel", "of", "(II)I"⟩, 15), (⟨"CourtJotterModel", "changes", "()V"⟩, 15), (⟨"CourtJotterModel", "sets", "(III)V"⟩, 15), (⟨"CourtJotterModel", "isPerson", "(I)Z"⟩, 15), (⟨"CourtJotterModel", "seen", "(I)I"⟩, 15), (⟨"CourtJotterModel", "seenAt", "(II)I"⟩, 15), (⟨"CourtJotterModel", "isHidden", "(I)Z"⟩, 15), (⟨"CourtJotterModel", "slot", "(I)I"⟩, 15), (⟨"CourtJotterModel", "ofSheet", "(II)I"⟩, 15), (⟨"CourtJotterModel", "drawable", "(I)I"⟩, 15), (⟨"CourtJotterModel", "remembered", "(I)I"⟩, 15), (⟨"CourtJotterModel", "takesOut", "(I)V"⟩, 15), (⟨"CourtJotterModel", "hasVerdict", "(I)Z"⟩, 15), (⟨"CourtJotterModel", "day", "()I"⟩, 15), (⟨"CourtJotterModel", "sheetsOf", "(I)I"⟩, 15), (⟨"CourtJotterModel", "isPaper", "(I)Z"⟩, 15)]
theorem lw_r1 : ∀ q ∈ lw_privs_1, lw_okq q := List.forall_mem_cons.mpr ⟨lw_p0, List.forall_mem_cons.mpr ⟨lw_p1, List.forall_mem_cons.mpr ⟨lw_p2, List.forall_mem_cons.mpr ⟨lw_p3, List.forall_mem_cons.mpr ⟨lw_p4, List.forall_mem_cons.mpr ⟨lw_p5, List.forall_mem_cons.mpr ⟨lw_p6, List.forall_mem_cons.mpr ⟨lw_p7, List.forall_mem_cons.mpr ⟨lw_p8, List.forall_mem_cons.mpr ⟨lw_p9, List.forall_mem_cons.mpr ⟨lw_p10, List.forall_mem_cons.mpr ⟨lw_p11, List.forall_mem_cons.mpr ⟨lw_p12, List.forall_mem_cons.mpr ⟨lw_p13, List.forall_mem_cons.mpr ⟨lw_p14, List.forall_mem_cons.mpr ⟨lw_p15, fun _ h => absurd h List.not_mem_nil⟩⟩⟩⟩⟩⟩⟩⟩⟩⟩⟩⟩⟩⟩⟩⟩
theorem lw_p16 : lw_okq (⟨"CourtJotterModel", "canSell", "(II)Z"⟩, 15) := ⟨⟨by decide +kernel, by decide +kernel⟩, List.mem_of_getElem? (i := 684) (by decide +kernel), List.mem_of_getElem? (i := 846) (by decide +kernel), List.mem_of_getElem? (i := 847) (by decide +kernel)⟩
theorem lw_p17 : lw_okq (⟨"CourtJotterModel", "isDry", "(I)Z"⟩, 15) := ⟨⟨by decide +kernel, by decide +kernel⟩, List.mem_of_getElem? (i := 684) (by decide +kernel), List.mem_of_getElem? (i := 850) (by decide +kernel), List.mem_of_getElem? (i := 851) (by decide +kernel)⟩
theorem lw_p18 : lw_okq (⟨"CourtJotterModel", "boughtOf", "(I)I"⟩, 15) := ⟨⟨by decide +kernel, by decide +kernel⟩, List.mem_of_getElem? (i := 684) (by decide +kernel), List.mem_of_getElem? (i := 854) (by decide +kernel), List.mem_of_getElem? (i := 855) (by decide +kernel)⟩
theorem lw_p19 : lw_okq (⟨"CourtJotterModel", "ofPaper", "(II)I"⟩, 15) := ⟨⟨by decide +kernel, by decide +kernel⟩, List.mem_of_getElem? (i := 684) (by decide +kernel), List.mem_of_getElem? (i := 858) (by decide +kernel), List.mem_of_getElem? (i := 859) (by decide +kernel)⟩
theorem lw_p20 : lw_okq (⟨"CourtJotterModel", "sells", "(II)I"⟩, 15) := ⟨⟨by decide +kernel, by decide +kernel⟩, List.mem_of_getElem? (i := 684) (by decide +kernel), List.mem_of_getElem? (i := 862) (by decide +kernel), List.mem_of_getElem? (i := 863) (by decide +kernel)⟩
theorem lw_p21 : lw_okq (⟨"CourtJotterModel", "priceOf", "(II)I"⟩, 15) := ⟨⟨by decide +kernel, by decide +kernel⟩, List.mem_of_getElem? (i := 684) (by decide +kernel), List.mem_of_getElem? (i := 866) (by decide +kernel), List.mem_of_getElem? (i := 867) (by decide +kernel)⟩
theorem lw_p22 : lw_okq (⟨"CourtJotterModel", "minute", "()V"⟩, 15) := ⟨⟨by decide +kernel, by decide +kernel⟩, List.mem_of_getElem? (i := 684) (by decide +kernel), List.mem_of_getElem? (i := 874) (by decide +kernel), List.mem_of_getElem? (i := 875) (by decide +kernel)⟩
theorem lw_p23 : lw_okq (⟨"CourtJotterModel", "sees", "(I)V"⟩, 15) := ⟨⟨by decide +kernel, by decide +kernel⟩, List.mem_of_getElem? (i := 684) (by decide +kernel), List.mem_of_getElem? (i := 878) (by decide +kernel), List.mem_of_getElem? (i := 879) (by decide +kernel)⟩
theorem lw_p24 : lw_okq (⟨"CourtJotterModel", "bestSale", "()I"⟩, 15) := ⟨⟨by decide +kernel, by decide +kernel⟩, List.mem_of_getElem? (i := 684) (by decide +kernel), List.mem_of_getElem? (i := 921) (by decide +kernel), List.mem_of_getElem? (i := 922) (by decide +kernel)⟩
theorem lw_p25 : lw_okq (⟨"CourtJotterModel", "plays", "()Z"⟩, 15) := ⟨⟨by decide +kernel, by decide +kernel⟩, List.mem_of_getElem? (i := 684) (by decide +kernel), List.mem_of_getElem? (i := 963) (by decide +kernel), List.mem_of_getElem? (i := 964) (by decide +kernel)⟩
theorem lw_p26 : lw_okq (⟨"CourtJotterModel", "reads", "()Z"⟩, 15) := ⟨⟨by decide +kernel, by decide +kernel⟩, List.mem_of_getElem? (i := 684) (by decide +kernel), List.mem_of_getElem? (i := 967) (by decide +kernel), List.mem_of_getElem? (i := 968) (by decide +kernel)⟩
theorem lw_p27 : lw_okq (⟨"CourtJotterModel", "isAt", "(II)Z"⟩, 15) := ⟨⟨by decide +kernel, by decide +kernel⟩, List.mem_of_getElem? (i := 684) (by decide +kernel), List.mem_of_getElem? (i := 971) (by decide +kernel), List.mem_of_getElem? (i := 972) (by decide +kernel)⟩
theorem lw_p28 : lw_okq (⟨"CourtJotterModel", "numbered", "(I)Z"⟩, 15) := ⟨⟨by decide +kernel, by decide +kernel⟩, List.mem_of_getElem? (i := 684) (by decide +kernel), List.mem_of_getElem? (i := 978) (by decide +kernel), List.mem_of_getElem? (i := 979) (by decide +kernel)⟩
theorem lw_p29 : lw_okq (⟨"CourtJotterModel", "sign", "(I)Z"⟩, 15) := ⟨⟨by decide +kernel, by decide +kernel⟩, List.mem_of_getElem? (i := 684) (by decide +kernel), List.mem_of_getElem? (i := 982) (by decide +kernel), List.mem_of_getElem? (i := 983) (by decide +kernel)⟩
theorem lw_p30 : lw_okq (⟨"CourtJotterModel", "calls", "()I"⟩, 15) := ⟨⟨by decide +kernel, by decide +kernel⟩, List.mem_of_getElem? (i := 684) (by decide +kernel), List.mem_of_getElem? (i := 986) (by decide +kernel), List.mem_of_getElem? (i := 987) (by decide +kernel)⟩
def lw_privs_2 : List (MethodName × Nat) := [(⟨"CourtJotterModel", "canSell", "(II)Z"⟩, 15), (⟨"CourtJotterModel", "isDry", "(I)Z"⟩, 15), (⟨"CourtJotterModel", "boughtOf", "(I)I"⟩, 15), (⟨"CourtJotterModel", "ofPaper", "(II)I"⟩, 15), (⟨"CourtJotterModel", "sells", "(II)I"⟩, 15), (⟨"CourtJotterModel", "priceOf", "(II)I"⟩, 15), (⟨"CourtJotterModel", "minute", "()V"⟩, 15), (⟨"CourtJotterModel", "sees", "(I)V"⟩, 15), (⟨"CourtJotterModel", "bestSale", "()I"⟩, 15), (⟨"CourtJotterModel", "plays", "()Z"⟩, 15), (⟨"CourtJotterModel", "reads", "()Z"⟩, 15), (⟨"CourtJotterModel", "isAt", "(II)Z"⟩, 15), (⟨"CourtJotterModel", "numbered", "(I)Z"⟩, 15), (⟨"CourtJotterModel", "sign", "(I)Z"⟩, 15), (⟨"CourtJotterModel", "calls", "()I"⟩, 15)]
theorem lw_r2 : ∀ q ∈ lw_privs_2, lw_okq q := List.forall_mem_cons.mpr ⟨lw_p16, List.forall_mem_cons.mpr ⟨lw_p17, List.forall_mem_cons.mpr ⟨lw_p18, List.forall_mem_cons.mpr ⟨lw_p19, List.forall_mem_cons.mpr ⟨lw_p20, List.forall_mem_cons.mpr ⟨lw_p21, List.forall_mem_cons.mpr ⟨lw_p22, List.forall_mem_cons.mpr ⟨lw_p23, List.forall_mem_cons.mpr ⟨lw_p24, List.forall_mem_cons.mpr ⟨lw_p25, List.forall_mem_cons.mpr ⟨lw_p26, List.forall_mem_cons.mpr ⟨lw_p27, List.forall_mem_cons.mpr ⟨lw_p28, List.forall_mem_cons.mpr ⟨lw_p29, List.forall_mem_cons.mpr ⟨lw_p30, fun _ h => absurd h List.not_mem_nil⟩⟩⟩⟩⟩⟩⟩⟩⟩⟩⟩⟩⟩⟩⟩
def lw_privs : List (MethodName × Nat) := lw_privs_1 ++ (lw_privs_2)
def lw_tbl : List Cond := k2_sels lw_privs ++ tables_1
theorem lw_privs_ok : ∀ q ∈ lw_privs, lw_okq q := by
  show ∀ q ∈ lw_privs_1 ++ (lw_privs_2), lw_okq q
  exact List.forall_mem_append.mpr ⟨lw_r1, lw_r2⟩
/-- the streams that the claim lets the run draw from -/
abbrev lw_cs : List Choice := [Jvm.Choice.named "NaN.bits"]
theorem lw_bits : nanBits ∈ lw_cs := by first | decide | exact List.mem_cons_self | simp [lw_cs, nanBits]
end
section
theorem goodIn_r {big : List Cond} (ws : List Cond) (ps : List Nat) (hp : ws = ps.filterMap (fun i => big[i]?)) (h : ws.all goodWord = true) : GoodIn big ws := by
  intro w hw
  have h1 := List.all_eq_true.mp h w hw
  rw [hp] at hw
  obtain ⟨i, -, hi⟩ := List.mem_filterMap.mp hw
  have hm : w ∈ big := by first | exact List.mem_of_getElem? hi | exact List.getElem?_mem hi
  exact ⟨hm, good_of_word h1⟩
theorem goodIn_app {big a b : List Cond} (ha : GoodIn big a) (hb : GoodIn big b) : GoodIn big (a ++ b) := fun w h => (List.mem_append.mp h).elim (ha w) (hb w)
theorem goodIn_ca {big a b : List Cond} {c : Cond} (ha : GoodIn big (c :: a)) (hb : GoodIn big b) : GoodIn big (c :: (a ++ b)) := fun w h => (List.mem_cons.mp h).elim (fun e => ha w (List.mem_cons.mpr (Or.inl e))) (fun h => (List.mem_append.mp h).elim (fun h => ha w (List.mem_cons.mpr (Or.inr h))) (hb w))
theorem goodIn_sub {big ws : List Cond} (hm : ∀ w ∈ ws, w ∈ big) (h : ws.all goodWord = true) : GoodIn big ws := fun w hw => ⟨hm w hw, good_of_word (List.all_eq_true.mp h w hw)⟩
def RX0 : String := "CourtJotter$Court"
def TX0 : u_T := fun k => match k with
  | 0 => ("CourtJotter$Court", "people", "LCourtJotter$People;", true)
  | 1 => ("CourtJotter$Court", "sheets", "LCourtJotter$Sheets;", true)
  | 2 => ("CourtJotter$Court", "papers", "LCourtJotter$Papers;", true)
  | 3 => ("CourtJotter$Court", "memory", "I", false)
  | 4 => ("CourtJotter$Court", "drying", "I", false)
  | 5 => ("CourtJotter$Court", "minute", "I", false)
  | 6 => ("CourtJotter$Court", "lookedAt", "I", false)
  | 7 => ("CourtJotter$Court", "drawnThisMinute", "I", false)
  | 8 => ("CourtJotter$Court", "sold", "I", false)
  | _ => ("CourtJotter$Court", "paid", "I", false)
def tyX0 : Nat → FieldType := fun k => match k with
  | 0 => .object "CourtJotter$People"
  | 1 => .object "CourtJotter$Sheets"
  | 2 => .object "CourtJotter$Papers"
  | 3 => .int
  | 4 => .int
  | 5 => .int
  | 6 => .int
  | 7 => .int
  | 8 => .int
  | _ => .int
abbrev wsX00 : List Cond := u_ws RX0 TX0 10
theorem nmX0 : ∀ a, a < 10 → ∀ b, b < 10 → a ≠ b → (TX0 a).2.1 ≠ (TX0 b).2.1 := by decide +kernel
theorem tyX0_ok : ∀ k, k < 10 → parseFieldDescriptor (TX0 k).2.2.1 = some (tyX0 k) := by decide +kernel
abbrev cX0_init : ByteArray := prog_2_method_1_code
def yX0_init : MethodName := ⟨RX0, "<init>", "()V"⟩
abbrev cX0_copyFrom : ByteArray := prog_2_method_2_code
def yX0_copyFrom : MethodName := ⟨RX0, "copyFrom", "(LCourtJotter$Court;)V"⟩
abbrev cX0_addPerson : ByteArray := prog_2_method_3_code
def yX0_addPerson : MethodName := ⟨RX0, "addPerson", "(II)I"⟩
abbrev cX0_turnPerson : ByteArray := prog_2_method_4_code
def yX0_turnPerson : MethodName := ⟨RX0, "turnPerson", "(III)I"⟩
abbrev cX0_addPaper : ByteArray := prog_2_method_5_code
def yX0_addPaper : MethodName := ⟨RX0, "addPaper", "(II)I"⟩
abbrev cX0_lookAt : ByteArray := prog_2_method_6_code
def yX0_lookAt : MethodName := ⟨RX0, "lookAt", "(I)I"⟩
abbrev cX0_beginSheet : ByteArray := prog_2_method_7_code
def yX0_beginSheet : MethodName := ⟨RX0, "beginSheet", "(I)I"⟩
abbrev cX0_drawFeature : ByteArray := prog_2_method_8_code
def yX0_drawFeature : MethodName := ⟨RX0, "drawFeature", "(II)I"⟩
abbrev cX0_tearOut : ByteArray := prog_2_method_9_code
def yX0_tearOut : MethodName := ⟨RX0, "tearOut", "(I)I"⟩
abbrev cX0_tellVerdict : ByteArray := prog_2_method_10_code
def yX0_tellVerdict : MethodName := ⟨RX0, "tellVerdict", "(I)I"⟩
abbrev cX0_sellSheet : ByteArray := prog_2_method_11_code
def yX0_sellSheet : MethodName := ⟨RX0, "sellSheet", "(II)I"⟩
abbrev cX0_passMinutes : ByteArray := prog_2_method_12_code
def yX0_passMinutes : MethodName := ⟨RX0, "passMinutes", "(I)I"⟩
abbrev cX0_changeSetting : ByteArray := prog_2_method_13_code
def yX0_changeSetting : MethodName := ⟨RX0, "changeSetting", "(II)I"⟩
abbrev cX0_perform : ByteArray := prog_2_method_14_code
def yX0_perform : MethodName := ⟨RX0, "perform", "(CII)I"⟩
abbrev cX0_advance : ByteArray := prog_2_method_15_code
def yX0_advance : MethodName := ⟨RX0, "advance", "(I)V"⟩
abbrev cX0_findBestSale : ByteArray := prog_2_method_16_code
def yX0_findBestSale : MethodName := ⟨RX0, "findBestSale", "(LCourtJotter$Sale;)Z"⟩
abbrev cX0_canSell : ByteArray := prog_2_method_17_code
def yX0_canSell : MethodName := ⟨RX0, "canSell", "(II)Z"⟩
abbrev cX0_priceAt : ByteArray := prog_2_method_18_code
def yX0_priceAt : MethodName := ⟨RX0, "priceAt", "(II)I"⟩
abbrev cX0_day : ByteArray := prog_2_method_19_code
def yX0_day : MethodName := ⟨RX0, "day", "()I"⟩
abbrev cX0_hour : ByteArray := prog_2_method_20_code
def yX0_hour : MethodName := ⟨RX0, "hour", "()I"⟩
abbrev cX0_hasVerdict : ByteArray := prog_2_method_21_code
def yX0_hasVerdict : MethodName := ⟨RX0, "hasVerdict", "(I)Z"⟩
abbrev cX0_remembered : ByteArray := prog_2_method_22_code
def yX0_remembered : MethodName := ⟨RX0, "remembered", "(I)I"⟩
abbrev cX0_drawable : ByteArray := prog_2_method_23_code
def yX0_drawable : MethodName := ⟨RX0, "drawable", "(I)I"⟩
abbrev cX0_wetFor : ByteArray := prog_2_method_24_code
def yX0_wetFor : MethodName := ⟨RX0, "wetFor", "(I)I"⟩
abbrev cX0_isDry : ByteArray := prog_2_method_25_code
def yX0_isDry : MethodName := ⟨RX0, "isDry", "(I)Z"⟩
abbrev cX0_tellOfPerson : ByteArray := prog_2_method_26_code
def yX0_tellOfPerson : MethodName := ⟨RX0, "tellOfPerson", "(II)I"⟩
abbrev cX0_tellOfSheet : ByteArray := prog_2_method_27_code
def yX0_tellOfSheet : MethodName := ⟨RX0, "tellOfSheet", "(II)I"⟩
abbrev cX0_tellOfPaper : ByteArray := prog_2_method_28_code
def yX0_tellOfPaper : MethodName := ⟨RX0, "tellOfPaper", "(II)I"⟩
abbrev cX0_tellCount : ByteArray := prog_2_method_29_code
def yX0_tellCount : MethodName := ⟨RX0, "tellCount", "(I)I"⟩
def RX1 : String := "CourtJotter$History"
def TX1 : u_T := fun k => match k with
  | 0 => ("CourtJotter$History", "states", "[LCourtJotter$Court;", true)
  | 1 => ("CourtJotter$History", "oldest", "I", false)
  | _ => ("CourtJotter$History", "size", "I", false)
def tyX1 : Nat → FieldType := fun k => match k with
  | 0 => .array (.object "CourtJotter$Court")
  | 1 => .int
  | _ => .int
abbrev wsX10 : List Cond := u_ws RX1 TX1 3
theorem nmX1 : ∀ a, a < 3 → ∀ b, b < 3 → a ≠ b → (TX1 a).2.1 ≠ (TX1 b).2.1 := by decide +kernel
theorem tyX1_ok : ∀ k, k < 3 → parseFieldDescriptor (TX1 k).2.2.1 = some (tyX1 k) := by decide +kernel
abbrev cX1_init : ByteArray := prog_3_method_1_code
def yX1_init : MethodName := ⟨RX1, "<init>", "()V"⟩
abbrev cX1_prepare : ByteArray := prog_3_method_2_code
def yX1_prepare : MethodName := ⟨RX1, "prepare", "(LCourtJotter$Court;)V"⟩
abbrev cX1_settle : ByteArray := prog_3_method_3_code
def yX1_settle : MethodName := ⟨RX1, "settle", "(I)I"⟩
abbrev cX1_restore : ByteArray := prog_3_method_4_code
def yX1_restore : MethodName := ⟨RX1, "restore", "(LCourtJotter$Court;)I"⟩
def RX2 : String := "CourtJotter$Papers"
def TX2 : u_T := fun k => match k with
  | 0 => ("CourtJotter$Papers", "count", "I", false)
  | 1 => ("CourtJotter$Papers", "rates", "[I", true)
  | 2 => ("CourtJotter$Papers", "hours", "[I", true)
  | 3 => ("CourtJotter$Papers", "bought", "[I", true)
  | 4 => ("CourtJotter$Papers", "paid", "[I", true)
  | 5 => ("CourtJotter$Papers", "buyingDays", "[I", true)
  | _ => ("CourtJotter$Papers", "peopleBought", "[I", true)
def tyX2 : Nat → FieldType := fun k => match k with
  | 0 => .int
  | 1 => .array .int
  | 2 => .array .int
  | 3 => .array .int
  | 4 => .array .int
  | 5 => .array .int
  | _ => .array .int
abbrev wsX20 : List Cond := u_ws RX2 TX2 7
theorem nmX2 : ∀ a, a < 7 → ∀ b, b < 7 → a ≠ b → (TX2 a).2.1 ≠ (TX2 b).2.1 := by decide +kernel
theorem tyX2_ok : ∀ k, k < 7 → parseFieldDescriptor (TX2 k).2.2.1 = some (tyX2 k) := by decide +kernel
abbrev cX2_init : ByteArray := prog_4_method_1_code
def yX2_init : MethodName := ⟨RX2, "<init>", "()V"⟩
abbrev cX2_copyFrom : ByteArray := prog_4_method_2_code
def yX2_copyFrom : MethodName := ⟨RX2, "copyFrom", "(LCourtJotter$Papers;)V"⟩
abbrev cX2_has : ByteArray := prog_4_method_3_code
def yX2_has : MethodName := ⟨RX2, "has", "(I)Z"⟩
abbrev cX2_peopleBoughtOn : ByteArray := prog_4_method_4_code
def yX2_peopleBoughtOn : MethodName := ⟨RX2, "peopleBoughtOn", "(II)I"⟩
abbrev cX2_buy : ByteArray := prog_4_method_5_code
def yX2_buy : MethodName := ⟨RX2, "buy", "(IIII)V"⟩
def RX3 : String := "CourtJotter$People"
def TX3 : u_T := fun k => match k with
  | 0 => ("CourtJotter$People", "count", "I", false)
  | 1 => ("CourtJotter$People", "rows", "[I", true)
  | 2 => ("CourtJotter$People", "seats", "[I", true)
  | 3 => ("CourtJotter$People", "angles", "[I", true)
  | 4 => ("CourtJotter$People", "steps", "[I", true)
  | 5 => ("CourtJotter$People", "verdictDays", "[I", true)
  | 6 => ("CourtJotter$People", "paid", "[I", true)
  | _ => ("CourtJotter$People", "seenMinutes", "[I", true)
def tyX3 : Nat → FieldType := fun k => match k with
  | 0 => .int
  | 1 => .array .int
  | 2 => .array .int
  | 3 => .array .int
  | 4 => .array .int
  | 5 => .array .int
  | 6 => .array .int
  | _ => .array .int
abbrev wsX30 : List Cond := u_ws RX3 TX3 8
theorem nmX3 : ∀ a, a < 8 → ∀ b, b < 8 → a ≠ b → (TX3 a).2.1 ≠ (TX3 b).2.1 := by decide +kernel
theorem tyX3_ok : ∀ k, k < 8 → parseFieldDescriptor (TX3 k).2.2.1 = some (tyX3 k) := by decide +kernel
abbrev cX3_init : ByteArray := prog_5_method_1_code
def yX3_init : MethodName := ⟨RX3, "<init>", "()V"⟩
abbrev cX3_copyFrom : ByteArray := prog_5_method_2_code
def yX3_copyFrom : MethodName := ⟨RX3, "copyFrom", "(LCourtJotter$People;)V"⟩
abbrev cX3_has : ByteArray := prog_5_method_3_code
def yX3_has : MethodName := ⟨RX3, "has", "(I)Z"⟩
abbrev cX3_isTaken : ByteArray := prog_5_method_4_code
def yX3_isTaken : MethodName := ⟨RX3, "isTaken", "(II)Z"⟩
abbrev cX3_seenAside : ByteArray := prog_5_method_5_code
def yX3_seenAside : MethodName := ⟨RX3, "seenAside", "(I)I"⟩
abbrev cX3_angleAfter : ByteArray := prog_5_method_6_code
def yX3_angleAfter : MethodName := ⟨RX3, "angleAfter", "(II)I"⟩
abbrev cX3_seenAfter : ByteArray := prog_5_method_7_code
def yX3_seenAfter : MethodName := ⟨RX3, "seenAfter", "(II)I"⟩
abbrev cX3_watch : ByteArray := prog_5_method_8_code
def yX3_watch : MethodName := ⟨RX3, "watch", "(III)V"⟩
abbrev cX3_features : ByteArray := prog_5_method_9_code
def yX3_features : MethodName := ⟨RX3, "features", "(II)I"⟩
abbrev cX3_turnAll : ByteArray := prog_5_method_10_code
def yX3_turnAll : MethodName := ⟨RX3, "turnAll", "(I)V"⟩
abbrev cX3_rememberedSince : ByteArray := prog_5_method_11_code
def yX3_rememberedSince : MethodName := ⟨RX3, "rememberedSince", "(II)I"⟩
def RX4 : String := "CourtJotter$Rehearsal"
def TX4 : u_T := fun k => match k with
  | 0 => ("CourtJotter$Rehearsal", "done", "I", false)
  | 1 => ("CourtJotter$Rehearsal", "position", "I", false)
  | 2 => ("CourtJotter$Rehearsal", "reason", "I", false)
  | _ => ("CourtJotter$Rehearsal", "cause", "I", false)
def tyX4 : Nat → FieldType := fun k => match k with
  | 0 => .int
  | 1 => .int
  | 2 => .int
  | _ => .int
abbrev wsX40 : List Cond := u_ws RX4 TX4 4
theorem nmX4 : ∀ a, a < 4 → ∀ b, b < 4 → a ≠ b → (TX4 a).2.1 ≠ (TX4 b).2.1 := by decide +kernel
theorem tyX4_ok : ∀ k, k < 4 → parseFieldDescriptor (TX4 k).2.2.1 = some (tyX4 k) := by decide +kernel
abbrev cX4_init : ByteArray := prog_6_method_1_code
def yX4_init : MethodName := ⟨RX4, "<init>", "()V"⟩
abbrev cX4_run : ByteArray := prog_6_method_2_code
def yX4_run : MethodName := ⟨RX4, "run", "(LCourtJotter$Text;LCourtJotter$Court;)V"⟩
abbrev cX4_fail : ByteArray := prog_6_method_3_code
def yX4_fail : MethodName := ⟨RX4, "fail", "(III)V"⟩
def RX5 : String := "CourtJotter$Sale"
def TX5 : u_T := fun k => match k with
  | 0 => ("CourtJotter$Sale", "sheet", "I", false)
  | 1 => ("CourtJotter$Sale", "paper", "I", false)
  | _ => ("CourtJotter$Sale", "price", "I", false)
def tyX5 : Nat → FieldType := fun k => match k with
  | 0 => .int
  | 1 => .int
  | _ => .int
abbrev wsX50 : List Cond := u_ws RX5 TX5 3
theorem nmX5 : ∀ a, a < 3 → ∀ b, b < 3 → a ≠ b → (TX5 a).2.1 ≠ (TX5 b).2.1 := by decide +kernel
theorem tyX5_ok : ∀ k, k < 3 → parseFieldDescriptor (TX5 k).2.2.1 = some (tyX5 k) := by decide +kernel
abbrev cX5_init : ByteArray := prog_7_method_1_code
def yX5_init : MethodName := ⟨RX5, "<init>", "()V"⟩
def RX6 : String := "CourtJotter$Sheets"
def TX6 : u_T := fun k => match k with
  | 0 => ("CourtJotter$Sheets", "count", "I", false)
  | 1 => ("CourtJotter$Sheets", "begun", "I", false)
  | 2 => ("CourtJotter$Sheets", "numbers", "[I", true)
  | 3 => ("CourtJotter$Sheets", "people", "[I", true)
  | 4 => ("CourtJotter$Sheets", "drawn", "[I", true)
  | _ => ("CourtJotter$Sheets", "dryMinutes", "[I", true)
def tyX6 : Nat → FieldType := fun k => match k with
  | 0 => .int
  | 1 => .int
  | 2 => .array .int
  | 3 => .array .int
  | 4 => .array .int
  | _ => .array .int
abbrev wsX60 : List Cond := u_ws RX6 TX6 6
theorem nmX6 : ∀ a, a < 6 → ∀ b, b < 6 → a ≠ b → (TX6 a).2.1 ≠ (TX6 b).2.1 := by decide +kernel
theorem tyX6_ok : ∀ k, k < 6 → parseFieldDescriptor (TX6 k).2.2.1 = some (tyX6 k) := by decide +kernel
abbrev cX6_init : ByteArray := prog_8_method_1_code
def yX6_init : MethodName := ⟨RX6, "<init>", "()V"⟩
abbrev cX6_copyFrom : ByteArray := prog_8_method_2_code
def yX6_copyFrom : MethodName := ⟨RX6, "copyFrom", "(LCourtJotter$Sheets;)V"⟩
abbrev cX6_placeOf : ByteArray := prog_8_method_3_code
def yX6_placeOf : MethodName := ⟨RX6, "placeOf", "(I)I"⟩
abbrev cX6_ofPerson : ByteArray := prog_8_method_4_code
def yX6_ofPerson : MethodName := ⟨RX6, "ofPerson", "(I)I"⟩
abbrev cX6_add : ByteArray := prog_8_method_5_code
def yX6_add : MethodName := ⟨RX6, "add", "(I)I"⟩
abbrev cX6_removeAt : ByteArray := prog_8_method_6_code
def yX6_removeAt : MethodName := ⟨RX6, "removeAt", "(I)V"⟩
def RX7 : String := "CourtJotter$Text"
def TX7 : u_T := fun k => match k with
  | 0 => ("CourtJotter$Text", "characters", "[C", true)
  | 1 => ("CourtJotter$Text", "length", "I", false)
  | 2 => ("CourtJotter$Text", "at", "I", false)
  | 3 => ("CourtJotter$Text", "kind", "C", false)
  | 4 => ("CourtJotter$Text", "first", "I", false)
  | _ => ("CourtJotter$Text", "second", "I", false)
def tyX7 : Nat → FieldType := fun k => match k with
  | 0 => .array .char
  | 1 => .int
  | 2 => .int
  | 3 => .char
  | 4 => .int
  | _ => .int
abbrev wsX70 : List Cond := u_ws RX7 TX7 6
theorem nmX7 : ∀ a, a < 6 → ∀ b, b < 6 → a ≠ b → (TX7 a).2.1 ≠ (TX7 b).2.1 := by decide +kernel
theorem tyX7_ok : ∀ k, k < 6 → parseFieldDescriptor (TX7 k).2.2.1 = some (tyX7 k) := by decide +kernel
abbrev cX7_init : ByteArray := prog_9_method_1_code
def yX7_init : MethodName := ⟨RX7, "<init>", "()V"⟩
abbrev cX7_append : ByteArray := prog_9_method_2_code
def yX7_append : MethodName := ⟨RX7, "append", "(I)I"⟩
abbrev cX7_readOrder : ByteArray := prog_9_method_3_code
def yX7_readOrder : MethodName := ⟨RX7, "readOrder", "(I)Z"⟩
abbrev cX7_next : ByteArray := prog_9_method_4_code
def yX7_next : MethodName := ⟨RX7, "next", "()C"⟩
abbrev cX7_readNumber : ByteArray := prog_9_method_5_code
def yX7_readNumber : MethodName := ⟨RX7, "readNumber", "()I"⟩
abbrev cX7_isOneNumber : ByteArray := prog_9_method_6_code
def yX7_isOneNumber : MethodName := ⟨RX7, "isOneNumber", "(C)Z"⟩
abbrev cX7_isTwoNumbers : ByteArray := prog_9_method_7_code
def yX7_isTwoNumbers : MethodName := ⟨RX7, "isTwoNumbers", "(C)Z"⟩
def RX8 : String := "CourtJotter"
def TX8 : u_T := fun k => match k with
  | 0 => ("CourtJotter", "court", "LCourtJotter$Court;", true)
  | 1 => ("CourtJotter", "trial", "LCourtJotter$Court;", true)
  | 2 => ("CourtJotter", "history", "LCourtJotter$History;", true)
  | 3 => ("CourtJotter", "text", "LCourtJotter$Text;", true)
  | 4 => ("CourtJotter", "rehearsal", "LCourtJotter$Rehearsal;", true)
  | _ => ("CourtJotter", "sale", "LCourtJotter$Sale;", true)
def tyX8 : Nat → FieldType := fun k => match k with
  | 0 => .object "CourtJotter$Court"
  | 1 => .object "CourtJotter$Court"
  | 2 => .object "CourtJotter$History"
  | 3 => .object "CourtJotter$Text"
  | 4 => .object "CourtJotter$Rehearsal"
  | _ => .object "CourtJotter$Sale"
abbrev wsX80 : List Cond := u_ws RX8 TX8 6
theorem nmX8 : ∀ a, a < 6 → ∀ b, b < 6 → a ≠ b → (TX8 a).2.1 ≠ (TX8 b).2.1 := by decide +kernel
theorem tyX8_ok : ∀ k, k < 6 → parseFieldDescriptor (TX8 k).2.2.1 = some (tyX8 k) := by decide +kernel
abbrev cX8_init : ByteArray := prog_1_method_1_code
def yX8_init : MethodName := ⟨RX8, "<init>", "()V"⟩
abbrev cX8_person : ByteArray := prog_1_method_2_code
def yX8_person : MethodName := ⟨RX8, "person", "(II)I"⟩
abbrev cX8_turn : ByteArray := prog_1_method_3_code
def yX8_turn : MethodName := ⟨RX8, "turn", "(III)I"⟩
abbrev cX8_paper : ByteArray := prog_1_method_4_code
def yX8_paper : MethodName := ⟨RX8, "paper", "(II)I"⟩
abbrev cX8_look : ByteArray := prog_1_method_5_code
def yX8_look : MethodName := ⟨RX8, "look", "(I)I"⟩
abbrev cX8_sheet : ByteArray := prog_1_method_6_code
def yX8_sheet : MethodName := ⟨RX8, "sheet", "(I)I"⟩
abbrev cX8_draw : ByteArray := prog_1_method_7_code
def yX8_draw : MethodName := ⟨RX8, "draw", "(II)I"⟩
abbrev cX8_tear : ByteArray := prog_1_method_8_code
def yX8_tear : MethodName := ⟨RX8, "tear", "(I)I"⟩
abbrev cX8_verdict : ByteArray := prog_1_method_9_code
def yX8_verdict : MethodName := ⟨RX8, "verdict", "(I)I"⟩
abbrev cX8_sell : ByteArray := prog_1_method_10_code
def yX8_sell : MethodName := ⟨RX8, "sell", "(II)I"⟩
abbrev cX8_pass : ByteArray := prog_1_method_11_code
def yX8_pass : MethodName := ⟨RX8, "pass", "(I)I"⟩
abbrev cX8_set : ByteArray := prog_1_method_12_code
def yX8_set : MethodName := ⟨RX8, "set", "(II)I"⟩
abbrev cX8_personOf : ByteArray := prog_1_method_13_code
def yX8_personOf : MethodName := ⟨RX8, "personOf", "(II)I"⟩
abbrev cX8_sheetOf : ByteArray := prog_1_method_14_code
def yX8_sheetOf : MethodName := ⟨RX8, "sheetOf", "(II)I"⟩
abbrev cX8_paperOf : ByteArray := prog_1_method_15_code
def yX8_paperOf : MethodName := ⟨RX8, "paperOf", "(II)I"⟩
abbrev cX8_price : ByteArray := prog_1_method_16_code
def yX8_price : MethodName := ⟨RX8, "price", "(II)I"⟩
abbrev cX8_number : ByteArray := prog_1_method_17_code
def yX8_number : MethodName := ⟨RX8, "number", "(I)I"⟩
abbrev cX8_seenIn : ByteArray := prog_1_method_18_code
def yX8_seenIn : MethodName := ⟨RX8, "seenIn", "(II)I"⟩
abbrev cX8_would : ByteArray := prog_1_method_19_code
def yX8_would : MethodName := ⟨RX8, "would", "(II)I"⟩
abbrev cX8_best : ByteArray := prog_1_method_20_code
def yX8_best : MethodName := ⟨RX8, "best", "(I)I"⟩
abbrev cX8_sellAll : ByteArray := prog_1_method_21_code
def yX8_sellAll : MethodName := ⟨RX8, "sellAll", "()I"⟩
abbrev cX8_mean : ByteArray := prog_1_method_22_code
def yX8_mean : MethodName := ⟨RX8, "mean", "()I"⟩
abbrev cX8_count : ByteArray := prog_1_method_23_code
def yX8_count : MethodName := ⟨RX8, "count", "(I)I"⟩
abbrev cX8_undo : ByteArray := prog_1_method_24_code
def yX8_undo : MethodName := ⟨RX8, "undo", "()I"⟩
abbrev cX8_type : ByteArray := prog_1_method_25_code
def yX8_type : MethodName := ⟨RX8, "type", "(I)I"⟩
abbrev cX8_clearText : ByteArray := prog_1_method_26_code
def yX8_clearText : MethodName := ⟨RX8, "clearText", "()I"⟩
abbrev cX8_fault : ByteArray := prog_1_method_27_code
def yX8_fault : MethodName := ⟨RX8, "fault", "(I)I"⟩
abbrev cX8_play : ByteArray := prog_1_method_28_code
def yX8_play : MethodName := ⟨RX8, "play", "()I"⟩
abbrev cX8_isWithin : ByteArray := prog_1_method_29_code
def yX8_isWithin : MethodName := ⟨RX8, "isWithin", "(III)Z"⟩
abbrev cX8_hasBit : ByteArray := prog_1_method_30_code
def yX8_hasBit : MethodName := ⟨RX8, "hasBit", "(II)Z"⟩
abbrev cX8_copyRow : ByteArray := prog_1_method_31_code
def yX8_copyRow : MethodName := ⟨RX8, "copyRow", "([I[I)V"⟩
abbrev cX8_bitsOf : ByteArray := prog_1_method_32_code
def yX8_bitsOf : MethodName := ⟨RX8, "bitsOf", "(F)I"⟩
def RX9 : String := "CourtJotterModel"
def TX9 : u_T := fun k => match k with
  | 0 => ("CourtJotterModel", "s", "[I", true)
  | 1 => ("CourtJotterModel", "past", "[I", true)
  | 2 => ("CourtJotterModel", "held", "[I", true)
  | 3 => ("CourtJotterModel", "tried", "[I", true)
  | 4 => ("CourtJotterModel", "pasts", "I", false)
  | 5 => ("CourtJotterModel", "runs", "Z", false)
  | 6 => ("CourtJotterModel", "text", "[I", true)
  | 7 => ("CourtJotterModel", "typed", "I", false)
  | 8 => ("CourtJotterModel", "spot", "I", false)
  | 9 => ("CourtJotterModel", "from", "I", false)
  | 10 => ("CourtJotterModel", "reason", "I", false)
  | 11 => ("CourtJotterModel", "cause", "I", false)
  | 12 => ("CourtJotterModel", "orders", "I", false)
  | 13 => ("CourtJotterModel", "order", "I", false)
  | _ => ("CourtJotterModel", "told", "[I", true)
def tyX9 : Nat → FieldType := fun k => match k with
  | 0 => .array .int
  | 1 => .array .int
  | 2 => .array .int
  | 3 => .array .int
  | 4 => .int
  | 5 => .boolean
  | 6 => .array .int
  | 7 => .int
  | 8 => .int
  | 9 => .int
  | 10 => .int
  | 11 => .int
  | 12 => .int
  | 13 => .int
  | _ => .array .int
abbrev wsX90 : List Cond := u_ws RX9 TX9 15
theorem nmX9 : ∀ a, a < 15 → ∀ b, b < 15 → a ≠ b → (TX9 a).2.1 ≠ (TX9 b).2.1 := by decide +kernel
theorem tyX9_ok : ∀ k, k < 15 → parseFieldDescriptor (TX9 k).2.2.1 = some (tyX9 k) := by decide +kernel
abbrev cX9_init : ByteArray := prog_11_method_1_code
def yX9_init : MethodName := ⟨RX9, "<init>", "()V"⟩
abbrev cX9_in : ByteArray := prog_11_method_3_code
def yX9_in : MethodName := ⟨RX9, "in", "(III)Z"⟩
abbrev cX9_copies : ByteArray := prog_11_method_4_code
def yX9_copies : MethodName := ⟨RX9, "copies", "([I[I)V"⟩
abbrev cX9_changes : ByteArray := prog_11_method_5_code
def yX9_changes : MethodName := ⟨RX9, "changes", "()V"⟩
abbrev cX9_ones : ByteArray := prog_11_method_6_code
def yX9_ones : MethodName := ⟨RX9, "ones", "(I)I"⟩
abbrev cX9_isPerson : ByteArray := prog_11_method_7_code
def yX9_isPerson : MethodName := ⟨RX9, "isPerson", "(I)Z"⟩
abbrev cX9_isPaper : ByteArray := prog_11_method_8_code
def yX9_isPaper : MethodName := ⟨RX9, "isPaper", "(I)Z"⟩
abbrev cX9_of : ByteArray := prog_11_method_9_code
def yX9_of : MethodName := ⟨RX9, "of", "(II)I"⟩
abbrev cX9_sets : ByteArray := prog_11_method_10_code
def yX9_sets : MethodName := ⟨RX9, "sets", "(III)V"⟩
abbrev cX9_ofSheet : ByteArray := prog_11_method_11_code
def yX9_ofSheet : MethodName := ⟨RX9, "ofSheet", "(II)I"⟩
abbrev cX9_ofPaper : ByteArray := prog_11_method_12_code
def yX9_ofPaper : MethodName := ⟨RX9, "ofPaper", "(II)I"⟩
abbrev cX9_day : ByteArray := prog_11_method_13_code
def yX9_day : MethodName := ⟨RX9, "day", "()I"⟩
abbrev cX9_isHidden : ByteArray := prog_11_method_14_code
def yX9_isHidden : MethodName := ⟨RX9, "isHidden", "(I)Z"⟩
abbrev cX9_seenAt : ByteArray := prog_11_method_15_code
def yX9_seenAt : MethodName := ⟨RX9, "seenAt", "(II)I"⟩
abbrev cX9_seen : ByteArray := prog_11_method_16_code
def yX9_seen : MethodName := ⟨RX9, "seen", "(I)I"⟩
abbrev cX9_remembered : ByteArray := prog_11_method_17_code
def yX9_remembered : MethodName := ⟨RX9, "remembered", "(I)I"⟩
abbrev cX9_person : ByteArray := prog_11_method_18_code
def yX9_person : MethodName := ⟨RX9, "person", "(II)I"⟩
abbrev cX9_turn : ByteArray := prog_11_method_19_code
def yX9_turn : MethodName := ⟨RX9, "turn", "(III)I"⟩
abbrev cX9_paper : ByteArray := prog_11_method_20_code
def yX9_paper : MethodName := ⟨RX9, "paper", "(II)I"⟩
abbrev cX9_look : ByteArray := prog_11_method_21_code
def yX9_look : MethodName := ⟨RX9, "look", "(I)I"⟩
abbrev cX9_slot : ByteArray := prog_11_method_22_code
def yX9_slot : MethodName := ⟨RX9, "slot", "(I)I"⟩
abbrev cX9_sheet : ByteArray := prog_11_method_23_code
def yX9_sheet : MethodName := ⟨RX9, "sheet", "(I)I"⟩
abbrev cX9_drawable : ByteArray := prog_11_method_24_code
def yX9_drawable : MethodName := ⟨RX9, "drawable", "(I)I"⟩
abbrev cX9_draw : ByteArray := prog_11_method_25_code
def yX9_draw : MethodName := ⟨RX9, "draw", "(II)I"⟩
abbrev cX9_takesOut : ByteArray := prog_11_method_26_code
def yX9_takesOut : MethodName := ⟨RX9, "takesOut", "(I)V"⟩
abbrev cX9_tear : ByteArray := prog_11_method_27_code
def yX9_tear : MethodName := ⟨RX9, "tear", "(I)I"⟩
abbrev cX9_sheetsOf : ByteArray := prog_11_method_28_code
def yX9_sheetsOf : MethodName := ⟨RX9, "sheetsOf", "(I)I"⟩
abbrev cX9_hasVerdict : ByteArray := prog_11_method_29_code
def yX9_hasVerdict : MethodName := ⟨RX9, "hasVerdict", "(I)Z"⟩
abbrev cX9_verdict : ByteArray := prog_11_method_30_code
def yX9_verdict : MethodName := ⟨RX9, "verdict", "(I)I"⟩
abbrev cX9_isDry : ByteArray := prog_11_method_31_code
def yX9_isDry : MethodName := ⟨RX9, "isDry", "(I)Z"⟩
abbrev cX9_boughtOf : ByteArray := prog_11_method_32_code
def yX9_boughtOf : MethodName := ⟨RX9, "boughtOf", "(I)I"⟩
abbrev cX9_canSell : ByteArray := prog_11_method_33_code
def yX9_canSell : MethodName := ⟨RX9, "canSell", "(II)Z"⟩
abbrev cX9_priceOf : ByteArray := prog_11_method_34_code
def yX9_priceOf : MethodName := ⟨RX9, "priceOf", "(II)I"⟩
abbrev cX9_sells : ByteArray := prog_11_method_35_code
def yX9_sells : MethodName := ⟨RX9, "sells", "(II)I"⟩
abbrev cX9_sell : ByteArray := prog_11_method_36_code
def yX9_sell : MethodName := ⟨RX9, "sell", "(II)I"⟩
abbrev cX9_sees : ByteArray := prog_11_method_37_code
def yX9_sees : MethodName := ⟨RX9, "sees", "(I)V"⟩
abbrev cX9_minute : ByteArray := prog_11_method_38_code
def yX9_minute : MethodName := ⟨RX9, "minute", "()V"⟩
abbrev cX9_pass : ByteArray := prog_11_method_39_code
def yX9_pass : MethodName := ⟨RX9, "pass", "(I)I"⟩
abbrev cX9_set : ByteArray := prog_11_method_40_code
def yX9_set : MethodName := ⟨RX9, "set", "(II)I"⟩
abbrev cX9_personOf : ByteArray := prog_11_method_41_code
def yX9_personOf : MethodName := ⟨RX9, "personOf", "(II)I"⟩
abbrev cX9_sheetOf : ByteArray := prog_11_method_42_code
def yX9_sheetOf : MethodName := ⟨RX9, "sheetOf", "(II)I"⟩
abbrev cX9_paperOf : ByteArray := prog_11_method_43_code
def yX9_paperOf : MethodName := ⟨RX9, "paperOf", "(II)I"⟩
abbrev cX9_price : ByteArray := prog_11_method_44_code
def yX9_price : MethodName := ⟨RX9, "price", "(II)I"⟩
abbrev cX9_number : ByteArray := prog_11_method_45_code
def yX9_number : MethodName := ⟨RX9, "number", "(I)I"⟩
abbrev cX9_seenIn : ByteArray := prog_11_method_46_code
def yX9_seenIn : MethodName := ⟨RX9, "seenIn", "(II)I"⟩
abbrev cX9_would : ByteArray := prog_11_method_47_code
def yX9_would : MethodName := ⟨RX9, "would", "(II)I"⟩
abbrev cX9_bestSale : ByteArray := prog_11_method_48_code
def yX9_bestSale : MethodName := ⟨RX9, "bestSale", "()I"⟩
abbrev cX9_best : ByteArray := prog_11_method_49_code
def yX9_best : MethodName := ⟨RX9, "best", "(I)I"⟩
abbrev cX9_sellAll : ByteArray := prog_11_method_50_code
def yX9_sellAll : MethodName := ⟨RX9, "sellAll", "()I"⟩
abbrev cX9_mean : ByteArray := prog_11_method_51_code
def yX9_mean : MethodName := ⟨RX9, "mean", "()I"⟩
abbrev cX9_count : ByteArray := prog_11_method_52_code
def yX9_count : MethodName := ⟨RX9, "count", "(I)I"⟩
abbrev cX9_undo : ByteArray := prog_11_method_53_code
def yX9_undo : MethodName := ⟨RX9, "undo", "()I"⟩
abbrev cX9_type : ByteArray := prog_11_method_54_code
def yX9_type : MethodName := ⟨RX9, "type", "(I)I"⟩
abbrev cX9_clearText : ByteArray := prog_11_method_55_code
def yX9_clearText : MethodName := ⟨RX9, "clearText", "()I"⟩
abbrev cX9_isAt : ByteArray := prog_11_method_56_code
def yX9_isAt : MethodName := ⟨RX9, "isAt", "(II)Z"⟩
abbrev cX9_sign : ByteArray := prog_11_method_57_code
def yX9_sign : MethodName := ⟨RX9, "sign", "(I)Z"⟩
abbrev cX9_numbered : ByteArray := prog_11_method_58_code
def yX9_numbered : MethodName := ⟨RX9, "numbered", "(I)Z"⟩
abbrev cX9_numbersOf : ByteArray := prog_11_method_59_code
def yX9_numbersOf : MethodName := ⟨RX9, "numbersOf", "(I)I"⟩
abbrev cX9_reads : ByteArray := prog_11_method_60_code
def yX9_reads : MethodName := ⟨RX9, "reads", "()Z"⟩
abbrev cX9_calls : ByteArray := prog_11_method_61_code
def yX9_calls : MethodName := ⟨RX9, "calls", "()I"⟩
abbrev cX9_plays : ByteArray := prog_11_method_62_code
def yX9_plays : MethodName := ⟨RX9, "plays", "()Z"⟩
abbrev cX9_fault : ByteArray := prog_11_method_63_code
def yX9_fault : MethodName := ⟨RX9, "fault", "(I)I"⟩
abbrev cX9_play : ByteArray := prog_11_method_64_code
def yX9_play : MethodName := ⟨RX9, "play", "()I"⟩
def RJxf58ca : String := "java/lang/Float"
def TJxf58ca : u_T := fun k => match k with
  | _ => ("", "", "", false)
def tyJxf58ca : Nat → FieldType := fun k => match k with
  | _ => .int
abbrev wsJxf58ca0 : List Cond := u_ws RJxf58ca TJxf58ca 0
theorem nmJxf58ca : ∀ a, a < 0 → ∀ b, b < 0 → a ≠ b → (TJxf58ca a).2.1 ≠ (TJxf58ca b).2.1 := by decide +kernel
theorem tyJxf58ca_ok : ∀ k, k < 0 → parseFieldDescriptor (TJxf58ca k).2.2.1 = some (tyJxf58ca k) := by decide +kernel
abbrev cJxf58ca_isNaN_12338 : ByteArray := prog_12_method_6_code
def yJxf58ca_isNaN_12338 : MethodName := ⟨RJxf58ca, "isNaN", "(F)Z"⟩
abbrev cJxf58ca_floatToIntBits_5c35a : ByteArray := prog_12_method_24_code
def yJxf58ca_floatToIntBits_5c35a : MethodName := ⟨RJxf58ca, "floatToIntBits", "(F)I"⟩
def RJ6 : String := "java/lang/Integer"
def TJ6 : u_T := fun k => match k with
  | _ => ("", "", "", false)
def tyJ6 : Nat → FieldType := fun k => match k with
  | _ => .int
abbrev wsJ60 : List Cond := u_ws RJ6 TJ6 0
theorem nmJ6 : ∀ a, a < 0 → ∀ b, b < 0 → a ≠ b → (TJ6 a).2.1 ≠ (TJ6 b).2.1 := by decide +kernel
theorem tyJ6_ok : ∀ k, k < 0 → parseFieldDescriptor (TJ6 k).2.2.1 = some (tyJ6 k) := by decide +kernel
abbrev cJ6_bitCount_0f7a4 : ByteArray := prog_13_method_49_code
def yJ6_bitCount_0f7a4 : MethodName := ⟨RJ6, "bitCount", "(I)I"⟩
def RJ9 : String := "java/lang/Math"
def TJ9 : u_T := fun k => match k with
  | _ => ("", "", "", false)
def tyJ9 : Nat → FieldType := fun k => match k with
  | _ => .int
abbrev wsJ90 : List Cond := u_ws RJ9 TJ9 0
theorem nmJ9 : ∀ a, a < 0 → ∀ b, b < 0 → a ≠ b → (TJ9 a).2.1 ≠ (TJ9 b).2.1 := by decide +kernel
theorem tyJ9_ok : ∀ k, k < 0 → parseFieldDescriptor (TJ9 k).2.2.1 = some (tyJ9 k) := by decide +kernel
abbrev cJ9_max_7cf53 : ByteArray := prog_14_method_65_code
def yJ9_max_7cf53 : MethodName := ⟨RJ9, "max", "(II)I"⟩
abbrev cJ9_min_7cf53 : ByteArray := prog_14_method_69_code
def yJ9_min_7cf53 : MethodName := ⟨RJ9, "min", "(II)I"⟩
def RJ10 : String := "java/lang/System"
def TJ10 : u_T := fun k => match k with
  | _ => ("", "", "", false)
def tyJ10 : Nat → FieldType := fun k => match k with
  | _ => .int
abbrev wsJ100 : List Cond := u_ws RJ10 TJ10 0
theorem nmJ10 : ∀ a, a < 0 → ∀ b, b < 0 → a ≠ b → (TJ10 a).2.1 ≠ (TJ10 b).2.1 := by decide +kernel
theorem tyJ10_ok : ∀ k, k < 0 → parseFieldDescriptor (TJ10 k).2.2.1 = some (tyJ10 k) := by decide +kernel
def RL : String := "CourtJotterLaw"
abbrev cL_law : ByteArray := code
def yL_law : MethodName := ⟨RL, "law", "([I)Z"⟩
end
section
/-! the frame of the whole proof: worlds of cells by group and place, one judgement, one row an instruction -/
abbrev cj_cl : List vw_C := [(RX0, TX0, 10), (RX1, TX1, 3), (RX2, TX2, 7), (RX3, TX3, 8), (RX4, TX4, 4), (RX5, TX5, 3), (RX6, TX6, 6), (RX7, TX7, 6), (RX8, TX8, 6), (RX9, TX9, 15)]
def cj_ws : List Cond := lw_tbl.filter goodWord
theorem cj_mem {w : Cond} (i : Nat) (h : lw_tbl[i]? = some w) (hg : goodWord w = true) : w ∈ cj_ws := List.mem_filter.mpr ⟨List.mem_of_getElem? h, hg⟩
theorem cj_good {ws : List Cond} (h : GoodIn lw_tbl ws) : ∀ w ∈ ws, w ∈ cj_ws := fun w hw => List.mem_filter.mpr ⟨(h w hw).1, by
  rcases (h w hw).2 with q | ⟨ty, rfl⟩
  · cases w <;> first | rfl | exact q
  · rfl⟩
def cj_nst : List (String × Nat × MethodName × String) := [
  ("CourtJotter", 9, ⟨"CourtJotter$Court", "<init>", "()V"⟩, "CourtJotter"),
  ("CourtJotter$Court", 20, ⟨"CourtJotter$Sheets", "<init>", "()V"⟩, "CourtJotter"),
  ("CourtJotter$Court", 27, ⟨"CourtJotter$Papers", "<init>", "()V"⟩, "CourtJotter"),
  ("CourtJotter$History", 17, ⟨"CourtJotter$Court", "<init>", "()V"⟩, "CourtJotter"),
  ("CourtJotter", 28, ⟨"CourtJotter$Text", "<init>", "()V"⟩, "CourtJotter"),
  ("CourtJotter", 35, ⟨"CourtJotter$Rehearsal", "<init>", "()V"⟩, "CourtJotter"),
  ("CourtJotter", 42, ⟨"CourtJotter$Sale", "<init>", "()V"⟩, "CourtJotter"),
  ("CourtJotter$People", 37, ⟨"CourtJotter", "copyRow", "([I[I)V"⟩, "CourtJotter"),
  ("CourtJotter$Sheets", 31, ⟨"CourtJotter", "copyRow", "([I[I)V"⟩, "CourtJotter"),
  ("CourtJotter$Papers", 34, ⟨"CourtJotter", "copyRow", "([I[I)V"⟩, "CourtJotter"),
  ("CourtJotter$Court", 64, ⟨"CourtJotter", "isWithin", "(III)Z"⟩, "CourtJotter"),
  ("CourtJotter$Court", 117, ⟨"CourtJotter", "hasBit", "(II)Z"⟩, "CourtJotter"),
  ("CourtJotter$People", 57, ⟨"CourtJotter", "hasBit", "(II)Z"⟩, "CourtJotter"),
  ("CourtJotter$Text", 15, ⟨"CourtJotter", "isWithin", "(III)Z"⟩, "CourtJotter")]
theorem cj_nst_tbl : ∀ q ∈ cj_nst, Cond.methodLinkNest q.1 q.2.1 q.2.2.1 q.2.2.2 ∈ lw_tbl := by decide +kernel
def cj_NW (U : State) : Prop := ∀ q ∈ cj_nst, va_Nw (.methodLinkNest q.1 q.2.1 q.2.2.1 q.2.2.2) U
theorem cj_NW.warm {s U : State} (hW : s.WarmedH U.vm) (h : cj_NW s) : cj_NW U := fun q hq => va_Nw.warmM hW (h q hq)
theorem cj_NW.same {u U : State} (h : u.vm = U.vm) (hn : cj_NW u) : cj_NW U := fun q hq => va_Nw.same rfl h (hn q hq)
abbrev cj_Zc : Type := ClassId × ClassId × ClassId
abbrev cj_ty (z : cj_Zc) : List (ClassId × FieldType) := [(z.1, .int), (z.2.1, .char), (z.2.2, .object RX0)]
def cj_K (D : va_G) (z : cj_Zc) (U : State) : Prop := va_K D cj_cl (cj_ty z) U ∧ cj_NW U
theorem cj_K.warm {D : va_G} {z : cj_Zc} {s U : State} (hW : s.WarmedH U.vm) (h : cj_K D z s) : cj_K D z U := ⟨va_K.moved hW.alike h.1, h.2.warm hW⟩
theorem cj_K.same {D : va_G} {z : cj_Zc} {u U : State} (e : u.vm = U.vm) (h : cj_K D z u) : cj_K D z U := ⟨va_K.moved (by rw [← e]; exact Vm.Alike.refl u.vm) h.1, h.2.same e⟩
abbrev cj_Mm : Type := Nat → Nat → Nat → Int32
abbrev cj_Ad : Type := Nat → Nat → Nat
abbrev cj_Fc : Type := (Nat → Int32) → va_E
abbrev cj_En : Type := cj_Ad → Nat → Nat → Option cj_Fc
def cj_Wd (E : cj_En) (D : va_G) (ad : cj_Ad) (μ : cj_Mm) (H : Heap) : Prop := ∀ g k F, E ad g k = some F → va_at D cj_cl (ad g k, F (μ g k)) H
def cj_Ij (E : cj_En) (ad : cj_Ad) : Prop := ∀ g k g' k' F F', E ad g k = some F → E ad g' k' = some F' → ad g k = ad g' k' → g = g' ∧ k = k'
def cj_A (E : cj_En) (ad : cj_Ad) : Nat → Prop := fun q => ∃ g k F, E ad g k = some F ∧ q = ad g k
abbrev cj_Y : Type := cj_En × va_G × cj_Zc × cj_Ad
abbrev cj_X : Type := Program × Launch × Env × Room × State × MethodId × Array Value × List Frame × Method × Code
def cj_Q (Y : cj_Y) (o : Option Value × cj_Mm) : Array Value → State → Outcome → State → Prop := fun _ st oc t => oc = .returned o.1 ∧ cj_Wd Y.1 Y.2.1 Y.2.2.2 o.2 t.heap ∧ va_F (cj_A Y.1 Y.2.2.2) st t
def cj_G (Y : cj_Y) (X : cj_X) (o : Option Value × cj_Mm) (μ : cj_Mm) (pc : Nat) (lv : List (Nat × Value)) (st : List Value) : Prop :=
  ∀ (H : Heap) (locs : List Loc) (ls : Array Slot), cj_Wd Y.1 Y.2.1 Y.2.2.2 μ H → va_S (cj_A Y.1 Y.2.2.2) X.2.2.2.2.1.heap H locs → lv_has ls X.2.2.2.2.2.2.2.2.2.maxLocals lv →
    W X.1 X.2.1 X.2.2.1 X.2.2.2.1 X.2.2.2.2.1 X.2.2.2.2.2.1 X.2.2.2.2.2.2.1 X.2.2.2.2.2.2.2.1 X.2.2.2.2.2.2.2.2.1 X.2.2.2.2.2.2.2.2.2 H locs 0 0 (MQ X.2.2.2.2.2.2.2.1 (cj_Q Y o) X.2.2.2.2.2.2.1 X.2.2.2.2.1 0 0 (cj_A Y.1 Y.2.2.2)) (F0 X.2.2.2.2.2.1 pc ls st)
/-- what a walk rests on -/
def cj_C (Y : cj_Y) (X : cj_X) (cc : ByteArray) (nL : Nat) (own : String) (d : Nat) (ret : Option FieldType) : Prop :=
  X.1.tables.exec = Jvm.exec ∧ X.2.2.2.2.2.2.2.2.2.code = cc ∧ X.2.2.2.2.2.2.2.2.2.maxLocals = nL ∧ X.2.2.2.2.1.vm.findClass own = some X.2.2.2.2.2.1.cls ∧ (∀ w ∈ cj_ws, w.before X.2.2.2.2.2.2.1 X.2.2.2.2.1 = true) ∧ cj_K Y.2.1 Y.2.2.1 X.2.2.2.2.1 ∧ cj_Ij Y.1 Y.2.2.2 ∧ X.2.2.2.2.2.2.2.2.1.locks = false ∧ X.2.2.2.2.2.2.2.2.1.sig.returnType = ret ∧ X.2.2.2.1.frames = d ∧ X.2.2.2.1.locals = 37 * d ∧ X.2.2.2.1.cells = 0 ∧ X.2.2.2.1.slots = 0
abbrev cj_ms (y : MethodName) (cc : ByteArray) (nL : Nat) (ret : Option FieldType) : List Cond := .code y cc nL ret :: cj_ws
/-- a method's contract: over the whole world, from memory μ to memory μ' with the answer v -/
def cj_Ct (l : Launch) (Y : cj_Y) (y : MethodName) (cc : ByteArray) (nL : Nat) (ret : Option FieldType) (d : Nat) (args : List Value) (μ : cj_Mm) (v : Option Value) (μ' : cj_Mm) : Prop :=
  Met l y (cj_ms y cc nL ret) ({ frames := d, cells := 0, slots := 0, locals := 37 * d }) (va_Pc args (fun U => cj_Wd Y.1 Y.2.1 Y.2.2.2 μ U.heap ∧ cj_K Y.2.1 Y.2.2.1 U)) (cj_Q Y (v, μ')) 0 0 (cj_A Y.1 Y.2.2.2)
set_option maxHeartbeats 4000000 in
theorem cj_Ct.of {l : Launch} {Y : cj_Y} {y : MethodName} {cc : ByteArray} {nL : Nat} {ret : Option FieldType} {d : Nat} {args : List Value} {μ μ' : cj_Mm} {v : Option Value} (hy : plainName y.cls = true) (hI : cj_Ij Y.1 Y.2.2.2) (hn : (lg_sl args).length ≤ nL) (lv : List (Nat × Value)) (hlv : lv_args 0 args = lv)
    (body : ∀ X : cj_X, X.2.1 = l → cj_C Y X cc nL y.cls d ret → cj_G Y X (v, μ') μ 0 lv []) : cj_Ct l Y y cc nL ret d args μ v μ' := by
  refine Met.ofW (cc := cc) (maxL := nL) (ret := ret) hy rfl ?_
  intro p e s m args' below meth c s₁ B hml hv
  obtain ⟨rfl, hP, hK⟩ := hv
  have hts := atoms_spec (ws := cj_ms y cc nL ret) B.pre
  have hown : s.vm.findClass y.cls = some m.cls := findClass_of_methodNamed B.named
  have hl := lv_entry args (n := nL) hn
  rw [lg_entry_eq]
  rw [hlv, ← hml] at hl
  exact body (p, l, e, _, s, m, args.toArray, below, meth, c) rfl ⟨B.exec, B.bytes, hml, hown, fun w hw => hts w (List.mem_cons_of_mem _ hw), hK, hI, B.notSynchronized, B.returns, rfl, rfl, rfl, rfl⟩ s.heap [] _ hP va_S.rf (by rw [hml] at hl ⊢; exact hl)
section CJ1
variable {Y : cj_Y} {X : cj_X} {o : Option Value × cj_Mm} {μ : cj_Mm} {pc : Nat} {lv lv' : List (Nat × Value)} {st : List Value} {cc : ByteArray} {nL d : Nat} {own : String} {ret : Option FieldType}
theorem cj_iload_n (C : cj_C Y X cc nL own d ret) {k : Fin 4} {i : Nat} {x : Int32} (hdg : decode cc pc = .ok (.iload_n k, 1)) (hi : (k : Nat) = i) (j : Nat) (hl : lv[j]? = some (i, .int x)) (kk : cj_G Y X o μ (pc + 1) lv (.int x :: st)) : cj_G Y X o μ pc lv st :=
  fun H locs ls hW hS hL => lv_iload_n C.1 C.2.1 hdg hi (lv_at hL j hl) (kk H locs ls hW hS hL)
theorem cj_iload (C : cj_C Y X cc nL own d ret) {i : Nat} {x : Int32} (hdg : decode cc pc = .ok (.iload i, 2)) (j : Nat) (hl : lv[j]? = some (i, .int x)) (kk : cj_G Y X o μ (pc + 2) lv (.int x :: st)) : cj_G Y X o μ pc lv st :=
  fun H locs ls hW hS hL => lv_iload C.1 C.2.1 hdg (lv_at hL j hl) (kk H locs ls hW hS hL)
theorem cj_aload_n (C : cj_C Y X cc nL own d ret) {k : Fin 4} {i : Nat} {x : Nat} (hdg : decode cc pc = .ok (.aload_n k, 1)) (hi : (k : Nat) = i) (j : Nat) (hl : lv[j]? = some (i, .ref x)) (kk : cj_G Y X o μ (pc + 1) lv (.ref x :: st)) : cj_G Y X o μ pc lv st :=
  fun H locs ls hW hS hL => lv_aload_n C.1 C.2.1 hdg hi (lv_at hL j hl) (kk H locs ls hW hS hL)
theorem cj_aload (C : cj_C Y X cc nL own d ret) {i : Nat} {x : Nat} (hdg : decode cc pc = .ok (.aload i, 2)) (j : Nat) (hl : lv[j]? = some (i, .ref x)) (kk : cj_G Y X o μ (pc + 2) lv (.ref x :: st)) : cj_G Y X o μ pc lv st :=
  fun H locs ls hW hS hL => lv_aload C.1 C.2.1 hdg (lv_at hL j hl) (kk H locs ls hW hS hL)
theorem cj_fload_n (C : cj_C Y X cc nL own d ret) {k : Fin 4} {i : Nat} {x : UInt32} (hdg : decode cc pc = .ok (.fload_n k, 1)) (hi : (k : Nat) = i) (j : Nat) (hl : lv[j]? = some (i, .float x)) (kk : cj_G Y X o μ (pc + 1) lv (.float x :: st)) : cj_G Y X o μ pc lv st :=
  fun H locs ls hW hS hL => lv_fload_n C.1 C.2.1 hdg hi (lv_at hL j hl) (kk H locs ls hW hS hL)
theorem cj_iconst (C : cj_C Y X cc nL own d ret) {n : Int} (v : Int32) (hdg : decode cc pc = .ok (.iconst n, 1)) (hv : Int32.ofInt n = v) (kk : cj_G Y X o μ (pc + 1) lv (.int v :: st)) : cj_G Y X o μ pc lv st :=
  fun H locs ls hW hS hL => lv_iconst C.1 C.2.1 hdg hv (kk H locs ls hW hS hL)
theorem cj_bipush (C : cj_C Y X cc nL own d ret) {n : Int} (v : Int32) (hdg : decode cc pc = .ok (.bipush n, 2)) (hv : (Int8.ofInt n).toInt32 = v) (kk : cj_G Y X o μ (pc + 2) lv (.int v :: st)) : cj_G Y X o μ pc lv st :=
  fun H locs ls hW hS hL => lv_bipush C.1 C.2.1 hdg hv (kk H locs ls hW hS hL)
theorem cj_sipush (C : cj_C Y X cc nL own d ret) {n : Int} (v : Int32) (hdg : decode cc pc = .ok (.sipush n, 3)) (hv : (Int16.ofInt n).toInt32 = v) (kk : cj_G Y X o μ (pc + 3) lv (.int v :: st)) : cj_G Y X o μ pc lv st :=
  fun H locs ls hW hS hL => lv_sipush C.1 C.2.1 hdg hv (kk H locs ls hW hS hL)
theorem cj_ldc (C : cj_C Y X cc nL own d ret) {index : Nat} {v : Int32} (hw : Cond.constant own index v ∈ cj_ws) (hdg : decode cc pc = .ok (.ldc index, 2)) (kk : cj_G Y X o μ (pc + 2) lv (.int v :: st)) : cj_G Y X o μ pc lv st :=
  fun H locs ls hW hS hL => lv_ldc C.1 C.2.1 C.2.2.2.1 (C.2.2.2.2.1 _ hw) hdg (kk H locs ls hW hS hL)
theorem cj_ldcw (C : cj_C Y X cc nL own d ret) {index : Nat} {v : Int32} (hw : Cond.constant own index v ∈ cj_ws) (hdg : decode cc pc = .ok (.ldc_w index, 3)) (kk : cj_G Y X o μ (pc + 3) lv (.int v :: st)) : cj_G Y X o μ pc lv st :=
  fun H locs ls hW hS hL => lv_ldcw C.1 C.2.1 C.2.2.2.1 (C.2.2.2.2.1 _ hw) hdg (kk H locs ls hW hS hL)
theorem cj_ldcf (C : cj_C Y X cc nL own d ret) {index : Nat} {v : UInt32} (hw : Cond.constantFloat own index v ∈ cj_ws) (hdg : decode cc pc = .ok (.ldc index, 2)) (kk : cj_G Y X o μ (pc + 2) lv (.float v :: st)) : cj_G Y X o μ pc lv st :=
  fun H locs ls hW hS hL => lv_ldcf C.1 C.2.1 C.2.2.2.1 (C.2.2.2.2.1 _ hw) hdg (kk H locs ls hW hS hL)
theorem cj_istore_n (C : cj_C Y X cc nL own d ret) {k : Fin 4} {i : Nat} {x : Int32} (hdg : decode cc pc = .ok (.istore_n k, 1)) (hi : (k : Nat) = i) (hn : i < nL) (hl : (i, Value.int x) :: lv.filter (fun q => !(q.1 == i) && !(q.1 + 1 == i && q.2.category == 2)) = lv') (kk : cj_G Y X o μ (pc + 1) lv' st) : cj_G Y X o μ pc lv (.int x :: st) :=
  fun H locs ls hW hS hL => lv_istore_n C.1 C.2.1 hdg hi hL (by rw [C.2.2.1]; exact hn) hl (fun ls' h => kk H locs ls' hW hS h)
theorem cj_istore (C : cj_C Y X cc nL own d ret) {i : Nat} {x : Int32} (hdg : decode cc pc = .ok (.istore i, 2)) (hn : i < nL) (hl : (i, Value.int x) :: lv.filter (fun q => !(q.1 == i) && !(q.1 + 1 == i && q.2.category == 2)) = lv') (kk : cj_G Y X o μ (pc + 2) lv' st) : cj_G Y X o μ pc lv (.int x :: st) :=
  fun H locs ls hW hS hL => lv_istore C.1 C.2.1 hdg hL (by rw [C.2.2.1]; exact hn) hl (fun ls' h => kk H locs ls' hW hS h)
theorem cj_astore_n (C : cj_C Y X cc nL own d ret) {k : Fin 4} {i : Nat} {x : Nat} (hdg : decode cc pc = .ok (.astore_n k, 1)) (hi : (k : Nat) = i) (hn : i < nL) (hl : (i, Value.ref x) :: lv.filter (fun q => !(q.1 == i) && !(q.1 + 1 == i && q.2.category == 2)) = lv') (kk : cj_G Y X o μ (pc + 1) lv' st) : cj_G Y X o μ pc lv (.ref x :: st) :=
  fun H locs ls hW hS hL => lv_astore_n C.1 C.2.1 hdg hi hL (by rw [C.2.2.1]; exact hn) hl (fun ls' h => kk H locs ls' hW hS h)
theorem cj_fstore_n (C : cj_C Y X cc nL own d ret) {k : Fin 4} {i : Nat} {x : UInt32} (hdg : decode cc pc = .ok (.fstore_n k, 1)) (hi : (k : Nat) = i) (hn : i < nL) (hl : (i, Value.float x) :: lv.filter (fun q => !(q.1 == i) && !(q.1 + 1 == i && q.2.category == 2)) = lv') (kk : cj_G Y X o μ (pc + 1) lv' st) : cj_G Y X o μ pc lv (.float x :: st) :=
  fun H locs ls hW hS hL => lv_fstore_n C.1 C.2.1 hdg hi hL (by rw [C.2.2.1]; exact hn) hl (fun ls' h => kk H locs ls' hW hS h)
theorem cj_iinc (C : cj_C Y X cc nL own d ret) {i j : Nat} {n : Int} {x v : Int32} (hdg : decode cc pc = .ok (.iinc i n, 3)) (hk : lv[j]? = some (i, .int x)) (hv : x + Int32.ofInt n = v) (hn : i < nL) (hl : (i, Value.int v) :: lv.filter (fun q => !(q.1 == i) && !(q.1 + 1 == i && q.2.category == 2)) = lv') (kk : cj_G Y X o μ (pc + 3) lv' st) : cj_G Y X o μ pc lv st :=
  fun H locs ls hW hS hL => lv_iinc C.1 C.2.1 hdg hL hk hv (by rw [C.2.2.1]; exact hn) hl (fun ls' h => kk H locs ls' hW hS h)
theorem cj_iadd (C : cj_C Y X cc nL own d ret) {x y : Int32} (hdg : decode cc pc = .ok (.iadd, 1)) (kk : cj_G Y X o μ (pc + 1) lv (.int (x + y) :: st)) : cj_G Y X o μ pc lv (.int y :: .int x :: st) := fun H locs ls hW hS hL => lv_iadd C.1 C.2.1 hdg (kk H locs ls hW hS hL)
theorem cj_isub (C : cj_C Y X cc nL own d ret) {x y : Int32} (hdg : decode cc pc = .ok (.isub, 1)) (kk : cj_G Y X o μ (pc + 1) lv (.int (x - y) :: st)) : cj_G Y X o μ pc lv (.int y :: .int x :: st) := fun H locs ls hW hS hL => lv_isub C.1 C.2.1 hdg (kk H locs ls hW hS hL)
theorem cj_imul (C : cj_C Y X cc nL own d ret) {x y : Int32} (hdg : decode cc pc = .ok (.imul, 1)) (kk : cj_G Y X o μ (pc + 1) lv (.int (x * y) :: st)) : cj_G Y X o μ pc lv (.int y :: .int x :: st) := fun H locs ls hW hS hL => lv_imul C.1 C.2.1 hdg (kk H locs ls hW hS hL)
theorem cj_idiv (C : cj_C Y X cc nL own d ret) {x y : Int32} (hdg : decode cc pc = .ok (.idiv, 1)) (hne : ¬ y = 0) (kk : cj_G Y X o μ (pc + 1) lv (.int (x / y) :: st)) : cj_G Y X o μ pc lv (.int y :: .int x :: st) := fun H locs ls hW hS hL => lv_idiv C.1 C.2.1 hdg hne (kk H locs ls hW hS hL)
theorem cj_irem (C : cj_C Y X cc nL own d ret) {x y : Int32} (hdg : decode cc pc = .ok (.irem, 1)) (hne : ¬ y = 0) (kk : cj_G Y X o μ (pc + 1) lv (.int (x - x / y * y) :: st)) : cj_G Y X o μ pc lv (.int y :: .int x :: st) := fun H locs ls hW hS hL => lv_irem C.1 C.2.1 hdg hne (kk H locs ls hW hS hL)
theorem cj_iand (C : cj_C Y X cc nL own d ret) {x y : Int32} (hdg : decode cc pc = .ok (.iand, 1)) (kk : cj_G Y X o μ (pc + 1) lv (.int (x &&& y) :: st)) : cj_G Y X o μ pc lv (.int y :: .int x :: st) := fun H locs ls hW hS hL => lv_iand C.1 C.2.1 hdg (kk H locs ls hW hS hL)
theorem cj_ior (C : cj_C Y X cc nL own d ret) {x y : Int32} (hdg : decode cc pc = .ok (.ior, 1)) (kk : cj_G Y X o μ (pc + 1) lv (.int (x ||| y) :: st)) : cj_G Y X o μ pc lv (.int y :: .int x :: st) := fun H locs ls hW hS hL => lv_ior C.1 C.2.1 hdg (kk H locs ls hW hS hL)
theorem cj_ixor (C : cj_C Y X cc nL own d ret) {x y : Int32} (hdg : decode cc pc = .ok (.ixor, 1)) (kk : cj_G Y X o μ (pc + 1) lv (.int (x ^^^ y) :: st)) : cj_G Y X o μ pc lv (.int y :: .int x :: st) := fun H locs ls hW hS hL => lv_ixor C.1 C.2.1 hdg (kk H locs ls hW hS hL)
theorem cj_ishl (C : cj_C Y X cc nL own d ret) {x y : Int32} (hdg : decode cc pc = .ok (.ishl, 1)) (kk : cj_G Y X o μ (pc + 1) lv (.int (x <<< (y &&& 31)) :: st)) : cj_G Y X o μ pc lv (.int y :: .int x :: st) := fun H locs ls hW hS hL => lv_ishl C.1 C.2.1 hdg (kk H locs ls hW hS hL)
theorem cj_ishr (C : cj_C Y X cc nL own d ret) {x y : Int32} (hdg : decode cc pc = .ok (.ishr, 1)) (kk : cj_G Y X o μ (pc + 1) lv (.int (x >>> (y &&& 31)) :: st)) : cj_G Y X o μ pc lv (.int y :: .int x :: st) := fun H locs ls hW hS hL => lv_ishr C.1 C.2.1 hdg (kk H locs ls hW hS hL)
/-- unsigned shift -/
def cj_us (x y : Int32) : Int32 := (x.toUInt32 >>> (y.toUInt32 &&& Int32.toUInt32 31)).toInt32
theorem cj_iushr (C : cj_C Y X cc nL own d ret) {x y : Int32} (hdg : decode cc pc = .ok (.iushr, 1)) (kk : cj_G Y X o μ (pc + 1) lv (.int (cj_us x y) :: st)) : cj_G Y X o μ pc lv (.int y :: .int x :: st) := fun H locs ls hW hS hL => lv_iushr C.1 C.2.1 hdg rfl (kk H locs ls hW hS hL)
theorem cj_ineg (C : cj_C Y X cc nL own d ret) {x : Int32} (hdg : decode cc pc = .ok (.ineg, 1)) (kk : cj_G Y X o μ (pc + 1) lv (.int (-x) :: st)) : cj_G Y X o μ pc lv (.int x :: st) := fun H locs ls hW hS hL => lv_ineg C.1 C.2.1 hdg (kk H locs ls hW hS hL)
/-- to a char -/
def cj_ch (x : Int32) : Int32 := (x.toUInt32 % 65536).toInt32
theorem cj_i2c (C : cj_C Y X cc nL own d ret) {x : Int32} (hdg : decode cc pc = .ok (.i2c, 1)) (kk : cj_G Y X o μ (pc + 1) lv (.int (cj_ch x) :: st)) : cj_G Y X o μ pc lv (.int x :: st) := fun H locs ls hW hS hL => lv_i2c C.1 C.2.1 hdg rfl (kk H locs ls hW hS hL)
theorem cj_i2f (C : cj_C Y X cc nL own d ret) {x : Int32} (hdg : decode cc pc = .ok (.i2f, 1)) (kk : cj_G Y X o μ (pc + 1) lv (.float (FP.i2f x) :: st)) : cj_G Y X o μ pc lv (.int x :: st) := fun H locs ls hW hS hL => lv_i2f C.1 C.2.1 hdg (kk H locs ls hW hS hL)
theorem cj_f2i (C : cj_C Y X cc nL own d ret) {x : UInt32} (hdg : decode cc pc = .ok (.f2i, 1)) (kk : cj_G Y X o μ (pc + 1) lv (.int (FP.f2i x) :: st)) : cj_G Y X o μ pc lv (.float x :: st) := fun H locs ls hW hS hL => lv_f2i C.1 C.2.1 hdg (kk H locs ls hW hS hL)
theorem cj_fcmp (C : cj_C Y X cc nL own d ret) {x y : UInt32} {op : CmpOp} (hdg : decode cc pc = .ok (.fcmp op, 1)) (kk : cj_G Y X o μ (pc + 1) lv (.int (Op.cmpValue (FP.fcmp x y) op) :: st)) : cj_G Y X o μ pc lv (.float y :: .float x :: st) := fun H locs ls hW hS hL => lv_fcmp C.1 C.2.1 hdg (kk H locs ls hW hS hL)
theorem cj_dup (C : cj_C Y X cc nL own d ret) {a : Value} (hdg : decode cc pc = .ok (.dup, 1)) (ha : a.category = 1) (kk : cj_G Y X o μ (pc + 1) lv (a :: a :: st)) : cj_G Y X o μ pc lv (a :: st) := fun H locs ls hW hS hL => lv_dup C.1 C.2.1 hdg ha (kk H locs ls hW hS hL)
theorem cj_goto (C : cj_C Y X cc nL own d ret) {off : Int} (tgt : Nat) (hdg : decode cc pc = .ok (.goto off, 3)) (ht : (pc : Int) + off = (tgt : Int)) (kk : cj_G Y X o μ tgt lv st) : cj_G Y X o μ pc lv st := fun H locs ls hW hS hL => lv_goto C.1 C.2.1 hdg ht (kk H locs ls hW hS hL)
theorem cj_sub (ks : List Nat) (hl : lv_pick lv ks = lv') (kk : cj_G Y X o μ pc lv' st) : cj_G Y X o μ pc lv st := fun H locs ls hW hS hL => kk H locs ls hW hS (lv_sub hL ks hl)
end CJ1
end
section
/-! functions' words: a guard of an index, a name for a value, what comes behind a call -/
def cj_gd {α : Type} (i : Int32) (n : Nat) (k : Option α) : Option α := if i < 0 ∨ n ≤ i.toNatClampNeg then none else k
theorem cj_gd_s {α : Type} {i : Int32} {n : Nat} {k : Option α} {r : α} (h : cj_gd i n k = some r) : vp_in i n ∧ k = some r := by
  unfold cj_gd at h
  by_cases q : i < 0 ∨ n ≤ i.toNatClampNeg
  · rw [if_pos q] at h; cases h
  · rw [if_neg q] at h; exact ⟨q, h⟩
def cj_gp {α : Type} (p : Prop) [Decidable p] (k : Option α) : Option α := if p then k else none
theorem cj_gp_s {α : Type} {p : Prop} [Decidable p] {k : Option α} {r : α} (h : cj_gp p k = some r) : p ∧ k = some r := by
  unfold cj_gp at h
  by_cases q : p
  · rw [if_pos q] at h; exact ⟨q, h⟩
  · rw [if_neg q] at h; cases h
def cj_lt {α : Type} {β : Type} (v : α) (K : α → β) : β := K v
def cj_bd {α : Type} {β : Type} (x : Option α) (k : α → Option β) : Option β := x.bind k
theorem cj_bd_s {α : Type} {β : Type} {x : Option α} {k : α → Option β} {r : β} (h : cj_bd x k = some r) : ∃ a, x = some a ∧ k a = some r := by
  unfold cj_bd at h
  exact Option.bind_eq_some_iff.mp h
def cj_bp {α : Type} {β : Type} {γ : Type} (x : Option (α × β)) (k : α → β → Option γ) : Option γ := x.bind (fun p => k p.1 p.2)
theorem cj_bp_s {α : Type} {β : Type} {γ : Type} {x : Option (α × β)} {k : α → β → Option γ} {r : γ} (h : cj_bp x k = some r) : ∃ a b, x = some (a, b) ∧ k a b = some r := by
  unfold cj_bp at h
  obtain ⟨⟨a, b⟩, h1, h2⟩ := Option.bind_eq_some_iff.mp h
  exact ⟨a, b, h1, h2⟩
theorem cj_by {α : Type} {P : Prop} {x v : Int32} {A B : Option α} {r : α} (hf : (if x = v then A else B) = some r) (kt : x = v → A = some r → P) (kf : ¬ x = v → B = some r → P) : P := by
  by_cases q : x = v
  · rw [if_pos q] at hf; exact kt q hf
  · rw [if_neg q] at hf; exact kf q hf
/-! memories -/
def cj_upr (σ : Nat → Nat → Int32) (k : Nat) (f : Nat → Int32) : Nat → Nat → Int32 := fun a => if a = k then f else σ a
def cj_up2 (σ : Nat → Nat → Int32) (k j : Nat) (v : Int32) : Nat → Nat → Int32 := cj_upr σ k (upd (σ k) j v)
def cj_upG (μ : cj_Mm) (g : Nat) (σ : Nat → Nat → Int32) : cj_Mm := fun x => if x = g then σ else μ x
theorem cj_upr_s (σ : Nat → Nat → Int32) (k : Nat) (f : Nat → Int32) : cj_upr σ k f k = f := if_pos rfl
theorem cj_upr_o {σ : Nat → Nat → Int32} {k a : Nat} {f : Nat → Int32} (h : ¬ a = k) : cj_upr σ k f a = σ a := if_neg h
theorem cj_upG_s (μ : cj_Mm) (g : Nat) (σ : Nat → Nat → Int32) : cj_upG μ g σ g = σ := if_pos rfl
theorem cj_upG_o {μ : cj_Mm} {g x : Nat} {σ : Nat → Nat → Int32} (h : ¬ x = g) : cj_upG μ g σ x = μ x := if_neg h
theorem cj_upG_i (μ : cj_Mm) (g : Nat) : cj_upG μ g (μ g) = μ := by
  funext x
  unfold cj_upG
  by_cases h : x = g
  · rw [if_pos h, h]
  · rw [if_neg h]
theorem cj_upG_u (μ : cj_Mm) (g : Nat) (σ τ : Nat → Nat → Int32) : cj_upG (cj_upG μ g σ) g τ = cj_upG μ g τ := by
  funext x
  unfold cj_upG
  by_cases h : x = g
  · rw [if_pos h, if_pos h]
  · rw [if_neg h, if_neg h, if_neg h]
theorem cj_Wd.put {E : cj_En} {D : va_G} {ad : cj_Ad} {μ : cj_Mm} {H H1 : Heap} {g k : Nat} {F : cj_Fc} {f : Nat → Int32} (hW : cj_Wd E D ad μ H) (hI : cj_Ij E ad) (he : E ad g k = some F) (h1 : va_at D cj_cl (ad g k, F f) H1) (oq : ∀ q : Nat, q ≠ ad g k → H1[q]? = H[q]?) : cj_Wd E D ad (cj_upG μ g (cj_upr (μ g) k f)) H1 := by
  intro g' k' F' he'
  by_cases h : g' = g ∧ k' = k
  · obtain ⟨rfl, rfl⟩ := h
    rw [cj_upG_s, cj_upr_s]
    rw [he] at he'
    cases he'
    exact h1
  · have hne : ad g' k' ≠ ad g k := fun e => h (hI g' k' g k F' F he' he e)
    have hs : cj_upG μ g (cj_upr (μ g) k f) g' k' = μ g' k' := by
      by_cases hg : g' = g
      · subst hg
        rw [cj_upG_s, cj_upr_o (fun e => h ⟨rfl, e⟩)]
      · rw [cj_upG_o hg]
    rw [hs]
    exact (hW g' k' F' he').kept (oq _ hne)
section CJ2
variable {Y : cj_Y} {X : cj_X} {o : Option Value × cj_Mm} {μ : cj_Mm} {pc : Nat} {lv lv' : List (Nat × Value)} {st : List Value} {cc : ByteArray} {nL d : Nat} {own : String} {ret : Option FieldType} {α : Type} {A B : Option α} {r : α}
theorem cj_if_eq (C : cj_C Y X cc nL own d ret) {x : Int32} {off : Int} (tgt : Nat) (hdg : decode cc pc = .ok (.ifCond .eq off, 3)) (ht : (pc : Int) + off = (tgt : Int)) (hf : (if x = 0 then A else B) = some r) (kt : A = some r → cj_G Y X o μ tgt lv st) (kf : B = some r → cj_G Y X o μ (pc + 3) lv st) : cj_G Y X o μ pc lv (.int x :: st) :=
  fun H locs ls hW hS hL => lv_if_eq C.1 C.2.1 hdg ht (fun h => kt (by rw [if_pos h] at hf; exact hf) H locs ls hW hS hL) (fun h => kf (by rw [if_neg h] at hf; exact hf) H locs ls hW hS hL)
theorem cj_if_ne (C : cj_C Y X cc nL own d ret) {x : Int32} {off : Int} (tgt : Nat) (hdg : decode cc pc = .ok (.ifCond .ne off, 3)) (ht : (pc : Int) + off = (tgt : Int)) (hf : (if x = 0 then B else A) = some r) (kt : A = some r → cj_G Y X o μ tgt lv st) (kf : B = some r → cj_G Y X o μ (pc + 3) lv st) : cj_G Y X o μ pc lv (.int x :: st) :=
  fun H locs ls hW hS hL => lv_if_ne C.1 C.2.1 hdg ht (fun h => kt (by rw [if_neg h] at hf; exact hf) H locs ls hW hS hL) (fun h => kf (by rw [if_pos h] at hf; exact hf) H locs ls hW hS hL)
theorem cj_if_lt (C : cj_C Y X cc nL own d ret) {x : Int32} {off : Int} (tgt : Nat) (hdg : decode cc pc = .ok (.ifCond .lt off, 3)) (ht : (pc : Int) + off = (tgt : Int)) (hf : (if x < 0 then A else B) = some r) (kt : A = some r → cj_G Y X o μ tgt lv st) (kf : B = some r → cj_G Y X o μ (pc + 3) lv st) : cj_G Y X o μ pc lv (.int x :: st) :=
  fun H locs ls hW hS hL => lv_if_lt C.1 C.2.1 hdg ht (fun h => kt (by rw [if_pos h] at hf; exact hf) H locs ls hW hS hL) (fun h => kf (by rw [if_neg h] at hf; exact hf) H locs ls hW hS hL)
theorem cj_if_ge (C : cj_C Y X cc nL own d ret) {x : Int32} {off : Int} (tgt : Nat) (hdg : decode cc pc = .ok (.ifCond .ge off, 3)) (ht : (pc : Int) + off = (tgt : Int)) (hf : (if 0 ≤ x then A else B) = some r) (kt : A = some r → cj_G Y X o μ tgt lv st) (kf : B = some r → cj_G Y X o μ (pc + 3) lv st) : cj_G Y X o μ pc lv (.int x :: st) :=
  fun H locs ls hW hS hL => lv_if_ge C.1 C.2.1 hdg ht (fun h => kt (by rw [if_pos h] at hf; exact hf) H locs ls hW hS hL) (fun h => kf (by rw [if_neg h] at hf; exact hf) H locs ls hW hS hL)
theorem cj_if_gt (C : cj_C Y X cc nL own d ret) {x : Int32} {off : Int} (tgt : Nat) (hdg : decode cc pc = .ok (.ifCond .gt off, 3)) (ht : (pc : Int) + off = (tgt : Int)) (hf : (if 0 < x then A else B) = some r) (kt : A = some r → cj_G Y X o μ tgt lv st) (kf : B = some r → cj_G Y X o μ (pc + 3) lv st) : cj_G Y X o μ pc lv (.int x :: st) :=
  fun H locs ls hW hS hL => lv_if_gt C.1 C.2.1 hdg ht (fun h => kt (by rw [if_pos h] at hf; exact hf) H locs ls hW hS hL) (fun h => kf (by rw [if_neg h] at hf; exact hf) H locs ls hW hS hL)
theorem cj_if_le (C : cj_C Y X cc nL own d ret) {x : Int32} {off : Int} (tgt : Nat) (hdg : decode cc pc = .ok (.ifCond .le off, 3)) (ht : (pc : Int) + off = (tgt : Int)) (hf : (if x ≤ 0 then A else B) = some r) (kt : A = some r → cj_G Y X o μ tgt lv st) (kf : B = some r → cj_G Y X o μ (pc + 3) lv st) : cj_G Y X o μ pc lv (.int x :: st) :=
  fun H locs ls hW hS hL => lv_if_le C.1 C.2.1 hdg ht (fun h => kt (by rw [if_pos h] at hf; exact hf) H locs ls hW hS hL) (fun h => kf (by rw [if_neg h] at hf; exact hf) H locs ls hW hS hL)
theorem cj_ic_eq (C : cj_C Y X cc nL own d ret) {x y : Int32} {off : Int} (tgt : Nat) (hdg : decode cc pc = .ok (.if_icmp .eq off, 3)) (ht : (pc : Int) + off = (tgt : Int)) (hf : (if x = y then A else B) = some r) (kt : A = some r → cj_G Y X o μ tgt lv st) (kf : B = some r → cj_G Y X o μ (pc + 3) lv st) : cj_G Y X o μ pc lv (.int y :: .int x :: st) :=
  fun H locs ls hW hS hL => lv_icmp_eq C.1 C.2.1 hdg ht (fun h => kt (by rw [if_pos h] at hf; exact hf) H locs ls hW hS hL) (fun h => kf (by rw [if_neg h] at hf; exact hf) H locs ls hW hS hL)
theorem cj_ic_ne (C : cj_C Y X cc nL own d ret) {x y : Int32} {off : Int} (tgt : Nat) (hdg : decode cc pc = .ok (.if_icmp .ne off, 3)) (ht : (pc : Int) + off = (tgt : Int)) (hf : (if x = y then B else A) = some r) (kt : A = some r → cj_G Y X o μ tgt lv st) (kf : B = some r → cj_G Y X o μ (pc + 3) lv st) : cj_G Y X o μ pc lv (.int y :: .int x :: st) :=
  fun H locs ls hW hS hL => lv_icmp_ne C.1 C.2.1 hdg ht (fun h => kt (by rw [if_neg h] at hf; exact hf) H locs ls hW hS hL) (fun h => kf (by rw [if_pos h] at hf; exact hf) H locs ls hW hS hL)
theorem cj_ic_lt (C : cj_C Y X cc nL own d ret) {x y : Int32} {off : Int} (tgt : Nat) (hdg : decode cc pc = .ok (.if_icmp .lt off, 3)) (ht : (pc : Int) + off = (tgt : Int)) (hf : (if x < y then A else B) = some r) (kt : A = some r → cj_G Y X o μ tgt lv st) (kf : B = some r → cj_G Y X o μ (pc + 3) lv st) : cj_G Y X o μ pc lv (.int y :: .int x :: st) :=
  fun H locs ls hW hS hL => lv_icmp_lt C.1 C.2.1 hdg ht (fun h => kt (by rw [if_pos h] at hf; exact hf) H locs ls hW hS hL) (fun h => kf (by rw [if_neg h] at hf; exact hf) H locs ls hW hS hL)
theorem cj_ic_ge (C : cj_C Y X cc nL own d ret) {x y : Int32} {off : Int} (tgt : Nat) (hdg : decode cc pc = .ok (.if_icmp .ge off, 3)) (ht : (pc : Int) + off = (tgt : Int)) (hf : (if y ≤ x then A else B) = some r) (kt : A = some r → cj_G Y X o μ tgt lv st) (kf : B = some r → cj_G Y X o μ (pc + 3) lv st) : cj_G Y X o μ pc lv (.int y :: .int x :: st) :=
  fun H locs ls hW hS hL => lv_icmp_ge C.1 C.2.1 hdg ht (fun h => kt (by rw [if_pos h] at hf; exact hf) H locs ls hW hS hL) (fun h => kf (by rw [if_neg h] at hf; exact hf) H locs ls hW hS hL)
theorem cj_ic_gt (C : cj_C Y X cc nL own d ret) {x y : Int32} {off : Int} (tgt : Nat) (hdg : decode cc pc = .ok (.if_icmp .gt off, 3)) (ht : (pc : Int) + off = (tgt : Int)) (hf : (if y < x then A else B) = some r) (kt : A = some r → cj_G Y X o μ tgt lv st) (kf : B = some r → cj_G Y X o μ (pc + 3) lv st) : cj_G Y X o μ pc lv (.int y :: .int x :: st) :=
  fun H locs ls hW hS hL => lv_icmp_gt C.1 C.2.1 hdg ht (fun h => kt (by rw [if_pos h] at hf; exact hf) H locs ls hW hS hL) (fun h => kf (by rw [if_neg h] at hf; exact hf) H locs ls hW hS hL)
theorem cj_ic_le (C : cj_C Y X cc nL own d ret) {x y : Int32} {off : Int} (tgt : Nat) (hdg : decode cc pc = .ok (.if_icmp .le off, 3)) (ht : (pc : Int) + off = (tgt : Int)) (hf : (if x ≤ y then A else B) = some r) (kt : A = some r → cj_G Y X o μ tgt lv st) (kf : B = some r → cj_G Y X o μ (pc + 3) lv st) : cj_G Y X o μ pc lv (.int y :: .int x :: st) :=
  fun H locs ls hW hS hL => lv_icmp_le C.1 C.2.1 hdg ht (fun h => kt (by rw [if_pos h] at hf; exact hf) H locs ls hW hS hL) (fun h => kf (by rw [if_neg h] at hf; exact hf) H locs ls hW hS hL)
theorem cj_ifnull (C : cj_C Y X cc nL own d ret) {x : Nat} {off : Int} (hdg : decode cc pc = .ok (.ifnull off, 3)) (kk : cj_G Y X o μ (pc + 3) lv st) : cj_G Y X o μ pc lv (.ref x :: st) := fun H locs ls hW hS hL => lv_ifnull C.1 C.2.1 hdg (kk H locs ls hW hS hL)
theorem cj_dup2 (C : cj_C Y X cc nL own d ret) {a b : Value} (hdg : decode cc pc = .ok (.dup2, 1)) (ha : a.category = 1) (hb : b.category = 1) (kk : cj_G Y X o μ (pc + 1) lv (a :: b :: a :: b :: st)) : cj_G Y X o μ pc lv (a :: b :: st) := fun H locs ls hW hS hL => lv_dup2_11 C.1 C.2.1 hdg ha hb (kk H locs ls hW hS hL)
theorem cj_fconst0 (C : cj_C Y X cc nL own d ret) (hdg : decode cc pc = .ok (.fconst 0, 1)) (kk : cj_G Y X o μ (pc + 1) lv (.float FP.fconst0 :: st)) : cj_G Y X o μ pc lv st := fun H locs ls hW hS hL => lv_fconst0 C.1 C.2.1 hdg (kk H locs ls hW hS hL)
theorem cj_fconst1 (C : cj_C Y X cc nL own d ret) (hdg : decode cc pc = .ok (.fconst 1, 1)) (kk : cj_G Y X o μ (pc + 1) lv (.float FP.fconst1 :: st)) : cj_G Y X o μ pc lv st := fun H locs ls hW hS hL => lv_fconst1 C.1 C.2.1 hdg (kk H locs ls hW hS hL)
theorem cj_fconst2 (C : cj_C Y X cc nL own d ret) (hdg : decode cc pc = .ok (.fconst 2, 1)) (kk : cj_G Y X o μ (pc + 1) lv (.float FP.fconst2 :: st)) : cj_G Y X o μ pc lv st := fun H locs ls hW hS hL => lv_fconst2 C.1 C.2.1 hdg (kk H locs ls hW hS hL)
theorem cj_fdiv (C : cj_C Y X cc nL own d ret) {x y : UInt32} (hdg : decode cc pc = .ok (.fdiv, 1)) (hf : cj_gp (FP.fdiv x y &&& 0x7fffffff ≤ 0x7f800000) A = some r) (kk : A = some r → cj_G Y X o μ (pc + 1) lv (.float (FP.fdiv x y) :: st)) : cj_G Y X o μ pc lv (.float y :: .float x :: st) := fun H locs ls hW hS hL => lv_fdiv C.1 C.2.1 hdg (cj_gp_s hf).1 (kk (cj_gp_s hf).2 H locs ls hW hS hL)
theorem cj_fmul (C : cj_C Y X cc nL own d ret) {x y : UInt32} (hdg : decode cc pc = .ok (.fmul, 1)) (hf : cj_gp (FP.fmul x y &&& 0x7fffffff ≤ 0x7f800000) A = some r) (kk : A = some r → cj_G Y X o μ (pc + 1) lv (.float (FP.fmul x y) :: st)) : cj_G Y X o μ pc lv (.float y :: .float x :: st) := fun H locs ls hW hS hL => lv_fmul C.1 C.2.1 hdg (cj_gp_s hf).1 (kk (cj_gp_s hf).2 H locs ls hW hS hL)
theorem cj_fsub (C : cj_C Y X cc nL own d ret) {x y : UInt32} (hdg : decode cc pc = .ok (.fsub, 1)) (hf : cj_gp (FP.fsub x y &&& 0x7fffffff ≤ 0x7f800000) A = some r) (kk : A = some r → cj_G Y X o μ (pc + 1) lv (.float (FP.fsub x y) :: st)) : cj_G Y X o μ pc lv (.float y :: .float x :: st) := fun H locs ls hW hS hL => lv_fsub C.1 C.2.1 hdg (cj_gp_s hf).1 (kk (cj_gp_s hf).2 H locs ls hW hS hL)
/-! switches -/
theorem cj_tabI (C : cj_C Y X cc nL own d ret) {dflt lo hi : Int} {offs : Array Int} {len : Nat} {x v : Int32} {off : Int} (tgt : Nat) (h : x = v) (hdg : decode cc pc = .ok (.tableswitch dflt lo hi offs, len)) (h1 : ¬ v.toInt < lo) (h2 : ¬ hi < v.toInt) (ho : offs[(v.toInt - lo).toNat]? = some off) (ht : (pc : Int) + off = (tgt : Int)) (kk : cj_G Y X o μ tgt lv st) : cj_G Y X o μ pc lv (.int x :: st) := by
  subst h
  exact fun H locs ls hW hS hL => lv_tableIn C.1 C.2.1 hdg h1 h2 ho ht (kk H locs ls hW hS hL)
def cj_tck (pc tgt : Nat) (lo hi : Int) (offs : Array Int) (cs : List Int32) : Bool := (List.range (hi + 1 - lo).toNat).all fun k => cs.contains (Int32.ofInt (lo + k)) || (match offs[k]? with | some off => decide ((pc : Int) + off = (tgt : Int)) | none => false)
theorem cj_tabD (C : cj_C Y X cc nL own d ret) {dflt lo hi : Int} {offs : Array Int} {len : Nat} {x : Int32} (tgt : Nat) (cs : List Int32) (hn : ∀ v ∈ cs, ¬ x = v) (hdg : decode cc pc = .ok (.tableswitch dflt lo hi offs, len)) (hck : cj_tck pc tgt lo hi offs cs = true) (ht : (pc : Int) + dflt = (tgt : Int)) (kk : cj_G Y X o μ tgt lv st) : cj_G Y X o μ pc lv (.int x :: st) := by
  intro H locs ls hW hS hL
  by_cases h : x.toInt < lo ∨ hi < x.toInt
  · exact lv_tableOut C.1 C.2.1 hdg h ht (kk H locs ls hW hS hL)
  · have h1 : ¬ x.toInt < lo := fun q => h (Or.inl q)
    have h2 : ¬ hi < x.toInt := fun q => h (Or.inr q)
    have hk : (x.toInt - lo).toNat < (hi + 1 - lo).toNat := by omega
    have h3 := List.all_eq_true.mp hck _ (List.mem_range.mpr hk)
    have e1 : lo + ((x.toInt - lo).toNat : Int) = x.toInt := by omega
    rw [e1, Bool.or_eq_true] at h3
    rcases h3 with h3 | h3
    · have e2 : Int32.ofInt x.toInt = x := by simp
      rw [e2] at h3
      exact absurd rfl (hn x (by simpa using h3))
    · cases ho : offs[(x.toInt - lo).toNat]? with
      | none => rw [ho] at h3; cases h3
      | some off =>
        rw [ho] at h3
        exact lv_tableIn C.1 C.2.1 hdg h1 h2 ho (of_decide_eq_true h3) (kk H locs ls hW hS hL)
theorem cj_lkI (C : cj_C Y X cc nL own d ret) {dflt : Int} {ps : Array (Int × Int)} {len : Nat} {x v : Int32} {off : Int} (tgt : Nat) (h : x = v) (hdg : decode cc pc = .ok (.lookupswitch dflt ps, len)) (hp : (ps.toList.zip (ps.toList.drop 1)).all (fun (a, next) => a.1 < next.1) = true) (ho : Op.lookupswitch.offset ps.toList dflt v.toInt = off) (ht : (pc : Int) + off = (tgt : Int)) (kk : cj_G Y X o μ tgt lv st) : cj_G Y X o μ pc lv (.int x :: st) := by
  subst h
  exact fun H locs ls hW hS hL => lv_lookup C.1 C.2.1 hdg hp ho ht (kk H locs ls hW hS hL)
theorem cj_lkO (x : Int32) (dflt : Int) (cs : List Int32) (hn : ∀ v ∈ cs, ¬ x = v) : ∀ ps : List (Int × Int), ps.all (fun p => cs.contains (Int32.ofInt p.1)) = true → Op.lookupswitch.offset ps dflt x.toInt = dflt
  | [], _ => rfl
  | (a, b) :: ps, h => by
    rw [List.all_cons, Bool.and_eq_true] at h
    rw [Op.lookupswitch.offset_cons, if_neg, cj_lkO x dflt cs hn ps h.2]
    intro e
    have h1 := h.1
    simp only [e] at h1
    have e2 : Int32.ofInt x.toInt = x := by simp
    rw [e2] at h1
    exact absurd rfl (hn x (by simpa using h1))
theorem cj_lkD (C : cj_C Y X cc nL own d ret) {dflt : Int} {ps : Array (Int × Int)} {len : Nat} {x : Int32} (tgt : Nat) (cs : List Int32) (hn : ∀ v ∈ cs, ¬ x = v) (hdg : decode cc pc = .ok (.lookupswitch dflt ps, len)) (hp : (ps.toList.zip (ps.toList.drop 1)).all (fun (a, next) => a.1 < next.1) = true) (hck : ps.toList.all (fun p => cs.contains (Int32.ofInt p.1)) = true) (ht : (pc : Int) + dflt = (tgt : Int)) (kk : cj_G Y X o μ tgt lv st) : cj_G Y X o μ pc lv (.int x :: st) :=
  fun H locs ls hW hS hL => lv_lookup C.1 C.2.1 hdg hp (cj_lkO x dflt cs hn _ hck) ht (kk H locs ls hW hS hL)
/-! ends -/
theorem cj_iret (C : cj_C Y X cc nL own d (some .int)) {v : Int32} {μ' : cj_Mm} (ho : o = (some (.int v), μ)) (hdg : decode cc pc = .ok (.ireturn, 1)) : cj_G Y X o μ pc lv [.int v] := by
  subst ho
  exact fun H locs ls hW hS hL => W.iret C.1 C.2.1 C.2.2.2.2.2.2.2.2.1 (fun t ht _ => ⟨rfl, by rw [ht]; exact hW, hS.F ht⟩) hS.2.2 hdg (hlocks := C.2.2.2.2.2.2.2.1)
theorem cj_zret (C : cj_C Y X cc nL own d ret) {ty : FieldType} {v : Int32} (hr : ret = some ty) (hn : narrow ty (.int v) = .int v) (ho : o = (some (.int v), μ)) (hdg : decode cc pc = .ok (.ireturn, 1)) : cj_G Y X o μ pc lv [.int v] := by
  subst ho
  exact fun H locs ls hW hS hL => W.zret C.1 C.2.1 (by rw [← hr]; exact C.2.2.2.2.2.2.2.2.1) hn (fun t ht _ => ⟨rfl, by rw [ht]; exact hW, hS.F ht⟩) hS.2.2 hdg (hlocks := C.2.2.2.2.2.2.2.1)
theorem cj_vret (C : cj_C Y X cc nL own d none) (ho : o = (none, μ)) (hdg : decode cc pc = .ok (.return_, 1)) : cj_G Y X o μ pc lv [] := by
  subst ho
  exact fun H locs ls hW hS hL => W.vret C.1 C.2.1 C.2.2.2.2.2.2.2.2.1 (fun t ht _ => ⟨rfl, by rw [ht]; exact hW, hS.F ht⟩) hS.2.2 hdg (hlocks := C.2.2.2.2.2.2.2.1)
end CJ2
end
section
/-! the heap's rows -/
theorem cj_sg {D : va_G} {a : Nat} {e : va_E} {H : Heap} (h : va_at D cj_cl (a, e) H) : va_P D cj_cl [(a, e)] H := by
  intro k q hk
  match k, hk with
  | 0, hk => cases hk; exact h
  | k + 1, hk => cases hk
section CJ3
variable {Y : cj_Y} {X : cj_X} {o : Option Value × cj_Mm} {μ : cj_Mm} {pc : Nat} {lv lv' : List (Nat × Value)} {st : List Value} {cc : ByteArray} {nL d : Nat} {own : String} {ret : Option FieldType} {α : Type} {A B : Option α} {r : α}
theorem cj_get (C : cj_C Y X cc nL own d ret) {g k ci j N index : Nat} {F : cj_Fc} {fs : List Value} {Cn rn nm ds : String} {fn : Bool} {T : u_T} {v : Value} (he : Y.1 Y.2.2.2 g k = some F) (hF : F (μ g k) = .inr (ci, fs)) (hc : cj_cl[ci]? = some (Cn, T, N)) (hin : ∀ w ∈ u_ws Cn T N, w ∈ cj_ws) (hj : j < N) (hT : T j = (rn, nm, ds, fn)) (hl : Cond.fieldLink own index rn nm ds ∈ cj_ws) (hv : fs[j]? = some v) (hdg : decode cc pc = .ok (.getfield index, 3)) (kk : cj_G Y X o μ (pc + 3) lv (v :: st)) : cj_G Y X o μ pc lv (.ref (Y.2.2.2 g k) :: st) := by
  intro H locs ls hW hS hL
  have h1 := hW g k F he
  rw [hF] at h1
  exact va_get (D := Y.2.1) (ref := rn) (tys := cj_ty Y.2.2.1) C.1 C.2.1 C.2.2.2.2.1 hin C.2.2.2.1 C.2.2.2.2.2.1.1 (cj_sg h1) 0 rfl hc j hj (by rw [hT]; exact C.2.2.2.2.1 _ hl) (by rw [hT]; exact fun _ h => h) hv hdg (kk H locs ls hW hS hL)
theorem cj_put (C : cj_C Y X cc nL own d ret) {g k ci j N index : Nat} {F : cj_Fc} {fs fs' : List Value} {Cn rn nm ds : String} {T : u_T} {ty0 : Nat → FieldType} {ty : FieldType} {x : Int32} (he : Y.1 Y.2.2.2 g k = some F) (hF : F (μ g k) = .inr (ci, fs)) (hF' : F (upd (μ g k) j x) = .inr (ci, fs')) (hfs : fs' = fs.set j (.int x)) (hc : cj_cl[ci]? = some (Cn, T, N)) (hin : ∀ w ∈ u_ws Cn T N, w ∈ cj_ws) (hty : ∀ k, k < N → parseFieldDescriptor (T k).2.2.1 = some (ty0 k)) (hnm : ∀ a, a < N → ∀ b, b < N → a ≠ b → (T a).2.1 ≠ (T b).2.1) (hj : j < N) (hT : T j = (rn, nm, ds, false)) (hl : Cond.fieldLink own index rn nm ds ∈ cj_ws) (hd : parseFieldDescriptor ds = some ty) (hn : narrow ty (.int x) = .int x) (hfit : fits ty (.int x) = true) (hlen : j < fs.length) (hdg : decode cc pc = .ok (.putfield index, 3)) (kk : cj_G Y X o (cj_upG μ g (cj_up2 (μ g) k j x)) (pc + 3) lv st) : cj_G Y X o μ pc lv (.int x :: .ref (Y.2.2.2 g k) :: st) := by
  intro H locs ls hW hS hL
  have hts := C.2.2.2.2.1
  have hK := C.2.2.2.2.2.1.1
  have hap := va_apart (own := own) hts hin ty0 hty hnm hK hc
  have h1 := hW g k F he
  rw [hF] at h1
  obtain ⟨q, h2, cell, q1, q2, q3, q4⟩ := h1
  have hr : q = (Cn, T, N) := Option.some.inj (h2.symm.trans hc)
  subst hr
  obtain ⟨hSl, hfc, kC, hkC, hkind⟩ := hK.1 ci _ hc
  obtain ⟨cf, kf, fi, f, hi, hsl⟩ := hSl j hj
  have hlay := hts _ (hin _ (u_in_lay hj))
  unfold u_lay at hlay
  rw [if_neg (by rw [hT]; exact Bool.false_ne_true)] at hlay
  have hst := (u_facts hfc hkC (u_lays hts hin hj) hi).1
  have h6 := u_store hfc hkC hkind hlay hi (by rw [hT]; exact hd) hn hfit
  have hlk : (Cond.fieldLink own index (T j).1 (T j).2.1 (T j).2.2.1).before X.2.2.2.2.2.2.1 X.2.2.2.2.1 = true := by rw [hT]; exact hts _ hl
  refine W.putK C.1 C.2.1 (f := f) ⟨C.2.2.2.1, hlk, ⟨_, _, _, hi⟩, hst⟩ (by rw [q2]; exact h6) q1 q3 (by rw [hsl]; exact k2_hasslot (q4 j hj)) rfl rfl hdg fun H' e1 e2 e3 => ?_
  rw [hsl] at e1 ⊢
  refine kk H' _ ls (hW.put C.2.2.2.2.2.2.1 he ?_ e3) (hS.put e2 e3 ⟨g, k, F, he, rfl⟩) hL
  rw [hF', hfs]
  exact ⟨_, hc, t_OB.to (V := updV (vp_V fs) j (.int x)) ⟨_, e1, q2, q3, t_set q4 hap hj (.int x)⟩ (fun j _ => vp_updV_set hlen (.int x) j)⟩
theorem cj_iald (C : cj_C Y X cc nL own d ret) {g k n : Nat} {i : Int32} (he : Y.1 Y.2.2.2 g k = some (fun f => .inl (Y.2.2.1.1, n, .inl f))) (hdg : decode cc pc = .ok (.iaload, 1)) (hf : cj_gd i n A = some r) (kk : A = some r → cj_G Y X o μ (pc + 1) lv (.int (μ g k i.toNatClampNeg) :: st)) : cj_G Y X o μ pc lv (.int i :: .ref (Y.2.2.2 g k) :: st) :=
  fun H locs ls hW hS hL => va_iald (tys := cj_ty Y.2.2.1) C.1 C.2.1 C.2.2.2.2.2.1.1 (cj_sg (hW g k _ he)) 0 0 rfl rfl (cj_gd_s hf).1 hdg (kk (cj_gd_s hf).2 H locs ls hW hS hL)
theorem cj_cald (C : cj_C Y X cc nL own d ret) {g k n : Nat} {i : Int32} (he : Y.1 Y.2.2.2 g k = some (fun f => .inl (Y.2.2.1.2.1, n, .inl f))) (hdg : decode cc pc = .ok (.caload, 1)) (hf : cj_gd i n A = some r) (kk : A = some r → cj_G Y X o μ (pc + 1) lv (.int (μ g k i.toNatClampNeg) :: st)) : cj_G Y X o μ pc lv (.int i :: .ref (Y.2.2.2 g k) :: st) :=
  fun H locs ls hW hS hL => va_cald (tys := cj_ty Y.2.2.1) C.1 C.2.1 C.2.2.2.2.2.1.1 (cj_sg (hW g k _ he)) 0 1 rfl rfl (cj_gd_s hf).1 hdg (kk (cj_gd_s hf).2 H locs ls hW hS hL)
theorem cj_qald (C : cj_C Y X cc nL own d ret) {g k n : Nat} {q : Nat → Nat} {i : Int32} (he : Y.1 Y.2.2.2 g k = some (fun _ => .inl (Y.2.2.1.2.2, n, .inr (.inr (.inr (.inr (fun j => some (q j)))))))) (hdg : decode cc pc = .ok (.aaload, 1)) (hf : cj_gd i n A = some r) (kk : A = some r → cj_G Y X o μ (pc + 1) lv (.ref (q i.toNatClampNeg) :: st)) : cj_G Y X o μ pc lv (.int i :: .ref (Y.2.2.2 g k) :: st) :=
  fun H locs ls hW hS hL => va_aldq (tys := cj_ty Y.2.2.1) C.1 C.2.1 C.2.2.2.2.2.1.1 (cj_sg (hW g k _ he)) 0 2 rfl rfl (cj_gd_s hf).1 hdg (kk (cj_gd_s hf).2 H locs ls hW hS hL)
theorem cj_alen (C : cj_C Y X cc nL own d ret) {g k n : Nat} {v : Int32} (he : Y.1 Y.2.2.2 g k = some (fun f => .inl (Y.2.2.1.1, n, .inl f))) (hv : Int32.ofNat n = v) (hdg : decode cc pc = .ok (.arraylength, 1)) (kk : cj_G Y X o μ (pc + 1) lv (.int v :: st)) : cj_G Y X o μ pc lv (.ref (Y.2.2.2 g k) :: st) :=
  fun H locs ls hW hS hL => va_alen (tys := cj_ty Y.2.2.1) C.1 C.2.1 C.2.2.2.2.2.1.1 (cj_sg (hW g k _ he)) 0 0 rfl rfl hv hdg (kk H locs ls hW hS hL)
theorem cj_arr {c : ClassId} {n : Nat} {f : Nat → Int32} {i : Nat} {x : Int32} : (vp_cell c (n, .inl f)).setSlot i (.int x) = vp_cell c (n, .inl (upd f i x)) := by
  rw [vp_cell_i, vp_cell_i, arrV_store]
  congr 1
  funext q
  by_cases hq : q = i
  · simp [updV, upd, hq]
  · simp [updV, upd, hq]
theorem cj_iast (C : cj_C Y X cc nL own d ret) {g k n : Nat} {i x : Int32} (he : Y.1 Y.2.2.2 g k = some (fun f => .inl (Y.2.2.1.1, n, .inl f))) (hdg : decode cc pc = .ok (.iastore, 1)) (hf : cj_gd i n A = some r) (kk : A = some r → cj_G Y X o (cj_upG μ g (cj_up2 (μ g) k i.toNatClampNeg x)) (pc + 1) lv st) : cj_G Y X o μ pc lv (.int x :: .int i :: .ref (Y.2.2.2 g k) :: st) := by
  intro H locs ls hW hS hL
  have h1 : H[Y.2.2.2 g k]? = some (vp_cell Y.2.2.1.1 (n, .inl (μ g k))) := hW g k _ he
  refine W.iast C.1 C.2.1 h1 ((C.2.2.2.2.2.1.1.2 0 _ rfl).1 n (fun j => .int (μ g k j))) (fun q => by cases q) (by show ¬ (i < 0 ∨ (arrV _ _ _).slots.size ≤ _); rw [arrV_size]; exact (cj_gd_s hf).1) rfl rfl hdg fun H1 e z oq => ?_
  refine kk (cj_gd_s hf).2 H1 _ ls (hW.put C.2.2.2.2.2.2.1 he ?_ oq) (hS.put z oq ⟨g, k, _, he, rfl⟩) hL
  show H1[_]? = some (vp_cell _ _)
  rw [e, cj_arr]
theorem cj_castore (C : cj_C Y X cc nL own d ret) {g k n : Nat} {i x : Int32} (he : Y.1 Y.2.2.2 g k = some (fun f => .inl (Y.2.2.1.2.1, n, .inl f))) (hdg : decode cc pc = .ok (.castore, 1)) (hf : cj_gd i n A = some r) (kk : A = some r → cj_G Y X o (cj_upG μ g (cj_up2 (μ g) k i.toNatClampNeg (vp_nar .char x))) (pc + 1) lv st) : cj_G Y X o μ pc lv (.int x :: .int i :: .ref (Y.2.2.2 g k) :: st) := by
  intro H locs ls hW hS hL
  have h1 : H[Y.2.2.2 g k]? = some (vp_cell Y.2.2.1.2.1 (n, .inl (μ g k))) := hW g k _ he
  refine W.cast C.1 C.2.1 h1 ((C.2.2.2.2.2.1.1.2 1 _ rfl).1 n (fun j => .int (μ g k j))) (fun q => by cases q) (by show ¬ (i < 0 ∨ (arrV _ _ _).slots.size ≤ _); rw [arrV_size]; exact (cj_gd_s hf).1) rfl rfl hdg fun H1 e z oq => ?_
  refine kk (cj_gd_s hf).2 H1 _ ls (hW.put C.2.2.2.2.2.2.1 he ?_ oq) (hS.put z oq ⟨g, k, _, he, rfl⟩) hL
  show H1[_]? = some (vp_cell _ _)
  rw [e, show narrow .char (.int x) = .int (vp_nar .char x) from by first | rfl | simp [vp_nar, narrow], cj_arr]
/-! calls -/
/-- what a call needs of the callee among the tables' words -/
def cj_cw (y : MethodName) (bytes : ByteArray) (maxL n : Nat) (rt : Option FieldType) : Prop :=
  Cond.code y bytes maxL rt ∈ cj_ws ∧ Cond.initialized y.cls ∈ cj_ws ∧ y.cls ≠ "java/lang/invoke/MethodHandle" ∧ y.cls ≠ "java/lang/invoke/VarHandle" ∧ (parseMethodDescriptor y.desc).map (fun d => d.parameters.length) = some n
theorem cj_gi {y : MethodName} {bytes : ByteArray} {maxL n : Nat} {rt : Option FieldType} (h : cj_cw y bytes maxL n rt) : GoodIn cj_ws (cj_ms y bytes maxL rt) := by
  intro w hw
  rcases List.mem_cons.mp hw with rfl | hw
  · exact ⟨h.1, good_of_word rfl⟩
  · exact ⟨hw, good_of_word (List.mem_filter.mp hw).2⟩
theorem cj_blind {Y : cj_Y} {μ : cj_Mm} {args : List Value} : FrameBlind (va_Pc args (fun U => cj_Wd Y.1 Y.2.1 Y.2.2.2 μ U.heap ∧ cj_K Y.2.1 Y.2.2.1 U)) := fun a U g mk q => ⟨q.1, q.2.1, cj_K.same (u := U) (U := U.calling g mk a) rfl q.2.2⟩
theorem cj_after {v : Option Value} {μ' : cj_Mm} {rest : List Value} {stk : List Value} {args' : Array Value} {H : Heap} {locs : List Loc} {ls : Array Slot} (hS : va_S (cj_A Y.1 Y.2.2.2) X.2.2.2.2.1.heap H locs) (hL : lv_has ls X.2.2.2.2.2.2.2.2.2.maxLocals lv)
    (hr : va_Run X.1 X.2.1 X.2.2.1 X.2.2.2.1 X.2.2.2.2.1 X.2.2.2.2.2.1 X.2.2.2.2.2.2.1 X.2.2.2.2.2.2.2.1 X.2.2.2.2.2.2.2.2.1 X.2.2.2.2.2.2.2.2.2 H locs 0 0 0 0 (F0 X.2.2.2.2.2.1 pc ls stk) rest (cj_Q Y (v, μ') args') (cj_A Y.1 Y.2.2.2)) (kk : cj_G Y X o μ' (pc + 3) lv (v.toList ++ rest)) :
    W X.1 X.2.1 X.2.2.1 X.2.2.2.1 X.2.2.2.2.1 X.2.2.2.2.2.1 X.2.2.2.2.2.2.1 X.2.2.2.2.2.2.2.1 X.2.2.2.2.2.2.2.2.1 X.2.2.2.2.2.2.2.2.2 H locs 0 0 (MQ X.2.2.2.2.2.2.2.1 (cj_Q Y o) X.2.2.2.2.2.2.1 X.2.2.2.2.1 0 0 (cj_A Y.1 Y.2.2.2)) (F0 X.2.2.2.2.2.1 pc ls stk) := by
  intro T hT XS
  obtain ⟨v', st₀, t, T', L, h0, X', hLf, e1, e2, ⟨hv, hwd, hz, hk⟩, stp⟩ := hr T hT XS
  cases hv
  rw [h0] at hz hk
  obtain ⟨t2, a1, b1⟩ := kk T'.heap (locs ++ L) ls (by rw [e1]; exact hwd) ⟨Nat.le_trans hS.1 (by rw [e1]; exact hz), fun q h1 h2 => by rw [e1, hk q (Nat.lt_of_lt_of_le h1 hS.1) h2]; exact hS.2.1 q h1 h2, fun q hq => by
      rcases List.mem_append.mp hq with h | h
      · exact hS.2.2 q h
      · exact hLf q h⟩ hL T' rfl X'
  exact ⟨t2, stp t2 a1, b1⟩
theorem cj_callV (C : cj_C Y X cc nL own d ret) {y : MethodName} {bytes : ByteArray} {maxL n d' index g k ci N : Nat} {rt : Option FieldType} {F : cj_Fc} {fs : List Value} {T : u_T} {As rest : List Value} {v : Option Value} {μ' : cj_Mm} (hw : cj_cw y bytes maxL n rt) (hM : cj_Ct X.2.1 Y y bytes maxL rt d' (.ref (Y.2.2.2 g k) :: As) μ v μ') (hi : Cond.instanceMethod y ∈ cj_ws) (hs : Cond.selects y.cls y y ∈ cj_ws) (hl : Cond.methodLink own index y ∈ cj_ws) (he : Y.1 Y.2.2.2 g k = some F) (hF : F (μ g k) = .inr (ci, fs)) (hc : cj_cl[ci]? = some (y.cls, T, N)) (hn : As.length = n) (hd : d' + 1 ≤ d ∧ 8 + (maxL + 11) + 37 * d' ≤ 37 * d) (hcat : (rest.map fun v => v.category).sum ≤ 8) (hdg : decode cc pc = .ok (.invokevirtual index, 3)) (kk : cj_G Y X o μ' (pc + 3) lv (v.toList ++ rest)) : cj_G Y X o μ pc lv (As.reverse ++ .ref (Y.2.2.2 g k) :: rest) := by
  intro H locs ls hW hS hL
  obtain ⟨hx, hb, hml, hown, hts, hK, hI, hlk, hret, hRf, hRl, hRc, hRs⟩ := id C
  have h1 := hW g k F he
  rw [hF] at h1
  have hrecv := va_recv (q := (y.cls, T, N)) hK.1 (cj_sg h1) hc (q0 := 0) rfl
  refine cj_after hS hL (va_runV (As := As) (rest := rest) (C := y.cls) (maxL := maxL) (ret := rt) (bytes := bytes) (n := n) ⟨hx, hb, hml, hown, hts⟩ hM ⟨callB_of n hts (cj_gi hw) rfl rfl rfl (hts _ hw.2.1) (hts _ hl) hw.2.2 (by rw [hRf, hRl]; exact hd), hts _ hi, hts _ hs⟩ ⟨cj_blind, hrecv, fun U hU hWU => ⟨rfl, by rw [hU]; exact hW, hK.warm hWU⟩⟩ rfl hn (hL.1.trans hml) rfl (lv_room hcat) hdg ⟨by rw [hRc]; exact Nat.le_refl _, by rw [hRs]; exact Nat.le_refl _⟩) kk
theorem cj_callS (C : cj_C Y X cc nL own d ret) {y : MethodName} {bytes : ByteArray} {maxL n d' index : Nat} {rt : Option FieldType} {As rest : List Value} {v : Option Value} {μ' : cj_Mm} (hw : cj_cw y bytes maxL n rt) (hM : cj_Ct X.2.1 Y y bytes maxL rt d' As μ v μ') (hs : Cond.static y ∈ cj_ws) (hl : Cond.methodLink own index y ∈ cj_ws) (hn : As.length = n) (hd : d' + 1 ≤ d ∧ 8 + (maxL + 11) + 37 * d' ≤ 37 * d) (hcat : (rest.map fun v => v.category).sum ≤ 8) (hdg : decode cc pc = .ok (.invokestatic index, 3)) (kk : cj_G Y X o μ' (pc + 3) lv (v.toList ++ rest)) : cj_G Y X o μ pc lv (As.reverse ++ rest) := by
  intro H locs ls hW hS hL
  obtain ⟨hx, hb, hml, hown, hts, hK, hI, hlk, hret, hRf, hRl, hRc, hRs⟩ := id C
  refine cj_after hS hL (va_runS (As := As) (rest := rest) (maxL := maxL) (ret := rt) (bytes := bytes) (n := n) ⟨hx, hb, hml, hown, hts⟩ hM ⟨callB_of n hts (cj_gi hw) rfl rfl rfl (hts _ hw.2.1) (hts _ hl) hw.2.2 (by rw [hRf, hRl]; exact hd), hts _ hs⟩ ⟨cj_blind, fun U hU hWU => ⟨rfl, by rw [hU]; exact hW, hK.warm hWU⟩⟩ rfl hn (hL.1.trans hml) rfl (lv_room hcat) hdg ⟨by rw [hRc]; exact Nat.le_refl _, by rw [hRs]; exact Nat.le_refl _⟩) kk
theorem cj_callSN (C : cj_C Y X cc nL own d ret) {y : MethodName} {bytes : ByteArray} {maxL n d' index : Nat} {host : String} {rt : Option FieldType} {As rest : List Value} {v : Option Value} {μ' : cj_Mm} (hw : cj_cw y bytes maxL n rt) (hM : cj_Ct X.2.1 Y y bytes maxL rt d' As μ v μ') (hs : Cond.static y ∈ cj_ws) (hl : (own, index, y, host) ∈ cj_nst) (hn : As.length = n) (hd : d' + 1 ≤ d ∧ 8 + (maxL + 11) + 37 * d' ≤ 37 * d) (hcat : (rest.map fun v => v.category).sum ≤ 8) (hdg : decode cc pc = .ok (.invokestatic index, 3)) (kk : cj_G Y X o μ' (pc + 3) lv (v.toList ++ rest)) : cj_G Y X o μ pc lv (As.reverse ++ rest) := by
  intro H locs ls hW hS hL
  obtain ⟨hx, hb, hml, hown, hts, hK, hI, hlk, hret, hRf, hRl, hRc, hRs⟩ := id C
  refine cj_after hS hL (va_runSN (As := As) (rest := rest) (maxL := maxL) (ret := rt) (bytes := bytes) (n := n) (host := host) ⟨hx, hb, hml, hown, hts⟩ hM ⟨va_cnB n hts (cj_gi hw) rfl rfl rfl (hK.2 _ hl) (hts _ hw.2.1) hw.2.2 (by rw [hRf, hRl]; exact hd), hts _ hs, trivial⟩ ⟨cj_blind, fun U hU hWU => ⟨rfl, by rw [hU]; exact hW, hK.warm hWU⟩⟩ rfl hn (hL.1.trans hml) rfl (lv_room hcat) hdg ⟨by rw [hRc]; exact Nat.le_refl _, by rw [hRs]; exact Nat.le_refl _⟩) kk
end CJ3
end
