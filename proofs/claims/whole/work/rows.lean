section
/-- a private method of a class that the tables say can be made, by its rows of tables_1 -/
def lw_okq (q : MethodName × Nat) : Prop := (q.1.cls ≠ "java/lang/invoke/MethodHandle" ∧ q.1.cls ≠ "java/lang/invoke/VarHandle") ∧ Cond.instantiable q.1.cls q.2 ∈ tables_1 ∧ Cond.privateMethod q.1 ∈ tables_1 ∧ Cond.instanceMethod q.1 ∈ tables_1
theorem lw_p0 : lw_okq (⟨"CourtJotterModel", "of", "(II)I"⟩, 15) := ⟨⟨by decide +kernel, by decide +kernel⟩, List.mem_of_getElem? (i := 684) (by decide +kernel), List.mem_of_getElem? (i := 744) (by decide +kernel), List.mem_of_getElem? (i := 745) (by decide +kernel)⟩
theorem lw_p1 : lw_okq (⟨"CourtJotterModel", "changes", "()V"⟩, 15) := ⟨⟨by decide +kernel, by decide +kernel⟩, List.mem_of_getElem? (i := 684) (by decide +kernel), List.mem_of_getElem? (i := 750) (by decide +kernel), List.mem_of_getElem? (i := 751) (by decide +kernel)⟩
theorem lw_p2 : lw_okq (⟨"CourtJotterModel", "sets", "(III)V"⟩, 15) := ⟨⟨by decide +kernel, by decide +kernel⟩, List.mem_of_getElem? (i := 684) (by decide +kernel), List.mem_of_getElem? (i := 754) (by decide +kernel), List.mem_of_getElem? (i := 755) (by decide +kernel)⟩
theorem lw_p3 : lw_okq (⟨"CourtJotterModel", "isPerson", "(I)Z"⟩, 15) := ⟨⟨by decide +kernel, by decide +kernel⟩, List.mem_of_getElem? (i := 684) (by decide +kernel), List.mem_of_getElem? (i := 762) (by decide +kernel), List.mem_of_getElem? (i := 763) (by decide +kernel)⟩
theorem lw_p4 : lw_okq (⟨"CourtJotterModel", "seen", "(I)I"⟩, 15) := ⟨⟨by decide +kernel, by decide +kernel⟩, List.mem_of_getElem? (i := 684) (by decide +kernel), List.mem_of_getElem? (i := 766) (by decide +kernel), List.mem_of_getElem? (i := 767) (by decide +kernel)⟩
theorem lw_p5 : lw_okq (⟨"CourtJotterModel", "seenAt", "(II)I"⟩, 15) := ⟨⟨by decide +kernel, by decide +kernel⟩, List.mem_of_getElem? (i := 684) (by decide +kernel), List.mem_of_getElem? (i := 770) (by decide +kernel), List.mem_of_getElem? (i := 771) (by decide +kernel)⟩
theorem lw_p6 : lw_okq (⟨"CourtJotterModel", "isHidden", "(I)Z"⟩, 15) := ⟨⟨by decide +kernel, by decide +kernel⟩, List.mem_of_getElem? (i := 684) (by decide +kernel), List.mem_of_getElem? (i := 774) (by decide +kernel), List.mem_of_getElem? (i := 775) (by decide +kernel)⟩
theorem lw_p7 : lw_okq (⟨"CourtJotterModel", "slot", "(I)I"⟩, 15) := ⟨⟨by decide +kernel, by decide +kernel⟩, List.mem_of_getElem? (i := 684) (by decide +kernel), List.mem_of_getElem? (i := 794) (by decide +kernel), List.mem_of_getElem? (i := 795) (by decide +kernel)⟩
theorem lw_p8 : lw_okq (⟨"CourtJotterModel", "ofSheet", "(II)I"⟩, 15) := ⟨⟨by decide +kernel, by decide +kernel⟩, List.mem_of_getElem? (i := 684) (by decide +kernel), List.mem_of_getElem? (i := 798) (by decide +kernel), List.mem_of_getElem? (i := 799) (by decide +kernel)⟩
theorem lw_p9 : lw_okq (⟨"CourtJotterModel", "drawable", "(I)I"⟩, 15) := ⟨⟨by decide +kernel, by decide +kernel⟩, List.mem_of_getElem? (i := 684) (by decide +kernel), List.mem_of_getElem? (i := 803) (by decide +kernel), List.mem_of_getElem? (i := 804) (by decide +kernel)⟩
theorem lw_p10 : lw_okq (⟨"CourtJotterModel", "remembered", "(I)I"⟩, 15) := ⟨⟨by decide +kernel, by decide +kernel⟩, List.mem_of_getElem? (i := 684) (by decide +kernel), List.mem_of_getElem? (i := 807) (by decide +kernel), List.mem_of_getElem? (i := 808) (by decide +kernel)⟩
theorem lw_p11 : lw_okq (⟨"CourtJotterModel", "takesOut", "(I)V"⟩, 15) := ⟨⟨by decide +kernel, by decide +kernel⟩, List.mem_of_getElem? (i := 684) (by decide +kernel), List.mem_of_getElem? (i := 818) (by decide +kernel), List.mem_of_getElem? (i := 819) (by decide +kernel)⟩
theorem lw_p12 : lw_okq (⟨"CourtJotterModel", "hasVerdict", "(I)Z"⟩, 15) := ⟨⟨by decide +kernel, by decide +kernel⟩, List.mem_of_getElem? (i := 684) (by decide +kernel), List.mem_of_getElem? (i := 826) (by decide +kernel), List.mem_of_getElem? (i := 827) (by decide +kernel)⟩
theorem lw_p13 : lw_okq (⟨"CourtJotterModel", "day", "()I"⟩, 15) := ⟨⟨by decide +kernel, by decide +kernel⟩, List.mem_of_getElem? (i := 684) (by decide +kernel), List.mem_of_getElem? (i := 830) (by decide +kernel), List.mem_of_getElem? (i := 831) (by decide +kernel)⟩
theorem lw_p14 : lw_okq (⟨"CourtJotterModel", "sheetsOf", "(I)I"⟩, 15) := ⟨⟨by decide +kernel, by decide +kernel⟩, List.mem_of_getElem? (i := 684) (by decide +kernel), List.mem_of_getElem? (i := 834) (by decide +kernel), List.mem_of_getElem? (i := 835) (by decide +kernel)⟩
theorem lw_p15 : lw_okq (⟨"CourtJotterModel", "isPaper", "(I)Z"⟩, 15) := ⟨⟨by decide +kernel, by decide +kernel⟩, List.mem_of_getElem? (i := 684) (by decide +kernel), List.mem_of_getElem? (i := 842) (by decide +kernel), List.mem_of_getElem? (i := 843) (by decide +kernel)⟩
def lw_privs_1 : List (MethodName × Nat) := [(⟨"CourtJotterModel", "of", "(II)I"⟩, 15), (⟨"CourtJotterModel", "changes", "()V"⟩, 15), (⟨"CourtJotterModel", "sets", "(III)V"⟩, 15), (⟨"CourtJotterModel", "isPerson", "(I)Z"⟩, 15), (⟨"CourtJotterModel", "seen", "(I)I"⟩, 15), (⟨"CourtJotterModel", "seenAt", "(II)I"⟩, 15), (⟨"CourtJotterModel", "isHidden", "(I)Z"⟩, 15), (⟨"CourtJotterModel", "slot", "(I)I"⟩, 15), (⟨"CourtJotterModel", "ofSheet", "(II)I"⟩, 15), (⟨"CourtJotterModel", "drawable", "(I)I"⟩, 15), (⟨"CourtJotterModel", "remembered", "(I)I"⟩, 15), (⟨"CourtJotterModel", "takesOut", "(I)V"⟩, 15), (⟨"CourtJotterModel", "hasVerdict", "(I)Z"⟩, 15), (⟨"CourtJotterModel", "day", "()I"⟩, 15), (⟨"CourtJotterModel", "sheetsOf", "(I)I"⟩, 15), (⟨"CourtJotterModel", "isPaper", "(I)Z"⟩, 15)]
theorem lw_r1 : ∀ q ∈ lw_privs_1, lw_okq q := List.forall_mem_cons.mpr ⟨lw_p0, List.forall_mem_cons.mpr ⟨lw_p1, List.forall_mem_cons.mpr ⟨lw_p2, List.forall_mem_cons.mpr ⟨lw_p3, List.forall_mem_cons.mpr ⟨lw_p4, List.forall_mem_cons.mpr ⟨lw_p5, List.forall_mem_cons.mpr ⟨lw_p6, List.forall_mem_cons.mpr ⟨lw_p7, List.forall_mem_cons.mpr ⟨lw_p8, List.forall_mem_cons.mpr ⟨lw_p9, List.forall_mem_cons.mpr ⟨lw_p10, List.forall_mem_cons.mpr ⟨lw_p11, List.forall_mem_cons.mpr ⟨lw_p12, List.forall_mem_cons.mpr ⟨lw_p13, List.forall_mem_cons.mpr ⟨lw_p14, List.forall_mem_cons.mpr ⟨lw_p15, fun _ h => absurd h List.not_mem_nil⟩⟩⟩⟩⟩⟩⟩⟩⟩⟩⟩⟩⟩⟩⟩⟩
theorem lw_p16 : lw_okq (⟨"CourtJotterModel", "canSell", "(II)Z"⟩, 15) := ⟨⟨by decide +kernel, by decide +kernel⟩, List.mem_of_getElem? (i := 684) (by decide +kernel), List.mem_of_getElem? (i := 846) (by decide +kernel), List.mem_of_getElem? (i := 847) (by decide +kernel)⟩
theorem lw_p17 : lw_okq (⟨"CourtJotterModel", "isDry", "(I)Z"⟩, 15) := ⟨⟨by decide +kernel, by decide +kernel⟩, List.mem_of_getElem? (i := 684) (by decide +kernel), List.mem_of_getElem? (i := 850) (by decide +kernel), List.mem_of_getElem? (i := 851) (by decide +kernel)⟩
theorem lw_p18 : lw_okq (⟨"CourtJotterModel", "boughtOf", "(I)I"⟩, 15) := ⟨⟨by decide +kernel, by decide +kernel⟩, List.mem_of_getElem? (i := 684) (by decide +kernel), List.mem_of_getElem? (i := 854) (by decide +kernel), List.mem_of_getElem? (i := 855) (by decide +kernel)⟩
theorem lw_p19 : lw_okq (⟨"CourtJotterModel", "ofPaper", "(II)I"⟩, 15) := ⟨⟨by decide +kernel, by decide +kernel⟩, List.mem_of_getElem? (i := 684) (by decide +kernel), List.mem_of_getElem? (i := 858) (by decide +kernel), List.mem_of_getElem? (i := 859) (by decide +kernel)⟩
theorem lw_p20 : lw_okq (⟨"CourtJotterModel", "sells", "(II)I"⟩, 15) := ⟨⟨by decide +kernel, by decide +kernel⟩, List.mem_of_getElem? (i := 684) (by decide +kernel), List.mem_of_getElem? (i := 862) (by decide +kernel), List.mem_of_getElem? (i := 863) (by decide +kernel)⟩
theorem lw_p21 : lw_okq (⟨"CourtJotterModel", "priceOf", "(II)I"⟩, 15) := ⟨⟨by decide +kernel, by decide +kernel⟩, List.mem_of_getElem? (i := 684) (by decide +kernel), List.mem_of_getElem? (i := 866) (by decide +kernel), List.mem_of_getElem? (i := 867) (by decide +kernel)⟩
theorem lw_p22 : lw_okq (⟨"CourtJotterModel", "minute", "()V"⟩, 15) := ⟨⟨by decide +kernel, by decide +kernel⟩, List.mem_of_getElem? (i := 684) (by decide +kernel), List.mem_of_getElem? (i := 874) (by decide +kernel), List.mem_of_getElem? (i := 875) (by decide +kernel)⟩
theorem lw_p23 : lw_okq (⟨"CourtJotterModel", "sees", "(I)V"⟩, 15) := ⟨⟨by decide +kernel, by decide +kernel⟩, List.mem_of_getElem? (i := 684) (by decide +kernel), List.mem_of_getElem? (i := 878) (by decide +kernel), List.mem_of_getElem? (i := 879) (by decide +kernel)⟩
theorem lw_p24 : lw_okq (⟨"CourtJotterModel", "bestSale", "()I"⟩, 15) := ⟨⟨by decide +kernel, by decide +kernel⟩, List.mem_of_getElem? (i := 684) (by decide +kernel), List.mem_of_getElem? (i := 921) (by decide +kernel), List.mem_of_getElem? (i := 922) (by decide +kernel)⟩
theorem lw_p25 : lw_okq (⟨"CourtJotterModel", "plays", "()Z"⟩, 15) := ⟨⟨by decide +kernel, by decide +kernel⟩, List.mem_of_getElem? (i := 684) (by decide +kernel), List.mem_of_getElem? (i := 963) (by decide +kernel), List.mem_of_getElem? (i := 964) (by decide +kernel)⟩
theorem lw_p26 : lw_okq (⟨"CourtJotterModel", "reads", "()Z"⟩, 15) := ⟨⟨by decide +kernel, by decide +kernel⟩, List.mem_of_getElem? (i := 684) (by decide +kernel), List.mem_of_getElem? (i := 967) (by decide +kernel), List.mem_of_getElem? (i := 968) (by decide +kernel)⟩
theorem lw_p27 : lw_okq (⟨"CourtJotterModel", "isAt", "(II)Z"⟩, 15) := ⟨⟨by decide +kernel, by decide +kernel⟩, List.mem_of_getElem? (i := 684) (by decide +kernel), List.mem_of_getElem? (i := 971) (by decide +kernel), List.mem_of_getElem? (i := 972) (by decide +kernel)⟩
theorem lw_p28 : lw_okq (⟨"CourtJotterModel", "numbered", "(I)Z"⟩, 15) := ⟨⟨by decide +kernel, by decide +kernel⟩, List.mem_of_getElem? (i := 684) (by decide +kernel), List.mem_of_getElem? (i := 978) (by decide +kernel), List.mem_of_getElem? (i := 979) (by decide +kernel)⟩
theorem lw_p29 : lw_okq (⟨"CourtJotterModel", "sign", "(I)Z"⟩, 15) := ⟨⟨by decide +kernel, by decide +kernel⟩, List.mem_of_getElem? (i := 684) (by decide +kernel), List.mem_of_getElem? (i := 982) (by decide +kernel), List.mem_of_getElem? (i := 983) (by decide +kernel)⟩
theorem lw_p30 : lw_okq (⟨"CourtJotterModel", "calls", "()I"⟩, 15) := ⟨⟨by decide +kernel, by decide +kernel⟩, List.mem_of_getElem? (i := 684) (by decide +kernel), List.mem_of_getElem? (i := 986) (by decide +kernel), List.mem_of_getElem? (i := 987) (by decide +kernel)⟩
def lw_privs_2 : List (MethodName × Nat) := [(⟨"CourtJotterModel", "canSell", "(II)Z"⟩, 15), (⟨"CourtJotterModel", "isDry", "(I)Z"⟩, 15), (⟨"CourtJotterModel", "boughtOf", "(I)I"⟩, 15), (⟨"CourtJotterModel", "ofPaper", "(II)I"⟩, 15), (⟨"CourtJotterModel", "sells", "(II)I"⟩, 15), (⟨"CourtJotterModel", "priceOf", "(II)I"⟩, 15), (⟨"CourtJotterModel", "minute", "()V"⟩, 15), (⟨"CourtJotterModel", "sees", "(I)V"⟩, 15), (⟨"CourtJotterModel", "bestSale", "()I"⟩, 15), (⟨"CourtJotterModel", "plays", "()Z"⟩, 15), (⟨"CourtJotterModel", "reads", "()Z"⟩, 15), (⟨"CourtJotterModel", "isAt", "(II)Z"⟩, 15), (⟨"CourtJotterModel", "numbered", "(I)Z"⟩, 15), (⟨"CourtJotterModel", "sign", "(I)Z"⟩, 15), (⟨"CourtJotterModel", "calls", "()I"⟩, 15)]
theorem lw_r2 : ∀ q ∈ lw_privs_2, lw_okq q := List.forall_mem_cons.mpr ⟨lw_p16, List.forall_mem_cons.mpr ⟨lw_p17, List.forall_mem_cons.mpr ⟨lw_p18, List.forall_mem_cons.mpr ⟨lw_p19, List.forall_mem_cons.mpr ⟨lw_p20, List.forall_mem_cons.mpr ⟨lw_p21, List.forall_mem_cons.mpr ⟨lw_p22, List.forall_mem_cons.mpr ⟨lw_p23, List.forall_mem_cons.mpr ⟨lw_p24, List.forall_mem_cons.mpr ⟨lw_p25, List.forall_mem_cons.mpr ⟨lw_p26, List.forall_mem_cons.mpr ⟨lw_p27, List.forall_mem_cons.mpr ⟨lw_p28, List.forall_mem_cons.mpr ⟨lw_p29, List.forall_mem_cons.mpr ⟨lw_p30, fun _ h => absurd h List.not_mem_nil⟩⟩⟩⟩⟩⟩⟩⟩⟩⟩⟩⟩⟩⟩⟩
def lw_privs : List (MethodName × Nat) := lw_privs_1 ++ (lw_privs_2)
def lw_tbl : List Cond := k2_sels lw_privs ++ tables_1
theorem lw_privs_ok : ∀ q ∈ lw_privs, lw_okq q := by
  show ∀ q ∈ lw_privs_1 ++ (lw_privs_2), lw_okq q
  exact List.forall_mem_append.mpr ⟨lw_r1, lw_r2⟩
/-- the streams that the claim lets the run draw from -/
abbrev lw_cs : List Choice := [Jvm.Choice.named "NaN.bits"]
theorem lw_bits : nanBits ∈ lw_cs := by first | decide | exact List.mem_cons_self | simp [lw_cs, nanBits]
end
section
theorem goodIn_r {big : List Cond} (ws : List Cond) (ps : List Nat) (hp : ws = ps.filterMap (fun i => big[i]?)) (h : ws.all goodWord = true) : GoodIn big ws := by
  intro w hw
  have h1 := List.all_eq_true.mp h w hw
  rw [hp] at hw
  obtain ⟨i, -, hi⟩ := List.mem_filterMap.mp hw
  have hm : w ∈ big := by first | exact List.mem_of_getElem? hi | exact List.getElem?_mem hi
  exact ⟨hm, good_of_word h1⟩
theorem goodIn_app {big a b : List Cond} (ha : GoodIn big a) (hb : GoodIn big b) : GoodIn big (a ++ b) := fun w h => (List.mem_append.mp h).elim (ha w) (hb w)
theorem goodIn_ca {big a b : List Cond} {c : Cond} (ha : GoodIn big (c :: a)) (hb : GoodIn big b) : GoodIn big (c :: (a ++ b)) := fun w h => (List.mem_cons.mp h).elim (fun e => ha w (List.mem_cons.mpr (Or.inl e))) (fun h => (List.mem_append.mp h).elim (fun h => ha w (List.mem_cons.mpr (Or.inr h))) (hb w))
theorem goodIn_sub {big ws : List Cond} (hm : ∀ w ∈ ws, w ∈ big) (h : ws.all goodWord = true) : GoodIn big ws := fun w hw => ⟨hm w hw, good_of_word (List.all_eq_true.mp h w hw)⟩
def RX0 : String := "CourtJotter$Court"
def TX0 : u_T := fun k => match k with
  | 0 => ("CourtJotter$Court", "people", "LCourtJotter$People;", true)
  | 1 => ("CourtJotter$Court", "sheets", "LCourtJotter$Sheets;", true)
  | 2 => ("CourtJotter$Court", "papers", "LCourtJotter$Papers;", true)
  | 3 => ("CourtJotter$Court", "memory", "I", false)
  | 4 => ("CourtJotter$Court", "drying", "I", false)
  | 5 => ("CourtJotter$Court", "minute", "I", false)
  | 6 => ("CourtJotter$Court", "lookedAt", "I", false)
  | 7 => ("CourtJotter$Court", "drawnThisMinute", "I", false)
  | 8 => ("CourtJotter$Court", "sold", "I", false)
  | _ => ("CourtJotter$Court", "paid", "I", false)
def tyX0 : Nat → FieldType := fun k => match k with
  | 0 => .object "CourtJotter$People"
  | 1 => .object "CourtJotter$Sheets"
  | 2 => .object "CourtJotter$Papers"
  | 3 => .int
  | 4 => .int
  | 5 => .int
  | 6 => .int
  | 7 => .int
  | 8 => .int
  | _ => .int
abbrev wsX00 : List Cond := u_ws RX0 TX0 10
theorem nmX0 : ∀ a, a < 10 → ∀ b, b < 10 → a ≠ b → (TX0 a).2.1 ≠ (TX0 b).2.1 := by decide +kernel
theorem tyX0_ok : ∀ k, k < 10 → parseFieldDescriptor (TX0 k).2.2.1 = some (tyX0 k) := by decide +kernel
abbrev cX0_init : ByteArray := prog_2_method_1_code
def yX0_init : MethodName := ⟨RX0, "<init>", "()V"⟩
abbrev cX0_copyFrom : ByteArray := prog_2_method_2_code
def yX0_copyFrom : MethodName := ⟨RX0, "copyFrom", "(LCourtJotter$Court;)V"⟩
abbrev cX0_addPerson : ByteArray := prog_2_method_3_code
def yX0_addPerson : MethodName := ⟨RX0, "addPerson", "(II)I"⟩
abbrev cX0_turnPerson : ByteArray := prog_2_method_4_code
def yX0_turnPerson : MethodName := ⟨RX0, "turnPerson", "(III)I"⟩
abbrev cX0_addPaper : ByteArray := prog_2_method_5_code
def yX0_addPaper : MethodName := ⟨RX0, "addPaper", "(II)I"⟩
abbrev cX0_lookAt : ByteArray := prog_2_method_6_code
def yX0_lookAt : MethodName := ⟨RX0, "lookAt", "(I)I"⟩
abbrev cX0_beginSheet : ByteArray := prog_2_method_7_code
def yX0_beginSheet : MethodName := ⟨RX0, "beginSheet", "(I)I"⟩
abbrev cX0_drawFeature : ByteArray := prog_2_method_8_code
def yX0_drawFeature : MethodName := ⟨RX0, "drawFeature", "(II)I"⟩
abbrev cX0_tearOut : ByteArray := prog_2_method_9_code
def yX0_tearOut : MethodName := ⟨RX0, "tearOut", "(I)I"⟩
abbrev cX0_tellVerdict : ByteArray := prog_2_method_10_code
def yX0_tellVerdict : MethodName := ⟨RX0, "tellVerdict", "(I)I"⟩
abbrev cX0_sellSheet : ByteArray := prog_2_method_11_code
def yX0_sellSheet : MethodName := ⟨RX0, "sellSheet", "(II)I"⟩
abbrev cX0_passMinutes : ByteArray := prog_2_method_12_code
def yX0_passMinutes : MethodName := ⟨RX0, "passMinutes", "(I)I"⟩
abbrev cX0_changeSetting : ByteArray := prog_2_method_13_code
def yX0_changeSetting : MethodName := ⟨RX0, "changeSetting", "(II)I"⟩
abbrev cX0_perform : ByteArray := prog_2_method_14_code
def yX0_perform : MethodName := ⟨RX0, "perform", "(CII)I"⟩
abbrev cX0_advance : ByteArray := prog_2_method_15_code
def yX0_advance : MethodName := ⟨RX0, "advance", "(I)V"⟩
abbrev cX0_findBestSale : ByteArray := prog_2_method_16_code
def yX0_findBestSale : MethodName := ⟨RX0, "findBestSale", "(LCourtJotter$Sale;)Z"⟩
abbrev cX0_canSell : ByteArray := prog_2_method_17_code
def yX0_canSell : MethodName := ⟨RX0, "canSell", "(II)Z"⟩
abbrev cX0_priceAt : ByteArray := prog_2_method_18_code
def yX0_priceAt : MethodName := ⟨RX0, "priceAt", "(II)I"⟩
abbrev cX0_day : ByteArray := prog_2_method_19_code
def yX0_day : MethodName := ⟨RX0, "day", "()I"⟩
abbrev cX0_hour : ByteArray := prog_2_method_20_code
def yX0_hour : MethodName := ⟨RX0, "hour", "()I"⟩
abbrev cX0_hasVerdict : ByteArray := prog_2_method_21_code
def yX0_hasVerdict : MethodName := ⟨RX0, "hasVerdict", "(I)Z"⟩
abbrev cX0_remembered : ByteArray := prog_2_method_22_code
def yX0_remembered : MethodName := ⟨RX0, "remembered", "(I)I"⟩
abbrev cX0_drawable : ByteArray := prog_2_method_23_code
def yX0_drawable : MethodName := ⟨RX0, "drawable", "(I)I"⟩
abbrev cX0_wetFor : ByteArray := prog_2_method_24_code
def yX0_wetFor : MethodName := ⟨RX0, "wetFor", "(I)I"⟩
abbrev cX0_isDry : ByteArray := prog_2_method_25_code
def yX0_isDry : MethodName := ⟨RX0, "isDry", "(I)Z"⟩
abbrev cX0_tellOfPerson : ByteArray := prog_2_method_26_code
def yX0_tellOfPerson : MethodName := ⟨RX0, "tellOfPerson", "(II)I"⟩
abbrev cX0_tellOfSheet : ByteArray := prog_2_method_27_code
def yX0_tellOfSheet : MethodName := ⟨RX0, "tellOfSheet", "(II)I"⟩
abbrev cX0_tellOfPaper : ByteArray := prog_2_method_28_code
def yX0_tellOfPaper : MethodName := ⟨RX0, "tellOfPaper", "(II)I"⟩
abbrev cX0_tellCount : ByteArray := prog_2_method_29_code
def yX0_tellCount : MethodName := ⟨RX0, "tellCount", "(I)I"⟩
def RX1 : String := "CourtJotter$History"
def TX1 : u_T := fun k => match k with
  | 0 => ("CourtJotter$History", "states", "[LCourtJotter$Court;", true)
  | 1 => ("CourtJotter$History", "oldest", "I", false)
  | _ => ("CourtJotter$History", "size", "I", false)
def tyX1 : Nat → FieldType := fun k => match k with
  | 0 => .array (.object "CourtJotter$Court")
  | 1 => .int
  | _ => .int
abbrev wsX10 : List Cond := u_ws RX1 TX1 3
theorem nmX1 : ∀ a, a < 3 → ∀ b, b < 3 → a ≠ b → (TX1 a).2.1 ≠ (TX1 b).2.1 := by decide +kernel
theorem tyX1_ok : ∀ k, k < 3 → parseFieldDescriptor (TX1 k).2.2.1 = some (tyX1 k) := by decide +kernel
abbrev cX1_init : ByteArray := prog_3_method_1_code
def yX1_init : MethodName := ⟨RX1, "<init>", "()V"⟩
abbrev cX1_prepare : ByteArray := prog_3_method_2_code
def yX1_prepare : MethodName := ⟨RX1, "prepare", "(LCourtJotter$Court;)V"⟩
abbrev cX1_settle : ByteArray := prog_3_method_3_code
def yX1_settle : MethodName := ⟨RX1, "settle", "(I)I"⟩
abbrev cX1_restore : ByteArray := prog_3_method_4_code
def yX1_restore : MethodName := ⟨RX1, "restore", "(LCourtJotter$Court;)I"⟩
def RX2 : String := "CourtJotter$Papers"
def TX2 : u_T := fun k => match k with
  | 0 => ("CourtJotter$Papers", "count", "I", false)
  | 1 => ("CourtJotter$Papers", "rates", "[I", true)
  | 2 => ("CourtJotter$Papers", "hours", "[I", true)
  | 3 => ("CourtJotter$Papers", "bought", "[I", true)
  | 4 => ("CourtJotter$Papers", "paid", "[I", true)
  | 5 => ("CourtJotter$Papers", "buyingDays", "[I", true)
  | _ => ("CourtJotter$Papers", "peopleBought", "[I", true)
def tyX2 : Nat → FieldType := fun k => match k with
  | 0 => .int
  | 1 => .array .int
  | 2 => .array .int
  | 3 => .array .int
  | 4 => .array .int
  | 5 => .array .int
  | _ => .array .int
abbrev wsX20 : List Cond := u_ws RX2 TX2 7
theorem nmX2 : ∀ a, a < 7 → ∀ b, b < 7 → a ≠ b → (TX2 a).2.1 ≠ (TX2 b).2.1 := by decide +kernel
theorem tyX2_ok : ∀ k, k < 7 → parseFieldDescriptor (TX2 k).2.2.1 = some (tyX2 k) := by decide +kernel
abbrev cX2_init : ByteArray := prog_4_method_1_code
def yX2_init : MethodName := ⟨RX2, "<init>", "()V"⟩
abbrev cX2_copyFrom : ByteArray := prog_4_method_2_code
def yX2_copyFrom : MethodName := ⟨RX2, "copyFrom", "(LCourtJotter$Papers;)V"⟩
abbrev cX2_has : ByteArray := prog_4_method_3_code
def yX2_has : MethodName := ⟨RX2, "has", "(I)Z"⟩
abbrev cX2_peopleBoughtOn : ByteArray := prog_4_method_4_code
def yX2_peopleBoughtOn : MethodName := ⟨RX2, "peopleBoughtOn", "(II)I"⟩
abbrev cX2_buy : ByteArray := prog_4_method_5_code
def yX2_buy : MethodName := ⟨RX2, "buy", "(IIII)V"⟩
def RX3 : String := "CourtJotter$People"
def TX3 : u_T := fun k => match k with
  | 0 => ("CourtJotter$People", "count", "I", false)
  | 1 => ("CourtJotter$People", "rows", "[I", true)
  | 2 => ("CourtJotter$People", "seats", "[I", true)
  | 3 => ("CourtJotter$People", "angles", "[I", true)
  | 4 => ("CourtJotter$People", "steps", "[I", true)
  | 5 => ("CourtJotter$People", "verdictDays", "[I", true)
  | 6 => ("CourtJotter$People", "paid", "[I", true)
  | _ => ("CourtJotter$People", "seenMinutes", "[I", true)
def tyX3 : Nat → FieldType := fun k => match k with
  | 0 => .int
  | 1 => .array .int
  | 2 => .array .int
  | 3 => .array .int
  | 4 => .array .int
  | 5 => .array .int
  | 6 => .array .int
  | _ => .array .int
abbrev wsX30 : List Cond := u_ws RX3 TX3 8
theorem nmX3 : ∀ a, a < 8 → ∀ b, b < 8 → a ≠ b → (TX3 a).2.1 ≠ (TX3 b).2.1 := by decide +kernel
theorem tyX3_ok : ∀ k, k < 8 → parseFieldDescriptor (TX3 k).2.2.1 = some (tyX3 k) := by decide +kernel
abbrev cX3_init : ByteArray := prog_5_method_1_code
def yX3_init : MethodName := ⟨RX3, "<init>", "()V"⟩
abbrev cX3_copyFrom : ByteArray := prog_5_method_2_code
def yX3_copyFrom : MethodName := ⟨RX3, "copyFrom", "(LCourtJotter$People;)V"⟩
abbrev cX3_has : ByteArray := prog_5_method_3_code
def yX3_has : MethodName := ⟨RX3, "has", "(I)Z"⟩
abbrev cX3_isTaken : ByteArray := prog_5_method_4_code
def yX3_isTaken : MethodName := ⟨RX3, "isTaken", "(II)Z"⟩
abbrev cX3_seenAside : ByteArray := prog_5_method_5_code
def yX3_seenAside : MethodName := ⟨RX3, "seenAside", "(I)I"⟩
abbrev cX3_angleAfter : ByteArray := prog_5_method_6_code
def yX3_angleAfter : MethodName := ⟨RX3, "angleAfter", "(II)I"⟩
abbrev cX3_seenAfter : ByteArray := prog_5_method_7_code
def yX3_seenAfter : MethodName := ⟨RX3, "seenAfter", "(II)I"⟩
abbrev cX3_watch : ByteArray := prog_5_method_8_code
def yX3_watch : MethodName := ⟨RX3, "watch", "(III)V"⟩
abbrev cX3_features : ByteArray := prog_5_method_9_code
def yX3_features : MethodName := ⟨RX3, "features", "(II)I"⟩
abbrev cX3_turnAll : ByteArray := prog_5_method_10_code
def yX3_turnAll : MethodName := ⟨RX3, "turnAll", "(I)V"⟩
abbrev cX3_rememberedSince : ByteArray := prog_5_method_11_code
def yX3_rememberedSince : MethodName := ⟨RX3, "rememberedSince", "(II)I"⟩
def RX4 : String := "CourtJotter$Rehearsal"
def TX4 : u_T := fun k => match k with
  | 0 => ("CourtJotter$Rehearsal", "done", "I", false)
  | 1 => ("CourtJotter$Rehearsal", "position", "I", false)
  | 2 => ("CourtJotter$Rehearsal", "reason", "I", false)
  | _ => ("CourtJotter$Rehearsal", "cause", "I", false)
def tyX4 : Nat → FieldType := fun k => match k with
  | 0 => .int
  | 1 => .int
  | 2 => .int
  | _ => .int
abbrev wsX40 : List Cond := u_ws RX4 TX4 4
theorem nmX4 : ∀ a, a < 4 → ∀ b, b < 4 → a ≠ b → (TX4 a).2.1 ≠ (TX4 b).2.1 := by decide +kernel
theorem tyX4_ok : ∀ k, k < 4 → parseFieldDescriptor (TX4 k).2.2.1 = some (tyX4 k) := by decide +kernel
abbrev cX4_init : ByteArray := prog_6_method_1_code
def yX4_init : MethodName := ⟨RX4, "<init>", "()V"⟩
abbrev cX4_run : ByteArray := prog_6_method_2_code
def yX4_run : MethodName := ⟨RX4, "run", "(LCourtJotter$Text;LCourtJotter$Court;)V"⟩
abbrev cX4_fail : ByteArray := prog_6_method_3_code
def yX4_fail : MethodName := ⟨RX4, "fail", "(III)V"⟩
def RX5 : String := "CourtJotter$Sale"
def TX5 : u_T := fun k => match k with
  | 0 => ("CourtJotter$Sale", "sheet", "I", false)
  | 1 => ("CourtJotter$Sale", "paper", "I", false)
  | _ => ("CourtJotter$Sale", "price", "I", false)
def tyX5 : Nat → FieldType := fun k => match k with
  | 0 => .int
  | 1 => .int
  | _ => .int
abbrev wsX50 : List Cond := u_ws RX5 TX5 3
theorem nmX5 : ∀ a, a < 3 → ∀ b, b < 3 → a ≠ b → (TX5 a).2.1 ≠ (TX5 b).2.1 := by decide +kernel
theorem tyX5_ok : ∀ k, k < 3 → parseFieldDescriptor (TX5 k).2.2.1 = some (tyX5 k) := by decide +kernel
abbrev cX5_init : ByteArray := prog_7_method_1_code
def yX5_init : MethodName := ⟨RX5, "<init>", "()V"⟩
def RX6 : String := "CourtJotter$Sheets"
def TX6 : u_T := fun k => match k with
  | 0 => ("CourtJotter$Sheets", "count", "I", false)
  | 1 => ("CourtJotter$Sheets", "begun", "I", false)
  | 2 => ("CourtJotter$Sheets", "numbers", "[I", true)
  | 3 => ("CourtJotter$Sheets", "people", "[I", true)
  | 4 => ("CourtJotter$Sheets", "drawn", "[I", true)
  | _ => ("CourtJotter$Sheets", "dryMinutes", "[I", true)
def tyX6 : Nat → FieldType := fun k => match k with
  | 0 => .int
  | 1 => .int
  | 2 => .array .int
  | 3 => .array .int
  | 4 => .array .int
  | _ => .array .int
abbrev wsX60 : List Cond := u_ws RX6 TX6 6
theorem nmX6 : ∀ a, a < 6 → ∀ b, b < 6 → a ≠ b → (TX6 a).2.1 ≠ (TX6 b).2.1 := by decide +kernel
theorem tyX6_ok : ∀ k, k < 6 → parseFieldDescriptor (TX6 k).2.2.1 = some (tyX6 k) := by decide +kernel
abbrev cX6_init : ByteArray := prog_8_method_1_code
def yX6_init : MethodName := ⟨RX6, "<init>", "()V"⟩
abbrev cX6_copyFrom : ByteArray := prog_8_method_2_code
def yX6_copyFrom : MethodName := ⟨RX6, "copyFrom", "(LCourtJotter$Sheets;)V"⟩
abbrev cX6_placeOf : ByteArray := prog_8_method_3_code
def yX6_placeOf : MethodName := ⟨RX6, "placeOf", "(I)I"⟩
abbrev cX6_ofPerson : ByteArray := prog_8_method_4_code
def yX6_ofPerson : MethodName := ⟨RX6, "ofPerson", "(I)I"⟩
abbrev cX6_add : ByteArray := prog_8_method_5_code
def yX6_add : MethodName := ⟨RX6, "add", "(I)I"⟩
abbrev cX6_removeAt : ByteArray := prog_8_method_6_code
def yX6_removeAt : MethodName := ⟨RX6, "removeAt", "(I)V"⟩
def RX7 : String := "CourtJotter$Text"
def TX7 : u_T := fun k => match k with
  | 0 => ("CourtJotter$Text", "characters", "[C", true)
  | 1 => ("CourtJotter$Text", "length", "I", false)
  | 2 => ("CourtJotter$Text", "at", "I", false)
  | 3 => ("CourtJotter$Text", "kind", "C", false)
  | 4 => ("CourtJotter$Text", "first", "I", false)
  | _ => ("CourtJotter$Text", "second", "I", false)
def tyX7 : Nat → FieldType := fun k => match k with
  | 0 => .array .char
  | 1 => .int
  | 2 => .int
  | 3 => .char
  | 4 => .int
  | _ => .int
abbrev wsX70 : List Cond := u_ws RX7 TX7 6
theorem nmX7 : ∀ a, a < 6 → ∀ b, b < 6 → a ≠ b → (TX7 a).2.1 ≠ (TX7 b).2.1 := by decide +kernel
theorem tyX7_ok : ∀ k, k < 6 → parseFieldDescriptor (TX7 k).2.2.1 = some (tyX7 k) := by decide +kernel
abbrev cX7_init : ByteArray := prog_9_method_1_code
def yX7_init : MethodName := ⟨RX7, "<init>", "()V"⟩
abbrev cX7_append : ByteArray := prog_9_method_2_code
def yX7_append : MethodName := ⟨RX7, "append", "(I)I"⟩
abbrev cX7_readOrder : ByteArray := prog_9_method_3_code
def yX7_readOrder : MethodName := ⟨RX7, "readOrder", "(I)Z"⟩
abbrev cX7_next : ByteArray := prog_9_method_4_code
def yX7_next : MethodName := ⟨RX7, "next", "()C"⟩
abbrev cX7_readNumber : ByteArray := prog_9_method_5_code
def yX7_readNumber : MethodName := ⟨RX7, "readNumber", "()I"⟩
abbrev cX7_isOneNumber : ByteArray := prog_9_method_6_code
def yX7_isOneNumber : MethodName := ⟨RX7, "isOneNumber", "(C)Z"⟩
abbrev cX7_isTwoNumbers : ByteArray := prog_9_method_7_code
def yX7_isTwoNumbers : MethodName := ⟨RX7, "isTwoNumbers", "(C)Z"⟩
def RX8 : String := "CourtJotter"
def TX8 : u_T := fun k => match k with
  | 0 => ("CourtJotter", "court", "LCourtJotter$Court;", true)
  | 1 => ("CourtJotter", "trial", "LCourtJotter$Court;", true)
  | 2 => ("CourtJotter", "history", "LCourtJotter$History;", true)
  | 3 => ("CourtJotter", "text", "LCourtJotter$Text;", true)
  | 4 => ("CourtJotter", "rehearsal", "LCourtJotter$Rehearsal;", true)
  | _ => ("CourtJotter", "sale", "LCourtJotter$Sale;", true)
def tyX8 : Nat → FieldType := fun k => match k with
  | 0 => .object "CourtJotter$Court"
  | 1 => .object "CourtJotter$Court"
  | 2 => .object "CourtJotter$History"
  | 3 => .object "CourtJotter$Text"
  | 4 => .object "CourtJotter$Rehearsal"
  | _ => .object "CourtJotter$Sale"
abbrev wsX80 : List Cond := u_ws RX8 TX8 6
theorem nmX8 : ∀ a, a < 6 → ∀ b, b < 6 → a ≠ b → (TX8 a).2.1 ≠ (TX8 b).2.1 := by decide +kernel
theorem tyX8_ok : ∀ k, k < 6 → parseFieldDescriptor (TX8 k).2.2.1 = some (tyX8 k) := by decide +kernel
abbrev cX8_init : ByteArray := prog_1_method_1_code
def yX8_init : MethodName := ⟨RX8, "<init>", "()V"⟩
abbrev cX8_person : ByteArray := prog_1_method_2_code
def yX8_person : MethodName := ⟨RX8, "person", "(II)I"⟩
abbrev cX8_turn : ByteArray := prog_1_method_3_code
def yX8_turn : MethodName := ⟨RX8, "turn", "(III)I"⟩
abbrev cX8_paper : ByteArray := prog_1_method_4_code
def yX8_paper : MethodName := ⟨RX8, "paper", "(II)I"⟩
abbrev cX8_look : ByteArray := prog_1_method_5_code
def yX8_look : MethodName := ⟨RX8, "look", "(I)I"⟩
abbrev cX8_sheet : ByteArray := prog_1_method_6_code
def yX8_sheet : MethodName := ⟨RX8, "sheet", "(I)I"⟩
abbrev cX8_draw : ByteArray := prog_1_method_7_code
def yX8_draw : MethodName := ⟨RX8, "draw", "(II)I"⟩
abbrev cX8_tear : ByteArray := prog_1_method_8_code
def yX8_tear : MethodName := ⟨RX8, "tear", "(I)I"⟩
abbrev cX8_verdict : ByteArray := prog_1_method_9_code
def yX8_verdict : MethodName := ⟨RX8, "verdict", "(I)I"⟩
abbrev cX8_sell : ByteArray := prog_1_method_10_code
def yX8_sell : MethodName := ⟨RX8, "sell", "(II)I"⟩
abbrev cX8_pass : ByteArray := prog_1_method_11_code
def yX8_pass : MethodName := ⟨RX8, "pass", "(I)I"⟩
abbrev cX8_set : ByteArray := prog_1_method_12_code
def yX8_set : MethodName := ⟨RX8, "set", "(II)I"⟩
abbrev cX8_personOf : ByteArray := prog_1_method_13_code
def yX8_personOf : MethodName := ⟨RX8, "personOf", "(II)I"⟩
abbrev cX8_sheetOf : ByteArray := prog_1_method_14_code
def yX8_sheetOf : MethodName := ⟨RX8, "sheetOf", "(II)I"⟩
abbrev cX8_paperOf : ByteArray := prog_1_method_15_code
def yX8_paperOf : MethodName := ⟨RX8, "paperOf", "(II)I"⟩
abbrev cX8_price : ByteArray := prog_1_method_16_code
def yX8_price : MethodName := ⟨RX8, "price", "(II)I"⟩
abbrev cX8_number : ByteArray := prog_1_method_17_code
def yX8_number : MethodName := ⟨RX8, "number", "(I)I"⟩
abbrev cX8_seenIn : ByteArray := prog_1_method_18_code
def yX8_seenIn : MethodName := ⟨RX8, "seenIn", "(II)I"⟩
abbrev cX8_would : ByteArray := prog_1_method_19_code
def yX8_would : MethodName := ⟨RX8, "would", "(II)I"⟩
abbrev cX8_best : ByteArray := prog_1_method_20_code
def yX8_best : MethodName := ⟨RX8, "best", "(I)I"⟩
abbrev cX8_sellAll : ByteArray := prog_1_method_21_code
def yX8_sellAll : MethodName := ⟨RX8, "sellAll", "()I"⟩
abbrev cX8_mean : ByteArray := prog_1_method_22_code
def yX8_mean : MethodName := ⟨RX8, "mean", "()I"⟩
abbrev cX8_count : ByteArray := prog_1_method_23_code
def yX8_count : MethodName := ⟨RX8, "count", "(I)I"⟩
abbrev cX8_undo : ByteArray := prog_1_method_24_code
def yX8_undo : MethodName := ⟨RX8, "undo", "()I"⟩
abbrev cX8_type : ByteArray := prog_1_method_25_code
def yX8_type : MethodName := ⟨RX8, "type", "(I)I"⟩
abbrev cX8_clearText : ByteArray := prog_1_method_26_code
def yX8_clearText : MethodName := ⟨RX8, "clearText", "()I"⟩
abbrev cX8_fault : ByteArray := prog_1_method_27_code
def yX8_fault : MethodName := ⟨RX8, "fault", "(I)I"⟩
abbrev cX8_play : ByteArray := prog_1_method_28_code
def yX8_play : MethodName := ⟨RX8, "play", "()I"⟩
abbrev cX8_isWithin : ByteArray := prog_1_method_29_code
def yX8_isWithin : MethodName := ⟨RX8, "isWithin", "(III)Z"⟩
abbrev cX8_hasBit : ByteArray := prog_1_method_30_code
def yX8_hasBit : MethodName := ⟨RX8, "hasBit", "(II)Z"⟩
abbrev cX8_copyRow : ByteArray := prog_1_method_31_code
def yX8_copyRow : MethodName := ⟨RX8, "copyRow", "([I[I)V"⟩
abbrev cX8_bitsOf : ByteArray := prog_1_method_32_code
def yX8_bitsOf : MethodName := ⟨RX8, "bitsOf", "(F)I"⟩
def RX9 : String := "CourtJotterModel"
def TX9 : u_T := fun k => match k with
  | 0 => ("CourtJotterModel", "s", "[I", true)
  | 1 => ("CourtJotterModel", "past", "[I", true)
  | 2 => ("CourtJotterModel", "held", "[I", true)
  | 3 => ("CourtJotterModel", "tried", "[I", true)
  | 4 => ("CourtJotterModel", "pasts", "I", false)
  | 5 => ("CourtJotterModel", "runs", "Z", false)
  | 6 => ("CourtJotterModel", "text", "[I", true)
  | 7 => ("CourtJotterModel", "typed", "I", false)
  | 8 => ("CourtJotterModel", "spot", "I", false)
  | 9 => ("CourtJotterModel", "from", "I", false)
  | 10 => ("CourtJotterModel", "reason", "I", false)
  | 11 => ("CourtJotterModel", "cause", "I", false)
  | 12 => ("CourtJotterModel", "orders", "I", false)
  | 13 => ("CourtJotterModel", "order", "I", false)
  | _ => ("CourtJotterModel", "told", "[I", true)
def tyX9 : Nat → FieldType := fun k => match k with
  | 0 => .array .int
  | 1 => .array .int
  | 2 => .array .int
  | 3 => .array .int
  | 4 => .int
  | 5 => .boolean
  | 6 => .array .int
  | 7 => .int
  | 8 => .int
  | 9 => .int
  | 10 => .int
  | 11 => .int
  | 12 => .int
  | 13 => .int
  | _ => .array .int
abbrev wsX90 : List Cond := u_ws RX9 TX9 15
theorem nmX9 : ∀ a, a < 15 → ∀ b, b < 15 → a ≠ b → (TX9 a).2.1 ≠ (TX9 b).2.1 := by decide +kernel
theorem tyX9_ok : ∀ k, k < 15 → parseFieldDescriptor (TX9 k).2.2.1 = some (tyX9 k) := by decide +kernel
abbrev cX9_init : ByteArray := prog_11_method_1_code
def yX9_init : MethodName := ⟨RX9, "<init>", "()V"⟩
abbrev cX9_in : ByteArray := prog_11_method_3_code
def yX9_in : MethodName := ⟨RX9, "in", "(III)Z"⟩
abbrev cX9_copies : ByteArray := prog_11_method_4_code
def yX9_copies : MethodName := ⟨RX9, "copies", "([I[I)V"⟩
abbrev cX9_changes : ByteArray := prog_11_method_5_code
def yX9_changes : MethodName := ⟨RX9, "changes", "()V"⟩
abbrev cX9_ones : ByteArray := prog_11_method_6_code
def yX9_ones : MethodName := ⟨RX9, "ones", "(I)I"⟩
abbrev cX9_isPerson : ByteArray := prog_11_method_7_code
def yX9_isPerson : MethodName := ⟨RX9, "isPerson", "(I)Z"⟩
abbrev cX9_isPaper : ByteArray := prog_11_method_8_code
def yX9_isPaper : MethodName := ⟨RX9, "isPaper", "(I)Z"⟩
abbrev cX9_of : ByteArray := prog_11_method_9_code
def yX9_of : MethodName := ⟨RX9, "of", "(II)I"⟩
abbrev cX9_sets : ByteArray := prog_11_method_10_code
def yX9_sets : MethodName := ⟨RX9, "sets", "(III)V"⟩
abbrev cX9_ofSheet : ByteArray := prog_11_method_11_code
def yX9_ofSheet : MethodName := ⟨RX9, "ofSheet", "(II)I"⟩
abbrev cX9_ofPaper : ByteArray := prog_11_method_12_code
def yX9_ofPaper : MethodName := ⟨RX9, "ofPaper", "(II)I"⟩
abbrev cX9_day : ByteArray := prog_11_method_13_code
def yX9_day : MethodName := ⟨RX9, "day", "()I"⟩
abbrev cX9_isHidden : ByteArray := prog_11_method_14_code
def yX9_isHidden : MethodName := ⟨RX9, "isHidden", "(I)Z"⟩
abbrev cX9_seenAt : ByteArray := prog_11_method_15_code
def yX9_seenAt : MethodName := ⟨RX9, "seenAt", "(II)I"⟩
abbrev cX9_seen : ByteArray := prog_11_method_16_code
def yX9_seen : MethodName := ⟨RX9, "seen", "(I)I"⟩
abbrev cX9_remembered : ByteArray := prog_11_method_17_code
def yX9_remembered : MethodName := ⟨RX9, "remembered", "(I)I"⟩
abbrev cX9_person : ByteArray := prog_11_method_18_code
def yX9_person : MethodName := ⟨RX9, "person", "(II)I"⟩
abbrev cX9_turn : ByteArray := prog_11_method_19_code
def yX9_turn : MethodName := ⟨RX9, "turn", "(III)I"⟩
abbrev cX9_paper : ByteArray := prog_11_method_20_code
def yX9_paper : MethodName := ⟨RX9, "paper", "(II)I"⟩
abbrev cX9_look : ByteArray := prog_11_method_21_code
def yX9_look : MethodName := ⟨RX9, "look", "(I)I"⟩
abbrev cX9_slot : ByteArray := prog_11_method_22_code
def yX9_slot : MethodName := ⟨RX9, "slot", "(I)I"⟩
abbrev cX9_sheet : ByteArray := prog_11_method_23_code
def yX9_sheet : MethodName := ⟨RX9, "sheet", "(I)I"⟩
abbrev cX9_drawable : ByteArray := prog_11_method_24_code
def yX9_drawable : MethodName := ⟨RX9, "drawable", "(I)I"⟩
abbrev cX9_draw : ByteArray := prog_11_method_25_code
def yX9_draw : MethodName := ⟨RX9, "draw", "(II)I"⟩
abbrev cX9_takesOut : ByteArray := prog_11_method_26_code
def yX9_takesOut : MethodName := ⟨RX9, "takesOut", "(I)V"⟩
abbrev cX9_tear : ByteArray := prog_11_method_27_code
def yX9_tear : MethodName := ⟨RX9, "tear", "(I)I"⟩
abbrev cX9_sheetsOf : ByteArray := prog_11_method_28_code
def yX9_sheetsOf : MethodName := ⟨RX9, "sheetsOf", "(I)I"⟩
abbrev cX9_hasVerdict : ByteArray := prog_11_method_29_code
def yX9_hasVerdict : MethodName := ⟨RX9, "hasVerdict", "(I)Z"⟩
abbrev cX9_verdict : ByteArray := prog_11_method_30_code
def yX9_verdict : MethodName := ⟨RX9, "verdict", "(I)I"⟩
abbrev cX9_isDry : ByteArray := prog_11_method_31_code
def yX9_isDry : MethodName := ⟨RX9, "isDry", "(I)Z"⟩
abbrev cX9_boughtOf : ByteArray := prog_11_method_32_code
def yX9_boughtOf : MethodName := ⟨RX9, "boughtOf", "(I)I"⟩
abbrev cX9_canSell : ByteArray := prog_11_method_33_code
def yX9_canSell : MethodName := ⟨RX9, "canSell", "(II)Z"⟩
abbrev cX9_priceOf : ByteArray := prog_11_method_34_code
def yX9_priceOf : MethodName := ⟨RX9, "priceOf", "(II)I"⟩
abbrev cX9_sells : ByteArray := prog_11_method_35_code
def yX9_sells : MethodName := ⟨RX9, "sells", "(II)I"⟩
abbrev cX9_sell : ByteArray := prog_11_method_36_code
def yX9_sell : MethodName := ⟨RX9, "sell", "(II)I"⟩
abbrev cX9_sees : ByteArray := prog_11_method_37_code
def yX9_sees : MethodName := ⟨RX9, "sees", "(I)V"⟩
abbrev cX9_minute : ByteArray := prog_11_method_38_code
def yX9_minute : MethodName := ⟨RX9, "minute", "()V"⟩
abbrev cX9_pass : ByteArray := prog_11_method_39_code
def yX9_pass : MethodName := ⟨RX9, "pass", "(I)I"⟩
abbrev cX9_set : ByteArray := prog_11_method_40_code
def yX9_set : MethodName := ⟨RX9, "set", "(II)I"⟩
abbrev cX9_personOf : ByteArray := prog_11_method_41_code
def yX9_personOf : MethodName := ⟨RX9, "personOf", "(II)I"⟩
abbrev cX9_sheetOf : ByteArray := prog_11_method_42_code
def yX9_sheetOf : MethodName := ⟨RX9, "sheetOf", "(II)I"⟩
abbrev cX9_paperOf : ByteArray := prog_11_method_43_code
def yX9_paperOf : MethodName := ⟨RX9, "paperOf", "(II)I"⟩
abbrev cX9_price : ByteArray := prog_11_method_44_code
def yX9_price : MethodName := ⟨RX9, "price", "(II)I"⟩
abbrev cX9_number : ByteArray := prog_11_method_45_code
def yX9_number : MethodName := ⟨RX9, "number", "(I)I"⟩
abbrev cX9_seenIn : ByteArray := prog_11_method_46_code
def yX9_seenIn : MethodName := ⟨RX9, "seenIn", "(II)I"⟩
abbrev cX9_would : ByteArray := prog_11_method_47_code
def yX9_would : MethodName := ⟨RX9, "would", "(II)I"⟩
abbrev cX9_bestSale : ByteArray := prog_11_method_48_code
def yX9_bestSale : MethodName := ⟨RX9, "bestSale", "()I"⟩
abbrev cX9_best : ByteArray := prog_11_method_49_code
def yX9_best : MethodName := ⟨RX9, "best", "(I)I"⟩
abbrev cX9_sellAll : ByteArray := prog_11_method_50_code
def yX9_sellAll : MethodName := ⟨RX9, "sellAll", "()I"⟩
abbrev cX9_mean : ByteArray := prog_11_method_51_code
def yX9_mean : MethodName := ⟨RX9, "mean", "()I"⟩
abbrev cX9_count : ByteArray := prog_11_method_52_code
def yX9_count : MethodName := ⟨RX9, "count", "(I)I"⟩
abbrev cX9_undo : ByteArray := prog_11_method_53_code
def yX9_undo : MethodName := ⟨RX9, "undo", "()I"⟩
abbrev cX9_type : ByteArray := prog_11_method_54_code
def yX9_type : MethodName := ⟨RX9, "type", "(I)I"⟩
abbrev cX9_clearText : ByteArray := prog_11_method_55_code
def yX9_clearText : MethodName := ⟨RX9, "clearText", "()I"⟩
abbrev cX9_isAt : ByteArray := prog_11_method_56_code
def yX9_isAt : MethodName := ⟨RX9, "isAt", "(II)Z"⟩
abbrev cX9_sign : ByteArray := prog_11_method_57_code
def yX9_sign : MethodName := ⟨RX9, "sign", "(I)Z"⟩
abbrev cX9_numbered : ByteArray := prog_11_method_58_code
def yX9_numbered : MethodName := ⟨RX9, "numbered", "(I)Z"⟩
abbrev cX9_numbersOf : ByteArray := prog_11_method_59_code
def yX9_numbersOf : MethodName := ⟨RX9, "numbersOf", "(I)I"⟩
abbrev cX9_reads : ByteArray := prog_11_method_60_code
def yX9_reads : MethodName := ⟨RX9, "reads", "()Z"⟩
abbrev cX9_calls : ByteArray := prog_11_method_61_code
def yX9_calls : MethodName := ⟨RX9, "calls", "()I"⟩
abbrev cX9_plays : ByteArray := prog_11_method_62_code
def yX9_plays : MethodName := ⟨RX9, "plays", "()Z"⟩
abbrev cX9_fault : ByteArray := prog_11_method_63_code
def yX9_fault : MethodName := ⟨RX9, "fault", "(I)I"⟩
abbrev cX9_play : ByteArray := prog_11_method_64_code
def yX9_play : MethodName := ⟨RX9, "play", "()I"⟩
def RJxf58ca : String := "java/lang/Float"
def TJxf58ca : u_T := fun k => match k with
  | _ => ("", "", "", false)
def tyJxf58ca : Nat → FieldType := fun k => match k with
  | _ => .int
abbrev wsJxf58ca0 : List Cond := u_ws RJxf58ca TJxf58ca 0
theorem nmJxf58ca : ∀ a, a < 0 → ∀ b, b < 0 → a ≠ b → (TJxf58ca a).2.1 ≠ (TJxf58ca b).2.1 := by decide +kernel
theorem tyJxf58ca_ok : ∀ k, k < 0 → parseFieldDescriptor (TJxf58ca k).2.2.1 = some (tyJxf58ca k) := by decide +kernel
abbrev cJxf58ca_isNaN_12338 : ByteArray := prog_12_method_6_code
def yJxf58ca_isNaN_12338 : MethodName := ⟨RJxf58ca, "isNaN", "(F)Z"⟩
abbrev cJxf58ca_floatToIntBits_5c35a : ByteArray := prog_12_method_24_code
def yJxf58ca_floatToIntBits_5c35a : MethodName := ⟨RJxf58ca, "floatToIntBits", "(F)I"⟩
def RJ6 : String := "java/lang/Integer"
def TJ6 : u_T := fun k => match k with
  | _ => ("", "", "", false)
def tyJ6 : Nat → FieldType := fun k => match k with
  | _ => .int
abbrev wsJ60 : List Cond := u_ws RJ6 TJ6 0
theorem nmJ6 : ∀ a, a < 0 → ∀ b, b < 0 → a ≠ b → (TJ6 a).2.1 ≠ (TJ6 b).2.1 := by decide +kernel
theorem tyJ6_ok : ∀ k, k < 0 → parseFieldDescriptor (TJ6 k).2.2.1 = some (tyJ6 k) := by decide +kernel
abbrev cJ6_bitCount_0f7a4 : ByteArray := prog_13_method_49_code
def yJ6_bitCount_0f7a4 : MethodName := ⟨RJ6, "bitCount", "(I)I"⟩
def RJ9 : String := "java/lang/Math"
def TJ9 : u_T := fun k => match k with
  | _ => ("", "", "", false)
def tyJ9 : Nat → FieldType := fun k => match k with
  | _ => .int
abbrev wsJ90 : List Cond := u_ws RJ9 TJ9 0
theorem nmJ9 : ∀ a, a < 0 → ∀ b, b < 0 → a ≠ b → (TJ9 a).2.1 ≠ (TJ9 b).2.1 := by decide +kernel
theorem tyJ9_ok : ∀ k, k < 0 → parseFieldDescriptor (TJ9 k).2.2.1 = some (tyJ9 k) := by decide +kernel
abbrev cJ9_max_7cf53 : ByteArray := prog_14_method_65_code
def yJ9_max_7cf53 : MethodName := ⟨RJ9, "max", "(II)I"⟩
abbrev cJ9_min_7cf53 : ByteArray := prog_14_method_69_code
def yJ9_min_7cf53 : MethodName := ⟨RJ9, "min", "(II)I"⟩
def RJ10 : String := "java/lang/System"
def TJ10 : u_T := fun k => match k with
  | _ => ("", "", "", false)
def tyJ10 : Nat → FieldType := fun k => match k with
  | _ => .int
abbrev wsJ100 : List Cond := u_ws RJ10 TJ10 0
theorem nmJ10 : ∀ a, a < 0 → ∀ b, b < 0 → a ≠ b → (TJ10 a).2.1 ≠ (TJ10 b).2.1 := by decide +kernel
theorem tyJ10_ok : ∀ k, k < 0 → parseFieldDescriptor (TJ10 k).2.2.1 = some (tyJ10 k) := by decide +kernel
def RL : String := "CourtJotterLaw"
abbrev cL_law : ByteArray := code
def yL_law : MethodName := ⟨RL, "law", "([I)Z"⟩
end
section
theorem dX0_init_0 : decode cX0_init 0 = .ok (.aload_n 0, 1) := by decide +kernel
theorem dX0_init_1 : decode cX0_init 1 = .ok (.invokespecial 3, 3) := by decide +kernel
theorem dX0_init_4 : decode cX0_init 4 = .ok (.aload_n 0, 1) := by decide +kernel
theorem dX0_init_5 : decode cX0_init 5 = .ok (.new 9, 3) := by decide +kernel
theorem dX0_init_8 : decode cX0_init 8 = .ok (.dup, 1) := by decide +kernel
theorem dX0_init_9 : decode cX0_init 9 = .ok (.invokespecial 11, 3) := by decide +kernel
theorem dX0_init_12 : decode cX0_init 12 = .ok (.putfield 12, 3) := by decide +kernel
theorem dX0_init_15 : decode cX0_init 15 = .ok (.aload_n 0, 1) := by decide +kernel
theorem dX0_init_16 : decode cX0_init 16 = .ok (.new 18, 3) := by decide +kernel
theorem dX0_init_19 : decode cX0_init 19 = .ok (.dup, 1) := by decide +kernel
theorem dX0_init_20 : decode cX0_init 20 = .ok (.invokespecial 20, 3) := by decide +kernel
theorem dX0_init_23 : decode cX0_init 23 = .ok (.putfield 21, 3) := by decide +kernel
theorem dX0_init_26 : decode cX0_init 26 = .ok (.aload_n 0, 1) := by decide +kernel
theorem dX0_init_27 : decode cX0_init 27 = .ok (.new 25, 3) := by decide +kernel
theorem dX0_init_30 : decode cX0_init 30 = .ok (.dup, 1) := by decide +kernel
theorem dX0_init_31 : decode cX0_init 31 = .ok (.invokespecial 27, 3) := by decide +kernel
theorem dX0_init_34 : decode cX0_init 34 = .ok (.putfield 28, 3) := by decide +kernel
theorem dX0_init_37 : decode cX0_init 37 = .ok (.aload_n 0, 1) := by decide +kernel
theorem dX0_init_38 : decode cX0_init 38 = .ok (.bipush 40, 2) := by decide +kernel
theorem dX0_init_40 : decode cX0_init 40 = .ok (.putfield 32, 3) := by decide +kernel
theorem dX0_init_43 : decode cX0_init 43 = .ok (.aload_n 0, 1) := by decide +kernel
theorem dX0_init_44 : decode cX0_init 44 = .ok (.bipush 10, 2) := by decide +kernel
theorem dX0_init_46 : decode cX0_init 46 = .ok (.putfield 36, 3) := by decide +kernel
theorem dX0_init_49 : decode cX0_init 49 = .ok (.aload_n 0, 1) := by decide +kernel
theorem dX0_init_50 : decode cX0_init 50 = .ok (.iconst (-1), 1) := by decide +kernel
theorem dX0_init_51 : decode cX0_init 51 = .ok (.putfield 39, 3) := by decide +kernel
theorem dX0_init_54 : decode cX0_init 54 = .ok (.return_, 1) := by decide +kernel
theorem dX0_copyFrom_0 : decode cX0_copyFrom 0 = .ok (.aload_n 0, 1) := by decide +kernel
theorem dX0_copyFrom_1 : decode cX0_copyFrom 1 = .ok (.getfield 12, 3) := by decide +kernel
theorem dX0_copyFrom_4 : decode cX0_copyFrom 4 = .ok (.aload_n 1, 1) := by decide +kernel
theorem dX0_copyFrom_5 : decode cX0_copyFrom 5 = .ok (.getfield 12, 3) := by decide +kernel
theorem dX0_copyFrom_8 : decode cX0_copyFrom 8 = .ok (.invokevirtual 42, 3) := by decide +kernel
theorem dX0_copyFrom_11 : decode cX0_copyFrom 11 = .ok (.aload_n 0, 1) := by decide +kernel
theorem dX0_copyFrom_12 : decode cX0_copyFrom 12 = .ok (.getfield 21, 3) := by decide +kernel
theorem dX0_copyFrom_15 : decode cX0_copyFrom 15 = .ok (.aload_n 1, 1) := by decide +kernel
theorem dX0_copyFrom_16 : decode cX0_copyFrom 16 = .ok (.getfield 21, 3) := by decide +kernel
theorem dX0_copyFrom_19 : decode cX0_copyFrom 19 = .ok (.invokevirtual 46, 3) := by decide +kernel
theorem dX0_copyFrom_22 : decode cX0_copyFrom 22 = .ok (.aload_n 0, 1) := by decide +kernel
theorem dX0_copyFrom_23 : decode cX0_copyFrom 23 = .ok (.getfield 28, 3) := by decide +kernel
theorem dX0_copyFrom_26 : decode cX0_copyFrom 26 = .ok (.aload_n 1, 1) := by decide +kernel
theorem dX0_copyFrom_27 : decode cX0_copyFrom 27 = .ok (.getfield 28, 3) := by decide +kernel
theorem dX0_copyFrom_30 : decode cX0_copyFrom 30 = .ok (.invokevirtual 49, 3) := by decide +kernel
theorem dX0_copyFrom_33 : decode cX0_copyFrom 33 = .ok (.aload_n 0, 1) := by decide +kernel
theorem dX0_copyFrom_34 : decode cX0_copyFrom 34 = .ok (.aload_n 1, 1) := by decide +kernel
theorem dX0_copyFrom_35 : decode cX0_copyFrom 35 = .ok (.getfield 32, 3) := by decide +kernel
theorem dX0_copyFrom_38 : decode cX0_copyFrom 38 = .ok (.putfield 32, 3) := by decide +kernel
theorem dX0_copyFrom_41 : decode cX0_copyFrom 41 = .ok (.aload_n 0, 1) := by decide +kernel
theorem dX0_copyFrom_42 : decode cX0_copyFrom 42 = .ok (.aload_n 1, 1) := by decide +kernel
theorem dX0_copyFrom_43 : decode cX0_copyFrom 43 = .ok (.getfield 36, 3) := by decide +kernel
theorem dX0_copyFrom_46 : decode cX0_copyFrom 46 = .ok (.putfield 36, 3) := by decide +kernel
theorem dX0_copyFrom_49 : decode cX0_copyFrom 49 = .ok (.aload_n 0, 1) := by decide +kernel
theorem dX0_copyFrom_50 : decode cX0_copyFrom 50 = .ok (.aload_n 1, 1) := by decide +kernel
theorem dX0_copyFrom_51 : decode cX0_copyFrom 51 = .ok (.getfield 52, 3) := by decide +kernel
theorem dX0_copyFrom_54 : decode cX0_copyFrom 54 = .ok (.putfield 52, 3) := by decide +kernel
theorem dX0_copyFrom_57 : decode cX0_copyFrom 57 = .ok (.aload_n 0, 1) := by decide +kernel
theorem dX0_copyFrom_58 : decode cX0_copyFrom 58 = .ok (.aload_n 1, 1) := by decide +kernel
theorem dX0_copyFrom_59 : decode cX0_copyFrom 59 = .ok (.getfield 39, 3) := by decide +kernel
theorem dX0_copyFrom_62 : decode cX0_copyFrom 62 = .ok (.putfield 39, 3) := by decide +kernel
theorem dX0_copyFrom_65 : decode cX0_copyFrom 65 = .ok (.aload_n 0, 1) := by decide +kernel
theorem dX0_copyFrom_66 : decode cX0_copyFrom 66 = .ok (.aload_n 1, 1) := by decide +kernel
theorem dX0_copyFrom_67 : decode cX0_copyFrom 67 = .ok (.getfield 55, 3) := by decide +kernel
theorem dX0_copyFrom_70 : decode cX0_copyFrom 70 = .ok (.putfield 55, 3) := by decide +kernel
theorem dX0_copyFrom_73 : decode cX0_copyFrom 73 = .ok (.aload_n 0, 1) := by decide +kernel
theorem dX0_copyFrom_74 : decode cX0_copyFrom 74 = .ok (.aload_n 1, 1) := by decide +kernel
theorem dX0_copyFrom_75 : decode cX0_copyFrom 75 = .ok (.getfield 58, 3) := by decide +kernel
theorem dX0_copyFrom_78 : decode cX0_copyFrom 78 = .ok (.putfield 58, 3) := by decide +kernel
theorem dX0_copyFrom_81 : decode cX0_copyFrom 81 = .ok (.aload_n 0, 1) := by decide +kernel
theorem dX0_copyFrom_82 : decode cX0_copyFrom 82 = .ok (.aload_n 1, 1) := by decide +kernel
theorem dX0_copyFrom_83 : decode cX0_copyFrom 83 = .ok (.getfield 61, 3) := by decide +kernel
theorem dX0_copyFrom_86 : decode cX0_copyFrom 86 = .ok (.putfield 61, 3) := by decide +kernel
theorem dX0_copyFrom_89 : decode cX0_copyFrom 89 = .ok (.return_, 1) := by decide +kernel
theorem dX0_addPerson_0 : decode cX0_addPerson 0 = .ok (.iload_n 1, 1) := by decide +kernel
theorem dX0_addPerson_1 : decode cX0_addPerson 1 = .ok (.iconst 0, 1) := by decide +kernel
theorem dX0_addPerson_2 : decode cX0_addPerson 2 = .ok (.iconst 3, 1) := by decide +kernel
theorem dX0_addPerson_3 : decode cX0_addPerson 3 = .ok (.invokestatic 64, 3) := by decide +kernel
theorem dX0_addPerson_6 : decode cX0_addPerson 6 = .ok (.ifCond .eq 12, 3) := by decide +kernel
theorem dX0_addPerson_9 : decode cX0_addPerson 9 = .ok (.iload_n 2, 1) := by decide +kernel
theorem dX0_addPerson_10 : decode cX0_addPerson 10 = .ok (.iconst 0, 1) := by decide +kernel
theorem dX0_addPerson_11 : decode cX0_addPerson 11 = .ok (.iconst 5, 1) := by decide +kernel
theorem dX0_addPerson_12 : decode cX0_addPerson 12 = .ok (.invokestatic 64, 3) := by decide +kernel
theorem dX0_addPerson_15 : decode cX0_addPerson 15 = .ok (.ifCond .ne 6, 3) := by decide +kernel
theorem dX0_addPerson_18 : decode cX0_addPerson 18 = .ok (.ldc 68, 2) := by decide +kernel
theorem dX0_addPerson_20 : decode cX0_addPerson 20 = .ok (.ireturn, 1) := by decide +kernel
theorem dX0_addPerson_21 : decode cX0_addPerson 21 = .ok (.aload_n 0, 1) := by decide +kernel
theorem dX0_addPerson_22 : decode cX0_addPerson 22 = .ok (.getfield 12, 3) := by decide +kernel
theorem dX0_addPerson_25 : decode cX0_addPerson 25 = .ok (.iload_n 1, 1) := by decide +kernel
theorem dX0_addPerson_26 : decode cX0_addPerson 26 = .ok (.iload_n 2, 1) := by decide +kernel
theorem dX0_addPerson_27 : decode cX0_addPerson 27 = .ok (.invokevirtual 69, 3) := by decide +kernel
theorem dX0_addPerson_30 : decode cX0_addPerson 30 = .ok (.ifCond .eq 6, 3) := by decide +kernel
theorem dX0_addPerson_33 : decode cX0_addPerson 33 = .ok (.ldc 73, 2) := by decide +kernel
theorem dX0_addPerson_35 : decode cX0_addPerson 35 = .ok (.ireturn, 1) := by decide +kernel
theorem dX0_addPerson_36 : decode cX0_addPerson 36 = .ok (.aload_n 0, 1) := by decide +kernel
theorem dX0_addPerson_37 : decode cX0_addPerson 37 = .ok (.getfield 12, 3) := by decide +kernel
theorem dX0_addPerson_40 : decode cX0_addPerson 40 = .ok (.getfield 74, 3) := by decide +kernel
theorem dX0_addPerson_43 : decode cX0_addPerson 43 = .ok (.bipush 6, 2) := by decide +kernel
theorem dX0_addPerson_45 : decode cX0_addPerson 45 = .ok (.if_icmp .lt 6, 3) := by decide +kernel
theorem dX0_addPerson_48 : decode cX0_addPerson 48 = .ok (.ldc 77, 2) := by decide +kernel
theorem dX0_addPerson_50 : decode cX0_addPerson 50 = .ok (.ireturn, 1) := by decide +kernel
theorem dX0_addPerson_51 : decode cX0_addPerson 51 = .ok (.aload_n 0, 1) := by decide +kernel
theorem dX0_addPerson_52 : decode cX0_addPerson 52 = .ok (.getfield 12, 3) := by decide +kernel
theorem dX0_addPerson_55 : decode cX0_addPerson 55 = .ok (.getfield 78, 3) := by decide +kernel
theorem dX0_addPerson_58 : decode cX0_addPerson 58 = .ok (.aload_n 0, 1) := by decide +kernel
theorem dX0_addPerson_59 : decode cX0_addPerson 59 = .ok (.getfield 12, 3) := by decide +kernel
theorem dX0_addPerson_62 : decode cX0_addPerson 62 = .ok (.getfield 74, 3) := by decide +kernel
theorem dX0_addPerson_65 : decode cX0_addPerson 65 = .ok (.iload_n 1, 1) := by decide +kernel
theorem dX0_addPerson_66 : decode cX0_addPerson 66 = .ok (.iastore, 1) := by decide +kernel
theorem dX0_addPerson_67 : decode cX0_addPerson 67 = .ok (.aload_n 0, 1) := by decide +kernel
theorem dX0_addPerson_68 : decode cX0_addPerson 68 = .ok (.getfield 12, 3) := by decide +kernel
theorem dX0_addPerson_71 : decode cX0_addPerson 71 = .ok (.getfield 82, 3) := by decide +kernel
theorem dX0_addPerson_74 : decode cX0_addPerson 74 = .ok (.aload_n 0, 1) := by decide +kernel
theorem dX0_addPerson_75 : decode cX0_addPerson 75 = .ok (.getfield 12, 3) := by decide +kernel
theorem dX0_addPerson_78 : decode cX0_addPerson 78 = .ok (.getfield 74, 3) := by decide +kernel
theorem dX0_addPerson_81 : decode cX0_addPerson 81 = .ok (.iload_n 2, 1) := by decide +kernel
theorem dX0_addPerson_82 : decode cX0_addPerson 82 = .ok (.iastore, 1) := by decide +kernel
theorem dX0_addPerson_83 : decode cX0_addPerson 83 = .ok (.aload_n 0, 1) := by decide +kernel
theorem dX0_addPerson_84 : decode cX0_addPerson 84 = .ok (.getfield 12, 3) := by decide +kernel
theorem dX0_addPerson_87 : decode cX0_addPerson 87 = .ok (.dup, 1) := by decide +kernel
theorem dX0_addPerson_88 : decode cX0_addPerson 88 = .ok (.getfield 74, 3) := by decide +kernel
theorem dX0_addPerson_91 : decode cX0_addPerson 91 = .ok (.iconst 1, 1) := by decide +kernel
theorem dX0_addPerson_92 : decode cX0_addPerson 92 = .ok (.iadd, 1) := by decide +kernel
theorem dX0_addPerson_93 : decode cX0_addPerson 93 = .ok (.putfield 74, 3) := by decide +kernel
theorem dX0_addPerson_96 : decode cX0_addPerson 96 = .ok (.aload_n 0, 1) := by decide +kernel
theorem dX0_addPerson_97 : decode cX0_addPerson 97 = .ok (.getfield 12, 3) := by decide +kernel
theorem dX0_addPerson_100 : decode cX0_addPerson 100 = .ok (.getfield 74, 3) := by decide +kernel
theorem dX0_addPerson_103 : decode cX0_addPerson 103 = .ok (.iconst 1, 1) := by decide +kernel
theorem dX0_addPerson_104 : decode cX0_addPerson 104 = .ok (.isub, 1) := by decide +kernel
theorem dX0_addPerson_105 : decode cX0_addPerson 105 = .ok (.ireturn, 1) := by decide +kernel
theorem dX0_turnPerson_0 : decode cX0_turnPerson 0 = .ok (.aload_n 0, 1) := by decide +kernel
theorem dX0_turnPerson_1 : decode cX0_turnPerson 1 = .ok (.getfield 12, 3) := by decide +kernel
theorem dX0_turnPerson_4 : decode cX0_turnPerson 4 = .ok (.iload_n 1, 1) := by decide +kernel
theorem dX0_turnPerson_5 : decode cX0_turnPerson 5 = .ok (.invokevirtual 85, 3) := by decide +kernel
theorem dX0_turnPerson_8 : decode cX0_turnPerson 8 = .ok (.ifCond .eq 23, 3) := by decide +kernel
theorem dX0_turnPerson_11 : decode cX0_turnPerson 11 = .ok (.iload_n 2, 1) := by decide +kernel
theorem dX0_turnPerson_12 : decode cX0_turnPerson 12 = .ok (.iconst 0, 1) := by decide +kernel
theorem dX0_turnPerson_13 : decode cX0_turnPerson 13 = .ok (.bipush 11, 2) := by decide +kernel
theorem dX0_turnPerson_15 : decode cX0_turnPerson 15 = .ok (.invokestatic 64, 3) := by decide +kernel
theorem dX0_turnPerson_18 : decode cX0_turnPerson 18 = .ok (.ifCond .eq 13, 3) := by decide +kernel
theorem dX0_turnPerson_21 : decode cX0_turnPerson 21 = .ok (.iload_n 3, 1) := by decide +kernel
theorem dX0_turnPerson_22 : decode cX0_turnPerson 22 = .ok (.iconst 0, 1) := by decide +kernel
theorem dX0_turnPerson_23 : decode cX0_turnPerson 23 = .ok (.bipush 11, 2) := by decide +kernel
theorem dX0_turnPerson_25 : decode cX0_turnPerson 25 = .ok (.invokestatic 64, 3) := by decide +kernel
theorem dX0_turnPerson_28 : decode cX0_turnPerson 28 = .ok (.ifCond .ne 6, 3) := by decide +kernel
theorem dX0_turnPerson_31 : decode cX0_turnPerson 31 = .ok (.ldc 68, 2) := by decide +kernel
theorem dX0_turnPerson_33 : decode cX0_turnPerson 33 = .ok (.ireturn, 1) := by decide +kernel
theorem dX0_turnPerson_34 : decode cX0_turnPerson 34 = .ok (.aload_n 0, 1) := by decide +kernel
theorem dX0_turnPerson_35 : decode cX0_turnPerson 35 = .ok (.getfield 12, 3) := by decide +kernel
theorem dX0_turnPerson_38 : decode cX0_turnPerson 38 = .ok (.getfield 89, 3) := by decide +kernel
theorem dX0_turnPerson_41 : decode cX0_turnPerson 41 = .ok (.iload_n 1, 1) := by decide +kernel
theorem dX0_turnPerson_42 : decode cX0_turnPerson 42 = .ok (.iload_n 2, 1) := by decide +kernel
theorem dX0_turnPerson_43 : decode cX0_turnPerson 43 = .ok (.iastore, 1) := by decide +kernel
theorem dX0_turnPerson_44 : decode cX0_turnPerson 44 = .ok (.aload_n 0, 1) := by decide +kernel
theorem dX0_turnPerson_45 : decode cX0_turnPerson 45 = .ok (.getfield 12, 3) := by decide +kernel
theorem dX0_turnPerson_48 : decode cX0_turnPerson 48 = .ok (.getfield 92, 3) := by decide +kernel
theorem dX0_turnPerson_51 : decode cX0_turnPerson 51 = .ok (.iload_n 1, 1) := by decide +kernel
theorem dX0_turnPerson_52 : decode cX0_turnPerson 52 = .ok (.iload_n 3, 1) := by decide +kernel
theorem dX0_turnPerson_53 : decode cX0_turnPerson 53 = .ok (.iastore, 1) := by decide +kernel
theorem dX0_turnPerson_54 : decode cX0_turnPerson 54 = .ok (.aload_n 0, 1) := by decide +kernel
theorem dX0_turnPerson_55 : decode cX0_turnPerson 55 = .ok (.getfield 12, 3) := by decide +kernel
theorem dX0_turnPerson_58 : decode cX0_turnPerson 58 = .ok (.iload_n 1, 1) := by decide +kernel
theorem dX0_turnPerson_59 : decode cX0_turnPerson 59 = .ok (.iconst 0, 1) := by decide +kernel
theorem dX0_turnPerson_60 : decode cX0_turnPerson 60 = .ok (.invokevirtual 95, 3) := by decide +kernel
theorem dX0_turnPerson_63 : decode cX0_turnPerson 63 = .ok (.ireturn, 1) := by decide +kernel
theorem dX0_addPaper_0 : decode cX0_addPaper 0 = .ok (.iload_n 1, 1) := by decide +kernel
theorem dX0_addPaper_1 : decode cX0_addPaper 1 = .ok (.iconst 1, 1) := by decide +kernel
theorem dX0_addPaper_2 : decode cX0_addPaper 2 = .ok (.bipush 20, 2) := by decide +kernel
theorem dX0_addPaper_4 : decode cX0_addPaper 4 = .ok (.invokestatic 64, 3) := by decide +kernel
theorem dX0_addPaper_7 : decode cX0_addPaper 7 = .ok (.ifCond .eq 14, 3) := by decide +kernel
theorem dX0_addPaper_10 : decode cX0_addPaper 10 = .ok (.iload_n 2, 1) := by decide +kernel
theorem dX0_addPaper_11 : decode cX0_addPaper 11 = .ok (.iconst 1, 1) := by decide +kernel
theorem dX0_addPaper_12 : decode cX0_addPaper 12 = .ok (.sipush 299, 3) := by decide +kernel
theorem dX0_addPaper_15 : decode cX0_addPaper 15 = .ok (.invokestatic 64, 3) := by decide +kernel
theorem dX0_addPaper_18 : decode cX0_addPaper 18 = .ok (.ifCond .ne 6, 3) := by decide +kernel
theorem dX0_addPaper_21 : decode cX0_addPaper 21 = .ok (.ldc 68, 2) := by decide +kernel
theorem dX0_addPaper_23 : decode cX0_addPaper 23 = .ok (.ireturn, 1) := by decide +kernel
theorem dX0_addPaper_24 : decode cX0_addPaper 24 = .ok (.aload_n 0, 1) := by decide +kernel
theorem dX0_addPaper_25 : decode cX0_addPaper 25 = .ok (.getfield 28, 3) := by decide +kernel
theorem dX0_addPaper_28 : decode cX0_addPaper 28 = .ok (.getfield 99, 3) := by decide +kernel
theorem dX0_addPaper_31 : decode cX0_addPaper 31 = .ok (.iconst 4, 1) := by decide +kernel
theorem dX0_addPaper_32 : decode cX0_addPaper 32 = .ok (.if_icmp .lt 6, 3) := by decide +kernel
theorem dX0_addPaper_35 : decode cX0_addPaper 35 = .ok (.ldc 77, 2) := by decide +kernel
theorem dX0_addPaper_37 : decode cX0_addPaper 37 = .ok (.ireturn, 1) := by decide +kernel
theorem dX0_addPaper_38 : decode cX0_addPaper 38 = .ok (.aload_n 0, 1) := by decide +kernel
theorem dX0_addPaper_39 : decode cX0_addPaper 39 = .ok (.getfield 28, 3) := by decide +kernel
theorem dX0_addPaper_42 : decode cX0_addPaper 42 = .ok (.getfield 100, 3) := by decide +kernel
theorem dX0_addPaper_45 : decode cX0_addPaper 45 = .ok (.aload_n 0, 1) := by decide +kernel
theorem dX0_addPaper_46 : decode cX0_addPaper 46 = .ok (.getfield 28, 3) := by decide +kernel
theorem dX0_addPaper_49 : decode cX0_addPaper 49 = .ok (.getfield 99, 3) := by decide +kernel
theorem dX0_addPaper_52 : decode cX0_addPaper 52 = .ok (.iload_n 1, 1) := by decide +kernel
theorem dX0_addPaper_53 : decode cX0_addPaper 53 = .ok (.iastore, 1) := by decide +kernel
theorem dX0_addPaper_54 : decode cX0_addPaper 54 = .ok (.aload_n 0, 1) := by decide +kernel
theorem dX0_addPaper_55 : decode cX0_addPaper 55 = .ok (.getfield 28, 3) := by decide +kernel
theorem dX0_addPaper_58 : decode cX0_addPaper 58 = .ok (.getfield 103, 3) := by decide +kernel
theorem dX0_addPaper_61 : decode cX0_addPaper 61 = .ok (.aload_n 0, 1) := by decide +kernel
theorem dX0_addPaper_62 : decode cX0_addPaper 62 = .ok (.getfield 28, 3) := by decide +kernel
theorem dX0_addPaper_65 : decode cX0_addPaper 65 = .ok (.getfield 99, 3) := by decide +kernel
theorem dX0_addPaper_68 : decode cX0_addPaper 68 = .ok (.iload_n 2, 1) := by decide +kernel
theorem dX0_addPaper_69 : decode cX0_addPaper 69 = .ok (.iastore, 1) := by decide +kernel
theorem dX0_addPaper_70 : decode cX0_addPaper 70 = .ok (.aload_n 0, 1) := by decide +kernel
theorem dX0_addPaper_71 : decode cX0_addPaper 71 = .ok (.getfield 28, 3) := by decide +kernel
theorem dX0_addPaper_74 : decode cX0_addPaper 74 = .ok (.dup, 1) := by decide +kernel
theorem dX0_addPaper_75 : decode cX0_addPaper 75 = .ok (.getfield 99, 3) := by decide +kernel
theorem dX0_addPaper_78 : decode cX0_addPaper 78 = .ok (.iconst 1, 1) := by decide +kernel
theorem dX0_addPaper_79 : decode cX0_addPaper 79 = .ok (.iadd, 1) := by decide +kernel
theorem dX0_addPaper_80 : decode cX0_addPaper 80 = .ok (.putfield 99, 3) := by decide +kernel
theorem dX0_addPaper_83 : decode cX0_addPaper 83 = .ok (.aload_n 0, 1) := by decide +kernel
theorem dX0_addPaper_84 : decode cX0_addPaper 84 = .ok (.getfield 28, 3) := by decide +kernel
theorem dX0_addPaper_87 : decode cX0_addPaper 87 = .ok (.getfield 99, 3) := by decide +kernel
theorem dX0_addPaper_90 : decode cX0_addPaper 90 = .ok (.iconst 1, 1) := by decide +kernel
theorem dX0_addPaper_91 : decode cX0_addPaper 91 = .ok (.isub, 1) := by decide +kernel
theorem dX0_addPaper_92 : decode cX0_addPaper 92 = .ok (.ireturn, 1) := by decide +kernel
theorem dX0_lookAt_0 : decode cX0_lookAt 0 = .ok (.iload_n 1, 1) := by decide +kernel
theorem dX0_lookAt_1 : decode cX0_lookAt 1 = .ok (.iconst (-1), 1) := by decide +kernel
theorem dX0_lookAt_2 : decode cX0_lookAt 2 = .ok (.if_icmp .eq 17, 3) := by decide +kernel
theorem dX0_lookAt_5 : decode cX0_lookAt 5 = .ok (.aload_n 0, 1) := by decide +kernel
theorem dX0_lookAt_6 : decode cX0_lookAt 6 = .ok (.getfield 12, 3) := by decide +kernel
theorem dX0_lookAt_9 : decode cX0_lookAt 9 = .ok (.iload_n 1, 1) := by decide +kernel
theorem dX0_lookAt_10 : decode cX0_lookAt 10 = .ok (.invokevirtual 85, 3) := by decide +kernel
theorem dX0_lookAt_13 : decode cX0_lookAt 13 = .ok (.ifCond .ne 6, 3) := by decide +kernel
theorem dX0_lookAt_16 : decode cX0_lookAt 16 = .ok (.ldc 68, 2) := by decide +kernel
theorem dX0_lookAt_18 : decode cX0_lookAt 18 = .ok (.ireturn, 1) := by decide +kernel
theorem dX0_lookAt_19 : decode cX0_lookAt 19 = .ok (.aload_n 0, 1) := by decide +kernel
theorem dX0_lookAt_20 : decode cX0_lookAt 20 = .ok (.iload_n 1, 1) := by decide +kernel
theorem dX0_lookAt_21 : decode cX0_lookAt 21 = .ok (.putfield 39, 3) := by decide +kernel
theorem dX0_lookAt_24 : decode cX0_lookAt 24 = .ok (.iload_n 1, 1) := by decide +kernel
theorem dX0_lookAt_25 : decode cX0_lookAt 25 = .ok (.iconst (-1), 1) := by decide +kernel
theorem dX0_lookAt_26 : decode cX0_lookAt 26 = .ok (.if_icmp .ne 7, 3) := by decide +kernel
theorem dX0_lookAt_29 : decode cX0_lookAt 29 = .ok (.iconst 0, 1) := by decide +kernel
theorem dX0_lookAt_30 : decode cX0_lookAt 30 = .ok (.goto 12, 3) := by decide +kernel
theorem dX0_lookAt_33 : decode cX0_lookAt 33 = .ok (.aload_n 0, 1) := by decide +kernel
theorem dX0_lookAt_34 : decode cX0_lookAt 34 = .ok (.getfield 12, 3) := by decide +kernel
theorem dX0_lookAt_37 : decode cX0_lookAt 37 = .ok (.iload_n 1, 1) := by decide +kernel
theorem dX0_lookAt_38 : decode cX0_lookAt 38 = .ok (.iconst 0, 1) := by decide +kernel
theorem dX0_lookAt_39 : decode cX0_lookAt 39 = .ok (.invokevirtual 95, 3) := by decide +kernel
theorem dX0_lookAt_42 : decode cX0_lookAt 42 = .ok (.ireturn, 1) := by decide +kernel
theorem dX0_beginSheet_0 : decode cX0_beginSheet 0 = .ok (.aload_n 0, 1) := by decide +kernel
theorem dX0_beginSheet_1 : decode cX0_beginSheet 1 = .ok (.getfield 12, 3) := by decide +kernel
theorem dX0_beginSheet_4 : decode cX0_beginSheet 4 = .ok (.iload_n 1, 1) := by decide +kernel
theorem dX0_beginSheet_5 : decode cX0_beginSheet 5 = .ok (.invokevirtual 85, 3) := by decide +kernel
theorem dX0_beginSheet_8 : decode cX0_beginSheet 8 = .ok (.ifCond .ne 6, 3) := by decide +kernel
theorem dX0_beginSheet_11 : decode cX0_beginSheet 11 = .ok (.ldc 68, 2) := by decide +kernel
theorem dX0_beginSheet_13 : decode cX0_beginSheet 13 = .ok (.ireturn, 1) := by decide +kernel
theorem dX0_beginSheet_14 : decode cX0_beginSheet 14 = .ok (.aload_n 0, 1) := by decide +kernel
theorem dX0_beginSheet_15 : decode cX0_beginSheet 15 = .ok (.getfield 21, 3) := by decide +kernel
theorem dX0_beginSheet_18 : decode cX0_beginSheet 18 = .ok (.getfield 106, 3) := by decide +kernel
theorem dX0_beginSheet_21 : decode cX0_beginSheet 21 = .ok (.bipush 10, 2) := by decide +kernel
theorem dX0_beginSheet_23 : decode cX0_beginSheet 23 = .ok (.if_icmp .lt 6, 3) := by decide +kernel
theorem dX0_beginSheet_26 : decode cX0_beginSheet 26 = .ok (.ldc 77, 2) := by decide +kernel
theorem dX0_beginSheet_28 : decode cX0_beginSheet 28 = .ok (.ireturn, 1) := by decide +kernel
theorem dX0_beginSheet_29 : decode cX0_beginSheet 29 = .ok (.aload_n 0, 1) := by decide +kernel
theorem dX0_beginSheet_30 : decode cX0_beginSheet 30 = .ok (.getfield 21, 3) := by decide +kernel
theorem dX0_beginSheet_33 : decode cX0_beginSheet 33 = .ok (.iload_n 1, 1) := by decide +kernel
theorem dX0_beginSheet_34 : decode cX0_beginSheet 34 = .ok (.invokevirtual 107, 3) := by decide +kernel
theorem dX0_beginSheet_37 : decode cX0_beginSheet 37 = .ok (.ireturn, 1) := by decide +kernel
theorem dX0_drawFeature_0 : decode cX0_drawFeature 0 = .ok (.aload_n 0, 1) := by decide +kernel
theorem dX0_drawFeature_1 : decode cX0_drawFeature 1 = .ok (.getfield 21, 3) := by decide +kernel
theorem dX0_drawFeature_4 : decode cX0_drawFeature 4 = .ok (.iload_n 1, 1) := by decide +kernel
theorem dX0_drawFeature_5 : decode cX0_drawFeature 5 = .ok (.invokevirtual 111, 3) := by decide +kernel
theorem dX0_drawFeature_8 : decode cX0_drawFeature 8 = .ok (.istore_n 3, 1) := by decide +kernel
theorem dX0_drawFeature_9 : decode cX0_drawFeature 9 = .ok (.iload_n 3, 1) := by decide +kernel
theorem dX0_drawFeature_10 : decode cX0_drawFeature 10 = .ok (.iconst (-1), 1) := by decide +kernel
theorem dX0_drawFeature_11 : decode cX0_drawFeature 11 = .ok (.if_icmp .eq 13, 3) := by decide +kernel
theorem dX0_drawFeature_14 : decode cX0_drawFeature 14 = .ok (.iload_n 2, 1) := by decide +kernel
theorem dX0_drawFeature_15 : decode cX0_drawFeature 15 = .ok (.iconst 0, 1) := by decide +kernel
theorem dX0_drawFeature_16 : decode cX0_drawFeature 16 = .ok (.bipush 11, 2) := by decide +kernel
theorem dX0_drawFeature_18 : decode cX0_drawFeature 18 = .ok (.invokestatic 64, 3) := by decide +kernel
theorem dX0_drawFeature_21 : decode cX0_drawFeature 21 = .ok (.ifCond .ne 6, 3) := by decide +kernel
theorem dX0_drawFeature_24 : decode cX0_drawFeature 24 = .ok (.ldc 68, 2) := by decide +kernel
theorem dX0_drawFeature_26 : decode cX0_drawFeature 26 = .ok (.ireturn, 1) := by decide +kernel
theorem dX0_drawFeature_27 : decode cX0_drawFeature 27 = .ok (.aload_n 0, 1) := by decide +kernel
theorem dX0_drawFeature_28 : decode cX0_drawFeature 28 = .ok (.iload_n 3, 1) := by decide +kernel
theorem dX0_drawFeature_29 : decode cX0_drawFeature 29 = .ok (.invokevirtual 114, 3) := by decide +kernel
theorem dX0_drawFeature_32 : decode cX0_drawFeature 32 = .ok (.iload_n 2, 1) := by decide +kernel
theorem dX0_drawFeature_33 : decode cX0_drawFeature 33 = .ok (.invokestatic 117, 3) := by decide +kernel
theorem dX0_drawFeature_36 : decode cX0_drawFeature 36 = .ok (.ifCond .ne 6, 3) := by decide +kernel
theorem dX0_drawFeature_39 : decode cX0_drawFeature 39 = .ok (.ldc 73, 2) := by decide +kernel
theorem dX0_drawFeature_41 : decode cX0_drawFeature 41 = .ok (.ireturn, 1) := by decide +kernel
theorem dX0_drawFeature_42 : decode cX0_drawFeature 42 = .ok (.aload_n 0, 1) := by decide +kernel
theorem dX0_drawFeature_43 : decode cX0_drawFeature 43 = .ok (.getfield 55, 3) := by decide +kernel
theorem dX0_drawFeature_46 : decode cX0_drawFeature 46 = .ok (.iconst 3, 1) := by decide +kernel
theorem dX0_drawFeature_47 : decode cX0_drawFeature 47 = .ok (.if_icmp .lt 6, 3) := by decide +kernel
theorem dX0_drawFeature_50 : decode cX0_drawFeature 50 = .ok (.ldc 77, 2) := by decide +kernel
theorem dX0_drawFeature_52 : decode cX0_drawFeature 52 = .ok (.ireturn, 1) := by decide +kernel
theorem dX0_drawFeature_53 : decode cX0_drawFeature 53 = .ok (.aload_n 0, 1) := by decide +kernel
theorem dX0_drawFeature_54 : decode cX0_drawFeature 54 = .ok (.dup, 1) := by decide +kernel
theorem dX0_drawFeature_55 : decode cX0_drawFeature 55 = .ok (.getfield 55, 3) := by decide +kernel
theorem dX0_drawFeature_58 : decode cX0_drawFeature 58 = .ok (.iconst 1, 1) := by decide +kernel
theorem dX0_drawFeature_59 : decode cX0_drawFeature 59 = .ok (.iadd, 1) := by decide +kernel
theorem dX0_drawFeature_60 : decode cX0_drawFeature 60 = .ok (.putfield 55, 3) := by decide +kernel
theorem dX0_drawFeature_63 : decode cX0_drawFeature 63 = .ok (.aload_n 0, 1) := by decide +kernel
theorem dX0_drawFeature_64 : decode cX0_drawFeature 64 = .ok (.getfield 21, 3) := by decide +kernel
theorem dX0_drawFeature_67 : decode cX0_drawFeature 67 = .ok (.getfield 120, 3) := by decide +kernel
theorem dX0_drawFeature_70 : decode cX0_drawFeature 70 = .ok (.iload_n 3, 1) := by decide +kernel
theorem dX0_drawFeature_71 : decode cX0_drawFeature 71 = .ok (.dup2, 1) := by decide +kernel
theorem dX0_drawFeature_72 : decode cX0_drawFeature 72 = .ok (.iaload, 1) := by decide +kernel
theorem dX0_drawFeature_73 : decode cX0_drawFeature 73 = .ok (.iconst 1, 1) := by decide +kernel
theorem dX0_drawFeature_74 : decode cX0_drawFeature 74 = .ok (.iload_n 2, 1) := by decide +kernel
theorem dX0_drawFeature_75 : decode cX0_drawFeature 75 = .ok (.ishl, 1) := by decide +kernel
theorem dX0_drawFeature_76 : decode cX0_drawFeature 76 = .ok (.ior, 1) := by decide +kernel
theorem dX0_drawFeature_77 : decode cX0_drawFeature 77 = .ok (.iastore, 1) := by decide +kernel
theorem dX0_drawFeature_78 : decode cX0_drawFeature 78 = .ok (.aload_n 0, 1) := by decide +kernel
theorem dX0_drawFeature_79 : decode cX0_drawFeature 79 = .ok (.getfield 21, 3) := by decide +kernel
theorem dX0_drawFeature_82 : decode cX0_drawFeature 82 = .ok (.getfield 123, 3) := by decide +kernel
theorem dX0_drawFeature_85 : decode cX0_drawFeature 85 = .ok (.iload_n 3, 1) := by decide +kernel
theorem dX0_drawFeature_86 : decode cX0_drawFeature 86 = .ok (.aload_n 0, 1) := by decide +kernel
theorem dX0_drawFeature_87 : decode cX0_drawFeature 87 = .ok (.getfield 21, 3) := by decide +kernel
theorem dX0_drawFeature_90 : decode cX0_drawFeature 90 = .ok (.getfield 123, 3) := by decide +kernel
theorem dX0_drawFeature_93 : decode cX0_drawFeature 93 = .ok (.iload_n 3, 1) := by decide +kernel
theorem dX0_drawFeature_94 : decode cX0_drawFeature 94 = .ok (.iaload, 1) := by decide +kernel
theorem dX0_drawFeature_95 : decode cX0_drawFeature 95 = .ok (.aload_n 0, 1) := by decide +kernel
theorem dX0_drawFeature_96 : decode cX0_drawFeature 96 = .ok (.getfield 52, 3) := by decide +kernel
theorem dX0_drawFeature_99 : decode cX0_drawFeature 99 = .ok (.aload_n 0, 1) := by decide +kernel
theorem dX0_drawFeature_100 : decode cX0_drawFeature 100 = .ok (.getfield 36, 3) := by decide +kernel
theorem dX0_drawFeature_103 : decode cX0_drawFeature 103 = .ok (.iadd, 1) := by decide +kernel
theorem dX0_drawFeature_104 : decode cX0_drawFeature 104 = .ok (.invokestatic 126, 3) := by decide +kernel
theorem dX0_drawFeature_107 : decode cX0_drawFeature 107 = .ok (.iastore, 1) := by decide +kernel
theorem dX0_drawFeature_108 : decode cX0_drawFeature 108 = .ok (.aload_n 0, 1) := by decide +kernel
theorem dX0_drawFeature_109 : decode cX0_drawFeature 109 = .ok (.getfield 21, 3) := by decide +kernel
theorem dX0_drawFeature_112 : decode cX0_drawFeature 112 = .ok (.getfield 120, 3) := by decide +kernel
theorem dX0_drawFeature_115 : decode cX0_drawFeature 115 = .ok (.iload_n 3, 1) := by decide +kernel
theorem dX0_drawFeature_116 : decode cX0_drawFeature 116 = .ok (.iaload, 1) := by decide +kernel
theorem dX0_drawFeature_117 : decode cX0_drawFeature 117 = .ok (.invokestatic 131, 3) := by decide +kernel
theorem dX0_drawFeature_120 : decode cX0_drawFeature 120 = .ok (.ireturn, 1) := by decide +kernel
theorem dX0_tearOut_0 : decode cX0_tearOut 0 = .ok (.aload_n 0, 1) := by decide +kernel
theorem dX0_tearOut_1 : decode cX0_tearOut 1 = .ok (.getfield 21, 3) := by decide +kernel
theorem dX0_tearOut_4 : decode cX0_tearOut 4 = .ok (.iload_n 1, 1) := by decide +kernel
theorem dX0_tearOut_5 : decode cX0_tearOut 5 = .ok (.invokevirtual 111, 3) := by decide +kernel
theorem dX0_tearOut_8 : decode cX0_tearOut 8 = .ok (.istore_n 2, 1) := by decide +kernel
theorem dX0_tearOut_9 : decode cX0_tearOut 9 = .ok (.iload_n 2, 1) := by decide +kernel
theorem dX0_tearOut_10 : decode cX0_tearOut 10 = .ok (.iconst (-1), 1) := by decide +kernel
theorem dX0_tearOut_11 : decode cX0_tearOut 11 = .ok (.if_icmp .ne 6, 3) := by decide +kernel
theorem dX0_tearOut_14 : decode cX0_tearOut 14 = .ok (.ldc 68, 2) := by decide +kernel
theorem dX0_tearOut_16 : decode cX0_tearOut 16 = .ok (.ireturn, 1) := by decide +kernel
theorem dX0_tearOut_17 : decode cX0_tearOut 17 = .ok (.aload_n 0, 1) := by decide +kernel
theorem dX0_tearOut_18 : decode cX0_tearOut 18 = .ok (.getfield 21, 3) := by decide +kernel
theorem dX0_tearOut_21 : decode cX0_tearOut 21 = .ok (.iload_n 2, 1) := by decide +kernel
theorem dX0_tearOut_22 : decode cX0_tearOut 22 = .ok (.invokevirtual 136, 3) := by decide +kernel
theorem dX0_tearOut_25 : decode cX0_tearOut 25 = .ok (.aload_n 0, 1) := by decide +kernel
theorem dX0_tearOut_26 : decode cX0_tearOut 26 = .ok (.getfield 21, 3) := by decide +kernel
theorem dX0_tearOut_29 : decode cX0_tearOut 29 = .ok (.getfield 106, 3) := by decide +kernel
theorem dX0_tearOut_32 : decode cX0_tearOut 32 = .ok (.ireturn, 1) := by decide +kernel
theorem dX0_tellVerdict_0 : decode cX0_tellVerdict 0 = .ok (.aload_n 0, 1) := by decide +kernel
theorem dX0_tellVerdict_1 : decode cX0_tellVerdict 1 = .ok (.getfield 12, 3) := by decide +kernel
theorem dX0_tellVerdict_4 : decode cX0_tellVerdict 4 = .ok (.iload_n 1, 1) := by decide +kernel
theorem dX0_tellVerdict_5 : decode cX0_tellVerdict 5 = .ok (.invokevirtual 85, 3) := by decide +kernel
theorem dX0_tellVerdict_8 : decode cX0_tellVerdict 8 = .ok (.ifCond .ne 6, 3) := by decide +kernel
theorem dX0_tellVerdict_11 : decode cX0_tellVerdict 11 = .ok (.ldc 68, 2) := by decide +kernel
theorem dX0_tellVerdict_13 : decode cX0_tellVerdict 13 = .ok (.ireturn, 1) := by decide +kernel
theorem dX0_tellVerdict_14 : decode cX0_tellVerdict 14 = .ok (.aload_n 0, 1) := by decide +kernel
theorem dX0_tellVerdict_15 : decode cX0_tellVerdict 15 = .ok (.iload_n 1, 1) := by decide +kernel
theorem dX0_tellVerdict_16 : decode cX0_tellVerdict 16 = .ok (.invokevirtual 140, 3) := by decide +kernel
theorem dX0_tellVerdict_19 : decode cX0_tellVerdict 19 = .ok (.ifCond .eq 6, 3) := by decide +kernel
theorem dX0_tellVerdict_22 : decode cX0_tellVerdict 22 = .ok (.ldc 73, 2) := by decide +kernel
theorem dX0_tellVerdict_24 : decode cX0_tellVerdict 24 = .ok (.ireturn, 1) := by decide +kernel
theorem dX0_tellVerdict_25 : decode cX0_tellVerdict 25 = .ok (.aload_n 0, 1) := by decide +kernel
theorem dX0_tellVerdict_26 : decode cX0_tellVerdict 26 = .ok (.getfield 12, 3) := by decide +kernel
theorem dX0_tellVerdict_29 : decode cX0_tellVerdict 29 = .ok (.getfield 143, 3) := by decide +kernel
theorem dX0_tellVerdict_32 : decode cX0_tellVerdict 32 = .ok (.iload_n 1, 1) := by decide +kernel
theorem dX0_tellVerdict_33 : decode cX0_tellVerdict 33 = .ok (.aload_n 0, 1) := by decide +kernel
theorem dX0_tellVerdict_34 : decode cX0_tellVerdict 34 = .ok (.invokevirtual 146, 3) := by decide +kernel
theorem dX0_tellVerdict_37 : decode cX0_tellVerdict 37 = .ok (.iastore, 1) := by decide +kernel
theorem dX0_tellVerdict_38 : decode cX0_tellVerdict 38 = .ok (.aload_n 0, 1) := by decide +kernel
theorem dX0_tellVerdict_39 : decode cX0_tellVerdict 39 = .ok (.getfield 21, 3) := by decide +kernel
theorem dX0_tellVerdict_42 : decode cX0_tellVerdict 42 = .ok (.iload_n 1, 1) := by decide +kernel
theorem dX0_tellVerdict_43 : decode cX0_tellVerdict 43 = .ok (.invokevirtual 150, 3) := by decide +kernel
theorem dX0_tellVerdict_46 : decode cX0_tellVerdict 46 = .ok (.ireturn, 1) := by decide +kernel
theorem dX0_sellSheet_0 : decode cX0_sellSheet 0 = .ok (.aload_n 0, 1) := by decide +kernel
theorem dX0_sellSheet_1 : decode cX0_sellSheet 1 = .ok (.getfield 21, 3) := by decide +kernel
theorem dX0_sellSheet_4 : decode cX0_sellSheet 4 = .ok (.iload_n 1, 1) := by decide +kernel
theorem dX0_sellSheet_5 : decode cX0_sellSheet 5 = .ok (.invokevirtual 111, 3) := by decide +kernel
theorem dX0_sellSheet_8 : decode cX0_sellSheet 8 = .ok (.istore_n 3, 1) := by decide +kernel
theorem dX0_sellSheet_9 : decode cX0_sellSheet 9 = .ok (.iload_n 3, 1) := by decide +kernel
theorem dX0_sellSheet_10 : decode cX0_sellSheet 10 = .ok (.iconst (-1), 1) := by decide +kernel
theorem dX0_sellSheet_11 : decode cX0_sellSheet 11 = .ok (.if_icmp .eq 14, 3) := by decide +kernel
theorem dX0_sellSheet_14 : decode cX0_sellSheet 14 = .ok (.aload_n 0, 1) := by decide +kernel
theorem dX0_sellSheet_15 : decode cX0_sellSheet 15 = .ok (.getfield 28, 3) := by decide +kernel
theorem dX0_sellSheet_18 : decode cX0_sellSheet 18 = .ok (.iload_n 2, 1) := by decide +kernel
theorem dX0_sellSheet_19 : decode cX0_sellSheet 19 = .ok (.invokevirtual 153, 3) := by decide +kernel
theorem dX0_sellSheet_22 : decode cX0_sellSheet 22 = .ok (.ifCond .ne 6, 3) := by decide +kernel
theorem dX0_sellSheet_25 : decode cX0_sellSheet 25 = .ok (.ldc 68, 2) := by decide +kernel
theorem dX0_sellSheet_27 : decode cX0_sellSheet 27 = .ok (.ireturn, 1) := by decide +kernel
theorem dX0_sellSheet_28 : decode cX0_sellSheet 28 = .ok (.aload_n 0, 1) := by decide +kernel
theorem dX0_sellSheet_29 : decode cX0_sellSheet 29 = .ok (.iload_n 3, 1) := by decide +kernel
theorem dX0_sellSheet_30 : decode cX0_sellSheet 30 = .ok (.iload_n 2, 1) := by decide +kernel
theorem dX0_sellSheet_31 : decode cX0_sellSheet 31 = .ok (.invokevirtual 154, 3) := by decide +kernel
theorem dX0_sellSheet_34 : decode cX0_sellSheet 34 = .ok (.ifCond .ne 6, 3) := by decide +kernel
theorem dX0_sellSheet_37 : decode cX0_sellSheet 37 = .ok (.ldc 73, 2) := by decide +kernel
theorem dX0_sellSheet_39 : decode cX0_sellSheet 39 = .ok (.ireturn, 1) := by decide +kernel
theorem dX0_sellSheet_40 : decode cX0_sellSheet 40 = .ok (.aload_n 0, 1) := by decide +kernel
theorem dX0_sellSheet_41 : decode cX0_sellSheet 41 = .ok (.getfield 21, 3) := by decide +kernel
theorem dX0_sellSheet_44 : decode cX0_sellSheet 44 = .ok (.getfield 157, 3) := by decide +kernel
theorem dX0_sellSheet_47 : decode cX0_sellSheet 47 = .ok (.iload_n 3, 1) := by decide +kernel
theorem dX0_sellSheet_48 : decode cX0_sellSheet 48 = .ok (.iaload, 1) := by decide +kernel
theorem dX0_sellSheet_49 : decode cX0_sellSheet 49 = .ok (.istore 4, 2) := by decide +kernel
theorem dX0_sellSheet_51 : decode cX0_sellSheet 51 = .ok (.aload_n 0, 1) := by decide +kernel
theorem dX0_sellSheet_52 : decode cX0_sellSheet 52 = .ok (.iload_n 3, 1) := by decide +kernel
theorem dX0_sellSheet_53 : decode cX0_sellSheet 53 = .ok (.iload_n 2, 1) := by decide +kernel
theorem dX0_sellSheet_54 : decode cX0_sellSheet 54 = .ok (.invokevirtual 159, 3) := by decide +kernel
theorem dX0_sellSheet_57 : decode cX0_sellSheet 57 = .ok (.istore 5, 2) := by decide +kernel
theorem dX0_sellSheet_59 : decode cX0_sellSheet 59 = .ok (.aload_n 0, 1) := by decide +kernel
theorem dX0_sellSheet_60 : decode cX0_sellSheet 60 = .ok (.getfield 28, 3) := by decide +kernel
theorem dX0_sellSheet_63 : decode cX0_sellSheet 63 = .ok (.iload_n 2, 1) := by decide +kernel
theorem dX0_sellSheet_64 : decode cX0_sellSheet 64 = .ok (.iload 4, 2) := by decide +kernel
theorem dX0_sellSheet_66 : decode cX0_sellSheet 66 = .ok (.iload 5, 2) := by decide +kernel
theorem dX0_sellSheet_68 : decode cX0_sellSheet 68 = .ok (.aload_n 0, 1) := by decide +kernel
theorem dX0_sellSheet_69 : decode cX0_sellSheet 69 = .ok (.invokevirtual 146, 3) := by decide +kernel
theorem dX0_sellSheet_72 : decode cX0_sellSheet 72 = .ok (.invokevirtual 162, 3) := by decide +kernel
theorem dX0_sellSheet_75 : decode cX0_sellSheet 75 = .ok (.aload_n 0, 1) := by decide +kernel
theorem dX0_sellSheet_76 : decode cX0_sellSheet 76 = .ok (.getfield 12, 3) := by decide +kernel
theorem dX0_sellSheet_79 : decode cX0_sellSheet 79 = .ok (.getfield 166, 3) := by decide +kernel
theorem dX0_sellSheet_82 : decode cX0_sellSheet 82 = .ok (.iload 4, 2) := by decide +kernel
theorem dX0_sellSheet_84 : decode cX0_sellSheet 84 = .ok (.dup2, 1) := by decide +kernel
theorem dX0_sellSheet_85 : decode cX0_sellSheet 85 = .ok (.iaload, 1) := by decide +kernel
theorem dX0_sellSheet_86 : decode cX0_sellSheet 86 = .ok (.iload 5, 2) := by decide +kernel
theorem dX0_sellSheet_88 : decode cX0_sellSheet 88 = .ok (.iadd, 1) := by decide +kernel
theorem dX0_sellSheet_89 : decode cX0_sellSheet 89 = .ok (.iastore, 1) := by decide +kernel
theorem dX0_sellSheet_90 : decode cX0_sellSheet 90 = .ok (.aload_n 0, 1) := by decide +kernel
theorem dX0_sellSheet_91 : decode cX0_sellSheet 91 = .ok (.dup, 1) := by decide +kernel
theorem dX0_sellSheet_92 : decode cX0_sellSheet 92 = .ok (.getfield 61, 3) := by decide +kernel
theorem dX0_sellSheet_95 : decode cX0_sellSheet 95 = .ok (.iload 5, 2) := by decide +kernel
theorem dX0_sellSheet_97 : decode cX0_sellSheet 97 = .ok (.iadd, 1) := by decide +kernel
theorem dX0_sellSheet_98 : decode cX0_sellSheet 98 = .ok (.putfield 61, 3) := by decide +kernel
theorem dX0_sellSheet_101 : decode cX0_sellSheet 101 = .ok (.aload_n 0, 1) := by decide +kernel
theorem dX0_sellSheet_102 : decode cX0_sellSheet 102 = .ok (.dup, 1) := by decide +kernel
theorem dX0_sellSheet_103 : decode cX0_sellSheet 103 = .ok (.getfield 58, 3) := by decide +kernel
theorem dX0_sellSheet_106 : decode cX0_sellSheet 106 = .ok (.iconst 1, 1) := by decide +kernel
theorem dX0_sellSheet_107 : decode cX0_sellSheet 107 = .ok (.iadd, 1) := by decide +kernel
theorem dX0_sellSheet_108 : decode cX0_sellSheet 108 = .ok (.putfield 58, 3) := by decide +kernel
theorem dX0_sellSheet_111 : decode cX0_sellSheet 111 = .ok (.aload_n 0, 1) := by decide +kernel
theorem dX0_sellSheet_112 : decode cX0_sellSheet 112 = .ok (.getfield 21, 3) := by decide +kernel
theorem dX0_sellSheet_115 : decode cX0_sellSheet 115 = .ok (.iload_n 3, 1) := by decide +kernel
theorem dX0_sellSheet_116 : decode cX0_sellSheet 116 = .ok (.invokevirtual 136, 3) := by decide +kernel
theorem dX0_sellSheet_119 : decode cX0_sellSheet 119 = .ok (.iload 5, 2) := by decide +kernel
theorem dX0_sellSheet_121 : decode cX0_sellSheet 121 = .ok (.ireturn, 1) := by decide +kernel
theorem dX0_passMinutes_0 : decode cX0_passMinutes 0 = .ok (.iload_n 1, 1) := by decide +kernel
theorem dX0_passMinutes_1 : decode cX0_passMinutes 1 = .ok (.iconst 1, 1) := by decide +kernel
theorem dX0_passMinutes_2 : decode cX0_passMinutes 2 = .ok (.sipush 300, 3) := by decide +kernel
theorem dX0_passMinutes_5 : decode cX0_passMinutes 5 = .ok (.invokestatic 64, 3) := by decide +kernel
theorem dX0_passMinutes_8 : decode cX0_passMinutes 8 = .ok (.ifCond .ne 6, 3) := by decide +kernel
theorem dX0_passMinutes_11 : decode cX0_passMinutes 11 = .ok (.ldc 68, 2) := by decide +kernel
theorem dX0_passMinutes_13 : decode cX0_passMinutes 13 = .ok (.ireturn, 1) := by decide +kernel
theorem dX0_passMinutes_14 : decode cX0_passMinutes 14 = .ok (.aload_n 0, 1) := by decide +kernel
theorem dX0_passMinutes_15 : decode cX0_passMinutes 15 = .ok (.getfield 52, 3) := by decide +kernel
theorem dX0_passMinutes_18 : decode cX0_passMinutes 18 = .ok (.iload_n 1, 1) := by decide +kernel
theorem dX0_passMinutes_19 : decode cX0_passMinutes 19 = .ok (.iadd, 1) := by decide +kernel
theorem dX0_passMinutes_20 : decode cX0_passMinutes 20 = .ok (.sipush 9999, 3) := by decide +kernel
theorem dX0_passMinutes_23 : decode cX0_passMinutes 23 = .ok (.if_icmp .le 6, 3) := by decide +kernel
theorem dX0_passMinutes_26 : decode cX0_passMinutes 26 = .ok (.ldc 77, 2) := by decide +kernel
theorem dX0_passMinutes_28 : decode cX0_passMinutes 28 = .ok (.ireturn, 1) := by decide +kernel
theorem dX0_passMinutes_29 : decode cX0_passMinutes 29 = .ok (.aload_n 0, 1) := by decide +kernel
theorem dX0_passMinutes_30 : decode cX0_passMinutes 30 = .ok (.iload_n 1, 1) := by decide +kernel
theorem dX0_passMinutes_31 : decode cX0_passMinutes 31 = .ok (.invokevirtual 168, 3) := by decide +kernel
theorem dX0_passMinutes_34 : decode cX0_passMinutes 34 = .ok (.iconst 0, 1) := by decide +kernel
theorem dX0_passMinutes_35 : decode cX0_passMinutes 35 = .ok (.istore_n 2, 1) := by decide +kernel
theorem dX0_passMinutes_36 : decode cX0_passMinutes 36 = .ok (.iconst 0, 1) := by decide +kernel
theorem dX0_passMinutes_37 : decode cX0_passMinutes 37 = .ok (.istore_n 3, 1) := by decide +kernel
theorem dX0_passMinutes_38 : decode cX0_passMinutes 38 = .ok (.iload_n 3, 1) := by decide +kernel
theorem dX0_passMinutes_39 : decode cX0_passMinutes 39 = .ok (.aload_n 0, 1) := by decide +kernel
theorem dX0_passMinutes_40 : decode cX0_passMinutes 40 = .ok (.getfield 12, 3) := by decide +kernel
theorem dX0_passMinutes_43 : decode cX0_passMinutes 43 = .ok (.getfield 74, 3) := by decide +kernel
theorem dX0_passMinutes_46 : decode cX0_passMinutes 46 = .ok (.if_icmp .ge 20, 3) := by decide +kernel
theorem dX0_passMinutes_49 : decode cX0_passMinutes 49 = .ok (.iload_n 2, 1) := by decide +kernel
theorem dX0_passMinutes_50 : decode cX0_passMinutes 50 = .ok (.aload_n 0, 1) := by decide +kernel
theorem dX0_passMinutes_51 : decode cX0_passMinutes 51 = .ok (.iload_n 3, 1) := by decide +kernel
theorem dX0_passMinutes_52 : decode cX0_passMinutes 52 = .ok (.invokevirtual 171, 3) := by decide +kernel
theorem dX0_passMinutes_55 : decode cX0_passMinutes 55 = .ok (.invokestatic 131, 3) := by decide +kernel
theorem dX0_passMinutes_58 : decode cX0_passMinutes 58 = .ok (.iadd, 1) := by decide +kernel
theorem dX0_passMinutes_59 : decode cX0_passMinutes 59 = .ok (.istore_n 2, 1) := by decide +kernel
theorem dX0_passMinutes_60 : decode cX0_passMinutes 60 = .ok (.iinc 3 1, 3) := by decide +kernel
theorem dX0_passMinutes_63 : decode cX0_passMinutes 63 = .ok (.goto (-25), 3) := by decide +kernel
theorem dX0_passMinutes_66 : decode cX0_passMinutes 66 = .ok (.iload_n 2, 1) := by decide +kernel
theorem dX0_passMinutes_67 : decode cX0_passMinutes 67 = .ok (.ireturn, 1) := by decide +kernel
theorem dX0_changeSetting_0 : decode cX0_changeSetting 0 = .ok (.iload_n 1, 1) := by decide +kernel
theorem dX0_changeSetting_1 : decode cX0_changeSetting 1 = .ok (.ifCond .ne 26, 3) := by decide +kernel
theorem dX0_changeSetting_4 : decode cX0_changeSetting 4 = .ok (.iload_n 2, 1) := by decide +kernel
theorem dX0_changeSetting_5 : decode cX0_changeSetting 5 = .ok (.iconst 1, 1) := by decide +kernel
theorem dX0_changeSetting_6 : decode cX0_changeSetting 6 = .ok (.sipush 200, 3) := by decide +kernel
theorem dX0_changeSetting_9 : decode cX0_changeSetting 9 = .ok (.invokestatic 64, 3) := by decide +kernel
theorem dX0_changeSetting_12 : decode cX0_changeSetting 12 = .ok (.ifCond .eq 15, 3) := by decide +kernel
theorem dX0_changeSetting_15 : decode cX0_changeSetting 15 = .ok (.aload_n 0, 1) := by decide +kernel
theorem dX0_changeSetting_16 : decode cX0_changeSetting 16 = .ok (.getfield 32, 3) := by decide +kernel
theorem dX0_changeSetting_19 : decode cX0_changeSetting 19 = .ok (.istore_n 3, 1) := by decide +kernel
theorem dX0_changeSetting_20 : decode cX0_changeSetting 20 = .ok (.aload_n 0, 1) := by decide +kernel
theorem dX0_changeSetting_21 : decode cX0_changeSetting 21 = .ok (.iload_n 2, 1) := by decide +kernel
theorem dX0_changeSetting_22 : decode cX0_changeSetting 22 = .ok (.putfield 32, 3) := by decide +kernel
theorem dX0_changeSetting_25 : decode cX0_changeSetting 25 = .ok (.iload_n 3, 1) := by decide +kernel
theorem dX0_changeSetting_26 : decode cX0_changeSetting 26 = .ok (.ireturn, 1) := by decide +kernel
theorem dX0_changeSetting_27 : decode cX0_changeSetting 27 = .ok (.iload_n 1, 1) := by decide +kernel
theorem dX0_changeSetting_28 : decode cX0_changeSetting 28 = .ok (.iconst 1, 1) := by decide +kernel
theorem dX0_changeSetting_29 : decode cX0_changeSetting 29 = .ok (.if_icmp .ne 25, 3) := by decide +kernel
theorem dX0_changeSetting_32 : decode cX0_changeSetting 32 = .ok (.iload_n 2, 1) := by decide +kernel
theorem dX0_changeSetting_33 : decode cX0_changeSetting 33 = .ok (.iconst 0, 1) := by decide +kernel
theorem dX0_changeSetting_34 : decode cX0_changeSetting 34 = .ok (.bipush 60, 2) := by decide +kernel
theorem dX0_changeSetting_36 : decode cX0_changeSetting 36 = .ok (.invokestatic 64, 3) := by decide +kernel
theorem dX0_changeSetting_39 : decode cX0_changeSetting 39 = .ok (.ifCond .eq 15, 3) := by decide +kernel
theorem dX0_changeSetting_42 : decode cX0_changeSetting 42 = .ok (.aload_n 0, 1) := by decide +kernel
theorem dX0_changeSetting_43 : decode cX0_changeSetting 43 = .ok (.getfield 36, 3) := by decide +kernel
theorem dX0_changeSetting_46 : decode cX0_changeSetting 46 = .ok (.istore_n 3, 1) := by decide +kernel
theorem dX0_changeSetting_47 : decode cX0_changeSetting 47 = .ok (.aload_n 0, 1) := by decide +kernel
theorem dX0_changeSetting_48 : decode cX0_changeSetting 48 = .ok (.iload_n 2, 1) := by decide +kernel
theorem dX0_changeSetting_49 : decode cX0_changeSetting 49 = .ok (.putfield 36, 3) := by decide +kernel
theorem dX0_changeSetting_52 : decode cX0_changeSetting 52 = .ok (.iload_n 3, 1) := by decide +kernel
theorem dX0_changeSetting_53 : decode cX0_changeSetting 53 = .ok (.ireturn, 1) := by decide +kernel
theorem dX0_changeSetting_54 : decode cX0_changeSetting 54 = .ok (.ldc 68, 2) := by decide +kernel
theorem dX0_changeSetting_56 : decode cX0_changeSetting 56 = .ok (.ireturn, 1) := by decide +kernel
theorem dX0_perform_0 : decode cX0_perform 0 = .ok (.iload_n 1, 1) := by decide +kernel
theorem dX0_perform_1 : decode cX0_perform 1 = .ok (.lookupswitch 97 #[(98, 65), (100, 71), (108, 59), (109, 91), (115, 84), (118, 78)], 59) := by decide +kernel
theorem dX0_perform_60 : decode cX0_perform 60 = .ok (.aload_n 0, 1) := by decide +kernel
theorem dX0_perform_61 : decode cX0_perform 61 = .ok (.iload_n 2, 1) := by decide +kernel
theorem dX0_perform_62 : decode cX0_perform 62 = .ok (.invokevirtual 174, 3) := by decide +kernel
theorem dX0_perform_65 : decode cX0_perform 65 = .ok (.ireturn, 1) := by decide +kernel
theorem dX0_perform_66 : decode cX0_perform 66 = .ok (.aload_n 0, 1) := by decide +kernel
theorem dX0_perform_67 : decode cX0_perform 67 = .ok (.iload_n 2, 1) := by decide +kernel
theorem dX0_perform_68 : decode cX0_perform 68 = .ok (.invokevirtual 177, 3) := by decide +kernel
theorem dX0_perform_71 : decode cX0_perform 71 = .ok (.ireturn, 1) := by decide +kernel
theorem dX0_perform_72 : decode cX0_perform 72 = .ok (.aload_n 0, 1) := by decide +kernel
theorem dX0_perform_73 : decode cX0_perform 73 = .ok (.iload_n 2, 1) := by decide +kernel
theorem dX0_perform_74 : decode cX0_perform 74 = .ok (.iload_n 3, 1) := by decide +kernel
theorem dX0_perform_75 : decode cX0_perform 75 = .ok (.invokevirtual 180, 3) := by decide +kernel
theorem dX0_perform_78 : decode cX0_perform 78 = .ok (.ireturn, 1) := by decide +kernel
theorem dX0_perform_79 : decode cX0_perform 79 = .ok (.aload_n 0, 1) := by decide +kernel
theorem dX0_perform_80 : decode cX0_perform 80 = .ok (.iload_n 2, 1) := by decide +kernel
theorem dX0_perform_81 : decode cX0_perform 81 = .ok (.invokevirtual 183, 3) := by decide +kernel
theorem dX0_perform_84 : decode cX0_perform 84 = .ok (.ireturn, 1) := by decide +kernel
theorem dX0_perform_85 : decode cX0_perform 85 = .ok (.aload_n 0, 1) := by decide +kernel
theorem dX0_perform_86 : decode cX0_perform 86 = .ok (.iload_n 2, 1) := by decide +kernel
theorem dX0_perform_87 : decode cX0_perform 87 = .ok (.iload_n 3, 1) := by decide +kernel
theorem dX0_perform_88 : decode cX0_perform 88 = .ok (.invokevirtual 186, 3) := by decide +kernel
theorem dX0_perform_91 : decode cX0_perform 91 = .ok (.ireturn, 1) := by decide +kernel
theorem dX0_perform_92 : decode cX0_perform 92 = .ok (.aload_n 0, 1) := by decide +kernel
theorem dX0_perform_93 : decode cX0_perform 93 = .ok (.iload_n 2, 1) := by decide +kernel
theorem dX0_perform_94 : decode cX0_perform 94 = .ok (.invokevirtual 189, 3) := by decide +kernel
theorem dX0_perform_97 : decode cX0_perform 97 = .ok (.ireturn, 1) := by decide +kernel
theorem dX0_perform_98 : decode cX0_perform 98 = .ok (.ldc 68, 2) := by decide +kernel
theorem dX0_perform_100 : decode cX0_perform 100 = .ok (.ireturn, 1) := by decide +kernel
theorem dX0_advance_0 : decode cX0_advance 0 = .ok (.aload_n 0, 1) := by decide +kernel
theorem dX0_advance_1 : decode cX0_advance 1 = .ok (.getfield 39, 3) := by decide +kernel
theorem dX0_advance_4 : decode cX0_advance 4 = .ok (.iconst (-1), 1) := by decide +kernel
theorem dX0_advance_5 : decode cX0_advance 5 = .ok (.if_icmp .eq 19, 3) := by decide +kernel
theorem dX0_advance_8 : decode cX0_advance 8 = .ok (.aload_n 0, 1) := by decide +kernel
theorem dX0_advance_9 : decode cX0_advance 9 = .ok (.getfield 12, 3) := by decide +kernel
theorem dX0_advance_12 : decode cX0_advance 12 = .ok (.aload_n 0, 1) := by decide +kernel
theorem dX0_advance_13 : decode cX0_advance 13 = .ok (.getfield 39, 3) := by decide +kernel
theorem dX0_advance_16 : decode cX0_advance 16 = .ok (.aload_n 0, 1) := by decide +kernel
theorem dX0_advance_17 : decode cX0_advance 17 = .ok (.getfield 52, 3) := by decide +kernel
theorem dX0_advance_20 : decode cX0_advance 20 = .ok (.iload_n 1, 1) := by decide +kernel
theorem dX0_advance_21 : decode cX0_advance 21 = .ok (.invokevirtual 192, 3) := by decide +kernel
theorem dX0_advance_24 : decode cX0_advance 24 = .ok (.aload_n 0, 1) := by decide +kernel
theorem dX0_advance_25 : decode cX0_advance 25 = .ok (.getfield 12, 3) := by decide +kernel
theorem dX0_advance_28 : decode cX0_advance 28 = .ok (.iload_n 1, 1) := by decide +kernel
theorem dX0_advance_29 : decode cX0_advance 29 = .ok (.invokevirtual 196, 3) := by decide +kernel
theorem dX0_advance_32 : decode cX0_advance 32 = .ok (.aload_n 0, 1) := by decide +kernel
theorem dX0_advance_33 : decode cX0_advance 33 = .ok (.dup, 1) := by decide +kernel
theorem dX0_advance_34 : decode cX0_advance 34 = .ok (.getfield 52, 3) := by decide +kernel
theorem dX0_advance_37 : decode cX0_advance 37 = .ok (.iload_n 1, 1) := by decide +kernel
theorem dX0_advance_38 : decode cX0_advance 38 = .ok (.iadd, 1) := by decide +kernel
theorem dX0_advance_39 : decode cX0_advance 39 = .ok (.putfield 52, 3) := by decide +kernel
theorem dX0_advance_42 : decode cX0_advance 42 = .ok (.aload_n 0, 1) := by decide +kernel
theorem dX0_advance_43 : decode cX0_advance 43 = .ok (.iconst 0, 1) := by decide +kernel
theorem dX0_advance_44 : decode cX0_advance 44 = .ok (.putfield 55, 3) := by decide +kernel
theorem dX0_advance_47 : decode cX0_advance 47 = .ok (.return_, 1) := by decide +kernel
theorem dX0_findBestSale_0 : decode cX0_findBestSale 0 = .ok (.aload_n 1, 1) := by decide +kernel
theorem dX0_findBestSale_1 : decode cX0_findBestSale 1 = .ok (.iconst (-1), 1) := by decide +kernel
theorem dX0_findBestSale_2 : decode cX0_findBestSale 2 = .ok (.putfield 199, 3) := by decide +kernel
theorem dX0_findBestSale_5 : decode cX0_findBestSale 5 = .ok (.iconst 0, 1) := by decide +kernel
theorem dX0_findBestSale_6 : decode cX0_findBestSale 6 = .ok (.istore_n 2, 1) := by decide +kernel
theorem dX0_findBestSale_7 : decode cX0_findBestSale 7 = .ok (.iload_n 2, 1) := by decide +kernel
theorem dX0_findBestSale_8 : decode cX0_findBestSale 8 = .ok (.aload_n 0, 1) := by decide +kernel
theorem dX0_findBestSale_9 : decode cX0_findBestSale 9 = .ok (.getfield 21, 3) := by decide +kernel
theorem dX0_findBestSale_12 : decode cX0_findBestSale 12 = .ok (.getfield 106, 3) := by decide +kernel
theorem dX0_findBestSale_15 : decode cX0_findBestSale 15 = .ok (.if_icmp .ge 78, 3) := by decide +kernel
theorem dX0_findBestSale_18 : decode cX0_findBestSale 18 = .ok (.iconst 0, 1) := by decide +kernel
theorem dX0_findBestSale_19 : decode cX0_findBestSale 19 = .ok (.istore_n 3, 1) := by decide +kernel
theorem dX0_findBestSale_20 : decode cX0_findBestSale 20 = .ok (.iload_n 3, 1) := by decide +kernel
theorem dX0_findBestSale_21 : decode cX0_findBestSale 21 = .ok (.aload_n 0, 1) := by decide +kernel
theorem dX0_findBestSale_22 : decode cX0_findBestSale 22 = .ok (.getfield 28, 3) := by decide +kernel
theorem dX0_findBestSale_25 : decode cX0_findBestSale 25 = .ok (.getfield 99, 3) := by decide +kernel
theorem dX0_findBestSale_28 : decode cX0_findBestSale 28 = .ok (.if_icmp .ge 59, 3) := by decide +kernel
theorem dX0_findBestSale_31 : decode cX0_findBestSale 31 = .ok (.aload_n 0, 1) := by decide +kernel
theorem dX0_findBestSale_32 : decode cX0_findBestSale 32 = .ok (.iload_n 2, 1) := by decide +kernel
theorem dX0_findBestSale_33 : decode cX0_findBestSale 33 = .ok (.iload_n 3, 1) := by decide +kernel
theorem dX0_findBestSale_34 : decode cX0_findBestSale 34 = .ok (.invokevirtual 159, 3) := by decide +kernel
theorem dX0_findBestSale_37 : decode cX0_findBestSale 37 = .ok (.istore 4, 2) := by decide +kernel
theorem dX0_findBestSale_39 : decode cX0_findBestSale 39 = .ok (.iload 4, 2) := by decide +kernel
theorem dX0_findBestSale_41 : decode cX0_findBestSale 41 = .ok (.aload_n 1, 1) := by decide +kernel
theorem dX0_findBestSale_42 : decode cX0_findBestSale 42 = .ok (.getfield 199, 3) := by decide +kernel
theorem dX0_findBestSale_45 : decode cX0_findBestSale 45 = .ok (.if_icmp .le 36, 3) := by decide +kernel
theorem dX0_findBestSale_48 : decode cX0_findBestSale 48 = .ok (.aload_n 0, 1) := by decide +kernel
theorem dX0_findBestSale_49 : decode cX0_findBestSale 49 = .ok (.iload_n 2, 1) := by decide +kernel
theorem dX0_findBestSale_50 : decode cX0_findBestSale 50 = .ok (.iload_n 3, 1) := by decide +kernel
theorem dX0_findBestSale_51 : decode cX0_findBestSale 51 = .ok (.invokevirtual 154, 3) := by decide +kernel
theorem dX0_findBestSale_54 : decode cX0_findBestSale 54 = .ok (.ifCond .eq 27, 3) := by decide +kernel
theorem dX0_findBestSale_57 : decode cX0_findBestSale 57 = .ok (.aload_n 1, 1) := by decide +kernel
theorem dX0_findBestSale_58 : decode cX0_findBestSale 58 = .ok (.aload_n 0, 1) := by decide +kernel
theorem dX0_findBestSale_59 : decode cX0_findBestSale 59 = .ok (.getfield 21, 3) := by decide +kernel
theorem dX0_findBestSale_62 : decode cX0_findBestSale 62 = .ok (.getfield 204, 3) := by decide +kernel
theorem dX0_findBestSale_65 : decode cX0_findBestSale 65 = .ok (.iload_n 2, 1) := by decide +kernel
theorem dX0_findBestSale_66 : decode cX0_findBestSale 66 = .ok (.iaload, 1) := by decide +kernel
theorem dX0_findBestSale_67 : decode cX0_findBestSale 67 = .ok (.putfield 207, 3) := by decide +kernel
theorem dX0_findBestSale_70 : decode cX0_findBestSale 70 = .ok (.aload_n 1, 1) := by decide +kernel
theorem dX0_findBestSale_71 : decode cX0_findBestSale 71 = .ok (.iload_n 3, 1) := by decide +kernel
theorem dX0_findBestSale_72 : decode cX0_findBestSale 72 = .ok (.putfield 210, 3) := by decide +kernel
theorem dX0_findBestSale_75 : decode cX0_findBestSale 75 = .ok (.aload_n 1, 1) := by decide +kernel
theorem dX0_findBestSale_76 : decode cX0_findBestSale 76 = .ok (.iload 4, 2) := by decide +kernel
theorem dX0_findBestSale_78 : decode cX0_findBestSale 78 = .ok (.putfield 199, 3) := by decide +kernel
theorem dX0_findBestSale_81 : decode cX0_findBestSale 81 = .ok (.iinc 3 1, 3) := by decide +kernel
theorem dX0_findBestSale_84 : decode cX0_findBestSale 84 = .ok (.goto (-64), 3) := by decide +kernel
theorem dX0_findBestSale_87 : decode cX0_findBestSale 87 = .ok (.iinc 2 1, 3) := by decide +kernel
theorem dX0_findBestSale_90 : decode cX0_findBestSale 90 = .ok (.goto (-83), 3) := by decide +kernel
theorem dX0_findBestSale_93 : decode cX0_findBestSale 93 = .ok (.aload_n 1, 1) := by decide +kernel
theorem dX0_findBestSale_94 : decode cX0_findBestSale 94 = .ok (.getfield 199, 3) := by decide +kernel
theorem dX0_findBestSale_97 : decode cX0_findBestSale 97 = .ok (.iconst (-1), 1) := by decide +kernel
theorem dX0_findBestSale_98 : decode cX0_findBestSale 98 = .ok (.if_icmp .eq 7, 3) := by decide +kernel
theorem dX0_findBestSale_101 : decode cX0_findBestSale 101 = .ok (.iconst 1, 1) := by decide +kernel
theorem dX0_findBestSale_102 : decode cX0_findBestSale 102 = .ok (.goto 4, 3) := by decide +kernel
theorem dX0_findBestSale_105 : decode cX0_findBestSale 105 = .ok (.iconst 0, 1) := by decide +kernel
theorem dX0_findBestSale_106 : decode cX0_findBestSale 106 = .ok (.ireturn, 1) := by decide +kernel
theorem dX0_canSell_0 : decode cX0_canSell 0 = .ok (.aload_n 0, 1) := by decide +kernel
theorem dX0_canSell_1 : decode cX0_canSell 1 = .ok (.iload_n 1, 1) := by decide +kernel
theorem dX0_canSell_2 : decode cX0_canSell 2 = .ok (.invokevirtual 213, 3) := by decide +kernel
theorem dX0_canSell_5 : decode cX0_canSell 5 = .ok (.ifCond .eq 34, 3) := by decide +kernel
theorem dX0_canSell_8 : decode cX0_canSell 8 = .ok (.aload_n 0, 1) := by decide +kernel
theorem dX0_canSell_9 : decode cX0_canSell 9 = .ok (.getfield 28, 3) := by decide +kernel
theorem dX0_canSell_12 : decode cX0_canSell 12 = .ok (.iload_n 2, 1) := by decide +kernel
theorem dX0_canSell_13 : decode cX0_canSell 13 = .ok (.aload_n 0, 1) := by decide +kernel
theorem dX0_canSell_14 : decode cX0_canSell 14 = .ok (.invokevirtual 146, 3) := by decide +kernel
theorem dX0_canSell_17 : decode cX0_canSell 17 = .ok (.invokevirtual 216, 3) := by decide +kernel
theorem dX0_canSell_20 : decode cX0_canSell 20 = .ok (.aload_n 0, 1) := by decide +kernel
theorem dX0_canSell_21 : decode cX0_canSell 21 = .ok (.getfield 21, 3) := by decide +kernel
theorem dX0_canSell_24 : decode cX0_canSell 24 = .ok (.getfield 157, 3) := by decide +kernel
theorem dX0_canSell_27 : decode cX0_canSell 27 = .ok (.iload_n 1, 1) := by decide +kernel
theorem dX0_canSell_28 : decode cX0_canSell 28 = .ok (.iaload, 1) := by decide +kernel
theorem dX0_canSell_29 : decode cX0_canSell 29 = .ok (.invokestatic 117, 3) := by decide +kernel
theorem dX0_canSell_32 : decode cX0_canSell 32 = .ok (.ifCond .ne 7, 3) := by decide +kernel
theorem dX0_canSell_35 : decode cX0_canSell 35 = .ok (.iconst 1, 1) := by decide +kernel
theorem dX0_canSell_36 : decode cX0_canSell 36 = .ok (.goto 4, 3) := by decide +kernel
theorem dX0_canSell_39 : decode cX0_canSell 39 = .ok (.iconst 0, 1) := by decide +kernel
theorem dX0_canSell_40 : decode cX0_canSell 40 = .ok (.ireturn, 1) := by decide +kernel
theorem dX0_priceAt_0 : decode cX0_priceAt 0 = .ok (.aload_n 0, 1) := by decide +kernel
theorem dX0_priceAt_1 : decode cX0_priceAt 1 = .ok (.getfield 28, 3) := by decide +kernel
theorem dX0_priceAt_4 : decode cX0_priceAt 4 = .ok (.getfield 100, 3) := by decide +kernel
theorem dX0_priceAt_7 : decode cX0_priceAt 7 = .ok (.iload_n 2, 1) := by decide +kernel
theorem dX0_priceAt_8 : decode cX0_priceAt 8 = .ok (.iaload, 1) := by decide +kernel
theorem dX0_priceAt_9 : decode cX0_priceAt 9 = .ok (.aload_n 0, 1) := by decide +kernel
theorem dX0_priceAt_10 : decode cX0_priceAt 10 = .ok (.getfield 21, 3) := by decide +kernel
theorem dX0_priceAt_13 : decode cX0_priceAt 13 = .ok (.getfield 120, 3) := by decide +kernel
theorem dX0_priceAt_16 : decode cX0_priceAt 16 = .ok (.iload_n 1, 1) := by decide +kernel
theorem dX0_priceAt_17 : decode cX0_priceAt 17 = .ok (.iaload, 1) := by decide +kernel
theorem dX0_priceAt_18 : decode cX0_priceAt 18 = .ok (.invokestatic 131, 3) := by decide +kernel
theorem dX0_priceAt_21 : decode cX0_priceAt 21 = .ok (.imul, 1) := by decide +kernel
theorem dX0_priceAt_22 : decode cX0_priceAt 22 = .ok (.istore_n 3, 1) := by decide +kernel
theorem dX0_priceAt_23 : decode cX0_priceAt 23 = .ok (.aload_n 0, 1) := by decide +kernel
theorem dX0_priceAt_24 : decode cX0_priceAt 24 = .ok (.aload_n 0, 1) := by decide +kernel
theorem dX0_priceAt_25 : decode cX0_priceAt 25 = .ok (.getfield 21, 3) := by decide +kernel
theorem dX0_priceAt_28 : decode cX0_priceAt 28 = .ok (.getfield 157, 3) := by decide +kernel
theorem dX0_priceAt_31 : decode cX0_priceAt 31 = .ok (.iload_n 1, 1) := by decide +kernel
theorem dX0_priceAt_32 : decode cX0_priceAt 32 = .ok (.iaload, 1) := by decide +kernel
theorem dX0_priceAt_33 : decode cX0_priceAt 33 = .ok (.invokevirtual 140, 3) := by decide +kernel
theorem dX0_priceAt_36 : decode cX0_priceAt 36 = .ok (.ifCond .eq 7, 3) := by decide +kernel
theorem dX0_priceAt_39 : decode cX0_priceAt 39 = .ok (.iload_n 3, 1) := by decide +kernel
theorem dX0_priceAt_40 : decode cX0_priceAt 40 = .ok (.iconst 2, 1) := by decide +kernel
theorem dX0_priceAt_41 : decode cX0_priceAt 41 = .ok (.imul, 1) := by decide +kernel
theorem dX0_priceAt_42 : decode cX0_priceAt 42 = .ok (.istore_n 3, 1) := by decide +kernel
theorem dX0_priceAt_43 : decode cX0_priceAt 43 = .ok (.aload_n 0, 1) := by decide +kernel
theorem dX0_priceAt_44 : decode cX0_priceAt 44 = .ok (.invokevirtual 219, 3) := by decide +kernel
theorem dX0_priceAt_47 : decode cX0_priceAt 47 = .ok (.aload_n 0, 1) := by decide +kernel
theorem dX0_priceAt_48 : decode cX0_priceAt 48 = .ok (.getfield 28, 3) := by decide +kernel
theorem dX0_priceAt_51 : decode cX0_priceAt 51 = .ok (.getfield 103, 3) := by decide +kernel
theorem dX0_priceAt_54 : decode cX0_priceAt 54 = .ok (.iload_n 2, 1) := by decide +kernel
theorem dX0_priceAt_55 : decode cX0_priceAt 55 = .ok (.iaload, 1) := by decide +kernel
theorem dX0_priceAt_56 : decode cX0_priceAt 56 = .ok (.if_icmp .le 9, 3) := by decide +kernel
theorem dX0_priceAt_59 : decode cX0_priceAt 59 = .ok (.iload_n 3, 1) := by decide +kernel
theorem dX0_priceAt_60 : decode cX0_priceAt 60 = .ok (.iconst 2, 1) := by decide +kernel
theorem dX0_priceAt_61 : decode cX0_priceAt 61 = .ok (.idiv, 1) := by decide +kernel
theorem dX0_priceAt_62 : decode cX0_priceAt 62 = .ok (.goto 4, 3) := by decide +kernel
theorem dX0_priceAt_65 : decode cX0_priceAt 65 = .ok (.iload_n 3, 1) := by decide +kernel
theorem dX0_priceAt_66 : decode cX0_priceAt 66 = .ok (.ireturn, 1) := by decide +kernel
theorem dX0_day_0 : decode cX0_day 0 = .ok (.aload_n 0, 1) := by decide +kernel
theorem dX0_day_1 : decode cX0_day 1 = .ok (.getfield 52, 3) := by decide +kernel
theorem dX0_day_4 : decode cX0_day 4 = .ok (.sipush 300, 3) := by decide +kernel
theorem dX0_day_7 : decode cX0_day 7 = .ok (.idiv, 1) := by decide +kernel
theorem dX0_day_8 : decode cX0_day 8 = .ok (.ireturn, 1) := by decide +kernel
theorem dX0_hour_0 : decode cX0_hour 0 = .ok (.aload_n 0, 1) := by decide +kernel
theorem dX0_hour_1 : decode cX0_hour 1 = .ok (.getfield 52, 3) := by decide +kernel
theorem dX0_hour_4 : decode cX0_hour 4 = .ok (.sipush 300, 3) := by decide +kernel
theorem dX0_hour_7 : decode cX0_hour 7 = .ok (.irem, 1) := by decide +kernel
theorem dX0_hour_8 : decode cX0_hour 8 = .ok (.ireturn, 1) := by decide +kernel
theorem dX0_hasVerdict_0 : decode cX0_hasVerdict 0 = .ok (.aload_n 0, 1) := by decide +kernel
theorem dX0_hasVerdict_1 : decode cX0_hasVerdict 1 = .ok (.getfield 12, 3) := by decide +kernel
theorem dX0_hasVerdict_4 : decode cX0_hasVerdict 4 = .ok (.getfield 143, 3) := by decide +kernel
theorem dX0_hasVerdict_7 : decode cX0_hasVerdict 7 = .ok (.iload_n 1, 1) := by decide +kernel
theorem dX0_hasVerdict_8 : decode cX0_hasVerdict 8 = .ok (.iaload, 1) := by decide +kernel
theorem dX0_hasVerdict_9 : decode cX0_hasVerdict 9 = .ok (.aload_n 0, 1) := by decide +kernel
theorem dX0_hasVerdict_10 : decode cX0_hasVerdict 10 = .ok (.invokevirtual 146, 3) := by decide +kernel
theorem dX0_hasVerdict_13 : decode cX0_hasVerdict 13 = .ok (.if_icmp .ne 7, 3) := by decide +kernel
theorem dX0_hasVerdict_16 : decode cX0_hasVerdict 16 = .ok (.iconst 1, 1) := by decide +kernel
theorem dX0_hasVerdict_17 : decode cX0_hasVerdict 17 = .ok (.goto 4, 3) := by decide +kernel
theorem dX0_hasVerdict_20 : decode cX0_hasVerdict 20 = .ok (.iconst 0, 1) := by decide +kernel
theorem dX0_hasVerdict_21 : decode cX0_hasVerdict 21 = .ok (.ireturn, 1) := by decide +kernel
theorem dX0_remembered_0 : decode cX0_remembered 0 = .ok (.aload_n 0, 1) := by decide +kernel
theorem dX0_remembered_1 : decode cX0_remembered 1 = .ok (.getfield 12, 3) := by decide +kernel
theorem dX0_remembered_4 : decode cX0_remembered 4 = .ok (.iload_n 1, 1) := by decide +kernel
theorem dX0_remembered_5 : decode cX0_remembered 5 = .ok (.aload_n 0, 1) := by decide +kernel
theorem dX0_remembered_6 : decode cX0_remembered 6 = .ok (.getfield 52, 3) := by decide +kernel
theorem dX0_remembered_9 : decode cX0_remembered 9 = .ok (.aload_n 0, 1) := by decide +kernel
theorem dX0_remembered_10 : decode cX0_remembered 10 = .ok (.getfield 32, 3) := by decide +kernel
theorem dX0_remembered_13 : decode cX0_remembered 13 = .ok (.isub, 1) := by decide +kernel
theorem dX0_remembered_14 : decode cX0_remembered 14 = .ok (.invokevirtual 222, 3) := by decide +kernel
theorem dX0_remembered_17 : decode cX0_remembered 17 = .ok (.ireturn, 1) := by decide +kernel
theorem dX0_drawable_0 : decode cX0_drawable 0 = .ok (.aload_n 0, 1) := by decide +kernel
theorem dX0_drawable_1 : decode cX0_drawable 1 = .ok (.aload_n 0, 1) := by decide +kernel
theorem dX0_drawable_2 : decode cX0_drawable 2 = .ok (.getfield 21, 3) := by decide +kernel
theorem dX0_drawable_5 : decode cX0_drawable 5 = .ok (.getfield 157, 3) := by decide +kernel
theorem dX0_drawable_8 : decode cX0_drawable 8 = .ok (.iload_n 1, 1) := by decide +kernel
theorem dX0_drawable_9 : decode cX0_drawable 9 = .ok (.iaload, 1) := by decide +kernel
theorem dX0_drawable_10 : decode cX0_drawable 10 = .ok (.invokevirtual 171, 3) := by decide +kernel
theorem dX0_drawable_13 : decode cX0_drawable 13 = .ok (.aload_n 0, 1) := by decide +kernel
theorem dX0_drawable_14 : decode cX0_drawable 14 = .ok (.getfield 21, 3) := by decide +kernel
theorem dX0_drawable_17 : decode cX0_drawable 17 = .ok (.getfield 120, 3) := by decide +kernel
theorem dX0_drawable_20 : decode cX0_drawable 20 = .ok (.iload_n 1, 1) := by decide +kernel
theorem dX0_drawable_21 : decode cX0_drawable 21 = .ok (.iaload, 1) := by decide +kernel
theorem dX0_drawable_22 : decode cX0_drawable 22 = .ok (.iconst (-1), 1) := by decide +kernel
theorem dX0_drawable_23 : decode cX0_drawable 23 = .ok (.ixor, 1) := by decide +kernel
theorem dX0_drawable_24 : decode cX0_drawable 24 = .ok (.iand, 1) := by decide +kernel
theorem dX0_drawable_25 : decode cX0_drawable 25 = .ok (.ireturn, 1) := by decide +kernel
theorem dX0_wetFor_0 : decode cX0_wetFor 0 = .ok (.aload_n 0, 1) := by decide +kernel
theorem dX0_wetFor_1 : decode cX0_wetFor 1 = .ok (.getfield 21, 3) := by decide +kernel
theorem dX0_wetFor_4 : decode cX0_wetFor 4 = .ok (.getfield 123, 3) := by decide +kernel
theorem dX0_wetFor_7 : decode cX0_wetFor 7 = .ok (.iload_n 1, 1) := by decide +kernel
theorem dX0_wetFor_8 : decode cX0_wetFor 8 = .ok (.iaload, 1) := by decide +kernel
theorem dX0_wetFor_9 : decode cX0_wetFor 9 = .ok (.aload_n 0, 1) := by decide +kernel
theorem dX0_wetFor_10 : decode cX0_wetFor 10 = .ok (.getfield 52, 3) := by decide +kernel
theorem dX0_wetFor_13 : decode cX0_wetFor 13 = .ok (.if_icmp .le 20, 3) := by decide +kernel
theorem dX0_wetFor_16 : decode cX0_wetFor 16 = .ok (.aload_n 0, 1) := by decide +kernel
theorem dX0_wetFor_17 : decode cX0_wetFor 17 = .ok (.getfield 21, 3) := by decide +kernel
theorem dX0_wetFor_20 : decode cX0_wetFor 20 = .ok (.getfield 123, 3) := by decide +kernel
theorem dX0_wetFor_23 : decode cX0_wetFor 23 = .ok (.iload_n 1, 1) := by decide +kernel
theorem dX0_wetFor_24 : decode cX0_wetFor 24 = .ok (.iaload, 1) := by decide +kernel
theorem dX0_wetFor_25 : decode cX0_wetFor 25 = .ok (.aload_n 0, 1) := by decide +kernel
theorem dX0_wetFor_26 : decode cX0_wetFor 26 = .ok (.getfield 52, 3) := by decide +kernel
theorem dX0_wetFor_29 : decode cX0_wetFor 29 = .ok (.isub, 1) := by decide +kernel
theorem dX0_wetFor_30 : decode cX0_wetFor 30 = .ok (.goto 4, 3) := by decide +kernel
theorem dX0_wetFor_33 : decode cX0_wetFor 33 = .ok (.iconst 0, 1) := by decide +kernel
theorem dX0_wetFor_34 : decode cX0_wetFor 34 = .ok (.ireturn, 1) := by decide +kernel
theorem dX0_isDry_0 : decode cX0_isDry 0 = .ok (.aload_n 0, 1) := by decide +kernel
theorem dX0_isDry_1 : decode cX0_isDry 1 = .ok (.getfield 21, 3) := by decide +kernel
theorem dX0_isDry_4 : decode cX0_isDry 4 = .ok (.getfield 120, 3) := by decide +kernel
theorem dX0_isDry_7 : decode cX0_isDry 7 = .ok (.iload_n 1, 1) := by decide +kernel
theorem dX0_isDry_8 : decode cX0_isDry 8 = .ok (.iaload, 1) := by decide +kernel
theorem dX0_isDry_9 : decode cX0_isDry 9 = .ok (.ifCond .eq 15, 3) := by decide +kernel
theorem dX0_isDry_12 : decode cX0_isDry 12 = .ok (.aload_n 0, 1) := by decide +kernel
theorem dX0_isDry_13 : decode cX0_isDry 13 = .ok (.iload_n 1, 1) := by decide +kernel
theorem dX0_isDry_14 : decode cX0_isDry 14 = .ok (.invokevirtual 225, 3) := by decide +kernel
theorem dX0_isDry_17 : decode cX0_isDry 17 = .ok (.ifCond .ne 7, 3) := by decide +kernel
theorem dX0_isDry_20 : decode cX0_isDry 20 = .ok (.iconst 1, 1) := by decide +kernel
theorem dX0_isDry_21 : decode cX0_isDry 21 = .ok (.goto 4, 3) := by decide +kernel
theorem dX0_isDry_24 : decode cX0_isDry 24 = .ok (.iconst 0, 1) := by decide +kernel
theorem dX0_isDry_25 : decode cX0_isDry 25 = .ok (.ireturn, 1) := by decide +kernel
theorem dX0_tellOfPerson_0 : decode cX0_tellOfPerson 0 = .ok (.aload_n 0, 1) := by decide +kernel
theorem dX0_tellOfPerson_1 : decode cX0_tellOfPerson 1 = .ok (.getfield 12, 3) := by decide +kernel
theorem dX0_tellOfPerson_4 : decode cX0_tellOfPerson 4 = .ok (.iload_n 1, 1) := by decide +kernel
theorem dX0_tellOfPerson_5 : decode cX0_tellOfPerson 5 = .ok (.invokevirtual 85, 3) := by decide +kernel
theorem dX0_tellOfPerson_8 : decode cX0_tellOfPerson 8 = .ok (.ifCond .ne 6, 3) := by decide +kernel
theorem dX0_tellOfPerson_11 : decode cX0_tellOfPerson 11 = .ok (.ldc 68, 2) := by decide +kernel
theorem dX0_tellOfPerson_13 : decode cX0_tellOfPerson 13 = .ok (.ireturn, 1) := by decide +kernel
theorem dX0_tellOfPerson_14 : decode cX0_tellOfPerson 14 = .ok (.iload_n 2, 1) := by decide +kernel
theorem dX0_tellOfPerson_15 : decode cX0_tellOfPerson 15 = .ok (.tableswitch 138 0 8 #[49, 59, 69, 79, 89, 99, 105, 119, 128], 49) := by decide +kernel
theorem dX0_tellOfPerson_64 : decode cX0_tellOfPerson 64 = .ok (.aload_n 0, 1) := by decide +kernel
theorem dX0_tellOfPerson_65 : decode cX0_tellOfPerson 65 = .ok (.getfield 12, 3) := by decide +kernel
theorem dX0_tellOfPerson_68 : decode cX0_tellOfPerson 68 = .ok (.getfield 78, 3) := by decide +kernel
theorem dX0_tellOfPerson_71 : decode cX0_tellOfPerson 71 = .ok (.iload_n 1, 1) := by decide +kernel
theorem dX0_tellOfPerson_72 : decode cX0_tellOfPerson 72 = .ok (.iaload, 1) := by decide +kernel
theorem dX0_tellOfPerson_73 : decode cX0_tellOfPerson 73 = .ok (.ireturn, 1) := by decide +kernel
theorem dX0_tellOfPerson_74 : decode cX0_tellOfPerson 74 = .ok (.aload_n 0, 1) := by decide +kernel
theorem dX0_tellOfPerson_75 : decode cX0_tellOfPerson 75 = .ok (.getfield 12, 3) := by decide +kernel
theorem dX0_tellOfPerson_78 : decode cX0_tellOfPerson 78 = .ok (.getfield 82, 3) := by decide +kernel
theorem dX0_tellOfPerson_81 : decode cX0_tellOfPerson 81 = .ok (.iload_n 1, 1) := by decide +kernel
theorem dX0_tellOfPerson_82 : decode cX0_tellOfPerson 82 = .ok (.iaload, 1) := by decide +kernel
theorem dX0_tellOfPerson_83 : decode cX0_tellOfPerson 83 = .ok (.ireturn, 1) := by decide +kernel
theorem dX0_tellOfPerson_84 : decode cX0_tellOfPerson 84 = .ok (.aload_n 0, 1) := by decide +kernel
theorem dX0_tellOfPerson_85 : decode cX0_tellOfPerson 85 = .ok (.getfield 12, 3) := by decide +kernel
theorem dX0_tellOfPerson_88 : decode cX0_tellOfPerson 88 = .ok (.getfield 89, 3) := by decide +kernel
theorem dX0_tellOfPerson_91 : decode cX0_tellOfPerson 91 = .ok (.iload_n 1, 1) := by decide +kernel
theorem dX0_tellOfPerson_92 : decode cX0_tellOfPerson 92 = .ok (.iaload, 1) := by decide +kernel
theorem dX0_tellOfPerson_93 : decode cX0_tellOfPerson 93 = .ok (.ireturn, 1) := by decide +kernel
theorem dX0_tellOfPerson_94 : decode cX0_tellOfPerson 94 = .ok (.aload_n 0, 1) := by decide +kernel
theorem dX0_tellOfPerson_95 : decode cX0_tellOfPerson 95 = .ok (.getfield 12, 3) := by decide +kernel
theorem dX0_tellOfPerson_98 : decode cX0_tellOfPerson 98 = .ok (.getfield 92, 3) := by decide +kernel
theorem dX0_tellOfPerson_101 : decode cX0_tellOfPerson 101 = .ok (.iload_n 1, 1) := by decide +kernel
theorem dX0_tellOfPerson_102 : decode cX0_tellOfPerson 102 = .ok (.iaload, 1) := by decide +kernel
theorem dX0_tellOfPerson_103 : decode cX0_tellOfPerson 103 = .ok (.ireturn, 1) := by decide +kernel
theorem dX0_tellOfPerson_104 : decode cX0_tellOfPerson 104 = .ok (.aload_n 0, 1) := by decide +kernel
theorem dX0_tellOfPerson_105 : decode cX0_tellOfPerson 105 = .ok (.getfield 12, 3) := by decide +kernel
theorem dX0_tellOfPerson_108 : decode cX0_tellOfPerson 108 = .ok (.iload_n 1, 1) := by decide +kernel
theorem dX0_tellOfPerson_109 : decode cX0_tellOfPerson 109 = .ok (.iconst 0, 1) := by decide +kernel
theorem dX0_tellOfPerson_110 : decode cX0_tellOfPerson 110 = .ok (.invokevirtual 95, 3) := by decide +kernel
theorem dX0_tellOfPerson_113 : decode cX0_tellOfPerson 113 = .ok (.ireturn, 1) := by decide +kernel
theorem dX0_tellOfPerson_114 : decode cX0_tellOfPerson 114 = .ok (.aload_n 0, 1) := by decide +kernel
theorem dX0_tellOfPerson_115 : decode cX0_tellOfPerson 115 = .ok (.iload_n 1, 1) := by decide +kernel
theorem dX0_tellOfPerson_116 : decode cX0_tellOfPerson 116 = .ok (.invokevirtual 171, 3) := by decide +kernel
theorem dX0_tellOfPerson_119 : decode cX0_tellOfPerson 119 = .ok (.ireturn, 1) := by decide +kernel
theorem dX0_tellOfPerson_120 : decode cX0_tellOfPerson 120 = .ok (.aload_n 0, 1) := by decide +kernel
theorem dX0_tellOfPerson_121 : decode cX0_tellOfPerson 121 = .ok (.iload_n 1, 1) := by decide +kernel
theorem dX0_tellOfPerson_122 : decode cX0_tellOfPerson 122 = .ok (.invokevirtual 140, 3) := by decide +kernel
theorem dX0_tellOfPerson_125 : decode cX0_tellOfPerson 125 = .ok (.ifCond .eq 7, 3) := by decide +kernel
theorem dX0_tellOfPerson_128 : decode cX0_tellOfPerson 128 = .ok (.iconst 1, 1) := by decide +kernel
theorem dX0_tellOfPerson_129 : decode cX0_tellOfPerson 129 = .ok (.goto 4, 3) := by decide +kernel
theorem dX0_tellOfPerson_132 : decode cX0_tellOfPerson 132 = .ok (.iconst 0, 1) := by decide +kernel
theorem dX0_tellOfPerson_133 : decode cX0_tellOfPerson 133 = .ok (.ireturn, 1) := by decide +kernel
theorem dX0_tellOfPerson_134 : decode cX0_tellOfPerson 134 = .ok (.aload_n 0, 1) := by decide +kernel
theorem dX0_tellOfPerson_135 : decode cX0_tellOfPerson 135 = .ok (.getfield 21, 3) := by decide +kernel
theorem dX0_tellOfPerson_138 : decode cX0_tellOfPerson 138 = .ok (.iload_n 1, 1) := by decide +kernel
theorem dX0_tellOfPerson_139 : decode cX0_tellOfPerson 139 = .ok (.invokevirtual 150, 3) := by decide +kernel
theorem dX0_tellOfPerson_142 : decode cX0_tellOfPerson 142 = .ok (.ireturn, 1) := by decide +kernel
theorem dX0_tellOfPerson_143 : decode cX0_tellOfPerson 143 = .ok (.aload_n 0, 1) := by decide +kernel
theorem dX0_tellOfPerson_144 : decode cX0_tellOfPerson 144 = .ok (.getfield 12, 3) := by decide +kernel
theorem dX0_tellOfPerson_147 : decode cX0_tellOfPerson 147 = .ok (.getfield 166, 3) := by decide +kernel
theorem dX0_tellOfPerson_150 : decode cX0_tellOfPerson 150 = .ok (.iload_n 1, 1) := by decide +kernel
theorem dX0_tellOfPerson_151 : decode cX0_tellOfPerson 151 = .ok (.iaload, 1) := by decide +kernel
theorem dX0_tellOfPerson_152 : decode cX0_tellOfPerson 152 = .ok (.ireturn, 1) := by decide +kernel
theorem dX0_tellOfPerson_153 : decode cX0_tellOfPerson 153 = .ok (.ldc 68, 2) := by decide +kernel
theorem dX0_tellOfPerson_155 : decode cX0_tellOfPerson 155 = .ok (.ireturn, 1) := by decide +kernel
theorem dX0_tellOfSheet_0 : decode cX0_tellOfSheet 0 = .ok (.aload_n 0, 1) := by decide +kernel
theorem dX0_tellOfSheet_1 : decode cX0_tellOfSheet 1 = .ok (.getfield 21, 3) := by decide +kernel
theorem dX0_tellOfSheet_4 : decode cX0_tellOfSheet 4 = .ok (.iload_n 1, 1) := by decide +kernel
theorem dX0_tellOfSheet_5 : decode cX0_tellOfSheet 5 = .ok (.invokevirtual 111, 3) := by decide +kernel
theorem dX0_tellOfSheet_8 : decode cX0_tellOfSheet 8 = .ok (.istore_n 3, 1) := by decide +kernel
theorem dX0_tellOfSheet_9 : decode cX0_tellOfSheet 9 = .ok (.iload_n 3, 1) := by decide +kernel
theorem dX0_tellOfSheet_10 : decode cX0_tellOfSheet 10 = .ok (.iconst (-1), 1) := by decide +kernel
theorem dX0_tellOfSheet_11 : decode cX0_tellOfSheet 11 = .ok (.if_icmp .ne 6, 3) := by decide +kernel
theorem dX0_tellOfSheet_14 : decode cX0_tellOfSheet 14 = .ok (.ldc 68, 2) := by decide +kernel
theorem dX0_tellOfSheet_16 : decode cX0_tellOfSheet 16 = .ok (.ireturn, 1) := by decide +kernel
theorem dX0_tellOfSheet_17 : decode cX0_tellOfSheet 17 = .ok (.iload_n 2, 1) := by decide +kernel
theorem dX0_tellOfSheet_18 : decode cX0_tellOfSheet 18 = .ok (.tableswitch 97 0 5 #[38, 48, 58, 71, 85, 91], 38) := by decide +kernel
theorem dX0_tellOfSheet_56 : decode cX0_tellOfSheet 56 = .ok (.aload_n 0, 1) := by decide +kernel
theorem dX0_tellOfSheet_57 : decode cX0_tellOfSheet 57 = .ok (.getfield 21, 3) := by decide +kernel
theorem dX0_tellOfSheet_60 : decode cX0_tellOfSheet 60 = .ok (.getfield 157, 3) := by decide +kernel
theorem dX0_tellOfSheet_63 : decode cX0_tellOfSheet 63 = .ok (.iload_n 3, 1) := by decide +kernel
theorem dX0_tellOfSheet_64 : decode cX0_tellOfSheet 64 = .ok (.iaload, 1) := by decide +kernel
theorem dX0_tellOfSheet_65 : decode cX0_tellOfSheet 65 = .ok (.ireturn, 1) := by decide +kernel
theorem dX0_tellOfSheet_66 : decode cX0_tellOfSheet 66 = .ok (.aload_n 0, 1) := by decide +kernel
theorem dX0_tellOfSheet_67 : decode cX0_tellOfSheet 67 = .ok (.getfield 21, 3) := by decide +kernel
theorem dX0_tellOfSheet_70 : decode cX0_tellOfSheet 70 = .ok (.getfield 120, 3) := by decide +kernel
theorem dX0_tellOfSheet_73 : decode cX0_tellOfSheet 73 = .ok (.iload_n 3, 1) := by decide +kernel
theorem dX0_tellOfSheet_74 : decode cX0_tellOfSheet 74 = .ok (.iaload, 1) := by decide +kernel
theorem dX0_tellOfSheet_75 : decode cX0_tellOfSheet 75 = .ok (.ireturn, 1) := by decide +kernel
theorem dX0_tellOfSheet_76 : decode cX0_tellOfSheet 76 = .ok (.aload_n 0, 1) := by decide +kernel
theorem dX0_tellOfSheet_77 : decode cX0_tellOfSheet 77 = .ok (.getfield 21, 3) := by decide +kernel
theorem dX0_tellOfSheet_80 : decode cX0_tellOfSheet 80 = .ok (.getfield 120, 3) := by decide +kernel
theorem dX0_tellOfSheet_83 : decode cX0_tellOfSheet 83 = .ok (.iload_n 3, 1) := by decide +kernel
theorem dX0_tellOfSheet_84 : decode cX0_tellOfSheet 84 = .ok (.iaload, 1) := by decide +kernel
theorem dX0_tellOfSheet_85 : decode cX0_tellOfSheet 85 = .ok (.invokestatic 131, 3) := by decide +kernel
theorem dX0_tellOfSheet_88 : decode cX0_tellOfSheet 88 = .ok (.ireturn, 1) := by decide +kernel
theorem dX0_tellOfSheet_89 : decode cX0_tellOfSheet 89 = .ok (.aload_n 0, 1) := by decide +kernel
theorem dX0_tellOfSheet_90 : decode cX0_tellOfSheet 90 = .ok (.iload_n 3, 1) := by decide +kernel
theorem dX0_tellOfSheet_91 : decode cX0_tellOfSheet 91 = .ok (.invokevirtual 213, 3) := by decide +kernel
theorem dX0_tellOfSheet_94 : decode cX0_tellOfSheet 94 = .ok (.ifCond .eq 7, 3) := by decide +kernel
theorem dX0_tellOfSheet_97 : decode cX0_tellOfSheet 97 = .ok (.iconst 1, 1) := by decide +kernel
theorem dX0_tellOfSheet_98 : decode cX0_tellOfSheet 98 = .ok (.goto 4, 3) := by decide +kernel
theorem dX0_tellOfSheet_101 : decode cX0_tellOfSheet 101 = .ok (.iconst 0, 1) := by decide +kernel
theorem dX0_tellOfSheet_102 : decode cX0_tellOfSheet 102 = .ok (.ireturn, 1) := by decide +kernel
theorem dX0_tellOfSheet_103 : decode cX0_tellOfSheet 103 = .ok (.aload_n 0, 1) := by decide +kernel
theorem dX0_tellOfSheet_104 : decode cX0_tellOfSheet 104 = .ok (.iload_n 3, 1) := by decide +kernel
theorem dX0_tellOfSheet_105 : decode cX0_tellOfSheet 105 = .ok (.invokevirtual 225, 3) := by decide +kernel
theorem dX0_tellOfSheet_108 : decode cX0_tellOfSheet 108 = .ok (.ireturn, 1) := by decide +kernel
theorem dX0_tellOfSheet_109 : decode cX0_tellOfSheet 109 = .ok (.aload_n 0, 1) := by decide +kernel
theorem dX0_tellOfSheet_110 : decode cX0_tellOfSheet 110 = .ok (.iload_n 3, 1) := by decide +kernel
theorem dX0_tellOfSheet_111 : decode cX0_tellOfSheet 111 = .ok (.invokevirtual 114, 3) := by decide +kernel
theorem dX0_tellOfSheet_114 : decode cX0_tellOfSheet 114 = .ok (.ireturn, 1) := by decide +kernel
theorem dX0_tellOfSheet_115 : decode cX0_tellOfSheet 115 = .ok (.ldc 68, 2) := by decide +kernel
theorem dX0_tellOfSheet_117 : decode cX0_tellOfSheet 117 = .ok (.ireturn, 1) := by decide +kernel
theorem dX0_tellOfPaper_0 : decode cX0_tellOfPaper 0 = .ok (.aload_n 0, 1) := by decide +kernel
theorem dX0_tellOfPaper_1 : decode cX0_tellOfPaper 1 = .ok (.getfield 28, 3) := by decide +kernel
theorem dX0_tellOfPaper_4 : decode cX0_tellOfPaper 4 = .ok (.iload_n 1, 1) := by decide +kernel
theorem dX0_tellOfPaper_5 : decode cX0_tellOfPaper 5 = .ok (.invokevirtual 153, 3) := by decide +kernel
theorem dX0_tellOfPaper_8 : decode cX0_tellOfPaper 8 = .ok (.ifCond .ne 6, 3) := by decide +kernel
theorem dX0_tellOfPaper_11 : decode cX0_tellOfPaper 11 = .ok (.ldc 68, 2) := by decide +kernel
theorem dX0_tellOfPaper_13 : decode cX0_tellOfPaper 13 = .ok (.ireturn, 1) := by decide +kernel
theorem dX0_tellOfPaper_14 : decode cX0_tellOfPaper 14 = .ok (.iload_n 2, 1) := by decide +kernel
theorem dX0_tellOfPaper_15 : decode cX0_tellOfPaper 15 = .ok (.tableswitch 86 0 4 #[33, 43, 53, 63, 73], 33) := by decide +kernel
theorem dX0_tellOfPaper_48 : decode cX0_tellOfPaper 48 = .ok (.aload_n 0, 1) := by decide +kernel
theorem dX0_tellOfPaper_49 : decode cX0_tellOfPaper 49 = .ok (.getfield 28, 3) := by decide +kernel
theorem dX0_tellOfPaper_52 : decode cX0_tellOfPaper 52 = .ok (.getfield 100, 3) := by decide +kernel
theorem dX0_tellOfPaper_55 : decode cX0_tellOfPaper 55 = .ok (.iload_n 1, 1) := by decide +kernel
theorem dX0_tellOfPaper_56 : decode cX0_tellOfPaper 56 = .ok (.iaload, 1) := by decide +kernel
theorem dX0_tellOfPaper_57 : decode cX0_tellOfPaper 57 = .ok (.ireturn, 1) := by decide +kernel
theorem dX0_tellOfPaper_58 : decode cX0_tellOfPaper 58 = .ok (.aload_n 0, 1) := by decide +kernel
theorem dX0_tellOfPaper_59 : decode cX0_tellOfPaper 59 = .ok (.getfield 28, 3) := by decide +kernel
theorem dX0_tellOfPaper_62 : decode cX0_tellOfPaper 62 = .ok (.getfield 103, 3) := by decide +kernel
theorem dX0_tellOfPaper_65 : decode cX0_tellOfPaper 65 = .ok (.iload_n 1, 1) := by decide +kernel
theorem dX0_tellOfPaper_66 : decode cX0_tellOfPaper 66 = .ok (.iaload, 1) := by decide +kernel
theorem dX0_tellOfPaper_67 : decode cX0_tellOfPaper 67 = .ok (.ireturn, 1) := by decide +kernel
theorem dX0_tellOfPaper_68 : decode cX0_tellOfPaper 68 = .ok (.aload_n 0, 1) := by decide +kernel
theorem dX0_tellOfPaper_69 : decode cX0_tellOfPaper 69 = .ok (.getfield 28, 3) := by decide +kernel
theorem dX0_tellOfPaper_72 : decode cX0_tellOfPaper 72 = .ok (.getfield 228, 3) := by decide +kernel
theorem dX0_tellOfPaper_75 : decode cX0_tellOfPaper 75 = .ok (.iload_n 1, 1) := by decide +kernel
theorem dX0_tellOfPaper_76 : decode cX0_tellOfPaper 76 = .ok (.iaload, 1) := by decide +kernel
theorem dX0_tellOfPaper_77 : decode cX0_tellOfPaper 77 = .ok (.ireturn, 1) := by decide +kernel
theorem dX0_tellOfPaper_78 : decode cX0_tellOfPaper 78 = .ok (.aload_n 0, 1) := by decide +kernel
theorem dX0_tellOfPaper_79 : decode cX0_tellOfPaper 79 = .ok (.getfield 28, 3) := by decide +kernel
theorem dX0_tellOfPaper_82 : decode cX0_tellOfPaper 82 = .ok (.getfield 231, 3) := by decide +kernel
theorem dX0_tellOfPaper_85 : decode cX0_tellOfPaper 85 = .ok (.iload_n 1, 1) := by decide +kernel
theorem dX0_tellOfPaper_86 : decode cX0_tellOfPaper 86 = .ok (.iaload, 1) := by decide +kernel
theorem dX0_tellOfPaper_87 : decode cX0_tellOfPaper 87 = .ok (.ireturn, 1) := by decide +kernel
theorem dX0_tellOfPaper_88 : decode cX0_tellOfPaper 88 = .ok (.aload_n 0, 1) := by decide +kernel
theorem dX0_tellOfPaper_89 : decode cX0_tellOfPaper 89 = .ok (.getfield 28, 3) := by decide +kernel
theorem dX0_tellOfPaper_92 : decode cX0_tellOfPaper 92 = .ok (.iload_n 1, 1) := by decide +kernel
theorem dX0_tellOfPaper_93 : decode cX0_tellOfPaper 93 = .ok (.aload_n 0, 1) := by decide +kernel
theorem dX0_tellOfPaper_94 : decode cX0_tellOfPaper 94 = .ok (.invokevirtual 146, 3) := by decide +kernel
theorem dX0_tellOfPaper_97 : decode cX0_tellOfPaper 97 = .ok (.invokevirtual 216, 3) := by decide +kernel
theorem dX0_tellOfPaper_100 : decode cX0_tellOfPaper 100 = .ok (.ireturn, 1) := by decide +kernel
theorem dX0_tellOfPaper_101 : decode cX0_tellOfPaper 101 = .ok (.ldc 68, 2) := by decide +kernel
theorem dX0_tellOfPaper_103 : decode cX0_tellOfPaper 103 = .ok (.ireturn, 1) := by decide +kernel
theorem dX0_tellCount_0 : decode cX0_tellCount 0 = .ok (.iload_n 1, 1) := by decide +kernel
theorem dX0_tellCount_1 : decode cX0_tellCount 1 = .ok (.tableswitch 195 0 21 #[103, 111, 119, 127, 135, 140, 145, 150, 168, 175, 180, 195, 195, 195, 195, 195, 195, 195, 195, 195, 185, 190], 103) := by decide +kernel
theorem dX0_tellCount_104 : decode cX0_tellCount 104 = .ok (.aload_n 0, 1) := by decide +kernel
theorem dX0_tellCount_105 : decode cX0_tellCount 105 = .ok (.getfield 12, 3) := by decide +kernel
theorem dX0_tellCount_108 : decode cX0_tellCount 108 = .ok (.getfield 74, 3) := by decide +kernel
theorem dX0_tellCount_111 : decode cX0_tellCount 111 = .ok (.ireturn, 1) := by decide +kernel
theorem dX0_tellCount_112 : decode cX0_tellCount 112 = .ok (.aload_n 0, 1) := by decide +kernel
theorem dX0_tellCount_113 : decode cX0_tellCount 113 = .ok (.getfield 28, 3) := by decide +kernel
theorem dX0_tellCount_116 : decode cX0_tellCount 116 = .ok (.getfield 99, 3) := by decide +kernel
theorem dX0_tellCount_119 : decode cX0_tellCount 119 = .ok (.ireturn, 1) := by decide +kernel
theorem dX0_tellCount_120 : decode cX0_tellCount 120 = .ok (.aload_n 0, 1) := by decide +kernel
theorem dX0_tellCount_121 : decode cX0_tellCount 121 = .ok (.getfield 21, 3) := by decide +kernel
theorem dX0_tellCount_124 : decode cX0_tellCount 124 = .ok (.getfield 106, 3) := by decide +kernel
theorem dX0_tellCount_127 : decode cX0_tellCount 127 = .ok (.ireturn, 1) := by decide +kernel
theorem dX0_tellCount_128 : decode cX0_tellCount 128 = .ok (.aload_n 0, 1) := by decide +kernel
theorem dX0_tellCount_129 : decode cX0_tellCount 129 = .ok (.getfield 21, 3) := by decide +kernel
theorem dX0_tellCount_132 : decode cX0_tellCount 132 = .ok (.getfield 232, 3) := by decide +kernel
theorem dX0_tellCount_135 : decode cX0_tellCount 135 = .ok (.ireturn, 1) := by decide +kernel
theorem dX0_tellCount_136 : decode cX0_tellCount 136 = .ok (.aload_n 0, 1) := by decide +kernel
theorem dX0_tellCount_137 : decode cX0_tellCount 137 = .ok (.getfield 52, 3) := by decide +kernel
theorem dX0_tellCount_140 : decode cX0_tellCount 140 = .ok (.ireturn, 1) := by decide +kernel
theorem dX0_tellCount_141 : decode cX0_tellCount 141 = .ok (.aload_n 0, 1) := by decide +kernel
theorem dX0_tellCount_142 : decode cX0_tellCount 142 = .ok (.invokevirtual 146, 3) := by decide +kernel
theorem dX0_tellCount_145 : decode cX0_tellCount 145 = .ok (.ireturn, 1) := by decide +kernel
theorem dX0_tellCount_146 : decode cX0_tellCount 146 = .ok (.aload_n 0, 1) := by decide +kernel
theorem dX0_tellCount_147 : decode cX0_tellCount 147 = .ok (.invokevirtual 219, 3) := by decide +kernel
theorem dX0_tellCount_150 : decode cX0_tellCount 150 = .ok (.ireturn, 1) := by decide +kernel
theorem dX0_tellCount_151 : decode cX0_tellCount 151 = .ok (.aload_n 0, 1) := by decide +kernel
theorem dX0_tellCount_152 : decode cX0_tellCount 152 = .ok (.getfield 39, 3) := by decide +kernel
theorem dX0_tellCount_155 : decode cX0_tellCount 155 = .ok (.iconst (-1), 1) := by decide +kernel
theorem dX0_tellCount_156 : decode cX0_tellCount 156 = .ok (.if_icmp .ne 8, 3) := by decide +kernel
theorem dX0_tellCount_159 : decode cX0_tellCount 159 = .ok (.ldc 235, 2) := by decide +kernel
theorem dX0_tellCount_161 : decode cX0_tellCount 161 = .ok (.goto 7, 3) := by decide +kernel
theorem dX0_tellCount_164 : decode cX0_tellCount 164 = .ok (.aload_n 0, 1) := by decide +kernel
theorem dX0_tellCount_165 : decode cX0_tellCount 165 = .ok (.getfield 39, 3) := by decide +kernel
theorem dX0_tellCount_168 : decode cX0_tellCount 168 = .ok (.ireturn, 1) := by decide +kernel
theorem dX0_tellCount_169 : decode cX0_tellCount 169 = .ok (.iconst 3, 1) := by decide +kernel
theorem dX0_tellCount_170 : decode cX0_tellCount 170 = .ok (.aload_n 0, 1) := by decide +kernel
theorem dX0_tellCount_171 : decode cX0_tellCount 171 = .ok (.getfield 55, 3) := by decide +kernel
theorem dX0_tellCount_174 : decode cX0_tellCount 174 = .ok (.isub, 1) := by decide +kernel
theorem dX0_tellCount_175 : decode cX0_tellCount 175 = .ok (.ireturn, 1) := by decide +kernel
theorem dX0_tellCount_176 : decode cX0_tellCount 176 = .ok (.aload_n 0, 1) := by decide +kernel
theorem dX0_tellCount_177 : decode cX0_tellCount 177 = .ok (.getfield 58, 3) := by decide +kernel
theorem dX0_tellCount_180 : decode cX0_tellCount 180 = .ok (.ireturn, 1) := by decide +kernel
theorem dX0_tellCount_181 : decode cX0_tellCount 181 = .ok (.aload_n 0, 1) := by decide +kernel
theorem dX0_tellCount_182 : decode cX0_tellCount 182 = .ok (.getfield 61, 3) := by decide +kernel
theorem dX0_tellCount_185 : decode cX0_tellCount 185 = .ok (.ireturn, 1) := by decide +kernel
theorem dX0_tellCount_186 : decode cX0_tellCount 186 = .ok (.aload_n 0, 1) := by decide +kernel
theorem dX0_tellCount_187 : decode cX0_tellCount 187 = .ok (.getfield 32, 3) := by decide +kernel
theorem dX0_tellCount_190 : decode cX0_tellCount 190 = .ok (.ireturn, 1) := by decide +kernel
theorem dX0_tellCount_191 : decode cX0_tellCount 191 = .ok (.aload_n 0, 1) := by decide +kernel
theorem dX0_tellCount_192 : decode cX0_tellCount 192 = .ok (.getfield 36, 3) := by decide +kernel
theorem dX0_tellCount_195 : decode cX0_tellCount 195 = .ok (.ireturn, 1) := by decide +kernel
theorem dX0_tellCount_196 : decode cX0_tellCount 196 = .ok (.ldc 68, 2) := by decide +kernel
theorem dX0_tellCount_198 : decode cX0_tellCount 198 = .ok (.ireturn, 1) := by decide +kernel
theorem dX1_init_0 : decode cX1_init 0 = .ok (.aload_n 0, 1) := by decide +kernel
theorem dX1_init_1 : decode cX1_init 1 = .ok (.invokespecial 3, 3) := by decide +kernel
theorem dX1_init_4 : decode cX1_init 4 = .ok (.aload_n 0, 1) := by decide +kernel
theorem dX1_init_5 : decode cX1_init 5 = .ok (.iconst 5, 1) := by decide +kernel
theorem dX1_init_6 : decode cX1_init 6 = .ok (.anewarray 11, 3) := by decide +kernel
theorem dX1_init_9 : decode cX1_init 9 = .ok (.putfield 13, 3) := by decide +kernel
theorem dX1_init_12 : decode cX1_init 12 = .ok (.iconst 0, 1) := by decide +kernel
theorem dX1_init_13 : decode cX1_init 13 = .ok (.istore_n 1, 1) := by decide +kernel
theorem dX1_init_14 : decode cX1_init 14 = .ok (.iload_n 1, 1) := by decide +kernel
theorem dX1_init_15 : decode cX1_init 15 = .ok (.aload_n 0, 1) := by decide +kernel
theorem dX1_init_16 : decode cX1_init 16 = .ok (.getfield 13, 3) := by decide +kernel
theorem dX1_init_19 : decode cX1_init 19 = .ok (.arraylength, 1) := by decide +kernel
theorem dX1_init_20 : decode cX1_init 20 = .ok (.if_icmp .ge 22, 3) := by decide +kernel
theorem dX1_init_23 : decode cX1_init 23 = .ok (.aload_n 0, 1) := by decide +kernel
theorem dX1_init_24 : decode cX1_init 24 = .ok (.getfield 13, 3) := by decide +kernel
theorem dX1_init_27 : decode cX1_init 27 = .ok (.iload_n 1, 1) := by decide +kernel
theorem dX1_init_28 : decode cX1_init 28 = .ok (.new 11, 3) := by decide +kernel
theorem dX1_init_31 : decode cX1_init 31 = .ok (.dup, 1) := by decide +kernel
theorem dX1_init_32 : decode cX1_init 32 = .ok (.invokespecial 17, 3) := by decide +kernel
theorem dX1_init_35 : decode cX1_init 35 = .ok (.aastore, 1) := by decide +kernel
theorem dX1_init_36 : decode cX1_init 36 = .ok (.iinc 1 1, 3) := by decide +kernel
theorem dX1_init_39 : decode cX1_init 39 = .ok (.goto (-25), 3) := by decide +kernel
theorem dX1_init_42 : decode cX1_init 42 = .ok (.return_, 1) := by decide +kernel
theorem dX1_prepare_0 : decode cX1_prepare 0 = .ok (.aload_n 0, 1) := by decide +kernel
theorem dX1_prepare_1 : decode cX1_prepare 1 = .ok (.getfield 13, 3) := by decide +kernel
theorem dX1_prepare_4 : decode cX1_prepare 4 = .ok (.aload_n 0, 1) := by decide +kernel
theorem dX1_prepare_5 : decode cX1_prepare 5 = .ok (.getfield 18, 3) := by decide +kernel
theorem dX1_prepare_8 : decode cX1_prepare 8 = .ok (.aload_n 0, 1) := by decide +kernel
theorem dX1_prepare_9 : decode cX1_prepare 9 = .ok (.getfield 22, 3) := by decide +kernel
theorem dX1_prepare_12 : decode cX1_prepare 12 = .ok (.iadd, 1) := by decide +kernel
theorem dX1_prepare_13 : decode cX1_prepare 13 = .ok (.iconst 5, 1) := by decide +kernel
theorem dX1_prepare_14 : decode cX1_prepare 14 = .ok (.irem, 1) := by decide +kernel
theorem dX1_prepare_15 : decode cX1_prepare 15 = .ok (.aaload, 1) := by decide +kernel
theorem dX1_prepare_16 : decode cX1_prepare 16 = .ok (.astore_n 2, 1) := by decide +kernel
theorem dX1_prepare_17 : decode cX1_prepare 17 = .ok (.aload_n 2, 1) := by decide +kernel
theorem dX1_prepare_18 : decode cX1_prepare 18 = .ok (.ifnull 8, 3) := by decide +kernel
theorem dX1_prepare_21 : decode cX1_prepare 21 = .ok (.aload_n 2, 1) := by decide +kernel
theorem dX1_prepare_22 : decode cX1_prepare 22 = .ok (.aload_n 1, 1) := by decide +kernel
theorem dX1_prepare_23 : decode cX1_prepare 23 = .ok (.invokevirtual 25, 3) := by decide +kernel
theorem dX1_prepare_26 : decode cX1_prepare 26 = .ok (.return_, 1) := by decide +kernel
theorem dX1_settle_0 : decode cX1_settle 0 = .ok (.iload_n 1, 1) := by decide +kernel
theorem dX1_settle_1 : decode cX1_settle 1 = .ok (.ifCond .lt 24, 3) := by decide +kernel
theorem dX1_settle_4 : decode cX1_settle 4 = .ok (.aload_n 0, 1) := by decide +kernel
theorem dX1_settle_5 : decode cX1_settle 5 = .ok (.getfield 22, 3) := by decide +kernel
theorem dX1_settle_8 : decode cX1_settle 8 = .ok (.iconst 4, 1) := by decide +kernel
theorem dX1_settle_9 : decode cX1_settle 9 = .ok (.if_icmp .ge 16, 3) := by decide +kernel
theorem dX1_settle_12 : decode cX1_settle 12 = .ok (.aload_n 0, 1) := by decide +kernel
theorem dX1_settle_13 : decode cX1_settle 13 = .ok (.dup, 1) := by decide +kernel
theorem dX1_settle_14 : decode cX1_settle 14 = .ok (.getfield 22, 3) := by decide +kernel
theorem dX1_settle_17 : decode cX1_settle 17 = .ok (.iconst 1, 1) := by decide +kernel
theorem dX1_settle_18 : decode cX1_settle 18 = .ok (.iadd, 1) := by decide +kernel
theorem dX1_settle_19 : decode cX1_settle 19 = .ok (.putfield 22, 3) := by decide +kernel
theorem dX1_settle_22 : decode cX1_settle 22 = .ok (.goto 19, 3) := by decide +kernel
theorem dX1_settle_25 : decode cX1_settle 25 = .ok (.iload_n 1, 1) := by decide +kernel
theorem dX1_settle_26 : decode cX1_settle 26 = .ok (.ifCond .lt 15, 3) := by decide +kernel
theorem dX1_settle_29 : decode cX1_settle 29 = .ok (.aload_n 0, 1) := by decide +kernel
theorem dX1_settle_30 : decode cX1_settle 30 = .ok (.aload_n 0, 1) := by decide +kernel
theorem dX1_settle_31 : decode cX1_settle 31 = .ok (.getfield 18, 3) := by decide +kernel
theorem dX1_settle_34 : decode cX1_settle 34 = .ok (.iconst 1, 1) := by decide +kernel
theorem dX1_settle_35 : decode cX1_settle 35 = .ok (.iadd, 1) := by decide +kernel
theorem dX1_settle_36 : decode cX1_settle 36 = .ok (.iconst 5, 1) := by decide +kernel
theorem dX1_settle_37 : decode cX1_settle 37 = .ok (.irem, 1) := by decide +kernel
theorem dX1_settle_38 : decode cX1_settle 38 = .ok (.putfield 18, 3) := by decide +kernel
theorem dX1_settle_41 : decode cX1_settle 41 = .ok (.iload_n 1, 1) := by decide +kernel
theorem dX1_settle_42 : decode cX1_settle 42 = .ok (.ireturn, 1) := by decide +kernel
theorem dX1_restore_0 : decode cX1_restore 0 = .ok (.aload_n 0, 1) := by decide +kernel
theorem dX1_restore_1 : decode cX1_restore 1 = .ok (.getfield 22, 3) := by decide +kernel
theorem dX1_restore_4 : decode cX1_restore 4 = .ok (.ifCond .gt 6, 3) := by decide +kernel
theorem dX1_restore_7 : decode cX1_restore 7 = .ok (.ldc 29, 2) := by decide +kernel
theorem dX1_restore_9 : decode cX1_restore 9 = .ok (.ireturn, 1) := by decide +kernel
theorem dX1_restore_10 : decode cX1_restore 10 = .ok (.aload_n 0, 1) := by decide +kernel
theorem dX1_restore_11 : decode cX1_restore 11 = .ok (.dup, 1) := by decide +kernel
theorem dX1_restore_12 : decode cX1_restore 12 = .ok (.getfield 22, 3) := by decide +kernel
theorem dX1_restore_15 : decode cX1_restore 15 = .ok (.iconst 1, 1) := by decide +kernel
theorem dX1_restore_16 : decode cX1_restore 16 = .ok (.isub, 1) := by decide +kernel
theorem dX1_restore_17 : decode cX1_restore 17 = .ok (.putfield 22, 3) := by decide +kernel
theorem dX1_restore_20 : decode cX1_restore 20 = .ok (.aload_n 0, 1) := by decide +kernel
theorem dX1_restore_21 : decode cX1_restore 21 = .ok (.getfield 13, 3) := by decide +kernel
theorem dX1_restore_24 : decode cX1_restore 24 = .ok (.aload_n 0, 1) := by decide +kernel
theorem dX1_restore_25 : decode cX1_restore 25 = .ok (.getfield 18, 3) := by decide +kernel
theorem dX1_restore_28 : decode cX1_restore 28 = .ok (.aload_n 0, 1) := by decide +kernel
theorem dX1_restore_29 : decode cX1_restore 29 = .ok (.getfield 22, 3) := by decide +kernel
theorem dX1_restore_32 : decode cX1_restore 32 = .ok (.iadd, 1) := by decide +kernel
theorem dX1_restore_33 : decode cX1_restore 33 = .ok (.iconst 5, 1) := by decide +kernel
theorem dX1_restore_34 : decode cX1_restore 34 = .ok (.irem, 1) := by decide +kernel
theorem dX1_restore_35 : decode cX1_restore 35 = .ok (.aaload, 1) := by decide +kernel
theorem dX1_restore_36 : decode cX1_restore 36 = .ok (.astore_n 2, 1) := by decide +kernel
theorem dX1_restore_37 : decode cX1_restore 37 = .ok (.aload_n 2, 1) := by decide +kernel
theorem dX1_restore_38 : decode cX1_restore 38 = .ok (.ifnull 8, 3) := by decide +kernel
theorem dX1_restore_41 : decode cX1_restore 41 = .ok (.aload_n 1, 1) := by decide +kernel
theorem dX1_restore_42 : decode cX1_restore 42 = .ok (.aload_n 2, 1) := by decide +kernel
theorem dX1_restore_43 : decode cX1_restore 43 = .ok (.invokevirtual 25, 3) := by decide +kernel
theorem dX1_restore_46 : decode cX1_restore 46 = .ok (.aload_n 0, 1) := by decide +kernel
theorem dX1_restore_47 : decode cX1_restore 47 = .ok (.getfield 22, 3) := by decide +kernel
theorem dX1_restore_50 : decode cX1_restore 50 = .ok (.ireturn, 1) := by decide +kernel
theorem dX2_init_0 : decode cX2_init 0 = .ok (.aload_n 0, 1) := by decide +kernel
theorem dX2_init_1 : decode cX2_init 1 = .ok (.invokespecial 3, 3) := by decide +kernel
theorem dX2_init_4 : decode cX2_init 4 = .ok (.aload_n 0, 1) := by decide +kernel
theorem dX2_init_5 : decode cX2_init 5 = .ok (.iconst 4, 1) := by decide +kernel
theorem dX2_init_6 : decode cX2_init 6 = .ok (.newarray .int, 2) := by decide +kernel
theorem dX2_init_8 : decode cX2_init 8 = .ok (.putfield 9, 3) := by decide +kernel
theorem dX2_init_11 : decode cX2_init 11 = .ok (.aload_n 0, 1) := by decide +kernel
theorem dX2_init_12 : decode cX2_init 12 = .ok (.iconst 4, 1) := by decide +kernel
theorem dX2_init_13 : decode cX2_init 13 = .ok (.newarray .int, 2) := by decide +kernel
theorem dX2_init_15 : decode cX2_init 15 = .ok (.putfield 15, 3) := by decide +kernel
theorem dX2_init_18 : decode cX2_init 18 = .ok (.aload_n 0, 1) := by decide +kernel
theorem dX2_init_19 : decode cX2_init 19 = .ok (.iconst 4, 1) := by decide +kernel
theorem dX2_init_20 : decode cX2_init 20 = .ok (.newarray .int, 2) := by decide +kernel
theorem dX2_init_22 : decode cX2_init 22 = .ok (.putfield 18, 3) := by decide +kernel
theorem dX2_init_25 : decode cX2_init 25 = .ok (.aload_n 0, 1) := by decide +kernel
theorem dX2_init_26 : decode cX2_init 26 = .ok (.iconst 4, 1) := by decide +kernel
theorem dX2_init_27 : decode cX2_init 27 = .ok (.newarray .int, 2) := by decide +kernel
theorem dX2_init_29 : decode cX2_init 29 = .ok (.putfield 21, 3) := by decide +kernel
theorem dX2_init_32 : decode cX2_init 32 = .ok (.aload_n 0, 1) := by decide +kernel
theorem dX2_init_33 : decode cX2_init 33 = .ok (.iconst 4, 1) := by decide +kernel
theorem dX2_init_34 : decode cX2_init 34 = .ok (.newarray .int, 2) := by decide +kernel
theorem dX2_init_36 : decode cX2_init 36 = .ok (.putfield 24, 3) := by decide +kernel
theorem dX2_init_39 : decode cX2_init 39 = .ok (.aload_n 0, 1) := by decide +kernel
theorem dX2_init_40 : decode cX2_init 40 = .ok (.iconst 4, 1) := by decide +kernel
theorem dX2_init_41 : decode cX2_init 41 = .ok (.newarray .int, 2) := by decide +kernel
theorem dX2_init_43 : decode cX2_init 43 = .ok (.putfield 27, 3) := by decide +kernel
theorem dX2_init_46 : decode cX2_init 46 = .ok (.return_, 1) := by decide +kernel
theorem dX2_copyFrom_0 : decode cX2_copyFrom 0 = .ok (.aload_n 0, 1) := by decide +kernel
theorem dX2_copyFrom_1 : decode cX2_copyFrom 1 = .ok (.aload_n 1, 1) := by decide +kernel
theorem dX2_copyFrom_2 : decode cX2_copyFrom 2 = .ok (.getfield 30, 3) := by decide +kernel
theorem dX2_copyFrom_5 : decode cX2_copyFrom 5 = .ok (.putfield 30, 3) := by decide +kernel
theorem dX2_copyFrom_8 : decode cX2_copyFrom 8 = .ok (.aload_n 1, 1) := by decide +kernel
theorem dX2_copyFrom_9 : decode cX2_copyFrom 9 = .ok (.getfield 9, 3) := by decide +kernel
theorem dX2_copyFrom_12 : decode cX2_copyFrom 12 = .ok (.aload_n 0, 1) := by decide +kernel
theorem dX2_copyFrom_13 : decode cX2_copyFrom 13 = .ok (.getfield 9, 3) := by decide +kernel
theorem dX2_copyFrom_16 : decode cX2_copyFrom 16 = .ok (.invokestatic 34, 3) := by decide +kernel
theorem dX2_copyFrom_19 : decode cX2_copyFrom 19 = .ok (.aload_n 1, 1) := by decide +kernel
theorem dX2_copyFrom_20 : decode cX2_copyFrom 20 = .ok (.getfield 15, 3) := by decide +kernel
theorem dX2_copyFrom_23 : decode cX2_copyFrom 23 = .ok (.aload_n 0, 1) := by decide +kernel
theorem dX2_copyFrom_24 : decode cX2_copyFrom 24 = .ok (.getfield 15, 3) := by decide +kernel
theorem dX2_copyFrom_27 : decode cX2_copyFrom 27 = .ok (.invokestatic 34, 3) := by decide +kernel
theorem dX2_copyFrom_30 : decode cX2_copyFrom 30 = .ok (.aload_n 1, 1) := by decide +kernel
theorem dX2_copyFrom_31 : decode cX2_copyFrom 31 = .ok (.getfield 18, 3) := by decide +kernel
theorem dX2_copyFrom_34 : decode cX2_copyFrom 34 = .ok (.aload_n 0, 1) := by decide +kernel
theorem dX2_copyFrom_35 : decode cX2_copyFrom 35 = .ok (.getfield 18, 3) := by decide +kernel
theorem dX2_copyFrom_38 : decode cX2_copyFrom 38 = .ok (.invokestatic 34, 3) := by decide +kernel
theorem dX2_copyFrom_41 : decode cX2_copyFrom 41 = .ok (.aload_n 1, 1) := by decide +kernel
theorem dX2_copyFrom_42 : decode cX2_copyFrom 42 = .ok (.getfield 21, 3) := by decide +kernel
theorem dX2_copyFrom_45 : decode cX2_copyFrom 45 = .ok (.aload_n 0, 1) := by decide +kernel
theorem dX2_copyFrom_46 : decode cX2_copyFrom 46 = .ok (.getfield 21, 3) := by decide +kernel
theorem dX2_copyFrom_49 : decode cX2_copyFrom 49 = .ok (.invokestatic 34, 3) := by decide +kernel
theorem dX2_copyFrom_52 : decode cX2_copyFrom 52 = .ok (.aload_n 1, 1) := by decide +kernel
theorem dX2_copyFrom_53 : decode cX2_copyFrom 53 = .ok (.getfield 24, 3) := by decide +kernel
theorem dX2_copyFrom_56 : decode cX2_copyFrom 56 = .ok (.aload_n 0, 1) := by decide +kernel
theorem dX2_copyFrom_57 : decode cX2_copyFrom 57 = .ok (.getfield 24, 3) := by decide +kernel
theorem dX2_copyFrom_60 : decode cX2_copyFrom 60 = .ok (.invokestatic 34, 3) := by decide +kernel
theorem dX2_copyFrom_63 : decode cX2_copyFrom 63 = .ok (.aload_n 1, 1) := by decide +kernel
theorem dX2_copyFrom_64 : decode cX2_copyFrom 64 = .ok (.getfield 27, 3) := by decide +kernel
theorem dX2_copyFrom_67 : decode cX2_copyFrom 67 = .ok (.aload_n 0, 1) := by decide +kernel
theorem dX2_copyFrom_68 : decode cX2_copyFrom 68 = .ok (.getfield 27, 3) := by decide +kernel
theorem dX2_copyFrom_71 : decode cX2_copyFrom 71 = .ok (.invokestatic 34, 3) := by decide +kernel
theorem dX2_copyFrom_74 : decode cX2_copyFrom 74 = .ok (.return_, 1) := by decide +kernel
theorem dX2_has_0 : decode cX2_has 0 = .ok (.iload_n 1, 1) := by decide +kernel
theorem dX2_has_1 : decode cX2_has 1 = .ok (.ifCond .lt 15, 3) := by decide +kernel
theorem dX2_has_4 : decode cX2_has 4 = .ok (.iload_n 1, 1) := by decide +kernel
theorem dX2_has_5 : decode cX2_has 5 = .ok (.aload_n 0, 1) := by decide +kernel
theorem dX2_has_6 : decode cX2_has 6 = .ok (.getfield 30, 3) := by decide +kernel
theorem dX2_has_9 : decode cX2_has 9 = .ok (.if_icmp .ge 7, 3) := by decide +kernel
theorem dX2_has_12 : decode cX2_has 12 = .ok (.iconst 1, 1) := by decide +kernel
theorem dX2_has_13 : decode cX2_has 13 = .ok (.goto 4, 3) := by decide +kernel
theorem dX2_has_16 : decode cX2_has 16 = .ok (.iconst 0, 1) := by decide +kernel
theorem dX2_has_17 : decode cX2_has 17 = .ok (.ireturn, 1) := by decide +kernel
theorem dX2_peopleBoughtOn_0 : decode cX2_peopleBoughtOn 0 = .ok (.aload_n 0, 1) := by decide +kernel
theorem dX2_peopleBoughtOn_1 : decode cX2_peopleBoughtOn 1 = .ok (.getfield 24, 3) := by decide +kernel
theorem dX2_peopleBoughtOn_4 : decode cX2_peopleBoughtOn 4 = .ok (.iload_n 1, 1) := by decide +kernel
theorem dX2_peopleBoughtOn_5 : decode cX2_peopleBoughtOn 5 = .ok (.iaload, 1) := by decide +kernel
theorem dX2_peopleBoughtOn_6 : decode cX2_peopleBoughtOn 6 = .ok (.iload_n 2, 1) := by decide +kernel
theorem dX2_peopleBoughtOn_7 : decode cX2_peopleBoughtOn 7 = .ok (.if_icmp .ne 12, 3) := by decide +kernel
theorem dX2_peopleBoughtOn_10 : decode cX2_peopleBoughtOn 10 = .ok (.aload_n 0, 1) := by decide +kernel
theorem dX2_peopleBoughtOn_11 : decode cX2_peopleBoughtOn 11 = .ok (.getfield 27, 3) := by decide +kernel
theorem dX2_peopleBoughtOn_14 : decode cX2_peopleBoughtOn 14 = .ok (.iload_n 1, 1) := by decide +kernel
theorem dX2_peopleBoughtOn_15 : decode cX2_peopleBoughtOn 15 = .ok (.iaload, 1) := by decide +kernel
theorem dX2_peopleBoughtOn_16 : decode cX2_peopleBoughtOn 16 = .ok (.goto 4, 3) := by decide +kernel
theorem dX2_peopleBoughtOn_19 : decode cX2_peopleBoughtOn 19 = .ok (.iconst 0, 1) := by decide +kernel
theorem dX2_peopleBoughtOn_20 : decode cX2_peopleBoughtOn 20 = .ok (.ireturn, 1) := by decide +kernel
theorem dX2_buy_0 : decode cX2_buy 0 = .ok (.aload_n 0, 1) := by decide +kernel
theorem dX2_buy_1 : decode cX2_buy 1 = .ok (.getfield 27, 3) := by decide +kernel
theorem dX2_buy_4 : decode cX2_buy 4 = .ok (.iload_n 1, 1) := by decide +kernel
theorem dX2_buy_5 : decode cX2_buy 5 = .ok (.aload_n 0, 1) := by decide +kernel
theorem dX2_buy_6 : decode cX2_buy 6 = .ok (.iload_n 1, 1) := by decide +kernel
theorem dX2_buy_7 : decode cX2_buy 7 = .ok (.iload 4, 2) := by decide +kernel
theorem dX2_buy_9 : decode cX2_buy 9 = .ok (.invokevirtual 38, 3) := by decide +kernel
theorem dX2_buy_12 : decode cX2_buy 12 = .ok (.iconst 1, 1) := by decide +kernel
theorem dX2_buy_13 : decode cX2_buy 13 = .ok (.iload_n 2, 1) := by decide +kernel
theorem dX2_buy_14 : decode cX2_buy 14 = .ok (.ishl, 1) := by decide +kernel
theorem dX2_buy_15 : decode cX2_buy 15 = .ok (.ior, 1) := by decide +kernel
theorem dX2_buy_16 : decode cX2_buy 16 = .ok (.iastore, 1) := by decide +kernel
theorem dX2_buy_17 : decode cX2_buy 17 = .ok (.aload_n 0, 1) := by decide +kernel
theorem dX2_buy_18 : decode cX2_buy 18 = .ok (.getfield 24, 3) := by decide +kernel
theorem dX2_buy_21 : decode cX2_buy 21 = .ok (.iload_n 1, 1) := by decide +kernel
theorem dX2_buy_22 : decode cX2_buy 22 = .ok (.iload 4, 2) := by decide +kernel
theorem dX2_buy_24 : decode cX2_buy 24 = .ok (.iastore, 1) := by decide +kernel
theorem dX2_buy_25 : decode cX2_buy 25 = .ok (.aload_n 0, 1) := by decide +kernel
theorem dX2_buy_26 : decode cX2_buy 26 = .ok (.getfield 18, 3) := by decide +kernel
theorem dX2_buy_29 : decode cX2_buy 29 = .ok (.iload_n 1, 1) := by decide +kernel
theorem dX2_buy_30 : decode cX2_buy 30 = .ok (.dup2, 1) := by decide +kernel
theorem dX2_buy_31 : decode cX2_buy 31 = .ok (.iaload, 1) := by decide +kernel
theorem dX2_buy_32 : decode cX2_buy 32 = .ok (.iconst 1, 1) := by decide +kernel
theorem dX2_buy_33 : decode cX2_buy 33 = .ok (.iadd, 1) := by decide +kernel
theorem dX2_buy_34 : decode cX2_buy 34 = .ok (.iastore, 1) := by decide +kernel
theorem dX2_buy_35 : decode cX2_buy 35 = .ok (.aload_n 0, 1) := by decide +kernel
theorem dX2_buy_36 : decode cX2_buy 36 = .ok (.getfield 21, 3) := by decide +kernel
theorem dX2_buy_39 : decode cX2_buy 39 = .ok (.iload_n 1, 1) := by decide +kernel
theorem dX2_buy_40 : decode cX2_buy 40 = .ok (.dup2, 1) := by decide +kernel
theorem dX2_buy_41 : decode cX2_buy 41 = .ok (.iaload, 1) := by decide +kernel
theorem dX2_buy_42 : decode cX2_buy 42 = .ok (.iload_n 3, 1) := by decide +kernel
theorem dX2_buy_43 : decode cX2_buy 43 = .ok (.iadd, 1) := by decide +kernel
theorem dX2_buy_44 : decode cX2_buy 44 = .ok (.iastore, 1) := by decide +kernel
theorem dX2_buy_45 : decode cX2_buy 45 = .ok (.return_, 1) := by decide +kernel
theorem dX3_init_0 : decode cX3_init 0 = .ok (.aload_n 0, 1) := by decide +kernel
theorem dX3_init_1 : decode cX3_init 1 = .ok (.invokespecial 3, 3) := by decide +kernel
theorem dX3_init_4 : decode cX3_init 4 = .ok (.aload_n 0, 1) := by decide +kernel
theorem dX3_init_5 : decode cX3_init 5 = .ok (.bipush 6, 2) := by decide +kernel
theorem dX3_init_7 : decode cX3_init 7 = .ok (.newarray .int, 2) := by decide +kernel
theorem dX3_init_9 : decode cX3_init 9 = .ok (.putfield 9, 3) := by decide +kernel
theorem dX3_init_12 : decode cX3_init 12 = .ok (.aload_n 0, 1) := by decide +kernel
theorem dX3_init_13 : decode cX3_init 13 = .ok (.bipush 6, 2) := by decide +kernel
theorem dX3_init_15 : decode cX3_init 15 = .ok (.newarray .int, 2) := by decide +kernel
theorem dX3_init_17 : decode cX3_init 17 = .ok (.putfield 15, 3) := by decide +kernel
theorem dX3_init_20 : decode cX3_init 20 = .ok (.aload_n 0, 1) := by decide +kernel
theorem dX3_init_21 : decode cX3_init 21 = .ok (.bipush 6, 2) := by decide +kernel
theorem dX3_init_23 : decode cX3_init 23 = .ok (.newarray .int, 2) := by decide +kernel
theorem dX3_init_25 : decode cX3_init 25 = .ok (.putfield 18, 3) := by decide +kernel
theorem dX3_init_28 : decode cX3_init 28 = .ok (.aload_n 0, 1) := by decide +kernel
theorem dX3_init_29 : decode cX3_init 29 = .ok (.bipush 6, 2) := by decide +kernel
theorem dX3_init_31 : decode cX3_init 31 = .ok (.newarray .int, 2) := by decide +kernel
theorem dX3_init_33 : decode cX3_init 33 = .ok (.putfield 21, 3) := by decide +kernel
theorem dX3_init_36 : decode cX3_init 36 = .ok (.aload_n 0, 1) := by decide +kernel
theorem dX3_init_37 : decode cX3_init 37 = .ok (.bipush 6, 2) := by decide +kernel
theorem dX3_init_39 : decode cX3_init 39 = .ok (.newarray .int, 2) := by decide +kernel
theorem dX3_init_41 : decode cX3_init 41 = .ok (.putfield 24, 3) := by decide +kernel
theorem dX3_init_44 : decode cX3_init 44 = .ok (.aload_n 0, 1) := by decide +kernel
theorem dX3_init_45 : decode cX3_init 45 = .ok (.bipush 6, 2) := by decide +kernel
theorem dX3_init_47 : decode cX3_init 47 = .ok (.newarray .int, 2) := by decide +kernel
theorem dX3_init_49 : decode cX3_init 49 = .ok (.putfield 27, 3) := by decide +kernel
theorem dX3_init_52 : decode cX3_init 52 = .ok (.aload_n 0, 1) := by decide +kernel
theorem dX3_init_53 : decode cX3_init 53 = .ok (.bipush 72, 2) := by decide +kernel
theorem dX3_init_55 : decode cX3_init 55 = .ok (.newarray .int, 2) := by decide +kernel
theorem dX3_init_57 : decode cX3_init 57 = .ok (.putfield 30, 3) := by decide +kernel
theorem dX3_init_60 : decode cX3_init 60 = .ok (.iconst 0, 1) := by decide +kernel
theorem dX3_init_61 : decode cX3_init 61 = .ok (.istore_n 1, 1) := by decide +kernel
theorem dX3_init_62 : decode cX3_init 62 = .ok (.iload_n 1, 1) := by decide +kernel
theorem dX3_init_63 : decode cX3_init 63 = .ok (.aload_n 0, 1) := by decide +kernel
theorem dX3_init_64 : decode cX3_init 64 = .ok (.getfield 24, 3) := by decide +kernel
theorem dX3_init_67 : decode cX3_init 67 = .ok (.arraylength, 1) := by decide +kernel
theorem dX3_init_68 : decode cX3_init 68 = .ok (.if_icmp .ge 16, 3) := by decide +kernel
theorem dX3_init_71 : decode cX3_init 71 = .ok (.aload_n 0, 1) := by decide +kernel
theorem dX3_init_72 : decode cX3_init 72 = .ok (.getfield 24, 3) := by decide +kernel
theorem dX3_init_75 : decode cX3_init 75 = .ok (.iload_n 1, 1) := by decide +kernel
theorem dX3_init_76 : decode cX3_init 76 = .ok (.iconst (-1), 1) := by decide +kernel
theorem dX3_init_77 : decode cX3_init 77 = .ok (.iastore, 1) := by decide +kernel
theorem dX3_init_78 : decode cX3_init 78 = .ok (.iinc 1 1, 3) := by decide +kernel
theorem dX3_init_81 : decode cX3_init 81 = .ok (.goto (-19), 3) := by decide +kernel
theorem dX3_init_84 : decode cX3_init 84 = .ok (.iconst 0, 1) := by decide +kernel
theorem dX3_init_85 : decode cX3_init 85 = .ok (.istore_n 1, 1) := by decide +kernel
theorem dX3_init_86 : decode cX3_init 86 = .ok (.iload_n 1, 1) := by decide +kernel
theorem dX3_init_87 : decode cX3_init 87 = .ok (.aload_n 0, 1) := by decide +kernel
theorem dX3_init_88 : decode cX3_init 88 = .ok (.getfield 30, 3) := by decide +kernel
theorem dX3_init_91 : decode cX3_init 91 = .ok (.arraylength, 1) := by decide +kernel
theorem dX3_init_92 : decode cX3_init 92 = .ok (.if_icmp .ge 16, 3) := by decide +kernel
theorem dX3_init_95 : decode cX3_init 95 = .ok (.aload_n 0, 1) := by decide +kernel
theorem dX3_init_96 : decode cX3_init 96 = .ok (.getfield 30, 3) := by decide +kernel
theorem dX3_init_99 : decode cX3_init 99 = .ok (.iload_n 1, 1) := by decide +kernel
theorem dX3_init_100 : decode cX3_init 100 = .ok (.iconst (-1), 1) := by decide +kernel
theorem dX3_init_101 : decode cX3_init 101 = .ok (.iastore, 1) := by decide +kernel
theorem dX3_init_102 : decode cX3_init 102 = .ok (.iinc 1 1, 3) := by decide +kernel
theorem dX3_init_105 : decode cX3_init 105 = .ok (.goto (-19), 3) := by decide +kernel
theorem dX3_init_108 : decode cX3_init 108 = .ok (.return_, 1) := by decide +kernel
theorem dX3_copyFrom_0 : decode cX3_copyFrom 0 = .ok (.aload_n 0, 1) := by decide +kernel
theorem dX3_copyFrom_1 : decode cX3_copyFrom 1 = .ok (.aload_n 1, 1) := by decide +kernel
theorem dX3_copyFrom_2 : decode cX3_copyFrom 2 = .ok (.getfield 33, 3) := by decide +kernel
theorem dX3_copyFrom_5 : decode cX3_copyFrom 5 = .ok (.putfield 33, 3) := by decide +kernel
theorem dX3_copyFrom_8 : decode cX3_copyFrom 8 = .ok (.aload_n 1, 1) := by decide +kernel
theorem dX3_copyFrom_9 : decode cX3_copyFrom 9 = .ok (.getfield 9, 3) := by decide +kernel
theorem dX3_copyFrom_12 : decode cX3_copyFrom 12 = .ok (.aload_n 0, 1) := by decide +kernel
theorem dX3_copyFrom_13 : decode cX3_copyFrom 13 = .ok (.getfield 9, 3) := by decide +kernel
theorem dX3_copyFrom_16 : decode cX3_copyFrom 16 = .ok (.invokestatic 37, 3) := by decide +kernel
theorem dX3_copyFrom_19 : decode cX3_copyFrom 19 = .ok (.aload_n 1, 1) := by decide +kernel
theorem dX3_copyFrom_20 : decode cX3_copyFrom 20 = .ok (.getfield 15, 3) := by decide +kernel
theorem dX3_copyFrom_23 : decode cX3_copyFrom 23 = .ok (.aload_n 0, 1) := by decide +kernel
theorem dX3_copyFrom_24 : decode cX3_copyFrom 24 = .ok (.getfield 15, 3) := by decide +kernel
theorem dX3_copyFrom_27 : decode cX3_copyFrom 27 = .ok (.invokestatic 37, 3) := by decide +kernel
theorem dX3_copyFrom_30 : decode cX3_copyFrom 30 = .ok (.aload_n 1, 1) := by decide +kernel
theorem dX3_copyFrom_31 : decode cX3_copyFrom 31 = .ok (.getfield 18, 3) := by decide +kernel
theorem dX3_copyFrom_34 : decode cX3_copyFrom 34 = .ok (.aload_n 0, 1) := by decide +kernel
theorem dX3_copyFrom_35 : decode cX3_copyFrom 35 = .ok (.getfield 18, 3) := by decide +kernel
theorem dX3_copyFrom_38 : decode cX3_copyFrom 38 = .ok (.invokestatic 37, 3) := by decide +kernel
theorem dX3_copyFrom_41 : decode cX3_copyFrom 41 = .ok (.aload_n 1, 1) := by decide +kernel
theorem dX3_copyFrom_42 : decode cX3_copyFrom 42 = .ok (.getfield 21, 3) := by decide +kernel
theorem dX3_copyFrom_45 : decode cX3_copyFrom 45 = .ok (.aload_n 0, 1) := by decide +kernel
theorem dX3_copyFrom_46 : decode cX3_copyFrom 46 = .ok (.getfield 21, 3) := by decide +kernel
theorem dX3_copyFrom_49 : decode cX3_copyFrom 49 = .ok (.invokestatic 37, 3) := by decide +kernel
theorem dX3_copyFrom_52 : decode cX3_copyFrom 52 = .ok (.aload_n 1, 1) := by decide +kernel
theorem dX3_copyFrom_53 : decode cX3_copyFrom 53 = .ok (.getfield 24, 3) := by decide +kernel
theorem dX3_copyFrom_56 : decode cX3_copyFrom 56 = .ok (.aload_n 0, 1) := by decide +kernel
theorem dX3_copyFrom_57 : decode cX3_copyFrom 57 = .ok (.getfield 24, 3) := by decide +kernel
theorem dX3_copyFrom_60 : decode cX3_copyFrom 60 = .ok (.invokestatic 37, 3) := by decide +kernel
theorem dX3_copyFrom_63 : decode cX3_copyFrom 63 = .ok (.aload_n 1, 1) := by decide +kernel
theorem dX3_copyFrom_64 : decode cX3_copyFrom 64 = .ok (.getfield 27, 3) := by decide +kernel
theorem dX3_copyFrom_67 : decode cX3_copyFrom 67 = .ok (.aload_n 0, 1) := by decide +kernel
theorem dX3_copyFrom_68 : decode cX3_copyFrom 68 = .ok (.getfield 27, 3) := by decide +kernel
theorem dX3_copyFrom_71 : decode cX3_copyFrom 71 = .ok (.invokestatic 37, 3) := by decide +kernel
theorem dX3_copyFrom_74 : decode cX3_copyFrom 74 = .ok (.aload_n 1, 1) := by decide +kernel
theorem dX3_copyFrom_75 : decode cX3_copyFrom 75 = .ok (.getfield 30, 3) := by decide +kernel
theorem dX3_copyFrom_78 : decode cX3_copyFrom 78 = .ok (.aload_n 0, 1) := by decide +kernel
theorem dX3_copyFrom_79 : decode cX3_copyFrom 79 = .ok (.getfield 30, 3) := by decide +kernel
theorem dX3_copyFrom_82 : decode cX3_copyFrom 82 = .ok (.invokestatic 37, 3) := by decide +kernel
theorem dX3_copyFrom_85 : decode cX3_copyFrom 85 = .ok (.return_, 1) := by decide +kernel
theorem dX3_has_0 : decode cX3_has 0 = .ok (.iload_n 1, 1) := by decide +kernel
theorem dX3_has_1 : decode cX3_has 1 = .ok (.ifCond .lt 15, 3) := by decide +kernel
theorem dX3_has_4 : decode cX3_has 4 = .ok (.iload_n 1, 1) := by decide +kernel
theorem dX3_has_5 : decode cX3_has 5 = .ok (.aload_n 0, 1) := by decide +kernel
theorem dX3_has_6 : decode cX3_has 6 = .ok (.getfield 33, 3) := by decide +kernel
theorem dX3_has_9 : decode cX3_has 9 = .ok (.if_icmp .ge 7, 3) := by decide +kernel
theorem dX3_has_12 : decode cX3_has 12 = .ok (.iconst 1, 1) := by decide +kernel
theorem dX3_has_13 : decode cX3_has 13 = .ok (.goto 4, 3) := by decide +kernel
theorem dX3_has_16 : decode cX3_has 16 = .ok (.iconst 0, 1) := by decide +kernel
theorem dX3_has_17 : decode cX3_has 17 = .ok (.ireturn, 1) := by decide +kernel
theorem dX3_isTaken_0 : decode cX3_isTaken 0 = .ok (.iconst 0, 1) := by decide +kernel
theorem dX3_isTaken_1 : decode cX3_isTaken 1 = .ok (.istore_n 3, 1) := by decide +kernel
theorem dX3_isTaken_2 : decode cX3_isTaken 2 = .ok (.iload_n 3, 1) := by decide +kernel
theorem dX3_isTaken_3 : decode cX3_isTaken 3 = .ok (.aload_n 0, 1) := by decide +kernel
theorem dX3_isTaken_4 : decode cX3_isTaken 4 = .ok (.getfield 33, 3) := by decide +kernel
theorem dX3_isTaken_7 : decode cX3_isTaken 7 = .ok (.if_icmp .ge 31, 3) := by decide +kernel
theorem dX3_isTaken_10 : decode cX3_isTaken 10 = .ok (.aload_n 0, 1) := by decide +kernel
theorem dX3_isTaken_11 : decode cX3_isTaken 11 = .ok (.getfield 9, 3) := by decide +kernel
theorem dX3_isTaken_14 : decode cX3_isTaken 14 = .ok (.iload_n 3, 1) := by decide +kernel
theorem dX3_isTaken_15 : decode cX3_isTaken 15 = .ok (.iaload, 1) := by decide +kernel
theorem dX3_isTaken_16 : decode cX3_isTaken 16 = .ok (.iload_n 1, 1) := by decide +kernel
theorem dX3_isTaken_17 : decode cX3_isTaken 17 = .ok (.if_icmp .ne 15, 3) := by decide +kernel
theorem dX3_isTaken_20 : decode cX3_isTaken 20 = .ok (.aload_n 0, 1) := by decide +kernel
theorem dX3_isTaken_21 : decode cX3_isTaken 21 = .ok (.getfield 15, 3) := by decide +kernel
theorem dX3_isTaken_24 : decode cX3_isTaken 24 = .ok (.iload_n 3, 1) := by decide +kernel
theorem dX3_isTaken_25 : decode cX3_isTaken 25 = .ok (.iaload, 1) := by decide +kernel
theorem dX3_isTaken_26 : decode cX3_isTaken 26 = .ok (.iload_n 2, 1) := by decide +kernel
theorem dX3_isTaken_27 : decode cX3_isTaken 27 = .ok (.if_icmp .ne 5, 3) := by decide +kernel
theorem dX3_isTaken_30 : decode cX3_isTaken 30 = .ok (.iconst 1, 1) := by decide +kernel
theorem dX3_isTaken_31 : decode cX3_isTaken 31 = .ok (.ireturn, 1) := by decide +kernel
theorem dX3_isTaken_32 : decode cX3_isTaken 32 = .ok (.iinc 3 1, 3) := by decide +kernel
theorem dX3_isTaken_35 : decode cX3_isTaken 35 = .ok (.goto (-33), 3) := by decide +kernel
theorem dX3_isTaken_38 : decode cX3_isTaken 38 = .ok (.iconst 0, 1) := by decide +kernel
theorem dX3_isTaken_39 : decode cX3_isTaken 39 = .ok (.ireturn, 1) := by decide +kernel
theorem dX3_seenAside_0 : decode cX3_seenAside 0 = .ok (.iconst 0, 1) := by decide +kernel
theorem dX3_seenAside_1 : decode cX3_seenAside 1 = .ok (.istore_n 2, 1) := by decide +kernel
theorem dX3_seenAside_2 : decode cX3_seenAside 2 = .ok (.iload_n 2, 1) := by decide +kernel
theorem dX3_seenAside_3 : decode cX3_seenAside 3 = .ok (.aload_n 0, 1) := by decide +kernel
theorem dX3_seenAside_4 : decode cX3_seenAside 4 = .ok (.getfield 33, 3) := by decide +kernel
theorem dX3_seenAside_7 : decode cX3_seenAside 7 = .ok (.if_icmp .ge 41, 3) := by decide +kernel
theorem dX3_seenAside_10 : decode cX3_seenAside 10 = .ok (.aload_n 0, 1) := by decide +kernel
theorem dX3_seenAside_11 : decode cX3_seenAside 11 = .ok (.getfield 15, 3) := by decide +kernel
theorem dX3_seenAside_14 : decode cX3_seenAside 14 = .ok (.iload_n 2, 1) := by decide +kernel
theorem dX3_seenAside_15 : decode cX3_seenAside 15 = .ok (.iaload, 1) := by decide +kernel
theorem dX3_seenAside_16 : decode cX3_seenAside 16 = .ok (.aload_n 0, 1) := by decide +kernel
theorem dX3_seenAside_17 : decode cX3_seenAside 17 = .ok (.getfield 15, 3) := by decide +kernel
theorem dX3_seenAside_20 : decode cX3_seenAside 20 = .ok (.iload_n 1, 1) := by decide +kernel
theorem dX3_seenAside_21 : decode cX3_seenAside 21 = .ok (.iaload, 1) := by decide +kernel
theorem dX3_seenAside_22 : decode cX3_seenAside 22 = .ok (.if_icmp .ne 20, 3) := by decide +kernel
theorem dX3_seenAside_25 : decode cX3_seenAside 25 = .ok (.aload_n 0, 1) := by decide +kernel
end
section
theorem dX3_seenAside_26 : decode cX3_seenAside 26 = .ok (.getfield 9, 3) := by decide +kernel
theorem dX3_seenAside_29 : decode cX3_seenAside 29 = .ok (.iload_n 2, 1) := by decide +kernel
theorem dX3_seenAside_30 : decode cX3_seenAside 30 = .ok (.iaload, 1) := by decide +kernel
theorem dX3_seenAside_31 : decode cX3_seenAside 31 = .ok (.aload_n 0, 1) := by decide +kernel
theorem dX3_seenAside_32 : decode cX3_seenAside 32 = .ok (.getfield 9, 3) := by decide +kernel
theorem dX3_seenAside_35 : decode cX3_seenAside 35 = .ok (.iload_n 1, 1) := by decide +kernel
theorem dX3_seenAside_36 : decode cX3_seenAside 36 = .ok (.iaload, 1) := by decide +kernel
theorem dX3_seenAside_37 : decode cX3_seenAside 37 = .ok (.if_icmp .ge 5, 3) := by decide +kernel
theorem dX3_seenAside_40 : decode cX3_seenAside 40 = .ok (.iconst 0, 1) := by decide +kernel
theorem dX3_seenAside_41 : decode cX3_seenAside 41 = .ok (.ireturn, 1) := by decide +kernel
theorem dX3_seenAside_42 : decode cX3_seenAside 42 = .ok (.iinc 2 1, 3) := by decide +kernel
theorem dX3_seenAside_45 : decode cX3_seenAside 45 = .ok (.goto (-43), 3) := by decide +kernel
theorem dX3_seenAside_48 : decode cX3_seenAside 48 = .ok (.iconst 2, 1) := by decide +kernel
theorem dX3_seenAside_49 : decode cX3_seenAside 49 = .ok (.ireturn, 1) := by decide +kernel
theorem dX3_angleAfter_0 : decode cX3_angleAfter 0 = .ok (.aload_n 0, 1) := by decide +kernel
theorem dX3_angleAfter_1 : decode cX3_angleAfter 1 = .ok (.getfield 18, 3) := by decide +kernel
theorem dX3_angleAfter_4 : decode cX3_angleAfter 4 = .ok (.iload_n 1, 1) := by decide +kernel
theorem dX3_angleAfter_5 : decode cX3_angleAfter 5 = .ok (.iaload, 1) := by decide +kernel
theorem dX3_angleAfter_6 : decode cX3_angleAfter 6 = .ok (.aload_n 0, 1) := by decide +kernel
theorem dX3_angleAfter_7 : decode cX3_angleAfter 7 = .ok (.getfield 21, 3) := by decide +kernel
theorem dX3_angleAfter_10 : decode cX3_angleAfter 10 = .ok (.iload_n 1, 1) := by decide +kernel
theorem dX3_angleAfter_11 : decode cX3_angleAfter 11 = .ok (.iaload, 1) := by decide +kernel
theorem dX3_angleAfter_12 : decode cX3_angleAfter 12 = .ok (.iload_n 2, 1) := by decide +kernel
theorem dX3_angleAfter_13 : decode cX3_angleAfter 13 = .ok (.imul, 1) := by decide +kernel
theorem dX3_angleAfter_14 : decode cX3_angleAfter 14 = .ok (.iadd, 1) := by decide +kernel
theorem dX3_angleAfter_15 : decode cX3_angleAfter 15 = .ok (.bipush 12, 2) := by decide +kernel
theorem dX3_angleAfter_17 : decode cX3_angleAfter 17 = .ok (.irem, 1) := by decide +kernel
theorem dX3_angleAfter_18 : decode cX3_angleAfter 18 = .ok (.ireturn, 1) := by decide +kernel
theorem dX3_seenAfter_0 : decode cX3_seenAfter 0 = .ok (.aload_n 0, 1) := by decide +kernel
theorem dX3_seenAfter_1 : decode cX3_seenAfter 1 = .ok (.iload_n 1, 1) := by decide +kernel
theorem dX3_seenAfter_2 : decode cX3_seenAfter 2 = .ok (.iload_n 2, 1) := by decide +kernel
theorem dX3_seenAfter_3 : decode cX3_seenAfter 3 = .ok (.invokevirtual 41, 3) := by decide +kernel
theorem dX3_seenAfter_6 : decode cX3_seenAfter 6 = .ok (.aload_n 0, 1) := by decide +kernel
theorem dX3_seenAfter_7 : decode cX3_seenAfter 7 = .ok (.iload_n 1, 1) := by decide +kernel
theorem dX3_seenAfter_8 : decode cX3_seenAfter 8 = .ok (.invokevirtual 45, 3) := by decide +kernel
theorem dX3_seenAfter_11 : decode cX3_seenAfter 11 = .ok (.invokestatic 49, 3) := by decide +kernel
theorem dX3_seenAfter_14 : decode cX3_seenAfter 14 = .ok (.ireturn, 1) := by decide +kernel
theorem dX3_watch_0 : decode cX3_watch 0 = .ok (.aload_n 0, 1) := by decide +kernel
theorem dX3_watch_1 : decode cX3_watch 1 = .ok (.iload_n 1, 1) := by decide +kernel
theorem dX3_watch_2 : decode cX3_watch 2 = .ok (.invokevirtual 45, 3) := by decide +kernel
theorem dX3_watch_5 : decode cX3_watch 5 = .ok (.istore 4, 2) := by decide +kernel
theorem dX3_watch_7 : decode cX3_watch 7 = .ok (.iconst 0, 1) := by decide +kernel
theorem dX3_watch_8 : decode cX3_watch 8 = .ok (.iload_n 3, 1) := by decide +kernel
theorem dX3_watch_9 : decode cX3_watch 9 = .ok (.bipush 12, 2) := by decide +kernel
theorem dX3_watch_11 : decode cX3_watch 11 = .ok (.isub, 1) := by decide +kernel
theorem dX3_watch_12 : decode cX3_watch 12 = .ok (.invokestatic 52, 3) := by decide +kernel
theorem dX3_watch_15 : decode cX3_watch 15 = .ok (.istore 5, 2) := by decide +kernel
theorem dX3_watch_17 : decode cX3_watch 17 = .ok (.iload 5, 2) := by decide +kernel
theorem dX3_watch_19 : decode cX3_watch 19 = .ok (.iload_n 3, 1) := by decide +kernel
theorem dX3_watch_20 : decode cX3_watch 20 = .ok (.if_icmp .ge 65, 3) := by decide +kernel
theorem dX3_watch_23 : decode cX3_watch 23 = .ok (.aload_n 0, 1) := by decide +kernel
theorem dX3_watch_24 : decode cX3_watch 24 = .ok (.iload_n 1, 1) := by decide +kernel
theorem dX3_watch_25 : decode cX3_watch 25 = .ok (.iload 5, 2) := by decide +kernel
theorem dX3_watch_27 : decode cX3_watch 27 = .ok (.invokevirtual 41, 3) := by decide +kernel
theorem dX3_watch_30 : decode cX3_watch 30 = .ok (.iload 4, 2) := by decide +kernel
theorem dX3_watch_32 : decode cX3_watch 32 = .ok (.invokestatic 49, 3) := by decide +kernel
theorem dX3_watch_35 : decode cX3_watch 35 = .ok (.istore 6, 2) := by decide +kernel
theorem dX3_watch_37 : decode cX3_watch 37 = .ok (.iconst 0, 1) := by decide +kernel
theorem dX3_watch_38 : decode cX3_watch 38 = .ok (.istore 7, 2) := by decide +kernel
theorem dX3_watch_40 : decode cX3_watch 40 = .ok (.iload 7, 2) := by decide +kernel
theorem dX3_watch_42 : decode cX3_watch 42 = .ok (.bipush 12, 2) := by decide +kernel
theorem dX3_watch_44 : decode cX3_watch 44 = .ok (.if_icmp .ge 35, 3) := by decide +kernel
theorem dX3_watch_47 : decode cX3_watch 47 = .ok (.iload 6, 2) := by decide +kernel
theorem dX3_watch_49 : decode cX3_watch 49 = .ok (.iload 7, 2) := by decide +kernel
theorem dX3_watch_51 : decode cX3_watch 51 = .ok (.invokestatic 57, 3) := by decide +kernel
theorem dX3_watch_54 : decode cX3_watch 54 = .ok (.ifCond .eq 19, 3) := by decide +kernel
theorem dX3_watch_57 : decode cX3_watch 57 = .ok (.aload_n 0, 1) := by decide +kernel
theorem dX3_watch_58 : decode cX3_watch 58 = .ok (.getfield 30, 3) := by decide +kernel
theorem dX3_watch_61 : decode cX3_watch 61 = .ok (.iload_n 1, 1) := by decide +kernel
theorem dX3_watch_62 : decode cX3_watch 62 = .ok (.bipush 12, 2) := by decide +kernel
theorem dX3_watch_64 : decode cX3_watch 64 = .ok (.imul, 1) := by decide +kernel
theorem dX3_watch_65 : decode cX3_watch 65 = .ok (.iload 7, 2) := by decide +kernel
theorem dX3_watch_67 : decode cX3_watch 67 = .ok (.iadd, 1) := by decide +kernel
theorem dX3_watch_68 : decode cX3_watch 68 = .ok (.iload_n 2, 1) := by decide +kernel
theorem dX3_watch_69 : decode cX3_watch 69 = .ok (.iload 5, 2) := by decide +kernel
theorem dX3_watch_71 : decode cX3_watch 71 = .ok (.iadd, 1) := by decide +kernel
theorem dX3_watch_72 : decode cX3_watch 72 = .ok (.iastore, 1) := by decide +kernel
theorem dX3_watch_73 : decode cX3_watch 73 = .ok (.iinc 7 1, 3) := by decide +kernel
theorem dX3_watch_76 : decode cX3_watch 76 = .ok (.goto (-36), 3) := by decide +kernel
theorem dX3_watch_79 : decode cX3_watch 79 = .ok (.iinc 5 1, 3) := by decide +kernel
theorem dX3_watch_82 : decode cX3_watch 82 = .ok (.goto (-65), 3) := by decide +kernel
theorem dX3_watch_85 : decode cX3_watch 85 = .ok (.return_, 1) := by decide +kernel
theorem dX3_features_0 : decode cX3_features 0 = .ok (.iconst 0, 1) := by decide +kernel
theorem dX3_features_1 : decode cX3_features 1 = .ok (.istore_n 2, 1) := by decide +kernel
theorem dX3_features_2 : decode cX3_features 2 = .ok (.iload_n 1, 1) := by decide +kernel
theorem dX3_features_3 : decode cX3_features 3 = .ok (.ineg, 1) := by decide +kernel
theorem dX3_features_4 : decode cX3_features 4 = .ok (.istore_n 3, 1) := by decide +kernel
theorem dX3_features_5 : decode cX3_features 5 = .ok (.iload_n 3, 1) := by decide +kernel
theorem dX3_features_6 : decode cX3_features 6 = .ok (.iload_n 1, 1) := by decide +kernel
theorem dX3_features_7 : decode cX3_features 7 = .ok (.if_icmp .gt 23, 3) := by decide +kernel
theorem dX3_features_10 : decode cX3_features 10 = .ok (.iload_n 2, 1) := by decide +kernel
theorem dX3_features_11 : decode cX3_features 11 = .ok (.iconst 1, 1) := by decide +kernel
theorem dX3_features_12 : decode cX3_features 12 = .ok (.iload_n 0, 1) := by decide +kernel
theorem dX3_features_13 : decode cX3_features 13 = .ok (.iload_n 3, 1) := by decide +kernel
theorem dX3_features_14 : decode cX3_features 14 = .ok (.iadd, 1) := by decide +kernel
theorem dX3_features_15 : decode cX3_features 15 = .ok (.bipush 12, 2) := by decide +kernel
theorem dX3_features_17 : decode cX3_features 17 = .ok (.iadd, 1) := by decide +kernel
theorem dX3_features_18 : decode cX3_features 18 = .ok (.bipush 12, 2) := by decide +kernel
theorem dX3_features_20 : decode cX3_features 20 = .ok (.irem, 1) := by decide +kernel
theorem dX3_features_21 : decode cX3_features 21 = .ok (.ishl, 1) := by decide +kernel
theorem dX3_features_22 : decode cX3_features 22 = .ok (.ior, 1) := by decide +kernel
theorem dX3_features_23 : decode cX3_features 23 = .ok (.istore_n 2, 1) := by decide +kernel
theorem dX3_features_24 : decode cX3_features 24 = .ok (.iinc 3 1, 3) := by decide +kernel
theorem dX3_features_27 : decode cX3_features 27 = .ok (.goto (-22), 3) := by decide +kernel
theorem dX3_features_30 : decode cX3_features 30 = .ok (.iload_n 2, 1) := by decide +kernel
theorem dX3_features_31 : decode cX3_features 31 = .ok (.ireturn, 1) := by decide +kernel
theorem dX3_turnAll_0 : decode cX3_turnAll 0 = .ok (.iconst 0, 1) := by decide +kernel
theorem dX3_turnAll_1 : decode cX3_turnAll 1 = .ok (.istore_n 2, 1) := by decide +kernel
theorem dX3_turnAll_2 : decode cX3_turnAll 2 = .ok (.iload_n 2, 1) := by decide +kernel
theorem dX3_turnAll_3 : decode cX3_turnAll 3 = .ok (.aload_n 0, 1) := by decide +kernel
theorem dX3_turnAll_4 : decode cX3_turnAll 4 = .ok (.getfield 33, 3) := by decide +kernel
theorem dX3_turnAll_7 : decode cX3_turnAll 7 = .ok (.if_icmp .ge 21, 3) := by decide +kernel
theorem dX3_turnAll_10 : decode cX3_turnAll 10 = .ok (.aload_n 0, 1) := by decide +kernel
theorem dX3_turnAll_11 : decode cX3_turnAll 11 = .ok (.getfield 18, 3) := by decide +kernel
theorem dX3_turnAll_14 : decode cX3_turnAll 14 = .ok (.iload_n 2, 1) := by decide +kernel
theorem dX3_turnAll_15 : decode cX3_turnAll 15 = .ok (.aload_n 0, 1) := by decide +kernel
theorem dX3_turnAll_16 : decode cX3_turnAll 16 = .ok (.iload_n 2, 1) := by decide +kernel
theorem dX3_turnAll_17 : decode cX3_turnAll 17 = .ok (.iload_n 1, 1) := by decide +kernel
theorem dX3_turnAll_18 : decode cX3_turnAll 18 = .ok (.invokevirtual 41, 3) := by decide +kernel
theorem dX3_turnAll_21 : decode cX3_turnAll 21 = .ok (.iastore, 1) := by decide +kernel
theorem dX3_turnAll_22 : decode cX3_turnAll 22 = .ok (.iinc 2 1, 3) := by decide +kernel
theorem dX3_turnAll_25 : decode cX3_turnAll 25 = .ok (.goto (-23), 3) := by decide +kernel
theorem dX3_turnAll_28 : decode cX3_turnAll 28 = .ok (.return_, 1) := by decide +kernel
theorem dX3_rememberedSince_0 : decode cX3_rememberedSince 0 = .ok (.iconst 0, 1) := by decide +kernel
theorem dX3_rememberedSince_1 : decode cX3_rememberedSince 1 = .ok (.istore_n 3, 1) := by decide +kernel
theorem dX3_rememberedSince_2 : decode cX3_rememberedSince 2 = .ok (.iconst 0, 1) := by decide +kernel
theorem dX3_rememberedSince_3 : decode cX3_rememberedSince 3 = .ok (.istore 4, 2) := by decide +kernel
theorem dX3_rememberedSince_5 : decode cX3_rememberedSince 5 = .ok (.iload 4, 2) := by decide +kernel
theorem dX3_rememberedSince_7 : decode cX3_rememberedSince 7 = .ok (.bipush 12, 2) := by decide +kernel
theorem dX3_rememberedSince_9 : decode cX3_rememberedSince 9 = .ok (.if_icmp .ge 42, 3) := by decide +kernel
theorem dX3_rememberedSince_12 : decode cX3_rememberedSince 12 = .ok (.aload_n 0, 1) := by decide +kernel
theorem dX3_rememberedSince_13 : decode cX3_rememberedSince 13 = .ok (.getfield 30, 3) := by decide +kernel
theorem dX3_rememberedSince_16 : decode cX3_rememberedSince 16 = .ok (.iload_n 1, 1) := by decide +kernel
theorem dX3_rememberedSince_17 : decode cX3_rememberedSince 17 = .ok (.bipush 12, 2) := by decide +kernel
theorem dX3_rememberedSince_19 : decode cX3_rememberedSince 19 = .ok (.imul, 1) := by decide +kernel
theorem dX3_rememberedSince_20 : decode cX3_rememberedSince 20 = .ok (.iload 4, 2) := by decide +kernel
theorem dX3_rememberedSince_22 : decode cX3_rememberedSince 22 = .ok (.iadd, 1) := by decide +kernel
theorem dX3_rememberedSince_23 : decode cX3_rememberedSince 23 = .ok (.iaload, 1) := by decide +kernel
theorem dX3_rememberedSince_24 : decode cX3_rememberedSince 24 = .ok (.istore 5, 2) := by decide +kernel
theorem dX3_rememberedSince_26 : decode cX3_rememberedSince 26 = .ok (.iload 5, 2) := by decide +kernel
theorem dX3_rememberedSince_28 : decode cX3_rememberedSince 28 = .ok (.iconst (-1), 1) := by decide +kernel
theorem dX3_rememberedSince_29 : decode cX3_rememberedSince 29 = .ok (.if_icmp .eq 16, 3) := by decide +kernel
theorem dX3_rememberedSince_32 : decode cX3_rememberedSince 32 = .ok (.iload 5, 2) := by decide +kernel
theorem dX3_rememberedSince_34 : decode cX3_rememberedSince 34 = .ok (.iload_n 2, 1) := by decide +kernel
theorem dX3_rememberedSince_35 : decode cX3_rememberedSince 35 = .ok (.if_icmp .lt 10, 3) := by decide +kernel
theorem dX3_rememberedSince_38 : decode cX3_rememberedSince 38 = .ok (.iload_n 3, 1) := by decide +kernel
theorem dX3_rememberedSince_39 : decode cX3_rememberedSince 39 = .ok (.iconst 1, 1) := by decide +kernel
theorem dX3_rememberedSince_40 : decode cX3_rememberedSince 40 = .ok (.iload 4, 2) := by decide +kernel
theorem dX3_rememberedSince_42 : decode cX3_rememberedSince 42 = .ok (.ishl, 1) := by decide +kernel
theorem dX3_rememberedSince_43 : decode cX3_rememberedSince 43 = .ok (.ior, 1) := by decide +kernel
theorem dX3_rememberedSince_44 : decode cX3_rememberedSince 44 = .ok (.istore_n 3, 1) := by decide +kernel
theorem dX3_rememberedSince_45 : decode cX3_rememberedSince 45 = .ok (.iinc 4 1, 3) := by decide +kernel
theorem dX3_rememberedSince_48 : decode cX3_rememberedSince 48 = .ok (.goto (-43), 3) := by decide +kernel
theorem dX3_rememberedSince_51 : decode cX3_rememberedSince 51 = .ok (.iload_n 3, 1) := by decide +kernel
theorem dX3_rememberedSince_52 : decode cX3_rememberedSince 52 = .ok (.ireturn, 1) := by decide +kernel
theorem dX4_init_0 : decode cX4_init 0 = .ok (.aload_n 0, 1) := by decide +kernel
theorem dX4_init_1 : decode cX4_init 1 = .ok (.invokespecial 3, 3) := by decide +kernel
theorem dX4_init_4 : decode cX4_init 4 = .ok (.return_, 1) := by decide +kernel
theorem dX4_run_0 : decode cX4_run 0 = .ok (.aload_n 0, 1) := by decide +kernel
theorem dX4_run_1 : decode cX4_run 1 = .ok (.iconst 0, 1) := by decide +kernel
theorem dX4_run_2 : decode cX4_run 2 = .ok (.putfield 9, 3) := by decide +kernel
theorem dX4_run_5 : decode cX4_run 5 = .ok (.aload_n 0, 1) := by decide +kernel
theorem dX4_run_6 : decode cX4_run 6 = .ok (.iconst (-1), 1) := by decide +kernel
theorem dX4_run_7 : decode cX4_run 7 = .ok (.putfield 15, 3) := by decide +kernel
theorem dX4_run_10 : decode cX4_run 10 = .ok (.iconst 0, 1) := by decide +kernel
theorem dX4_run_11 : decode cX4_run 11 = .ok (.istore_n 3, 1) := by decide +kernel
theorem dX4_run_12 : decode cX4_run 12 = .ok (.aload_n 0, 1) := by decide +kernel
theorem dX4_run_13 : decode cX4_run 13 = .ok (.getfield 9, 3) := by decide +kernel
theorem dX4_run_16 : decode cX4_run 16 = .ok (.bipush 60, 2) := by decide +kernel
theorem dX4_run_18 : decode cX4_run 18 = .ok (.if_icmp .ge 82, 3) := by decide +kernel
theorem dX4_run_21 : decode cX4_run 21 = .ok (.iload_n 3, 1) := by decide +kernel
theorem dX4_run_22 : decode cX4_run 22 = .ok (.aload_n 1, 1) := by decide +kernel
theorem dX4_run_23 : decode cX4_run 23 = .ok (.getfield 18, 3) := by decide +kernel
theorem dX4_run_26 : decode cX4_run 26 = .ok (.if_icmp .ge 74, 3) := by decide +kernel
theorem dX4_run_29 : decode cX4_run 29 = .ok (.aload_n 1, 1) := by decide +kernel
theorem dX4_run_30 : decode cX4_run 30 = .ok (.iload_n 3, 1) := by decide +kernel
theorem dX4_run_31 : decode cX4_run 31 = .ok (.invokevirtual 23, 3) := by decide +kernel
theorem dX4_run_34 : decode cX4_run 34 = .ok (.ifCond .ne 16, 3) := by decide +kernel
theorem dX4_run_37 : decode cX4_run 37 = .ok (.aload_n 0, 1) := by decide +kernel
theorem dX4_run_38 : decode cX4_run 38 = .ok (.iload_n 3, 1) := by decide +kernel
theorem dX4_run_39 : decode cX4_run 39 = .ok (.iconst 1, 1) := by decide +kernel
theorem dX4_run_40 : decode cX4_run 40 = .ok (.aload_n 1, 1) := by decide +kernel
theorem dX4_run_41 : decode cX4_run 41 = .ok (.getfield 27, 3) := by decide +kernel
theorem dX4_run_44 : decode cX4_run 44 = .ok (.iload_n 3, 1) := by decide +kernel
theorem dX4_run_45 : decode cX4_run 45 = .ok (.isub, 1) := by decide +kernel
theorem dX4_run_46 : decode cX4_run 46 = .ok (.invokevirtual 30, 3) := by decide +kernel
theorem dX4_run_49 : decode cX4_run 49 = .ok (.return_, 1) := by decide +kernel
theorem dX4_run_50 : decode cX4_run 50 = .ok (.aload_n 2, 1) := by decide +kernel
theorem dX4_run_51 : decode cX4_run 51 = .ok (.aload_n 1, 1) := by decide +kernel
theorem dX4_run_52 : decode cX4_run 52 = .ok (.getfield 34, 3) := by decide +kernel
theorem dX4_run_55 : decode cX4_run 55 = .ok (.aload_n 1, 1) := by decide +kernel
theorem dX4_run_56 : decode cX4_run 56 = .ok (.getfield 38, 3) := by decide +kernel
theorem dX4_run_59 : decode cX4_run 59 = .ok (.aload_n 1, 1) := by decide +kernel
theorem dX4_run_60 : decode cX4_run 60 = .ok (.getfield 41, 3) := by decide +kernel
theorem dX4_run_63 : decode cX4_run 63 = .ok (.invokevirtual 44, 3) := by decide +kernel
theorem dX4_run_66 : decode cX4_run 66 = .ok (.istore 4, 2) := by decide +kernel
theorem dX4_run_68 : decode cX4_run 68 = .ok (.iload 4, 2) := by decide +kernel
theorem dX4_run_70 : decode cX4_run 70 = .ok (.ifCond .ge 12, 3) := by decide +kernel
theorem dX4_run_73 : decode cX4_run 73 = .ok (.aload_n 0, 1) := by decide +kernel
theorem dX4_run_74 : decode cX4_run 74 = .ok (.iload_n 3, 1) := by decide +kernel
theorem dX4_run_75 : decode cX4_run 75 = .ok (.iconst 2, 1) := by decide +kernel
theorem dX4_run_76 : decode cX4_run 76 = .ok (.iload 4, 2) := by decide +kernel
theorem dX4_run_78 : decode cX4_run 78 = .ok (.invokevirtual 30, 3) := by decide +kernel
theorem dX4_run_81 : decode cX4_run 81 = .ok (.return_, 1) := by decide +kernel
theorem dX4_run_82 : decode cX4_run 82 = .ok (.aload_n 1, 1) := by decide +kernel
theorem dX4_run_83 : decode cX4_run 83 = .ok (.getfield 27, 3) := by decide +kernel
theorem dX4_run_86 : decode cX4_run 86 = .ok (.istore_n 3, 1) := by decide +kernel
theorem dX4_run_87 : decode cX4_run 87 = .ok (.aload_n 0, 1) := by decide +kernel
theorem dX4_run_88 : decode cX4_run 88 = .ok (.dup, 1) := by decide +kernel
theorem dX4_run_89 : decode cX4_run 89 = .ok (.getfield 9, 3) := by decide +kernel
theorem dX4_run_92 : decode cX4_run 92 = .ok (.iconst 1, 1) := by decide +kernel
theorem dX4_run_93 : decode cX4_run 93 = .ok (.iadd, 1) := by decide +kernel
theorem dX4_run_94 : decode cX4_run 94 = .ok (.putfield 9, 3) := by decide +kernel
theorem dX4_run_97 : decode cX4_run 97 = .ok (.goto (-85), 3) := by decide +kernel
theorem dX4_run_100 : decode cX4_run 100 = .ok (.return_, 1) := by decide +kernel
theorem dX4_fail_0 : decode cX4_fail 0 = .ok (.aload_n 0, 1) := by decide +kernel
theorem dX4_fail_1 : decode cX4_fail 1 = .ok (.iload_n 1, 1) := by decide +kernel
theorem dX4_fail_2 : decode cX4_fail 2 = .ok (.putfield 15, 3) := by decide +kernel
theorem dX4_fail_5 : decode cX4_fail 5 = .ok (.aload_n 0, 1) := by decide +kernel
theorem dX4_fail_6 : decode cX4_fail 6 = .ok (.iload_n 2, 1) := by decide +kernel
theorem dX4_fail_7 : decode cX4_fail 7 = .ok (.putfield 50, 3) := by decide +kernel
theorem dX4_fail_10 : decode cX4_fail 10 = .ok (.aload_n 0, 1) := by decide +kernel
theorem dX4_fail_11 : decode cX4_fail 11 = .ok (.iload_n 3, 1) := by decide +kernel
theorem dX4_fail_12 : decode cX4_fail 12 = .ok (.putfield 53, 3) := by decide +kernel
theorem dX4_fail_15 : decode cX4_fail 15 = .ok (.return_, 1) := by decide +kernel
theorem dX5_init_0 : decode cX5_init 0 = .ok (.aload_n 0, 1) := by decide +kernel
theorem dX5_init_1 : decode cX5_init 1 = .ok (.invokespecial 1, 3) := by decide +kernel
theorem dX5_init_4 : decode cX5_init 4 = .ok (.return_, 1) := by decide +kernel
theorem dX6_init_0 : decode cX6_init 0 = .ok (.aload_n 0, 1) := by decide +kernel
theorem dX6_init_1 : decode cX6_init 1 = .ok (.invokespecial 3, 3) := by decide +kernel
theorem dX6_init_4 : decode cX6_init 4 = .ok (.aload_n 0, 1) := by decide +kernel
theorem dX6_init_5 : decode cX6_init 5 = .ok (.bipush 10, 2) := by decide +kernel
theorem dX6_init_7 : decode cX6_init 7 = .ok (.newarray .int, 2) := by decide +kernel
theorem dX6_init_9 : decode cX6_init 9 = .ok (.putfield 9, 3) := by decide +kernel
theorem dX6_init_12 : decode cX6_init 12 = .ok (.aload_n 0, 1) := by decide +kernel
theorem dX6_init_13 : decode cX6_init 13 = .ok (.bipush 10, 2) := by decide +kernel
theorem dX6_init_15 : decode cX6_init 15 = .ok (.newarray .int, 2) := by decide +kernel
theorem dX6_init_17 : decode cX6_init 17 = .ok (.putfield 15, 3) := by decide +kernel
theorem dX6_init_20 : decode cX6_init 20 = .ok (.aload_n 0, 1) := by decide +kernel
theorem dX6_init_21 : decode cX6_init 21 = .ok (.bipush 10, 2) := by decide +kernel
theorem dX6_init_23 : decode cX6_init 23 = .ok (.newarray .int, 2) := by decide +kernel
theorem dX6_init_25 : decode cX6_init 25 = .ok (.putfield 18, 3) := by decide +kernel
theorem dX6_init_28 : decode cX6_init 28 = .ok (.aload_n 0, 1) := by decide +kernel
theorem dX6_init_29 : decode cX6_init 29 = .ok (.bipush 10, 2) := by decide +kernel
theorem dX6_init_31 : decode cX6_init 31 = .ok (.newarray .int, 2) := by decide +kernel
theorem dX6_init_33 : decode cX6_init 33 = .ok (.putfield 21, 3) := by decide +kernel
theorem dX6_init_36 : decode cX6_init 36 = .ok (.return_, 1) := by decide +kernel
theorem dX6_copyFrom_0 : decode cX6_copyFrom 0 = .ok (.aload_n 0, 1) := by decide +kernel
theorem dX6_copyFrom_1 : decode cX6_copyFrom 1 = .ok (.aload_n 1, 1) := by decide +kernel
theorem dX6_copyFrom_2 : decode cX6_copyFrom 2 = .ok (.getfield 24, 3) := by decide +kernel
theorem dX6_copyFrom_5 : decode cX6_copyFrom 5 = .ok (.putfield 24, 3) := by decide +kernel
theorem dX6_copyFrom_8 : decode cX6_copyFrom 8 = .ok (.aload_n 0, 1) := by decide +kernel
theorem dX6_copyFrom_9 : decode cX6_copyFrom 9 = .ok (.aload_n 1, 1) := by decide +kernel
theorem dX6_copyFrom_10 : decode cX6_copyFrom 10 = .ok (.getfield 28, 3) := by decide +kernel
theorem dX6_copyFrom_13 : decode cX6_copyFrom 13 = .ok (.putfield 28, 3) := by decide +kernel
theorem dX6_copyFrom_16 : decode cX6_copyFrom 16 = .ok (.aload_n 1, 1) := by decide +kernel
theorem dX6_copyFrom_17 : decode cX6_copyFrom 17 = .ok (.getfield 9, 3) := by decide +kernel
theorem dX6_copyFrom_20 : decode cX6_copyFrom 20 = .ok (.aload_n 0, 1) := by decide +kernel
theorem dX6_copyFrom_21 : decode cX6_copyFrom 21 = .ok (.getfield 9, 3) := by decide +kernel
theorem dX6_copyFrom_24 : decode cX6_copyFrom 24 = .ok (.invokestatic 31, 3) := by decide +kernel
theorem dX6_copyFrom_27 : decode cX6_copyFrom 27 = .ok (.aload_n 1, 1) := by decide +kernel
theorem dX6_copyFrom_28 : decode cX6_copyFrom 28 = .ok (.getfield 15, 3) := by decide +kernel
theorem dX6_copyFrom_31 : decode cX6_copyFrom 31 = .ok (.aload_n 0, 1) := by decide +kernel
theorem dX6_copyFrom_32 : decode cX6_copyFrom 32 = .ok (.getfield 15, 3) := by decide +kernel
theorem dX6_copyFrom_35 : decode cX6_copyFrom 35 = .ok (.invokestatic 31, 3) := by decide +kernel
theorem dX6_copyFrom_38 : decode cX6_copyFrom 38 = .ok (.aload_n 1, 1) := by decide +kernel
theorem dX6_copyFrom_39 : decode cX6_copyFrom 39 = .ok (.getfield 18, 3) := by decide +kernel
theorem dX6_copyFrom_42 : decode cX6_copyFrom 42 = .ok (.aload_n 0, 1) := by decide +kernel
theorem dX6_copyFrom_43 : decode cX6_copyFrom 43 = .ok (.getfield 18, 3) := by decide +kernel
theorem dX6_copyFrom_46 : decode cX6_copyFrom 46 = .ok (.invokestatic 31, 3) := by decide +kernel
theorem dX6_copyFrom_49 : decode cX6_copyFrom 49 = .ok (.aload_n 1, 1) := by decide +kernel
theorem dX6_copyFrom_50 : decode cX6_copyFrom 50 = .ok (.getfield 21, 3) := by decide +kernel
theorem dX6_copyFrom_53 : decode cX6_copyFrom 53 = .ok (.aload_n 0, 1) := by decide +kernel
theorem dX6_copyFrom_54 : decode cX6_copyFrom 54 = .ok (.getfield 21, 3) := by decide +kernel
theorem dX6_copyFrom_57 : decode cX6_copyFrom 57 = .ok (.invokestatic 31, 3) := by decide +kernel
theorem dX6_copyFrom_60 : decode cX6_copyFrom 60 = .ok (.return_, 1) := by decide +kernel
theorem dX6_placeOf_0 : decode cX6_placeOf 0 = .ok (.iconst 0, 1) := by decide +kernel
theorem dX6_placeOf_1 : decode cX6_placeOf 1 = .ok (.istore_n 2, 1) := by decide +kernel
theorem dX6_placeOf_2 : decode cX6_placeOf 2 = .ok (.iload_n 2, 1) := by decide +kernel
theorem dX6_placeOf_3 : decode cX6_placeOf 3 = .ok (.aload_n 0, 1) := by decide +kernel
theorem dX6_placeOf_4 : decode cX6_placeOf 4 = .ok (.getfield 24, 3) := by decide +kernel
theorem dX6_placeOf_7 : decode cX6_placeOf 7 = .ok (.if_icmp .ge 21, 3) := by decide +kernel
theorem dX6_placeOf_10 : decode cX6_placeOf 10 = .ok (.aload_n 0, 1) := by decide +kernel
theorem dX6_placeOf_11 : decode cX6_placeOf 11 = .ok (.getfield 9, 3) := by decide +kernel
theorem dX6_placeOf_14 : decode cX6_placeOf 14 = .ok (.iload_n 2, 1) := by decide +kernel
theorem dX6_placeOf_15 : decode cX6_placeOf 15 = .ok (.iaload, 1) := by decide +kernel
theorem dX6_placeOf_16 : decode cX6_placeOf 16 = .ok (.iload_n 1, 1) := by decide +kernel
theorem dX6_placeOf_17 : decode cX6_placeOf 17 = .ok (.if_icmp .ne 5, 3) := by decide +kernel
theorem dX6_placeOf_20 : decode cX6_placeOf 20 = .ok (.iload_n 2, 1) := by decide +kernel
theorem dX6_placeOf_21 : decode cX6_placeOf 21 = .ok (.ireturn, 1) := by decide +kernel
theorem dX6_placeOf_22 : decode cX6_placeOf 22 = .ok (.iinc 2 1, 3) := by decide +kernel
theorem dX6_placeOf_25 : decode cX6_placeOf 25 = .ok (.goto (-23), 3) := by decide +kernel
theorem dX6_placeOf_28 : decode cX6_placeOf 28 = .ok (.iconst (-1), 1) := by decide +kernel
theorem dX6_placeOf_29 : decode cX6_placeOf 29 = .ok (.ireturn, 1) := by decide +kernel
theorem dX6_ofPerson_0 : decode cX6_ofPerson 0 = .ok (.iconst 0, 1) := by decide +kernel
theorem dX6_ofPerson_1 : decode cX6_ofPerson 1 = .ok (.istore_n 2, 1) := by decide +kernel
theorem dX6_ofPerson_2 : decode cX6_ofPerson 2 = .ok (.iconst 0, 1) := by decide +kernel
theorem dX6_ofPerson_3 : decode cX6_ofPerson 3 = .ok (.istore_n 3, 1) := by decide +kernel
theorem dX6_ofPerson_4 : decode cX6_ofPerson 4 = .ok (.iload_n 3, 1) := by decide +kernel
theorem dX6_ofPerson_5 : decode cX6_ofPerson 5 = .ok (.aload_n 0, 1) := by decide +kernel
theorem dX6_ofPerson_6 : decode cX6_ofPerson 6 = .ok (.getfield 24, 3) := by decide +kernel
theorem dX6_ofPerson_9 : decode cX6_ofPerson 9 = .ok (.if_icmp .ge 22, 3) := by decide +kernel
theorem dX6_ofPerson_12 : decode cX6_ofPerson 12 = .ok (.aload_n 0, 1) := by decide +kernel
theorem dX6_ofPerson_13 : decode cX6_ofPerson 13 = .ok (.getfield 15, 3) := by decide +kernel
theorem dX6_ofPerson_16 : decode cX6_ofPerson 16 = .ok (.iload_n 3, 1) := by decide +kernel
theorem dX6_ofPerson_17 : decode cX6_ofPerson 17 = .ok (.iaload, 1) := by decide +kernel
theorem dX6_ofPerson_18 : decode cX6_ofPerson 18 = .ok (.iload_n 1, 1) := by decide +kernel
theorem dX6_ofPerson_19 : decode cX6_ofPerson 19 = .ok (.if_icmp .ne 6, 3) := by decide +kernel
theorem dX6_ofPerson_22 : decode cX6_ofPerson 22 = .ok (.iinc 2 1, 3) := by decide +kernel
theorem dX6_ofPerson_25 : decode cX6_ofPerson 25 = .ok (.iinc 3 1, 3) := by decide +kernel
theorem dX6_ofPerson_28 : decode cX6_ofPerson 28 = .ok (.goto (-24), 3) := by decide +kernel
theorem dX6_ofPerson_31 : decode cX6_ofPerson 31 = .ok (.iload_n 2, 1) := by decide +kernel
theorem dX6_ofPerson_32 : decode cX6_ofPerson 32 = .ok (.ireturn, 1) := by decide +kernel
theorem dX6_add_0 : decode cX6_add 0 = .ok (.aload_n 0, 1) := by decide +kernel
theorem dX6_add_1 : decode cX6_add 1 = .ok (.getfield 9, 3) := by decide +kernel
theorem dX6_add_4 : decode cX6_add 4 = .ok (.aload_n 0, 1) := by decide +kernel
theorem dX6_add_5 : decode cX6_add 5 = .ok (.getfield 24, 3) := by decide +kernel
theorem dX6_add_8 : decode cX6_add 8 = .ok (.aload_n 0, 1) := by decide +kernel
theorem dX6_add_9 : decode cX6_add 9 = .ok (.getfield 28, 3) := by decide +kernel
theorem dX6_add_12 : decode cX6_add 12 = .ok (.iastore, 1) := by decide +kernel
theorem dX6_add_13 : decode cX6_add 13 = .ok (.aload_n 0, 1) := by decide +kernel
theorem dX6_add_14 : decode cX6_add 14 = .ok (.getfield 15, 3) := by decide +kernel
theorem dX6_add_17 : decode cX6_add 17 = .ok (.aload_n 0, 1) := by decide +kernel
theorem dX6_add_18 : decode cX6_add 18 = .ok (.getfield 24, 3) := by decide +kernel
theorem dX6_add_21 : decode cX6_add 21 = .ok (.iload_n 1, 1) := by decide +kernel
theorem dX6_add_22 : decode cX6_add 22 = .ok (.iastore, 1) := by decide +kernel
theorem dX6_add_23 : decode cX6_add 23 = .ok (.aload_n 0, 1) := by decide +kernel
theorem dX6_add_24 : decode cX6_add 24 = .ok (.getfield 18, 3) := by decide +kernel
theorem dX6_add_27 : decode cX6_add 27 = .ok (.aload_n 0, 1) := by decide +kernel
theorem dX6_add_28 : decode cX6_add 28 = .ok (.getfield 24, 3) := by decide +kernel
theorem dX6_add_31 : decode cX6_add 31 = .ok (.iconst 0, 1) := by decide +kernel
theorem dX6_add_32 : decode cX6_add 32 = .ok (.iastore, 1) := by decide +kernel
theorem dX6_add_33 : decode cX6_add 33 = .ok (.aload_n 0, 1) := by decide +kernel
theorem dX6_add_34 : decode cX6_add 34 = .ok (.getfield 21, 3) := by decide +kernel
theorem dX6_add_37 : decode cX6_add 37 = .ok (.aload_n 0, 1) := by decide +kernel
theorem dX6_add_38 : decode cX6_add 38 = .ok (.getfield 24, 3) := by decide +kernel
theorem dX6_add_41 : decode cX6_add 41 = .ok (.iconst 0, 1) := by decide +kernel
theorem dX6_add_42 : decode cX6_add 42 = .ok (.iastore, 1) := by decide +kernel
theorem dX6_add_43 : decode cX6_add 43 = .ok (.aload_n 0, 1) := by decide +kernel
theorem dX6_add_44 : decode cX6_add 44 = .ok (.dup, 1) := by decide +kernel
theorem dX6_add_45 : decode cX6_add 45 = .ok (.getfield 24, 3) := by decide +kernel
theorem dX6_add_48 : decode cX6_add 48 = .ok (.iconst 1, 1) := by decide +kernel
theorem dX6_add_49 : decode cX6_add 49 = .ok (.iadd, 1) := by decide +kernel
theorem dX6_add_50 : decode cX6_add 50 = .ok (.putfield 24, 3) := by decide +kernel
theorem dX6_add_53 : decode cX6_add 53 = .ok (.aload_n 0, 1) := by decide +kernel
theorem dX6_add_54 : decode cX6_add 54 = .ok (.dup, 1) := by decide +kernel
theorem dX6_add_55 : decode cX6_add 55 = .ok (.getfield 28, 3) := by decide +kernel
theorem dX6_add_58 : decode cX6_add 58 = .ok (.iconst 1, 1) := by decide +kernel
theorem dX6_add_59 : decode cX6_add 59 = .ok (.iadd, 1) := by decide +kernel
theorem dX6_add_60 : decode cX6_add 60 = .ok (.putfield 28, 3) := by decide +kernel
theorem dX6_add_63 : decode cX6_add 63 = .ok (.aload_n 0, 1) := by decide +kernel
theorem dX6_add_64 : decode cX6_add 64 = .ok (.getfield 28, 3) := by decide +kernel
theorem dX6_add_67 : decode cX6_add 67 = .ok (.iconst 1, 1) := by decide +kernel
theorem dX6_add_68 : decode cX6_add 68 = .ok (.isub, 1) := by decide +kernel
theorem dX6_add_69 : decode cX6_add 69 = .ok (.ireturn, 1) := by decide +kernel
theorem dX6_removeAt_0 : decode cX6_removeAt 0 = .ok (.iload_n 1, 1) := by decide +kernel
theorem dX6_removeAt_1 : decode cX6_removeAt 1 = .ok (.istore_n 2, 1) := by decide +kernel
theorem dX6_removeAt_2 : decode cX6_removeAt 2 = .ok (.iload_n 2, 1) := by decide +kernel
theorem dX6_removeAt_3 : decode cX6_removeAt 3 = .ok (.iconst 1, 1) := by decide +kernel
theorem dX6_removeAt_4 : decode cX6_removeAt 4 = .ok (.iadd, 1) := by decide +kernel
theorem dX6_removeAt_5 : decode cX6_removeAt 5 = .ok (.aload_n 0, 1) := by decide +kernel
theorem dX6_removeAt_6 : decode cX6_removeAt 6 = .ok (.getfield 24, 3) := by decide +kernel
theorem dX6_removeAt_9 : decode cX6_removeAt 9 = .ok (.if_icmp .ge 65, 3) := by decide +kernel
theorem dX6_removeAt_12 : decode cX6_removeAt 12 = .ok (.aload_n 0, 1) := by decide +kernel
theorem dX6_removeAt_13 : decode cX6_removeAt 13 = .ok (.getfield 9, 3) := by decide +kernel
theorem dX6_removeAt_16 : decode cX6_removeAt 16 = .ok (.iload_n 2, 1) := by decide +kernel
theorem dX6_removeAt_17 : decode cX6_removeAt 17 = .ok (.aload_n 0, 1) := by decide +kernel
theorem dX6_removeAt_18 : decode cX6_removeAt 18 = .ok (.getfield 9, 3) := by decide +kernel
theorem dX6_removeAt_21 : decode cX6_removeAt 21 = .ok (.iload_n 2, 1) := by decide +kernel
theorem dX6_removeAt_22 : decode cX6_removeAt 22 = .ok (.iconst 1, 1) := by decide +kernel
theorem dX6_removeAt_23 : decode cX6_removeAt 23 = .ok (.iadd, 1) := by decide +kernel
theorem dX6_removeAt_24 : decode cX6_removeAt 24 = .ok (.iaload, 1) := by decide +kernel
theorem dX6_removeAt_25 : decode cX6_removeAt 25 = .ok (.iastore, 1) := by decide +kernel
theorem dX6_removeAt_26 : decode cX6_removeAt 26 = .ok (.aload_n 0, 1) := by decide +kernel
theorem dX6_removeAt_27 : decode cX6_removeAt 27 = .ok (.getfield 15, 3) := by decide +kernel
theorem dX6_removeAt_30 : decode cX6_removeAt 30 = .ok (.iload_n 2, 1) := by decide +kernel
theorem dX6_removeAt_31 : decode cX6_removeAt 31 = .ok (.aload_n 0, 1) := by decide +kernel
theorem dX6_removeAt_32 : decode cX6_removeAt 32 = .ok (.getfield 15, 3) := by decide +kernel
theorem dX6_removeAt_35 : decode cX6_removeAt 35 = .ok (.iload_n 2, 1) := by decide +kernel
theorem dX6_removeAt_36 : decode cX6_removeAt 36 = .ok (.iconst 1, 1) := by decide +kernel
theorem dX6_removeAt_37 : decode cX6_removeAt 37 = .ok (.iadd, 1) := by decide +kernel
theorem dX6_removeAt_38 : decode cX6_removeAt 38 = .ok (.iaload, 1) := by decide +kernel
theorem dX6_removeAt_39 : decode cX6_removeAt 39 = .ok (.iastore, 1) := by decide +kernel
theorem dX6_removeAt_40 : decode cX6_removeAt 40 = .ok (.aload_n 0, 1) := by decide +kernel
theorem dX6_removeAt_41 : decode cX6_removeAt 41 = .ok (.getfield 18, 3) := by decide +kernel
theorem dX6_removeAt_44 : decode cX6_removeAt 44 = .ok (.iload_n 2, 1) := by decide +kernel
theorem dX6_removeAt_45 : decode cX6_removeAt 45 = .ok (.aload_n 0, 1) := by decide +kernel
theorem dX6_removeAt_46 : decode cX6_removeAt 46 = .ok (.getfield 18, 3) := by decide +kernel
theorem dX6_removeAt_49 : decode cX6_removeAt 49 = .ok (.iload_n 2, 1) := by decide +kernel
theorem dX6_removeAt_50 : decode cX6_removeAt 50 = .ok (.iconst 1, 1) := by decide +kernel
theorem dX6_removeAt_51 : decode cX6_removeAt 51 = .ok (.iadd, 1) := by decide +kernel
theorem dX6_removeAt_52 : decode cX6_removeAt 52 = .ok (.iaload, 1) := by decide +kernel
theorem dX6_removeAt_53 : decode cX6_removeAt 53 = .ok (.iastore, 1) := by decide +kernel
theorem dX6_removeAt_54 : decode cX6_removeAt 54 = .ok (.aload_n 0, 1) := by decide +kernel
theorem dX6_removeAt_55 : decode cX6_removeAt 55 = .ok (.getfield 21, 3) := by decide +kernel
theorem dX6_removeAt_58 : decode cX6_removeAt 58 = .ok (.iload_n 2, 1) := by decide +kernel
theorem dX6_removeAt_59 : decode cX6_removeAt 59 = .ok (.aload_n 0, 1) := by decide +kernel
theorem dX6_removeAt_60 : decode cX6_removeAt 60 = .ok (.getfield 21, 3) := by decide +kernel
theorem dX6_removeAt_63 : decode cX6_removeAt 63 = .ok (.iload_n 2, 1) := by decide +kernel
theorem dX6_removeAt_64 : decode cX6_removeAt 64 = .ok (.iconst 1, 1) := by decide +kernel
theorem dX6_removeAt_65 : decode cX6_removeAt 65 = .ok (.iadd, 1) := by decide +kernel
theorem dX6_removeAt_66 : decode cX6_removeAt 66 = .ok (.iaload, 1) := by decide +kernel
theorem dX6_removeAt_67 : decode cX6_removeAt 67 = .ok (.iastore, 1) := by decide +kernel
theorem dX6_removeAt_68 : decode cX6_removeAt 68 = .ok (.iinc 2 1, 3) := by decide +kernel
theorem dX6_removeAt_71 : decode cX6_removeAt 71 = .ok (.goto (-69), 3) := by decide +kernel
theorem dX6_removeAt_74 : decode cX6_removeAt 74 = .ok (.aload_n 0, 1) := by decide +kernel
theorem dX6_removeAt_75 : decode cX6_removeAt 75 = .ok (.dup, 1) := by decide +kernel
theorem dX6_removeAt_76 : decode cX6_removeAt 76 = .ok (.getfield 24, 3) := by decide +kernel
theorem dX6_removeAt_79 : decode cX6_removeAt 79 = .ok (.iconst 1, 1) := by decide +kernel
theorem dX6_removeAt_80 : decode cX6_removeAt 80 = .ok (.isub, 1) := by decide +kernel
theorem dX6_removeAt_81 : decode cX6_removeAt 81 = .ok (.putfield 24, 3) := by decide +kernel
theorem dX6_removeAt_84 : decode cX6_removeAt 84 = .ok (.return_, 1) := by decide +kernel
theorem dX7_init_0 : decode cX7_init 0 = .ok (.aload_n 0, 1) := by decide +kernel
theorem dX7_init_1 : decode cX7_init 1 = .ok (.invokespecial 3, 3) := by decide +kernel
theorem dX7_init_4 : decode cX7_init 4 = .ok (.aload_n 0, 1) := by decide +kernel
theorem dX7_init_5 : decode cX7_init 5 = .ok (.bipush 60, 2) := by decide +kernel
theorem dX7_init_7 : decode cX7_init 7 = .ok (.newarray .char, 2) := by decide +kernel
theorem dX7_init_9 : decode cX7_init 9 = .ok (.putfield 9, 3) := by decide +kernel
theorem dX7_init_12 : decode cX7_init 12 = .ok (.return_, 1) := by decide +kernel
theorem dX7_append_0 : decode cX7_append 0 = .ok (.iload_n 1, 1) := by decide +kernel
theorem dX7_append_1 : decode cX7_append 1 = .ok (.bipush 32, 2) := by decide +kernel
theorem dX7_append_3 : decode cX7_append 3 = .ok (.bipush 126, 2) := by decide +kernel
theorem dX7_append_5 : decode cX7_append 5 = .ok (.invokestatic 15, 3) := by decide +kernel
theorem dX7_append_8 : decode cX7_append 8 = .ok (.ifCond .ne 6, 3) := by decide +kernel
theorem dX7_append_11 : decode cX7_append 11 = .ok (.ldc 19, 2) := by decide +kernel
theorem dX7_append_13 : decode cX7_append 13 = .ok (.ireturn, 1) := by decide +kernel
theorem dX7_append_14 : decode cX7_append 14 = .ok (.aload_n 0, 1) := by decide +kernel
theorem dX7_append_15 : decode cX7_append 15 = .ok (.getfield 20, 3) := by decide +kernel
theorem dX7_append_18 : decode cX7_append 18 = .ok (.bipush 60, 2) := by decide +kernel
theorem dX7_append_20 : decode cX7_append 20 = .ok (.if_icmp .lt 6, 3) := by decide +kernel
theorem dX7_append_23 : decode cX7_append 23 = .ok (.ldc 24, 2) := by decide +kernel
theorem dX7_append_25 : decode cX7_append 25 = .ok (.ireturn, 1) := by decide +kernel
theorem dX7_append_26 : decode cX7_append 26 = .ok (.aload_n 0, 1) := by decide +kernel
theorem dX7_append_27 : decode cX7_append 27 = .ok (.getfield 9, 3) := by decide +kernel
theorem dX7_append_30 : decode cX7_append 30 = .ok (.aload_n 0, 1) := by decide +kernel
theorem dX7_append_31 : decode cX7_append 31 = .ok (.getfield 20, 3) := by decide +kernel
theorem dX7_append_34 : decode cX7_append 34 = .ok (.iload_n 1, 1) := by decide +kernel
theorem dX7_append_35 : decode cX7_append 35 = .ok (.i2c, 1) := by decide +kernel
theorem dX7_append_36 : decode cX7_append 36 = .ok (.castore, 1) := by decide +kernel
theorem dX7_append_37 : decode cX7_append 37 = .ok (.aload_n 0, 1) := by decide +kernel
theorem dX7_append_38 : decode cX7_append 38 = .ok (.dup, 1) := by decide +kernel
theorem dX7_append_39 : decode cX7_append 39 = .ok (.getfield 20, 3) := by decide +kernel
theorem dX7_append_42 : decode cX7_append 42 = .ok (.iconst 1, 1) := by decide +kernel
theorem dX7_append_43 : decode cX7_append 43 = .ok (.iadd, 1) := by decide +kernel
theorem dX7_append_44 : decode cX7_append 44 = .ok (.putfield 20, 3) := by decide +kernel
theorem dX7_append_47 : decode cX7_append 47 = .ok (.aload_n 0, 1) := by decide +kernel
theorem dX7_append_48 : decode cX7_append 48 = .ok (.getfield 20, 3) := by decide +kernel
theorem dX7_append_51 : decode cX7_append 51 = .ok (.ireturn, 1) := by decide +kernel
theorem dX7_readOrder_0 : decode cX7_readOrder 0 = .ok (.aload_n 0, 1) := by decide +kernel
theorem dX7_readOrder_1 : decode cX7_readOrder 1 = .ok (.iload_n 1, 1) := by decide +kernel
theorem dX7_readOrder_2 : decode cX7_readOrder 2 = .ok (.putfield 25, 3) := by decide +kernel
theorem dX7_readOrder_5 : decode cX7_readOrder 5 = .ok (.aload_n 0, 1) := by decide +kernel
theorem dX7_readOrder_6 : decode cX7_readOrder 6 = .ok (.aload_n 0, 1) := by decide +kernel
theorem dX7_readOrder_7 : decode cX7_readOrder 7 = .ok (.invokevirtual 28, 3) := by decide +kernel
theorem dX7_readOrder_10 : decode cX7_readOrder 10 = .ok (.putfield 32, 3) := by decide +kernel
theorem dX7_readOrder_13 : decode cX7_readOrder 13 = .ok (.aload_n 0, 1) := by decide +kernel
theorem dX7_readOrder_14 : decode cX7_readOrder 14 = .ok (.getfield 32, 3) := by decide +kernel
theorem dX7_readOrder_17 : decode cX7_readOrder 17 = .ok (.invokestatic 36, 3) := by decide +kernel
theorem dX7_readOrder_20 : decode cX7_readOrder 20 = .ok (.ifCond .ne 15, 3) := by decide +kernel
theorem dX7_readOrder_23 : decode cX7_readOrder 23 = .ok (.aload_n 0, 1) := by decide +kernel
theorem dX7_readOrder_24 : decode cX7_readOrder 24 = .ok (.getfield 32, 3) := by decide +kernel
theorem dX7_readOrder_27 : decode cX7_readOrder 27 = .ok (.invokestatic 40, 3) := by decide +kernel
theorem dX7_readOrder_30 : decode cX7_readOrder 30 = .ok (.ifCond .ne 5, 3) := by decide +kernel
theorem dX7_readOrder_33 : decode cX7_readOrder 33 = .ok (.iconst 0, 1) := by decide +kernel
theorem dX7_readOrder_34 : decode cX7_readOrder 34 = .ok (.ireturn, 1) := by decide +kernel
theorem dX7_readOrder_35 : decode cX7_readOrder 35 = .ok (.aload_n 0, 1) := by decide +kernel
theorem dX7_readOrder_36 : decode cX7_readOrder 36 = .ok (.dup, 1) := by decide +kernel
theorem dX7_readOrder_37 : decode cX7_readOrder 37 = .ok (.getfield 25, 3) := by decide +kernel
theorem dX7_readOrder_40 : decode cX7_readOrder 40 = .ok (.iconst 1, 1) := by decide +kernel
theorem dX7_readOrder_41 : decode cX7_readOrder 41 = .ok (.iadd, 1) := by decide +kernel
theorem dX7_readOrder_42 : decode cX7_readOrder 42 = .ok (.putfield 25, 3) := by decide +kernel
theorem dX7_readOrder_45 : decode cX7_readOrder 45 = .ok (.aload_n 0, 1) := by decide +kernel
theorem dX7_readOrder_46 : decode cX7_readOrder 46 = .ok (.aload_n 0, 1) := by decide +kernel
theorem dX7_readOrder_47 : decode cX7_readOrder 47 = .ok (.invokevirtual 43, 3) := by decide +kernel
theorem dX7_readOrder_50 : decode cX7_readOrder 50 = .ok (.putfield 47, 3) := by decide +kernel
theorem dX7_readOrder_53 : decode cX7_readOrder 53 = .ok (.aload_n 0, 1) := by decide +kernel
theorem dX7_readOrder_54 : decode cX7_readOrder 54 = .ok (.iconst (-1), 1) := by decide +kernel
theorem dX7_readOrder_55 : decode cX7_readOrder 55 = .ok (.putfield 50, 3) := by decide +kernel
theorem dX7_readOrder_58 : decode cX7_readOrder 58 = .ok (.aload_n 0, 1) := by decide +kernel
theorem dX7_readOrder_59 : decode cX7_readOrder 59 = .ok (.getfield 47, 3) := by decide +kernel
theorem dX7_readOrder_62 : decode cX7_readOrder 62 = .ok (.iconst (-1), 1) := by decide +kernel
theorem dX7_readOrder_63 : decode cX7_readOrder 63 = .ok (.if_icmp .ne 5, 3) := by decide +kernel
theorem dX7_readOrder_66 : decode cX7_readOrder 66 = .ok (.iconst 0, 1) := by decide +kernel
theorem dX7_readOrder_67 : decode cX7_readOrder 67 = .ok (.ireturn, 1) := by decide +kernel
theorem dX7_readOrder_68 : decode cX7_readOrder 68 = .ok (.aload_n 0, 1) := by decide +kernel
theorem dX7_readOrder_69 : decode cX7_readOrder 69 = .ok (.getfield 32, 3) := by decide +kernel
theorem dX7_readOrder_72 : decode cX7_readOrder 72 = .ok (.invokestatic 40, 3) := by decide +kernel
theorem dX7_readOrder_75 : decode cX7_readOrder 75 = .ok (.ifCond .eq 42, 3) := by decide +kernel
theorem dX7_readOrder_78 : decode cX7_readOrder 78 = .ok (.aload_n 0, 1) := by decide +kernel
theorem dX7_readOrder_79 : decode cX7_readOrder 79 = .ok (.invokevirtual 28, 3) := by decide +kernel
theorem dX7_readOrder_82 : decode cX7_readOrder 82 = .ok (.bipush 44, 2) := by decide +kernel
theorem dX7_readOrder_84 : decode cX7_readOrder 84 = .ok (.if_icmp .eq 5, 3) := by decide +kernel
theorem dX7_readOrder_87 : decode cX7_readOrder 87 = .ok (.iconst 0, 1) := by decide +kernel
theorem dX7_readOrder_88 : decode cX7_readOrder 88 = .ok (.ireturn, 1) := by decide +kernel
theorem dX7_readOrder_89 : decode cX7_readOrder 89 = .ok (.aload_n 0, 1) := by decide +kernel
theorem dX7_readOrder_90 : decode cX7_readOrder 90 = .ok (.dup, 1) := by decide +kernel
theorem dX7_readOrder_91 : decode cX7_readOrder 91 = .ok (.getfield 25, 3) := by decide +kernel
theorem dX7_readOrder_94 : decode cX7_readOrder 94 = .ok (.iconst 1, 1) := by decide +kernel
theorem dX7_readOrder_95 : decode cX7_readOrder 95 = .ok (.iadd, 1) := by decide +kernel
theorem dX7_readOrder_96 : decode cX7_readOrder 96 = .ok (.putfield 25, 3) := by decide +kernel
theorem dX7_readOrder_99 : decode cX7_readOrder 99 = .ok (.aload_n 0, 1) := by decide +kernel
theorem dX7_readOrder_100 : decode cX7_readOrder 100 = .ok (.aload_n 0, 1) := by decide +kernel
theorem dX7_readOrder_101 : decode cX7_readOrder 101 = .ok (.invokevirtual 43, 3) := by decide +kernel
theorem dX7_readOrder_104 : decode cX7_readOrder 104 = .ok (.putfield 50, 3) := by decide +kernel
theorem dX7_readOrder_107 : decode cX7_readOrder 107 = .ok (.aload_n 0, 1) := by decide +kernel
theorem dX7_readOrder_108 : decode cX7_readOrder 108 = .ok (.getfield 50, 3) := by decide +kernel
theorem dX7_readOrder_111 : decode cX7_readOrder 111 = .ok (.iconst (-1), 1) := by decide +kernel
theorem dX7_readOrder_112 : decode cX7_readOrder 112 = .ok (.if_icmp .ne 5, 3) := by decide +kernel
theorem dX7_readOrder_115 : decode cX7_readOrder 115 = .ok (.iconst 0, 1) := by decide +kernel
theorem dX7_readOrder_116 : decode cX7_readOrder 116 = .ok (.ireturn, 1) := by decide +kernel
theorem dX7_readOrder_117 : decode cX7_readOrder 117 = .ok (.aload_n 0, 1) := by decide +kernel
theorem dX7_readOrder_118 : decode cX7_readOrder 118 = .ok (.invokevirtual 28, 3) := by decide +kernel
theorem dX7_readOrder_121 : decode cX7_readOrder 121 = .ok (.bipush 59, 2) := by decide +kernel
theorem dX7_readOrder_123 : decode cX7_readOrder 123 = .ok (.if_icmp .eq 5, 3) := by decide +kernel
theorem dX7_readOrder_126 : decode cX7_readOrder 126 = .ok (.iconst 0, 1) := by decide +kernel
theorem dX7_readOrder_127 : decode cX7_readOrder 127 = .ok (.ireturn, 1) := by decide +kernel
theorem dX7_readOrder_128 : decode cX7_readOrder 128 = .ok (.aload_n 0, 1) := by decide +kernel
theorem dX7_readOrder_129 : decode cX7_readOrder 129 = .ok (.dup, 1) := by decide +kernel
theorem dX7_readOrder_130 : decode cX7_readOrder 130 = .ok (.getfield 25, 3) := by decide +kernel
theorem dX7_readOrder_133 : decode cX7_readOrder 133 = .ok (.iconst 1, 1) := by decide +kernel
theorem dX7_readOrder_134 : decode cX7_readOrder 134 = .ok (.iadd, 1) := by decide +kernel
theorem dX7_readOrder_135 : decode cX7_readOrder 135 = .ok (.putfield 25, 3) := by decide +kernel
theorem dX7_readOrder_138 : decode cX7_readOrder 138 = .ok (.iconst 1, 1) := by decide +kernel
theorem dX7_readOrder_139 : decode cX7_readOrder 139 = .ok (.ireturn, 1) := by decide +kernel
theorem dX7_next_0 : decode cX7_next 0 = .ok (.aload_n 0, 1) := by decide +kernel
theorem dX7_next_1 : decode cX7_next 1 = .ok (.getfield 25, 3) := by decide +kernel
theorem dX7_next_4 : decode cX7_next 4 = .ok (.ifCond .lt 26, 3) := by decide +kernel
theorem dX7_next_7 : decode cX7_next 7 = .ok (.aload_n 0, 1) := by decide +kernel
theorem dX7_next_8 : decode cX7_next 8 = .ok (.getfield 25, 3) := by decide +kernel
theorem dX7_next_11 : decode cX7_next 11 = .ok (.aload_n 0, 1) := by decide +kernel
theorem dX7_next_12 : decode cX7_next 12 = .ok (.getfield 20, 3) := by decide +kernel
theorem dX7_next_15 : decode cX7_next 15 = .ok (.if_icmp .ge 15, 3) := by decide +kernel
theorem dX7_next_18 : decode cX7_next 18 = .ok (.aload_n 0, 1) := by decide +kernel
theorem dX7_next_19 : decode cX7_next 19 = .ok (.getfield 9, 3) := by decide +kernel
theorem dX7_next_22 : decode cX7_next 22 = .ok (.aload_n 0, 1) := by decide +kernel
theorem dX7_next_23 : decode cX7_next 23 = .ok (.getfield 25, 3) := by decide +kernel
theorem dX7_next_26 : decode cX7_next 26 = .ok (.caload, 1) := by decide +kernel
theorem dX7_next_27 : decode cX7_next 27 = .ok (.goto 5, 3) := by decide +kernel
theorem dX7_next_30 : decode cX7_next 30 = .ok (.bipush 32, 2) := by decide +kernel
theorem dX7_next_32 : decode cX7_next 32 = .ok (.ireturn, 1) := by decide +kernel
theorem dX7_readNumber_0 : decode cX7_readNumber 0 = .ok (.iconst (-1), 1) := by decide +kernel
theorem dX7_readNumber_1 : decode cX7_readNumber 1 = .ok (.istore_n 1, 1) := by decide +kernel
theorem dX7_readNumber_2 : decode cX7_readNumber 2 = .ok (.iconst 0, 1) := by decide +kernel
theorem dX7_readNumber_3 : decode cX7_readNumber 3 = .ok (.istore_n 2, 1) := by decide +kernel
theorem dX7_readNumber_4 : decode cX7_readNumber 4 = .ok (.iload_n 2, 1) := by decide +kernel
theorem dX7_readNumber_5 : decode cX7_readNumber 5 = .ok (.iconst 3, 1) := by decide +kernel
theorem dX7_readNumber_6 : decode cX7_readNumber 6 = .ok (.if_icmp .ge 50, 3) := by decide +kernel
theorem dX7_readNumber_9 : decode cX7_readNumber 9 = .ok (.aload_n 0, 1) := by decide +kernel
theorem dX7_readNumber_10 : decode cX7_readNumber 10 = .ok (.invokevirtual 28, 3) := by decide +kernel
theorem dX7_readNumber_13 : decode cX7_readNumber 13 = .ok (.bipush 48, 2) := by decide +kernel
theorem dX7_readNumber_15 : decode cX7_readNumber 15 = .ok (.bipush 57, 2) := by decide +kernel
theorem dX7_readNumber_17 : decode cX7_readNumber 17 = .ok (.invokestatic 15, 3) := by decide +kernel
theorem dX7_readNumber_20 : decode cX7_readNumber 20 = .ok (.ifCond .eq 36, 3) := by decide +kernel
theorem dX7_readNumber_23 : decode cX7_readNumber 23 = .ok (.iload_n 1, 1) := by decide +kernel
theorem dX7_readNumber_24 : decode cX7_readNumber 24 = .ok (.iconst 0, 1) := by decide +kernel
theorem dX7_readNumber_25 : decode cX7_readNumber 25 = .ok (.invokestatic 53, 3) := by decide +kernel
theorem dX7_readNumber_28 : decode cX7_readNumber 28 = .ok (.bipush 10, 2) := by decide +kernel
theorem dX7_readNumber_30 : decode cX7_readNumber 30 = .ok (.imul, 1) := by decide +kernel
theorem dX7_readNumber_31 : decode cX7_readNumber 31 = .ok (.aload_n 0, 1) := by decide +kernel
theorem dX7_readNumber_32 : decode cX7_readNumber 32 = .ok (.invokevirtual 28, 3) := by decide +kernel
theorem dX7_readNumber_35 : decode cX7_readNumber 35 = .ok (.bipush 48, 2) := by decide +kernel
theorem dX7_readNumber_37 : decode cX7_readNumber 37 = .ok (.isub, 1) := by decide +kernel
theorem dX7_readNumber_38 : decode cX7_readNumber 38 = .ok (.iadd, 1) := by decide +kernel
theorem dX7_readNumber_39 : decode cX7_readNumber 39 = .ok (.istore_n 1, 1) := by decide +kernel
theorem dX7_readNumber_40 : decode cX7_readNumber 40 = .ok (.aload_n 0, 1) := by decide +kernel
theorem dX7_readNumber_41 : decode cX7_readNumber 41 = .ok (.dup, 1) := by decide +kernel
theorem dX7_readNumber_42 : decode cX7_readNumber 42 = .ok (.getfield 25, 3) := by decide +kernel
theorem dX7_readNumber_45 : decode cX7_readNumber 45 = .ok (.iconst 1, 1) := by decide +kernel
theorem dX7_readNumber_46 : decode cX7_readNumber 46 = .ok (.iadd, 1) := by decide +kernel
theorem dX7_readNumber_47 : decode cX7_readNumber 47 = .ok (.putfield 25, 3) := by decide +kernel
theorem dX7_readNumber_50 : decode cX7_readNumber 50 = .ok (.iinc 2 1, 3) := by decide +kernel
theorem dX7_readNumber_53 : decode cX7_readNumber 53 = .ok (.goto (-49), 3) := by decide +kernel
theorem dX7_readNumber_56 : decode cX7_readNumber 56 = .ok (.iload_n 1, 1) := by decide +kernel
theorem dX7_readNumber_57 : decode cX7_readNumber 57 = .ok (.ireturn, 1) := by decide +kernel
theorem dX7_isOneNumber_0 : decode cX7_isOneNumber 0 = .ok (.iload_n 0, 1) := by decide +kernel
theorem dX7_isOneNumber_1 : decode cX7_isOneNumber 1 = .ok (.bipush 108, 2) := by decide +kernel
theorem dX7_isOneNumber_3 : decode cX7_isOneNumber 3 = .ok (.if_icmp .eq 21, 3) := by decide +kernel
theorem dX7_isOneNumber_6 : decode cX7_isOneNumber 6 = .ok (.iload_n 0, 1) := by decide +kernel
theorem dX7_isOneNumber_7 : decode cX7_isOneNumber 7 = .ok (.bipush 98, 2) := by decide +kernel
theorem dX7_isOneNumber_9 : decode cX7_isOneNumber 9 = .ok (.if_icmp .eq 15, 3) := by decide +kernel
theorem dX7_isOneNumber_12 : decode cX7_isOneNumber 12 = .ok (.iload_n 0, 1) := by decide +kernel
theorem dX7_isOneNumber_13 : decode cX7_isOneNumber 13 = .ok (.bipush 118, 2) := by decide +kernel
theorem dX7_isOneNumber_15 : decode cX7_isOneNumber 15 = .ok (.if_icmp .eq 9, 3) := by decide +kernel
theorem dX7_isOneNumber_18 : decode cX7_isOneNumber 18 = .ok (.iload_n 0, 1) := by decide +kernel
theorem dX7_isOneNumber_19 : decode cX7_isOneNumber 19 = .ok (.bipush 109, 2) := by decide +kernel
theorem dX7_isOneNumber_21 : decode cX7_isOneNumber 21 = .ok (.if_icmp .ne 7, 3) := by decide +kernel
theorem dX7_isOneNumber_24 : decode cX7_isOneNumber 24 = .ok (.iconst 1, 1) := by decide +kernel
theorem dX7_isOneNumber_25 : decode cX7_isOneNumber 25 = .ok (.goto 4, 3) := by decide +kernel
theorem dX7_isOneNumber_28 : decode cX7_isOneNumber 28 = .ok (.iconst 0, 1) := by decide +kernel
theorem dX7_isOneNumber_29 : decode cX7_isOneNumber 29 = .ok (.ireturn, 1) := by decide +kernel
theorem dX7_isTwoNumbers_0 : decode cX7_isTwoNumbers 0 = .ok (.iload_n 0, 1) := by decide +kernel
theorem dX7_isTwoNumbers_1 : decode cX7_isTwoNumbers 1 = .ok (.bipush 100, 2) := by decide +kernel
theorem dX7_isTwoNumbers_3 : decode cX7_isTwoNumbers 3 = .ok (.if_icmp .eq 9, 3) := by decide +kernel
theorem dX7_isTwoNumbers_6 : decode cX7_isTwoNumbers 6 = .ok (.iload_n 0, 1) := by decide +kernel
theorem dX7_isTwoNumbers_7 : decode cX7_isTwoNumbers 7 = .ok (.bipush 115, 2) := by decide +kernel
theorem dX7_isTwoNumbers_9 : decode cX7_isTwoNumbers 9 = .ok (.if_icmp .ne 7, 3) := by decide +kernel
theorem dX7_isTwoNumbers_12 : decode cX7_isTwoNumbers 12 = .ok (.iconst 1, 1) := by decide +kernel
theorem dX7_isTwoNumbers_13 : decode cX7_isTwoNumbers 13 = .ok (.goto 4, 3) := by decide +kernel
theorem dX7_isTwoNumbers_16 : decode cX7_isTwoNumbers 16 = .ok (.iconst 0, 1) := by decide +kernel
theorem dX7_isTwoNumbers_17 : decode cX7_isTwoNumbers 17 = .ok (.ireturn, 1) := by decide +kernel
theorem dX8_init_0 : decode cX8_init 0 = .ok (.aload_n 0, 1) := by decide +kernel
theorem dX8_init_1 : decode cX8_init 1 = .ok (.invokespecial 1, 3) := by decide +kernel
theorem dX8_init_4 : decode cX8_init 4 = .ok (.aload_n 0, 1) := by decide +kernel
theorem dX8_init_5 : decode cX8_init 5 = .ok (.new 7, 3) := by decide +kernel
theorem dX8_init_8 : decode cX8_init 8 = .ok (.dup, 1) := by decide +kernel
theorem dX8_init_9 : decode cX8_init 9 = .ok (.invokespecial 9, 3) := by decide +kernel
theorem dX8_init_12 : decode cX8_init 12 = .ok (.putfield 10, 3) := by decide +kernel
theorem dX8_init_15 : decode cX8_init 15 = .ok (.aload_n 0, 1) := by decide +kernel
theorem dX8_init_16 : decode cX8_init 16 = .ok (.new 7, 3) := by decide +kernel
theorem dX8_init_19 : decode cX8_init 19 = .ok (.dup, 1) := by decide +kernel
theorem dX8_init_20 : decode cX8_init 20 = .ok (.invokespecial 9, 3) := by decide +kernel
theorem dX8_init_23 : decode cX8_init 23 = .ok (.putfield 16, 3) := by decide +kernel
theorem dX8_init_26 : decode cX8_init 26 = .ok (.aload_n 0, 1) := by decide +kernel
theorem dX8_init_27 : decode cX8_init 27 = .ok (.new 19, 3) := by decide +kernel
theorem dX8_init_30 : decode cX8_init 30 = .ok (.dup, 1) := by decide +kernel
theorem dX8_init_31 : decode cX8_init 31 = .ok (.invokespecial 21, 3) := by decide +kernel
theorem dX8_init_34 : decode cX8_init 34 = .ok (.putfield 22, 3) := by decide +kernel
theorem dX8_init_37 : decode cX8_init 37 = .ok (.aload_n 0, 1) := by decide +kernel
theorem dX8_init_38 : decode cX8_init 38 = .ok (.new 26, 3) := by decide +kernel
theorem dX8_init_41 : decode cX8_init 41 = .ok (.dup, 1) := by decide +kernel
theorem dX8_init_42 : decode cX8_init 42 = .ok (.invokespecial 28, 3) := by decide +kernel
theorem dX8_init_45 : decode cX8_init 45 = .ok (.putfield 29, 3) := by decide +kernel
theorem dX8_init_48 : decode cX8_init 48 = .ok (.aload_n 0, 1) := by decide +kernel
theorem dX8_init_49 : decode cX8_init 49 = .ok (.new 33, 3) := by decide +kernel
theorem dX8_init_52 : decode cX8_init 52 = .ok (.dup, 1) := by decide +kernel
theorem dX8_init_53 : decode cX8_init 53 = .ok (.invokespecial 35, 3) := by decide +kernel
theorem dX8_init_56 : decode cX8_init 56 = .ok (.putfield 36, 3) := by decide +kernel
theorem dX8_init_59 : decode cX8_init 59 = .ok (.aload_n 0, 1) := by decide +kernel
theorem dX8_init_60 : decode cX8_init 60 = .ok (.new 40, 3) := by decide +kernel
theorem dX8_init_63 : decode cX8_init 63 = .ok (.dup, 1) := by decide +kernel
theorem dX8_init_64 : decode cX8_init 64 = .ok (.invokespecial 42, 3) := by decide +kernel
theorem dX8_init_67 : decode cX8_init 67 = .ok (.putfield 43, 3) := by decide +kernel
theorem dX8_init_70 : decode cX8_init 70 = .ok (.return_, 1) := by decide +kernel
theorem dX8_person_0 : decode cX8_person 0 = .ok (.aload_n 0, 1) := by decide +kernel
theorem dX8_person_1 : decode cX8_person 1 = .ok (.getfield 22, 3) := by decide +kernel
theorem dX8_person_4 : decode cX8_person 4 = .ok (.aload_n 0, 1) := by decide +kernel
theorem dX8_person_5 : decode cX8_person 5 = .ok (.getfield 10, 3) := by decide +kernel
theorem dX8_person_8 : decode cX8_person 8 = .ok (.invokevirtual 47, 3) := by decide +kernel
theorem dX8_person_11 : decode cX8_person 11 = .ok (.aload_n 0, 1) := by decide +kernel
theorem dX8_person_12 : decode cX8_person 12 = .ok (.getfield 22, 3) := by decide +kernel
theorem dX8_person_15 : decode cX8_person 15 = .ok (.aload_n 0, 1) := by decide +kernel
theorem dX8_person_16 : decode cX8_person 16 = .ok (.getfield 10, 3) := by decide +kernel
theorem dX8_person_19 : decode cX8_person 19 = .ok (.iload_n 1, 1) := by decide +kernel
theorem dX8_person_20 : decode cX8_person 20 = .ok (.iload_n 2, 1) := by decide +kernel
theorem dX8_person_21 : decode cX8_person 21 = .ok (.invokevirtual 51, 3) := by decide +kernel
theorem dX8_person_24 : decode cX8_person 24 = .ok (.invokevirtual 55, 3) := by decide +kernel
theorem dX8_person_27 : decode cX8_person 27 = .ok (.ireturn, 1) := by decide +kernel
theorem dX8_turn_0 : decode cX8_turn 0 = .ok (.aload_n 0, 1) := by decide +kernel
theorem dX8_turn_1 : decode cX8_turn 1 = .ok (.getfield 22, 3) := by decide +kernel
theorem dX8_turn_4 : decode cX8_turn 4 = .ok (.aload_n 0, 1) := by decide +kernel
theorem dX8_turn_5 : decode cX8_turn 5 = .ok (.getfield 10, 3) := by decide +kernel
theorem dX8_turn_8 : decode cX8_turn 8 = .ok (.invokevirtual 47, 3) := by decide +kernel
theorem dX8_turn_11 : decode cX8_turn 11 = .ok (.aload_n 0, 1) := by decide +kernel
theorem dX8_turn_12 : decode cX8_turn 12 = .ok (.getfield 22, 3) := by decide +kernel
theorem dX8_turn_15 : decode cX8_turn 15 = .ok (.aload_n 0, 1) := by decide +kernel
theorem dX8_turn_16 : decode cX8_turn 16 = .ok (.getfield 10, 3) := by decide +kernel
theorem dX8_turn_19 : decode cX8_turn 19 = .ok (.iload_n 1, 1) := by decide +kernel
theorem dX8_turn_20 : decode cX8_turn 20 = .ok (.iload_n 2, 1) := by decide +kernel
theorem dX8_turn_21 : decode cX8_turn 21 = .ok (.iload_n 3, 1) := by decide +kernel
theorem dX8_turn_22 : decode cX8_turn 22 = .ok (.invokevirtual 59, 3) := by decide +kernel
theorem dX8_turn_25 : decode cX8_turn 25 = .ok (.invokevirtual 55, 3) := by decide +kernel
theorem dX8_turn_28 : decode cX8_turn 28 = .ok (.ireturn, 1) := by decide +kernel
theorem dX8_paper_0 : decode cX8_paper 0 = .ok (.aload_n 0, 1) := by decide +kernel
theorem dX8_paper_1 : decode cX8_paper 1 = .ok (.getfield 22, 3) := by decide +kernel
theorem dX8_paper_4 : decode cX8_paper 4 = .ok (.aload_n 0, 1) := by decide +kernel
theorem dX8_paper_5 : decode cX8_paper 5 = .ok (.getfield 10, 3) := by decide +kernel
theorem dX8_paper_8 : decode cX8_paper 8 = .ok (.invokevirtual 47, 3) := by decide +kernel
theorem dX8_paper_11 : decode cX8_paper 11 = .ok (.aload_n 0, 1) := by decide +kernel
theorem dX8_paper_12 : decode cX8_paper 12 = .ok (.getfield 22, 3) := by decide +kernel
theorem dX8_paper_15 : decode cX8_paper 15 = .ok (.aload_n 0, 1) := by decide +kernel
theorem dX8_paper_16 : decode cX8_paper 16 = .ok (.getfield 10, 3) := by decide +kernel
theorem dX8_paper_19 : decode cX8_paper 19 = .ok (.iload_n 1, 1) := by decide +kernel
theorem dX8_paper_20 : decode cX8_paper 20 = .ok (.iload_n 2, 1) := by decide +kernel
theorem dX8_paper_21 : decode cX8_paper 21 = .ok (.invokevirtual 63, 3) := by decide +kernel
theorem dX8_paper_24 : decode cX8_paper 24 = .ok (.invokevirtual 55, 3) := by decide +kernel
theorem dX8_paper_27 : decode cX8_paper 27 = .ok (.ireturn, 1) := by decide +kernel
theorem dX8_look_0 : decode cX8_look 0 = .ok (.aload_n 0, 1) := by decide +kernel
theorem dX8_look_1 : decode cX8_look 1 = .ok (.getfield 22, 3) := by decide +kernel
theorem dX8_look_4 : decode cX8_look 4 = .ok (.aload_n 0, 1) := by decide +kernel
theorem dX8_look_5 : decode cX8_look 5 = .ok (.getfield 10, 3) := by decide +kernel
theorem dX8_look_8 : decode cX8_look 8 = .ok (.invokevirtual 47, 3) := by decide +kernel
theorem dX8_look_11 : decode cX8_look 11 = .ok (.aload_n 0, 1) := by decide +kernel
theorem dX8_look_12 : decode cX8_look 12 = .ok (.getfield 22, 3) := by decide +kernel
theorem dX8_look_15 : decode cX8_look 15 = .ok (.aload_n 0, 1) := by decide +kernel
theorem dX8_look_16 : decode cX8_look 16 = .ok (.getfield 10, 3) := by decide +kernel
theorem dX8_look_19 : decode cX8_look 19 = .ok (.iload_n 1, 1) := by decide +kernel
theorem dX8_look_20 : decode cX8_look 20 = .ok (.invokevirtual 66, 3) := by decide +kernel
theorem dX8_look_23 : decode cX8_look 23 = .ok (.invokevirtual 55, 3) := by decide +kernel
theorem dX8_look_26 : decode cX8_look 26 = .ok (.ireturn, 1) := by decide +kernel
theorem dX8_sheet_0 : decode cX8_sheet 0 = .ok (.aload_n 0, 1) := by decide +kernel
theorem dX8_sheet_1 : decode cX8_sheet 1 = .ok (.getfield 22, 3) := by decide +kernel
theorem dX8_sheet_4 : decode cX8_sheet 4 = .ok (.aload_n 0, 1) := by decide +kernel
theorem dX8_sheet_5 : decode cX8_sheet 5 = .ok (.getfield 10, 3) := by decide +kernel
theorem dX8_sheet_8 : decode cX8_sheet 8 = .ok (.invokevirtual 47, 3) := by decide +kernel
theorem dX8_sheet_11 : decode cX8_sheet 11 = .ok (.aload_n 0, 1) := by decide +kernel
theorem dX8_sheet_12 : decode cX8_sheet 12 = .ok (.getfield 22, 3) := by decide +kernel
theorem dX8_sheet_15 : decode cX8_sheet 15 = .ok (.aload_n 0, 1) := by decide +kernel
theorem dX8_sheet_16 : decode cX8_sheet 16 = .ok (.getfield 10, 3) := by decide +kernel
theorem dX8_sheet_19 : decode cX8_sheet 19 = .ok (.iload_n 1, 1) := by decide +kernel
theorem dX8_sheet_20 : decode cX8_sheet 20 = .ok (.invokevirtual 69, 3) := by decide +kernel
theorem dX8_sheet_23 : decode cX8_sheet 23 = .ok (.invokevirtual 55, 3) := by decide +kernel
theorem dX8_sheet_26 : decode cX8_sheet 26 = .ok (.ireturn, 1) := by decide +kernel
theorem dX8_draw_0 : decode cX8_draw 0 = .ok (.aload_n 0, 1) := by decide +kernel
theorem dX8_draw_1 : decode cX8_draw 1 = .ok (.getfield 22, 3) := by decide +kernel
theorem dX8_draw_4 : decode cX8_draw 4 = .ok (.aload_n 0, 1) := by decide +kernel
theorem dX8_draw_5 : decode cX8_draw 5 = .ok (.getfield 10, 3) := by decide +kernel
theorem dX8_draw_8 : decode cX8_draw 8 = .ok (.invokevirtual 47, 3) := by decide +kernel
theorem dX8_draw_11 : decode cX8_draw 11 = .ok (.aload_n 0, 1) := by decide +kernel
theorem dX8_draw_12 : decode cX8_draw 12 = .ok (.getfield 22, 3) := by decide +kernel
theorem dX8_draw_15 : decode cX8_draw 15 = .ok (.aload_n 0, 1) := by decide +kernel
theorem dX8_draw_16 : decode cX8_draw 16 = .ok (.getfield 10, 3) := by decide +kernel
theorem dX8_draw_19 : decode cX8_draw 19 = .ok (.iload_n 1, 1) := by decide +kernel
theorem dX8_draw_20 : decode cX8_draw 20 = .ok (.iload_n 2, 1) := by decide +kernel
theorem dX8_draw_21 : decode cX8_draw 21 = .ok (.invokevirtual 72, 3) := by decide +kernel
theorem dX8_draw_24 : decode cX8_draw 24 = .ok (.invokevirtual 55, 3) := by decide +kernel
theorem dX8_draw_27 : decode cX8_draw 27 = .ok (.ireturn, 1) := by decide +kernel
theorem dX8_tear_0 : decode cX8_tear 0 = .ok (.aload_n 0, 1) := by decide +kernel
theorem dX8_tear_1 : decode cX8_tear 1 = .ok (.getfield 22, 3) := by decide +kernel
theorem dX8_tear_4 : decode cX8_tear 4 = .ok (.aload_n 0, 1) := by decide +kernel
theorem dX8_tear_5 : decode cX8_tear 5 = .ok (.getfield 10, 3) := by decide +kernel
theorem dX8_tear_8 : decode cX8_tear 8 = .ok (.invokevirtual 47, 3) := by decide +kernel
theorem dX8_tear_11 : decode cX8_tear 11 = .ok (.aload_n 0, 1) := by decide +kernel
theorem dX8_tear_12 : decode cX8_tear 12 = .ok (.getfield 22, 3) := by decide +kernel
theorem dX8_tear_15 : decode cX8_tear 15 = .ok (.aload_n 0, 1) := by decide +kernel
theorem dX8_tear_16 : decode cX8_tear 16 = .ok (.getfield 10, 3) := by decide +kernel
theorem dX8_tear_19 : decode cX8_tear 19 = .ok (.iload_n 1, 1) := by decide +kernel
theorem dX8_tear_20 : decode cX8_tear 20 = .ok (.invokevirtual 75, 3) := by decide +kernel
theorem dX8_tear_23 : decode cX8_tear 23 = .ok (.invokevirtual 55, 3) := by decide +kernel
theorem dX8_tear_26 : decode cX8_tear 26 = .ok (.ireturn, 1) := by decide +kernel
theorem dX8_verdict_0 : decode cX8_verdict 0 = .ok (.aload_n 0, 1) := by decide +kernel
theorem dX8_verdict_1 : decode cX8_verdict 1 = .ok (.getfield 22, 3) := by decide +kernel
theorem dX8_verdict_4 : decode cX8_verdict 4 = .ok (.aload_n 0, 1) := by decide +kernel
theorem dX8_verdict_5 : decode cX8_verdict 5 = .ok (.getfield 10, 3) := by decide +kernel
theorem dX8_verdict_8 : decode cX8_verdict 8 = .ok (.invokevirtual 47, 3) := by decide +kernel
theorem dX8_verdict_11 : decode cX8_verdict 11 = .ok (.aload_n 0, 1) := by decide +kernel
theorem dX8_verdict_12 : decode cX8_verdict 12 = .ok (.getfield 22, 3) := by decide +kernel
theorem dX8_verdict_15 : decode cX8_verdict 15 = .ok (.aload_n 0, 1) := by decide +kernel
theorem dX8_verdict_16 : decode cX8_verdict 16 = .ok (.getfield 10, 3) := by decide +kernel
theorem dX8_verdict_19 : decode cX8_verdict 19 = .ok (.iload_n 1, 1) := by decide +kernel
theorem dX8_verdict_20 : decode cX8_verdict 20 = .ok (.invokevirtual 78, 3) := by decide +kernel
theorem dX8_verdict_23 : decode cX8_verdict 23 = .ok (.invokevirtual 55, 3) := by decide +kernel
theorem dX8_verdict_26 : decode cX8_verdict 26 = .ok (.ireturn, 1) := by decide +kernel
theorem dX8_sell_0 : decode cX8_sell 0 = .ok (.aload_n 0, 1) := by decide +kernel
theorem dX8_sell_1 : decode cX8_sell 1 = .ok (.getfield 22, 3) := by decide +kernel
theorem dX8_sell_4 : decode cX8_sell 4 = .ok (.aload_n 0, 1) := by decide +kernel
theorem dX8_sell_5 : decode cX8_sell 5 = .ok (.getfield 10, 3) := by decide +kernel
theorem dX8_sell_8 : decode cX8_sell 8 = .ok (.invokevirtual 47, 3) := by decide +kernel
theorem dX8_sell_11 : decode cX8_sell 11 = .ok (.aload_n 0, 1) := by decide +kernel
theorem dX8_sell_12 : decode cX8_sell 12 = .ok (.getfield 22, 3) := by decide +kernel
theorem dX8_sell_15 : decode cX8_sell 15 = .ok (.aload_n 0, 1) := by decide +kernel
theorem dX8_sell_16 : decode cX8_sell 16 = .ok (.getfield 10, 3) := by decide +kernel
theorem dX8_sell_19 : decode cX8_sell 19 = .ok (.iload_n 1, 1) := by decide +kernel
theorem dX8_sell_20 : decode cX8_sell 20 = .ok (.iload_n 2, 1) := by decide +kernel
theorem dX8_sell_21 : decode cX8_sell 21 = .ok (.invokevirtual 81, 3) := by decide +kernel
theorem dX8_sell_24 : decode cX8_sell 24 = .ok (.invokevirtual 55, 3) := by decide +kernel
theorem dX8_sell_27 : decode cX8_sell 27 = .ok (.ireturn, 1) := by decide +kernel
theorem dX8_pass_0 : decode cX8_pass 0 = .ok (.aload_n 0, 1) := by decide +kernel
theorem dX8_pass_1 : decode cX8_pass 1 = .ok (.getfield 22, 3) := by decide +kernel
theorem dX8_pass_4 : decode cX8_pass 4 = .ok (.aload_n 0, 1) := by decide +kernel
theorem dX8_pass_5 : decode cX8_pass 5 = .ok (.getfield 10, 3) := by decide +kernel
theorem dX8_pass_8 : decode cX8_pass 8 = .ok (.invokevirtual 47, 3) := by decide +kernel
theorem dX8_pass_11 : decode cX8_pass 11 = .ok (.aload_n 0, 1) := by decide +kernel
theorem dX8_pass_12 : decode cX8_pass 12 = .ok (.getfield 22, 3) := by decide +kernel
theorem dX8_pass_15 : decode cX8_pass 15 = .ok (.aload_n 0, 1) := by decide +kernel
theorem dX8_pass_16 : decode cX8_pass 16 = .ok (.getfield 10, 3) := by decide +kernel
theorem dX8_pass_19 : decode cX8_pass 19 = .ok (.iload_n 1, 1) := by decide +kernel
theorem dX8_pass_20 : decode cX8_pass 20 = .ok (.invokevirtual 84, 3) := by decide +kernel
theorem dX8_pass_23 : decode cX8_pass 23 = .ok (.invokevirtual 55, 3) := by decide +kernel
theorem dX8_pass_26 : decode cX8_pass 26 = .ok (.ireturn, 1) := by decide +kernel
theorem dX8_set_0 : decode cX8_set 0 = .ok (.aload_n 0, 1) := by decide +kernel
theorem dX8_set_1 : decode cX8_set 1 = .ok (.getfield 22, 3) := by decide +kernel
theorem dX8_set_4 : decode cX8_set 4 = .ok (.aload_n 0, 1) := by decide +kernel
theorem dX8_set_5 : decode cX8_set 5 = .ok (.getfield 10, 3) := by decide +kernel
theorem dX8_set_8 : decode cX8_set 8 = .ok (.invokevirtual 47, 3) := by decide +kernel
theorem dX8_set_11 : decode cX8_set 11 = .ok (.aload_n 0, 1) := by decide +kernel
theorem dX8_set_12 : decode cX8_set 12 = .ok (.getfield 22, 3) := by decide +kernel
theorem dX8_set_15 : decode cX8_set 15 = .ok (.aload_n 0, 1) := by decide +kernel
theorem dX8_set_16 : decode cX8_set 16 = .ok (.getfield 10, 3) := by decide +kernel
theorem dX8_set_19 : decode cX8_set 19 = .ok (.iload_n 1, 1) := by decide +kernel
theorem dX8_set_20 : decode cX8_set 20 = .ok (.iload_n 2, 1) := by decide +kernel
theorem dX8_set_21 : decode cX8_set 21 = .ok (.invokevirtual 87, 3) := by decide +kernel
theorem dX8_set_24 : decode cX8_set 24 = .ok (.invokevirtual 55, 3) := by decide +kernel
theorem dX8_set_27 : decode cX8_set 27 = .ok (.ireturn, 1) := by decide +kernel
theorem dX8_personOf_0 : decode cX8_personOf 0 = .ok (.aload_n 0, 1) := by decide +kernel
theorem dX8_personOf_1 : decode cX8_personOf 1 = .ok (.getfield 10, 3) := by decide +kernel
theorem dX8_personOf_4 : decode cX8_personOf 4 = .ok (.iload_n 1, 1) := by decide +kernel
theorem dX8_personOf_5 : decode cX8_personOf 5 = .ok (.iload_n 2, 1) := by decide +kernel
theorem dX8_personOf_6 : decode cX8_personOf 6 = .ok (.invokevirtual 90, 3) := by decide +kernel
theorem dX8_personOf_9 : decode cX8_personOf 9 = .ok (.ireturn, 1) := by decide +kernel
theorem dX8_sheetOf_0 : decode cX8_sheetOf 0 = .ok (.aload_n 0, 1) := by decide +kernel
theorem dX8_sheetOf_1 : decode cX8_sheetOf 1 = .ok (.getfield 10, 3) := by decide +kernel
theorem dX8_sheetOf_4 : decode cX8_sheetOf 4 = .ok (.iload_n 1, 1) := by decide +kernel
theorem dX8_sheetOf_5 : decode cX8_sheetOf 5 = .ok (.iload_n 2, 1) := by decide +kernel
theorem dX8_sheetOf_6 : decode cX8_sheetOf 6 = .ok (.invokevirtual 93, 3) := by decide +kernel
theorem dX8_sheetOf_9 : decode cX8_sheetOf 9 = .ok (.ireturn, 1) := by decide +kernel
theorem dX8_paperOf_0 : decode cX8_paperOf 0 = .ok (.aload_n 0, 1) := by decide +kernel
theorem dX8_paperOf_1 : decode cX8_paperOf 1 = .ok (.getfield 10, 3) := by decide +kernel
theorem dX8_paperOf_4 : decode cX8_paperOf 4 = .ok (.iload_n 1, 1) := by decide +kernel
theorem dX8_paperOf_5 : decode cX8_paperOf 5 = .ok (.iload_n 2, 1) := by decide +kernel
theorem dX8_paperOf_6 : decode cX8_paperOf 6 = .ok (.invokevirtual 96, 3) := by decide +kernel
theorem dX8_paperOf_9 : decode cX8_paperOf 9 = .ok (.ireturn, 1) := by decide +kernel
theorem dX8_price_0 : decode cX8_price 0 = .ok (.aload_n 0, 1) := by decide +kernel
theorem dX8_price_1 : decode cX8_price 1 = .ok (.getfield 10, 3) := by decide +kernel
theorem dX8_price_4 : decode cX8_price 4 = .ok (.getfield 99, 3) := by decide +kernel
theorem dX8_price_7 : decode cX8_price 7 = .ok (.iload_n 1, 1) := by decide +kernel
theorem dX8_price_8 : decode cX8_price 8 = .ok (.invokevirtual 103, 3) := by decide +kernel
theorem dX8_price_11 : decode cX8_price 11 = .ok (.istore_n 3, 1) := by decide +kernel
theorem dX8_price_12 : decode cX8_price 12 = .ok (.iload_n 3, 1) := by decide +kernel
theorem dX8_price_13 : decode cX8_price 13 = .ok (.iconst (-1), 1) := by decide +kernel
theorem dX8_price_14 : decode cX8_price 14 = .ok (.if_icmp .eq 17, 3) := by decide +kernel
theorem dX8_price_17 : decode cX8_price 17 = .ok (.aload_n 0, 1) := by decide +kernel
theorem dX8_price_18 : decode cX8_price 18 = .ok (.getfield 10, 3) := by decide +kernel
theorem dX8_price_21 : decode cX8_price 21 = .ok (.getfield 108, 3) := by decide +kernel
theorem dX8_price_24 : decode cX8_price 24 = .ok (.iload_n 2, 1) := by decide +kernel
theorem dX8_price_25 : decode cX8_price 25 = .ok (.invokevirtual 112, 3) := by decide +kernel
theorem dX8_price_28 : decode cX8_price 28 = .ok (.ifCond .ne 6, 3) := by decide +kernel
theorem dX8_price_31 : decode cX8_price 31 = .ok (.ldc 118, 2) := by decide +kernel
theorem dX8_price_33 : decode cX8_price 33 = .ok (.ireturn, 1) := by decide +kernel
theorem dX8_price_34 : decode cX8_price 34 = .ok (.aload_n 0, 1) := by decide +kernel
theorem dX8_price_35 : decode cX8_price 35 = .ok (.getfield 10, 3) := by decide +kernel
theorem dX8_price_38 : decode cX8_price 38 = .ok (.iload_n 3, 1) := by decide +kernel
theorem dX8_price_39 : decode cX8_price 39 = .ok (.iload_n 2, 1) := by decide +kernel
theorem dX8_price_40 : decode cX8_price 40 = .ok (.invokevirtual 119, 3) := by decide +kernel
theorem dX8_price_43 : decode cX8_price 43 = .ok (.ireturn, 1) := by decide +kernel
theorem dX8_number_0 : decode cX8_number 0 = .ok (.iload_n 1, 1) := by decide +kernel
theorem dX8_number_1 : decode cX8_number 1 = .ok (.ifCond .ge 6, 3) := by decide +kernel
theorem dX8_number_4 : decode cX8_number 4 = .ok (.ldc 118, 2) := by decide +kernel
theorem dX8_number_6 : decode cX8_number 6 = .ok (.ireturn, 1) := by decide +kernel
theorem dX8_number_7 : decode cX8_number 7 = .ok (.iload_n 1, 1) := by decide +kernel
theorem dX8_number_8 : decode cX8_number 8 = .ok (.aload_n 0, 1) := by decide +kernel
theorem dX8_number_9 : decode cX8_number 9 = .ok (.getfield 10, 3) := by decide +kernel
theorem dX8_number_12 : decode cX8_number 12 = .ok (.getfield 99, 3) := by decide +kernel
theorem dX8_number_15 : decode cX8_number 15 = .ok (.getfield 122, 3) := by decide +kernel
theorem dX8_number_18 : decode cX8_number 18 = .ok (.if_icmp .ge 18, 3) := by decide +kernel
theorem dX8_number_21 : decode cX8_number 21 = .ok (.aload_n 0, 1) := by decide +kernel
theorem dX8_number_22 : decode cX8_number 22 = .ok (.getfield 10, 3) := by decide +kernel
theorem dX8_number_25 : decode cX8_number 25 = .ok (.getfield 99, 3) := by decide +kernel
theorem dX8_number_28 : decode cX8_number 28 = .ok (.getfield 126, 3) := by decide +kernel
theorem dX8_number_31 : decode cX8_number 31 = .ok (.iload_n 1, 1) := by decide +kernel
theorem dX8_number_32 : decode cX8_number 32 = .ok (.iaload, 1) := by decide +kernel
theorem dX8_number_33 : decode cX8_number 33 = .ok (.goto 5, 3) := by decide +kernel
theorem dX8_number_36 : decode cX8_number 36 = .ok (.ldc 130, 2) := by decide +kernel
theorem dX8_number_38 : decode cX8_number 38 = .ok (.ireturn, 1) := by decide +kernel
theorem dX8_seenIn_0 : decode cX8_seenIn 0 = .ok (.aload_n 0, 1) := by decide +kernel
theorem dX8_seenIn_1 : decode cX8_seenIn 1 = .ok (.getfield 10, 3) := by decide +kernel
theorem dX8_seenIn_4 : decode cX8_seenIn 4 = .ok (.getfield 131, 3) := by decide +kernel
theorem dX8_seenIn_7 : decode cX8_seenIn 7 = .ok (.iload_n 1, 1) := by decide +kernel
theorem dX8_seenIn_8 : decode cX8_seenIn 8 = .ok (.invokevirtual 135, 3) := by decide +kernel
theorem dX8_seenIn_11 : decode cX8_seenIn 11 = .ok (.ifCond .eq 13, 3) := by decide +kernel
theorem dX8_seenIn_14 : decode cX8_seenIn 14 = .ok (.iload_n 2, 1) := by decide +kernel
theorem dX8_seenIn_15 : decode cX8_seenIn 15 = .ok (.iconst 0, 1) := by decide +kernel
theorem dX8_seenIn_16 : decode cX8_seenIn 16 = .ok (.bipush 11, 2) := by decide +kernel
theorem dX8_seenIn_18 : decode cX8_seenIn 18 = .ok (.invokestatic 138, 3) := by decide +kernel
theorem dX8_seenIn_21 : decode cX8_seenIn 21 = .ok (.ifCond .ne 6, 3) := by decide +kernel
theorem dX8_seenIn_24 : decode cX8_seenIn 24 = .ok (.ldc 118, 2) := by decide +kernel
theorem dX8_seenIn_26 : decode cX8_seenIn 26 = .ok (.ireturn, 1) := by decide +kernel
theorem dX8_seenIn_27 : decode cX8_seenIn 27 = .ok (.iconst 0, 1) := by decide +kernel
theorem dX8_seenIn_28 : decode cX8_seenIn 28 = .ok (.istore_n 3, 1) := by decide +kernel
theorem dX8_seenIn_29 : decode cX8_seenIn 29 = .ok (.iload_n 3, 1) := by decide +kernel
theorem dX8_seenIn_30 : decode cX8_seenIn 30 = .ok (.bipush 12, 2) := by decide +kernel
theorem dX8_seenIn_32 : decode cX8_seenIn 32 = .ok (.if_icmp .ge 30, 3) := by decide +kernel
theorem dX8_seenIn_35 : decode cX8_seenIn 35 = .ok (.aload_n 0, 1) := by decide +kernel
theorem dX8_seenIn_36 : decode cX8_seenIn 36 = .ok (.getfield 10, 3) := by decide +kernel
theorem dX8_seenIn_39 : decode cX8_seenIn 39 = .ok (.getfield 131, 3) := by decide +kernel
theorem dX8_seenIn_42 : decode cX8_seenIn 42 = .ok (.iload_n 1, 1) := by decide +kernel
theorem dX8_seenIn_43 : decode cX8_seenIn 43 = .ok (.iload_n 3, 1) := by decide +kernel
theorem dX8_seenIn_44 : decode cX8_seenIn 44 = .ok (.invokevirtual 142, 3) := by decide +kernel
theorem dX8_seenIn_47 : decode cX8_seenIn 47 = .ok (.iload_n 2, 1) := by decide +kernel
theorem dX8_seenIn_48 : decode cX8_seenIn 48 = .ok (.invokestatic 145, 3) := by decide +kernel
theorem dX8_seenIn_51 : decode cX8_seenIn 51 = .ok (.ifCond .eq 5, 3) := by decide +kernel
theorem dX8_seenIn_54 : decode cX8_seenIn 54 = .ok (.iload_n 3, 1) := by decide +kernel
theorem dX8_seenIn_55 : decode cX8_seenIn 55 = .ok (.ireturn, 1) := by decide +kernel
theorem dX8_seenIn_56 : decode cX8_seenIn 56 = .ok (.iinc 3 1, 3) := by decide +kernel
theorem dX8_seenIn_59 : decode cX8_seenIn 59 = .ok (.goto (-30), 3) := by decide +kernel
theorem dX8_seenIn_62 : decode cX8_seenIn 62 = .ok (.ldc 130, 2) := by decide +kernel
theorem dX8_seenIn_64 : decode cX8_seenIn 64 = .ok (.ireturn, 1) := by decide +kernel
theorem dX8_would_0 : decode cX8_would 0 = .ok (.aload_n 0, 1) := by decide +kernel
theorem dX8_would_1 : decode cX8_would 1 = .ok (.getfield 10, 3) := by decide +kernel
theorem dX8_would_4 : decode cX8_would 4 = .ok (.getfield 131, 3) := by decide +kernel
theorem dX8_would_7 : decode cX8_would 7 = .ok (.iload_n 1, 1) := by decide +kernel
theorem dX8_would_8 : decode cX8_would 8 = .ok (.invokevirtual 135, 3) := by decide +kernel
theorem dX8_would_11 : decode cX8_would 11 = .ok (.ifCond .eq 14, 3) := by decide +kernel
theorem dX8_would_14 : decode cX8_would 14 = .ok (.iload_n 2, 1) := by decide +kernel
theorem dX8_would_15 : decode cX8_would 15 = .ok (.iconst 0, 1) := by decide +kernel
theorem dX8_would_16 : decode cX8_would 16 = .ok (.sipush 300, 3) := by decide +kernel
theorem dX8_would_19 : decode cX8_would 19 = .ok (.invokestatic 138, 3) := by decide +kernel
theorem dX8_would_22 : decode cX8_would 22 = .ok (.ifCond .ne 6, 3) := by decide +kernel
theorem dX8_would_25 : decode cX8_would 25 = .ok (.ldc 118, 2) := by decide +kernel
theorem dX8_would_27 : decode cX8_would 27 = .ok (.ireturn, 1) := by decide +kernel
theorem dX8_would_28 : decode cX8_would 28 = .ok (.aload_n 0, 1) := by decide +kernel
theorem dX8_would_29 : decode cX8_would 29 = .ok (.getfield 16, 3) := by decide +kernel
theorem dX8_would_32 : decode cX8_would 32 = .ok (.aload_n 0, 1) := by decide +kernel
theorem dX8_would_33 : decode cX8_would 33 = .ok (.getfield 10, 3) := by decide +kernel
theorem dX8_would_36 : decode cX8_would 36 = .ok (.invokevirtual 149, 3) := by decide +kernel
theorem dX8_would_39 : decode cX8_would 39 = .ok (.aload_n 0, 1) := by decide +kernel
theorem dX8_would_40 : decode cX8_would 40 = .ok (.getfield 16, 3) := by decide +kernel
theorem dX8_would_43 : decode cX8_would 43 = .ok (.iload_n 1, 1) := by decide +kernel
theorem dX8_would_44 : decode cX8_would 44 = .ok (.putfield 152, 3) := by decide +kernel
theorem dX8_would_47 : decode cX8_would 47 = .ok (.aload_n 0, 1) := by decide +kernel
theorem dX8_would_48 : decode cX8_would 48 = .ok (.getfield 16, 3) := by decide +kernel
theorem dX8_would_51 : decode cX8_would 51 = .ok (.iload_n 2, 1) := by decide +kernel
theorem dX8_would_52 : decode cX8_would 52 = .ok (.invokevirtual 155, 3) := by decide +kernel
theorem dX8_would_55 : decode cX8_would 55 = .ok (.aload_n 0, 1) := by decide +kernel
theorem dX8_would_56 : decode cX8_would 56 = .ok (.getfield 16, 3) := by decide +kernel
theorem dX8_would_59 : decode cX8_would 59 = .ok (.iload_n 1, 1) := by decide +kernel
theorem dX8_would_60 : decode cX8_would 60 = .ok (.invokevirtual 159, 3) := by decide +kernel
theorem dX8_would_63 : decode cX8_would 63 = .ok (.invokestatic 162, 3) := by decide +kernel
theorem dX8_would_66 : decode cX8_would 66 = .ok (.ireturn, 1) := by decide +kernel
theorem dX8_best_0 : decode cX8_best 0 = .ok (.iload_n 1, 1) := by decide +kernel
theorem dX8_best_1 : decode cX8_best 1 = .ok (.iconst 0, 1) := by decide +kernel
theorem dX8_best_2 : decode cX8_best 2 = .ok (.iconst 2, 1) := by decide +kernel
theorem dX8_best_3 : decode cX8_best 3 = .ok (.invokestatic 138, 3) := by decide +kernel
theorem dX8_best_6 : decode cX8_best 6 = .ok (.ifCond .ne 6, 3) := by decide +kernel
theorem dX8_best_9 : decode cX8_best 9 = .ok (.ldc 118, 2) := by decide +kernel
theorem dX8_best_11 : decode cX8_best 11 = .ok (.ireturn, 1) := by decide +kernel
theorem dX8_best_12 : decode cX8_best 12 = .ok (.aload_n 0, 1) := by decide +kernel
theorem dX8_best_13 : decode cX8_best 13 = .ok (.getfield 10, 3) := by decide +kernel
theorem dX8_best_16 : decode cX8_best 16 = .ok (.aload_n 0, 1) := by decide +kernel
theorem dX8_best_17 : decode cX8_best 17 = .ok (.getfield 43, 3) := by decide +kernel
theorem dX8_best_20 : decode cX8_best 20 = .ok (.invokevirtual 167, 3) := by decide +kernel
theorem dX8_best_23 : decode cX8_best 23 = .ok (.ifCond .ne 6, 3) := by decide +kernel
theorem dX8_best_26 : decode cX8_best 26 = .ok (.ldc 130, 2) := by decide +kernel
theorem dX8_best_28 : decode cX8_best 28 = .ok (.ireturn, 1) := by decide +kernel
theorem dX8_best_29 : decode cX8_best 29 = .ok (.iload_n 1, 1) := by decide +kernel
theorem dX8_best_30 : decode cX8_best 30 = .ok (.lookupswitch 42 #[(0, 26), (1, 34)], 26) := by decide +kernel
theorem dX8_best_56 : decode cX8_best 56 = .ok (.aload_n 0, 1) := by decide +kernel
theorem dX8_best_57 : decode cX8_best 57 = .ok (.getfield 43, 3) := by decide +kernel
theorem dX8_best_60 : decode cX8_best 60 = .ok (.getfield 171, 3) := by decide +kernel
theorem dX8_best_63 : decode cX8_best 63 = .ok (.ireturn, 1) := by decide +kernel
theorem dX8_best_64 : decode cX8_best 64 = .ok (.aload_n 0, 1) := by decide +kernel
theorem dX8_best_65 : decode cX8_best 65 = .ok (.getfield 43, 3) := by decide +kernel
theorem dX8_best_68 : decode cX8_best 68 = .ok (.getfield 174, 3) := by decide +kernel
theorem dX8_best_71 : decode cX8_best 71 = .ok (.ireturn, 1) := by decide +kernel
theorem dX8_best_72 : decode cX8_best 72 = .ok (.aload_n 0, 1) := by decide +kernel
theorem dX8_best_73 : decode cX8_best 73 = .ok (.getfield 43, 3) := by decide +kernel
theorem dX8_best_76 : decode cX8_best 76 = .ok (.getfield 177, 3) := by decide +kernel
theorem dX8_best_79 : decode cX8_best 79 = .ok (.ireturn, 1) := by decide +kernel
theorem dX8_sellAll_0 : decode cX8_sellAll 0 = .ok (.aload_n 0, 1) := by decide +kernel
theorem dX8_sellAll_1 : decode cX8_sellAll 1 = .ok (.getfield 16, 3) := by decide +kernel
theorem dX8_sellAll_4 : decode cX8_sellAll 4 = .ok (.aload_n 0, 1) := by decide +kernel
theorem dX8_sellAll_5 : decode cX8_sellAll 5 = .ok (.getfield 10, 3) := by decide +kernel
theorem dX8_sellAll_8 : decode cX8_sellAll 8 = .ok (.invokevirtual 149, 3) := by decide +kernel
theorem dX8_sellAll_11 : decode cX8_sellAll 11 = .ok (.iconst 0, 1) := by decide +kernel
theorem dX8_sellAll_12 : decode cX8_sellAll 12 = .ok (.istore_n 1, 1) := by decide +kernel
theorem dX8_sellAll_13 : decode cX8_sellAll 13 = .ok (.iconst 0, 1) := by decide +kernel
theorem dX8_sellAll_14 : decode cX8_sellAll 14 = .ok (.istore_n 2, 1) := by decide +kernel
theorem dX8_sellAll_15 : decode cX8_sellAll 15 = .ok (.iload_n 2, 1) := by decide +kernel
theorem dX8_sellAll_16 : decode cX8_sellAll 16 = .ok (.bipush 10, 2) := by decide +kernel
theorem dX8_sellAll_18 : decode cX8_sellAll 18 = .ok (.if_icmp .ge 47, 3) := by decide +kernel
theorem dX8_sellAll_21 : decode cX8_sellAll 21 = .ok (.aload_n 0, 1) := by decide +kernel
theorem dX8_sellAll_22 : decode cX8_sellAll 22 = .ok (.getfield 16, 3) := by decide +kernel
theorem dX8_sellAll_25 : decode cX8_sellAll 25 = .ok (.aload_n 0, 1) := by decide +kernel
theorem dX8_sellAll_26 : decode cX8_sellAll 26 = .ok (.getfield 43, 3) := by decide +kernel
theorem dX8_sellAll_29 : decode cX8_sellAll 29 = .ok (.invokevirtual 167, 3) := by decide +kernel
theorem dX8_sellAll_32 : decode cX8_sellAll 32 = .ok (.ifCond .eq 33, 3) := by decide +kernel
theorem dX8_sellAll_35 : decode cX8_sellAll 35 = .ok (.iload_n 1, 1) := by decide +kernel
theorem dX8_sellAll_36 : decode cX8_sellAll 36 = .ok (.aload_n 0, 1) := by decide +kernel
theorem dX8_sellAll_37 : decode cX8_sellAll 37 = .ok (.getfield 16, 3) := by decide +kernel
theorem dX8_sellAll_40 : decode cX8_sellAll 40 = .ok (.aload_n 0, 1) := by decide +kernel
theorem dX8_sellAll_41 : decode cX8_sellAll 41 = .ok (.getfield 43, 3) := by decide +kernel
theorem dX8_sellAll_44 : decode cX8_sellAll 44 = .ok (.getfield 171, 3) := by decide +kernel
theorem dX8_sellAll_47 : decode cX8_sellAll 47 = .ok (.aload_n 0, 1) := by decide +kernel
theorem dX8_sellAll_48 : decode cX8_sellAll 48 = .ok (.getfield 43, 3) := by decide +kernel
theorem dX8_sellAll_51 : decode cX8_sellAll 51 = .ok (.getfield 174, 3) := by decide +kernel
theorem dX8_sellAll_54 : decode cX8_sellAll 54 = .ok (.invokevirtual 81, 3) := by decide +kernel
theorem dX8_sellAll_57 : decode cX8_sellAll 57 = .ok (.iadd, 1) := by decide +kernel
theorem dX8_sellAll_58 : decode cX8_sellAll 58 = .ok (.istore_n 1, 1) := by decide +kernel
theorem dX8_sellAll_59 : decode cX8_sellAll 59 = .ok (.iinc 2 1, 3) := by decide +kernel
theorem dX8_sellAll_62 : decode cX8_sellAll 62 = .ok (.goto (-47), 3) := by decide +kernel
theorem dX8_sellAll_65 : decode cX8_sellAll 65 = .ok (.iload_n 1, 1) := by decide +kernel
theorem dX8_sellAll_66 : decode cX8_sellAll 66 = .ok (.ireturn, 1) := by decide +kernel
theorem dX8_mean_0 : decode cX8_mean 0 = .ok (.aload_n 0, 1) := by decide +kernel
theorem dX8_mean_1 : decode cX8_mean 1 = .ok (.getfield 10, 3) := by decide +kernel
theorem dX8_mean_4 : decode cX8_mean 4 = .ok (.getfield 180, 3) := by decide +kernel
theorem dX8_mean_7 : decode cX8_mean 7 = .ok (.ifCond .gt 6, 3) := by decide +kernel
theorem dX8_mean_10 : decode cX8_mean 10 = .ok (.ldc 130, 2) := by decide +kernel
theorem dX8_mean_12 : decode cX8_mean 12 = .ok (.ireturn, 1) := by decide +kernel
theorem dX8_mean_13 : decode cX8_mean 13 = .ok (.aload_n 0, 1) := by decide +kernel
theorem dX8_mean_14 : decode cX8_mean 14 = .ok (.getfield 10, 3) := by decide +kernel
theorem dX8_mean_17 : decode cX8_mean 17 = .ok (.getfield 183, 3) := by decide +kernel
theorem dX8_mean_20 : decode cX8_mean 20 = .ok (.i2f, 1) := by decide +kernel
theorem dX8_mean_21 : decode cX8_mean 21 = .ok (.aload_n 0, 1) := by decide +kernel
theorem dX8_mean_22 : decode cX8_mean 22 = .ok (.getfield 10, 3) := by decide +kernel
theorem dX8_mean_25 : decode cX8_mean 25 = .ok (.getfield 180, 3) := by decide +kernel
theorem dX8_mean_28 : decode cX8_mean 28 = .ok (.i2f, 1) := by decide +kernel
theorem dX8_mean_29 : decode cX8_mean 29 = .ok (.fdiv, 1) := by decide +kernel
theorem dX8_mean_30 : decode cX8_mean 30 = .ok (.invokestatic 186, 3) := by decide +kernel
theorem dX8_mean_33 : decode cX8_mean 33 = .ok (.ireturn, 1) := by decide +kernel
theorem dX8_count_0 : decode cX8_count 0 = .ok (.iload_n 1, 1) := by decide +kernel
theorem dX8_count_1 : decode cX8_count 1 = .ok (.lookupswitch 43 #[(11, 27), (12, 35)], 27) := by decide +kernel
theorem dX8_count_28 : decode cX8_count 28 = .ok (.aload_n 0, 1) := by decide +kernel
theorem dX8_count_29 : decode cX8_count 29 = .ok (.getfield 22, 3) := by decide +kernel
theorem dX8_count_32 : decode cX8_count 32 = .ok (.getfield 190, 3) := by decide +kernel
theorem dX8_count_35 : decode cX8_count 35 = .ok (.ireturn, 1) := by decide +kernel
theorem dX8_count_36 : decode cX8_count 36 = .ok (.aload_n 0, 1) := by decide +kernel
theorem dX8_count_37 : decode cX8_count 37 = .ok (.getfield 29, 3) := by decide +kernel
theorem dX8_count_40 : decode cX8_count 40 = .ok (.getfield 193, 3) := by decide +kernel
theorem dX8_count_43 : decode cX8_count 43 = .ok (.ireturn, 1) := by decide +kernel
theorem dX8_count_44 : decode cX8_count 44 = .ok (.aload_n 0, 1) := by decide +kernel
theorem dX8_count_45 : decode cX8_count 45 = .ok (.getfield 10, 3) := by decide +kernel
theorem dX8_count_48 : decode cX8_count 48 = .ok (.iload_n 1, 1) := by decide +kernel
theorem dX8_count_49 : decode cX8_count 49 = .ok (.invokevirtual 196, 3) := by decide +kernel
theorem dX8_count_52 : decode cX8_count 52 = .ok (.ireturn, 1) := by decide +kernel
theorem dX8_undo_0 : decode cX8_undo 0 = .ok (.aload_n 0, 1) := by decide +kernel
theorem dX8_undo_1 : decode cX8_undo 1 = .ok (.getfield 22, 3) := by decide +kernel
theorem dX8_undo_4 : decode cX8_undo 4 = .ok (.aload_n 0, 1) := by decide +kernel
theorem dX8_undo_5 : decode cX8_undo 5 = .ok (.getfield 10, 3) := by decide +kernel
theorem dX8_undo_8 : decode cX8_undo 8 = .ok (.invokevirtual 199, 3) := by decide +kernel
theorem dX8_undo_11 : decode cX8_undo 11 = .ok (.ireturn, 1) := by decide +kernel
theorem dX8_type_0 : decode cX8_type 0 = .ok (.aload_n 0, 1) := by decide +kernel
theorem dX8_type_1 : decode cX8_type 1 = .ok (.getfield 29, 3) := by decide +kernel
theorem dX8_type_4 : decode cX8_type 4 = .ok (.iload_n 1, 1) := by decide +kernel
theorem dX8_type_5 : decode cX8_type 5 = .ok (.invokevirtual 203, 3) := by decide +kernel
theorem dX8_type_8 : decode cX8_type 8 = .ok (.ireturn, 1) := by decide +kernel
theorem dX8_clearText_0 : decode cX8_clearText 0 = .ok (.aload_n 0, 1) := by decide +kernel
theorem dX8_clearText_1 : decode cX8_clearText 1 = .ok (.getfield 29, 3) := by decide +kernel
theorem dX8_clearText_4 : decode cX8_clearText 4 = .ok (.getfield 193, 3) := by decide +kernel
theorem dX8_clearText_7 : decode cX8_clearText 7 = .ok (.istore_n 1, 1) := by decide +kernel
theorem dX8_clearText_8 : decode cX8_clearText 8 = .ok (.aload_n 0, 1) := by decide +kernel
theorem dX8_clearText_9 : decode cX8_clearText 9 = .ok (.getfield 29, 3) := by decide +kernel
theorem dX8_clearText_12 : decode cX8_clearText 12 = .ok (.iconst 0, 1) := by decide +kernel
theorem dX8_clearText_13 : decode cX8_clearText 13 = .ok (.putfield 193, 3) := by decide +kernel
theorem dX8_clearText_16 : decode cX8_clearText 16 = .ok (.iload_n 1, 1) := by decide +kernel
theorem dX8_clearText_17 : decode cX8_clearText 17 = .ok (.ireturn, 1) := by decide +kernel
theorem dX8_fault_0 : decode cX8_fault 0 = .ok (.iload_n 1, 1) := by decide +kernel
theorem dX8_fault_1 : decode cX8_fault 1 = .ok (.iconst 0, 1) := by decide +kernel
theorem dX8_fault_2 : decode cX8_fault 2 = .ok (.iconst 2, 1) := by decide +kernel
theorem dX8_fault_3 : decode cX8_fault 3 = .ok (.invokestatic 138, 3) := by decide +kernel
theorem dX8_fault_6 : decode cX8_fault 6 = .ok (.ifCond .ne 6, 3) := by decide +kernel
theorem dX8_fault_9 : decode cX8_fault 9 = .ok (.ldc 118, 2) := by decide +kernel
theorem dX8_fault_11 : decode cX8_fault 11 = .ok (.ireturn, 1) := by decide +kernel
theorem dX8_fault_12 : decode cX8_fault 12 = .ok (.aload_n 0, 1) := by decide +kernel
theorem dX8_fault_13 : decode cX8_fault 13 = .ok (.getfield 16, 3) := by decide +kernel
theorem dX8_fault_16 : decode cX8_fault 16 = .ok (.aload_n 0, 1) := by decide +kernel
theorem dX8_fault_17 : decode cX8_fault 17 = .ok (.getfield 10, 3) := by decide +kernel
theorem dX8_fault_20 : decode cX8_fault 20 = .ok (.invokevirtual 149, 3) := by decide +kernel
theorem dX8_fault_23 : decode cX8_fault 23 = .ok (.aload_n 0, 1) := by decide +kernel
theorem dX8_fault_24 : decode cX8_fault 24 = .ok (.getfield 36, 3) := by decide +kernel
theorem dX8_fault_27 : decode cX8_fault 27 = .ok (.aload_n 0, 1) := by decide +kernel
theorem dX8_fault_28 : decode cX8_fault 28 = .ok (.getfield 29, 3) := by decide +kernel
theorem dX8_fault_31 : decode cX8_fault 31 = .ok (.aload_n 0, 1) := by decide +kernel
theorem dX8_fault_32 : decode cX8_fault 32 = .ok (.getfield 16, 3) := by decide +kernel
theorem dX8_fault_35 : decode cX8_fault 35 = .ok (.invokevirtual 206, 3) := by decide +kernel
theorem dX8_fault_38 : decode cX8_fault 38 = .ok (.aload_n 0, 1) := by decide +kernel
theorem dX8_fault_39 : decode cX8_fault 39 = .ok (.getfield 36, 3) := by decide +kernel
theorem dX8_fault_42 : decode cX8_fault 42 = .ok (.getfield 210, 3) := by decide +kernel
theorem dX8_fault_45 : decode cX8_fault 45 = .ok (.iconst (-1), 1) := by decide +kernel
theorem dX8_fault_46 : decode cX8_fault 46 = .ok (.if_icmp .ne 6, 3) := by decide +kernel
theorem dX8_fault_49 : decode cX8_fault 49 = .ok (.ldc 130, 2) := by decide +kernel
theorem dX8_fault_51 : decode cX8_fault 51 = .ok (.ireturn, 1) := by decide +kernel
theorem dX8_fault_52 : decode cX8_fault 52 = .ok (.iload_n 1, 1) := by decide +kernel
theorem dX8_fault_53 : decode cX8_fault 53 = .ok (.lookupswitch 43 #[(0, 27), (1, 35)], 27) := by decide +kernel
theorem dX8_fault_80 : decode cX8_fault 80 = .ok (.aload_n 0, 1) := by decide +kernel
theorem dX8_fault_81 : decode cX8_fault 81 = .ok (.getfield 36, 3) := by decide +kernel
theorem dX8_fault_84 : decode cX8_fault 84 = .ok (.getfield 210, 3) := by decide +kernel
theorem dX8_fault_87 : decode cX8_fault 87 = .ok (.ireturn, 1) := by decide +kernel
theorem dX8_fault_88 : decode cX8_fault 88 = .ok (.aload_n 0, 1) := by decide +kernel
theorem dX8_fault_89 : decode cX8_fault 89 = .ok (.getfield 36, 3) := by decide +kernel
theorem dX8_fault_92 : decode cX8_fault 92 = .ok (.getfield 213, 3) := by decide +kernel
theorem dX8_fault_95 : decode cX8_fault 95 = .ok (.ireturn, 1) := by decide +kernel
theorem dX8_fault_96 : decode cX8_fault 96 = .ok (.aload_n 0, 1) := by decide +kernel
theorem dX8_fault_97 : decode cX8_fault 97 = .ok (.getfield 36, 3) := by decide +kernel
theorem dX8_fault_100 : decode cX8_fault 100 = .ok (.getfield 216, 3) := by decide +kernel
theorem dX8_fault_103 : decode cX8_fault 103 = .ok (.ireturn, 1) := by decide +kernel
theorem dX8_play_0 : decode cX8_play 0 = .ok (.aload_n 0, 1) := by decide +kernel
theorem dX8_play_1 : decode cX8_play 1 = .ok (.getfield 16, 3) := by decide +kernel
theorem dX8_play_4 : decode cX8_play 4 = .ok (.aload_n 0, 1) := by decide +kernel
theorem dX8_play_5 : decode cX8_play 5 = .ok (.getfield 10, 3) := by decide +kernel
theorem dX8_play_8 : decode cX8_play 8 = .ok (.invokevirtual 149, 3) := by decide +kernel
theorem dX8_play_11 : decode cX8_play 11 = .ok (.aload_n 0, 1) := by decide +kernel
theorem dX8_play_12 : decode cX8_play 12 = .ok (.getfield 36, 3) := by decide +kernel
theorem dX8_play_15 : decode cX8_play 15 = .ok (.aload_n 0, 1) := by decide +kernel
theorem dX8_play_16 : decode cX8_play 16 = .ok (.getfield 29, 3) := by decide +kernel
theorem dX8_play_19 : decode cX8_play 19 = .ok (.aload_n 0, 1) := by decide +kernel
theorem dX8_play_20 : decode cX8_play 20 = .ok (.getfield 16, 3) := by decide +kernel
theorem dX8_play_23 : decode cX8_play 23 = .ok (.invokevirtual 206, 3) := by decide +kernel
theorem dX8_play_26 : decode cX8_play 26 = .ok (.aload_n 0, 1) := by decide +kernel
theorem dX8_play_27 : decode cX8_play 27 = .ok (.getfield 36, 3) := by decide +kernel
theorem dX8_play_30 : decode cX8_play 30 = .ok (.getfield 210, 3) := by decide +kernel
theorem dX8_play_33 : decode cX8_play 33 = .ok (.iconst (-1), 1) := by decide +kernel
theorem dX8_play_34 : decode cX8_play 34 = .ok (.if_icmp .eq 6, 3) := by decide +kernel
theorem dX8_play_37 : decode cX8_play 37 = .ok (.ldc 219, 2) := by decide +kernel
theorem dX8_play_39 : decode cX8_play 39 = .ok (.ireturn, 1) := by decide +kernel
theorem dX8_play_40 : decode cX8_play 40 = .ok (.aload_n 0, 1) := by decide +kernel
theorem dX8_play_41 : decode cX8_play 41 = .ok (.getfield 22, 3) := by decide +kernel
theorem dX8_play_44 : decode cX8_play 44 = .ok (.aload_n 0, 1) := by decide +kernel
theorem dX8_play_45 : decode cX8_play 45 = .ok (.getfield 10, 3) := by decide +kernel
theorem dX8_play_48 : decode cX8_play 48 = .ok (.invokevirtual 47, 3) := by decide +kernel
theorem dX8_play_51 : decode cX8_play 51 = .ok (.aload_n 0, 1) := by decide +kernel
theorem dX8_play_52 : decode cX8_play 52 = .ok (.getfield 10, 3) := by decide +kernel
theorem dX8_play_55 : decode cX8_play 55 = .ok (.aload_n 0, 1) := by decide +kernel
theorem dX8_play_56 : decode cX8_play 56 = .ok (.getfield 16, 3) := by decide +kernel
theorem dX8_play_59 : decode cX8_play 59 = .ok (.invokevirtual 149, 3) := by decide +kernel
theorem dX8_play_62 : decode cX8_play 62 = .ok (.aload_n 0, 1) := by decide +kernel
theorem dX8_play_63 : decode cX8_play 63 = .ok (.getfield 22, 3) := by decide +kernel
theorem dX8_play_66 : decode cX8_play 66 = .ok (.aload_n 0, 1) := by decide +kernel
theorem dX8_play_67 : decode cX8_play 67 = .ok (.getfield 36, 3) := by decide +kernel
theorem dX8_play_70 : decode cX8_play 70 = .ok (.getfield 220, 3) := by decide +kernel
theorem dX8_play_73 : decode cX8_play 73 = .ok (.invokevirtual 55, 3) := by decide +kernel
theorem dX8_play_76 : decode cX8_play 76 = .ok (.ireturn, 1) := by decide +kernel
theorem dX8_isWithin_0 : decode cX8_isWithin 0 = .ok (.iload_n 0, 1) := by decide +kernel
theorem dX8_isWithin_1 : decode cX8_isWithin 1 = .ok (.iload_n 1, 1) := by decide +kernel
theorem dX8_isWithin_2 : decode cX8_isWithin 2 = .ok (.if_icmp .lt 12, 3) := by decide +kernel
theorem dX8_isWithin_5 : decode cX8_isWithin 5 = .ok (.iload_n 0, 1) := by decide +kernel
theorem dX8_isWithin_6 : decode cX8_isWithin 6 = .ok (.iload_n 2, 1) := by decide +kernel
theorem dX8_isWithin_7 : decode cX8_isWithin 7 = .ok (.if_icmp .gt 7, 3) := by decide +kernel
theorem dX8_isWithin_10 : decode cX8_isWithin 10 = .ok (.iconst 1, 1) := by decide +kernel
theorem dX8_isWithin_11 : decode cX8_isWithin 11 = .ok (.goto 4, 3) := by decide +kernel
theorem dX8_isWithin_14 : decode cX8_isWithin 14 = .ok (.iconst 0, 1) := by decide +kernel
theorem dX8_isWithin_15 : decode cX8_isWithin 15 = .ok (.ireturn, 1) := by decide +kernel
theorem dX8_hasBit_0 : decode cX8_hasBit 0 = .ok (.iload_n 0, 1) := by decide +kernel
theorem dX8_hasBit_1 : decode cX8_hasBit 1 = .ok (.iload_n 1, 1) := by decide +kernel
theorem dX8_hasBit_2 : decode cX8_hasBit 2 = .ok (.ishr, 1) := by decide +kernel
theorem dX8_hasBit_3 : decode cX8_hasBit 3 = .ok (.iconst 1, 1) := by decide +kernel
theorem dX8_hasBit_4 : decode cX8_hasBit 4 = .ok (.iand, 1) := by decide +kernel
theorem dX8_hasBit_5 : decode cX8_hasBit 5 = .ok (.ifCond .eq 7, 3) := by decide +kernel
theorem dX8_hasBit_8 : decode cX8_hasBit 8 = .ok (.iconst 1, 1) := by decide +kernel
theorem dX8_hasBit_9 : decode cX8_hasBit 9 = .ok (.goto 4, 3) := by decide +kernel
theorem dX8_hasBit_12 : decode cX8_hasBit 12 = .ok (.iconst 0, 1) := by decide +kernel
theorem dX8_hasBit_13 : decode cX8_hasBit 13 = .ok (.ireturn, 1) := by decide +kernel
theorem dX8_copyRow_0 : decode cX8_copyRow 0 = .ok (.aload_n 0, 1) := by decide +kernel
theorem dX8_copyRow_1 : decode cX8_copyRow 1 = .ok (.iconst 0, 1) := by decide +kernel
theorem dX8_copyRow_2 : decode cX8_copyRow 2 = .ok (.aload_n 1, 1) := by decide +kernel
theorem dX8_copyRow_3 : decode cX8_copyRow 3 = .ok (.iconst 0, 1) := by decide +kernel
theorem dX8_copyRow_4 : decode cX8_copyRow 4 = .ok (.aload_n 0, 1) := by decide +kernel
theorem dX8_copyRow_5 : decode cX8_copyRow 5 = .ok (.arraylength, 1) := by decide +kernel
theorem dX8_copyRow_6 : decode cX8_copyRow 6 = .ok (.aload_n 1, 1) := by decide +kernel
theorem dX8_copyRow_7 : decode cX8_copyRow 7 = .ok (.arraylength, 1) := by decide +kernel
theorem dX8_copyRow_8 : decode cX8_copyRow 8 = .ok (.invokestatic 223, 3) := by decide +kernel
theorem dX8_copyRow_11 : decode cX8_copyRow 11 = .ok (.invokestatic 228, 3) := by decide +kernel
theorem dX8_copyRow_14 : decode cX8_copyRow 14 = .ok (.return_, 1) := by decide +kernel
theorem dX8_bitsOf_0 : decode cX8_bitsOf 0 = .ok (.fload_n 0, 1) := by decide +kernel
theorem dX8_bitsOf_1 : decode cX8_bitsOf 1 = .ok (.fconst 0, 1) := by decide +kernel
theorem dX8_bitsOf_2 : decode cX8_bitsOf 2 = .ok (.fcmp .g, 1) := by decide +kernel
theorem dX8_bitsOf_3 : decode cX8_bitsOf 3 = .ok (.ifCond .gt 5, 3) := by decide +kernel
theorem dX8_bitsOf_6 : decode cX8_bitsOf 6 = .ok (.iconst 0, 1) := by decide +kernel
theorem dX8_bitsOf_7 : decode cX8_bitsOf 7 = .ok (.ireturn, 1) := by decide +kernel
theorem dX8_bitsOf_8 : decode cX8_bitsOf 8 = .ok (.fload_n 0, 1) := by decide +kernel
theorem dX8_bitsOf_9 : decode cX8_bitsOf 9 = .ok (.fstore_n 1, 1) := by decide +kernel
theorem dX8_bitsOf_10 : decode cX8_bitsOf 10 = .ok (.bipush 127, 2) := by decide +kernel
theorem dX8_bitsOf_12 : decode cX8_bitsOf 12 = .ok (.istore_n 2, 1) := by decide +kernel
theorem dX8_bitsOf_13 : decode cX8_bitsOf 13 = .ok (.iconst 0, 1) := by decide +kernel
theorem dX8_bitsOf_14 : decode cX8_bitsOf 14 = .ok (.istore_n 3, 1) := by decide +kernel
theorem dX8_bitsOf_15 : decode cX8_bitsOf 15 = .ok (.iload_n 3, 1) := by decide +kernel
theorem dX8_bitsOf_16 : decode cX8_bitsOf 16 = .ok (.bipush 127, 2) := by decide +kernel
theorem dX8_bitsOf_18 : decode cX8_bitsOf 18 = .ok (.if_icmp .ge 22, 3) := by decide +kernel
theorem dX8_bitsOf_21 : decode cX8_bitsOf 21 = .ok (.fload_n 1, 1) := by decide +kernel
theorem dX8_bitsOf_22 : decode cX8_bitsOf 22 = .ok (.fconst 2, 1) := by decide +kernel
theorem dX8_bitsOf_23 : decode cX8_bitsOf 23 = .ok (.fcmp .l, 1) := by decide +kernel
theorem dX8_bitsOf_24 : decode cX8_bitsOf 24 = .ok (.ifCond .lt 16, 3) := by decide +kernel
theorem dX8_bitsOf_27 : decode cX8_bitsOf 27 = .ok (.fload_n 1, 1) := by decide +kernel
theorem dX8_bitsOf_28 : decode cX8_bitsOf 28 = .ok (.fconst 2, 1) := by decide +kernel
theorem dX8_bitsOf_29 : decode cX8_bitsOf 29 = .ok (.fdiv, 1) := by decide +kernel
theorem dX8_bitsOf_30 : decode cX8_bitsOf 30 = .ok (.fstore_n 1, 1) := by decide +kernel
theorem dX8_bitsOf_31 : decode cX8_bitsOf 31 = .ok (.iinc 2 1, 3) := by decide +kernel
theorem dX8_bitsOf_34 : decode cX8_bitsOf 34 = .ok (.iinc 3 1, 3) := by decide +kernel
theorem dX8_bitsOf_37 : decode cX8_bitsOf 37 = .ok (.goto (-22), 3) := by decide +kernel
theorem dX8_bitsOf_40 : decode cX8_bitsOf 40 = .ok (.iconst 0, 1) := by decide +kernel
theorem dX8_bitsOf_41 : decode cX8_bitsOf 41 = .ok (.istore_n 3, 1) := by decide +kernel
theorem dX8_bitsOf_42 : decode cX8_bitsOf 42 = .ok (.iload_n 3, 1) := by decide +kernel
theorem dX8_bitsOf_43 : decode cX8_bitsOf 43 = .ok (.bipush 126, 2) := by decide +kernel
theorem dX8_bitsOf_45 : decode cX8_bitsOf 45 = .ok (.if_icmp .ge 22, 3) := by decide +kernel
theorem dX8_bitsOf_48 : decode cX8_bitsOf 48 = .ok (.fload_n 1, 1) := by decide +kernel
theorem dX8_bitsOf_49 : decode cX8_bitsOf 49 = .ok (.fconst 1, 1) := by decide +kernel
theorem dX8_bitsOf_50 : decode cX8_bitsOf 50 = .ok (.fcmp .g, 1) := by decide +kernel
theorem dX8_bitsOf_51 : decode cX8_bitsOf 51 = .ok (.ifCond .ge 16, 3) := by decide +kernel
theorem dX8_bitsOf_54 : decode cX8_bitsOf 54 = .ok (.fload_n 1, 1) := by decide +kernel
theorem dX8_bitsOf_55 : decode cX8_bitsOf 55 = .ok (.fconst 2, 1) := by decide +kernel
theorem dX8_bitsOf_56 : decode cX8_bitsOf 56 = .ok (.fmul, 1) := by decide +kernel
theorem dX8_bitsOf_57 : decode cX8_bitsOf 57 = .ok (.fstore_n 1, 1) := by decide +kernel
theorem dX8_bitsOf_58 : decode cX8_bitsOf 58 = .ok (.iinc 2 (-1), 3) := by decide +kernel
theorem dX8_bitsOf_61 : decode cX8_bitsOf 61 = .ok (.iinc 3 1, 3) := by decide +kernel
theorem dX8_bitsOf_64 : decode cX8_bitsOf 64 = .ok (.goto (-22), 3) := by decide +kernel
theorem dX8_bitsOf_67 : decode cX8_bitsOf 67 = .ok (.iload_n 2, 1) := by decide +kernel
theorem dX8_bitsOf_68 : decode cX8_bitsOf 68 = .ok (.bipush 23, 2) := by decide +kernel
theorem dX8_bitsOf_70 : decode cX8_bitsOf 70 = .ok (.ishl, 1) := by decide +kernel
theorem dX8_bitsOf_71 : decode cX8_bitsOf 71 = .ok (.fload_n 1, 1) := by decide +kernel
theorem dX8_bitsOf_72 : decode cX8_bitsOf 72 = .ok (.fconst 1, 1) := by decide +kernel
theorem dX8_bitsOf_73 : decode cX8_bitsOf 73 = .ok (.fsub, 1) := by decide +kernel
theorem dX8_bitsOf_74 : decode cX8_bitsOf 74 = .ok (.ldc 234, 2) := by decide +kernel
theorem dX8_bitsOf_76 : decode cX8_bitsOf 76 = .ok (.fmul, 1) := by decide +kernel
theorem dX8_bitsOf_77 : decode cX8_bitsOf 77 = .ok (.f2i, 1) := by decide +kernel
theorem dX8_bitsOf_78 : decode cX8_bitsOf 78 = .ok (.iadd, 1) := by decide +kernel
theorem dX8_bitsOf_79 : decode cX8_bitsOf 79 = .ok (.ireturn, 1) := by decide +kernel
theorem dX9_init_0 : decode cX9_init 0 = .ok (.aload_n 0, 1) := by decide +kernel
theorem dX9_init_1 : decode cX9_init 1 = .ok (.invokespecial 1, 3) := by decide +kernel
theorem dX9_init_4 : decode cX9_init 4 = .ok (.aload_n 0, 1) := by decide +kernel
theorem dX9_init_5 : decode cX9_init 5 = .ok (.sipush 183, 3) := by decide +kernel
theorem dX9_init_8 : decode cX9_init 8 = .ok (.newarray .int, 2) := by decide +kernel
theorem dX9_init_10 : decode cX9_init 10 = .ok (.putfield 7, 3) := by decide +kernel
theorem dX9_init_13 : decode cX9_init 13 = .ok (.aload_n 0, 1) := by decide +kernel
theorem dX9_init_14 : decode cX9_init 14 = .ok (.sipush 732, 3) := by decide +kernel
theorem dX9_init_17 : decode cX9_init 17 = .ok (.newarray .int, 2) := by decide +kernel
theorem dX9_init_19 : decode cX9_init 19 = .ok (.putfield 13, 3) := by decide +kernel
theorem dX9_init_22 : decode cX9_init 22 = .ok (.aload_n 0, 1) := by decide +kernel
theorem dX9_init_23 : decode cX9_init 23 = .ok (.sipush 183, 3) := by decide +kernel
theorem dX9_init_26 : decode cX9_init 26 = .ok (.newarray .int, 2) := by decide +kernel
theorem dX9_init_28 : decode cX9_init 28 = .ok (.putfield 16, 3) := by decide +kernel
theorem dX9_init_31 : decode cX9_init 31 = .ok (.aload_n 0, 1) := by decide +kernel
theorem dX9_init_32 : decode cX9_init 32 = .ok (.sipush 183, 3) := by decide +kernel
theorem dX9_init_35 : decode cX9_init 35 = .ok (.newarray .int, 2) := by decide +kernel
theorem dX9_init_37 : decode cX9_init 37 = .ok (.putfield 19, 3) := by decide +kernel
theorem dX9_init_40 : decode cX9_init 40 = .ok (.aload_n 0, 1) := by decide +kernel
theorem dX9_init_41 : decode cX9_init 41 = .ok (.bipush 60, 2) := by decide +kernel
theorem dX9_init_43 : decode cX9_init 43 = .ok (.newarray .int, 2) := by decide +kernel
theorem dX9_init_45 : decode cX9_init 45 = .ok (.putfield 22, 3) := by decide +kernel
theorem dX9_init_48 : decode cX9_init 48 = .ok (.aload_n 0, 1) := by decide +kernel
theorem dX9_init_49 : decode cX9_init 49 = .ok (.iconst 2, 1) := by decide +kernel
theorem dX9_init_50 : decode cX9_init 50 = .ok (.newarray .int, 2) := by decide +kernel
theorem dX9_init_52 : decode cX9_init 52 = .ok (.putfield 25, 3) := by decide +kernel
theorem dX9_init_55 : decode cX9_init 55 = .ok (.aload_n 0, 1) := by decide +kernel
theorem dX9_init_56 : decode cX9_init 56 = .ok (.getfield 7, 3) := by decide +kernel
theorem dX9_init_59 : decode cX9_init 59 = .ok (.iconst 5, 1) := by decide +kernel
theorem dX9_init_60 : decode cX9_init 60 = .ok (.iconst (-1), 1) := by decide +kernel
theorem dX9_init_61 : decode cX9_init 61 = .ok (.iastore, 1) := by decide +kernel
theorem dX9_init_62 : decode cX9_init 62 = .ok (.aload_n 0, 1) := by decide +kernel
theorem dX9_init_63 : decode cX9_init 63 = .ok (.getfield 7, 3) := by decide +kernel
theorem dX9_init_66 : decode cX9_init 66 = .ok (.bipush 9, 2) := by decide +kernel
theorem dX9_init_68 : decode cX9_init 68 = .ok (.bipush 40, 2) := by decide +kernel
theorem dX9_init_70 : decode cX9_init 70 = .ok (.iastore, 1) := by decide +kernel
theorem dX9_init_71 : decode cX9_init 71 = .ok (.aload_n 0, 1) := by decide +kernel
theorem dX9_init_72 : decode cX9_init 72 = .ok (.getfield 7, 3) := by decide +kernel
theorem dX9_init_75 : decode cX9_init 75 = .ok (.bipush 10, 2) := by decide +kernel
theorem dX9_init_77 : decode cX9_init 77 = .ok (.bipush 10, 2) := by decide +kernel
theorem dX9_init_79 : decode cX9_init 79 = .ok (.iastore, 1) := by decide +kernel
theorem dX9_init_80 : decode cX9_init 80 = .ok (.return_, 1) := by decide +kernel
theorem dX9_in_0 : decode cX9_in 0 = .ok (.iload_n 0, 1) := by decide +kernel
theorem dX9_in_1 : decode cX9_in 1 = .ok (.iload_n 1, 1) := by decide +kernel
theorem dX9_in_2 : decode cX9_in 2 = .ok (.if_icmp .lt 12, 3) := by decide +kernel
theorem dX9_in_5 : decode cX9_in 5 = .ok (.iload_n 0, 1) := by decide +kernel
theorem dX9_in_6 : decode cX9_in 6 = .ok (.iload_n 2, 1) := by decide +kernel
theorem dX9_in_7 : decode cX9_in 7 = .ok (.if_icmp .gt 7, 3) := by decide +kernel
theorem dX9_in_10 : decode cX9_in 10 = .ok (.iconst 1, 1) := by decide +kernel
theorem dX9_in_11 : decode cX9_in 11 = .ok (.goto 4, 3) := by decide +kernel
theorem dX9_in_14 : decode cX9_in 14 = .ok (.iconst 0, 1) := by decide +kernel
theorem dX9_in_15 : decode cX9_in 15 = .ok (.ireturn, 1) := by decide +kernel
theorem dX9_copies_0 : decode cX9_copies 0 = .ok (.iconst 0, 1) := by decide +kernel
theorem dX9_copies_1 : decode cX9_copies 1 = .ok (.istore_n 2, 1) := by decide +kernel
theorem dX9_copies_2 : decode cX9_copies 2 = .ok (.iload_n 2, 1) := by decide +kernel
theorem dX9_copies_3 : decode cX9_copies 3 = .ok (.sipush 183, 3) := by decide +kernel
theorem dX9_copies_6 : decode cX9_copies 6 = .ok (.if_icmp .ge 15, 3) := by decide +kernel
theorem dX9_copies_9 : decode cX9_copies 9 = .ok (.aload_n 1, 1) := by decide +kernel
theorem dX9_copies_10 : decode cX9_copies 10 = .ok (.iload_n 2, 1) := by decide +kernel
theorem dX9_copies_11 : decode cX9_copies 11 = .ok (.aload_n 0, 1) := by decide +kernel
theorem dX9_copies_12 : decode cX9_copies 12 = .ok (.iload_n 2, 1) := by decide +kernel
theorem dX9_copies_13 : decode cX9_copies 13 = .ok (.iaload, 1) := by decide +kernel
theorem dX9_copies_14 : decode cX9_copies 14 = .ok (.iastore, 1) := by decide +kernel
theorem dX9_copies_15 : decode cX9_copies 15 = .ok (.iinc 2 1, 3) := by decide +kernel
theorem dX9_copies_18 : decode cX9_copies 18 = .ok (.goto (-16), 3) := by decide +kernel
theorem dX9_copies_21 : decode cX9_copies 21 = .ok (.return_, 1) := by decide +kernel
theorem dX9_changes_0 : decode cX9_changes 0 = .ok (.aload_n 0, 1) := by decide +kernel
theorem dX9_changes_1 : decode cX9_changes 1 = .ok (.getfield 28, 3) := by decide +kernel
theorem dX9_changes_4 : decode cX9_changes 4 = .ok (.ifCond .eq 4, 3) := by decide +kernel
theorem dX9_changes_7 : decode cX9_changes 7 = .ok (.return_, 1) := by decide +kernel
theorem dX9_changes_8 : decode cX9_changes 8 = .ok (.aload_n 0, 1) := by decide +kernel
theorem dX9_changes_9 : decode cX9_changes 9 = .ok (.getfield 32, 3) := by decide +kernel
theorem dX9_changes_12 : decode cX9_changes 12 = .ok (.iconst 4, 1) := by decide +kernel
theorem dX9_changes_13 : decode cX9_changes 13 = .ok (.if_icmp .ne 44, 3) := by decide +kernel
theorem dX9_changes_16 : decode cX9_changes 16 = .ok (.iconst 0, 1) := by decide +kernel
theorem dX9_changes_17 : decode cX9_changes 17 = .ok (.istore_n 1, 1) := by decide +kernel
theorem dX9_changes_18 : decode cX9_changes 18 = .ok (.iload_n 1, 1) := by decide +kernel
theorem dX9_changes_19 : decode cX9_changes 19 = .ok (.sipush 549, 3) := by decide +kernel
theorem dX9_changes_22 : decode cX9_changes 22 = .ok (.if_icmp .ge 25, 3) := by decide +kernel
theorem dX9_changes_25 : decode cX9_changes 25 = .ok (.aload_n 0, 1) := by decide +kernel
theorem dX9_changes_26 : decode cX9_changes 26 = .ok (.getfield 13, 3) := by decide +kernel
theorem dX9_changes_29 : decode cX9_changes 29 = .ok (.iload_n 1, 1) := by decide +kernel
theorem dX9_changes_30 : decode cX9_changes 30 = .ok (.aload_n 0, 1) := by decide +kernel
theorem dX9_changes_31 : decode cX9_changes 31 = .ok (.getfield 13, 3) := by decide +kernel
theorem dX9_changes_34 : decode cX9_changes 34 = .ok (.iload_n 1, 1) := by decide +kernel
theorem dX9_changes_35 : decode cX9_changes 35 = .ok (.sipush 183, 3) := by decide +kernel
theorem dX9_changes_38 : decode cX9_changes 38 = .ok (.iadd, 1) := by decide +kernel
theorem dX9_changes_39 : decode cX9_changes 39 = .ok (.iaload, 1) := by decide +kernel
theorem dX9_changes_40 : decode cX9_changes 40 = .ok (.iastore, 1) := by decide +kernel
theorem dX9_changes_41 : decode cX9_changes 41 = .ok (.iinc 1 1, 3) := by decide +kernel
theorem dX9_changes_44 : decode cX9_changes 44 = .ok (.goto (-26), 3) := by decide +kernel
theorem dX9_changes_47 : decode cX9_changes 47 = .ok (.aload_n 0, 1) := by decide +kernel
theorem dX9_changes_48 : decode cX9_changes 48 = .ok (.dup, 1) := by decide +kernel
theorem dX9_changes_49 : decode cX9_changes 49 = .ok (.getfield 32, 3) := by decide +kernel
theorem dX9_changes_52 : decode cX9_changes 52 = .ok (.iconst 1, 1) := by decide +kernel
theorem dX9_changes_53 : decode cX9_changes 53 = .ok (.isub, 1) := by decide +kernel
theorem dX9_changes_54 : decode cX9_changes 54 = .ok (.putfield 32, 3) := by decide +kernel
theorem dX9_changes_57 : decode cX9_changes 57 = .ok (.iconst 0, 1) := by decide +kernel
theorem dX9_changes_58 : decode cX9_changes 58 = .ok (.istore_n 1, 1) := by decide +kernel
theorem dX9_changes_59 : decode cX9_changes 59 = .ok (.iload_n 1, 1) := by decide +kernel
theorem dX9_changes_60 : decode cX9_changes 60 = .ok (.sipush 183, 3) := by decide +kernel
theorem dX9_changes_63 : decode cX9_changes 63 = .ok (.if_icmp .ge 30, 3) := by decide +kernel
theorem dX9_changes_66 : decode cX9_changes 66 = .ok (.aload_n 0, 1) := by decide +kernel
theorem dX9_changes_67 : decode cX9_changes 67 = .ok (.getfield 13, 3) := by decide +kernel
theorem dX9_changes_70 : decode cX9_changes 70 = .ok (.sipush 183, 3) := by decide +kernel
theorem dX9_changes_73 : decode cX9_changes 73 = .ok (.aload_n 0, 1) := by decide +kernel
theorem dX9_changes_74 : decode cX9_changes 74 = .ok (.getfield 32, 3) := by decide +kernel
theorem dX9_changes_77 : decode cX9_changes 77 = .ok (.imul, 1) := by decide +kernel
theorem dX9_changes_78 : decode cX9_changes 78 = .ok (.iload_n 1, 1) := by decide +kernel
theorem dX9_changes_79 : decode cX9_changes 79 = .ok (.iadd, 1) := by decide +kernel
theorem dX9_changes_80 : decode cX9_changes 80 = .ok (.aload_n 0, 1) := by decide +kernel
theorem dX9_changes_81 : decode cX9_changes 81 = .ok (.getfield 7, 3) := by decide +kernel
theorem dX9_changes_84 : decode cX9_changes 84 = .ok (.iload_n 1, 1) := by decide +kernel
theorem dX9_changes_85 : decode cX9_changes 85 = .ok (.iaload, 1) := by decide +kernel
theorem dX9_changes_86 : decode cX9_changes 86 = .ok (.iastore, 1) := by decide +kernel
theorem dX9_changes_87 : decode cX9_changes 87 = .ok (.iinc 1 1, 3) := by decide +kernel
theorem dX9_changes_90 : decode cX9_changes 90 = .ok (.goto (-31), 3) := by decide +kernel
theorem dX9_changes_93 : decode cX9_changes 93 = .ok (.aload_n 0, 1) := by decide +kernel
theorem dX9_changes_94 : decode cX9_changes 94 = .ok (.dup, 1) := by decide +kernel
theorem dX9_changes_95 : decode cX9_changes 95 = .ok (.getfield 32, 3) := by decide +kernel
theorem dX9_changes_98 : decode cX9_changes 98 = .ok (.iconst 1, 1) := by decide +kernel
theorem dX9_changes_99 : decode cX9_changes 99 = .ok (.iadd, 1) := by decide +kernel
theorem dX9_changes_100 : decode cX9_changes 100 = .ok (.putfield 32, 3) := by decide +kernel
theorem dX9_changes_103 : decode cX9_changes 103 = .ok (.return_, 1) := by decide +kernel
theorem dX9_ones_0 : decode cX9_ones 0 = .ok (.iconst 0, 1) := by decide +kernel
theorem dX9_ones_1 : decode cX9_ones 1 = .ok (.istore_n 1, 1) := by decide +kernel
theorem dX9_ones_2 : decode cX9_ones 2 = .ok (.iload_n 0, 1) := by decide +kernel
theorem dX9_ones_3 : decode cX9_ones 3 = .ok (.istore_n 2, 1) := by decide +kernel
theorem dX9_ones_4 : decode cX9_ones 4 = .ok (.iload_n 2, 1) := by decide +kernel
theorem dX9_ones_5 : decode cX9_ones 5 = .ok (.ifCond .eq 15, 3) := by decide +kernel
theorem dX9_ones_8 : decode cX9_ones 8 = .ok (.iinc 1 1, 3) := by decide +kernel
theorem dX9_ones_11 : decode cX9_ones 11 = .ok (.iload_n 2, 1) := by decide +kernel
theorem dX9_ones_12 : decode cX9_ones 12 = .ok (.iload_n 2, 1) := by decide +kernel
theorem dX9_ones_13 : decode cX9_ones 13 = .ok (.iconst 1, 1) := by decide +kernel
theorem dX9_ones_14 : decode cX9_ones 14 = .ok (.isub, 1) := by decide +kernel
theorem dX9_ones_15 : decode cX9_ones 15 = .ok (.iand, 1) := by decide +kernel
theorem dX9_ones_16 : decode cX9_ones 16 = .ok (.istore_n 2, 1) := by decide +kernel
theorem dX9_ones_17 : decode cX9_ones 17 = .ok (.goto (-13), 3) := by decide +kernel
theorem dX9_ones_20 : decode cX9_ones 20 = .ok (.iload_n 1, 1) := by decide +kernel
theorem dX9_ones_21 : decode cX9_ones 21 = .ok (.ireturn, 1) := by decide +kernel
theorem dX9_isPerson_0 : decode cX9_isPerson 0 = .ok (.iload_n 1, 1) := by decide +kernel
theorem dX9_isPerson_1 : decode cX9_isPerson 1 = .ok (.ifCond .lt 17, 3) := by decide +kernel
theorem dX9_isPerson_4 : decode cX9_isPerson 4 = .ok (.iload_n 1, 1) := by decide +kernel
theorem dX9_isPerson_5 : decode cX9_isPerson 5 = .ok (.aload_n 0, 1) := by decide +kernel
theorem dX9_isPerson_6 : decode cX9_isPerson 6 = .ok (.getfield 7, 3) := by decide +kernel
theorem dX9_isPerson_9 : decode cX9_isPerson 9 = .ok (.iconst 0, 1) := by decide +kernel
end
section
theorem dX9_isPerson_10 : decode cX9_isPerson 10 = .ok (.iaload, 1) := by decide +kernel
theorem dX9_isPerson_11 : decode cX9_isPerson 11 = .ok (.if_icmp .ge 7, 3) := by decide +kernel
theorem dX9_isPerson_14 : decode cX9_isPerson 14 = .ok (.iconst 1, 1) := by decide +kernel
theorem dX9_isPerson_15 : decode cX9_isPerson 15 = .ok (.goto 4, 3) := by decide +kernel
theorem dX9_isPerson_18 : decode cX9_isPerson 18 = .ok (.iconst 0, 1) := by decide +kernel
theorem dX9_isPerson_19 : decode cX9_isPerson 19 = .ok (.ireturn, 1) := by decide +kernel
theorem dX9_isPaper_0 : decode cX9_isPaper 0 = .ok (.iload_n 1, 1) := by decide +kernel
theorem dX9_isPaper_1 : decode cX9_isPaper 1 = .ok (.ifCond .lt 17, 3) := by decide +kernel
theorem dX9_isPaper_4 : decode cX9_isPaper 4 = .ok (.iload_n 1, 1) := by decide +kernel
theorem dX9_isPaper_5 : decode cX9_isPaper 5 = .ok (.aload_n 0, 1) := by decide +kernel
theorem dX9_isPaper_6 : decode cX9_isPaper 6 = .ok (.getfield 7, 3) := by decide +kernel
theorem dX9_isPaper_9 : decode cX9_isPaper 9 = .ok (.iconst 1, 1) := by decide +kernel
theorem dX9_isPaper_10 : decode cX9_isPaper 10 = .ok (.iaload, 1) := by decide +kernel
theorem dX9_isPaper_11 : decode cX9_isPaper 11 = .ok (.if_icmp .ge 7, 3) := by decide +kernel
theorem dX9_isPaper_14 : decode cX9_isPaper 14 = .ok (.iconst 1, 1) := by decide +kernel
theorem dX9_isPaper_15 : decode cX9_isPaper 15 = .ok (.goto 4, 3) := by decide +kernel
theorem dX9_isPaper_18 : decode cX9_isPaper 18 = .ok (.iconst 0, 1) := by decide +kernel
theorem dX9_isPaper_19 : decode cX9_isPaper 19 = .ok (.ireturn, 1) := by decide +kernel
theorem dX9_of_0 : decode cX9_of 0 = .ok (.aload_n 0, 1) := by decide +kernel
theorem dX9_of_1 : decode cX9_of 1 = .ok (.getfield 7, 3) := by decide +kernel
theorem dX9_of_4 : decode cX9_of 4 = .ok (.bipush 11, 2) := by decide +kernel
theorem dX9_of_6 : decode cX9_of 6 = .ok (.bipush 18, 2) := by decide +kernel
theorem dX9_of_8 : decode cX9_of 8 = .ok (.iload_n 1, 1) := by decide +kernel
theorem dX9_of_9 : decode cX9_of 9 = .ok (.imul, 1) := by decide +kernel
theorem dX9_of_10 : decode cX9_of 10 = .ok (.iadd, 1) := by decide +kernel
theorem dX9_of_11 : decode cX9_of 11 = .ok (.iload_n 2, 1) := by decide +kernel
theorem dX9_of_12 : decode cX9_of 12 = .ok (.iadd, 1) := by decide +kernel
theorem dX9_of_13 : decode cX9_of 13 = .ok (.iaload, 1) := by decide +kernel
theorem dX9_of_14 : decode cX9_of 14 = .ok (.ireturn, 1) := by decide +kernel
theorem dX9_sets_0 : decode cX9_sets 0 = .ok (.aload_n 0, 1) := by decide +kernel
theorem dX9_sets_1 : decode cX9_sets 1 = .ok (.getfield 7, 3) := by decide +kernel
theorem dX9_sets_4 : decode cX9_sets 4 = .ok (.bipush 11, 2) := by decide +kernel
theorem dX9_sets_6 : decode cX9_sets 6 = .ok (.bipush 18, 2) := by decide +kernel
theorem dX9_sets_8 : decode cX9_sets 8 = .ok (.iload_n 1, 1) := by decide +kernel
theorem dX9_sets_9 : decode cX9_sets 9 = .ok (.imul, 1) := by decide +kernel
theorem dX9_sets_10 : decode cX9_sets 10 = .ok (.iadd, 1) := by decide +kernel
theorem dX9_sets_11 : decode cX9_sets 11 = .ok (.iload_n 2, 1) := by decide +kernel
theorem dX9_sets_12 : decode cX9_sets 12 = .ok (.iadd, 1) := by decide +kernel
theorem dX9_sets_13 : decode cX9_sets 13 = .ok (.iload_n 3, 1) := by decide +kernel
theorem dX9_sets_14 : decode cX9_sets 14 = .ok (.iastore, 1) := by decide +kernel
theorem dX9_sets_15 : decode cX9_sets 15 = .ok (.return_, 1) := by decide +kernel
theorem dX9_ofSheet_0 : decode cX9_ofSheet 0 = .ok (.aload_n 0, 1) := by decide +kernel
theorem dX9_ofSheet_1 : decode cX9_ofSheet 1 = .ok (.getfield 7, 3) := by decide +kernel
theorem dX9_ofSheet_4 : decode cX9_ofSheet 4 = .ok (.bipush 119, 2) := by decide +kernel
theorem dX9_ofSheet_6 : decode cX9_ofSheet 6 = .ok (.iconst 4, 1) := by decide +kernel
theorem dX9_ofSheet_7 : decode cX9_ofSheet 7 = .ok (.iload_n 1, 1) := by decide +kernel
theorem dX9_ofSheet_8 : decode cX9_ofSheet 8 = .ok (.imul, 1) := by decide +kernel
theorem dX9_ofSheet_9 : decode cX9_ofSheet 9 = .ok (.iadd, 1) := by decide +kernel
theorem dX9_ofSheet_10 : decode cX9_ofSheet 10 = .ok (.iload_n 2, 1) := by decide +kernel
theorem dX9_ofSheet_11 : decode cX9_ofSheet 11 = .ok (.iadd, 1) := by decide +kernel
theorem dX9_ofSheet_12 : decode cX9_ofSheet 12 = .ok (.iaload, 1) := by decide +kernel
theorem dX9_ofSheet_13 : decode cX9_ofSheet 13 = .ok (.ireturn, 1) := by decide +kernel
theorem dX9_ofPaper_0 : decode cX9_ofPaper 0 = .ok (.aload_n 0, 1) := by decide +kernel
theorem dX9_ofPaper_1 : decode cX9_ofPaper 1 = .ok (.getfield 7, 3) := by decide +kernel
theorem dX9_ofPaper_4 : decode cX9_ofPaper 4 = .ok (.sipush 159, 3) := by decide +kernel
theorem dX9_ofPaper_7 : decode cX9_ofPaper 7 = .ok (.bipush 6, 2) := by decide +kernel
theorem dX9_ofPaper_9 : decode cX9_ofPaper 9 = .ok (.iload_n 1, 1) := by decide +kernel
theorem dX9_ofPaper_10 : decode cX9_ofPaper 10 = .ok (.imul, 1) := by decide +kernel
theorem dX9_ofPaper_11 : decode cX9_ofPaper 11 = .ok (.iadd, 1) := by decide +kernel
theorem dX9_ofPaper_12 : decode cX9_ofPaper 12 = .ok (.iload_n 2, 1) := by decide +kernel
theorem dX9_ofPaper_13 : decode cX9_ofPaper 13 = .ok (.iadd, 1) := by decide +kernel
theorem dX9_ofPaper_14 : decode cX9_ofPaper 14 = .ok (.iaload, 1) := by decide +kernel
theorem dX9_ofPaper_15 : decode cX9_ofPaper 15 = .ok (.ireturn, 1) := by decide +kernel
theorem dX9_day_0 : decode cX9_day 0 = .ok (.aload_n 0, 1) := by decide +kernel
theorem dX9_day_1 : decode cX9_day 1 = .ok (.getfield 7, 3) := by decide +kernel
theorem dX9_day_4 : decode cX9_day 4 = .ok (.iconst 4, 1) := by decide +kernel
theorem dX9_day_5 : decode cX9_day 5 = .ok (.iaload, 1) := by decide +kernel
theorem dX9_day_6 : decode cX9_day 6 = .ok (.sipush 300, 3) := by decide +kernel
theorem dX9_day_9 : decode cX9_day 9 = .ok (.idiv, 1) := by decide +kernel
theorem dX9_day_10 : decode cX9_day 10 = .ok (.ireturn, 1) := by decide +kernel
theorem dX9_isHidden_0 : decode cX9_isHidden 0 = .ok (.iconst 0, 1) := by decide +kernel
theorem dX9_isHidden_1 : decode cX9_isHidden 1 = .ok (.istore_n 2, 1) := by decide +kernel
theorem dX9_isHidden_2 : decode cX9_isHidden 2 = .ok (.iconst 0, 1) := by decide +kernel
theorem dX9_isHidden_3 : decode cX9_isHidden 3 = .ok (.istore_n 3, 1) := by decide +kernel
theorem dX9_isHidden_4 : decode cX9_isHidden 4 = .ok (.iload_n 3, 1) := by decide +kernel
theorem dX9_isHidden_5 : decode cX9_isHidden 5 = .ok (.aload_n 0, 1) := by decide +kernel
theorem dX9_isHidden_6 : decode cX9_isHidden 6 = .ok (.getfield 7, 3) := by decide +kernel
theorem dX9_isHidden_9 : decode cX9_isHidden 9 = .ok (.iconst 0, 1) := by decide +kernel
theorem dX9_isHidden_10 : decode cX9_isHidden 10 = .ok (.iaload, 1) := by decide +kernel
theorem dX9_isHidden_11 : decode cX9_isHidden 11 = .ok (.if_icmp .ge 49, 3) := by decide +kernel
theorem dX9_isHidden_14 : decode cX9_isHidden 14 = .ok (.iload_n 2, 1) := by decide +kernel
theorem dX9_isHidden_15 : decode cX9_isHidden 15 = .ok (.ifCond .ne 33, 3) := by decide +kernel
theorem dX9_isHidden_18 : decode cX9_isHidden 18 = .ok (.aload_n 0, 1) := by decide +kernel
theorem dX9_isHidden_19 : decode cX9_isHidden 19 = .ok (.iload_n 3, 1) := by decide +kernel
theorem dX9_isHidden_20 : decode cX9_isHidden 20 = .ok (.iconst 1, 1) := by decide +kernel
theorem dX9_isHidden_21 : decode cX9_isHidden 21 = .ok (.invokevirtual 36, 3) := by decide +kernel
theorem dX9_isHidden_24 : decode cX9_isHidden 24 = .ok (.aload_n 0, 1) := by decide +kernel
theorem dX9_isHidden_25 : decode cX9_isHidden 25 = .ok (.iload_n 1, 1) := by decide +kernel
theorem dX9_isHidden_26 : decode cX9_isHidden 26 = .ok (.iconst 1, 1) := by decide +kernel
theorem dX9_isHidden_27 : decode cX9_isHidden 27 = .ok (.invokevirtual 36, 3) := by decide +kernel
theorem dX9_isHidden_30 : decode cX9_isHidden 30 = .ok (.if_icmp .ne 22, 3) := by decide +kernel
theorem dX9_isHidden_33 : decode cX9_isHidden 33 = .ok (.aload_n 0, 1) := by decide +kernel
theorem dX9_isHidden_34 : decode cX9_isHidden 34 = .ok (.iload_n 3, 1) := by decide +kernel
theorem dX9_isHidden_35 : decode cX9_isHidden 35 = .ok (.iconst 0, 1) := by decide +kernel
theorem dX9_isHidden_36 : decode cX9_isHidden 36 = .ok (.invokevirtual 36, 3) := by decide +kernel
theorem dX9_isHidden_39 : decode cX9_isHidden 39 = .ok (.aload_n 0, 1) := by decide +kernel
theorem dX9_isHidden_40 : decode cX9_isHidden 40 = .ok (.iload_n 1, 1) := by decide +kernel
theorem dX9_isHidden_41 : decode cX9_isHidden 41 = .ok (.iconst 0, 1) := by decide +kernel
theorem dX9_isHidden_42 : decode cX9_isHidden 42 = .ok (.invokevirtual 36, 3) := by decide +kernel
theorem dX9_isHidden_45 : decode cX9_isHidden 45 = .ok (.if_icmp .ge 7, 3) := by decide +kernel
theorem dX9_isHidden_48 : decode cX9_isHidden 48 = .ok (.iconst 1, 1) := by decide +kernel
theorem dX9_isHidden_49 : decode cX9_isHidden 49 = .ok (.goto 4, 3) := by decide +kernel
theorem dX9_isHidden_52 : decode cX9_isHidden 52 = .ok (.iconst 0, 1) := by decide +kernel
theorem dX9_isHidden_53 : decode cX9_isHidden 53 = .ok (.istore_n 2, 1) := by decide +kernel
theorem dX9_isHidden_54 : decode cX9_isHidden 54 = .ok (.iinc 3 1, 3) := by decide +kernel
theorem dX9_isHidden_57 : decode cX9_isHidden 57 = .ok (.goto (-53), 3) := by decide +kernel
theorem dX9_isHidden_60 : decode cX9_isHidden 60 = .ok (.iload_n 2, 1) := by decide +kernel
theorem dX9_isHidden_61 : decode cX9_isHidden 61 = .ok (.ireturn, 1) := by decide +kernel
theorem dX9_seenAt_0 : decode cX9_seenAt 0 = .ok (.iconst 0, 1) := by decide +kernel
theorem dX9_seenAt_1 : decode cX9_seenAt 1 = .ok (.istore_n 3, 1) := by decide +kernel
theorem dX9_seenAt_2 : decode cX9_seenAt 2 = .ok (.aload_n 0, 1) := by decide +kernel
theorem dX9_seenAt_3 : decode cX9_seenAt 3 = .ok (.iload_n 1, 1) := by decide +kernel
theorem dX9_seenAt_4 : decode cX9_seenAt 4 = .ok (.invokevirtual 40, 3) := by decide +kernel
theorem dX9_seenAt_7 : decode cX9_seenAt 7 = .ok (.ifCond .eq 7, 3) := by decide +kernel
theorem dX9_seenAt_10 : decode cX9_seenAt 10 = .ok (.iconst 0, 1) := by decide +kernel
theorem dX9_seenAt_11 : decode cX9_seenAt 11 = .ok (.goto 4, 3) := by decide +kernel
theorem dX9_seenAt_14 : decode cX9_seenAt 14 = .ok (.iconst 2, 1) := by decide +kernel
theorem dX9_seenAt_15 : decode cX9_seenAt 15 = .ok (.istore 4, 2) := by decide +kernel
theorem dX9_seenAt_17 : decode cX9_seenAt 17 = .ok (.iload 4, 2) := by decide +kernel
theorem dX9_seenAt_19 : decode cX9_seenAt 19 = .ok (.ineg, 1) := by decide +kernel
theorem dX9_seenAt_20 : decode cX9_seenAt 20 = .ok (.istore 5, 2) := by decide +kernel
theorem dX9_seenAt_22 : decode cX9_seenAt 22 = .ok (.iload 5, 2) := by decide +kernel
theorem dX9_seenAt_24 : decode cX9_seenAt 24 = .ok (.iload 4, 2) := by decide +kernel
theorem dX9_seenAt_26 : decode cX9_seenAt 26 = .ok (.if_icmp .gt 24, 3) := by decide +kernel
theorem dX9_seenAt_29 : decode cX9_seenAt 29 = .ok (.iload_n 3, 1) := by decide +kernel
theorem dX9_seenAt_30 : decode cX9_seenAt 30 = .ok (.iconst 1, 1) := by decide +kernel
theorem dX9_seenAt_31 : decode cX9_seenAt 31 = .ok (.iload_n 2, 1) := by decide +kernel
theorem dX9_seenAt_32 : decode cX9_seenAt 32 = .ok (.iload 5, 2) := by decide +kernel
theorem dX9_seenAt_34 : decode cX9_seenAt 34 = .ok (.iadd, 1) := by decide +kernel
theorem dX9_seenAt_35 : decode cX9_seenAt 35 = .ok (.bipush 12, 2) := by decide +kernel
theorem dX9_seenAt_37 : decode cX9_seenAt 37 = .ok (.iadd, 1) := by decide +kernel
theorem dX9_seenAt_38 : decode cX9_seenAt 38 = .ok (.bipush 12, 2) := by decide +kernel
theorem dX9_seenAt_40 : decode cX9_seenAt 40 = .ok (.irem, 1) := by decide +kernel
theorem dX9_seenAt_41 : decode cX9_seenAt 41 = .ok (.ishl, 1) := by decide +kernel
theorem dX9_seenAt_42 : decode cX9_seenAt 42 = .ok (.ior, 1) := by decide +kernel
theorem dX9_seenAt_43 : decode cX9_seenAt 43 = .ok (.istore_n 3, 1) := by decide +kernel
theorem dX9_seenAt_44 : decode cX9_seenAt 44 = .ok (.iinc 5 1, 3) := by decide +kernel
theorem dX9_seenAt_47 : decode cX9_seenAt 47 = .ok (.goto (-25), 3) := by decide +kernel
theorem dX9_seenAt_50 : decode cX9_seenAt 50 = .ok (.iload_n 3, 1) := by decide +kernel
theorem dX9_seenAt_51 : decode cX9_seenAt 51 = .ok (.ireturn, 1) := by decide +kernel
theorem dX9_seen_0 : decode cX9_seen 0 = .ok (.aload_n 0, 1) := by decide +kernel
theorem dX9_seen_1 : decode cX9_seen 1 = .ok (.iload_n 1, 1) := by decide +kernel
theorem dX9_seen_2 : decode cX9_seen 2 = .ok (.aload_n 0, 1) := by decide +kernel
theorem dX9_seen_3 : decode cX9_seen 3 = .ok (.iload_n 1, 1) := by decide +kernel
theorem dX9_seen_4 : decode cX9_seen 4 = .ok (.iconst 2, 1) := by decide +kernel
theorem dX9_seen_5 : decode cX9_seen 5 = .ok (.invokevirtual 36, 3) := by decide +kernel
theorem dX9_seen_8 : decode cX9_seen 8 = .ok (.invokevirtual 44, 3) := by decide +kernel
theorem dX9_seen_11 : decode cX9_seen 11 = .ok (.ireturn, 1) := by decide +kernel
theorem dX9_remembered_0 : decode cX9_remembered 0 = .ok (.iconst 0, 1) := by decide +kernel
theorem dX9_remembered_1 : decode cX9_remembered 1 = .ok (.istore_n 2, 1) := by decide +kernel
theorem dX9_remembered_2 : decode cX9_remembered 2 = .ok (.iconst 0, 1) := by decide +kernel
theorem dX9_remembered_3 : decode cX9_remembered 3 = .ok (.istore_n 3, 1) := by decide +kernel
theorem dX9_remembered_4 : decode cX9_remembered 4 = .ok (.iload_n 3, 1) := by decide +kernel
theorem dX9_remembered_5 : decode cX9_remembered 5 = .ok (.bipush 12, 2) := by decide +kernel
theorem dX9_remembered_7 : decode cX9_remembered 7 = .ok (.if_icmp .ge 54, 3) := by decide +kernel
theorem dX9_remembered_10 : decode cX9_remembered 10 = .ok (.aload_n 0, 1) := by decide +kernel
theorem dX9_remembered_11 : decode cX9_remembered 11 = .ok (.iload_n 1, 1) := by decide +kernel
theorem dX9_remembered_12 : decode cX9_remembered 12 = .ok (.bipush 6, 2) := by decide +kernel
theorem dX9_remembered_14 : decode cX9_remembered 14 = .ok (.iload_n 3, 1) := by decide +kernel
theorem dX9_remembered_15 : decode cX9_remembered 15 = .ok (.iadd, 1) := by decide +kernel
theorem dX9_remembered_16 : decode cX9_remembered 16 = .ok (.invokevirtual 36, 3) := by decide +kernel
theorem dX9_remembered_19 : decode cX9_remembered 19 = .ok (.istore 4, 2) := by decide +kernel
theorem dX9_remembered_21 : decode cX9_remembered 21 = .ok (.iload_n 2, 1) := by decide +kernel
theorem dX9_remembered_22 : decode cX9_remembered 22 = .ok (.iload 4, 2) := by decide +kernel
theorem dX9_remembered_24 : decode cX9_remembered 24 = .ok (.ifCond .lt 28, 3) := by decide +kernel
theorem dX9_remembered_27 : decode cX9_remembered 27 = .ok (.aload_n 0, 1) := by decide +kernel
theorem dX9_remembered_28 : decode cX9_remembered 28 = .ok (.getfield 7, 3) := by decide +kernel
theorem dX9_remembered_31 : decode cX9_remembered 31 = .ok (.iconst 4, 1) := by decide +kernel
theorem dX9_remembered_32 : decode cX9_remembered 32 = .ok (.iaload, 1) := by decide +kernel
theorem dX9_remembered_33 : decode cX9_remembered 33 = .ok (.iload 4, 2) := by decide +kernel
theorem dX9_remembered_35 : decode cX9_remembered 35 = .ok (.isub, 1) := by decide +kernel
theorem dX9_remembered_36 : decode cX9_remembered 36 = .ok (.aload_n 0, 1) := by decide +kernel
theorem dX9_remembered_37 : decode cX9_remembered 37 = .ok (.getfield 7, 3) := by decide +kernel
theorem dX9_remembered_40 : decode cX9_remembered 40 = .ok (.bipush 9, 2) := by decide +kernel
theorem dX9_remembered_42 : decode cX9_remembered 42 = .ok (.iaload, 1) := by decide +kernel
theorem dX9_remembered_43 : decode cX9_remembered 43 = .ok (.if_icmp .gt 9, 3) := by decide +kernel
theorem dX9_remembered_46 : decode cX9_remembered 46 = .ok (.iconst 1, 1) := by decide +kernel
theorem dX9_remembered_47 : decode cX9_remembered 47 = .ok (.iload_n 3, 1) := by decide +kernel
theorem dX9_remembered_48 : decode cX9_remembered 48 = .ok (.ishl, 1) := by decide +kernel
theorem dX9_remembered_49 : decode cX9_remembered 49 = .ok (.goto 4, 3) := by decide +kernel
theorem dX9_remembered_52 : decode cX9_remembered 52 = .ok (.iconst 0, 1) := by decide +kernel
theorem dX9_remembered_53 : decode cX9_remembered 53 = .ok (.ior, 1) := by decide +kernel
theorem dX9_remembered_54 : decode cX9_remembered 54 = .ok (.istore_n 2, 1) := by decide +kernel
theorem dX9_remembered_55 : decode cX9_remembered 55 = .ok (.iinc 3 1, 3) := by decide +kernel
theorem dX9_remembered_58 : decode cX9_remembered 58 = .ok (.goto (-54), 3) := by decide +kernel
theorem dX9_remembered_61 : decode cX9_remembered 61 = .ok (.iload_n 2, 1) := by decide +kernel
theorem dX9_remembered_62 : decode cX9_remembered 62 = .ok (.ireturn, 1) := by decide +kernel
theorem dX9_person_0 : decode cX9_person 0 = .ok (.iload_n 1, 1) := by decide +kernel
theorem dX9_person_1 : decode cX9_person 1 = .ok (.iconst 0, 1) := by decide +kernel
theorem dX9_person_2 : decode cX9_person 2 = .ok (.iconst 3, 1) := by decide +kernel
theorem dX9_person_3 : decode cX9_person 3 = .ok (.invokestatic 47, 3) := by decide +kernel
theorem dX9_person_6 : decode cX9_person 6 = .ok (.ifCond .eq 12, 3) := by decide +kernel
theorem dX9_person_9 : decode cX9_person 9 = .ok (.iload_n 2, 1) := by decide +kernel
theorem dX9_person_10 : decode cX9_person 10 = .ok (.iconst 0, 1) := by decide +kernel
theorem dX9_person_11 : decode cX9_person 11 = .ok (.iconst 5, 1) := by decide +kernel
theorem dX9_person_12 : decode cX9_person 12 = .ok (.invokestatic 47, 3) := by decide +kernel
theorem dX9_person_15 : decode cX9_person 15 = .ok (.ifCond .ne 6, 3) := by decide +kernel
theorem dX9_person_18 : decode cX9_person 18 = .ok (.ldc 51, 2) := by decide +kernel
theorem dX9_person_20 : decode cX9_person 20 = .ok (.ireturn, 1) := by decide +kernel
theorem dX9_person_21 : decode cX9_person 21 = .ok (.iconst 0, 1) := by decide +kernel
theorem dX9_person_22 : decode cX9_person 22 = .ok (.istore_n 3, 1) := by decide +kernel
theorem dX9_person_23 : decode cX9_person 23 = .ok (.iload_n 3, 1) := by decide +kernel
theorem dX9_person_24 : decode cX9_person 24 = .ok (.aload_n 0, 1) := by decide +kernel
theorem dX9_person_25 : decode cX9_person 25 = .ok (.getfield 7, 3) := by decide +kernel
theorem dX9_person_28 : decode cX9_person 28 = .ok (.iconst 0, 1) := by decide +kernel
theorem dX9_person_29 : decode cX9_person 29 = .ok (.iaload, 1) := by decide +kernel
theorem dX9_person_30 : decode cX9_person 30 = .ok (.if_icmp .ge 32, 3) := by decide +kernel
theorem dX9_person_33 : decode cX9_person 33 = .ok (.aload_n 0, 1) := by decide +kernel
theorem dX9_person_34 : decode cX9_person 34 = .ok (.iload_n 3, 1) := by decide +kernel
theorem dX9_person_35 : decode cX9_person 35 = .ok (.iconst 0, 1) := by decide +kernel
theorem dX9_person_36 : decode cX9_person 36 = .ok (.invokevirtual 36, 3) := by decide +kernel
theorem dX9_person_39 : decode cX9_person 39 = .ok (.iload_n 1, 1) := by decide +kernel
theorem dX9_person_40 : decode cX9_person 40 = .ok (.if_icmp .ne 16, 3) := by decide +kernel
theorem dX9_person_43 : decode cX9_person 43 = .ok (.aload_n 0, 1) := by decide +kernel
theorem dX9_person_44 : decode cX9_person 44 = .ok (.iload_n 3, 1) := by decide +kernel
theorem dX9_person_45 : decode cX9_person 45 = .ok (.iconst 1, 1) := by decide +kernel
theorem dX9_person_46 : decode cX9_person 46 = .ok (.invokevirtual 36, 3) := by decide +kernel
theorem dX9_person_49 : decode cX9_person 49 = .ok (.iload_n 2, 1) := by decide +kernel
theorem dX9_person_50 : decode cX9_person 50 = .ok (.if_icmp .ne 6, 3) := by decide +kernel
theorem dX9_person_53 : decode cX9_person 53 = .ok (.ldc 52, 2) := by decide +kernel
theorem dX9_person_55 : decode cX9_person 55 = .ok (.ireturn, 1) := by decide +kernel
theorem dX9_person_56 : decode cX9_person 56 = .ok (.iinc 3 1, 3) := by decide +kernel
theorem dX9_person_59 : decode cX9_person 59 = .ok (.goto (-36), 3) := by decide +kernel
theorem dX9_person_62 : decode cX9_person 62 = .ok (.aload_n 0, 1) := by decide +kernel
theorem dX9_person_63 : decode cX9_person 63 = .ok (.getfield 7, 3) := by decide +kernel
theorem dX9_person_66 : decode cX9_person 66 = .ok (.iconst 0, 1) := by decide +kernel
theorem dX9_person_67 : decode cX9_person 67 = .ok (.iaload, 1) := by decide +kernel
theorem dX9_person_68 : decode cX9_person 68 = .ok (.istore_n 3, 1) := by decide +kernel
theorem dX9_person_69 : decode cX9_person 69 = .ok (.iload_n 3, 1) := by decide +kernel
theorem dX9_person_70 : decode cX9_person 70 = .ok (.bipush 6, 2) := by decide +kernel
theorem dX9_person_72 : decode cX9_person 72 = .ok (.if_icmp .ne 6, 3) := by decide +kernel
theorem dX9_person_75 : decode cX9_person 75 = .ok (.ldc 53, 2) := by decide +kernel
theorem dX9_person_77 : decode cX9_person 77 = .ok (.ireturn, 1) := by decide +kernel
theorem dX9_person_78 : decode cX9_person 78 = .ok (.aload_n 0, 1) := by decide +kernel
theorem dX9_person_79 : decode cX9_person 79 = .ok (.invokevirtual 54, 3) := by decide +kernel
theorem dX9_person_82 : decode cX9_person 82 = .ok (.aload_n 0, 1) := by decide +kernel
theorem dX9_person_83 : decode cX9_person 83 = .ok (.iload_n 3, 1) := by decide +kernel
theorem dX9_person_84 : decode cX9_person 84 = .ok (.iconst 0, 1) := by decide +kernel
theorem dX9_person_85 : decode cX9_person 85 = .ok (.iload_n 1, 1) := by decide +kernel
theorem dX9_person_86 : decode cX9_person 86 = .ok (.invokevirtual 57, 3) := by decide +kernel
theorem dX9_person_89 : decode cX9_person 89 = .ok (.aload_n 0, 1) := by decide +kernel
theorem dX9_person_90 : decode cX9_person 90 = .ok (.iload_n 3, 1) := by decide +kernel
theorem dX9_person_91 : decode cX9_person 91 = .ok (.iconst 1, 1) := by decide +kernel
theorem dX9_person_92 : decode cX9_person 92 = .ok (.iload_n 2, 1) := by decide +kernel
theorem dX9_person_93 : decode cX9_person 93 = .ok (.invokevirtual 57, 3) := by decide +kernel
theorem dX9_person_96 : decode cX9_person 96 = .ok (.aload_n 0, 1) := by decide +kernel
theorem dX9_person_97 : decode cX9_person 97 = .ok (.iload_n 3, 1) := by decide +kernel
theorem dX9_person_98 : decode cX9_person 98 = .ok (.iconst 4, 1) := by decide +kernel
theorem dX9_person_99 : decode cX9_person 99 = .ok (.iconst (-1), 1) := by decide +kernel
theorem dX9_person_100 : decode cX9_person 100 = .ok (.invokevirtual 57, 3) := by decide +kernel
theorem dX9_person_103 : decode cX9_person 103 = .ok (.iconst 0, 1) := by decide +kernel
theorem dX9_person_104 : decode cX9_person 104 = .ok (.istore 4, 2) := by decide +kernel
theorem dX9_person_106 : decode cX9_person 106 = .ok (.iload 4, 2) := by decide +kernel
theorem dX9_person_108 : decode cX9_person 108 = .ok (.bipush 12, 2) := by decide +kernel
theorem dX9_person_110 : decode cX9_person 110 = .ok (.if_icmp .ge 20, 3) := by decide +kernel
theorem dX9_person_113 : decode cX9_person 113 = .ok (.aload_n 0, 1) := by decide +kernel
theorem dX9_person_114 : decode cX9_person 114 = .ok (.iload_n 3, 1) := by decide +kernel
theorem dX9_person_115 : decode cX9_person 115 = .ok (.bipush 6, 2) := by decide +kernel
theorem dX9_person_117 : decode cX9_person 117 = .ok (.iload 4, 2) := by decide +kernel
theorem dX9_person_119 : decode cX9_person 119 = .ok (.iadd, 1) := by decide +kernel
theorem dX9_person_120 : decode cX9_person 120 = .ok (.iconst (-1), 1) := by decide +kernel
theorem dX9_person_121 : decode cX9_person 121 = .ok (.invokevirtual 57, 3) := by decide +kernel
theorem dX9_person_124 : decode cX9_person 124 = .ok (.iinc 4 1, 3) := by decide +kernel
theorem dX9_person_127 : decode cX9_person 127 = .ok (.goto (-21), 3) := by decide +kernel
theorem dX9_person_130 : decode cX9_person 130 = .ok (.aload_n 0, 1) := by decide +kernel
theorem dX9_person_131 : decode cX9_person 131 = .ok (.getfield 7, 3) := by decide +kernel
theorem dX9_person_134 : decode cX9_person 134 = .ok (.iconst 0, 1) := by decide +kernel
theorem dX9_person_135 : decode cX9_person 135 = .ok (.dup2, 1) := by decide +kernel
theorem dX9_person_136 : decode cX9_person 136 = .ok (.iaload, 1) := by decide +kernel
theorem dX9_person_137 : decode cX9_person 137 = .ok (.iconst 1, 1) := by decide +kernel
theorem dX9_person_138 : decode cX9_person 138 = .ok (.iadd, 1) := by decide +kernel
theorem dX9_person_139 : decode cX9_person 139 = .ok (.iastore, 1) := by decide +kernel
theorem dX9_person_140 : decode cX9_person 140 = .ok (.iload_n 3, 1) := by decide +kernel
theorem dX9_person_141 : decode cX9_person 141 = .ok (.ireturn, 1) := by decide +kernel
theorem dX9_turn_0 : decode cX9_turn 0 = .ok (.aload_n 0, 1) := by decide +kernel
theorem dX9_turn_1 : decode cX9_turn 1 = .ok (.iload_n 1, 1) := by decide +kernel
theorem dX9_turn_2 : decode cX9_turn 2 = .ok (.invokevirtual 61, 3) := by decide +kernel
theorem dX9_turn_5 : decode cX9_turn 5 = .ok (.ifCond .eq 23, 3) := by decide +kernel
theorem dX9_turn_8 : decode cX9_turn 8 = .ok (.iload_n 2, 1) := by decide +kernel
theorem dX9_turn_9 : decode cX9_turn 9 = .ok (.iconst 0, 1) := by decide +kernel
theorem dX9_turn_10 : decode cX9_turn 10 = .ok (.bipush 11, 2) := by decide +kernel
theorem dX9_turn_12 : decode cX9_turn 12 = .ok (.invokestatic 47, 3) := by decide +kernel
theorem dX9_turn_15 : decode cX9_turn 15 = .ok (.ifCond .eq 13, 3) := by decide +kernel
theorem dX9_turn_18 : decode cX9_turn 18 = .ok (.iload_n 3, 1) := by decide +kernel
theorem dX9_turn_19 : decode cX9_turn 19 = .ok (.iconst 0, 1) := by decide +kernel
theorem dX9_turn_20 : decode cX9_turn 20 = .ok (.bipush 11, 2) := by decide +kernel
theorem dX9_turn_22 : decode cX9_turn 22 = .ok (.invokestatic 47, 3) := by decide +kernel
theorem dX9_turn_25 : decode cX9_turn 25 = .ok (.ifCond .ne 6, 3) := by decide +kernel
theorem dX9_turn_28 : decode cX9_turn 28 = .ok (.ldc 51, 2) := by decide +kernel
theorem dX9_turn_30 : decode cX9_turn 30 = .ok (.ireturn, 1) := by decide +kernel
theorem dX9_turn_31 : decode cX9_turn 31 = .ok (.aload_n 0, 1) := by decide +kernel
theorem dX9_turn_32 : decode cX9_turn 32 = .ok (.invokevirtual 54, 3) := by decide +kernel
theorem dX9_turn_35 : decode cX9_turn 35 = .ok (.aload_n 0, 1) := by decide +kernel
theorem dX9_turn_36 : decode cX9_turn 36 = .ok (.iload_n 1, 1) := by decide +kernel
theorem dX9_turn_37 : decode cX9_turn 37 = .ok (.iconst 2, 1) := by decide +kernel
theorem dX9_turn_38 : decode cX9_turn 38 = .ok (.iload_n 2, 1) := by decide +kernel
theorem dX9_turn_39 : decode cX9_turn 39 = .ok (.invokevirtual 57, 3) := by decide +kernel
theorem dX9_turn_42 : decode cX9_turn 42 = .ok (.aload_n 0, 1) := by decide +kernel
theorem dX9_turn_43 : decode cX9_turn 43 = .ok (.iload_n 1, 1) := by decide +kernel
theorem dX9_turn_44 : decode cX9_turn 44 = .ok (.iconst 3, 1) := by decide +kernel
theorem dX9_turn_45 : decode cX9_turn 45 = .ok (.iload_n 3, 1) := by decide +kernel
theorem dX9_turn_46 : decode cX9_turn 46 = .ok (.invokevirtual 57, 3) := by decide +kernel
theorem dX9_turn_49 : decode cX9_turn 49 = .ok (.aload_n 0, 1) := by decide +kernel
theorem dX9_turn_50 : decode cX9_turn 50 = .ok (.iload_n 1, 1) := by decide +kernel
theorem dX9_turn_51 : decode cX9_turn 51 = .ok (.invokevirtual 64, 3) := by decide +kernel
theorem dX9_turn_54 : decode cX9_turn 54 = .ok (.ireturn, 1) := by decide +kernel
theorem dX9_paper_0 : decode cX9_paper 0 = .ok (.iload_n 1, 1) := by decide +kernel
theorem dX9_paper_1 : decode cX9_paper 1 = .ok (.iconst 1, 1) := by decide +kernel
theorem dX9_paper_2 : decode cX9_paper 2 = .ok (.bipush 20, 2) := by decide +kernel
theorem dX9_paper_4 : decode cX9_paper 4 = .ok (.invokestatic 47, 3) := by decide +kernel
theorem dX9_paper_7 : decode cX9_paper 7 = .ok (.ifCond .eq 14, 3) := by decide +kernel
theorem dX9_paper_10 : decode cX9_paper 10 = .ok (.iload_n 2, 1) := by decide +kernel
theorem dX9_paper_11 : decode cX9_paper 11 = .ok (.iconst 1, 1) := by decide +kernel
theorem dX9_paper_12 : decode cX9_paper 12 = .ok (.sipush 299, 3) := by decide +kernel
theorem dX9_paper_15 : decode cX9_paper 15 = .ok (.invokestatic 47, 3) := by decide +kernel
theorem dX9_paper_18 : decode cX9_paper 18 = .ok (.ifCond .ne 6, 3) := by decide +kernel
theorem dX9_paper_21 : decode cX9_paper 21 = .ok (.ldc 51, 2) := by decide +kernel
theorem dX9_paper_23 : decode cX9_paper 23 = .ok (.ireturn, 1) := by decide +kernel
theorem dX9_paper_24 : decode cX9_paper 24 = .ok (.aload_n 0, 1) := by decide +kernel
theorem dX9_paper_25 : decode cX9_paper 25 = .ok (.getfield 7, 3) := by decide +kernel
theorem dX9_paper_28 : decode cX9_paper 28 = .ok (.iconst 1, 1) := by decide +kernel
theorem dX9_paper_29 : decode cX9_paper 29 = .ok (.iaload, 1) := by decide +kernel
theorem dX9_paper_30 : decode cX9_paper 30 = .ok (.istore_n 3, 1) := by decide +kernel
theorem dX9_paper_31 : decode cX9_paper 31 = .ok (.iload_n 3, 1) := by decide +kernel
theorem dX9_paper_32 : decode cX9_paper 32 = .ok (.iconst 4, 1) := by decide +kernel
theorem dX9_paper_33 : decode cX9_paper 33 = .ok (.if_icmp .ne 6, 3) := by decide +kernel
theorem dX9_paper_36 : decode cX9_paper 36 = .ok (.ldc 53, 2) := by decide +kernel
theorem dX9_paper_38 : decode cX9_paper 38 = .ok (.ireturn, 1) := by decide +kernel
theorem dX9_paper_39 : decode cX9_paper 39 = .ok (.aload_n 0, 1) := by decide +kernel
theorem dX9_paper_40 : decode cX9_paper 40 = .ok (.invokevirtual 54, 3) := by decide +kernel
theorem dX9_paper_43 : decode cX9_paper 43 = .ok (.aload_n 0, 1) := by decide +kernel
theorem dX9_paper_44 : decode cX9_paper 44 = .ok (.getfield 7, 3) := by decide +kernel
theorem dX9_paper_47 : decode cX9_paper 47 = .ok (.sipush 159, 3) := by decide +kernel
theorem dX9_paper_50 : decode cX9_paper 50 = .ok (.bipush 6, 2) := by decide +kernel
theorem dX9_paper_52 : decode cX9_paper 52 = .ok (.iload_n 3, 1) := by decide +kernel
theorem dX9_paper_53 : decode cX9_paper 53 = .ok (.imul, 1) := by decide +kernel
theorem dX9_paper_54 : decode cX9_paper 54 = .ok (.iadd, 1) := by decide +kernel
theorem dX9_paper_55 : decode cX9_paper 55 = .ok (.iconst 0, 1) := by decide +kernel
theorem dX9_paper_56 : decode cX9_paper 56 = .ok (.iadd, 1) := by decide +kernel
theorem dX9_paper_57 : decode cX9_paper 57 = .ok (.iload_n 1, 1) := by decide +kernel
theorem dX9_paper_58 : decode cX9_paper 58 = .ok (.iastore, 1) := by decide +kernel
theorem dX9_paper_59 : decode cX9_paper 59 = .ok (.aload_n 0, 1) := by decide +kernel
theorem dX9_paper_60 : decode cX9_paper 60 = .ok (.getfield 7, 3) := by decide +kernel
theorem dX9_paper_63 : decode cX9_paper 63 = .ok (.sipush 159, 3) := by decide +kernel
theorem dX9_paper_66 : decode cX9_paper 66 = .ok (.bipush 6, 2) := by decide +kernel
theorem dX9_paper_68 : decode cX9_paper 68 = .ok (.iload_n 3, 1) := by decide +kernel
theorem dX9_paper_69 : decode cX9_paper 69 = .ok (.imul, 1) := by decide +kernel
theorem dX9_paper_70 : decode cX9_paper 70 = .ok (.iadd, 1) := by decide +kernel
theorem dX9_paper_71 : decode cX9_paper 71 = .ok (.iconst 1, 1) := by decide +kernel
theorem dX9_paper_72 : decode cX9_paper 72 = .ok (.iadd, 1) := by decide +kernel
theorem dX9_paper_73 : decode cX9_paper 73 = .ok (.iload_n 2, 1) := by decide +kernel
theorem dX9_paper_74 : decode cX9_paper 74 = .ok (.iastore, 1) := by decide +kernel
theorem dX9_paper_75 : decode cX9_paper 75 = .ok (.aload_n 0, 1) := by decide +kernel
theorem dX9_paper_76 : decode cX9_paper 76 = .ok (.getfield 7, 3) := by decide +kernel
theorem dX9_paper_79 : decode cX9_paper 79 = .ok (.sipush 159, 3) := by decide +kernel
theorem dX9_paper_82 : decode cX9_paper 82 = .ok (.bipush 6, 2) := by decide +kernel
theorem dX9_paper_84 : decode cX9_paper 84 = .ok (.iload_n 3, 1) := by decide +kernel
theorem dX9_paper_85 : decode cX9_paper 85 = .ok (.imul, 1) := by decide +kernel
theorem dX9_paper_86 : decode cX9_paper 86 = .ok (.iadd, 1) := by decide +kernel
theorem dX9_paper_87 : decode cX9_paper 87 = .ok (.iconst 4, 1) := by decide +kernel
theorem dX9_paper_88 : decode cX9_paper 88 = .ok (.iadd, 1) := by decide +kernel
theorem dX9_paper_89 : decode cX9_paper 89 = .ok (.iconst (-1), 1) := by decide +kernel
theorem dX9_paper_90 : decode cX9_paper 90 = .ok (.iastore, 1) := by decide +kernel
theorem dX9_paper_91 : decode cX9_paper 91 = .ok (.aload_n 0, 1) := by decide +kernel
theorem dX9_paper_92 : decode cX9_paper 92 = .ok (.getfield 7, 3) := by decide +kernel
theorem dX9_paper_95 : decode cX9_paper 95 = .ok (.iconst 1, 1) := by decide +kernel
theorem dX9_paper_96 : decode cX9_paper 96 = .ok (.dup2, 1) := by decide +kernel
theorem dX9_paper_97 : decode cX9_paper 97 = .ok (.iaload, 1) := by decide +kernel
theorem dX9_paper_98 : decode cX9_paper 98 = .ok (.iconst 1, 1) := by decide +kernel
theorem dX9_paper_99 : decode cX9_paper 99 = .ok (.iadd, 1) := by decide +kernel
theorem dX9_paper_100 : decode cX9_paper 100 = .ok (.iastore, 1) := by decide +kernel
theorem dX9_paper_101 : decode cX9_paper 101 = .ok (.iload_n 3, 1) := by decide +kernel
theorem dX9_paper_102 : decode cX9_paper 102 = .ok (.ireturn, 1) := by decide +kernel
theorem dX9_look_0 : decode cX9_look 0 = .ok (.iload_n 1, 1) := by decide +kernel
theorem dX9_look_1 : decode cX9_look 1 = .ok (.iconst (-1), 1) := by decide +kernel
theorem dX9_look_2 : decode cX9_look 2 = .ok (.if_icmp .eq 14, 3) := by decide +kernel
theorem dX9_look_5 : decode cX9_look 5 = .ok (.aload_n 0, 1) := by decide +kernel
theorem dX9_look_6 : decode cX9_look 6 = .ok (.iload_n 1, 1) := by decide +kernel
theorem dX9_look_7 : decode cX9_look 7 = .ok (.invokevirtual 61, 3) := by decide +kernel
theorem dX9_look_10 : decode cX9_look 10 = .ok (.ifCond .ne 6, 3) := by decide +kernel
theorem dX9_look_13 : decode cX9_look 13 = .ok (.ldc 51, 2) := by decide +kernel
theorem dX9_look_15 : decode cX9_look 15 = .ok (.ireturn, 1) := by decide +kernel
theorem dX9_look_16 : decode cX9_look 16 = .ok (.aload_n 0, 1) := by decide +kernel
theorem dX9_look_17 : decode cX9_look 17 = .ok (.invokevirtual 54, 3) := by decide +kernel
theorem dX9_look_20 : decode cX9_look 20 = .ok (.aload_n 0, 1) := by decide +kernel
theorem dX9_look_21 : decode cX9_look 21 = .ok (.getfield 7, 3) := by decide +kernel
theorem dX9_look_24 : decode cX9_look 24 = .ok (.iconst 5, 1) := by decide +kernel
theorem dX9_look_25 : decode cX9_look 25 = .ok (.iload_n 1, 1) := by decide +kernel
theorem dX9_look_26 : decode cX9_look 26 = .ok (.iastore, 1) := by decide +kernel
theorem dX9_look_27 : decode cX9_look 27 = .ok (.iload_n 1, 1) := by decide +kernel
theorem dX9_look_28 : decode cX9_look 28 = .ok (.iconst (-1), 1) := by decide +kernel
theorem dX9_look_29 : decode cX9_look 29 = .ok (.if_icmp .ne 7, 3) := by decide +kernel
theorem dX9_look_32 : decode cX9_look 32 = .ok (.iconst 0, 1) := by decide +kernel
theorem dX9_look_33 : decode cX9_look 33 = .ok (.goto 8, 3) := by decide +kernel
theorem dX9_look_36 : decode cX9_look 36 = .ok (.aload_n 0, 1) := by decide +kernel
theorem dX9_look_37 : decode cX9_look 37 = .ok (.iload_n 1, 1) := by decide +kernel
theorem dX9_look_38 : decode cX9_look 38 = .ok (.invokevirtual 64, 3) := by decide +kernel
theorem dX9_look_41 : decode cX9_look 41 = .ok (.ireturn, 1) := by decide +kernel
theorem dX9_slot_0 : decode cX9_slot 0 = .ok (.iconst 0, 1) := by decide +kernel
theorem dX9_slot_1 : decode cX9_slot 1 = .ok (.istore_n 2, 1) := by decide +kernel
theorem dX9_slot_2 : decode cX9_slot 2 = .ok (.iload_n 2, 1) := by decide +kernel
theorem dX9_slot_3 : decode cX9_slot 3 = .ok (.aload_n 0, 1) := by decide +kernel
theorem dX9_slot_4 : decode cX9_slot 4 = .ok (.getfield 7, 3) := by decide +kernel
theorem dX9_slot_7 : decode cX9_slot 7 = .ok (.iconst 2, 1) := by decide +kernel
theorem dX9_slot_8 : decode cX9_slot 8 = .ok (.iaload, 1) := by decide +kernel
theorem dX9_slot_9 : decode cX9_slot 9 = .ok (.if_icmp .ge 21, 3) := by decide +kernel
theorem dX9_slot_12 : decode cX9_slot 12 = .ok (.aload_n 0, 1) := by decide +kernel
theorem dX9_slot_13 : decode cX9_slot 13 = .ok (.iload_n 2, 1) := by decide +kernel
theorem dX9_slot_14 : decode cX9_slot 14 = .ok (.iconst 0, 1) := by decide +kernel
theorem dX9_slot_15 : decode cX9_slot 15 = .ok (.invokevirtual 68, 3) := by decide +kernel
theorem dX9_slot_18 : decode cX9_slot 18 = .ok (.iload_n 1, 1) := by decide +kernel
theorem dX9_slot_19 : decode cX9_slot 19 = .ok (.if_icmp .ne 5, 3) := by decide +kernel
theorem dX9_slot_22 : decode cX9_slot 22 = .ok (.iload_n 2, 1) := by decide +kernel
theorem dX9_slot_23 : decode cX9_slot 23 = .ok (.ireturn, 1) := by decide +kernel
theorem dX9_slot_24 : decode cX9_slot 24 = .ok (.iinc 2 1, 3) := by decide +kernel
theorem dX9_slot_27 : decode cX9_slot 27 = .ok (.goto (-25), 3) := by decide +kernel
theorem dX9_slot_30 : decode cX9_slot 30 = .ok (.ldc 71, 2) := by decide +kernel
theorem dX9_slot_32 : decode cX9_slot 32 = .ok (.ireturn, 1) := by decide +kernel
theorem dX9_sheet_0 : decode cX9_sheet 0 = .ok (.aload_n 0, 1) := by decide +kernel
theorem dX9_sheet_1 : decode cX9_sheet 1 = .ok (.iload_n 1, 1) := by decide +kernel
theorem dX9_sheet_2 : decode cX9_sheet 2 = .ok (.invokevirtual 61, 3) := by decide +kernel
theorem dX9_sheet_5 : decode cX9_sheet 5 = .ok (.ifCond .ne 6, 3) := by decide +kernel
theorem dX9_sheet_8 : decode cX9_sheet 8 = .ok (.ldc 51, 2) := by decide +kernel
theorem dX9_sheet_10 : decode cX9_sheet 10 = .ok (.ireturn, 1) := by decide +kernel
theorem dX9_sheet_11 : decode cX9_sheet 11 = .ok (.aload_n 0, 1) := by decide +kernel
theorem dX9_sheet_12 : decode cX9_sheet 12 = .ok (.getfield 7, 3) := by decide +kernel
theorem dX9_sheet_15 : decode cX9_sheet 15 = .ok (.iconst 2, 1) := by decide +kernel
theorem dX9_sheet_16 : decode cX9_sheet 16 = .ok (.iaload, 1) := by decide +kernel
theorem dX9_sheet_17 : decode cX9_sheet 17 = .ok (.istore_n 2, 1) := by decide +kernel
theorem dX9_sheet_18 : decode cX9_sheet 18 = .ok (.iload_n 2, 1) := by decide +kernel
theorem dX9_sheet_19 : decode cX9_sheet 19 = .ok (.bipush 10, 2) := by decide +kernel
theorem dX9_sheet_21 : decode cX9_sheet 21 = .ok (.if_icmp .ne 6, 3) := by decide +kernel
theorem dX9_sheet_24 : decode cX9_sheet 24 = .ok (.ldc 53, 2) := by decide +kernel
theorem dX9_sheet_26 : decode cX9_sheet 26 = .ok (.ireturn, 1) := by decide +kernel
theorem dX9_sheet_27 : decode cX9_sheet 27 = .ok (.aload_n 0, 1) := by decide +kernel
theorem dX9_sheet_28 : decode cX9_sheet 28 = .ok (.invokevirtual 54, 3) := by decide +kernel
theorem dX9_sheet_31 : decode cX9_sheet 31 = .ok (.aload_n 0, 1) := by decide +kernel
theorem dX9_sheet_32 : decode cX9_sheet 32 = .ok (.getfield 7, 3) := by decide +kernel
theorem dX9_sheet_35 : decode cX9_sheet 35 = .ok (.bipush 119, 2) := by decide +kernel
theorem dX9_sheet_37 : decode cX9_sheet 37 = .ok (.iconst 4, 1) := by decide +kernel
theorem dX9_sheet_38 : decode cX9_sheet 38 = .ok (.iload_n 2, 1) := by decide +kernel
theorem dX9_sheet_39 : decode cX9_sheet 39 = .ok (.imul, 1) := by decide +kernel
theorem dX9_sheet_40 : decode cX9_sheet 40 = .ok (.iadd, 1) := by decide +kernel
theorem dX9_sheet_41 : decode cX9_sheet 41 = .ok (.iconst 0, 1) := by decide +kernel
theorem dX9_sheet_42 : decode cX9_sheet 42 = .ok (.iadd, 1) := by decide +kernel
theorem dX9_sheet_43 : decode cX9_sheet 43 = .ok (.aload_n 0, 1) := by decide +kernel
theorem dX9_sheet_44 : decode cX9_sheet 44 = .ok (.getfield 7, 3) := by decide +kernel
theorem dX9_sheet_47 : decode cX9_sheet 47 = .ok (.iconst 3, 1) := by decide +kernel
theorem dX9_sheet_48 : decode cX9_sheet 48 = .ok (.iaload, 1) := by decide +kernel
theorem dX9_sheet_49 : decode cX9_sheet 49 = .ok (.iastore, 1) := by decide +kernel
theorem dX9_sheet_50 : decode cX9_sheet 50 = .ok (.aload_n 0, 1) := by decide +kernel
theorem dX9_sheet_51 : decode cX9_sheet 51 = .ok (.getfield 7, 3) := by decide +kernel
theorem dX9_sheet_54 : decode cX9_sheet 54 = .ok (.bipush 119, 2) := by decide +kernel
theorem dX9_sheet_56 : decode cX9_sheet 56 = .ok (.iconst 4, 1) := by decide +kernel
theorem dX9_sheet_57 : decode cX9_sheet 57 = .ok (.iload_n 2, 1) := by decide +kernel
theorem dX9_sheet_58 : decode cX9_sheet 58 = .ok (.imul, 1) := by decide +kernel
theorem dX9_sheet_59 : decode cX9_sheet 59 = .ok (.iadd, 1) := by decide +kernel
theorem dX9_sheet_60 : decode cX9_sheet 60 = .ok (.iconst 1, 1) := by decide +kernel
theorem dX9_sheet_61 : decode cX9_sheet 61 = .ok (.iadd, 1) := by decide +kernel
theorem dX9_sheet_62 : decode cX9_sheet 62 = .ok (.iload_n 1, 1) := by decide +kernel
theorem dX9_sheet_63 : decode cX9_sheet 63 = .ok (.iastore, 1) := by decide +kernel
theorem dX9_sheet_64 : decode cX9_sheet 64 = .ok (.aload_n 0, 1) := by decide +kernel
theorem dX9_sheet_65 : decode cX9_sheet 65 = .ok (.getfield 7, 3) := by decide +kernel
theorem dX9_sheet_68 : decode cX9_sheet 68 = .ok (.bipush 119, 2) := by decide +kernel
theorem dX9_sheet_70 : decode cX9_sheet 70 = .ok (.iconst 4, 1) := by decide +kernel
theorem dX9_sheet_71 : decode cX9_sheet 71 = .ok (.iload_n 2, 1) := by decide +kernel
theorem dX9_sheet_72 : decode cX9_sheet 72 = .ok (.imul, 1) := by decide +kernel
theorem dX9_sheet_73 : decode cX9_sheet 73 = .ok (.iadd, 1) := by decide +kernel
theorem dX9_sheet_74 : decode cX9_sheet 74 = .ok (.iconst 2, 1) := by decide +kernel
theorem dX9_sheet_75 : decode cX9_sheet 75 = .ok (.iadd, 1) := by decide +kernel
theorem dX9_sheet_76 : decode cX9_sheet 76 = .ok (.iconst 0, 1) := by decide +kernel
theorem dX9_sheet_77 : decode cX9_sheet 77 = .ok (.iastore, 1) := by decide +kernel
theorem dX9_sheet_78 : decode cX9_sheet 78 = .ok (.aload_n 0, 1) := by decide +kernel
theorem dX9_sheet_79 : decode cX9_sheet 79 = .ok (.getfield 7, 3) := by decide +kernel
theorem dX9_sheet_82 : decode cX9_sheet 82 = .ok (.bipush 119, 2) := by decide +kernel
theorem dX9_sheet_84 : decode cX9_sheet 84 = .ok (.iconst 4, 1) := by decide +kernel
theorem dX9_sheet_85 : decode cX9_sheet 85 = .ok (.iload_n 2, 1) := by decide +kernel
theorem dX9_sheet_86 : decode cX9_sheet 86 = .ok (.imul, 1) := by decide +kernel
theorem dX9_sheet_87 : decode cX9_sheet 87 = .ok (.iadd, 1) := by decide +kernel
theorem dX9_sheet_88 : decode cX9_sheet 88 = .ok (.iconst 3, 1) := by decide +kernel
theorem dX9_sheet_89 : decode cX9_sheet 89 = .ok (.iadd, 1) := by decide +kernel
theorem dX9_sheet_90 : decode cX9_sheet 90 = .ok (.iconst 0, 1) := by decide +kernel
theorem dX9_sheet_91 : decode cX9_sheet 91 = .ok (.iastore, 1) := by decide +kernel
theorem dX9_sheet_92 : decode cX9_sheet 92 = .ok (.aload_n 0, 1) := by decide +kernel
theorem dX9_sheet_93 : decode cX9_sheet 93 = .ok (.getfield 7, 3) := by decide +kernel
theorem dX9_sheet_96 : decode cX9_sheet 96 = .ok (.iconst 2, 1) := by decide +kernel
theorem dX9_sheet_97 : decode cX9_sheet 97 = .ok (.dup2, 1) := by decide +kernel
theorem dX9_sheet_98 : decode cX9_sheet 98 = .ok (.iaload, 1) := by decide +kernel
theorem dX9_sheet_99 : decode cX9_sheet 99 = .ok (.iconst 1, 1) := by decide +kernel
theorem dX9_sheet_100 : decode cX9_sheet 100 = .ok (.iadd, 1) := by decide +kernel
theorem dX9_sheet_101 : decode cX9_sheet 101 = .ok (.iastore, 1) := by decide +kernel
theorem dX9_sheet_102 : decode cX9_sheet 102 = .ok (.aload_n 0, 1) := by decide +kernel
theorem dX9_sheet_103 : decode cX9_sheet 103 = .ok (.getfield 7, 3) := by decide +kernel
theorem dX9_sheet_106 : decode cX9_sheet 106 = .ok (.iconst 3, 1) := by decide +kernel
theorem dX9_sheet_107 : decode cX9_sheet 107 = .ok (.dup2, 1) := by decide +kernel
theorem dX9_sheet_108 : decode cX9_sheet 108 = .ok (.iaload, 1) := by decide +kernel
theorem dX9_sheet_109 : decode cX9_sheet 109 = .ok (.iconst 1, 1) := by decide +kernel
theorem dX9_sheet_110 : decode cX9_sheet 110 = .ok (.iadd, 1) := by decide +kernel
theorem dX9_sheet_111 : decode cX9_sheet 111 = .ok (.iastore, 1) := by decide +kernel
theorem dX9_sheet_112 : decode cX9_sheet 112 = .ok (.aload_n 0, 1) := by decide +kernel
theorem dX9_sheet_113 : decode cX9_sheet 113 = .ok (.getfield 7, 3) := by decide +kernel
theorem dX9_sheet_116 : decode cX9_sheet 116 = .ok (.iconst 3, 1) := by decide +kernel
theorem dX9_sheet_117 : decode cX9_sheet 117 = .ok (.iaload, 1) := by decide +kernel
theorem dX9_sheet_118 : decode cX9_sheet 118 = .ok (.iconst 1, 1) := by decide +kernel
theorem dX9_sheet_119 : decode cX9_sheet 119 = .ok (.isub, 1) := by decide +kernel
theorem dX9_sheet_120 : decode cX9_sheet 120 = .ok (.ireturn, 1) := by decide +kernel
theorem dX9_drawable_0 : decode cX9_drawable 0 = .ok (.aload_n 0, 1) := by decide +kernel
theorem dX9_drawable_1 : decode cX9_drawable 1 = .ok (.aload_n 0, 1) := by decide +kernel
theorem dX9_drawable_2 : decode cX9_drawable 2 = .ok (.iload_n 1, 1) := by decide +kernel
theorem dX9_drawable_3 : decode cX9_drawable 3 = .ok (.iconst 1, 1) := by decide +kernel
theorem dX9_drawable_4 : decode cX9_drawable 4 = .ok (.invokevirtual 68, 3) := by decide +kernel
theorem dX9_drawable_7 : decode cX9_drawable 7 = .ok (.invokevirtual 72, 3) := by decide +kernel
theorem dX9_drawable_10 : decode cX9_drawable 10 = .ok (.aload_n 0, 1) := by decide +kernel
theorem dX9_drawable_11 : decode cX9_drawable 11 = .ok (.iload_n 1, 1) := by decide +kernel
theorem dX9_drawable_12 : decode cX9_drawable 12 = .ok (.iconst 2, 1) := by decide +kernel
theorem dX9_drawable_13 : decode cX9_drawable 13 = .ok (.invokevirtual 68, 3) := by decide +kernel
theorem dX9_drawable_16 : decode cX9_drawable 16 = .ok (.iconst (-1), 1) := by decide +kernel
theorem dX9_drawable_17 : decode cX9_drawable 17 = .ok (.ixor, 1) := by decide +kernel
theorem dX9_drawable_18 : decode cX9_drawable 18 = .ok (.iand, 1) := by decide +kernel
theorem dX9_drawable_19 : decode cX9_drawable 19 = .ok (.ireturn, 1) := by decide +kernel
theorem dX9_draw_0 : decode cX9_draw 0 = .ok (.aload_n 0, 1) := by decide +kernel
theorem dX9_draw_1 : decode cX9_draw 1 = .ok (.iload_n 1, 1) := by decide +kernel
theorem dX9_draw_2 : decode cX9_draw 2 = .ok (.invokevirtual 75, 3) := by decide +kernel
theorem dX9_draw_5 : decode cX9_draw 5 = .ok (.istore_n 3, 1) := by decide +kernel
theorem dX9_draw_6 : decode cX9_draw 6 = .ok (.iload_n 3, 1) := by decide +kernel
theorem dX9_draw_7 : decode cX9_draw 7 = .ok (.ifCond .lt 13, 3) := by decide +kernel
theorem dX9_draw_10 : decode cX9_draw 10 = .ok (.iload_n 2, 1) := by decide +kernel
theorem dX9_draw_11 : decode cX9_draw 11 = .ok (.iconst 0, 1) := by decide +kernel
theorem dX9_draw_12 : decode cX9_draw 12 = .ok (.bipush 11, 2) := by decide +kernel
theorem dX9_draw_14 : decode cX9_draw 14 = .ok (.invokestatic 47, 3) := by decide +kernel
theorem dX9_draw_17 : decode cX9_draw 17 = .ok (.ifCond .ne 6, 3) := by decide +kernel
theorem dX9_draw_20 : decode cX9_draw 20 = .ok (.ldc 51, 2) := by decide +kernel
theorem dX9_draw_22 : decode cX9_draw 22 = .ok (.ireturn, 1) := by decide +kernel
theorem dX9_draw_23 : decode cX9_draw 23 = .ok (.aload_n 0, 1) := by decide +kernel
theorem dX9_draw_24 : decode cX9_draw 24 = .ok (.iload_n 3, 1) := by decide +kernel
theorem dX9_draw_25 : decode cX9_draw 25 = .ok (.invokevirtual 78, 3) := by decide +kernel
theorem dX9_draw_28 : decode cX9_draw 28 = .ok (.iconst 1, 1) := by decide +kernel
theorem dX9_draw_29 : decode cX9_draw 29 = .ok (.iload_n 2, 1) := by decide +kernel
theorem dX9_draw_30 : decode cX9_draw 30 = .ok (.ishl, 1) := by decide +kernel
theorem dX9_draw_31 : decode cX9_draw 31 = .ok (.iand, 1) := by decide +kernel
theorem dX9_draw_32 : decode cX9_draw 32 = .ok (.ifCond .ne 6, 3) := by decide +kernel
theorem dX9_draw_35 : decode cX9_draw 35 = .ok (.ldc 52, 2) := by decide +kernel
theorem dX9_draw_37 : decode cX9_draw 37 = .ok (.ireturn, 1) := by decide +kernel
theorem dX9_draw_38 : decode cX9_draw 38 = .ok (.aload_n 0, 1) := by decide +kernel
theorem dX9_draw_39 : decode cX9_draw 39 = .ok (.getfield 7, 3) := by decide +kernel
theorem dX9_draw_42 : decode cX9_draw 42 = .ok (.bipush 6, 2) := by decide +kernel
theorem dX9_draw_44 : decode cX9_draw 44 = .ok (.iaload, 1) := by decide +kernel
theorem dX9_draw_45 : decode cX9_draw 45 = .ok (.iconst 3, 1) := by decide +kernel
theorem dX9_draw_46 : decode cX9_draw 46 = .ok (.if_icmp .ne 6, 3) := by decide +kernel
theorem dX9_draw_49 : decode cX9_draw 49 = .ok (.ldc 53, 2) := by decide +kernel
theorem dX9_draw_51 : decode cX9_draw 51 = .ok (.ireturn, 1) := by decide +kernel
theorem dX9_draw_52 : decode cX9_draw 52 = .ok (.aload_n 0, 1) := by decide +kernel
theorem dX9_draw_53 : decode cX9_draw 53 = .ok (.invokevirtual 54, 3) := by decide +kernel
theorem dX9_draw_56 : decode cX9_draw 56 = .ok (.aload_n 0, 1) := by decide +kernel
theorem dX9_draw_57 : decode cX9_draw 57 = .ok (.getfield 7, 3) := by decide +kernel
theorem dX9_draw_60 : decode cX9_draw 60 = .ok (.iconst 4, 1) := by decide +kernel
theorem dX9_draw_61 : decode cX9_draw 61 = .ok (.iaload, 1) := by decide +kernel
theorem dX9_draw_62 : decode cX9_draw 62 = .ok (.aload_n 0, 1) := by decide +kernel
theorem dX9_draw_63 : decode cX9_draw 63 = .ok (.getfield 7, 3) := by decide +kernel
theorem dX9_draw_66 : decode cX9_draw 66 = .ok (.bipush 10, 2) := by decide +kernel
theorem dX9_draw_68 : decode cX9_draw 68 = .ok (.iaload, 1) := by decide +kernel
theorem dX9_draw_69 : decode cX9_draw 69 = .ok (.iadd, 1) := by decide +kernel
theorem dX9_draw_70 : decode cX9_draw 70 = .ok (.istore 4, 2) := by decide +kernel
theorem dX9_draw_72 : decode cX9_draw 72 = .ok (.aload_n 0, 1) := by decide +kernel
theorem dX9_draw_73 : decode cX9_draw 73 = .ok (.getfield 7, 3) := by decide +kernel
theorem dX9_draw_76 : decode cX9_draw 76 = .ok (.bipush 119, 2) := by decide +kernel
theorem dX9_draw_78 : decode cX9_draw 78 = .ok (.iconst 4, 1) := by decide +kernel
theorem dX9_draw_79 : decode cX9_draw 79 = .ok (.iload_n 3, 1) := by decide +kernel
theorem dX9_draw_80 : decode cX9_draw 80 = .ok (.imul, 1) := by decide +kernel
theorem dX9_draw_81 : decode cX9_draw 81 = .ok (.iadd, 1) := by decide +kernel
theorem dX9_draw_82 : decode cX9_draw 82 = .ok (.iconst 2, 1) := by decide +kernel
theorem dX9_draw_83 : decode cX9_draw 83 = .ok (.iadd, 1) := by decide +kernel
theorem dX9_draw_84 : decode cX9_draw 84 = .ok (.dup2, 1) := by decide +kernel
theorem dX9_draw_85 : decode cX9_draw 85 = .ok (.iaload, 1) := by decide +kernel
theorem dX9_draw_86 : decode cX9_draw 86 = .ok (.iconst 1, 1) := by decide +kernel
theorem dX9_draw_87 : decode cX9_draw 87 = .ok (.iload_n 2, 1) := by decide +kernel
theorem dX9_draw_88 : decode cX9_draw 88 = .ok (.ishl, 1) := by decide +kernel
theorem dX9_draw_89 : decode cX9_draw 89 = .ok (.ior, 1) := by decide +kernel
theorem dX9_draw_90 : decode cX9_draw 90 = .ok (.iastore, 1) := by decide +kernel
theorem dX9_draw_91 : decode cX9_draw 91 = .ok (.aload_n 0, 1) := by decide +kernel
theorem dX9_draw_92 : decode cX9_draw 92 = .ok (.getfield 7, 3) := by decide +kernel
theorem dX9_draw_95 : decode cX9_draw 95 = .ok (.bipush 119, 2) := by decide +kernel
theorem dX9_draw_97 : decode cX9_draw 97 = .ok (.iconst 4, 1) := by decide +kernel
theorem dX9_draw_98 : decode cX9_draw 98 = .ok (.iload_n 3, 1) := by decide +kernel
theorem dX9_draw_99 : decode cX9_draw 99 = .ok (.imul, 1) := by decide +kernel
theorem dX9_draw_100 : decode cX9_draw 100 = .ok (.iadd, 1) := by decide +kernel
theorem dX9_draw_101 : decode cX9_draw 101 = .ok (.iconst 3, 1) := by decide +kernel
theorem dX9_draw_102 : decode cX9_draw 102 = .ok (.iadd, 1) := by decide +kernel
theorem dX9_draw_103 : decode cX9_draw 103 = .ok (.iload 4, 2) := by decide +kernel
theorem dX9_draw_105 : decode cX9_draw 105 = .ok (.aload_n 0, 1) := by decide +kernel
theorem dX9_draw_106 : decode cX9_draw 106 = .ok (.iload_n 3, 1) := by decide +kernel
theorem dX9_draw_107 : decode cX9_draw 107 = .ok (.iconst 3, 1) := by decide +kernel
theorem dX9_draw_108 : decode cX9_draw 108 = .ok (.invokevirtual 68, 3) := by decide +kernel
theorem dX9_draw_111 : decode cX9_draw 111 = .ok (.if_icmp .le 8, 3) := by decide +kernel
theorem dX9_draw_114 : decode cX9_draw 114 = .ok (.iload 4, 2) := by decide +kernel
theorem dX9_draw_116 : decode cX9_draw 116 = .ok (.goto 9, 3) := by decide +kernel
theorem dX9_draw_119 : decode cX9_draw 119 = .ok (.aload_n 0, 1) := by decide +kernel
theorem dX9_draw_120 : decode cX9_draw 120 = .ok (.iload_n 3, 1) := by decide +kernel
theorem dX9_draw_121 : decode cX9_draw 121 = .ok (.iconst 3, 1) := by decide +kernel
theorem dX9_draw_122 : decode cX9_draw 122 = .ok (.invokevirtual 68, 3) := by decide +kernel
theorem dX9_draw_125 : decode cX9_draw 125 = .ok (.iastore, 1) := by decide +kernel
theorem dX9_draw_126 : decode cX9_draw 126 = .ok (.aload_n 0, 1) := by decide +kernel
theorem dX9_draw_127 : decode cX9_draw 127 = .ok (.getfield 7, 3) := by decide +kernel
theorem dX9_draw_130 : decode cX9_draw 130 = .ok (.bipush 6, 2) := by decide +kernel
theorem dX9_draw_132 : decode cX9_draw 132 = .ok (.dup2, 1) := by decide +kernel
theorem dX9_draw_133 : decode cX9_draw 133 = .ok (.iaload, 1) := by decide +kernel
theorem dX9_draw_134 : decode cX9_draw 134 = .ok (.iconst 1, 1) := by decide +kernel
theorem dX9_draw_135 : decode cX9_draw 135 = .ok (.iadd, 1) := by decide +kernel
theorem dX9_draw_136 : decode cX9_draw 136 = .ok (.iastore, 1) := by decide +kernel
theorem dX9_draw_137 : decode cX9_draw 137 = .ok (.aload_n 0, 1) := by decide +kernel
theorem dX9_draw_138 : decode cX9_draw 138 = .ok (.iload_n 3, 1) := by decide +kernel
theorem dX9_draw_139 : decode cX9_draw 139 = .ok (.iconst 2, 1) := by decide +kernel
theorem dX9_draw_140 : decode cX9_draw 140 = .ok (.invokevirtual 68, 3) := by decide +kernel
theorem dX9_draw_143 : decode cX9_draw 143 = .ok (.invokestatic 81, 3) := by decide +kernel
theorem dX9_draw_146 : decode cX9_draw 146 = .ok (.ireturn, 1) := by decide +kernel
theorem dX9_takesOut_0 : decode cX9_takesOut 0 = .ok (.aload_n 0, 1) := by decide +kernel
theorem dX9_takesOut_1 : decode cX9_takesOut 1 = .ok (.getfield 7, 3) := by decide +kernel
theorem dX9_takesOut_4 : decode cX9_takesOut 4 = .ok (.iconst 2, 1) := by decide +kernel
theorem dX9_takesOut_5 : decode cX9_takesOut 5 = .ok (.dup2, 1) := by decide +kernel
theorem dX9_takesOut_6 : decode cX9_takesOut 6 = .ok (.iaload, 1) := by decide +kernel
theorem dX9_takesOut_7 : decode cX9_takesOut 7 = .ok (.iconst 1, 1) := by decide +kernel
theorem dX9_takesOut_8 : decode cX9_takesOut 8 = .ok (.isub, 1) := by decide +kernel
theorem dX9_takesOut_9 : decode cX9_takesOut 9 = .ok (.iastore, 1) := by decide +kernel
theorem dX9_takesOut_10 : decode cX9_takesOut 10 = .ok (.bipush 119, 2) := by decide +kernel
theorem dX9_takesOut_12 : decode cX9_takesOut 12 = .ok (.iconst 4, 1) := by decide +kernel
theorem dX9_takesOut_13 : decode cX9_takesOut 13 = .ok (.iload_n 1, 1) := by decide +kernel
theorem dX9_takesOut_14 : decode cX9_takesOut 14 = .ok (.imul, 1) := by decide +kernel
theorem dX9_takesOut_15 : decode cX9_takesOut 15 = .ok (.iadd, 1) := by decide +kernel
theorem dX9_takesOut_16 : decode cX9_takesOut 16 = .ok (.istore_n 2, 1) := by decide +kernel
theorem dX9_takesOut_17 : decode cX9_takesOut 17 = .ok (.iload_n 2, 1) := by decide +kernel
theorem dX9_takesOut_18 : decode cX9_takesOut 18 = .ok (.bipush 119, 2) := by decide +kernel
theorem dX9_takesOut_20 : decode cX9_takesOut 20 = .ok (.iconst 4, 1) := by decide +kernel
theorem dX9_takesOut_21 : decode cX9_takesOut 21 = .ok (.aload_n 0, 1) := by decide +kernel
theorem dX9_takesOut_22 : decode cX9_takesOut 22 = .ok (.getfield 7, 3) := by decide +kernel
theorem dX9_takesOut_25 : decode cX9_takesOut 25 = .ok (.iconst 2, 1) := by decide +kernel
theorem dX9_takesOut_26 : decode cX9_takesOut 26 = .ok (.iaload, 1) := by decide +kernel
theorem dX9_takesOut_27 : decode cX9_takesOut 27 = .ok (.imul, 1) := by decide +kernel
theorem dX9_takesOut_28 : decode cX9_takesOut 28 = .ok (.iadd, 1) := by decide +kernel
theorem dX9_takesOut_29 : decode cX9_takesOut 29 = .ok (.if_icmp .ge 23, 3) := by decide +kernel
theorem dX9_takesOut_32 : decode cX9_takesOut 32 = .ok (.aload_n 0, 1) := by decide +kernel
theorem dX9_takesOut_33 : decode cX9_takesOut 33 = .ok (.getfield 7, 3) := by decide +kernel
theorem dX9_takesOut_36 : decode cX9_takesOut 36 = .ok (.iload_n 2, 1) := by decide +kernel
theorem dX9_takesOut_37 : decode cX9_takesOut 37 = .ok (.aload_n 0, 1) := by decide +kernel
theorem dX9_takesOut_38 : decode cX9_takesOut 38 = .ok (.getfield 7, 3) := by decide +kernel
theorem dX9_takesOut_41 : decode cX9_takesOut 41 = .ok (.iload_n 2, 1) := by decide +kernel
theorem dX9_takesOut_42 : decode cX9_takesOut 42 = .ok (.iconst 4, 1) := by decide +kernel
theorem dX9_takesOut_43 : decode cX9_takesOut 43 = .ok (.iadd, 1) := by decide +kernel
theorem dX9_takesOut_44 : decode cX9_takesOut 44 = .ok (.iaload, 1) := by decide +kernel
theorem dX9_takesOut_45 : decode cX9_takesOut 45 = .ok (.iastore, 1) := by decide +kernel
theorem dX9_takesOut_46 : decode cX9_takesOut 46 = .ok (.iinc 2 1, 3) := by decide +kernel
theorem dX9_takesOut_49 : decode cX9_takesOut 49 = .ok (.goto (-32), 3) := by decide +kernel
theorem dX9_takesOut_52 : decode cX9_takesOut 52 = .ok (.return_, 1) := by decide +kernel
theorem dX9_tear_0 : decode cX9_tear 0 = .ok (.aload_n 0, 1) := by decide +kernel
theorem dX9_tear_1 : decode cX9_tear 1 = .ok (.iload_n 1, 1) := by decide +kernel
theorem dX9_tear_2 : decode cX9_tear 2 = .ok (.invokevirtual 75, 3) := by decide +kernel
theorem dX9_tear_5 : decode cX9_tear 5 = .ok (.istore_n 2, 1) := by decide +kernel
theorem dX9_tear_6 : decode cX9_tear 6 = .ok (.iload_n 2, 1) := by decide +kernel
theorem dX9_tear_7 : decode cX9_tear 7 = .ok (.ifCond .ge 6, 3) := by decide +kernel
theorem dX9_tear_10 : decode cX9_tear 10 = .ok (.ldc 51, 2) := by decide +kernel
theorem dX9_tear_12 : decode cX9_tear 12 = .ok (.ireturn, 1) := by decide +kernel
theorem dX9_tear_13 : decode cX9_tear 13 = .ok (.aload_n 0, 1) := by decide +kernel
theorem dX9_tear_14 : decode cX9_tear 14 = .ok (.invokevirtual 54, 3) := by decide +kernel
theorem dX9_tear_17 : decode cX9_tear 17 = .ok (.aload_n 0, 1) := by decide +kernel
theorem dX9_tear_18 : decode cX9_tear 18 = .ok (.iload_n 2, 1) := by decide +kernel
theorem dX9_tear_19 : decode cX9_tear 19 = .ok (.invokevirtual 84, 3) := by decide +kernel
theorem dX9_tear_22 : decode cX9_tear 22 = .ok (.aload_n 0, 1) := by decide +kernel
theorem dX9_tear_23 : decode cX9_tear 23 = .ok (.getfield 7, 3) := by decide +kernel
theorem dX9_tear_26 : decode cX9_tear 26 = .ok (.iconst 2, 1) := by decide +kernel
theorem dX9_tear_27 : decode cX9_tear 27 = .ok (.iaload, 1) := by decide +kernel
theorem dX9_tear_28 : decode cX9_tear 28 = .ok (.ireturn, 1) := by decide +kernel
theorem dX9_sheetsOf_0 : decode cX9_sheetsOf 0 = .ok (.iconst 0, 1) := by decide +kernel
theorem dX9_sheetsOf_1 : decode cX9_sheetsOf 1 = .ok (.istore_n 2, 1) := by decide +kernel
theorem dX9_sheetsOf_2 : decode cX9_sheetsOf 2 = .ok (.iconst 0, 1) := by decide +kernel
theorem dX9_sheetsOf_3 : decode cX9_sheetsOf 3 = .ok (.istore_n 3, 1) := by decide +kernel
theorem dX9_sheetsOf_4 : decode cX9_sheetsOf 4 = .ok (.iload_n 3, 1) := by decide +kernel
theorem dX9_sheetsOf_5 : decode cX9_sheetsOf 5 = .ok (.aload_n 0, 1) := by decide +kernel
theorem dX9_sheetsOf_6 : decode cX9_sheetsOf 6 = .ok (.getfield 7, 3) := by decide +kernel
theorem dX9_sheetsOf_9 : decode cX9_sheetsOf 9 = .ok (.iconst 2, 1) := by decide +kernel
theorem dX9_sheetsOf_10 : decode cX9_sheetsOf 10 = .ok (.iaload, 1) := by decide +kernel
theorem dX9_sheetsOf_11 : decode cX9_sheetsOf 11 = .ok (.if_icmp .ge 27, 3) := by decide +kernel
theorem dX9_sheetsOf_14 : decode cX9_sheetsOf 14 = .ok (.iload_n 2, 1) := by decide +kernel
theorem dX9_sheetsOf_15 : decode cX9_sheetsOf 15 = .ok (.aload_n 0, 1) := by decide +kernel
theorem dX9_sheetsOf_16 : decode cX9_sheetsOf 16 = .ok (.iload_n 3, 1) := by decide +kernel
theorem dX9_sheetsOf_17 : decode cX9_sheetsOf 17 = .ok (.iconst 1, 1) := by decide +kernel
theorem dX9_sheetsOf_18 : decode cX9_sheetsOf 18 = .ok (.invokevirtual 68, 3) := by decide +kernel
theorem dX9_sheetsOf_21 : decode cX9_sheetsOf 21 = .ok (.iload_n 1, 1) := by decide +kernel
theorem dX9_sheetsOf_22 : decode cX9_sheetsOf 22 = .ok (.if_icmp .ne 7, 3) := by decide +kernel
theorem dX9_sheetsOf_25 : decode cX9_sheetsOf 25 = .ok (.iconst 1, 1) := by decide +kernel
theorem dX9_sheetsOf_26 : decode cX9_sheetsOf 26 = .ok (.goto 4, 3) := by decide +kernel
theorem dX9_sheetsOf_29 : decode cX9_sheetsOf 29 = .ok (.iconst 0, 1) := by decide +kernel
theorem dX9_sheetsOf_30 : decode cX9_sheetsOf 30 = .ok (.iadd, 1) := by decide +kernel
theorem dX9_sheetsOf_31 : decode cX9_sheetsOf 31 = .ok (.istore_n 2, 1) := by decide +kernel
theorem dX9_sheetsOf_32 : decode cX9_sheetsOf 32 = .ok (.iinc 3 1, 3) := by decide +kernel
theorem dX9_sheetsOf_35 : decode cX9_sheetsOf 35 = .ok (.goto (-31), 3) := by decide +kernel
theorem dX9_sheetsOf_38 : decode cX9_sheetsOf 38 = .ok (.iload_n 2, 1) := by decide +kernel
theorem dX9_sheetsOf_39 : decode cX9_sheetsOf 39 = .ok (.ireturn, 1) := by decide +kernel
theorem dX9_hasVerdict_0 : decode cX9_hasVerdict 0 = .ok (.aload_n 0, 1) := by decide +kernel
theorem dX9_hasVerdict_1 : decode cX9_hasVerdict 1 = .ok (.iload_n 1, 1) := by decide +kernel
theorem dX9_hasVerdict_2 : decode cX9_hasVerdict 2 = .ok (.iconst 4, 1) := by decide +kernel
theorem dX9_hasVerdict_3 : decode cX9_hasVerdict 3 = .ok (.invokevirtual 36, 3) := by decide +kernel
theorem dX9_hasVerdict_6 : decode cX9_hasVerdict 6 = .ok (.aload_n 0, 1) := by decide +kernel
theorem dX9_hasVerdict_7 : decode cX9_hasVerdict 7 = .ok (.invokevirtual 88, 3) := by decide +kernel
theorem dX9_hasVerdict_10 : decode cX9_hasVerdict 10 = .ok (.if_icmp .ne 7, 3) := by decide +kernel
theorem dX9_hasVerdict_13 : decode cX9_hasVerdict 13 = .ok (.iconst 1, 1) := by decide +kernel
theorem dX9_hasVerdict_14 : decode cX9_hasVerdict 14 = .ok (.goto 4, 3) := by decide +kernel
theorem dX9_hasVerdict_17 : decode cX9_hasVerdict 17 = .ok (.iconst 0, 1) := by decide +kernel
theorem dX9_hasVerdict_18 : decode cX9_hasVerdict 18 = .ok (.ireturn, 1) := by decide +kernel
theorem dX9_verdict_0 : decode cX9_verdict 0 = .ok (.aload_n 0, 1) := by decide +kernel
theorem dX9_verdict_1 : decode cX9_verdict 1 = .ok (.iload_n 1, 1) := by decide +kernel
theorem dX9_verdict_2 : decode cX9_verdict 2 = .ok (.invokevirtual 61, 3) := by decide +kernel
theorem dX9_verdict_5 : decode cX9_verdict 5 = .ok (.ifCond .ne 6, 3) := by decide +kernel
theorem dX9_verdict_8 : decode cX9_verdict 8 = .ok (.ldc 51, 2) := by decide +kernel
theorem dX9_verdict_10 : decode cX9_verdict 10 = .ok (.ireturn, 1) := by decide +kernel
theorem dX9_verdict_11 : decode cX9_verdict 11 = .ok (.aload_n 0, 1) := by decide +kernel
theorem dX9_verdict_12 : decode cX9_verdict 12 = .ok (.iload_n 1, 1) := by decide +kernel
theorem dX9_verdict_13 : decode cX9_verdict 13 = .ok (.invokevirtual 92, 3) := by decide +kernel
theorem dX9_verdict_16 : decode cX9_verdict 16 = .ok (.ifCond .eq 6, 3) := by decide +kernel
theorem dX9_verdict_19 : decode cX9_verdict 19 = .ok (.ldc 52, 2) := by decide +kernel
theorem dX9_verdict_21 : decode cX9_verdict 21 = .ok (.ireturn, 1) := by decide +kernel
theorem dX9_verdict_22 : decode cX9_verdict 22 = .ok (.aload_n 0, 1) := by decide +kernel
theorem dX9_verdict_23 : decode cX9_verdict 23 = .ok (.invokevirtual 54, 3) := by decide +kernel
theorem dX9_verdict_26 : decode cX9_verdict 26 = .ok (.aload_n 0, 1) := by decide +kernel
theorem dX9_verdict_27 : decode cX9_verdict 27 = .ok (.iload_n 1, 1) := by decide +kernel
theorem dX9_verdict_28 : decode cX9_verdict 28 = .ok (.iconst 4, 1) := by decide +kernel
theorem dX9_verdict_29 : decode cX9_verdict 29 = .ok (.aload_n 0, 1) := by decide +kernel
theorem dX9_verdict_30 : decode cX9_verdict 30 = .ok (.invokevirtual 88, 3) := by decide +kernel
theorem dX9_verdict_33 : decode cX9_verdict 33 = .ok (.invokevirtual 57, 3) := by decide +kernel
theorem dX9_verdict_36 : decode cX9_verdict 36 = .ok (.aload_n 0, 1) := by decide +kernel
theorem dX9_verdict_37 : decode cX9_verdict 37 = .ok (.iload_n 1, 1) := by decide +kernel
theorem dX9_verdict_38 : decode cX9_verdict 38 = .ok (.invokevirtual 95, 3) := by decide +kernel
theorem dX9_verdict_41 : decode cX9_verdict 41 = .ok (.ireturn, 1) := by decide +kernel
theorem dX9_isDry_0 : decode cX9_isDry 0 = .ok (.aload_n 0, 1) := by decide +kernel
theorem dX9_isDry_1 : decode cX9_isDry 1 = .ok (.iload_n 1, 1) := by decide +kernel
theorem dX9_isDry_2 : decode cX9_isDry 2 = .ok (.iconst 2, 1) := by decide +kernel
theorem dX9_isDry_3 : decode cX9_isDry 3 = .ok (.invokevirtual 68, 3) := by decide +kernel
theorem dX9_isDry_6 : decode cX9_isDry 6 = .ok (.ifCond .eq 22, 3) := by decide +kernel
theorem dX9_isDry_9 : decode cX9_isDry 9 = .ok (.aload_n 0, 1) := by decide +kernel
theorem dX9_isDry_10 : decode cX9_isDry 10 = .ok (.iload_n 1, 1) := by decide +kernel
theorem dX9_isDry_11 : decode cX9_isDry 11 = .ok (.iconst 3, 1) := by decide +kernel
theorem dX9_isDry_12 : decode cX9_isDry 12 = .ok (.invokevirtual 68, 3) := by decide +kernel
theorem dX9_isDry_15 : decode cX9_isDry 15 = .ok (.aload_n 0, 1) := by decide +kernel
theorem dX9_isDry_16 : decode cX9_isDry 16 = .ok (.getfield 7, 3) := by decide +kernel
theorem dX9_isDry_19 : decode cX9_isDry 19 = .ok (.iconst 4, 1) := by decide +kernel
theorem dX9_isDry_20 : decode cX9_isDry 20 = .ok (.iaload, 1) := by decide +kernel
theorem dX9_isDry_21 : decode cX9_isDry 21 = .ok (.if_icmp .gt 7, 3) := by decide +kernel
theorem dX9_isDry_24 : decode cX9_isDry 24 = .ok (.iconst 1, 1) := by decide +kernel
theorem dX9_isDry_25 : decode cX9_isDry 25 = .ok (.goto 4, 3) := by decide +kernel
theorem dX9_isDry_28 : decode cX9_isDry 28 = .ok (.iconst 0, 1) := by decide +kernel
theorem dX9_isDry_29 : decode cX9_isDry 29 = .ok (.ireturn, 1) := by decide +kernel
theorem dX9_boughtOf_0 : decode cX9_boughtOf 0 = .ok (.aload_n 0, 1) := by decide +kernel
theorem dX9_boughtOf_1 : decode cX9_boughtOf 1 = .ok (.iload_n 1, 1) := by decide +kernel
theorem dX9_boughtOf_2 : decode cX9_boughtOf 2 = .ok (.iconst 4, 1) := by decide +kernel
theorem dX9_boughtOf_3 : decode cX9_boughtOf 3 = .ok (.invokevirtual 98, 3) := by decide +kernel
theorem dX9_boughtOf_6 : decode cX9_boughtOf 6 = .ok (.aload_n 0, 1) := by decide +kernel
theorem dX9_boughtOf_7 : decode cX9_boughtOf 7 = .ok (.invokevirtual 88, 3) := by decide +kernel
theorem dX9_boughtOf_10 : decode cX9_boughtOf 10 = .ok (.if_icmp .ne 12, 3) := by decide +kernel
theorem dX9_boughtOf_13 : decode cX9_boughtOf 13 = .ok (.aload_n 0, 1) := by decide +kernel
theorem dX9_boughtOf_14 : decode cX9_boughtOf 14 = .ok (.iload_n 1, 1) := by decide +kernel
theorem dX9_boughtOf_15 : decode cX9_boughtOf 15 = .ok (.iconst 5, 1) := by decide +kernel
theorem dX9_boughtOf_16 : decode cX9_boughtOf 16 = .ok (.invokevirtual 98, 3) := by decide +kernel
theorem dX9_boughtOf_19 : decode cX9_boughtOf 19 = .ok (.goto 4, 3) := by decide +kernel
theorem dX9_boughtOf_22 : decode cX9_boughtOf 22 = .ok (.iconst 0, 1) := by decide +kernel
theorem dX9_boughtOf_23 : decode cX9_boughtOf 23 = .ok (.ireturn, 1) := by decide +kernel
theorem dX9_canSell_0 : decode cX9_canSell 0 = .ok (.aload_n 0, 1) := by decide +kernel
theorem dX9_canSell_1 : decode cX9_canSell 1 = .ok (.iload_n 1, 1) := by decide +kernel
theorem dX9_canSell_2 : decode cX9_canSell 2 = .ok (.invokevirtual 101, 3) := by decide +kernel
theorem dX9_canSell_5 : decode cX9_canSell 5 = .ok (.ifCond .eq 24, 3) := by decide +kernel
theorem dX9_canSell_8 : decode cX9_canSell 8 = .ok (.aload_n 0, 1) := by decide +kernel
theorem dX9_canSell_9 : decode cX9_canSell 9 = .ok (.iload_n 2, 1) := by decide +kernel
theorem dX9_canSell_10 : decode cX9_canSell 10 = .ok (.invokevirtual 104, 3) := by decide +kernel
theorem dX9_canSell_13 : decode cX9_canSell 13 = .ok (.aload_n 0, 1) := by decide +kernel
theorem dX9_canSell_14 : decode cX9_canSell 14 = .ok (.iload_n 1, 1) := by decide +kernel
theorem dX9_canSell_15 : decode cX9_canSell 15 = .ok (.iconst 1, 1) := by decide +kernel
theorem dX9_canSell_16 : decode cX9_canSell 16 = .ok (.invokevirtual 68, 3) := by decide +kernel
theorem dX9_canSell_19 : decode cX9_canSell 19 = .ok (.ishr, 1) := by decide +kernel
theorem dX9_canSell_20 : decode cX9_canSell 20 = .ok (.iconst 1, 1) := by decide +kernel
theorem dX9_canSell_21 : decode cX9_canSell 21 = .ok (.iand, 1) := by decide +kernel
theorem dX9_canSell_22 : decode cX9_canSell 22 = .ok (.ifCond .ne 7, 3) := by decide +kernel
theorem dX9_canSell_25 : decode cX9_canSell 25 = .ok (.iconst 1, 1) := by decide +kernel
theorem dX9_canSell_26 : decode cX9_canSell 26 = .ok (.goto 4, 3) := by decide +kernel
theorem dX9_canSell_29 : decode cX9_canSell 29 = .ok (.iconst 0, 1) := by decide +kernel
theorem dX9_canSell_30 : decode cX9_canSell 30 = .ok (.ireturn, 1) := by decide +kernel
theorem dX9_priceOf_0 : decode cX9_priceOf 0 = .ok (.aload_n 0, 1) := by decide +kernel
theorem dX9_priceOf_1 : decode cX9_priceOf 1 = .ok (.iload_n 2, 1) := by decide +kernel
theorem dX9_priceOf_2 : decode cX9_priceOf 2 = .ok (.iconst 0, 1) := by decide +kernel
theorem dX9_priceOf_3 : decode cX9_priceOf 3 = .ok (.invokevirtual 98, 3) := by decide +kernel
theorem dX9_priceOf_6 : decode cX9_priceOf 6 = .ok (.aload_n 0, 1) := by decide +kernel
theorem dX9_priceOf_7 : decode cX9_priceOf 7 = .ok (.iload_n 1, 1) := by decide +kernel
theorem dX9_priceOf_8 : decode cX9_priceOf 8 = .ok (.iconst 2, 1) := by decide +kernel
theorem dX9_priceOf_9 : decode cX9_priceOf 9 = .ok (.invokevirtual 68, 3) := by decide +kernel
theorem dX9_priceOf_12 : decode cX9_priceOf 12 = .ok (.invokestatic 81, 3) := by decide +kernel
theorem dX9_priceOf_15 : decode cX9_priceOf 15 = .ok (.imul, 1) := by decide +kernel
theorem dX9_priceOf_16 : decode cX9_priceOf 16 = .ok (.istore_n 3, 1) := by decide +kernel
theorem dX9_priceOf_17 : decode cX9_priceOf 17 = .ok (.aload_n 0, 1) := by decide +kernel
theorem dX9_priceOf_18 : decode cX9_priceOf 18 = .ok (.aload_n 0, 1) := by decide +kernel
theorem dX9_priceOf_19 : decode cX9_priceOf 19 = .ok (.iload_n 1, 1) := by decide +kernel
theorem dX9_priceOf_20 : decode cX9_priceOf 20 = .ok (.iconst 1, 1) := by decide +kernel
theorem dX9_priceOf_21 : decode cX9_priceOf 21 = .ok (.invokevirtual 68, 3) := by decide +kernel
theorem dX9_priceOf_24 : decode cX9_priceOf 24 = .ok (.invokevirtual 92, 3) := by decide +kernel
theorem dX9_priceOf_27 : decode cX9_priceOf 27 = .ok (.ifCond .eq 9, 3) := by decide +kernel
theorem dX9_priceOf_30 : decode cX9_priceOf 30 = .ok (.iconst 2, 1) := by decide +kernel
theorem dX9_priceOf_31 : decode cX9_priceOf 31 = .ok (.iload_n 3, 1) := by decide +kernel
theorem dX9_priceOf_32 : decode cX9_priceOf 32 = .ok (.imul, 1) := by decide +kernel
theorem dX9_priceOf_33 : decode cX9_priceOf 33 = .ok (.goto 4, 3) := by decide +kernel
theorem dX9_priceOf_36 : decode cX9_priceOf 36 = .ok (.iload_n 3, 1) := by decide +kernel
theorem dX9_priceOf_37 : decode cX9_priceOf 37 = .ok (.istore_n 3, 1) := by decide +kernel
theorem dX9_priceOf_38 : decode cX9_priceOf 38 = .ok (.aload_n 0, 1) := by decide +kernel
theorem dX9_priceOf_39 : decode cX9_priceOf 39 = .ok (.getfield 7, 3) := by decide +kernel
theorem dX9_priceOf_42 : decode cX9_priceOf 42 = .ok (.iconst 4, 1) := by decide +kernel
theorem dX9_priceOf_43 : decode cX9_priceOf 43 = .ok (.iaload, 1) := by decide +kernel
theorem dX9_priceOf_44 : decode cX9_priceOf 44 = .ok (.sipush 300, 3) := by decide +kernel
theorem dX9_priceOf_47 : decode cX9_priceOf 47 = .ok (.irem, 1) := by decide +kernel
theorem dX9_priceOf_48 : decode cX9_priceOf 48 = .ok (.aload_n 0, 1) := by decide +kernel
theorem dX9_priceOf_49 : decode cX9_priceOf 49 = .ok (.iload_n 2, 1) := by decide +kernel
theorem dX9_priceOf_50 : decode cX9_priceOf 50 = .ok (.iconst 1, 1) := by decide +kernel
theorem dX9_priceOf_51 : decode cX9_priceOf 51 = .ok (.invokevirtual 98, 3) := by decide +kernel
theorem dX9_priceOf_54 : decode cX9_priceOf 54 = .ok (.if_icmp .le 9, 3) := by decide +kernel
theorem dX9_priceOf_57 : decode cX9_priceOf 57 = .ok (.iload_n 3, 1) := by decide +kernel
theorem dX9_priceOf_58 : decode cX9_priceOf 58 = .ok (.iconst 2, 1) := by decide +kernel
theorem dX9_priceOf_59 : decode cX9_priceOf 59 = .ok (.idiv, 1) := by decide +kernel
theorem dX9_priceOf_60 : decode cX9_priceOf 60 = .ok (.goto 4, 3) := by decide +kernel
theorem dX9_priceOf_63 : decode cX9_priceOf 63 = .ok (.iload_n 3, 1) := by decide +kernel
theorem dX9_priceOf_64 : decode cX9_priceOf 64 = .ok (.ireturn, 1) := by decide +kernel
theorem dX9_sells_0 : decode cX9_sells 0 = .ok (.aload_n 0, 1) := by decide +kernel
theorem dX9_sells_1 : decode cX9_sells 1 = .ok (.iload_n 1, 1) := by decide +kernel
theorem dX9_sells_2 : decode cX9_sells 2 = .ok (.iload_n 2, 1) := by decide +kernel
theorem dX9_sells_3 : decode cX9_sells 3 = .ok (.invokevirtual 107, 3) := by decide +kernel
theorem dX9_sells_6 : decode cX9_sells 6 = .ok (.istore_n 3, 1) := by decide +kernel
theorem dX9_sells_7 : decode cX9_sells 7 = .ok (.aload_n 0, 1) := by decide +kernel
theorem dX9_sells_8 : decode cX9_sells 8 = .ok (.iload_n 1, 1) := by decide +kernel
theorem dX9_sells_9 : decode cX9_sells 9 = .ok (.iconst 1, 1) := by decide +kernel
theorem dX9_sells_10 : decode cX9_sells 10 = .ok (.invokevirtual 68, 3) := by decide +kernel
theorem dX9_sells_13 : decode cX9_sells 13 = .ok (.istore 4, 2) := by decide +kernel
theorem dX9_sells_15 : decode cX9_sells 15 = .ok (.aload_n 0, 1) := by decide +kernel
theorem dX9_sells_16 : decode cX9_sells 16 = .ok (.getfield 7, 3) := by decide +kernel
theorem dX9_sells_19 : decode cX9_sells 19 = .ok (.sipush 159, 3) := by decide +kernel
theorem dX9_sells_22 : decode cX9_sells 22 = .ok (.bipush 6, 2) := by decide +kernel
theorem dX9_sells_24 : decode cX9_sells 24 = .ok (.iload_n 2, 1) := by decide +kernel
theorem dX9_sells_25 : decode cX9_sells 25 = .ok (.imul, 1) := by decide +kernel
theorem dX9_sells_26 : decode cX9_sells 26 = .ok (.iadd, 1) := by decide +kernel
theorem dX9_sells_27 : decode cX9_sells 27 = .ok (.iconst 5, 1) := by decide +kernel
theorem dX9_sells_28 : decode cX9_sells 28 = .ok (.iadd, 1) := by decide +kernel
theorem dX9_sells_29 : decode cX9_sells 29 = .ok (.aload_n 0, 1) := by decide +kernel
theorem dX9_sells_30 : decode cX9_sells 30 = .ok (.iload_n 2, 1) := by decide +kernel
theorem dX9_sells_31 : decode cX9_sells 31 = .ok (.invokevirtual 104, 3) := by decide +kernel
theorem dX9_sells_34 : decode cX9_sells 34 = .ok (.iconst 1, 1) := by decide +kernel
theorem dX9_sells_35 : decode cX9_sells 35 = .ok (.iload 4, 2) := by decide +kernel
theorem dX9_sells_37 : decode cX9_sells 37 = .ok (.ishl, 1) := by decide +kernel
theorem dX9_sells_38 : decode cX9_sells 38 = .ok (.ior, 1) := by decide +kernel
theorem dX9_sells_39 : decode cX9_sells 39 = .ok (.iastore, 1) := by decide +kernel
theorem dX9_sells_40 : decode cX9_sells 40 = .ok (.aload_n 0, 1) := by decide +kernel
theorem dX9_sells_41 : decode cX9_sells 41 = .ok (.getfield 7, 3) := by decide +kernel
theorem dX9_sells_44 : decode cX9_sells 44 = .ok (.sipush 159, 3) := by decide +kernel
theorem dX9_sells_47 : decode cX9_sells 47 = .ok (.bipush 6, 2) := by decide +kernel
theorem dX9_sells_49 : decode cX9_sells 49 = .ok (.iload_n 2, 1) := by decide +kernel
theorem dX9_sells_50 : decode cX9_sells 50 = .ok (.imul, 1) := by decide +kernel
theorem dX9_sells_51 : decode cX9_sells 51 = .ok (.iadd, 1) := by decide +kernel
theorem dX9_sells_52 : decode cX9_sells 52 = .ok (.iconst 4, 1) := by decide +kernel
theorem dX9_sells_53 : decode cX9_sells 53 = .ok (.iadd, 1) := by decide +kernel
theorem dX9_sells_54 : decode cX9_sells 54 = .ok (.aload_n 0, 1) := by decide +kernel
theorem dX9_sells_55 : decode cX9_sells 55 = .ok (.invokevirtual 88, 3) := by decide +kernel
theorem dX9_sells_58 : decode cX9_sells 58 = .ok (.iastore, 1) := by decide +kernel
theorem dX9_sells_59 : decode cX9_sells 59 = .ok (.aload_n 0, 1) := by decide +kernel
theorem dX9_sells_60 : decode cX9_sells 60 = .ok (.getfield 7, 3) := by decide +kernel
theorem dX9_sells_63 : decode cX9_sells 63 = .ok (.sipush 159, 3) := by decide +kernel
theorem dX9_sells_66 : decode cX9_sells 66 = .ok (.bipush 6, 2) := by decide +kernel
theorem dX9_sells_68 : decode cX9_sells 68 = .ok (.iload_n 2, 1) := by decide +kernel
theorem dX9_sells_69 : decode cX9_sells 69 = .ok (.imul, 1) := by decide +kernel
theorem dX9_sells_70 : decode cX9_sells 70 = .ok (.iadd, 1) := by decide +kernel
theorem dX9_sells_71 : decode cX9_sells 71 = .ok (.iconst 2, 1) := by decide +kernel
theorem dX9_sells_72 : decode cX9_sells 72 = .ok (.iadd, 1) := by decide +kernel
theorem dX9_sells_73 : decode cX9_sells 73 = .ok (.dup2, 1) := by decide +kernel
theorem dX9_sells_74 : decode cX9_sells 74 = .ok (.iaload, 1) := by decide +kernel
theorem dX9_sells_75 : decode cX9_sells 75 = .ok (.iconst 1, 1) := by decide +kernel
theorem dX9_sells_76 : decode cX9_sells 76 = .ok (.iadd, 1) := by decide +kernel
theorem dX9_sells_77 : decode cX9_sells 77 = .ok (.iastore, 1) := by decide +kernel
theorem dX9_sells_78 : decode cX9_sells 78 = .ok (.aload_n 0, 1) := by decide +kernel
theorem dX9_sells_79 : decode cX9_sells 79 = .ok (.getfield 7, 3) := by decide +kernel
theorem dX9_sells_82 : decode cX9_sells 82 = .ok (.sipush 159, 3) := by decide +kernel
theorem dX9_sells_85 : decode cX9_sells 85 = .ok (.bipush 6, 2) := by decide +kernel
theorem dX9_sells_87 : decode cX9_sells 87 = .ok (.iload_n 2, 1) := by decide +kernel
theorem dX9_sells_88 : decode cX9_sells 88 = .ok (.imul, 1) := by decide +kernel
theorem dX9_sells_89 : decode cX9_sells 89 = .ok (.iadd, 1) := by decide +kernel
theorem dX9_sells_90 : decode cX9_sells 90 = .ok (.iconst 3, 1) := by decide +kernel
theorem dX9_sells_91 : decode cX9_sells 91 = .ok (.iadd, 1) := by decide +kernel
theorem dX9_sells_92 : decode cX9_sells 92 = .ok (.dup2, 1) := by decide +kernel
theorem dX9_sells_93 : decode cX9_sells 93 = .ok (.iaload, 1) := by decide +kernel
theorem dX9_sells_94 : decode cX9_sells 94 = .ok (.iload_n 3, 1) := by decide +kernel
theorem dX9_sells_95 : decode cX9_sells 95 = .ok (.iadd, 1) := by decide +kernel
theorem dX9_sells_96 : decode cX9_sells 96 = .ok (.iastore, 1) := by decide +kernel
theorem dX9_sells_97 : decode cX9_sells 97 = .ok (.aload_n 0, 1) := by decide +kernel
theorem dX9_sells_98 : decode cX9_sells 98 = .ok (.getfield 7, 3) := by decide +kernel
theorem dX9_sells_101 : decode cX9_sells 101 = .ok (.bipush 11, 2) := by decide +kernel
theorem dX9_sells_103 : decode cX9_sells 103 = .ok (.bipush 18, 2) := by decide +kernel
theorem dX9_sells_105 : decode cX9_sells 105 = .ok (.iload 4, 2) := by decide +kernel
theorem dX9_sells_107 : decode cX9_sells 107 = .ok (.imul, 1) := by decide +kernel
theorem dX9_sells_108 : decode cX9_sells 108 = .ok (.iadd, 1) := by decide +kernel
theorem dX9_sells_109 : decode cX9_sells 109 = .ok (.iconst 5, 1) := by decide +kernel
theorem dX9_sells_110 : decode cX9_sells 110 = .ok (.iadd, 1) := by decide +kernel
theorem dX9_sells_111 : decode cX9_sells 111 = .ok (.dup2, 1) := by decide +kernel
theorem dX9_sells_112 : decode cX9_sells 112 = .ok (.iaload, 1) := by decide +kernel
theorem dX9_sells_113 : decode cX9_sells 113 = .ok (.iload_n 3, 1) := by decide +kernel
theorem dX9_sells_114 : decode cX9_sells 114 = .ok (.iadd, 1) := by decide +kernel
theorem dX9_sells_115 : decode cX9_sells 115 = .ok (.iastore, 1) := by decide +kernel
theorem dX9_sells_116 : decode cX9_sells 116 = .ok (.aload_n 0, 1) := by decide +kernel
theorem dX9_sells_117 : decode cX9_sells 117 = .ok (.getfield 7, 3) := by decide +kernel
theorem dX9_sells_120 : decode cX9_sells 120 = .ok (.bipush 7, 2) := by decide +kernel
theorem dX9_sells_122 : decode cX9_sells 122 = .ok (.dup2, 1) := by decide +kernel
theorem dX9_sells_123 : decode cX9_sells 123 = .ok (.iaload, 1) := by decide +kernel
theorem dX9_sells_124 : decode cX9_sells 124 = .ok (.iconst 1, 1) := by decide +kernel
theorem dX9_sells_125 : decode cX9_sells 125 = .ok (.iadd, 1) := by decide +kernel
theorem dX9_sells_126 : decode cX9_sells 126 = .ok (.iastore, 1) := by decide +kernel
theorem dX9_sells_127 : decode cX9_sells 127 = .ok (.aload_n 0, 1) := by decide +kernel
theorem dX9_sells_128 : decode cX9_sells 128 = .ok (.getfield 7, 3) := by decide +kernel
theorem dX9_sells_131 : decode cX9_sells 131 = .ok (.bipush 8, 2) := by decide +kernel
theorem dX9_sells_133 : decode cX9_sells 133 = .ok (.dup2, 1) := by decide +kernel
theorem dX9_sells_134 : decode cX9_sells 134 = .ok (.iaload, 1) := by decide +kernel
theorem dX9_sells_135 : decode cX9_sells 135 = .ok (.iload_n 3, 1) := by decide +kernel
theorem dX9_sells_136 : decode cX9_sells 136 = .ok (.iadd, 1) := by decide +kernel
theorem dX9_sells_137 : decode cX9_sells 137 = .ok (.iastore, 1) := by decide +kernel
theorem dX9_sells_138 : decode cX9_sells 138 = .ok (.aload_n 0, 1) := by decide +kernel
theorem dX9_sells_139 : decode cX9_sells 139 = .ok (.iload_n 1, 1) := by decide +kernel
theorem dX9_sells_140 : decode cX9_sells 140 = .ok (.invokevirtual 84, 3) := by decide +kernel
theorem dX9_sells_143 : decode cX9_sells 143 = .ok (.iload_n 3, 1) := by decide +kernel
theorem dX9_sells_144 : decode cX9_sells 144 = .ok (.ireturn, 1) := by decide +kernel
theorem dX9_sell_0 : decode cX9_sell 0 = .ok (.aload_n 0, 1) := by decide +kernel
theorem dX9_sell_1 : decode cX9_sell 1 = .ok (.iload_n 1, 1) := by decide +kernel
theorem dX9_sell_2 : decode cX9_sell 2 = .ok (.invokevirtual 75, 3) := by decide +kernel
theorem dX9_sell_5 : decode cX9_sell 5 = .ok (.istore_n 3, 1) := by decide +kernel
theorem dX9_sell_6 : decode cX9_sell 6 = .ok (.iload_n 3, 1) := by decide +kernel
theorem dX9_sell_7 : decode cX9_sell 7 = .ok (.ifCond .lt 11, 3) := by decide +kernel
theorem dX9_sell_10 : decode cX9_sell 10 = .ok (.aload_n 0, 1) := by decide +kernel
theorem dX9_sell_11 : decode cX9_sell 11 = .ok (.iload_n 2, 1) := by decide +kernel
theorem dX9_sell_12 : decode cX9_sell 12 = .ok (.invokevirtual 110, 3) := by decide +kernel
theorem dX9_sell_15 : decode cX9_sell 15 = .ok (.ifCond .ne 6, 3) := by decide +kernel
theorem dX9_sell_18 : decode cX9_sell 18 = .ok (.ldc 51, 2) := by decide +kernel
theorem dX9_sell_20 : decode cX9_sell 20 = .ok (.ireturn, 1) := by decide +kernel
theorem dX9_sell_21 : decode cX9_sell 21 = .ok (.aload_n 0, 1) := by decide +kernel
theorem dX9_sell_22 : decode cX9_sell 22 = .ok (.iload_n 3, 1) := by decide +kernel
theorem dX9_sell_23 : decode cX9_sell 23 = .ok (.iload_n 2, 1) := by decide +kernel
theorem dX9_sell_24 : decode cX9_sell 24 = .ok (.invokevirtual 113, 3) := by decide +kernel
theorem dX9_sell_27 : decode cX9_sell 27 = .ok (.ifCond .ne 6, 3) := by decide +kernel
theorem dX9_sell_30 : decode cX9_sell 30 = .ok (.ldc 52, 2) := by decide +kernel
theorem dX9_sell_32 : decode cX9_sell 32 = .ok (.ireturn, 1) := by decide +kernel
theorem dX9_sell_33 : decode cX9_sell 33 = .ok (.aload_n 0, 1) := by decide +kernel
theorem dX9_sell_34 : decode cX9_sell 34 = .ok (.invokevirtual 54, 3) := by decide +kernel
theorem dX9_sell_37 : decode cX9_sell 37 = .ok (.aload_n 0, 1) := by decide +kernel
theorem dX9_sell_38 : decode cX9_sell 38 = .ok (.iload_n 3, 1) := by decide +kernel
theorem dX9_sell_39 : decode cX9_sell 39 = .ok (.iload_n 2, 1) := by decide +kernel
theorem dX9_sell_40 : decode cX9_sell 40 = .ok (.invokevirtual 117, 3) := by decide +kernel
theorem dX9_sell_43 : decode cX9_sell 43 = .ok (.ireturn, 1) := by decide +kernel
theorem dX9_sees_0 : decode cX9_sees 0 = .ok (.iconst 0, 1) := by decide +kernel
theorem dX9_sees_1 : decode cX9_sees 1 = .ok (.istore_n 2, 1) := by decide +kernel
theorem dX9_sees_2 : decode cX9_sees 2 = .ok (.iload_n 2, 1) := by decide +kernel
theorem dX9_sees_3 : decode cX9_sees 3 = .ok (.bipush 12, 2) := by decide +kernel
theorem dX9_sees_5 : decode cX9_sees 5 = .ok (.if_icmp .ge 37, 3) := by decide +kernel
theorem dX9_sees_8 : decode cX9_sees 8 = .ok (.aload_n 0, 1) := by decide +kernel
theorem dX9_sees_9 : decode cX9_sees 9 = .ok (.iload_n 1, 1) := by decide +kernel
theorem dX9_sees_10 : decode cX9_sees 10 = .ok (.invokevirtual 64, 3) := by decide +kernel
theorem dX9_sees_13 : decode cX9_sees 13 = .ok (.iload_n 2, 1) := by decide +kernel
theorem dX9_sees_14 : decode cX9_sees 14 = .ok (.ishr, 1) := by decide +kernel
theorem dX9_sees_15 : decode cX9_sees 15 = .ok (.iconst 1, 1) := by decide +kernel
theorem dX9_sees_16 : decode cX9_sees 16 = .ok (.iand, 1) := by decide +kernel
theorem dX9_sees_17 : decode cX9_sees 17 = .ok (.iconst 1, 1) := by decide +kernel
theorem dX9_sees_18 : decode cX9_sees 18 = .ok (.if_icmp .ne 18, 3) := by decide +kernel
theorem dX9_sees_21 : decode cX9_sees 21 = .ok (.aload_n 0, 1) := by decide +kernel
theorem dX9_sees_22 : decode cX9_sees 22 = .ok (.iload_n 1, 1) := by decide +kernel
theorem dX9_sees_23 : decode cX9_sees 23 = .ok (.bipush 6, 2) := by decide +kernel
theorem dX9_sees_25 : decode cX9_sees 25 = .ok (.iload_n 2, 1) := by decide +kernel
theorem dX9_sees_26 : decode cX9_sees 26 = .ok (.iadd, 1) := by decide +kernel
theorem dX9_sees_27 : decode cX9_sees 27 = .ok (.aload_n 0, 1) := by decide +kernel
theorem dX9_sees_28 : decode cX9_sees 28 = .ok (.getfield 7, 3) := by decide +kernel
theorem dX9_sees_31 : decode cX9_sees 31 = .ok (.iconst 4, 1) := by decide +kernel
theorem dX9_sees_32 : decode cX9_sees 32 = .ok (.iaload, 1) := by decide +kernel
theorem dX9_sees_33 : decode cX9_sees 33 = .ok (.invokevirtual 57, 3) := by decide +kernel
theorem dX9_sees_36 : decode cX9_sees 36 = .ok (.iinc 2 1, 3) := by decide +kernel
theorem dX9_sees_39 : decode cX9_sees 39 = .ok (.goto (-37), 3) := by decide +kernel
theorem dX9_sees_42 : decode cX9_sees 42 = .ok (.return_, 1) := by decide +kernel
theorem dX9_minute_0 : decode cX9_minute 0 = .ok (.aload_n 0, 1) := by decide +kernel
theorem dX9_minute_1 : decode cX9_minute 1 = .ok (.getfield 7, 3) := by decide +kernel
theorem dX9_minute_4 : decode cX9_minute 4 = .ok (.iconst 5, 1) := by decide +kernel
theorem dX9_minute_5 : decode cX9_minute 5 = .ok (.iaload, 1) := by decide +kernel
theorem dX9_minute_6 : decode cX9_minute 6 = .ok (.ifCond .lt 13, 3) := by decide +kernel
theorem dX9_minute_9 : decode cX9_minute 9 = .ok (.aload_n 0, 1) := by decide +kernel
theorem dX9_minute_10 : decode cX9_minute 10 = .ok (.aload_n 0, 1) := by decide +kernel
theorem dX9_minute_11 : decode cX9_minute 11 = .ok (.getfield 7, 3) := by decide +kernel
theorem dX9_minute_14 : decode cX9_minute 14 = .ok (.iconst 5, 1) := by decide +kernel
theorem dX9_minute_15 : decode cX9_minute 15 = .ok (.iaload, 1) := by decide +kernel
theorem dX9_minute_16 : decode cX9_minute 16 = .ok (.invokevirtual 120, 3) := by decide +kernel
theorem dX9_minute_19 : decode cX9_minute 19 = .ok (.iconst 0, 1) := by decide +kernel
theorem dX9_minute_20 : decode cX9_minute 20 = .ok (.istore_n 1, 1) := by decide +kernel
theorem dX9_minute_21 : decode cX9_minute 21 = .ok (.iload_n 1, 1) := by decide +kernel
theorem dX9_minute_22 : decode cX9_minute 22 = .ok (.aload_n 0, 1) := by decide +kernel
theorem dX9_minute_23 : decode cX9_minute 23 = .ok (.getfield 7, 3) := by decide +kernel
theorem dX9_minute_26 : decode cX9_minute 26 = .ok (.iconst 0, 1) := by decide +kernel
theorem dX9_minute_27 : decode cX9_minute 27 = .ok (.iaload, 1) := by decide +kernel
theorem dX9_minute_28 : decode cX9_minute 28 = .ok (.if_icmp .ge 31, 3) := by decide +kernel
theorem dX9_minute_31 : decode cX9_minute 31 = .ok (.aload_n 0, 1) := by decide +kernel
theorem dX9_minute_32 : decode cX9_minute 32 = .ok (.iload_n 1, 1) := by decide +kernel
theorem dX9_minute_33 : decode cX9_minute 33 = .ok (.iconst 2, 1) := by decide +kernel
theorem dX9_minute_34 : decode cX9_minute 34 = .ok (.aload_n 0, 1) := by decide +kernel
theorem dX9_minute_35 : decode cX9_minute 35 = .ok (.iload_n 1, 1) := by decide +kernel
theorem dX9_minute_36 : decode cX9_minute 36 = .ok (.iconst 2, 1) := by decide +kernel
theorem dX9_minute_37 : decode cX9_minute 37 = .ok (.invokevirtual 36, 3) := by decide +kernel
theorem dX9_minute_40 : decode cX9_minute 40 = .ok (.aload_n 0, 1) := by decide +kernel
theorem dX9_minute_41 : decode cX9_minute 41 = .ok (.iload_n 1, 1) := by decide +kernel
theorem dX9_minute_42 : decode cX9_minute 42 = .ok (.iconst 3, 1) := by decide +kernel
theorem dX9_minute_43 : decode cX9_minute 43 = .ok (.invokevirtual 36, 3) := by decide +kernel
theorem dX9_minute_46 : decode cX9_minute 46 = .ok (.iadd, 1) := by decide +kernel
theorem dX9_minute_47 : decode cX9_minute 47 = .ok (.bipush 12, 2) := by decide +kernel
theorem dX9_minute_49 : decode cX9_minute 49 = .ok (.irem, 1) := by decide +kernel
theorem dX9_minute_50 : decode cX9_minute 50 = .ok (.invokevirtual 57, 3) := by decide +kernel
theorem dX9_minute_53 : decode cX9_minute 53 = .ok (.iinc 1 1, 3) := by decide +kernel
theorem dX9_minute_56 : decode cX9_minute 56 = .ok (.goto (-35), 3) := by decide +kernel
theorem dX9_minute_59 : decode cX9_minute 59 = .ok (.aload_n 0, 1) := by decide +kernel
theorem dX9_minute_60 : decode cX9_minute 60 = .ok (.getfield 7, 3) := by decide +kernel
theorem dX9_minute_63 : decode cX9_minute 63 = .ok (.iconst 4, 1) := by decide +kernel
theorem dX9_minute_64 : decode cX9_minute 64 = .ok (.dup2, 1) := by decide +kernel
theorem dX9_minute_65 : decode cX9_minute 65 = .ok (.iaload, 1) := by decide +kernel
theorem dX9_minute_66 : decode cX9_minute 66 = .ok (.iconst 1, 1) := by decide +kernel
theorem dX9_minute_67 : decode cX9_minute 67 = .ok (.iadd, 1) := by decide +kernel
theorem dX9_minute_68 : decode cX9_minute 68 = .ok (.iastore, 1) := by decide +kernel
theorem dX9_minute_69 : decode cX9_minute 69 = .ok (.aload_n 0, 1) := by decide +kernel
theorem dX9_minute_70 : decode cX9_minute 70 = .ok (.getfield 7, 3) := by decide +kernel
theorem dX9_minute_73 : decode cX9_minute 73 = .ok (.bipush 6, 2) := by decide +kernel
theorem dX9_minute_75 : decode cX9_minute 75 = .ok (.iconst 0, 1) := by decide +kernel
theorem dX9_minute_76 : decode cX9_minute 76 = .ok (.iastore, 1) := by decide +kernel
theorem dX9_minute_77 : decode cX9_minute 77 = .ok (.return_, 1) := by decide +kernel
theorem dX9_pass_0 : decode cX9_pass 0 = .ok (.iload_n 1, 1) := by decide +kernel
theorem dX9_pass_1 : decode cX9_pass 1 = .ok (.iconst 1, 1) := by decide +kernel
theorem dX9_pass_2 : decode cX9_pass 2 = .ok (.sipush 300, 3) := by decide +kernel
theorem dX9_pass_5 : decode cX9_pass 5 = .ok (.invokestatic 47, 3) := by decide +kernel
theorem dX9_pass_8 : decode cX9_pass 8 = .ok (.ifCond .ne 6, 3) := by decide +kernel
theorem dX9_pass_11 : decode cX9_pass 11 = .ok (.ldc 51, 2) := by decide +kernel
theorem dX9_pass_13 : decode cX9_pass 13 = .ok (.ireturn, 1) := by decide +kernel
theorem dX9_pass_14 : decode cX9_pass 14 = .ok (.aload_n 0, 1) := by decide +kernel
theorem dX9_pass_15 : decode cX9_pass 15 = .ok (.getfield 7, 3) := by decide +kernel
theorem dX9_pass_18 : decode cX9_pass 18 = .ok (.iconst 4, 1) := by decide +kernel
theorem dX9_pass_19 : decode cX9_pass 19 = .ok (.iaload, 1) := by decide +kernel
theorem dX9_pass_20 : decode cX9_pass 20 = .ok (.iload_n 1, 1) := by decide +kernel
theorem dX9_pass_21 : decode cX9_pass 21 = .ok (.iadd, 1) := by decide +kernel
theorem dX9_pass_22 : decode cX9_pass 22 = .ok (.sipush 9999, 3) := by decide +kernel
theorem dX9_pass_25 : decode cX9_pass 25 = .ok (.if_icmp .le 6, 3) := by decide +kernel
theorem dX9_pass_28 : decode cX9_pass 28 = .ok (.ldc 53, 2) := by decide +kernel
theorem dX9_pass_30 : decode cX9_pass 30 = .ok (.ireturn, 1) := by decide +kernel
theorem dX9_pass_31 : decode cX9_pass 31 = .ok (.aload_n 0, 1) := by decide +kernel
theorem dX9_pass_32 : decode cX9_pass 32 = .ok (.invokevirtual 54, 3) := by decide +kernel
theorem dX9_pass_35 : decode cX9_pass 35 = .ok (.iconst 0, 1) := by decide +kernel
theorem dX9_pass_36 : decode cX9_pass 36 = .ok (.istore_n 2, 1) := by decide +kernel
theorem dX9_pass_37 : decode cX9_pass 37 = .ok (.iload_n 2, 1) := by decide +kernel
theorem dX9_pass_38 : decode cX9_pass 38 = .ok (.iload_n 1, 1) := by decide +kernel
theorem dX9_pass_39 : decode cX9_pass 39 = .ok (.if_icmp .ge 13, 3) := by decide +kernel
theorem dX9_pass_42 : decode cX9_pass 42 = .ok (.aload_n 0, 1) := by decide +kernel
theorem dX9_pass_43 : decode cX9_pass 43 = .ok (.invokevirtual 123, 3) := by decide +kernel
theorem dX9_pass_46 : decode cX9_pass 46 = .ok (.iinc 2 1, 3) := by decide +kernel
theorem dX9_pass_49 : decode cX9_pass 49 = .ok (.goto (-12), 3) := by decide +kernel
theorem dX9_pass_52 : decode cX9_pass 52 = .ok (.iconst 0, 1) := by decide +kernel
theorem dX9_pass_53 : decode cX9_pass 53 = .ok (.istore_n 2, 1) := by decide +kernel
theorem dX9_pass_54 : decode cX9_pass 54 = .ok (.iconst 0, 1) := by decide +kernel
theorem dX9_pass_55 : decode cX9_pass 55 = .ok (.istore_n 3, 1) := by decide +kernel
theorem dX9_pass_56 : decode cX9_pass 56 = .ok (.iload_n 3, 1) := by decide +kernel
theorem dX9_pass_57 : decode cX9_pass 57 = .ok (.aload_n 0, 1) := by decide +kernel
theorem dX9_pass_58 : decode cX9_pass 58 = .ok (.getfield 7, 3) := by decide +kernel
theorem dX9_pass_61 : decode cX9_pass 61 = .ok (.iconst 0, 1) := by decide +kernel
theorem dX9_pass_62 : decode cX9_pass 62 = .ok (.iaload, 1) := by decide +kernel
theorem dX9_pass_63 : decode cX9_pass 63 = .ok (.if_icmp .ge 20, 3) := by decide +kernel
theorem dX9_pass_66 : decode cX9_pass 66 = .ok (.iload_n 2, 1) := by decide +kernel
theorem dX9_pass_67 : decode cX9_pass 67 = .ok (.aload_n 0, 1) := by decide +kernel
theorem dX9_pass_68 : decode cX9_pass 68 = .ok (.iload_n 3, 1) := by decide +kernel
theorem dX9_pass_69 : decode cX9_pass 69 = .ok (.invokevirtual 72, 3) := by decide +kernel
theorem dX9_pass_72 : decode cX9_pass 72 = .ok (.invokestatic 81, 3) := by decide +kernel
theorem dX9_pass_75 : decode cX9_pass 75 = .ok (.iadd, 1) := by decide +kernel
theorem dX9_pass_76 : decode cX9_pass 76 = .ok (.istore_n 2, 1) := by decide +kernel
theorem dX9_pass_77 : decode cX9_pass 77 = .ok (.iinc 3 1, 3) := by decide +kernel
theorem dX9_pass_80 : decode cX9_pass 80 = .ok (.goto (-24), 3) := by decide +kernel
theorem dX9_pass_83 : decode cX9_pass 83 = .ok (.iload_n 2, 1) := by decide +kernel
theorem dX9_pass_84 : decode cX9_pass 84 = .ok (.ireturn, 1) := by decide +kernel
theorem dX9_set_0 : decode cX9_set 0 = .ok (.iload_n 1, 1) := by decide +kernel
theorem dX9_set_1 : decode cX9_set 1 = .ok (.iconst 0, 1) := by decide +kernel
theorem dX9_set_2 : decode cX9_set 2 = .ok (.iconst 1, 1) := by decide +kernel
theorem dX9_set_3 : decode cX9_set 3 = .ok (.invokestatic 47, 3) := by decide +kernel
theorem dX9_set_6 : decode cX9_set 6 = .ok (.ifCond .eq 25, 3) := by decide +kernel
theorem dX9_set_9 : decode cX9_set 9 = .ok (.iload_n 2, 1) := by decide +kernel
theorem dX9_set_10 : decode cX9_set 10 = .ok (.iconst 1, 1) := by decide +kernel
theorem dX9_set_11 : decode cX9_set 11 = .ok (.iload_n 1, 1) := by decide +kernel
theorem dX9_set_12 : decode cX9_set 12 = .ok (.isub, 1) := by decide +kernel
theorem dX9_set_13 : decode cX9_set 13 = .ok (.iload_n 1, 1) := by decide +kernel
theorem dX9_set_14 : decode cX9_set 14 = .ok (.ifCond .ne 9, 3) := by decide +kernel
theorem dX9_set_17 : decode cX9_set 17 = .ok (.sipush 200, 3) := by decide +kernel
theorem dX9_set_20 : decode cX9_set 20 = .ok (.goto 5, 3) := by decide +kernel
theorem dX9_set_23 : decode cX9_set 23 = .ok (.bipush 60, 2) := by decide +kernel
theorem dX9_set_25 : decode cX9_set 25 = .ok (.invokestatic 47, 3) := by decide +kernel
theorem dX9_set_28 : decode cX9_set 28 = .ok (.ifCond .ne 6, 3) := by decide +kernel
theorem dX9_set_31 : decode cX9_set 31 = .ok (.ldc 51, 2) := by decide +kernel
theorem dX9_set_33 : decode cX9_set 33 = .ok (.ireturn, 1) := by decide +kernel
theorem dX9_set_34 : decode cX9_set 34 = .ok (.aload_n 0, 1) := by decide +kernel
theorem dX9_set_35 : decode cX9_set 35 = .ok (.invokevirtual 54, 3) := by decide +kernel
theorem dX9_set_38 : decode cX9_set 38 = .ok (.aload_n 0, 1) := by decide +kernel
theorem dX9_set_39 : decode cX9_set 39 = .ok (.getfield 7, 3) := by decide +kernel
theorem dX9_set_42 : decode cX9_set 42 = .ok (.bipush 9, 2) := by decide +kernel
theorem dX9_set_44 : decode cX9_set 44 = .ok (.iload_n 1, 1) := by decide +kernel
theorem dX9_set_45 : decode cX9_set 45 = .ok (.iadd, 1) := by decide +kernel
theorem dX9_set_46 : decode cX9_set 46 = .ok (.iaload, 1) := by decide +kernel
theorem dX9_set_47 : decode cX9_set 47 = .ok (.istore_n 3, 1) := by decide +kernel
theorem dX9_set_48 : decode cX9_set 48 = .ok (.aload_n 0, 1) := by decide +kernel
theorem dX9_set_49 : decode cX9_set 49 = .ok (.getfield 7, 3) := by decide +kernel
theorem dX9_set_52 : decode cX9_set 52 = .ok (.bipush 9, 2) := by decide +kernel
theorem dX9_set_54 : decode cX9_set 54 = .ok (.iload_n 1, 1) := by decide +kernel
theorem dX9_set_55 : decode cX9_set 55 = .ok (.iadd, 1) := by decide +kernel
theorem dX9_set_56 : decode cX9_set 56 = .ok (.iload_n 2, 1) := by decide +kernel
theorem dX9_set_57 : decode cX9_set 57 = .ok (.iastore, 1) := by decide +kernel
theorem dX9_set_58 : decode cX9_set 58 = .ok (.iload_n 3, 1) := by decide +kernel
theorem dX9_set_59 : decode cX9_set 59 = .ok (.ireturn, 1) := by decide +kernel
theorem dX9_personOf_0 : decode cX9_personOf 0 = .ok (.aload_n 0, 1) := by decide +kernel
theorem dX9_personOf_1 : decode cX9_personOf 1 = .ok (.iload_n 1, 1) := by decide +kernel
theorem dX9_personOf_2 : decode cX9_personOf 2 = .ok (.invokevirtual 61, 3) := by decide +kernel
theorem dX9_personOf_5 : decode cX9_personOf 5 = .ok (.ifCond .eq 13, 3) := by decide +kernel
theorem dX9_personOf_8 : decode cX9_personOf 8 = .ok (.iload_n 2, 1) := by decide +kernel
theorem dX9_personOf_9 : decode cX9_personOf 9 = .ok (.iconst 0, 1) := by decide +kernel
theorem dX9_personOf_10 : decode cX9_personOf 10 = .ok (.bipush 8, 2) := by decide +kernel
theorem dX9_personOf_12 : decode cX9_personOf 12 = .ok (.invokestatic 47, 3) := by decide +kernel
theorem dX9_personOf_15 : decode cX9_personOf 15 = .ok (.ifCond .ne 6, 3) := by decide +kernel
theorem dX9_personOf_18 : decode cX9_personOf 18 = .ok (.ldc 51, 2) := by decide +kernel
theorem dX9_personOf_20 : decode cX9_personOf 20 = .ok (.ireturn, 1) := by decide +kernel
theorem dX9_personOf_21 : decode cX9_personOf 21 = .ok (.iload_n 2, 1) := by decide +kernel
theorem dX9_personOf_22 : decode cX9_personOf 22 = .ok (.tableswitch 73 4 8 #[34, 40, 46, 60, 66], 34) := by decide +kernel
theorem dX9_personOf_56 : decode cX9_personOf 56 = .ok (.aload_n 0, 1) := by decide +kernel
theorem dX9_personOf_57 : decode cX9_personOf 57 = .ok (.iload_n 1, 1) := by decide +kernel
theorem dX9_personOf_58 : decode cX9_personOf 58 = .ok (.invokevirtual 64, 3) := by decide +kernel
theorem dX9_personOf_61 : decode cX9_personOf 61 = .ok (.ireturn, 1) := by decide +kernel
theorem dX9_personOf_62 : decode cX9_personOf 62 = .ok (.aload_n 0, 1) := by decide +kernel
theorem dX9_personOf_63 : decode cX9_personOf 63 = .ok (.iload_n 1, 1) := by decide +kernel
theorem dX9_personOf_64 : decode cX9_personOf 64 = .ok (.invokevirtual 72, 3) := by decide +kernel
theorem dX9_personOf_67 : decode cX9_personOf 67 = .ok (.ireturn, 1) := by decide +kernel
theorem dX9_personOf_68 : decode cX9_personOf 68 = .ok (.aload_n 0, 1) := by decide +kernel
theorem dX9_personOf_69 : decode cX9_personOf 69 = .ok (.iload_n 1, 1) := by decide +kernel
theorem dX9_personOf_70 : decode cX9_personOf 70 = .ok (.invokevirtual 92, 3) := by decide +kernel
theorem dX9_personOf_73 : decode cX9_personOf 73 = .ok (.ifCond .eq 7, 3) := by decide +kernel
theorem dX9_personOf_76 : decode cX9_personOf 76 = .ok (.iconst 1, 1) := by decide +kernel
theorem dX9_personOf_77 : decode cX9_personOf 77 = .ok (.goto 4, 3) := by decide +kernel
theorem dX9_personOf_80 : decode cX9_personOf 80 = .ok (.iconst 0, 1) := by decide +kernel
theorem dX9_personOf_81 : decode cX9_personOf 81 = .ok (.ireturn, 1) := by decide +kernel
theorem dX9_personOf_82 : decode cX9_personOf 82 = .ok (.aload_n 0, 1) := by decide +kernel
theorem dX9_personOf_83 : decode cX9_personOf 83 = .ok (.iload_n 1, 1) := by decide +kernel
theorem dX9_personOf_84 : decode cX9_personOf 84 = .ok (.invokevirtual 95, 3) := by decide +kernel
theorem dX9_personOf_87 : decode cX9_personOf 87 = .ok (.ireturn, 1) := by decide +kernel
theorem dX9_personOf_88 : decode cX9_personOf 88 = .ok (.aload_n 0, 1) := by decide +kernel
theorem dX9_personOf_89 : decode cX9_personOf 89 = .ok (.iload_n 1, 1) := by decide +kernel
theorem dX9_personOf_90 : decode cX9_personOf 90 = .ok (.iconst 5, 1) := by decide +kernel
theorem dX9_personOf_91 : decode cX9_personOf 91 = .ok (.invokevirtual 36, 3) := by decide +kernel
theorem dX9_personOf_94 : decode cX9_personOf 94 = .ok (.ireturn, 1) := by decide +kernel
theorem dX9_personOf_95 : decode cX9_personOf 95 = .ok (.aload_n 0, 1) := by decide +kernel
theorem dX9_personOf_96 : decode cX9_personOf 96 = .ok (.iload_n 1, 1) := by decide +kernel
theorem dX9_personOf_97 : decode cX9_personOf 97 = .ok (.iload_n 2, 1) := by decide +kernel
theorem dX9_personOf_98 : decode cX9_personOf 98 = .ok (.invokevirtual 36, 3) := by decide +kernel
theorem dX9_personOf_101 : decode cX9_personOf 101 = .ok (.ireturn, 1) := by decide +kernel
theorem dX9_sheetOf_0 : decode cX9_sheetOf 0 = .ok (.aload_n 0, 1) := by decide +kernel
theorem dX9_sheetOf_1 : decode cX9_sheetOf 1 = .ok (.iload_n 1, 1) := by decide +kernel
theorem dX9_sheetOf_2 : decode cX9_sheetOf 2 = .ok (.invokevirtual 75, 3) := by decide +kernel
theorem dX9_sheetOf_5 : decode cX9_sheetOf 5 = .ok (.istore_n 3, 1) := by decide +kernel
theorem dX9_sheetOf_6 : decode cX9_sheetOf 6 = .ok (.iload_n 3, 1) := by decide +kernel
theorem dX9_sheetOf_7 : decode cX9_sheetOf 7 = .ok (.ifCond .lt 12, 3) := by decide +kernel
theorem dX9_sheetOf_10 : decode cX9_sheetOf 10 = .ok (.iload_n 2, 1) := by decide +kernel
theorem dX9_sheetOf_11 : decode cX9_sheetOf 11 = .ok (.iconst 0, 1) := by decide +kernel
theorem dX9_sheetOf_12 : decode cX9_sheetOf 12 = .ok (.iconst 5, 1) := by decide +kernel
theorem dX9_sheetOf_13 : decode cX9_sheetOf 13 = .ok (.invokestatic 47, 3) := by decide +kernel
theorem dX9_sheetOf_16 : decode cX9_sheetOf 16 = .ok (.ifCond .ne 6, 3) := by decide +kernel
theorem dX9_sheetOf_19 : decode cX9_sheetOf 19 = .ok (.ldc 51, 2) := by decide +kernel
theorem dX9_sheetOf_21 : decode cX9_sheetOf 21 = .ok (.ireturn, 1) := by decide +kernel
theorem dX9_sheetOf_22 : decode cX9_sheetOf 22 = .ok (.iload_n 2, 1) := by decide +kernel
theorem dX9_sheetOf_23 : decode cX9_sheetOf 23 = .ok (.tableswitch 99 0 4 #[33, 33, 42, 52, 66], 33) := by decide +kernel
theorem dX9_sheetOf_56 : decode cX9_sheetOf 56 = .ok (.aload_n 0, 1) := by decide +kernel
theorem dX9_sheetOf_57 : decode cX9_sheetOf 57 = .ok (.iload_n 3, 1) := by decide +kernel
theorem dX9_sheetOf_58 : decode cX9_sheetOf 58 = .ok (.iload_n 2, 1) := by decide +kernel
theorem dX9_sheetOf_59 : decode cX9_sheetOf 59 = .ok (.iconst 1, 1) := by decide +kernel
theorem dX9_sheetOf_60 : decode cX9_sheetOf 60 = .ok (.iadd, 1) := by decide +kernel
theorem dX9_sheetOf_61 : decode cX9_sheetOf 61 = .ok (.invokevirtual 68, 3) := by decide +kernel
theorem dX9_sheetOf_64 : decode cX9_sheetOf 64 = .ok (.ireturn, 1) := by decide +kernel
theorem dX9_sheetOf_65 : decode cX9_sheetOf 65 = .ok (.aload_n 0, 1) := by decide +kernel
theorem dX9_sheetOf_66 : decode cX9_sheetOf 66 = .ok (.iload_n 3, 1) := by decide +kernel
theorem dX9_sheetOf_67 : decode cX9_sheetOf 67 = .ok (.iconst 2, 1) := by decide +kernel
theorem dX9_sheetOf_68 : decode cX9_sheetOf 68 = .ok (.invokevirtual 68, 3) := by decide +kernel
theorem dX9_sheetOf_71 : decode cX9_sheetOf 71 = .ok (.invokestatic 81, 3) := by decide +kernel
theorem dX9_sheetOf_74 : decode cX9_sheetOf 74 = .ok (.ireturn, 1) := by decide +kernel
theorem dX9_sheetOf_75 : decode cX9_sheetOf 75 = .ok (.aload_n 0, 1) := by decide +kernel
theorem dX9_sheetOf_76 : decode cX9_sheetOf 76 = .ok (.iload_n 3, 1) := by decide +kernel
theorem dX9_sheetOf_77 : decode cX9_sheetOf 77 = .ok (.invokevirtual 101, 3) := by decide +kernel
theorem dX9_sheetOf_80 : decode cX9_sheetOf 80 = .ok (.ifCond .eq 7, 3) := by decide +kernel
theorem dX9_sheetOf_83 : decode cX9_sheetOf 83 = .ok (.iconst 1, 1) := by decide +kernel
theorem dX9_sheetOf_84 : decode cX9_sheetOf 84 = .ok (.goto 4, 3) := by decide +kernel
theorem dX9_sheetOf_87 : decode cX9_sheetOf 87 = .ok (.iconst 0, 1) := by decide +kernel
theorem dX9_sheetOf_88 : decode cX9_sheetOf 88 = .ok (.ireturn, 1) := by decide +kernel
theorem dX9_sheetOf_89 : decode cX9_sheetOf 89 = .ok (.aload_n 0, 1) := by decide +kernel
theorem dX9_sheetOf_90 : decode cX9_sheetOf 90 = .ok (.iload_n 3, 1) := by decide +kernel
theorem dX9_sheetOf_91 : decode cX9_sheetOf 91 = .ok (.iconst 3, 1) := by decide +kernel
theorem dX9_sheetOf_92 : decode cX9_sheetOf 92 = .ok (.invokevirtual 68, 3) := by decide +kernel
theorem dX9_sheetOf_95 : decode cX9_sheetOf 95 = .ok (.aload_n 0, 1) := by decide +kernel
theorem dX9_sheetOf_96 : decode cX9_sheetOf 96 = .ok (.getfield 7, 3) := by decide +kernel
theorem dX9_sheetOf_99 : decode cX9_sheetOf 99 = .ok (.iconst 4, 1) := by decide +kernel
theorem dX9_sheetOf_100 : decode cX9_sheetOf 100 = .ok (.iaload, 1) := by decide +kernel
theorem dX9_sheetOf_101 : decode cX9_sheetOf 101 = .ok (.if_icmp .le 19, 3) := by decide +kernel
theorem dX9_sheetOf_104 : decode cX9_sheetOf 104 = .ok (.aload_n 0, 1) := by decide +kernel
theorem dX9_sheetOf_105 : decode cX9_sheetOf 105 = .ok (.iload_n 3, 1) := by decide +kernel
theorem dX9_sheetOf_106 : decode cX9_sheetOf 106 = .ok (.iconst 3, 1) := by decide +kernel
theorem dX9_sheetOf_107 : decode cX9_sheetOf 107 = .ok (.invokevirtual 68, 3) := by decide +kernel
theorem dX9_sheetOf_110 : decode cX9_sheetOf 110 = .ok (.aload_n 0, 1) := by decide +kernel
theorem dX9_sheetOf_111 : decode cX9_sheetOf 111 = .ok (.getfield 7, 3) := by decide +kernel
theorem dX9_sheetOf_114 : decode cX9_sheetOf 114 = .ok (.iconst 4, 1) := by decide +kernel
theorem dX9_sheetOf_115 : decode cX9_sheetOf 115 = .ok (.iaload, 1) := by decide +kernel
theorem dX9_sheetOf_116 : decode cX9_sheetOf 116 = .ok (.isub, 1) := by decide +kernel
theorem dX9_sheetOf_117 : decode cX9_sheetOf 117 = .ok (.goto 4, 3) := by decide +kernel
theorem dX9_sheetOf_120 : decode cX9_sheetOf 120 = .ok (.iconst 0, 1) := by decide +kernel
theorem dX9_sheetOf_121 : decode cX9_sheetOf 121 = .ok (.ireturn, 1) := by decide +kernel
theorem dX9_sheetOf_122 : decode cX9_sheetOf 122 = .ok (.aload_n 0, 1) := by decide +kernel
theorem dX9_sheetOf_123 : decode cX9_sheetOf 123 = .ok (.iload_n 3, 1) := by decide +kernel
theorem dX9_sheetOf_124 : decode cX9_sheetOf 124 = .ok (.invokevirtual 78, 3) := by decide +kernel
theorem dX9_sheetOf_127 : decode cX9_sheetOf 127 = .ok (.ireturn, 1) := by decide +kernel
theorem dX9_paperOf_0 : decode cX9_paperOf 0 = .ok (.aload_n 0, 1) := by decide +kernel
theorem dX9_paperOf_1 : decode cX9_paperOf 1 = .ok (.iload_n 1, 1) := by decide +kernel
theorem dX9_paperOf_2 : decode cX9_paperOf 2 = .ok (.invokevirtual 110, 3) := by decide +kernel
theorem dX9_paperOf_5 : decode cX9_paperOf 5 = .ok (.ifCond .eq 12, 3) := by decide +kernel
theorem dX9_paperOf_8 : decode cX9_paperOf 8 = .ok (.iload_n 2, 1) := by decide +kernel
theorem dX9_paperOf_9 : decode cX9_paperOf 9 = .ok (.iconst 0, 1) := by decide +kernel
theorem dX9_paperOf_10 : decode cX9_paperOf 10 = .ok (.iconst 4, 1) := by decide +kernel
theorem dX9_paperOf_11 : decode cX9_paperOf 11 = .ok (.invokestatic 47, 3) := by decide +kernel
theorem dX9_paperOf_14 : decode cX9_paperOf 14 = .ok (.ifCond .ne 6, 3) := by decide +kernel
theorem dX9_paperOf_17 : decode cX9_paperOf 17 = .ok (.ldc 51, 2) := by decide +kernel
theorem dX9_paperOf_19 : decode cX9_paperOf 19 = .ok (.ireturn, 1) := by decide +kernel
theorem dX9_paperOf_20 : decode cX9_paperOf 20 = .ok (.iload_n 2, 1) := by decide +kernel
theorem dX9_paperOf_21 : decode cX9_paperOf 21 = .ok (.iconst 4, 1) := by decide +kernel
theorem dX9_paperOf_22 : decode cX9_paperOf 22 = .ok (.if_icmp .ge 12, 3) := by decide +kernel
theorem dX9_paperOf_25 : decode cX9_paperOf 25 = .ok (.aload_n 0, 1) := by decide +kernel
theorem dX9_paperOf_26 : decode cX9_paperOf 26 = .ok (.iload_n 1, 1) := by decide +kernel
theorem dX9_paperOf_27 : decode cX9_paperOf 27 = .ok (.iload_n 2, 1) := by decide +kernel
theorem dX9_paperOf_28 : decode cX9_paperOf 28 = .ok (.invokevirtual 98, 3) := by decide +kernel
theorem dX9_paperOf_31 : decode cX9_paperOf 31 = .ok (.goto 8, 3) := by decide +kernel
theorem dX9_paperOf_34 : decode cX9_paperOf 34 = .ok (.aload_n 0, 1) := by decide +kernel
theorem dX9_paperOf_35 : decode cX9_paperOf 35 = .ok (.iload_n 1, 1) := by decide +kernel
theorem dX9_paperOf_36 : decode cX9_paperOf 36 = .ok (.invokevirtual 104, 3) := by decide +kernel
theorem dX9_paperOf_39 : decode cX9_paperOf 39 = .ok (.ireturn, 1) := by decide +kernel
theorem dX9_price_0 : decode cX9_price 0 = .ok (.aload_n 0, 1) := by decide +kernel
theorem dX9_price_1 : decode cX9_price 1 = .ok (.iload_n 1, 1) := by decide +kernel
theorem dX9_price_2 : decode cX9_price 2 = .ok (.invokevirtual 75, 3) := by decide +kernel
theorem dX9_price_5 : decode cX9_price 5 = .ok (.istore_n 3, 1) := by decide +kernel
theorem dX9_price_6 : decode cX9_price 6 = .ok (.iload_n 3, 1) := by decide +kernel
theorem dX9_price_7 : decode cX9_price 7 = .ok (.ifCond .lt 20, 3) := by decide +kernel
theorem dX9_price_10 : decode cX9_price 10 = .ok (.aload_n 0, 1) := by decide +kernel
theorem dX9_price_11 : decode cX9_price 11 = .ok (.iload_n 2, 1) := by decide +kernel
theorem dX9_price_12 : decode cX9_price 12 = .ok (.invokevirtual 110, 3) := by decide +kernel
theorem dX9_price_15 : decode cX9_price 15 = .ok (.ifCond .eq 12, 3) := by decide +kernel
theorem dX9_price_18 : decode cX9_price 18 = .ok (.aload_n 0, 1) := by decide +kernel
theorem dX9_price_19 : decode cX9_price 19 = .ok (.iload_n 3, 1) := by decide +kernel
theorem dX9_price_20 : decode cX9_price 20 = .ok (.iload_n 2, 1) := by decide +kernel
theorem dX9_price_21 : decode cX9_price 21 = .ok (.invokevirtual 107, 3) := by decide +kernel
theorem dX9_price_24 : decode cX9_price 24 = .ok (.goto 5, 3) := by decide +kernel
theorem dX9_price_27 : decode cX9_price 27 = .ok (.ldc 51, 2) := by decide +kernel
theorem dX9_price_29 : decode cX9_price 29 = .ok (.ireturn, 1) := by decide +kernel
theorem dX9_number_0 : decode cX9_number 0 = .ok (.iload_n 1, 1) := by decide +kernel
theorem dX9_number_1 : decode cX9_number 1 = .ok (.ifCond .ge 8, 3) := by decide +kernel
theorem dX9_number_4 : decode cX9_number 4 = .ok (.ldc 51, 2) := by decide +kernel
theorem dX9_number_6 : decode cX9_number 6 = .ok (.goto 24, 3) := by decide +kernel
theorem dX9_number_9 : decode cX9_number 9 = .ok (.iload_n 1, 1) := by decide +kernel
theorem dX9_number_10 : decode cX9_number 10 = .ok (.aload_n 0, 1) := by decide +kernel
theorem dX9_number_11 : decode cX9_number 11 = .ok (.getfield 7, 3) := by decide +kernel
theorem dX9_number_14 : decode cX9_number 14 = .ok (.iconst 2, 1) := by decide +kernel
theorem dX9_number_15 : decode cX9_number 15 = .ok (.iaload, 1) := by decide +kernel
theorem dX9_number_16 : decode cX9_number 16 = .ok (.if_icmp .ge 12, 3) := by decide +kernel
theorem dX9_number_19 : decode cX9_number 19 = .ok (.aload_n 0, 1) := by decide +kernel
theorem dX9_number_20 : decode cX9_number 20 = .ok (.iload_n 1, 1) := by decide +kernel
theorem dX9_number_21 : decode cX9_number 21 = .ok (.iconst 0, 1) := by decide +kernel
theorem dX9_number_22 : decode cX9_number 22 = .ok (.invokevirtual 68, 3) := by decide +kernel
theorem dX9_number_25 : decode cX9_number 25 = .ok (.goto 5, 3) := by decide +kernel
theorem dX9_number_28 : decode cX9_number 28 = .ok (.ldc 71, 2) := by decide +kernel
theorem dX9_number_30 : decode cX9_number 30 = .ok (.ireturn, 1) := by decide +kernel
theorem dX9_seenIn_0 : decode cX9_seenIn 0 = .ok (.aload_n 0, 1) := by decide +kernel
theorem dX9_seenIn_1 : decode cX9_seenIn 1 = .ok (.iload_n 1, 1) := by decide +kernel
theorem dX9_seenIn_2 : decode cX9_seenIn 2 = .ok (.invokevirtual 61, 3) := by decide +kernel
theorem dX9_seenIn_5 : decode cX9_seenIn 5 = .ok (.ifCond .eq 13, 3) := by decide +kernel
theorem dX9_seenIn_8 : decode cX9_seenIn 8 = .ok (.iload_n 2, 1) := by decide +kernel
theorem dX9_seenIn_9 : decode cX9_seenIn 9 = .ok (.iconst 0, 1) := by decide +kernel
theorem dX9_seenIn_10 : decode cX9_seenIn 10 = .ok (.bipush 11, 2) := by decide +kernel
theorem dX9_seenIn_12 : decode cX9_seenIn 12 = .ok (.invokestatic 47, 3) := by decide +kernel
theorem dX9_seenIn_15 : decode cX9_seenIn 15 = .ok (.ifCond .ne 6, 3) := by decide +kernel
theorem dX9_seenIn_18 : decode cX9_seenIn 18 = .ok (.ldc 51, 2) := by decide +kernel
theorem dX9_seenIn_20 : decode cX9_seenIn 20 = .ok (.ireturn, 1) := by decide +kernel
theorem dX9_seenIn_21 : decode cX9_seenIn 21 = .ok (.iconst 0, 1) := by decide +kernel
theorem dX9_seenIn_22 : decode cX9_seenIn 22 = .ok (.istore_n 3, 1) := by decide +kernel
theorem dX9_seenIn_23 : decode cX9_seenIn 23 = .ok (.iload_n 3, 1) := by decide +kernel
theorem dX9_seenIn_24 : decode cX9_seenIn 24 = .ok (.bipush 12, 2) := by decide +kernel
theorem dX9_seenIn_26 : decode cX9_seenIn 26 = .ok (.if_icmp .ge 46, 3) := by decide +kernel
theorem dX9_seenIn_29 : decode cX9_seenIn 29 = .ok (.aload_n 0, 1) := by decide +kernel
theorem dX9_seenIn_30 : decode cX9_seenIn 30 = .ok (.iload_n 1, 1) := by decide +kernel
theorem dX9_seenIn_31 : decode cX9_seenIn 31 = .ok (.iconst 2, 1) := by decide +kernel
theorem dX9_seenIn_32 : decode cX9_seenIn 32 = .ok (.invokevirtual 36, 3) := by decide +kernel
theorem dX9_seenIn_35 : decode cX9_seenIn 35 = .ok (.iload_n 3, 1) := by decide +kernel
theorem dX9_seenIn_36 : decode cX9_seenIn 36 = .ok (.aload_n 0, 1) := by decide +kernel
theorem dX9_seenIn_37 : decode cX9_seenIn 37 = .ok (.iload_n 1, 1) := by decide +kernel
theorem dX9_seenIn_38 : decode cX9_seenIn 38 = .ok (.iconst 3, 1) := by decide +kernel
theorem dX9_seenIn_39 : decode cX9_seenIn 39 = .ok (.invokevirtual 36, 3) := by decide +kernel
theorem dX9_seenIn_42 : decode cX9_seenIn 42 = .ok (.imul, 1) := by decide +kernel
theorem dX9_seenIn_43 : decode cX9_seenIn 43 = .ok (.iadd, 1) := by decide +kernel
theorem dX9_seenIn_44 : decode cX9_seenIn 44 = .ok (.bipush 12, 2) := by decide +kernel
theorem dX9_seenIn_46 : decode cX9_seenIn 46 = .ok (.irem, 1) := by decide +kernel
theorem dX9_seenIn_47 : decode cX9_seenIn 47 = .ok (.istore 4, 2) := by decide +kernel
theorem dX9_seenIn_49 : decode cX9_seenIn 49 = .ok (.aload_n 0, 1) := by decide +kernel
theorem dX9_seenIn_50 : decode cX9_seenIn 50 = .ok (.iload_n 1, 1) := by decide +kernel
theorem dX9_seenIn_51 : decode cX9_seenIn 51 = .ok (.iload 4, 2) := by decide +kernel
theorem dX9_seenIn_53 : decode cX9_seenIn 53 = .ok (.invokevirtual 44, 3) := by decide +kernel
theorem dX9_seenIn_56 : decode cX9_seenIn 56 = .ok (.iload_n 2, 1) := by decide +kernel
theorem dX9_seenIn_57 : decode cX9_seenIn 57 = .ok (.ishr, 1) := by decide +kernel
theorem dX9_seenIn_58 : decode cX9_seenIn 58 = .ok (.iconst 1, 1) := by decide +kernel
theorem dX9_seenIn_59 : decode cX9_seenIn 59 = .ok (.iand, 1) := by decide +kernel
theorem dX9_seenIn_60 : decode cX9_seenIn 60 = .ok (.iconst 1, 1) := by decide +kernel
theorem dX9_seenIn_61 : decode cX9_seenIn 61 = .ok (.if_icmp .ne 5, 3) := by decide +kernel
theorem dX9_seenIn_64 : decode cX9_seenIn 64 = .ok (.iload_n 3, 1) := by decide +kernel
theorem dX9_seenIn_65 : decode cX9_seenIn 65 = .ok (.ireturn, 1) := by decide +kernel
theorem dX9_seenIn_66 : decode cX9_seenIn 66 = .ok (.iinc 3 1, 3) := by decide +kernel
theorem dX9_seenIn_69 : decode cX9_seenIn 69 = .ok (.goto (-46), 3) := by decide +kernel
theorem dX9_seenIn_72 : decode cX9_seenIn 72 = .ok (.ldc 71, 2) := by decide +kernel
theorem dX9_seenIn_74 : decode cX9_seenIn 74 = .ok (.ireturn, 1) := by decide +kernel
theorem dX9_would_0 : decode cX9_would 0 = .ok (.aload_n 0, 1) := by decide +kernel
theorem dX9_would_1 : decode cX9_would 1 = .ok (.iload_n 1, 1) := by decide +kernel
theorem dX9_would_2 : decode cX9_would 2 = .ok (.invokevirtual 61, 3) := by decide +kernel
theorem dX9_would_5 : decode cX9_would 5 = .ok (.ifCond .eq 14, 3) := by decide +kernel
theorem dX9_would_8 : decode cX9_would 8 = .ok (.iload_n 2, 1) := by decide +kernel
theorem dX9_would_9 : decode cX9_would 9 = .ok (.iconst 0, 1) := by decide +kernel
theorem dX9_would_10 : decode cX9_would 10 = .ok (.sipush 300, 3) := by decide +kernel
theorem dX9_would_13 : decode cX9_would 13 = .ok (.invokestatic 47, 3) := by decide +kernel
theorem dX9_would_16 : decode cX9_would 16 = .ok (.ifCond .ne 6, 3) := by decide +kernel
theorem dX9_would_19 : decode cX9_would 19 = .ok (.ldc 51, 2) := by decide +kernel
end
section
theorem dX9_would_21 : decode cX9_would 21 = .ok (.ireturn, 1) := by decide +kernel
theorem dX9_would_22 : decode cX9_would 22 = .ok (.aload_n 0, 1) := by decide +kernel
theorem dX9_would_23 : decode cX9_would 23 = .ok (.getfield 7, 3) := by decide +kernel
theorem dX9_would_26 : decode cX9_would 26 = .ok (.aload_n 0, 1) := by decide +kernel
theorem dX9_would_27 : decode cX9_would 27 = .ok (.getfield 19, 3) := by decide +kernel
theorem dX9_would_30 : decode cX9_would 30 = .ok (.invokestatic 126, 3) := by decide +kernel
theorem dX9_would_33 : decode cX9_would 33 = .ok (.aload_n 0, 1) := by decide +kernel
theorem dX9_would_34 : decode cX9_would 34 = .ok (.getfield 7, 3) := by decide +kernel
theorem dX9_would_37 : decode cX9_would 37 = .ok (.iconst 5, 1) := by decide +kernel
theorem dX9_would_38 : decode cX9_would 38 = .ok (.iload_n 1, 1) := by decide +kernel
theorem dX9_would_39 : decode cX9_would 39 = .ok (.iastore, 1) := by decide +kernel
theorem dX9_would_40 : decode cX9_would 40 = .ok (.iconst 0, 1) := by decide +kernel
theorem dX9_would_41 : decode cX9_would 41 = .ok (.istore_n 3, 1) := by decide +kernel
theorem dX9_would_42 : decode cX9_would 42 = .ok (.iload_n 3, 1) := by decide +kernel
theorem dX9_would_43 : decode cX9_would 43 = .ok (.iload_n 2, 1) := by decide +kernel
theorem dX9_would_44 : decode cX9_would 44 = .ok (.if_icmp .ge 13, 3) := by decide +kernel
theorem dX9_would_47 : decode cX9_would 47 = .ok (.aload_n 0, 1) := by decide +kernel
theorem dX9_would_48 : decode cX9_would 48 = .ok (.invokevirtual 123, 3) := by decide +kernel
theorem dX9_would_51 : decode cX9_would 51 = .ok (.iinc 3 1, 3) := by decide +kernel
theorem dX9_would_54 : decode cX9_would 54 = .ok (.goto (-12), 3) := by decide +kernel
theorem dX9_would_57 : decode cX9_would 57 = .ok (.aload_n 0, 1) := by decide +kernel
theorem dX9_would_58 : decode cX9_would 58 = .ok (.iload_n 1, 1) := by decide +kernel
theorem dX9_would_59 : decode cX9_would 59 = .ok (.invokevirtual 72, 3) := by decide +kernel
theorem dX9_would_62 : decode cX9_would 62 = .ok (.invokestatic 81, 3) := by decide +kernel
theorem dX9_would_65 : decode cX9_would 65 = .ok (.istore_n 3, 1) := by decide +kernel
theorem dX9_would_66 : decode cX9_would 66 = .ok (.aload_n 0, 1) := by decide +kernel
theorem dX9_would_67 : decode cX9_would 67 = .ok (.getfield 19, 3) := by decide +kernel
theorem dX9_would_70 : decode cX9_would 70 = .ok (.aload_n 0, 1) := by decide +kernel
theorem dX9_would_71 : decode cX9_would 71 = .ok (.getfield 7, 3) := by decide +kernel
theorem dX9_would_74 : decode cX9_would 74 = .ok (.invokestatic 126, 3) := by decide +kernel
theorem dX9_would_77 : decode cX9_would 77 = .ok (.iload_n 3, 1) := by decide +kernel
theorem dX9_would_78 : decode cX9_would 78 = .ok (.ireturn, 1) := by decide +kernel
theorem dX9_bestSale_0 : decode cX9_bestSale 0 = .ok (.ldc 71, 2) := by decide +kernel
theorem dX9_bestSale_2 : decode cX9_bestSale 2 = .ok (.istore_n 1, 1) := by decide +kernel
theorem dX9_bestSale_3 : decode cX9_bestSale 3 = .ok (.iconst (-1), 1) := by decide +kernel
theorem dX9_bestSale_4 : decode cX9_bestSale 4 = .ok (.istore_n 2, 1) := by decide +kernel
theorem dX9_bestSale_5 : decode cX9_bestSale 5 = .ok (.iconst 0, 1) := by decide +kernel
theorem dX9_bestSale_6 : decode cX9_bestSale 6 = .ok (.istore_n 3, 1) := by decide +kernel
theorem dX9_bestSale_7 : decode cX9_bestSale 7 = .ok (.iload_n 3, 1) := by decide +kernel
theorem dX9_bestSale_8 : decode cX9_bestSale 8 = .ok (.aload_n 0, 1) := by decide +kernel
theorem dX9_bestSale_9 : decode cX9_bestSale 9 = .ok (.getfield 7, 3) := by decide +kernel
theorem dX9_bestSale_12 : decode cX9_bestSale 12 = .ok (.iconst 2, 1) := by decide +kernel
theorem dX9_bestSale_13 : decode cX9_bestSale 13 = .ok (.iaload, 1) := by decide +kernel
theorem dX9_bestSale_14 : decode cX9_bestSale 14 = .ok (.if_icmp .ge 91, 3) := by decide +kernel
theorem dX9_bestSale_17 : decode cX9_bestSale 17 = .ok (.iconst 0, 1) := by decide +kernel
theorem dX9_bestSale_18 : decode cX9_bestSale 18 = .ok (.istore 4, 2) := by decide +kernel
theorem dX9_bestSale_20 : decode cX9_bestSale 20 = .ok (.iload 4, 2) := by decide +kernel
theorem dX9_bestSale_22 : decode cX9_bestSale 22 = .ok (.aload_n 0, 1) := by decide +kernel
theorem dX9_bestSale_23 : decode cX9_bestSale 23 = .ok (.getfield 7, 3) := by decide +kernel
theorem dX9_bestSale_26 : decode cX9_bestSale 26 = .ok (.iconst 1, 1) := by decide +kernel
theorem dX9_bestSale_27 : decode cX9_bestSale 27 = .ok (.iaload, 1) := by decide +kernel
theorem dX9_bestSale_28 : decode cX9_bestSale 28 = .ok (.if_icmp .ge 71, 3) := by decide +kernel
theorem dX9_bestSale_31 : decode cX9_bestSale 31 = .ok (.aload_n 0, 1) := by decide +kernel
theorem dX9_bestSale_32 : decode cX9_bestSale 32 = .ok (.iload_n 3, 1) := by decide +kernel
theorem dX9_bestSale_33 : decode cX9_bestSale 33 = .ok (.iload 4, 2) := by decide +kernel
theorem dX9_bestSale_35 : decode cX9_bestSale 35 = .ok (.invokevirtual 113, 3) := by decide +kernel
theorem dX9_bestSale_38 : decode cX9_bestSale 38 = .ok (.ifCond .eq 18, 3) := by decide +kernel
theorem dX9_bestSale_41 : decode cX9_bestSale 41 = .ok (.aload_n 0, 1) := by decide +kernel
theorem dX9_bestSale_42 : decode cX9_bestSale 42 = .ok (.iload_n 3, 1) := by decide +kernel
theorem dX9_bestSale_43 : decode cX9_bestSale 43 = .ok (.iload 4, 2) := by decide +kernel
theorem dX9_bestSale_45 : decode cX9_bestSale 45 = .ok (.invokevirtual 107, 3) := by decide +kernel
theorem dX9_bestSale_48 : decode cX9_bestSale 48 = .ok (.iload_n 2, 1) := by decide +kernel
theorem dX9_bestSale_49 : decode cX9_bestSale 49 = .ok (.if_icmp .le 7, 3) := by decide +kernel
theorem dX9_bestSale_52 : decode cX9_bestSale 52 = .ok (.iconst 1, 1) := by decide +kernel
theorem dX9_bestSale_53 : decode cX9_bestSale 53 = .ok (.goto 4, 3) := by decide +kernel
theorem dX9_bestSale_56 : decode cX9_bestSale 56 = .ok (.iconst 0, 1) := by decide +kernel
theorem dX9_bestSale_57 : decode cX9_bestSale 57 = .ok (.istore 5, 2) := by decide +kernel
theorem dX9_bestSale_59 : decode cX9_bestSale 59 = .ok (.iload 5, 2) := by decide +kernel
theorem dX9_bestSale_61 : decode cX9_bestSale 61 = .ok (.ifCond .eq 13, 3) := by decide +kernel
theorem dX9_bestSale_64 : decode cX9_bestSale 64 = .ok (.bipush 10, 2) := by decide +kernel
theorem dX9_bestSale_66 : decode cX9_bestSale 66 = .ok (.iload_n 3, 1) := by decide +kernel
theorem dX9_bestSale_67 : decode cX9_bestSale 67 = .ok (.imul, 1) := by decide +kernel
theorem dX9_bestSale_68 : decode cX9_bestSale 68 = .ok (.iload 4, 2) := by decide +kernel
theorem dX9_bestSale_70 : decode cX9_bestSale 70 = .ok (.iadd, 1) := by decide +kernel
theorem dX9_bestSale_71 : decode cX9_bestSale 71 = .ok (.goto 4, 3) := by decide +kernel
theorem dX9_bestSale_74 : decode cX9_bestSale 74 = .ok (.iload_n 1, 1) := by decide +kernel
theorem dX9_bestSale_75 : decode cX9_bestSale 75 = .ok (.istore_n 1, 1) := by decide +kernel
theorem dX9_bestSale_76 : decode cX9_bestSale 76 = .ok (.iload 5, 2) := by decide +kernel
theorem dX9_bestSale_78 : decode cX9_bestSale 78 = .ok (.ifCond .eq 13, 3) := by decide +kernel
theorem dX9_bestSale_81 : decode cX9_bestSale 81 = .ok (.aload_n 0, 1) := by decide +kernel
theorem dX9_bestSale_82 : decode cX9_bestSale 82 = .ok (.iload_n 3, 1) := by decide +kernel
theorem dX9_bestSale_83 : decode cX9_bestSale 83 = .ok (.iload 4, 2) := by decide +kernel
theorem dX9_bestSale_85 : decode cX9_bestSale 85 = .ok (.invokevirtual 107, 3) := by decide +kernel
theorem dX9_bestSale_88 : decode cX9_bestSale 88 = .ok (.goto 4, 3) := by decide +kernel
theorem dX9_bestSale_91 : decode cX9_bestSale 91 = .ok (.iload_n 2, 1) := by decide +kernel
theorem dX9_bestSale_92 : decode cX9_bestSale 92 = .ok (.istore_n 2, 1) := by decide +kernel
theorem dX9_bestSale_93 : decode cX9_bestSale 93 = .ok (.iinc 4 1, 3) := by decide +kernel
theorem dX9_bestSale_96 : decode cX9_bestSale 96 = .ok (.goto (-76), 3) := by decide +kernel
theorem dX9_bestSale_99 : decode cX9_bestSale 99 = .ok (.iinc 3 1, 3) := by decide +kernel
theorem dX9_bestSale_102 : decode cX9_bestSale 102 = .ok (.goto (-95), 3) := by decide +kernel
theorem dX9_bestSale_105 : decode cX9_bestSale 105 = .ok (.iload_n 1, 1) := by decide +kernel
theorem dX9_bestSale_106 : decode cX9_bestSale 106 = .ok (.ireturn, 1) := by decide +kernel
theorem dX9_best_0 : decode cX9_best 0 = .ok (.iload_n 1, 1) := by decide +kernel
theorem dX9_best_1 : decode cX9_best 1 = .ok (.iconst 0, 1) := by decide +kernel
theorem dX9_best_2 : decode cX9_best 2 = .ok (.iconst 2, 1) := by decide +kernel
theorem dX9_best_3 : decode cX9_best 3 = .ok (.invokestatic 47, 3) := by decide +kernel
theorem dX9_best_6 : decode cX9_best 6 = .ok (.ifCond .ne 6, 3) := by decide +kernel
theorem dX9_best_9 : decode cX9_best 9 = .ok (.ldc 51, 2) := by decide +kernel
theorem dX9_best_11 : decode cX9_best 11 = .ok (.ireturn, 1) := by decide +kernel
theorem dX9_best_12 : decode cX9_best 12 = .ok (.aload_n 0, 1) := by decide +kernel
theorem dX9_best_13 : decode cX9_best 13 = .ok (.invokevirtual 130, 3) := by decide +kernel
theorem dX9_best_16 : decode cX9_best 16 = .ok (.istore_n 2, 1) := by decide +kernel
theorem dX9_best_17 : decode cX9_best 17 = .ok (.iload_n 2, 1) := by decide +kernel
theorem dX9_best_18 : decode cX9_best 18 = .ok (.ifCond .ge 8, 3) := by decide +kernel
theorem dX9_best_21 : decode cX9_best 21 = .ok (.ldc 71, 2) := by decide +kernel
theorem dX9_best_23 : decode cX9_best 23 = .ok (.goto 43, 3) := by decide +kernel
theorem dX9_best_26 : decode cX9_best 26 = .ok (.iload_n 1, 1) := by decide +kernel
theorem dX9_best_27 : decode cX9_best 27 = .ok (.ifCond .ne 15, 3) := by decide +kernel
theorem dX9_best_30 : decode cX9_best 30 = .ok (.aload_n 0, 1) := by decide +kernel
theorem dX9_best_31 : decode cX9_best 31 = .ok (.iload_n 2, 1) := by decide +kernel
theorem dX9_best_32 : decode cX9_best 32 = .ok (.bipush 10, 2) := by decide +kernel
theorem dX9_best_34 : decode cX9_best 34 = .ok (.idiv, 1) := by decide +kernel
theorem dX9_best_35 : decode cX9_best 35 = .ok (.iconst 0, 1) := by decide +kernel
theorem dX9_best_36 : decode cX9_best 36 = .ok (.invokevirtual 68, 3) := by decide +kernel
theorem dX9_best_39 : decode cX9_best 39 = .ok (.goto 27, 3) := by decide +kernel
theorem dX9_best_42 : decode cX9_best 42 = .ok (.iload_n 1, 1) := by decide +kernel
theorem dX9_best_43 : decode cX9_best 43 = .ok (.iconst 1, 1) := by decide +kernel
theorem dX9_best_44 : decode cX9_best 44 = .ok (.if_icmp .ne 10, 3) := by decide +kernel
theorem dX9_best_47 : decode cX9_best 47 = .ok (.iload_n 2, 1) := by decide +kernel
theorem dX9_best_48 : decode cX9_best 48 = .ok (.bipush 10, 2) := by decide +kernel
theorem dX9_best_50 : decode cX9_best 50 = .ok (.irem, 1) := by decide +kernel
theorem dX9_best_51 : decode cX9_best 51 = .ok (.goto 15, 3) := by decide +kernel
theorem dX9_best_54 : decode cX9_best 54 = .ok (.aload_n 0, 1) := by decide +kernel
theorem dX9_best_55 : decode cX9_best 55 = .ok (.iload_n 2, 1) := by decide +kernel
theorem dX9_best_56 : decode cX9_best 56 = .ok (.bipush 10, 2) := by decide +kernel
theorem dX9_best_58 : decode cX9_best 58 = .ok (.idiv, 1) := by decide +kernel
theorem dX9_best_59 : decode cX9_best 59 = .ok (.iload_n 2, 1) := by decide +kernel
theorem dX9_best_60 : decode cX9_best 60 = .ok (.bipush 10, 2) := by decide +kernel
theorem dX9_best_62 : decode cX9_best 62 = .ok (.irem, 1) := by decide +kernel
theorem dX9_best_63 : decode cX9_best 63 = .ok (.invokevirtual 107, 3) := by decide +kernel
theorem dX9_best_66 : decode cX9_best 66 = .ok (.ireturn, 1) := by decide +kernel
theorem dX9_sellAll_0 : decode cX9_sellAll 0 = .ok (.aload_n 0, 1) := by decide +kernel
theorem dX9_sellAll_1 : decode cX9_sellAll 1 = .ok (.getfield 7, 3) := by decide +kernel
theorem dX9_sellAll_4 : decode cX9_sellAll 4 = .ok (.aload_n 0, 1) := by decide +kernel
theorem dX9_sellAll_5 : decode cX9_sellAll 5 = .ok (.getfield 19, 3) := by decide +kernel
theorem dX9_sellAll_8 : decode cX9_sellAll 8 = .ok (.invokestatic 126, 3) := by decide +kernel
theorem dX9_sellAll_11 : decode cX9_sellAll 11 = .ok (.iconst 0, 1) := by decide +kernel
theorem dX9_sellAll_12 : decode cX9_sellAll 12 = .ok (.istore_n 1, 1) := by decide +kernel
theorem dX9_sellAll_13 : decode cX9_sellAll 13 = .ok (.aload_n 0, 1) := by decide +kernel
theorem dX9_sellAll_14 : decode cX9_sellAll 14 = .ok (.invokevirtual 130, 3) := by decide +kernel
theorem dX9_sellAll_17 : decode cX9_sellAll 17 = .ok (.istore_n 2, 1) := by decide +kernel
theorem dX9_sellAll_18 : decode cX9_sellAll 18 = .ok (.iload_n 2, 1) := by decide +kernel
theorem dX9_sellAll_19 : decode cX9_sellAll 19 = .ok (.ifCond .lt 26, 3) := by decide +kernel
theorem dX9_sellAll_22 : decode cX9_sellAll 22 = .ok (.iload_n 1, 1) := by decide +kernel
theorem dX9_sellAll_23 : decode cX9_sellAll 23 = .ok (.aload_n 0, 1) := by decide +kernel
theorem dX9_sellAll_24 : decode cX9_sellAll 24 = .ok (.iload_n 2, 1) := by decide +kernel
theorem dX9_sellAll_25 : decode cX9_sellAll 25 = .ok (.bipush 10, 2) := by decide +kernel
theorem dX9_sellAll_27 : decode cX9_sellAll 27 = .ok (.idiv, 1) := by decide +kernel
theorem dX9_sellAll_28 : decode cX9_sellAll 28 = .ok (.iload_n 2, 1) := by decide +kernel
theorem dX9_sellAll_29 : decode cX9_sellAll 29 = .ok (.bipush 10, 2) := by decide +kernel
theorem dX9_sellAll_31 : decode cX9_sellAll 31 = .ok (.irem, 1) := by decide +kernel
theorem dX9_sellAll_32 : decode cX9_sellAll 32 = .ok (.invokevirtual 117, 3) := by decide +kernel
theorem dX9_sellAll_35 : decode cX9_sellAll 35 = .ok (.iadd, 1) := by decide +kernel
theorem dX9_sellAll_36 : decode cX9_sellAll 36 = .ok (.istore_n 1, 1) := by decide +kernel
theorem dX9_sellAll_37 : decode cX9_sellAll 37 = .ok (.aload_n 0, 1) := by decide +kernel
theorem dX9_sellAll_38 : decode cX9_sellAll 38 = .ok (.invokevirtual 130, 3) := by decide +kernel
theorem dX9_sellAll_41 : decode cX9_sellAll 41 = .ok (.istore_n 2, 1) := by decide +kernel
theorem dX9_sellAll_42 : decode cX9_sellAll 42 = .ok (.goto (-24), 3) := by decide +kernel
theorem dX9_sellAll_45 : decode cX9_sellAll 45 = .ok (.aload_n 0, 1) := by decide +kernel
theorem dX9_sellAll_46 : decode cX9_sellAll 46 = .ok (.getfield 19, 3) := by decide +kernel
theorem dX9_sellAll_49 : decode cX9_sellAll 49 = .ok (.aload_n 0, 1) := by decide +kernel
theorem dX9_sellAll_50 : decode cX9_sellAll 50 = .ok (.getfield 7, 3) := by decide +kernel
theorem dX9_sellAll_53 : decode cX9_sellAll 53 = .ok (.invokestatic 126, 3) := by decide +kernel
theorem dX9_sellAll_56 : decode cX9_sellAll 56 = .ok (.iload_n 1, 1) := by decide +kernel
theorem dX9_sellAll_57 : decode cX9_sellAll 57 = .ok (.ireturn, 1) := by decide +kernel
theorem dX9_mean_0 : decode cX9_mean 0 = .ok (.aload_n 0, 1) := by decide +kernel
theorem dX9_mean_1 : decode cX9_mean 1 = .ok (.getfield 7, 3) := by decide +kernel
theorem dX9_mean_4 : decode cX9_mean 4 = .ok (.bipush 8, 2) := by decide +kernel
theorem dX9_mean_6 : decode cX9_mean 6 = .ok (.iaload, 1) := by decide +kernel
theorem dX9_mean_7 : decode cX9_mean 7 = .ok (.i2f, 1) := by decide +kernel
theorem dX9_mean_8 : decode cX9_mean 8 = .ok (.aload_n 0, 1) := by decide +kernel
theorem dX9_mean_9 : decode cX9_mean 9 = .ok (.getfield 7, 3) := by decide +kernel
theorem dX9_mean_12 : decode cX9_mean 12 = .ok (.bipush 7, 2) := by decide +kernel
theorem dX9_mean_14 : decode cX9_mean 14 = .ok (.iaload, 1) := by decide +kernel
theorem dX9_mean_15 : decode cX9_mean 15 = .ok (.ifCond .ne 7, 3) := by decide +kernel
theorem dX9_mean_18 : decode cX9_mean 18 = .ok (.iconst 1, 1) := by decide +kernel
theorem dX9_mean_19 : decode cX9_mean 19 = .ok (.goto 10, 3) := by decide +kernel
theorem dX9_mean_22 : decode cX9_mean 22 = .ok (.aload_n 0, 1) := by decide +kernel
theorem dX9_mean_23 : decode cX9_mean 23 = .ok (.getfield 7, 3) := by decide +kernel
theorem dX9_mean_26 : decode cX9_mean 26 = .ok (.bipush 7, 2) := by decide +kernel
theorem dX9_mean_28 : decode cX9_mean 28 = .ok (.iaload, 1) := by decide +kernel
theorem dX9_mean_29 : decode cX9_mean 29 = .ok (.i2f, 1) := by decide +kernel
theorem dX9_mean_30 : decode cX9_mean 30 = .ok (.fdiv, 1) := by decide +kernel
theorem dX9_mean_31 : decode cX9_mean 31 = .ok (.fstore_n 1, 1) := by decide +kernel
theorem dX9_mean_32 : decode cX9_mean 32 = .ok (.aload_n 0, 1) := by decide +kernel
theorem dX9_mean_33 : decode cX9_mean 33 = .ok (.getfield 7, 3) := by decide +kernel
theorem dX9_mean_36 : decode cX9_mean 36 = .ok (.bipush 7, 2) := by decide +kernel
theorem dX9_mean_38 : decode cX9_mean 38 = .ok (.iaload, 1) := by decide +kernel
theorem dX9_mean_39 : decode cX9_mean 39 = .ok (.ifCond .ne 8, 3) := by decide +kernel
theorem dX9_mean_42 : decode cX9_mean 42 = .ok (.ldc 71, 2) := by decide +kernel
theorem dX9_mean_44 : decode cX9_mean 44 = .ok (.goto 7, 3) := by decide +kernel
theorem dX9_mean_47 : decode cX9_mean 47 = .ok (.fload_n 1, 1) := by decide +kernel
theorem dX9_mean_48 : decode cX9_mean 48 = .ok (.invokestatic 133, 3) := by decide +kernel
theorem dX9_mean_51 : decode cX9_mean 51 = .ok (.ireturn, 1) := by decide +kernel
theorem dX9_count_0 : decode cX9_count 0 = .ok (.iload_n 1, 1) := by decide +kernel
theorem dX9_count_1 : decode cX9_count 1 = .ok (.tableswitch 147 0 12 #[67, 67, 67, 67, 67, 74, 79, 90, 111, 121, 129, 137, 142], 67) := by decide +kernel
theorem dX9_count_68 : decode cX9_count 68 = .ok (.aload_n 0, 1) := by decide +kernel
theorem dX9_count_69 : decode cX9_count 69 = .ok (.getfield 7, 3) := by decide +kernel
theorem dX9_count_72 : decode cX9_count 72 = .ok (.iload_n 1, 1) := by decide +kernel
theorem dX9_count_73 : decode cX9_count 73 = .ok (.iaload, 1) := by decide +kernel
theorem dX9_count_74 : decode cX9_count 74 = .ok (.ireturn, 1) := by decide +kernel
theorem dX9_count_75 : decode cX9_count 75 = .ok (.aload_n 0, 1) := by decide +kernel
theorem dX9_count_76 : decode cX9_count 76 = .ok (.invokevirtual 88, 3) := by decide +kernel
theorem dX9_count_79 : decode cX9_count 79 = .ok (.ireturn, 1) := by decide +kernel
theorem dX9_count_80 : decode cX9_count 80 = .ok (.aload_n 0, 1) := by decide +kernel
theorem dX9_count_81 : decode cX9_count 81 = .ok (.getfield 7, 3) := by decide +kernel
theorem dX9_count_84 : decode cX9_count 84 = .ok (.iconst 4, 1) := by decide +kernel
theorem dX9_count_85 : decode cX9_count 85 = .ok (.iaload, 1) := by decide +kernel
theorem dX9_count_86 : decode cX9_count 86 = .ok (.sipush 300, 3) := by decide +kernel
theorem dX9_count_89 : decode cX9_count 89 = .ok (.irem, 1) := by decide +kernel
theorem dX9_count_90 : decode cX9_count 90 = .ok (.ireturn, 1) := by decide +kernel
theorem dX9_count_91 : decode cX9_count 91 = .ok (.aload_n 0, 1) := by decide +kernel
theorem dX9_count_92 : decode cX9_count 92 = .ok (.getfield 7, 3) := by decide +kernel
theorem dX9_count_95 : decode cX9_count 95 = .ok (.iconst 5, 1) := by decide +kernel
theorem dX9_count_96 : decode cX9_count 96 = .ok (.iaload, 1) := by decide +kernel
theorem dX9_count_97 : decode cX9_count 97 = .ok (.ifCond .ge 8, 3) := by decide +kernel
theorem dX9_count_100 : decode cX9_count 100 = .ok (.ldc 71, 2) := by decide +kernel
theorem dX9_count_102 : decode cX9_count 102 = .ok (.goto 9, 3) := by decide +kernel
theorem dX9_count_105 : decode cX9_count 105 = .ok (.aload_n 0, 1) := by decide +kernel
theorem dX9_count_106 : decode cX9_count 106 = .ok (.getfield 7, 3) := by decide +kernel
theorem dX9_count_109 : decode cX9_count 109 = .ok (.iconst 5, 1) := by decide +kernel
theorem dX9_count_110 : decode cX9_count 110 = .ok (.iaload, 1) := by decide +kernel
theorem dX9_count_111 : decode cX9_count 111 = .ok (.ireturn, 1) := by decide +kernel
theorem dX9_count_112 : decode cX9_count 112 = .ok (.iconst 3, 1) := by decide +kernel
theorem dX9_count_113 : decode cX9_count 113 = .ok (.aload_n 0, 1) := by decide +kernel
theorem dX9_count_114 : decode cX9_count 114 = .ok (.getfield 7, 3) := by decide +kernel
theorem dX9_count_117 : decode cX9_count 117 = .ok (.bipush 6, 2) := by decide +kernel
theorem dX9_count_119 : decode cX9_count 119 = .ok (.iaload, 1) := by decide +kernel
theorem dX9_count_120 : decode cX9_count 120 = .ok (.isub, 1) := by decide +kernel
theorem dX9_count_121 : decode cX9_count 121 = .ok (.ireturn, 1) := by decide +kernel
theorem dX9_count_122 : decode cX9_count 122 = .ok (.aload_n 0, 1) := by decide +kernel
theorem dX9_count_123 : decode cX9_count 123 = .ok (.getfield 7, 3) := by decide +kernel
theorem dX9_count_126 : decode cX9_count 126 = .ok (.bipush 7, 2) := by decide +kernel
theorem dX9_count_128 : decode cX9_count 128 = .ok (.iaload, 1) := by decide +kernel
theorem dX9_count_129 : decode cX9_count 129 = .ok (.ireturn, 1) := by decide +kernel
theorem dX9_count_130 : decode cX9_count 130 = .ok (.aload_n 0, 1) := by decide +kernel
theorem dX9_count_131 : decode cX9_count 131 = .ok (.getfield 7, 3) := by decide +kernel
theorem dX9_count_134 : decode cX9_count 134 = .ok (.bipush 8, 2) := by decide +kernel
theorem dX9_count_136 : decode cX9_count 136 = .ok (.iaload, 1) := by decide +kernel
theorem dX9_count_137 : decode cX9_count 137 = .ok (.ireturn, 1) := by decide +kernel
theorem dX9_count_138 : decode cX9_count 138 = .ok (.aload_n 0, 1) := by decide +kernel
theorem dX9_count_139 : decode cX9_count 139 = .ok (.getfield 32, 3) := by decide +kernel
theorem dX9_count_142 : decode cX9_count 142 = .ok (.ireturn, 1) := by decide +kernel
theorem dX9_count_143 : decode cX9_count 143 = .ok (.aload_n 0, 1) := by decide +kernel
theorem dX9_count_144 : decode cX9_count 144 = .ok (.getfield 139, 3) := by decide +kernel
theorem dX9_count_147 : decode cX9_count 147 = .ok (.ireturn, 1) := by decide +kernel
theorem dX9_count_148 : decode cX9_count 148 = .ok (.iload_n 1, 1) := by decide +kernel
theorem dX9_count_149 : decode cX9_count 149 = .ok (.bipush 20, 2) := by decide +kernel
theorem dX9_count_151 : decode cX9_count 151 = .ok (.bipush 21, 2) := by decide +kernel
theorem dX9_count_153 : decode cX9_count 153 = .ok (.invokestatic 47, 3) := by decide +kernel
theorem dX9_count_156 : decode cX9_count 156 = .ok (.ifCond .eq 18, 3) := by decide +kernel
theorem dX9_count_159 : decode cX9_count 159 = .ok (.aload_n 0, 1) := by decide +kernel
theorem dX9_count_160 : decode cX9_count 160 = .ok (.getfield 7, 3) := by decide +kernel
theorem dX9_count_163 : decode cX9_count 163 = .ok (.bipush 9, 2) := by decide +kernel
theorem dX9_count_165 : decode cX9_count 165 = .ok (.iload_n 1, 1) := by decide +kernel
theorem dX9_count_166 : decode cX9_count 166 = .ok (.iadd, 1) := by decide +kernel
theorem dX9_count_167 : decode cX9_count 167 = .ok (.bipush 20, 2) := by decide +kernel
theorem dX9_count_169 : decode cX9_count 169 = .ok (.isub, 1) := by decide +kernel
theorem dX9_count_170 : decode cX9_count 170 = .ok (.iaload, 1) := by decide +kernel
theorem dX9_count_171 : decode cX9_count 171 = .ok (.goto 5, 3) := by decide +kernel
theorem dX9_count_174 : decode cX9_count 174 = .ok (.ldc 51, 2) := by decide +kernel
theorem dX9_count_176 : decode cX9_count 176 = .ok (.ireturn, 1) := by decide +kernel
theorem dX9_undo_0 : decode cX9_undo 0 = .ok (.aload_n 0, 1) := by decide +kernel
theorem dX9_undo_1 : decode cX9_undo 1 = .ok (.getfield 32, 3) := by decide +kernel
theorem dX9_undo_4 : decode cX9_undo 4 = .ok (.ifCond .ne 6, 3) := by decide +kernel
theorem dX9_undo_7 : decode cX9_undo 7 = .ok (.ldc 52, 2) := by decide +kernel
theorem dX9_undo_9 : decode cX9_undo 9 = .ok (.ireturn, 1) := by decide +kernel
theorem dX9_undo_10 : decode cX9_undo 10 = .ok (.aload_n 0, 1) := by decide +kernel
theorem dX9_undo_11 : decode cX9_undo 11 = .ok (.dup, 1) := by decide +kernel
theorem dX9_undo_12 : decode cX9_undo 12 = .ok (.getfield 32, 3) := by decide +kernel
theorem dX9_undo_15 : decode cX9_undo 15 = .ok (.iconst 1, 1) := by decide +kernel
theorem dX9_undo_16 : decode cX9_undo 16 = .ok (.isub, 1) := by decide +kernel
theorem dX9_undo_17 : decode cX9_undo 17 = .ok (.putfield 32, 3) := by decide +kernel
theorem dX9_undo_20 : decode cX9_undo 20 = .ok (.iconst 0, 1) := by decide +kernel
theorem dX9_undo_21 : decode cX9_undo 21 = .ok (.istore_n 1, 1) := by decide +kernel
theorem dX9_undo_22 : decode cX9_undo 22 = .ok (.iload_n 1, 1) := by decide +kernel
theorem dX9_undo_23 : decode cX9_undo 23 = .ok (.sipush 183, 3) := by decide +kernel
theorem dX9_undo_26 : decode cX9_undo 26 = .ok (.if_icmp .ge 30, 3) := by decide +kernel
theorem dX9_undo_29 : decode cX9_undo 29 = .ok (.aload_n 0, 1) := by decide +kernel
theorem dX9_undo_30 : decode cX9_undo 30 = .ok (.getfield 7, 3) := by decide +kernel
theorem dX9_undo_33 : decode cX9_undo 33 = .ok (.iload_n 1, 1) := by decide +kernel
theorem dX9_undo_34 : decode cX9_undo 34 = .ok (.aload_n 0, 1) := by decide +kernel
theorem dX9_undo_35 : decode cX9_undo 35 = .ok (.getfield 13, 3) := by decide +kernel
theorem dX9_undo_38 : decode cX9_undo 38 = .ok (.sipush 183, 3) := by decide +kernel
theorem dX9_undo_41 : decode cX9_undo 41 = .ok (.aload_n 0, 1) := by decide +kernel
theorem dX9_undo_42 : decode cX9_undo 42 = .ok (.getfield 32, 3) := by decide +kernel
theorem dX9_undo_45 : decode cX9_undo 45 = .ok (.imul, 1) := by decide +kernel
theorem dX9_undo_46 : decode cX9_undo 46 = .ok (.iload_n 1, 1) := by decide +kernel
theorem dX9_undo_47 : decode cX9_undo 47 = .ok (.iadd, 1) := by decide +kernel
theorem dX9_undo_48 : decode cX9_undo 48 = .ok (.iaload, 1) := by decide +kernel
theorem dX9_undo_49 : decode cX9_undo 49 = .ok (.iastore, 1) := by decide +kernel
theorem dX9_undo_50 : decode cX9_undo 50 = .ok (.iinc 1 1, 3) := by decide +kernel
theorem dX9_undo_53 : decode cX9_undo 53 = .ok (.goto (-31), 3) := by decide +kernel
theorem dX9_undo_56 : decode cX9_undo 56 = .ok (.aload_n 0, 1) := by decide +kernel
theorem dX9_undo_57 : decode cX9_undo 57 = .ok (.getfield 32, 3) := by decide +kernel
theorem dX9_undo_60 : decode cX9_undo 60 = .ok (.ireturn, 1) := by decide +kernel
theorem dX9_type_0 : decode cX9_type 0 = .ok (.iload_n 1, 1) := by decide +kernel
theorem dX9_type_1 : decode cX9_type 1 = .ok (.bipush 32, 2) := by decide +kernel
theorem dX9_type_3 : decode cX9_type 3 = .ok (.bipush 126, 2) := by decide +kernel
theorem dX9_type_5 : decode cX9_type 5 = .ok (.invokestatic 47, 3) := by decide +kernel
theorem dX9_type_8 : decode cX9_type 8 = .ok (.ifCond .ne 6, 3) := by decide +kernel
theorem dX9_type_11 : decode cX9_type 11 = .ok (.ldc 51, 2) := by decide +kernel
theorem dX9_type_13 : decode cX9_type 13 = .ok (.ireturn, 1) := by decide +kernel
theorem dX9_type_14 : decode cX9_type 14 = .ok (.aload_n 0, 1) := by decide +kernel
theorem dX9_type_15 : decode cX9_type 15 = .ok (.getfield 139, 3) := by decide +kernel
theorem dX9_type_18 : decode cX9_type 18 = .ok (.bipush 60, 2) := by decide +kernel
theorem dX9_type_20 : decode cX9_type 20 = .ok (.if_icmp .ne 6, 3) := by decide +kernel
theorem dX9_type_23 : decode cX9_type 23 = .ok (.ldc 53, 2) := by decide +kernel
theorem dX9_type_25 : decode cX9_type 25 = .ok (.ireturn, 1) := by decide +kernel
theorem dX9_type_26 : decode cX9_type 26 = .ok (.aload_n 0, 1) := by decide +kernel
theorem dX9_type_27 : decode cX9_type 27 = .ok (.getfield 22, 3) := by decide +kernel
theorem dX9_type_30 : decode cX9_type 30 = .ok (.aload_n 0, 1) := by decide +kernel
theorem dX9_type_31 : decode cX9_type 31 = .ok (.getfield 139, 3) := by decide +kernel
theorem dX9_type_34 : decode cX9_type 34 = .ok (.iload_n 1, 1) := by decide +kernel
theorem dX9_type_35 : decode cX9_type 35 = .ok (.iastore, 1) := by decide +kernel
theorem dX9_type_36 : decode cX9_type 36 = .ok (.aload_n 0, 1) := by decide +kernel
theorem dX9_type_37 : decode cX9_type 37 = .ok (.dup, 1) := by decide +kernel
theorem dX9_type_38 : decode cX9_type 38 = .ok (.getfield 139, 3) := by decide +kernel
theorem dX9_type_41 : decode cX9_type 41 = .ok (.iconst 1, 1) := by decide +kernel
theorem dX9_type_42 : decode cX9_type 42 = .ok (.iadd, 1) := by decide +kernel
theorem dX9_type_43 : decode cX9_type 43 = .ok (.putfield 139, 3) := by decide +kernel
theorem dX9_type_46 : decode cX9_type 46 = .ok (.aload_n 0, 1) := by decide +kernel
theorem dX9_type_47 : decode cX9_type 47 = .ok (.getfield 139, 3) := by decide +kernel
theorem dX9_type_50 : decode cX9_type 50 = .ok (.ireturn, 1) := by decide +kernel
theorem dX9_clearText_0 : decode cX9_clearText 0 = .ok (.aload_n 0, 1) := by decide +kernel
theorem dX9_clearText_1 : decode cX9_clearText 1 = .ok (.getfield 139, 3) := by decide +kernel
theorem dX9_clearText_4 : decode cX9_clearText 4 = .ok (.istore_n 1, 1) := by decide +kernel
theorem dX9_clearText_5 : decode cX9_clearText 5 = .ok (.aload_n 0, 1) := by decide +kernel
theorem dX9_clearText_6 : decode cX9_clearText 6 = .ok (.iconst 0, 1) := by decide +kernel
theorem dX9_clearText_7 : decode cX9_clearText 7 = .ok (.putfield 139, 3) := by decide +kernel
theorem dX9_clearText_10 : decode cX9_clearText 10 = .ok (.iload_n 1, 1) := by decide +kernel
theorem dX9_clearText_11 : decode cX9_clearText 11 = .ok (.ireturn, 1) := by decide +kernel
theorem dX9_isAt_0 : decode cX9_isAt 0 = .ok (.aload_n 0, 1) := by decide +kernel
theorem dX9_isAt_1 : decode cX9_isAt 1 = .ok (.getfield 142, 3) := by decide +kernel
theorem dX9_isAt_4 : decode cX9_isAt 4 = .ok (.aload_n 0, 1) := by decide +kernel
theorem dX9_isAt_5 : decode cX9_isAt 5 = .ok (.getfield 139, 3) := by decide +kernel
theorem dX9_isAt_8 : decode cX9_isAt 8 = .ok (.if_icmp .ge 24, 3) := by decide +kernel
theorem dX9_isAt_11 : decode cX9_isAt 11 = .ok (.aload_n 0, 1) := by decide +kernel
theorem dX9_isAt_12 : decode cX9_isAt 12 = .ok (.getfield 22, 3) := by decide +kernel
theorem dX9_isAt_15 : decode cX9_isAt 15 = .ok (.aload_n 0, 1) := by decide +kernel
theorem dX9_isAt_16 : decode cX9_isAt 16 = .ok (.getfield 142, 3) := by decide +kernel
theorem dX9_isAt_19 : decode cX9_isAt 19 = .ok (.iaload, 1) := by decide +kernel
theorem dX9_isAt_20 : decode cX9_isAt 20 = .ok (.iload_n 1, 1) := by decide +kernel
theorem dX9_isAt_21 : decode cX9_isAt 21 = .ok (.iload_n 2, 1) := by decide +kernel
theorem dX9_isAt_22 : decode cX9_isAt 22 = .ok (.invokestatic 47, 3) := by decide +kernel
theorem dX9_isAt_25 : decode cX9_isAt 25 = .ok (.ifCond .eq 7, 3) := by decide +kernel
theorem dX9_isAt_28 : decode cX9_isAt 28 = .ok (.iconst 1, 1) := by decide +kernel
theorem dX9_isAt_29 : decode cX9_isAt 29 = .ok (.goto 4, 3) := by decide +kernel
theorem dX9_isAt_32 : decode cX9_isAt 32 = .ok (.iconst 0, 1) := by decide +kernel
theorem dX9_isAt_33 : decode cX9_isAt 33 = .ok (.ireturn, 1) := by decide +kernel
theorem dX9_sign_0 : decode cX9_sign 0 = .ok (.aload_n 0, 1) := by decide +kernel
theorem dX9_sign_1 : decode cX9_sign 1 = .ok (.iload_n 1, 1) := by decide +kernel
theorem dX9_sign_2 : decode cX9_sign 2 = .ok (.iload_n 1, 1) := by decide +kernel
theorem dX9_sign_3 : decode cX9_sign 3 = .ok (.invokevirtual 145, 3) := by decide +kernel
theorem dX9_sign_6 : decode cX9_sign 6 = .ok (.istore_n 2, 1) := by decide +kernel
theorem dX9_sign_7 : decode cX9_sign 7 = .ok (.aload_n 0, 1) := by decide +kernel
theorem dX9_sign_8 : decode cX9_sign 8 = .ok (.dup, 1) := by decide +kernel
theorem dX9_sign_9 : decode cX9_sign 9 = .ok (.getfield 142, 3) := by decide +kernel
theorem dX9_sign_12 : decode cX9_sign 12 = .ok (.iload_n 2, 1) := by decide +kernel
theorem dX9_sign_13 : decode cX9_sign 13 = .ok (.ifCond .eq 7, 3) := by decide +kernel
theorem dX9_sign_16 : decode cX9_sign 16 = .ok (.iconst 1, 1) := by decide +kernel
theorem dX9_sign_17 : decode cX9_sign 17 = .ok (.goto 4, 3) := by decide +kernel
theorem dX9_sign_20 : decode cX9_sign 20 = .ok (.iconst 0, 1) := by decide +kernel
theorem dX9_sign_21 : decode cX9_sign 21 = .ok (.iadd, 1) := by decide +kernel
theorem dX9_sign_22 : decode cX9_sign 22 = .ok (.putfield 142, 3) := by decide +kernel
theorem dX9_sign_25 : decode cX9_sign 25 = .ok (.iload_n 2, 1) := by decide +kernel
theorem dX9_sign_26 : decode cX9_sign 26 = .ok (.ireturn, 1) := by decide +kernel
theorem dX9_numbered_0 : decode cX9_numbered 0 = .ok (.aload_n 0, 1) := by decide +kernel
theorem dX9_numbered_1 : decode cX9_numbered 1 = .ok (.getfield 142, 3) := by decide +kernel
theorem dX9_numbered_4 : decode cX9_numbered 4 = .ok (.istore_n 2, 1) := by decide +kernel
theorem dX9_numbered_5 : decode cX9_numbered 5 = .ok (.aload_n 0, 1) := by decide +kernel
theorem dX9_numbered_6 : decode cX9_numbered 6 = .ok (.getfield 25, 3) := by decide +kernel
theorem dX9_numbered_9 : decode cX9_numbered 9 = .ok (.iload_n 1, 1) := by decide +kernel
theorem dX9_numbered_10 : decode cX9_numbered 10 = .ok (.iconst 0, 1) := by decide +kernel
theorem dX9_numbered_11 : decode cX9_numbered 11 = .ok (.iastore, 1) := by decide +kernel
theorem dX9_numbered_12 : decode cX9_numbered 12 = .ok (.aload_n 0, 1) := by decide +kernel
theorem dX9_numbered_13 : decode cX9_numbered 13 = .ok (.bipush 48, 2) := by decide +kernel
theorem dX9_numbered_15 : decode cX9_numbered 15 = .ok (.bipush 57, 2) := by decide +kernel
theorem dX9_numbered_17 : decode cX9_numbered 17 = .ok (.invokevirtual 145, 3) := by decide +kernel
theorem dX9_numbered_20 : decode cX9_numbered 20 = .ok (.ifCond .eq 54, 3) := by decide +kernel
theorem dX9_numbered_23 : decode cX9_numbered 23 = .ok (.aload_n 0, 1) := by decide +kernel
theorem dX9_numbered_24 : decode cX9_numbered 24 = .ok (.getfield 142, 3) := by decide +kernel
theorem dX9_numbered_27 : decode cX9_numbered 27 = .ok (.iload_n 2, 1) := by decide +kernel
theorem dX9_numbered_28 : decode cX9_numbered 28 = .ok (.isub, 1) := by decide +kernel
theorem dX9_numbered_29 : decode cX9_numbered 29 = .ok (.iconst 3, 1) := by decide +kernel
theorem dX9_numbered_30 : decode cX9_numbered 30 = .ok (.if_icmp .ge 44, 3) := by decide +kernel
theorem dX9_numbered_33 : decode cX9_numbered 33 = .ok (.aload_n 0, 1) := by decide +kernel
theorem dX9_numbered_34 : decode cX9_numbered 34 = .ok (.getfield 25, 3) := by decide +kernel
theorem dX9_numbered_37 : decode cX9_numbered 37 = .ok (.iload_n 1, 1) := by decide +kernel
theorem dX9_numbered_38 : decode cX9_numbered 38 = .ok (.bipush 10, 2) := by decide +kernel
theorem dX9_numbered_40 : decode cX9_numbered 40 = .ok (.aload_n 0, 1) := by decide +kernel
theorem dX9_numbered_41 : decode cX9_numbered 41 = .ok (.getfield 25, 3) := by decide +kernel
theorem dX9_numbered_44 : decode cX9_numbered 44 = .ok (.iload_n 1, 1) := by decide +kernel
theorem dX9_numbered_45 : decode cX9_numbered 45 = .ok (.iaload, 1) := by decide +kernel
theorem dX9_numbered_46 : decode cX9_numbered 46 = .ok (.imul, 1) := by decide +kernel
theorem dX9_numbered_47 : decode cX9_numbered 47 = .ok (.aload_n 0, 1) := by decide +kernel
theorem dX9_numbered_48 : decode cX9_numbered 48 = .ok (.getfield 22, 3) := by decide +kernel
theorem dX9_numbered_51 : decode cX9_numbered 51 = .ok (.aload_n 0, 1) := by decide +kernel
theorem dX9_numbered_52 : decode cX9_numbered 52 = .ok (.getfield 142, 3) := by decide +kernel
theorem dX9_numbered_55 : decode cX9_numbered 55 = .ok (.iaload, 1) := by decide +kernel
theorem dX9_numbered_56 : decode cX9_numbered 56 = .ok (.iadd, 1) := by decide +kernel
theorem dX9_numbered_57 : decode cX9_numbered 57 = .ok (.bipush 48, 2) := by decide +kernel
theorem dX9_numbered_59 : decode cX9_numbered 59 = .ok (.isub, 1) := by decide +kernel
theorem dX9_numbered_60 : decode cX9_numbered 60 = .ok (.iastore, 1) := by decide +kernel
theorem dX9_numbered_61 : decode cX9_numbered 61 = .ok (.aload_n 0, 1) := by decide +kernel
theorem dX9_numbered_62 : decode cX9_numbered 62 = .ok (.dup, 1) := by decide +kernel
theorem dX9_numbered_63 : decode cX9_numbered 63 = .ok (.getfield 142, 3) := by decide +kernel
theorem dX9_numbered_66 : decode cX9_numbered 66 = .ok (.iconst 1, 1) := by decide +kernel
theorem dX9_numbered_67 : decode cX9_numbered 67 = .ok (.iadd, 1) := by decide +kernel
theorem dX9_numbered_68 : decode cX9_numbered 68 = .ok (.putfield 142, 3) := by decide +kernel
theorem dX9_numbered_71 : decode cX9_numbered 71 = .ok (.goto (-59), 3) := by decide +kernel
theorem dX9_numbered_74 : decode cX9_numbered 74 = .ok (.aload_n 0, 1) := by decide +kernel
theorem dX9_numbered_75 : decode cX9_numbered 75 = .ok (.getfield 142, 3) := by decide +kernel
theorem dX9_numbered_78 : decode cX9_numbered 78 = .ok (.iload_n 2, 1) := by decide +kernel
theorem dX9_numbered_79 : decode cX9_numbered 79 = .ok (.if_icmp .le 7, 3) := by decide +kernel
theorem dX9_numbered_82 : decode cX9_numbered 82 = .ok (.iconst 1, 1) := by decide +kernel
theorem dX9_numbered_83 : decode cX9_numbered 83 = .ok (.goto 4, 3) := by decide +kernel
theorem dX9_numbered_86 : decode cX9_numbered 86 = .ok (.iconst 0, 1) := by decide +kernel
theorem dX9_numbered_87 : decode cX9_numbered 87 = .ok (.ireturn, 1) := by decide +kernel
theorem dX9_numbersOf_0 : decode cX9_numbersOf 0 = .ok (.iload_n 0, 1) := by decide +kernel
theorem dX9_numbersOf_1 : decode cX9_numbersOf 1 = .ok (.bipush 100, 2) := by decide +kernel
theorem dX9_numbersOf_3 : decode cX9_numbersOf 3 = .ok (.if_icmp .eq 9, 3) := by decide +kernel
theorem dX9_numbersOf_6 : decode cX9_numbersOf 6 = .ok (.iload_n 0, 1) := by decide +kernel
theorem dX9_numbersOf_7 : decode cX9_numbersOf 7 = .ok (.bipush 115, 2) := by decide +kernel
theorem dX9_numbersOf_9 : decode cX9_numbersOf 9 = .ok (.if_icmp .ne 7, 3) := by decide +kernel
theorem dX9_numbersOf_12 : decode cX9_numbersOf 12 = .ok (.iconst 2, 1) := by decide +kernel
theorem dX9_numbersOf_13 : decode cX9_numbersOf 13 = .ok (.goto 32, 3) := by decide +kernel
theorem dX9_numbersOf_16 : decode cX9_numbersOf 16 = .ok (.iload_n 0, 1) := by decide +kernel
theorem dX9_numbersOf_17 : decode cX9_numbersOf 17 = .ok (.bipush 108, 2) := by decide +kernel
theorem dX9_numbersOf_19 : decode cX9_numbersOf 19 = .ok (.if_icmp .eq 21, 3) := by decide +kernel
theorem dX9_numbersOf_22 : decode cX9_numbersOf 22 = .ok (.iload_n 0, 1) := by decide +kernel
theorem dX9_numbersOf_23 : decode cX9_numbersOf 23 = .ok (.bipush 98, 2) := by decide +kernel
theorem dX9_numbersOf_25 : decode cX9_numbersOf 25 = .ok (.if_icmp .eq 15, 3) := by decide +kernel
theorem dX9_numbersOf_28 : decode cX9_numbersOf 28 = .ok (.iload_n 0, 1) := by decide +kernel
theorem dX9_numbersOf_29 : decode cX9_numbersOf 29 = .ok (.bipush 118, 2) := by decide +kernel
theorem dX9_numbersOf_31 : decode cX9_numbersOf 31 = .ok (.if_icmp .eq 9, 3) := by decide +kernel
theorem dX9_numbersOf_34 : decode cX9_numbersOf 34 = .ok (.iload_n 0, 1) := by decide +kernel
theorem dX9_numbersOf_35 : decode cX9_numbersOf 35 = .ok (.bipush 109, 2) := by decide +kernel
theorem dX9_numbersOf_37 : decode cX9_numbersOf 37 = .ok (.if_icmp .ne 7, 3) := by decide +kernel
theorem dX9_numbersOf_40 : decode cX9_numbersOf 40 = .ok (.iconst 1, 1) := by decide +kernel
theorem dX9_numbersOf_41 : decode cX9_numbersOf 41 = .ok (.goto 4, 3) := by decide +kernel
theorem dX9_numbersOf_44 : decode cX9_numbersOf 44 = .ok (.iconst 0, 1) := by decide +kernel
theorem dX9_numbersOf_45 : decode cX9_numbersOf 45 = .ok (.ireturn, 1) := by decide +kernel
theorem dX9_reads_0 : decode cX9_reads 0 = .ok (.aload_n 0, 1) := by decide +kernel
theorem dX9_reads_1 : decode cX9_reads 1 = .ok (.aload_n 0, 1) := by decide +kernel
theorem dX9_reads_2 : decode cX9_reads 2 = .ok (.bipush 33, 2) := by decide +kernel
theorem dX9_reads_4 : decode cX9_reads 4 = .ok (.bipush 126, 2) := by decide +kernel
theorem dX9_reads_6 : decode cX9_reads 6 = .ok (.invokevirtual 145, 3) := by decide +kernel
theorem dX9_reads_9 : decode cX9_reads 9 = .ok (.ifCond .eq 15, 3) := by decide +kernel
theorem dX9_reads_12 : decode cX9_reads 12 = .ok (.aload_n 0, 1) := by decide +kernel
theorem dX9_reads_13 : decode cX9_reads 13 = .ok (.getfield 22, 3) := by decide +kernel
theorem dX9_reads_16 : decode cX9_reads 16 = .ok (.aload_n 0, 1) := by decide +kernel
theorem dX9_reads_17 : decode cX9_reads 17 = .ok (.getfield 142, 3) := by decide +kernel
theorem dX9_reads_20 : decode cX9_reads 20 = .ok (.iaload, 1) := by decide +kernel
theorem dX9_reads_21 : decode cX9_reads 21 = .ok (.goto 4, 3) := by decide +kernel
theorem dX9_reads_24 : decode cX9_reads 24 = .ok (.iconst 0, 1) := by decide +kernel
theorem dX9_reads_25 : decode cX9_reads 25 = .ok (.putfield 148, 3) := by decide +kernel
theorem dX9_reads_28 : decode cX9_reads 28 = .ok (.aload_n 0, 1) := by decide +kernel
theorem dX9_reads_29 : decode cX9_reads 29 = .ok (.getfield 148, 3) := by decide +kernel
theorem dX9_reads_32 : decode cX9_reads 32 = .ok (.invokestatic 151, 3) := by decide +kernel
theorem dX9_reads_35 : decode cX9_reads 35 = .ok (.istore_n 1, 1) := by decide +kernel
theorem dX9_reads_36 : decode cX9_reads 36 = .ok (.iload_n 1, 1) := by decide +kernel
theorem dX9_reads_37 : decode cX9_reads 37 = .ok (.ifCond .ne 5, 3) := by decide +kernel
theorem dX9_reads_40 : decode cX9_reads 40 = .ok (.iconst 0, 1) := by decide +kernel
theorem dX9_reads_41 : decode cX9_reads 41 = .ok (.ireturn, 1) := by decide +kernel
theorem dX9_reads_42 : decode cX9_reads 42 = .ok (.aload_n 0, 1) := by decide +kernel
theorem dX9_reads_43 : decode cX9_reads 43 = .ok (.dup, 1) := by decide +kernel
theorem dX9_reads_44 : decode cX9_reads 44 = .ok (.getfield 142, 3) := by decide +kernel
theorem dX9_reads_47 : decode cX9_reads 47 = .ok (.iconst 1, 1) := by decide +kernel
theorem dX9_reads_48 : decode cX9_reads 48 = .ok (.iadd, 1) := by decide +kernel
theorem dX9_reads_49 : decode cX9_reads 49 = .ok (.putfield 142, 3) := by decide +kernel
theorem dX9_reads_52 : decode cX9_reads 52 = .ok (.aload_n 0, 1) := by decide +kernel
theorem dX9_reads_53 : decode cX9_reads 53 = .ok (.iconst 0, 1) := by decide +kernel
theorem dX9_reads_54 : decode cX9_reads 54 = .ok (.invokevirtual 154, 3) := by decide +kernel
theorem dX9_reads_57 : decode cX9_reads 57 = .ok (.istore_n 2, 1) := by decide +kernel
theorem dX9_reads_58 : decode cX9_reads 58 = .ok (.iload_n 2, 1) := by decide +kernel
theorem dX9_reads_59 : decode cX9_reads 59 = .ok (.ifCond .eq 31, 3) := by decide +kernel
theorem dX9_reads_62 : decode cX9_reads 62 = .ok (.iload_n 1, 1) := by decide +kernel
theorem dX9_reads_63 : decode cX9_reads 63 = .ok (.iconst 2, 1) := by decide +kernel
theorem dX9_reads_64 : decode cX9_reads 64 = .ok (.if_icmp .ne 26, 3) := by decide +kernel
theorem dX9_reads_67 : decode cX9_reads 67 = .ok (.aload_n 0, 1) := by decide +kernel
theorem dX9_reads_68 : decode cX9_reads 68 = .ok (.bipush 44, 2) := by decide +kernel
theorem dX9_reads_70 : decode cX9_reads 70 = .ok (.invokevirtual 157, 3) := by decide +kernel
theorem dX9_reads_73 : decode cX9_reads 73 = .ok (.ifCond .eq 15, 3) := by decide +kernel
theorem dX9_reads_76 : decode cX9_reads 76 = .ok (.aload_n 0, 1) := by decide +kernel
theorem dX9_reads_77 : decode cX9_reads 77 = .ok (.iconst 1, 1) := by decide +kernel
theorem dX9_reads_78 : decode cX9_reads 78 = .ok (.invokevirtual 154, 3) := by decide +kernel
theorem dX9_reads_81 : decode cX9_reads 81 = .ok (.ifCond .eq 7, 3) := by decide +kernel
theorem dX9_reads_84 : decode cX9_reads 84 = .ok (.iconst 1, 1) := by decide +kernel
theorem dX9_reads_85 : decode cX9_reads 85 = .ok (.goto 4, 3) := by decide +kernel
theorem dX9_reads_88 : decode cX9_reads 88 = .ok (.iconst 0, 1) := by decide +kernel
theorem dX9_reads_89 : decode cX9_reads 89 = .ok (.istore_n 2, 1) := by decide +kernel
theorem dX9_reads_90 : decode cX9_reads 90 = .ok (.iload_n 2, 1) := by decide +kernel
theorem dX9_reads_91 : decode cX9_reads 91 = .ok (.ifCond .eq 16, 3) := by decide +kernel
theorem dX9_reads_94 : decode cX9_reads 94 = .ok (.aload_n 0, 1) := by decide +kernel
theorem dX9_reads_95 : decode cX9_reads 95 = .ok (.bipush 59, 2) := by decide +kernel
theorem dX9_reads_97 : decode cX9_reads 97 = .ok (.invokevirtual 157, 3) := by decide +kernel
theorem dX9_reads_100 : decode cX9_reads 100 = .ok (.ifCond .eq 7, 3) := by decide +kernel
theorem dX9_reads_103 : decode cX9_reads 103 = .ok (.iconst 1, 1) := by decide +kernel
theorem dX9_reads_104 : decode cX9_reads 104 = .ok (.goto 4, 3) := by decide +kernel
theorem dX9_reads_107 : decode cX9_reads 107 = .ok (.iconst 0, 1) := by decide +kernel
theorem dX9_reads_108 : decode cX9_reads 108 = .ok (.ireturn, 1) := by decide +kernel
theorem dX9_calls_0 : decode cX9_calls 0 = .ok (.aload_n 0, 1) := by decide +kernel
theorem dX9_calls_1 : decode cX9_calls 1 = .ok (.getfield 148, 3) := by decide +kernel
theorem dX9_calls_4 : decode cX9_calls 4 = .ok (.lookupswitch 119 #[(98, 63), (100, 74), (108, 52), (115, 102), (118, 91)], 52) := by decide +kernel
theorem dX9_calls_56 : decode cX9_calls 56 = .ok (.aload_n 0, 1) := by decide +kernel
theorem dX9_calls_57 : decode cX9_calls 57 = .ok (.aload_n 0, 1) := by decide +kernel
theorem dX9_calls_58 : decode cX9_calls 58 = .ok (.getfield 25, 3) := by decide +kernel
theorem dX9_calls_61 : decode cX9_calls 61 = .ok (.iconst 0, 1) := by decide +kernel
theorem dX9_calls_62 : decode cX9_calls 62 = .ok (.iaload, 1) := by decide +kernel
theorem dX9_calls_63 : decode cX9_calls 63 = .ok (.invokevirtual 160, 3) := by decide +kernel
theorem dX9_calls_66 : decode cX9_calls 66 = .ok (.ireturn, 1) := by decide +kernel
theorem dX9_calls_67 : decode cX9_calls 67 = .ok (.aload_n 0, 1) := by decide +kernel
theorem dX9_calls_68 : decode cX9_calls 68 = .ok (.aload_n 0, 1) := by decide +kernel
theorem dX9_calls_69 : decode cX9_calls 69 = .ok (.getfield 25, 3) := by decide +kernel
theorem dX9_calls_72 : decode cX9_calls 72 = .ok (.iconst 0, 1) := by decide +kernel
theorem dX9_calls_73 : decode cX9_calls 73 = .ok (.iaload, 1) := by decide +kernel
theorem dX9_calls_74 : decode cX9_calls 74 = .ok (.invokevirtual 163, 3) := by decide +kernel
theorem dX9_calls_77 : decode cX9_calls 77 = .ok (.ireturn, 1) := by decide +kernel
theorem dX9_calls_78 : decode cX9_calls 78 = .ok (.aload_n 0, 1) := by decide +kernel
theorem dX9_calls_79 : decode cX9_calls 79 = .ok (.aload_n 0, 1) := by decide +kernel
theorem dX9_calls_80 : decode cX9_calls 80 = .ok (.getfield 25, 3) := by decide +kernel
theorem dX9_calls_83 : decode cX9_calls 83 = .ok (.iconst 0, 1) := by decide +kernel
theorem dX9_calls_84 : decode cX9_calls 84 = .ok (.iaload, 1) := by decide +kernel
theorem dX9_calls_85 : decode cX9_calls 85 = .ok (.aload_n 0, 1) := by decide +kernel
theorem dX9_calls_86 : decode cX9_calls 86 = .ok (.getfield 25, 3) := by decide +kernel
theorem dX9_calls_89 : decode cX9_calls 89 = .ok (.iconst 1, 1) := by decide +kernel
theorem dX9_calls_90 : decode cX9_calls 90 = .ok (.iaload, 1) := by decide +kernel
theorem dX9_calls_91 : decode cX9_calls 91 = .ok (.invokevirtual 166, 3) := by decide +kernel
theorem dX9_calls_94 : decode cX9_calls 94 = .ok (.ireturn, 1) := by decide +kernel
theorem dX9_calls_95 : decode cX9_calls 95 = .ok (.aload_n 0, 1) := by decide +kernel
theorem dX9_calls_96 : decode cX9_calls 96 = .ok (.aload_n 0, 1) := by decide +kernel
theorem dX9_calls_97 : decode cX9_calls 97 = .ok (.getfield 25, 3) := by decide +kernel
theorem dX9_calls_100 : decode cX9_calls 100 = .ok (.iconst 0, 1) := by decide +kernel
theorem dX9_calls_101 : decode cX9_calls 101 = .ok (.iaload, 1) := by decide +kernel
theorem dX9_calls_102 : decode cX9_calls 102 = .ok (.invokevirtual 169, 3) := by decide +kernel
theorem dX9_calls_105 : decode cX9_calls 105 = .ok (.ireturn, 1) := by decide +kernel
theorem dX9_calls_106 : decode cX9_calls 106 = .ok (.aload_n 0, 1) := by decide +kernel
theorem dX9_calls_107 : decode cX9_calls 107 = .ok (.aload_n 0, 1) := by decide +kernel
theorem dX9_calls_108 : decode cX9_calls 108 = .ok (.getfield 25, 3) := by decide +kernel
theorem dX9_calls_111 : decode cX9_calls 111 = .ok (.iconst 0, 1) := by decide +kernel
theorem dX9_calls_112 : decode cX9_calls 112 = .ok (.iaload, 1) := by decide +kernel
theorem dX9_calls_113 : decode cX9_calls 113 = .ok (.aload_n 0, 1) := by decide +kernel
theorem dX9_calls_114 : decode cX9_calls 114 = .ok (.getfield 25, 3) := by decide +kernel
theorem dX9_calls_117 : decode cX9_calls 117 = .ok (.iconst 1, 1) := by decide +kernel
theorem dX9_calls_118 : decode cX9_calls 118 = .ok (.iaload, 1) := by decide +kernel
theorem dX9_calls_119 : decode cX9_calls 119 = .ok (.invokevirtual 172, 3) := by decide +kernel
theorem dX9_calls_122 : decode cX9_calls 122 = .ok (.ireturn, 1) := by decide +kernel
theorem dX9_calls_123 : decode cX9_calls 123 = .ok (.aload_n 0, 1) := by decide +kernel
theorem dX9_calls_124 : decode cX9_calls 124 = .ok (.aload_n 0, 1) := by decide +kernel
theorem dX9_calls_125 : decode cX9_calls 125 = .ok (.getfield 25, 3) := by decide +kernel
theorem dX9_calls_128 : decode cX9_calls 128 = .ok (.iconst 0, 1) := by decide +kernel
theorem dX9_calls_129 : decode cX9_calls 129 = .ok (.iaload, 1) := by decide +kernel
theorem dX9_calls_130 : decode cX9_calls 130 = .ok (.invokevirtual 175, 3) := by decide +kernel
theorem dX9_calls_133 : decode cX9_calls 133 = .ok (.ireturn, 1) := by decide +kernel
theorem dX9_plays_0 : decode cX9_plays 0 = .ok (.aload_n 0, 1) := by decide +kernel
theorem dX9_plays_1 : decode cX9_plays 1 = .ok (.iconst 1, 1) := by decide +kernel
theorem dX9_plays_2 : decode cX9_plays 2 = .ok (.putfield 28, 3) := by decide +kernel
theorem dX9_plays_5 : decode cX9_plays 5 = .ok (.aload_n 0, 1) := by decide +kernel
theorem dX9_plays_6 : decode cX9_plays 6 = .ok (.iconst 0, 1) := by decide +kernel
theorem dX9_plays_7 : decode cX9_plays 7 = .ok (.putfield 142, 3) := by decide +kernel
theorem dX9_plays_10 : decode cX9_plays 10 = .ok (.aload_n 0, 1) := by decide +kernel
theorem dX9_plays_11 : decode cX9_plays 11 = .ok (.iconst 0, 1) := by decide +kernel
theorem dX9_plays_12 : decode cX9_plays 12 = .ok (.putfield 178, 3) := by decide +kernel
theorem dX9_plays_15 : decode cX9_plays 15 = .ok (.aload_n 0, 1) := by decide +kernel
theorem dX9_plays_16 : decode cX9_plays 16 = .ok (.iconst 0, 1) := by decide +kernel
theorem dX9_plays_17 : decode cX9_plays 17 = .ok (.putfield 181, 3) := by decide +kernel
theorem dX9_plays_20 : decode cX9_plays 20 = .ok (.iconst 1, 1) := by decide +kernel
theorem dX9_plays_21 : decode cX9_plays 21 = .ok (.istore_n 1, 1) := by decide +kernel
theorem dX9_plays_22 : decode cX9_plays 22 = .ok (.aload_n 0, 1) := by decide +kernel
theorem dX9_plays_23 : decode cX9_plays 23 = .ok (.getfield 142, 3) := by decide +kernel
theorem dX9_plays_26 : decode cX9_plays 26 = .ok (.aload_n 0, 1) := by decide +kernel
theorem dX9_plays_27 : decode cX9_plays 27 = .ok (.getfield 139, 3) := by decide +kernel
theorem dX9_plays_30 : decode cX9_plays 30 = .ok (.if_icmp .ge 94, 3) := by decide +kernel
theorem dX9_plays_33 : decode cX9_plays 33 = .ok (.iload_n 1, 1) := by decide +kernel
theorem dX9_plays_34 : decode cX9_plays 34 = .ok (.ifCond .eq 90, 3) := by decide +kernel
theorem dX9_plays_37 : decode cX9_plays 37 = .ok (.aload_n 0, 1) := by decide +kernel
theorem dX9_plays_38 : decode cX9_plays 38 = .ok (.aload_n 0, 1) := by decide +kernel
theorem dX9_plays_39 : decode cX9_plays 39 = .ok (.getfield 142, 3) := by decide +kernel
theorem dX9_plays_42 : decode cX9_plays 42 = .ok (.putfield 178, 3) := by decide +kernel
theorem dX9_plays_45 : decode cX9_plays 45 = .ok (.aload_n 0, 1) := by decide +kernel
theorem dX9_plays_46 : decode cX9_plays 46 = .ok (.invokevirtual 184, 3) := by decide +kernel
theorem dX9_plays_49 : decode cX9_plays 49 = .ok (.istore_n 2, 1) := by decide +kernel
theorem dX9_plays_50 : decode cX9_plays 50 = .ok (.iload_n 2, 1) := by decide +kernel
theorem dX9_plays_51 : decode cX9_plays 51 = .ok (.ifCond .eq 10, 3) := by decide +kernel
theorem dX9_plays_54 : decode cX9_plays 54 = .ok (.aload_n 0, 1) := by decide +kernel
theorem dX9_plays_55 : decode cX9_plays 55 = .ok (.invokevirtual 188, 3) := by decide +kernel
theorem dX9_plays_58 : decode cX9_plays 58 = .ok (.goto 4, 3) := by decide +kernel
theorem dX9_plays_61 : decode cX9_plays 61 = .ok (.iconst 0, 1) := by decide +kernel
theorem dX9_plays_62 : decode cX9_plays 62 = .ok (.istore_n 3, 1) := by decide +kernel
theorem dX9_plays_63 : decode cX9_plays 63 = .ok (.iload_n 2, 1) := by decide +kernel
theorem dX9_plays_64 : decode cX9_plays 64 = .ok (.ifCond .eq 11, 3) := by decide +kernel
theorem dX9_plays_67 : decode cX9_plays 67 = .ok (.iload_n 3, 1) := by decide +kernel
theorem dX9_plays_68 : decode cX9_plays 68 = .ok (.ifCond .lt 7, 3) := by decide +kernel
theorem dX9_plays_71 : decode cX9_plays 71 = .ok (.iconst 1, 1) := by decide +kernel
theorem dX9_plays_72 : decode cX9_plays 72 = .ok (.goto 4, 3) := by decide +kernel
theorem dX9_plays_75 : decode cX9_plays 75 = .ok (.iconst 0, 1) := by decide +kernel
theorem dX9_plays_76 : decode cX9_plays 76 = .ok (.istore_n 1, 1) := by decide +kernel
theorem dX9_plays_77 : decode cX9_plays 77 = .ok (.aload_n 0, 1) := by decide +kernel
theorem dX9_plays_78 : decode cX9_plays 78 = .ok (.iload_n 2, 1) := by decide +kernel
theorem dX9_plays_79 : decode cX9_plays 79 = .ok (.ifCond .eq 7, 3) := by decide +kernel
theorem dX9_plays_82 : decode cX9_plays 82 = .ok (.iconst 2, 1) := by decide +kernel
theorem dX9_plays_83 : decode cX9_plays 83 = .ok (.goto 4, 3) := by decide +kernel
theorem dX9_plays_86 : decode cX9_plays 86 = .ok (.iconst 1, 1) := by decide +kernel
theorem dX9_plays_87 : decode cX9_plays 87 = .ok (.putfield 191, 3) := by decide +kernel
theorem dX9_plays_90 : decode cX9_plays 90 = .ok (.aload_n 0, 1) := by decide +kernel
theorem dX9_plays_91 : decode cX9_plays 91 = .ok (.iload_n 2, 1) := by decide +kernel
theorem dX9_plays_92 : decode cX9_plays 92 = .ok (.ifCond .eq 7, 3) := by decide +kernel
theorem dX9_plays_95 : decode cX9_plays 95 = .ok (.iload_n 3, 1) := by decide +kernel
theorem dX9_plays_96 : decode cX9_plays 96 = .ok (.goto 12, 3) := by decide +kernel
theorem dX9_plays_99 : decode cX9_plays 99 = .ok (.aload_n 0, 1) := by decide +kernel
theorem dX9_plays_100 : decode cX9_plays 100 = .ok (.getfield 142, 3) := by decide +kernel
theorem dX9_plays_103 : decode cX9_plays 103 = .ok (.aload_n 0, 1) := by decide +kernel
theorem dX9_plays_104 : decode cX9_plays 104 = .ok (.getfield 178, 3) := by decide +kernel
theorem dX9_plays_107 : decode cX9_plays 107 = .ok (.isub, 1) := by decide +kernel
theorem dX9_plays_108 : decode cX9_plays 108 = .ok (.putfield 194, 3) := by decide +kernel
theorem dX9_plays_111 : decode cX9_plays 111 = .ok (.aload_n 0, 1) := by decide +kernel
theorem dX9_plays_112 : decode cX9_plays 112 = .ok (.dup, 1) := by decide +kernel
theorem dX9_plays_113 : decode cX9_plays 113 = .ok (.getfield 181, 3) := by decide +kernel
theorem dX9_plays_116 : decode cX9_plays 116 = .ok (.iconst 1, 1) := by decide +kernel
theorem dX9_plays_117 : decode cX9_plays 117 = .ok (.iadd, 1) := by decide +kernel
theorem dX9_plays_118 : decode cX9_plays 118 = .ok (.putfield 181, 3) := by decide +kernel
theorem dX9_plays_121 : decode cX9_plays 121 = .ok (.goto (-99), 3) := by decide +kernel
theorem dX9_plays_124 : decode cX9_plays 124 = .ok (.aload_n 0, 1) := by decide +kernel
theorem dX9_plays_125 : decode cX9_plays 125 = .ok (.iconst 0, 1) := by decide +kernel
theorem dX9_plays_126 : decode cX9_plays 126 = .ok (.putfield 28, 3) := by decide +kernel
theorem dX9_plays_129 : decode cX9_plays 129 = .ok (.iload_n 1, 1) := by decide +kernel
theorem dX9_plays_130 : decode cX9_plays 130 = .ok (.ireturn, 1) := by decide +kernel
theorem dX9_fault_0 : decode cX9_fault 0 = .ok (.iload_n 1, 1) := by decide +kernel
theorem dX9_fault_1 : decode cX9_fault 1 = .ok (.iconst 0, 1) := by decide +kernel
theorem dX9_fault_2 : decode cX9_fault 2 = .ok (.iconst 2, 1) := by decide +kernel
theorem dX9_fault_3 : decode cX9_fault 3 = .ok (.invokestatic 47, 3) := by decide +kernel
theorem dX9_fault_6 : decode cX9_fault 6 = .ok (.ifCond .ne 6, 3) := by decide +kernel
theorem dX9_fault_9 : decode cX9_fault 9 = .ok (.ldc 51, 2) := by decide +kernel
theorem dX9_fault_11 : decode cX9_fault 11 = .ok (.ireturn, 1) := by decide +kernel
theorem dX9_fault_12 : decode cX9_fault 12 = .ok (.aload_n 0, 1) := by decide +kernel
theorem dX9_fault_13 : decode cX9_fault 13 = .ok (.getfield 7, 3) := by decide +kernel
theorem dX9_fault_16 : decode cX9_fault 16 = .ok (.aload_n 0, 1) := by decide +kernel
theorem dX9_fault_17 : decode cX9_fault 17 = .ok (.getfield 16, 3) := by decide +kernel
theorem dX9_fault_20 : decode cX9_fault 20 = .ok (.invokestatic 126, 3) := by decide +kernel
theorem dX9_fault_23 : decode cX9_fault 23 = .ok (.aload_n 0, 1) := by decide +kernel
theorem dX9_fault_24 : decode cX9_fault 24 = .ok (.invokevirtual 197, 3) := by decide +kernel
theorem dX9_fault_27 : decode cX9_fault 27 = .ok (.istore_n 2, 1) := by decide +kernel
theorem dX9_fault_28 : decode cX9_fault 28 = .ok (.aload_n 0, 1) := by decide +kernel
theorem dX9_fault_29 : decode cX9_fault 29 = .ok (.getfield 16, 3) := by decide +kernel
theorem dX9_fault_32 : decode cX9_fault 32 = .ok (.aload_n 0, 1) := by decide +kernel
theorem dX9_fault_33 : decode cX9_fault 33 = .ok (.getfield 7, 3) := by decide +kernel
theorem dX9_fault_36 : decode cX9_fault 36 = .ok (.invokestatic 126, 3) := by decide +kernel
theorem dX9_fault_39 : decode cX9_fault 39 = .ok (.iload_n 2, 1) := by decide +kernel
theorem dX9_fault_40 : decode cX9_fault 40 = .ok (.ifCond .eq 8, 3) := by decide +kernel
theorem dX9_fault_43 : decode cX9_fault 43 = .ok (.ldc 71, 2) := by decide +kernel
theorem dX9_fault_45 : decode cX9_fault 45 = .ok (.goto 30, 3) := by decide +kernel
theorem dX9_fault_48 : decode cX9_fault 48 = .ok (.iload_n 1, 1) := by decide +kernel
theorem dX9_fault_49 : decode cX9_fault 49 = .ok (.ifCond .ne 10, 3) := by decide +kernel
theorem dX9_fault_52 : decode cX9_fault 52 = .ok (.aload_n 0, 1) := by decide +kernel
theorem dX9_fault_53 : decode cX9_fault 53 = .ok (.getfield 178, 3) := by decide +kernel
theorem dX9_fault_56 : decode cX9_fault 56 = .ok (.goto 19, 3) := by decide +kernel
theorem dX9_fault_59 : decode cX9_fault 59 = .ok (.iload_n 1, 1) := by decide +kernel
theorem dX9_fault_60 : decode cX9_fault 60 = .ok (.iconst 1, 1) := by decide +kernel
theorem dX9_fault_61 : decode cX9_fault 61 = .ok (.if_icmp .ne 10, 3) := by decide +kernel
theorem dX9_fault_64 : decode cX9_fault 64 = .ok (.aload_n 0, 1) := by decide +kernel
theorem dX9_fault_65 : decode cX9_fault 65 = .ok (.getfield 191, 3) := by decide +kernel
theorem dX9_fault_68 : decode cX9_fault 68 = .ok (.goto 7, 3) := by decide +kernel
theorem dX9_fault_71 : decode cX9_fault 71 = .ok (.aload_n 0, 1) := by decide +kernel
theorem dX9_fault_72 : decode cX9_fault 72 = .ok (.getfield 194, 3) := by decide +kernel
theorem dX9_fault_75 : decode cX9_fault 75 = .ok (.ireturn, 1) := by decide +kernel
theorem dX9_play_0 : decode cX9_play 0 = .ok (.aload_n 0, 1) := by decide +kernel
theorem dX9_play_1 : decode cX9_play 1 = .ok (.getfield 7, 3) := by decide +kernel
theorem dX9_play_4 : decode cX9_play 4 = .ok (.aload_n 0, 1) := by decide +kernel
theorem dX9_play_5 : decode cX9_play 5 = .ok (.getfield 16, 3) := by decide +kernel
theorem dX9_play_8 : decode cX9_play 8 = .ok (.invokestatic 126, 3) := by decide +kernel
theorem dX9_play_11 : decode cX9_play 11 = .ok (.aload_n 0, 1) := by decide +kernel
theorem dX9_play_12 : decode cX9_play 12 = .ok (.invokevirtual 197, 3) := by decide +kernel
theorem dX9_play_15 : decode cX9_play 15 = .ok (.istore_n 1, 1) := by decide +kernel
theorem dX9_play_16 : decode cX9_play 16 = .ok (.aload_n 0, 1) := by decide +kernel
theorem dX9_play_17 : decode cX9_play 17 = .ok (.getfield 16, 3) := by decide +kernel
theorem dX9_play_20 : decode cX9_play 20 = .ok (.aload_n 0, 1) := by decide +kernel
theorem dX9_play_21 : decode cX9_play 21 = .ok (.getfield 7, 3) := by decide +kernel
theorem dX9_play_24 : decode cX9_play 24 = .ok (.invokestatic 126, 3) := by decide +kernel
theorem dX9_play_27 : decode cX9_play 27 = .ok (.iload_n 1, 1) := by decide +kernel
theorem dX9_play_28 : decode cX9_play 28 = .ok (.ifCond .ne 6, 3) := by decide +kernel
theorem dX9_play_31 : decode cX9_play 31 = .ok (.ldc 52, 2) := by decide +kernel
theorem dX9_play_33 : decode cX9_play 33 = .ok (.ireturn, 1) := by decide +kernel
theorem dX9_play_34 : decode cX9_play 34 = .ok (.aload_n 0, 1) := by decide +kernel
theorem dX9_play_35 : decode cX9_play 35 = .ok (.invokevirtual 54, 3) := by decide +kernel
theorem dX9_play_38 : decode cX9_play 38 = .ok (.aload_n 0, 1) := by decide +kernel
theorem dX9_play_39 : decode cX9_play 39 = .ok (.invokevirtual 197, 3) := by decide +kernel
theorem dX9_play_42 : decode cX9_play 42 = .ok (.ifCond .eq 10, 3) := by decide +kernel
theorem dX9_play_45 : decode cX9_play 45 = .ok (.aload_n 0, 1) := by decide +kernel
theorem dX9_play_46 : decode cX9_play 46 = .ok (.getfield 181, 3) := by decide +kernel
theorem dX9_play_49 : decode cX9_play 49 = .ok (.goto 5, 3) := by decide +kernel
theorem dX9_play_52 : decode cX9_play 52 = .ok (.ldc 71, 2) := by decide +kernel
theorem dX9_play_54 : decode cX9_play 54 = .ok (.ireturn, 1) := by decide +kernel
theorem dJxf58ca_isNaN_12338_0 : decode cJxf58ca_isNaN_12338 0 = .ok (.fload_n 0, 1) := by decide +kernel
theorem dJxf58ca_isNaN_12338_1 : decode cJxf58ca_isNaN_12338 1 = .ok (.fload_n 0, 1) := by decide +kernel
theorem dJxf58ca_isNaN_12338_2 : decode cJxf58ca_isNaN_12338 2 = .ok (.fcmp .l, 1) := by decide +kernel
theorem dJxf58ca_isNaN_12338_3 : decode cJxf58ca_isNaN_12338 3 = .ok (.ifCond .eq 7, 3) := by decide +kernel
theorem dJxf58ca_isNaN_12338_6 : decode cJxf58ca_isNaN_12338 6 = .ok (.iconst 1, 1) := by decide +kernel
theorem dJxf58ca_isNaN_12338_7 : decode cJxf58ca_isNaN_12338 7 = .ok (.goto 4, 3) := by decide +kernel
theorem dJxf58ca_isNaN_12338_10 : decode cJxf58ca_isNaN_12338 10 = .ok (.iconst 0, 1) := by decide +kernel
theorem dJxf58ca_isNaN_12338_11 : decode cJxf58ca_isNaN_12338 11 = .ok (.ireturn, 1) := by decide +kernel
theorem dJxf58ca_floatToIntBits_5c35a_0 : decode cJxf58ca_floatToIntBits_5c35a 0 = .ok (.fload_n 0, 1) := by decide +kernel
theorem dJxf58ca_floatToIntBits_5c35a_1 : decode cJxf58ca_floatToIntBits_5c35a 1 = .ok (.invokestatic 59, 3) := by decide +kernel
theorem dJxf58ca_floatToIntBits_5c35a_4 : decode cJxf58ca_floatToIntBits_5c35a 4 = .ok (.ifCond .ne 8, 3) := by decide +kernel
theorem dJxf58ca_floatToIntBits_5c35a_7 : decode cJxf58ca_floatToIntBits_5c35a 7 = .ok (.fload_n 0, 1) := by decide +kernel
theorem dJxf58ca_floatToIntBits_5c35a_8 : decode cJxf58ca_floatToIntBits_5c35a 8 = .ok (.invokestatic 74, 3) := by decide +kernel
theorem dJxf58ca_floatToIntBits_5c35a_11 : decode cJxf58ca_floatToIntBits_5c35a 11 = .ok (.ireturn, 1) := by decide +kernel
theorem dJxf58ca_floatToIntBits_5c35a_12 : decode cJxf58ca_floatToIntBits_5c35a 12 = .ok (.ldc 77, 2) := by decide +kernel
theorem dJxf58ca_floatToIntBits_5c35a_14 : decode cJxf58ca_floatToIntBits_5c35a 14 = .ok (.ireturn, 1) := by decide +kernel
theorem dJ6_bitCount_0f7a4_0 : decode cJ6_bitCount_0f7a4 0 = .ok (.iload_n 0, 1) := by decide +kernel
theorem dJ6_bitCount_0f7a4_1 : decode cJ6_bitCount_0f7a4 1 = .ok (.iload_n 0, 1) := by decide +kernel
theorem dJ6_bitCount_0f7a4_2 : decode cJ6_bitCount_0f7a4 2 = .ok (.iconst 1, 1) := by decide +kernel
theorem dJ6_bitCount_0f7a4_3 : decode cJ6_bitCount_0f7a4 3 = .ok (.iushr, 1) := by decide +kernel
theorem dJ6_bitCount_0f7a4_4 : decode cJ6_bitCount_0f7a4 4 = .ok (.ldc_w 265, 3) := by decide +kernel
theorem dJ6_bitCount_0f7a4_7 : decode cJ6_bitCount_0f7a4 7 = .ok (.iand, 1) := by decide +kernel
theorem dJ6_bitCount_0f7a4_8 : decode cJ6_bitCount_0f7a4 8 = .ok (.isub, 1) := by decide +kernel
theorem dJ6_bitCount_0f7a4_9 : decode cJ6_bitCount_0f7a4 9 = .ok (.istore_n 0, 1) := by decide +kernel
theorem dJ6_bitCount_0f7a4_10 : decode cJ6_bitCount_0f7a4 10 = .ok (.iload_n 0, 1) := by decide +kernel
theorem dJ6_bitCount_0f7a4_11 : decode cJ6_bitCount_0f7a4 11 = .ok (.ldc_w 266, 3) := by decide +kernel
theorem dJ6_bitCount_0f7a4_14 : decode cJ6_bitCount_0f7a4 14 = .ok (.iand, 1) := by decide +kernel
theorem dJ6_bitCount_0f7a4_15 : decode cJ6_bitCount_0f7a4 15 = .ok (.iload_n 0, 1) := by decide +kernel
theorem dJ6_bitCount_0f7a4_16 : decode cJ6_bitCount_0f7a4 16 = .ok (.iconst 2, 1) := by decide +kernel
theorem dJ6_bitCount_0f7a4_17 : decode cJ6_bitCount_0f7a4 17 = .ok (.iushr, 1) := by decide +kernel
theorem dJ6_bitCount_0f7a4_18 : decode cJ6_bitCount_0f7a4 18 = .ok (.ldc_w 266, 3) := by decide +kernel
theorem dJ6_bitCount_0f7a4_21 : decode cJ6_bitCount_0f7a4 21 = .ok (.iand, 1) := by decide +kernel
theorem dJ6_bitCount_0f7a4_22 : decode cJ6_bitCount_0f7a4 22 = .ok (.iadd, 1) := by decide +kernel
theorem dJ6_bitCount_0f7a4_23 : decode cJ6_bitCount_0f7a4 23 = .ok (.istore_n 0, 1) := by decide +kernel
theorem dJ6_bitCount_0f7a4_24 : decode cJ6_bitCount_0f7a4 24 = .ok (.iload_n 0, 1) := by decide +kernel
theorem dJ6_bitCount_0f7a4_25 : decode cJ6_bitCount_0f7a4 25 = .ok (.iload_n 0, 1) := by decide +kernel
theorem dJ6_bitCount_0f7a4_26 : decode cJ6_bitCount_0f7a4 26 = .ok (.iconst 4, 1) := by decide +kernel
theorem dJ6_bitCount_0f7a4_27 : decode cJ6_bitCount_0f7a4 27 = .ok (.iushr, 1) := by decide +kernel
theorem dJ6_bitCount_0f7a4_28 : decode cJ6_bitCount_0f7a4 28 = .ok (.iadd, 1) := by decide +kernel
theorem dJ6_bitCount_0f7a4_29 : decode cJ6_bitCount_0f7a4 29 = .ok (.ldc_w 267, 3) := by decide +kernel
theorem dJ6_bitCount_0f7a4_32 : decode cJ6_bitCount_0f7a4 32 = .ok (.iand, 1) := by decide +kernel
theorem dJ6_bitCount_0f7a4_33 : decode cJ6_bitCount_0f7a4 33 = .ok (.istore_n 0, 1) := by decide +kernel
theorem dJ6_bitCount_0f7a4_34 : decode cJ6_bitCount_0f7a4 34 = .ok (.iload_n 0, 1) := by decide +kernel
theorem dJ6_bitCount_0f7a4_35 : decode cJ6_bitCount_0f7a4 35 = .ok (.iload_n 0, 1) := by decide +kernel
theorem dJ6_bitCount_0f7a4_36 : decode cJ6_bitCount_0f7a4 36 = .ok (.bipush 8, 2) := by decide +kernel
theorem dJ6_bitCount_0f7a4_38 : decode cJ6_bitCount_0f7a4 38 = .ok (.iushr, 1) := by decide +kernel
theorem dJ6_bitCount_0f7a4_39 : decode cJ6_bitCount_0f7a4 39 = .ok (.iadd, 1) := by decide +kernel
theorem dJ6_bitCount_0f7a4_40 : decode cJ6_bitCount_0f7a4 40 = .ok (.istore_n 0, 1) := by decide +kernel
theorem dJ6_bitCount_0f7a4_41 : decode cJ6_bitCount_0f7a4 41 = .ok (.iload_n 0, 1) := by decide +kernel
theorem dJ6_bitCount_0f7a4_42 : decode cJ6_bitCount_0f7a4 42 = .ok (.iload_n 0, 1) := by decide +kernel
theorem dJ6_bitCount_0f7a4_43 : decode cJ6_bitCount_0f7a4 43 = .ok (.bipush 16, 2) := by decide +kernel
theorem dJ6_bitCount_0f7a4_45 : decode cJ6_bitCount_0f7a4 45 = .ok (.iushr, 1) := by decide +kernel
theorem dJ6_bitCount_0f7a4_46 : decode cJ6_bitCount_0f7a4 46 = .ok (.iadd, 1) := by decide +kernel
theorem dJ6_bitCount_0f7a4_47 : decode cJ6_bitCount_0f7a4 47 = .ok (.istore_n 0, 1) := by decide +kernel
theorem dJ6_bitCount_0f7a4_48 : decode cJ6_bitCount_0f7a4 48 = .ok (.iload_n 0, 1) := by decide +kernel
theorem dJ6_bitCount_0f7a4_49 : decode cJ6_bitCount_0f7a4 49 = .ok (.bipush 63, 2) := by decide +kernel
theorem dJ6_bitCount_0f7a4_51 : decode cJ6_bitCount_0f7a4 51 = .ok (.iand, 1) := by decide +kernel
theorem dJ6_bitCount_0f7a4_52 : decode cJ6_bitCount_0f7a4 52 = .ok (.ireturn, 1) := by decide +kernel
theorem dJ9_max_7cf53_0 : decode cJ9_max_7cf53 0 = .ok (.iload_n 0, 1) := by decide +kernel
theorem dJ9_max_7cf53_1 : decode cJ9_max_7cf53 1 = .ok (.iload_n 1, 1) := by decide +kernel
theorem dJ9_max_7cf53_2 : decode cJ9_max_7cf53 2 = .ok (.if_icmp .lt 7, 3) := by decide +kernel
theorem dJ9_max_7cf53_5 : decode cJ9_max_7cf53 5 = .ok (.iload_n 0, 1) := by decide +kernel
theorem dJ9_max_7cf53_6 : decode cJ9_max_7cf53 6 = .ok (.goto 4, 3) := by decide +kernel
theorem dJ9_max_7cf53_9 : decode cJ9_max_7cf53 9 = .ok (.iload_n 1, 1) := by decide +kernel
theorem dJ9_max_7cf53_10 : decode cJ9_max_7cf53 10 = .ok (.ireturn, 1) := by decide +kernel
theorem dJ9_min_7cf53_0 : decode cJ9_min_7cf53 0 = .ok (.iload_n 0, 1) := by decide +kernel
theorem dJ9_min_7cf53_1 : decode cJ9_min_7cf53 1 = .ok (.iload_n 1, 1) := by decide +kernel
theorem dJ9_min_7cf53_2 : decode cJ9_min_7cf53 2 = .ok (.if_icmp .gt 7, 3) := by decide +kernel
theorem dJ9_min_7cf53_5 : decode cJ9_min_7cf53 5 = .ok (.iload_n 0, 1) := by decide +kernel
theorem dJ9_min_7cf53_6 : decode cJ9_min_7cf53 6 = .ok (.goto 4, 3) := by decide +kernel
theorem dJ9_min_7cf53_9 : decode cJ9_min_7cf53 9 = .ok (.iload_n 1, 1) := by decide +kernel
theorem dJ9_min_7cf53_10 : decode cJ9_min_7cf53 10 = .ok (.ireturn, 1) := by decide +kernel
theorem dL_law_0 : decode cL_law 0 = .ok (.new 7, 3) := by decide +kernel
theorem dL_law_3 : decode cL_law 3 = .ok (.dup, 1) := by decide +kernel
theorem dL_law_4 : decode cL_law 4 = .ok (.invokespecial 9, 3) := by decide +kernel
theorem dL_law_7 : decode cL_law 7 = .ok (.astore_n 1, 1) := by decide +kernel
theorem dL_law_8 : decode cL_law 8 = .ok (.new 10, 3) := by decide +kernel
theorem dL_law_11 : decode cL_law 11 = .ok (.dup, 1) := by decide +kernel
theorem dL_law_12 : decode cL_law 12 = .ok (.invokespecial 12, 3) := by decide +kernel
theorem dL_law_15 : decode cL_law 15 = .ok (.astore_n 2, 1) := by decide +kernel
theorem dL_law_16 : decode cL_law 16 = .ok (.iconst 0, 1) := by decide +kernel
theorem dL_law_17 : decode cL_law 17 = .ok (.istore_n 3, 1) := by decide +kernel
theorem dL_law_18 : decode cL_law 18 = .ok (.iload_n 3, 1) := by decide +kernel
theorem dL_law_19 : decode cL_law 19 = .ok (.aload_n 0, 1) := by decide +kernel
theorem dL_law_20 : decode cL_law 20 = .ok (.arraylength, 1) := by decide +kernel
theorem dL_law_21 : decode cL_law 21 = .ok (.iconst 4, 1) := by decide +kernel
theorem dL_law_22 : decode cL_law 22 = .ok (.isub, 1) := by decide +kernel
theorem dL_law_23 : decode cL_law 23 = .ok (.if_icmp .gt 840, 3) := by decide +kernel
theorem dL_law_26 : decode cL_law 26 = .ok (.aload_n 0, 1) := by decide +kernel
theorem dL_law_27 : decode cL_law 27 = .ok (.iload_n 3, 1) := by decide +kernel
theorem dL_law_28 : decode cL_law 28 = .ok (.iaload, 1) := by decide +kernel
theorem dL_law_29 : decode cL_law 29 = .ok (.bipush 31, 2) := by decide +kernel
theorem dL_law_31 : decode cL_law 31 = .ok (.iand, 1) := by decide +kernel
theorem dL_law_32 : decode cL_law 32 = .ok (.tableswitch 825 0 26 #[124, 157, 200, 233, 256, 279, 312, 335, 358, 391, 414, 447, 480, 513, 546, 579, 602, 635, 668, 691, 704, 717, 740, 753, 776, 789, 812], 124) := by decide +kernel
theorem dL_law_156 : decode cL_law 156 = .ok (.aload_n 1, 1) := by decide +kernel
theorem dL_law_157 : decode cL_law 157 = .ok (.aload_n 0, 1) := by decide +kernel
theorem dL_law_158 : decode cL_law 158 = .ok (.iload_n 3, 1) := by decide +kernel
theorem dL_law_159 : decode cL_law 159 = .ok (.iconst 1, 1) := by decide +kernel
theorem dL_law_160 : decode cL_law 160 = .ok (.iadd, 1) := by decide +kernel
theorem dL_law_161 : decode cL_law 161 = .ok (.iaload, 1) := by decide +kernel
theorem dL_law_162 : decode cL_law 162 = .ok (.aload_n 0, 1) := by decide +kernel
theorem dL_law_163 : decode cL_law 163 = .ok (.iload_n 3, 1) := by decide +kernel
theorem dL_law_164 : decode cL_law 164 = .ok (.iconst 2, 1) := by decide +kernel
theorem dL_law_165 : decode cL_law 165 = .ok (.iadd, 1) := by decide +kernel
theorem dL_law_166 : decode cL_law 166 = .ok (.iaload, 1) := by decide +kernel
theorem dL_law_167 : decode cL_law 167 = .ok (.invokevirtual 13, 3) := by decide +kernel
theorem dL_law_170 : decode cL_law 170 = .ok (.aload_n 2, 1) := by decide +kernel
theorem dL_law_171 : decode cL_law 171 = .ok (.aload_n 0, 1) := by decide +kernel
theorem dL_law_172 : decode cL_law 172 = .ok (.iload_n 3, 1) := by decide +kernel
theorem dL_law_173 : decode cL_law 173 = .ok (.iconst 1, 1) := by decide +kernel
theorem dL_law_174 : decode cL_law 174 = .ok (.iadd, 1) := by decide +kernel
theorem dL_law_175 : decode cL_law 175 = .ok (.iaload, 1) := by decide +kernel
theorem dL_law_176 : decode cL_law 176 = .ok (.aload_n 0, 1) := by decide +kernel
theorem dL_law_177 : decode cL_law 177 = .ok (.iload_n 3, 1) := by decide +kernel
theorem dL_law_178 : decode cL_law 178 = .ok (.iconst 2, 1) := by decide +kernel
theorem dL_law_179 : decode cL_law 179 = .ok (.iadd, 1) := by decide +kernel
theorem dL_law_180 : decode cL_law 180 = .ok (.iaload, 1) := by decide +kernel
theorem dL_law_181 : decode cL_law 181 = .ok (.invokevirtual 17, 3) := by decide +kernel
theorem dL_law_184 : decode cL_law 184 = .ok (.if_icmp .eq 673, 3) := by decide +kernel
theorem dL_law_187 : decode cL_law 187 = .ok (.iconst 0, 1) := by decide +kernel
theorem dL_law_188 : decode cL_law 188 = .ok (.ireturn, 1) := by decide +kernel
theorem dL_law_189 : decode cL_law 189 = .ok (.aload_n 1, 1) := by decide +kernel
theorem dL_law_190 : decode cL_law 190 = .ok (.aload_n 0, 1) := by decide +kernel
theorem dL_law_191 : decode cL_law 191 = .ok (.iload_n 3, 1) := by decide +kernel
theorem dL_law_192 : decode cL_law 192 = .ok (.iconst 1, 1) := by decide +kernel
theorem dL_law_193 : decode cL_law 193 = .ok (.iadd, 1) := by decide +kernel
theorem dL_law_194 : decode cL_law 194 = .ok (.iaload, 1) := by decide +kernel
theorem dL_law_195 : decode cL_law 195 = .ok (.aload_n 0, 1) := by decide +kernel
theorem dL_law_196 : decode cL_law 196 = .ok (.iload_n 3, 1) := by decide +kernel
theorem dL_law_197 : decode cL_law 197 = .ok (.iconst 2, 1) := by decide +kernel
theorem dL_law_198 : decode cL_law 198 = .ok (.iadd, 1) := by decide +kernel
theorem dL_law_199 : decode cL_law 199 = .ok (.iaload, 1) := by decide +kernel
theorem dL_law_200 : decode cL_law 200 = .ok (.aload_n 0, 1) := by decide +kernel
theorem dL_law_201 : decode cL_law 201 = .ok (.iload_n 3, 1) := by decide +kernel
theorem dL_law_202 : decode cL_law 202 = .ok (.iconst 3, 1) := by decide +kernel
theorem dL_law_203 : decode cL_law 203 = .ok (.iadd, 1) := by decide +kernel
theorem dL_law_204 : decode cL_law 204 = .ok (.iaload, 1) := by decide +kernel
theorem dL_law_205 : decode cL_law 205 = .ok (.invokevirtual 18, 3) := by decide +kernel
theorem dL_law_208 : decode cL_law 208 = .ok (.aload_n 2, 1) := by decide +kernel
theorem dL_law_209 : decode cL_law 209 = .ok (.aload_n 0, 1) := by decide +kernel
theorem dL_law_210 : decode cL_law 210 = .ok (.iload_n 3, 1) := by decide +kernel
theorem dL_law_211 : decode cL_law 211 = .ok (.iconst 1, 1) := by decide +kernel
theorem dL_law_212 : decode cL_law 212 = .ok (.iadd, 1) := by decide +kernel
theorem dL_law_213 : decode cL_law 213 = .ok (.iaload, 1) := by decide +kernel
theorem dL_law_214 : decode cL_law 214 = .ok (.aload_n 0, 1) := by decide +kernel
theorem dL_law_215 : decode cL_law 215 = .ok (.iload_n 3, 1) := by decide +kernel
theorem dL_law_216 : decode cL_law 216 = .ok (.iconst 2, 1) := by decide +kernel
theorem dL_law_217 : decode cL_law 217 = .ok (.iadd, 1) := by decide +kernel
theorem dL_law_218 : decode cL_law 218 = .ok (.iaload, 1) := by decide +kernel
theorem dL_law_219 : decode cL_law 219 = .ok (.aload_n 0, 1) := by decide +kernel
theorem dL_law_220 : decode cL_law 220 = .ok (.iload_n 3, 1) := by decide +kernel
theorem dL_law_221 : decode cL_law 221 = .ok (.iconst 3, 1) := by decide +kernel
theorem dL_law_222 : decode cL_law 222 = .ok (.iadd, 1) := by decide +kernel
theorem dL_law_223 : decode cL_law 223 = .ok (.iaload, 1) := by decide +kernel
theorem dL_law_224 : decode cL_law 224 = .ok (.invokevirtual 22, 3) := by decide +kernel
theorem dL_law_227 : decode cL_law 227 = .ok (.if_icmp .eq 630, 3) := by decide +kernel
theorem dL_law_230 : decode cL_law 230 = .ok (.iconst 0, 1) := by decide +kernel
theorem dL_law_231 : decode cL_law 231 = .ok (.ireturn, 1) := by decide +kernel
theorem dL_law_232 : decode cL_law 232 = .ok (.aload_n 1, 1) := by decide +kernel
theorem dL_law_233 : decode cL_law 233 = .ok (.aload_n 0, 1) := by decide +kernel
theorem dL_law_234 : decode cL_law 234 = .ok (.iload_n 3, 1) := by decide +kernel
theorem dL_law_235 : decode cL_law 235 = .ok (.iconst 1, 1) := by decide +kernel
theorem dL_law_236 : decode cL_law 236 = .ok (.iadd, 1) := by decide +kernel
theorem dL_law_237 : decode cL_law 237 = .ok (.iaload, 1) := by decide +kernel
theorem dL_law_238 : decode cL_law 238 = .ok (.aload_n 0, 1) := by decide +kernel
theorem dL_law_239 : decode cL_law 239 = .ok (.iload_n 3, 1) := by decide +kernel
theorem dL_law_240 : decode cL_law 240 = .ok (.iconst 2, 1) := by decide +kernel
theorem dL_law_241 : decode cL_law 241 = .ok (.iadd, 1) := by decide +kernel
theorem dL_law_242 : decode cL_law 242 = .ok (.iaload, 1) := by decide +kernel
theorem dL_law_243 : decode cL_law 243 = .ok (.invokevirtual 23, 3) := by decide +kernel
theorem dL_law_246 : decode cL_law 246 = .ok (.aload_n 2, 1) := by decide +kernel
theorem dL_law_247 : decode cL_law 247 = .ok (.aload_n 0, 1) := by decide +kernel
theorem dL_law_248 : decode cL_law 248 = .ok (.iload_n 3, 1) := by decide +kernel
theorem dL_law_249 : decode cL_law 249 = .ok (.iconst 1, 1) := by decide +kernel
theorem dL_law_250 : decode cL_law 250 = .ok (.iadd, 1) := by decide +kernel
theorem dL_law_251 : decode cL_law 251 = .ok (.iaload, 1) := by decide +kernel
theorem dL_law_252 : decode cL_law 252 = .ok (.aload_n 0, 1) := by decide +kernel
theorem dL_law_253 : decode cL_law 253 = .ok (.iload_n 3, 1) := by decide +kernel
theorem dL_law_254 : decode cL_law 254 = .ok (.iconst 2, 1) := by decide +kernel
theorem dL_law_255 : decode cL_law 255 = .ok (.iadd, 1) := by decide +kernel
theorem dL_law_256 : decode cL_law 256 = .ok (.iaload, 1) := by decide +kernel
theorem dL_law_257 : decode cL_law 257 = .ok (.invokevirtual 26, 3) := by decide +kernel
theorem dL_law_260 : decode cL_law 260 = .ok (.if_icmp .eq 597, 3) := by decide +kernel
theorem dL_law_263 : decode cL_law 263 = .ok (.iconst 0, 1) := by decide +kernel
theorem dL_law_264 : decode cL_law 264 = .ok (.ireturn, 1) := by decide +kernel
theorem dL_law_265 : decode cL_law 265 = .ok (.aload_n 1, 1) := by decide +kernel
theorem dL_law_266 : decode cL_law 266 = .ok (.aload_n 0, 1) := by decide +kernel
theorem dL_law_267 : decode cL_law 267 = .ok (.iload_n 3, 1) := by decide +kernel
theorem dL_law_268 : decode cL_law 268 = .ok (.iconst 1, 1) := by decide +kernel
theorem dL_law_269 : decode cL_law 269 = .ok (.iadd, 1) := by decide +kernel
theorem dL_law_270 : decode cL_law 270 = .ok (.iaload, 1) := by decide +kernel
theorem dL_law_271 : decode cL_law 271 = .ok (.invokevirtual 27, 3) := by decide +kernel
theorem dL_law_274 : decode cL_law 274 = .ok (.aload_n 2, 1) := by decide +kernel
theorem dL_law_275 : decode cL_law 275 = .ok (.aload_n 0, 1) := by decide +kernel
theorem dL_law_276 : decode cL_law 276 = .ok (.iload_n 3, 1) := by decide +kernel
theorem dL_law_277 : decode cL_law 277 = .ok (.iconst 1, 1) := by decide +kernel
theorem dL_law_278 : decode cL_law 278 = .ok (.iadd, 1) := by decide +kernel
theorem dL_law_279 : decode cL_law 279 = .ok (.iaload, 1) := by decide +kernel
theorem dL_law_280 : decode cL_law 280 = .ok (.invokevirtual 31, 3) := by decide +kernel
theorem dL_law_283 : decode cL_law 283 = .ok (.if_icmp .eq 574, 3) := by decide +kernel
theorem dL_law_286 : decode cL_law 286 = .ok (.iconst 0, 1) := by decide +kernel
theorem dL_law_287 : decode cL_law 287 = .ok (.ireturn, 1) := by decide +kernel
theorem dL_law_288 : decode cL_law 288 = .ok (.aload_n 1, 1) := by decide +kernel
theorem dL_law_289 : decode cL_law 289 = .ok (.aload_n 0, 1) := by decide +kernel
theorem dL_law_290 : decode cL_law 290 = .ok (.iload_n 3, 1) := by decide +kernel
theorem dL_law_291 : decode cL_law 291 = .ok (.iconst 1, 1) := by decide +kernel
theorem dL_law_292 : decode cL_law 292 = .ok (.iadd, 1) := by decide +kernel
theorem dL_law_293 : decode cL_law 293 = .ok (.iaload, 1) := by decide +kernel
theorem dL_law_294 : decode cL_law 294 = .ok (.invokevirtual 32, 3) := by decide +kernel
theorem dL_law_297 : decode cL_law 297 = .ok (.aload_n 2, 1) := by decide +kernel
theorem dL_law_298 : decode cL_law 298 = .ok (.aload_n 0, 1) := by decide +kernel
theorem dL_law_299 : decode cL_law 299 = .ok (.iload_n 3, 1) := by decide +kernel
theorem dL_law_300 : decode cL_law 300 = .ok (.iconst 1, 1) := by decide +kernel
theorem dL_law_301 : decode cL_law 301 = .ok (.iadd, 1) := by decide +kernel
theorem dL_law_302 : decode cL_law 302 = .ok (.iaload, 1) := by decide +kernel
theorem dL_law_303 : decode cL_law 303 = .ok (.invokevirtual 35, 3) := by decide +kernel
theorem dL_law_306 : decode cL_law 306 = .ok (.if_icmp .eq 551, 3) := by decide +kernel
theorem dL_law_309 : decode cL_law 309 = .ok (.iconst 0, 1) := by decide +kernel
theorem dL_law_310 : decode cL_law 310 = .ok (.ireturn, 1) := by decide +kernel
theorem dL_law_311 : decode cL_law 311 = .ok (.aload_n 1, 1) := by decide +kernel
theorem dL_law_312 : decode cL_law 312 = .ok (.aload_n 0, 1) := by decide +kernel
theorem dL_law_313 : decode cL_law 313 = .ok (.iload_n 3, 1) := by decide +kernel
theorem dL_law_314 : decode cL_law 314 = .ok (.iconst 1, 1) := by decide +kernel
theorem dL_law_315 : decode cL_law 315 = .ok (.iadd, 1) := by decide +kernel
theorem dL_law_316 : decode cL_law 316 = .ok (.iaload, 1) := by decide +kernel
theorem dL_law_317 : decode cL_law 317 = .ok (.aload_n 0, 1) := by decide +kernel
theorem dL_law_318 : decode cL_law 318 = .ok (.iload_n 3, 1) := by decide +kernel
theorem dL_law_319 : decode cL_law 319 = .ok (.iconst 2, 1) := by decide +kernel
theorem dL_law_320 : decode cL_law 320 = .ok (.iadd, 1) := by decide +kernel
theorem dL_law_321 : decode cL_law 321 = .ok (.iaload, 1) := by decide +kernel
theorem dL_law_322 : decode cL_law 322 = .ok (.invokevirtual 36, 3) := by decide +kernel
theorem dL_law_325 : decode cL_law 325 = .ok (.aload_n 2, 1) := by decide +kernel
theorem dL_law_326 : decode cL_law 326 = .ok (.aload_n 0, 1) := by decide +kernel
theorem dL_law_327 : decode cL_law 327 = .ok (.iload_n 3, 1) := by decide +kernel
theorem dL_law_328 : decode cL_law 328 = .ok (.iconst 1, 1) := by decide +kernel
theorem dL_law_329 : decode cL_law 329 = .ok (.iadd, 1) := by decide +kernel
theorem dL_law_330 : decode cL_law 330 = .ok (.iaload, 1) := by decide +kernel
theorem dL_law_331 : decode cL_law 331 = .ok (.aload_n 0, 1) := by decide +kernel
theorem dL_law_332 : decode cL_law 332 = .ok (.iload_n 3, 1) := by decide +kernel
theorem dL_law_333 : decode cL_law 333 = .ok (.iconst 2, 1) := by decide +kernel
theorem dL_law_334 : decode cL_law 334 = .ok (.iadd, 1) := by decide +kernel
theorem dL_law_335 : decode cL_law 335 = .ok (.iaload, 1) := by decide +kernel
theorem dL_law_336 : decode cL_law 336 = .ok (.invokevirtual 39, 3) := by decide +kernel
theorem dL_law_339 : decode cL_law 339 = .ok (.if_icmp .eq 518, 3) := by decide +kernel
theorem dL_law_342 : decode cL_law 342 = .ok (.iconst 0, 1) := by decide +kernel
theorem dL_law_343 : decode cL_law 343 = .ok (.ireturn, 1) := by decide +kernel
theorem dL_law_344 : decode cL_law 344 = .ok (.aload_n 1, 1) := by decide +kernel
theorem dL_law_345 : decode cL_law 345 = .ok (.aload_n 0, 1) := by decide +kernel
theorem dL_law_346 : decode cL_law 346 = .ok (.iload_n 3, 1) := by decide +kernel
theorem dL_law_347 : decode cL_law 347 = .ok (.iconst 1, 1) := by decide +kernel
theorem dL_law_348 : decode cL_law 348 = .ok (.iadd, 1) := by decide +kernel
theorem dL_law_349 : decode cL_law 349 = .ok (.iaload, 1) := by decide +kernel
theorem dL_law_350 : decode cL_law 350 = .ok (.invokevirtual 40, 3) := by decide +kernel
theorem dL_law_353 : decode cL_law 353 = .ok (.aload_n 2, 1) := by decide +kernel
theorem dL_law_354 : decode cL_law 354 = .ok (.aload_n 0, 1) := by decide +kernel
theorem dL_law_355 : decode cL_law 355 = .ok (.iload_n 3, 1) := by decide +kernel
theorem dL_law_356 : decode cL_law 356 = .ok (.iconst 1, 1) := by decide +kernel
theorem dL_law_357 : decode cL_law 357 = .ok (.iadd, 1) := by decide +kernel
theorem dL_law_358 : decode cL_law 358 = .ok (.iaload, 1) := by decide +kernel
theorem dL_law_359 : decode cL_law 359 = .ok (.invokevirtual 43, 3) := by decide +kernel
theorem dL_law_362 : decode cL_law 362 = .ok (.if_icmp .eq 495, 3) := by decide +kernel
theorem dL_law_365 : decode cL_law 365 = .ok (.iconst 0, 1) := by decide +kernel
theorem dL_law_366 : decode cL_law 366 = .ok (.ireturn, 1) := by decide +kernel
theorem dL_law_367 : decode cL_law 367 = .ok (.aload_n 1, 1) := by decide +kernel
theorem dL_law_368 : decode cL_law 368 = .ok (.aload_n 0, 1) := by decide +kernel
theorem dL_law_369 : decode cL_law 369 = .ok (.iload_n 3, 1) := by decide +kernel
theorem dL_law_370 : decode cL_law 370 = .ok (.iconst 1, 1) := by decide +kernel
theorem dL_law_371 : decode cL_law 371 = .ok (.iadd, 1) := by decide +kernel
theorem dL_law_372 : decode cL_law 372 = .ok (.iaload, 1) := by decide +kernel
theorem dL_law_373 : decode cL_law 373 = .ok (.invokevirtual 44, 3) := by decide +kernel
theorem dL_law_376 : decode cL_law 376 = .ok (.aload_n 2, 1) := by decide +kernel
theorem dL_law_377 : decode cL_law 377 = .ok (.aload_n 0, 1) := by decide +kernel
theorem dL_law_378 : decode cL_law 378 = .ok (.iload_n 3, 1) := by decide +kernel
theorem dL_law_379 : decode cL_law 379 = .ok (.iconst 1, 1) := by decide +kernel
theorem dL_law_380 : decode cL_law 380 = .ok (.iadd, 1) := by decide +kernel
theorem dL_law_381 : decode cL_law 381 = .ok (.iaload, 1) := by decide +kernel
theorem dL_law_382 : decode cL_law 382 = .ok (.invokevirtual 47, 3) := by decide +kernel
theorem dL_law_385 : decode cL_law 385 = .ok (.if_icmp .eq 472, 3) := by decide +kernel
theorem dL_law_388 : decode cL_law 388 = .ok (.iconst 0, 1) := by decide +kernel
theorem dL_law_389 : decode cL_law 389 = .ok (.ireturn, 1) := by decide +kernel
theorem dL_law_390 : decode cL_law 390 = .ok (.aload_n 1, 1) := by decide +kernel
theorem dL_law_391 : decode cL_law 391 = .ok (.aload_n 0, 1) := by decide +kernel
theorem dL_law_392 : decode cL_law 392 = .ok (.iload_n 3, 1) := by decide +kernel
theorem dL_law_393 : decode cL_law 393 = .ok (.iconst 1, 1) := by decide +kernel
theorem dL_law_394 : decode cL_law 394 = .ok (.iadd, 1) := by decide +kernel
theorem dL_law_395 : decode cL_law 395 = .ok (.iaload, 1) := by decide +kernel
theorem dL_law_396 : decode cL_law 396 = .ok (.aload_n 0, 1) := by decide +kernel
theorem dL_law_397 : decode cL_law 397 = .ok (.iload_n 3, 1) := by decide +kernel
theorem dL_law_398 : decode cL_law 398 = .ok (.iconst 2, 1) := by decide +kernel
theorem dL_law_399 : decode cL_law 399 = .ok (.iadd, 1) := by decide +kernel
theorem dL_law_400 : decode cL_law 400 = .ok (.iaload, 1) := by decide +kernel
theorem dL_law_401 : decode cL_law 401 = .ok (.invokevirtual 48, 3) := by decide +kernel
theorem dL_law_404 : decode cL_law 404 = .ok (.aload_n 2, 1) := by decide +kernel
theorem dL_law_405 : decode cL_law 405 = .ok (.aload_n 0, 1) := by decide +kernel
theorem dL_law_406 : decode cL_law 406 = .ok (.iload_n 3, 1) := by decide +kernel
theorem dL_law_407 : decode cL_law 407 = .ok (.iconst 1, 1) := by decide +kernel
theorem dL_law_408 : decode cL_law 408 = .ok (.iadd, 1) := by decide +kernel
theorem dL_law_409 : decode cL_law 409 = .ok (.iaload, 1) := by decide +kernel
theorem dL_law_410 : decode cL_law 410 = .ok (.aload_n 0, 1) := by decide +kernel
theorem dL_law_411 : decode cL_law 411 = .ok (.iload_n 3, 1) := by decide +kernel
theorem dL_law_412 : decode cL_law 412 = .ok (.iconst 2, 1) := by decide +kernel
theorem dL_law_413 : decode cL_law 413 = .ok (.iadd, 1) := by decide +kernel
theorem dL_law_414 : decode cL_law 414 = .ok (.iaload, 1) := by decide +kernel
theorem dL_law_415 : decode cL_law 415 = .ok (.invokevirtual 51, 3) := by decide +kernel
theorem dL_law_418 : decode cL_law 418 = .ok (.if_icmp .eq 439, 3) := by decide +kernel
theorem dL_law_421 : decode cL_law 421 = .ok (.iconst 0, 1) := by decide +kernel
theorem dL_law_422 : decode cL_law 422 = .ok (.ireturn, 1) := by decide +kernel
theorem dL_law_423 : decode cL_law 423 = .ok (.aload_n 1, 1) := by decide +kernel
theorem dL_law_424 : decode cL_law 424 = .ok (.aload_n 0, 1) := by decide +kernel
theorem dL_law_425 : decode cL_law 425 = .ok (.iload_n 3, 1) := by decide +kernel
theorem dL_law_426 : decode cL_law 426 = .ok (.iconst 1, 1) := by decide +kernel
theorem dL_law_427 : decode cL_law 427 = .ok (.iadd, 1) := by decide +kernel
theorem dL_law_428 : decode cL_law 428 = .ok (.iaload, 1) := by decide +kernel
theorem dL_law_429 : decode cL_law 429 = .ok (.invokevirtual 52, 3) := by decide +kernel
theorem dL_law_432 : decode cL_law 432 = .ok (.aload_n 2, 1) := by decide +kernel
theorem dL_law_433 : decode cL_law 433 = .ok (.aload_n 0, 1) := by decide +kernel
theorem dL_law_434 : decode cL_law 434 = .ok (.iload_n 3, 1) := by decide +kernel
theorem dL_law_435 : decode cL_law 435 = .ok (.iconst 1, 1) := by decide +kernel
theorem dL_law_436 : decode cL_law 436 = .ok (.iadd, 1) := by decide +kernel
theorem dL_law_437 : decode cL_law 437 = .ok (.iaload, 1) := by decide +kernel
theorem dL_law_438 : decode cL_law 438 = .ok (.invokevirtual 55, 3) := by decide +kernel
theorem dL_law_441 : decode cL_law 441 = .ok (.if_icmp .eq 416, 3) := by decide +kernel
theorem dL_law_444 : decode cL_law 444 = .ok (.iconst 0, 1) := by decide +kernel
theorem dL_law_445 : decode cL_law 445 = .ok (.ireturn, 1) := by decide +kernel
theorem dL_law_446 : decode cL_law 446 = .ok (.aload_n 1, 1) := by decide +kernel
theorem dL_law_447 : decode cL_law 447 = .ok (.aload_n 0, 1) := by decide +kernel
theorem dL_law_448 : decode cL_law 448 = .ok (.iload_n 3, 1) := by decide +kernel
theorem dL_law_449 : decode cL_law 449 = .ok (.iconst 1, 1) := by decide +kernel
theorem dL_law_450 : decode cL_law 450 = .ok (.iadd, 1) := by decide +kernel
theorem dL_law_451 : decode cL_law 451 = .ok (.iaload, 1) := by decide +kernel
theorem dL_law_452 : decode cL_law 452 = .ok (.aload_n 0, 1) := by decide +kernel
theorem dL_law_453 : decode cL_law 453 = .ok (.iload_n 3, 1) := by decide +kernel
theorem dL_law_454 : decode cL_law 454 = .ok (.iconst 2, 1) := by decide +kernel
theorem dL_law_455 : decode cL_law 455 = .ok (.iadd, 1) := by decide +kernel
theorem dL_law_456 : decode cL_law 456 = .ok (.iaload, 1) := by decide +kernel
theorem dL_law_457 : decode cL_law 457 = .ok (.invokevirtual 56, 3) := by decide +kernel
theorem dL_law_460 : decode cL_law 460 = .ok (.aload_n 2, 1) := by decide +kernel
theorem dL_law_461 : decode cL_law 461 = .ok (.aload_n 0, 1) := by decide +kernel
theorem dL_law_462 : decode cL_law 462 = .ok (.iload_n 3, 1) := by decide +kernel
theorem dL_law_463 : decode cL_law 463 = .ok (.iconst 1, 1) := by decide +kernel
theorem dL_law_464 : decode cL_law 464 = .ok (.iadd, 1) := by decide +kernel
theorem dL_law_465 : decode cL_law 465 = .ok (.iaload, 1) := by decide +kernel
theorem dL_law_466 : decode cL_law 466 = .ok (.aload_n 0, 1) := by decide +kernel
theorem dL_law_467 : decode cL_law 467 = .ok (.iload_n 3, 1) := by decide +kernel
theorem dL_law_468 : decode cL_law 468 = .ok (.iconst 2, 1) := by decide +kernel
theorem dL_law_469 : decode cL_law 469 = .ok (.iadd, 1) := by decide +kernel
theorem dL_law_470 : decode cL_law 470 = .ok (.iaload, 1) := by decide +kernel
theorem dL_law_471 : decode cL_law 471 = .ok (.invokevirtual 59, 3) := by decide +kernel
theorem dL_law_474 : decode cL_law 474 = .ok (.if_icmp .eq 383, 3) := by decide +kernel
theorem dL_law_477 : decode cL_law 477 = .ok (.iconst 0, 1) := by decide +kernel
theorem dL_law_478 : decode cL_law 478 = .ok (.ireturn, 1) := by decide +kernel
theorem dL_law_479 : decode cL_law 479 = .ok (.aload_n 1, 1) := by decide +kernel
theorem dL_law_480 : decode cL_law 480 = .ok (.aload_n 0, 1) := by decide +kernel
theorem dL_law_481 : decode cL_law 481 = .ok (.iload_n 3, 1) := by decide +kernel
theorem dL_law_482 : decode cL_law 482 = .ok (.iconst 1, 1) := by decide +kernel
theorem dL_law_483 : decode cL_law 483 = .ok (.iadd, 1) := by decide +kernel
theorem dL_law_484 : decode cL_law 484 = .ok (.iaload, 1) := by decide +kernel
theorem dL_law_485 : decode cL_law 485 = .ok (.aload_n 0, 1) := by decide +kernel
theorem dL_law_486 : decode cL_law 486 = .ok (.iload_n 3, 1) := by decide +kernel
theorem dL_law_487 : decode cL_law 487 = .ok (.iconst 2, 1) := by decide +kernel
theorem dL_law_488 : decode cL_law 488 = .ok (.iadd, 1) := by decide +kernel
theorem dL_law_489 : decode cL_law 489 = .ok (.iaload, 1) := by decide +kernel
theorem dL_law_490 : decode cL_law 490 = .ok (.invokevirtual 60, 3) := by decide +kernel
theorem dL_law_493 : decode cL_law 493 = .ok (.aload_n 2, 1) := by decide +kernel
theorem dL_law_494 : decode cL_law 494 = .ok (.aload_n 0, 1) := by decide +kernel
theorem dL_law_495 : decode cL_law 495 = .ok (.iload_n 3, 1) := by decide +kernel
theorem dL_law_496 : decode cL_law 496 = .ok (.iconst 1, 1) := by decide +kernel
theorem dL_law_497 : decode cL_law 497 = .ok (.iadd, 1) := by decide +kernel
theorem dL_law_498 : decode cL_law 498 = .ok (.iaload, 1) := by decide +kernel
theorem dL_law_499 : decode cL_law 499 = .ok (.aload_n 0, 1) := by decide +kernel
theorem dL_law_500 : decode cL_law 500 = .ok (.iload_n 3, 1) := by decide +kernel
theorem dL_law_501 : decode cL_law 501 = .ok (.iconst 2, 1) := by decide +kernel
theorem dL_law_502 : decode cL_law 502 = .ok (.iadd, 1) := by decide +kernel
theorem dL_law_503 : decode cL_law 503 = .ok (.iaload, 1) := by decide +kernel
theorem dL_law_504 : decode cL_law 504 = .ok (.invokevirtual 63, 3) := by decide +kernel
theorem dL_law_507 : decode cL_law 507 = .ok (.if_icmp .eq 350, 3) := by decide +kernel
theorem dL_law_510 : decode cL_law 510 = .ok (.iconst 0, 1) := by decide +kernel
theorem dL_law_511 : decode cL_law 511 = .ok (.ireturn, 1) := by decide +kernel
theorem dL_law_512 : decode cL_law 512 = .ok (.aload_n 1, 1) := by decide +kernel
theorem dL_law_513 : decode cL_law 513 = .ok (.aload_n 0, 1) := by decide +kernel
theorem dL_law_514 : decode cL_law 514 = .ok (.iload_n 3, 1) := by decide +kernel
theorem dL_law_515 : decode cL_law 515 = .ok (.iconst 1, 1) := by decide +kernel
theorem dL_law_516 : decode cL_law 516 = .ok (.iadd, 1) := by decide +kernel
theorem dL_law_517 : decode cL_law 517 = .ok (.iaload, 1) := by decide +kernel
theorem dL_law_518 : decode cL_law 518 = .ok (.aload_n 0, 1) := by decide +kernel
theorem dL_law_519 : decode cL_law 519 = .ok (.iload_n 3, 1) := by decide +kernel
theorem dL_law_520 : decode cL_law 520 = .ok (.iconst 2, 1) := by decide +kernel
theorem dL_law_521 : decode cL_law 521 = .ok (.iadd, 1) := by decide +kernel
theorem dL_law_522 : decode cL_law 522 = .ok (.iaload, 1) := by decide +kernel
theorem dL_law_523 : decode cL_law 523 = .ok (.invokevirtual 64, 3) := by decide +kernel
theorem dL_law_526 : decode cL_law 526 = .ok (.aload_n 2, 1) := by decide +kernel
theorem dL_law_527 : decode cL_law 527 = .ok (.aload_n 0, 1) := by decide +kernel
theorem dL_law_528 : decode cL_law 528 = .ok (.iload_n 3, 1) := by decide +kernel
theorem dL_law_529 : decode cL_law 529 = .ok (.iconst 1, 1) := by decide +kernel
theorem dL_law_530 : decode cL_law 530 = .ok (.iadd, 1) := by decide +kernel
theorem dL_law_531 : decode cL_law 531 = .ok (.iaload, 1) := by decide +kernel
theorem dL_law_532 : decode cL_law 532 = .ok (.aload_n 0, 1) := by decide +kernel
theorem dL_law_533 : decode cL_law 533 = .ok (.iload_n 3, 1) := by decide +kernel
theorem dL_law_534 : decode cL_law 534 = .ok (.iconst 2, 1) := by decide +kernel
theorem dL_law_535 : decode cL_law 535 = .ok (.iadd, 1) := by decide +kernel
theorem dL_law_536 : decode cL_law 536 = .ok (.iaload, 1) := by decide +kernel
theorem dL_law_537 : decode cL_law 537 = .ok (.invokevirtual 67, 3) := by decide +kernel
theorem dL_law_540 : decode cL_law 540 = .ok (.if_icmp .eq 317, 3) := by decide +kernel
theorem dL_law_543 : decode cL_law 543 = .ok (.iconst 0, 1) := by decide +kernel
theorem dL_law_544 : decode cL_law 544 = .ok (.ireturn, 1) := by decide +kernel
theorem dL_law_545 : decode cL_law 545 = .ok (.aload_n 1, 1) := by decide +kernel
theorem dL_law_546 : decode cL_law 546 = .ok (.aload_n 0, 1) := by decide +kernel
theorem dL_law_547 : decode cL_law 547 = .ok (.iload_n 3, 1) := by decide +kernel
theorem dL_law_548 : decode cL_law 548 = .ok (.iconst 1, 1) := by decide +kernel
theorem dL_law_549 : decode cL_law 549 = .ok (.iadd, 1) := by decide +kernel
theorem dL_law_550 : decode cL_law 550 = .ok (.iaload, 1) := by decide +kernel
theorem dL_law_551 : decode cL_law 551 = .ok (.aload_n 0, 1) := by decide +kernel
theorem dL_law_552 : decode cL_law 552 = .ok (.iload_n 3, 1) := by decide +kernel
theorem dL_law_553 : decode cL_law 553 = .ok (.iconst 2, 1) := by decide +kernel
theorem dL_law_554 : decode cL_law 554 = .ok (.iadd, 1) := by decide +kernel
theorem dL_law_555 : decode cL_law 555 = .ok (.iaload, 1) := by decide +kernel
theorem dL_law_556 : decode cL_law 556 = .ok (.invokevirtual 68, 3) := by decide +kernel
theorem dL_law_559 : decode cL_law 559 = .ok (.aload_n 2, 1) := by decide +kernel
theorem dL_law_560 : decode cL_law 560 = .ok (.aload_n 0, 1) := by decide +kernel
theorem dL_law_561 : decode cL_law 561 = .ok (.iload_n 3, 1) := by decide +kernel
theorem dL_law_562 : decode cL_law 562 = .ok (.iconst 1, 1) := by decide +kernel
theorem dL_law_563 : decode cL_law 563 = .ok (.iadd, 1) := by decide +kernel
theorem dL_law_564 : decode cL_law 564 = .ok (.iaload, 1) := by decide +kernel
theorem dL_law_565 : decode cL_law 565 = .ok (.aload_n 0, 1) := by decide +kernel
theorem dL_law_566 : decode cL_law 566 = .ok (.iload_n 3, 1) := by decide +kernel
theorem dL_law_567 : decode cL_law 567 = .ok (.iconst 2, 1) := by decide +kernel
theorem dL_law_568 : decode cL_law 568 = .ok (.iadd, 1) := by decide +kernel
theorem dL_law_569 : decode cL_law 569 = .ok (.iaload, 1) := by decide +kernel
theorem dL_law_570 : decode cL_law 570 = .ok (.invokevirtual 71, 3) := by decide +kernel
theorem dL_law_573 : decode cL_law 573 = .ok (.if_icmp .eq 284, 3) := by decide +kernel
theorem dL_law_576 : decode cL_law 576 = .ok (.iconst 0, 1) := by decide +kernel
theorem dL_law_577 : decode cL_law 577 = .ok (.ireturn, 1) := by decide +kernel
theorem dL_law_578 : decode cL_law 578 = .ok (.aload_n 1, 1) := by decide +kernel
theorem dL_law_579 : decode cL_law 579 = .ok (.aload_n 0, 1) := by decide +kernel
theorem dL_law_580 : decode cL_law 580 = .ok (.iload_n 3, 1) := by decide +kernel
theorem dL_law_581 : decode cL_law 581 = .ok (.iconst 1, 1) := by decide +kernel
theorem dL_law_582 : decode cL_law 582 = .ok (.iadd, 1) := by decide +kernel
theorem dL_law_583 : decode cL_law 583 = .ok (.iaload, 1) := by decide +kernel
theorem dL_law_584 : decode cL_law 584 = .ok (.aload_n 0, 1) := by decide +kernel
theorem dL_law_585 : decode cL_law 585 = .ok (.iload_n 3, 1) := by decide +kernel
theorem dL_law_586 : decode cL_law 586 = .ok (.iconst 2, 1) := by decide +kernel
theorem dL_law_587 : decode cL_law 587 = .ok (.iadd, 1) := by decide +kernel
theorem dL_law_588 : decode cL_law 588 = .ok (.iaload, 1) := by decide +kernel
theorem dL_law_589 : decode cL_law 589 = .ok (.invokevirtual 72, 3) := by decide +kernel
theorem dL_law_592 : decode cL_law 592 = .ok (.aload_n 2, 1) := by decide +kernel
theorem dL_law_593 : decode cL_law 593 = .ok (.aload_n 0, 1) := by decide +kernel
theorem dL_law_594 : decode cL_law 594 = .ok (.iload_n 3, 1) := by decide +kernel
theorem dL_law_595 : decode cL_law 595 = .ok (.iconst 1, 1) := by decide +kernel
theorem dL_law_596 : decode cL_law 596 = .ok (.iadd, 1) := by decide +kernel
theorem dL_law_597 : decode cL_law 597 = .ok (.iaload, 1) := by decide +kernel
theorem dL_law_598 : decode cL_law 598 = .ok (.aload_n 0, 1) := by decide +kernel
theorem dL_law_599 : decode cL_law 599 = .ok (.iload_n 3, 1) := by decide +kernel
theorem dL_law_600 : decode cL_law 600 = .ok (.iconst 2, 1) := by decide +kernel
theorem dL_law_601 : decode cL_law 601 = .ok (.iadd, 1) := by decide +kernel
theorem dL_law_602 : decode cL_law 602 = .ok (.iaload, 1) := by decide +kernel
theorem dL_law_603 : decode cL_law 603 = .ok (.invokevirtual 75, 3) := by decide +kernel
theorem dL_law_606 : decode cL_law 606 = .ok (.if_icmp .eq 251, 3) := by decide +kernel
theorem dL_law_609 : decode cL_law 609 = .ok (.iconst 0, 1) := by decide +kernel
theorem dL_law_610 : decode cL_law 610 = .ok (.ireturn, 1) := by decide +kernel
theorem dL_law_611 : decode cL_law 611 = .ok (.aload_n 1, 1) := by decide +kernel
theorem dL_law_612 : decode cL_law 612 = .ok (.aload_n 0, 1) := by decide +kernel
theorem dL_law_613 : decode cL_law 613 = .ok (.iload_n 3, 1) := by decide +kernel
theorem dL_law_614 : decode cL_law 614 = .ok (.iconst 1, 1) := by decide +kernel
theorem dL_law_615 : decode cL_law 615 = .ok (.iadd, 1) := by decide +kernel
theorem dL_law_616 : decode cL_law 616 = .ok (.iaload, 1) := by decide +kernel
theorem dL_law_617 : decode cL_law 617 = .ok (.invokevirtual 76, 3) := by decide +kernel
theorem dL_law_620 : decode cL_law 620 = .ok (.aload_n 2, 1) := by decide +kernel
theorem dL_law_621 : decode cL_law 621 = .ok (.aload_n 0, 1) := by decide +kernel
theorem dL_law_622 : decode cL_law 622 = .ok (.iload_n 3, 1) := by decide +kernel
theorem dL_law_623 : decode cL_law 623 = .ok (.iconst 1, 1) := by decide +kernel
theorem dL_law_624 : decode cL_law 624 = .ok (.iadd, 1) := by decide +kernel
theorem dL_law_625 : decode cL_law 625 = .ok (.iaload, 1) := by decide +kernel
theorem dL_law_626 : decode cL_law 626 = .ok (.invokevirtual 79, 3) := by decide +kernel
theorem dL_law_629 : decode cL_law 629 = .ok (.if_icmp .eq 228, 3) := by decide +kernel
theorem dL_law_632 : decode cL_law 632 = .ok (.iconst 0, 1) := by decide +kernel
theorem dL_law_633 : decode cL_law 633 = .ok (.ireturn, 1) := by decide +kernel
theorem dL_law_634 : decode cL_law 634 = .ok (.aload_n 1, 1) := by decide +kernel
theorem dL_law_635 : decode cL_law 635 = .ok (.aload_n 0, 1) := by decide +kernel
theorem dL_law_636 : decode cL_law 636 = .ok (.iload_n 3, 1) := by decide +kernel
theorem dL_law_637 : decode cL_law 637 = .ok (.iconst 1, 1) := by decide +kernel
theorem dL_law_638 : decode cL_law 638 = .ok (.iadd, 1) := by decide +kernel
theorem dL_law_639 : decode cL_law 639 = .ok (.iaload, 1) := by decide +kernel
theorem dL_law_640 : decode cL_law 640 = .ok (.aload_n 0, 1) := by decide +kernel
theorem dL_law_641 : decode cL_law 641 = .ok (.iload_n 3, 1) := by decide +kernel
theorem dL_law_642 : decode cL_law 642 = .ok (.iconst 2, 1) := by decide +kernel
theorem dL_law_643 : decode cL_law 643 = .ok (.iadd, 1) := by decide +kernel
theorem dL_law_644 : decode cL_law 644 = .ok (.iaload, 1) := by decide +kernel
theorem dL_law_645 : decode cL_law 645 = .ok (.invokevirtual 80, 3) := by decide +kernel
theorem dL_law_648 : decode cL_law 648 = .ok (.aload_n 2, 1) := by decide +kernel
theorem dL_law_649 : decode cL_law 649 = .ok (.aload_n 0, 1) := by decide +kernel
theorem dL_law_650 : decode cL_law 650 = .ok (.iload_n 3, 1) := by decide +kernel
theorem dL_law_651 : decode cL_law 651 = .ok (.iconst 1, 1) := by decide +kernel
theorem dL_law_652 : decode cL_law 652 = .ok (.iadd, 1) := by decide +kernel
theorem dL_law_653 : decode cL_law 653 = .ok (.iaload, 1) := by decide +kernel
theorem dL_law_654 : decode cL_law 654 = .ok (.aload_n 0, 1) := by decide +kernel
theorem dL_law_655 : decode cL_law 655 = .ok (.iload_n 3, 1) := by decide +kernel
theorem dL_law_656 : decode cL_law 656 = .ok (.iconst 2, 1) := by decide +kernel
theorem dL_law_657 : decode cL_law 657 = .ok (.iadd, 1) := by decide +kernel
theorem dL_law_658 : decode cL_law 658 = .ok (.iaload, 1) := by decide +kernel
theorem dL_law_659 : decode cL_law 659 = .ok (.invokevirtual 83, 3) := by decide +kernel
theorem dL_law_662 : decode cL_law 662 = .ok (.if_icmp .eq 195, 3) := by decide +kernel
theorem dL_law_665 : decode cL_law 665 = .ok (.iconst 0, 1) := by decide +kernel
theorem dL_law_666 : decode cL_law 666 = .ok (.ireturn, 1) := by decide +kernel
theorem dL_law_667 : decode cL_law 667 = .ok (.aload_n 1, 1) := by decide +kernel
theorem dL_law_668 : decode cL_law 668 = .ok (.aload_n 0, 1) := by decide +kernel
theorem dL_law_669 : decode cL_law 669 = .ok (.iload_n 3, 1) := by decide +kernel
theorem dL_law_670 : decode cL_law 670 = .ok (.iconst 1, 1) := by decide +kernel
theorem dL_law_671 : decode cL_law 671 = .ok (.iadd, 1) := by decide +kernel
theorem dL_law_672 : decode cL_law 672 = .ok (.iaload, 1) := by decide +kernel
theorem dL_law_673 : decode cL_law 673 = .ok (.aload_n 0, 1) := by decide +kernel
theorem dL_law_674 : decode cL_law 674 = .ok (.iload_n 3, 1) := by decide +kernel
theorem dL_law_675 : decode cL_law 675 = .ok (.iconst 2, 1) := by decide +kernel
theorem dL_law_676 : decode cL_law 676 = .ok (.iadd, 1) := by decide +kernel
theorem dL_law_677 : decode cL_law 677 = .ok (.iaload, 1) := by decide +kernel
theorem dL_law_678 : decode cL_law 678 = .ok (.invokevirtual 84, 3) := by decide +kernel
theorem dL_law_681 : decode cL_law 681 = .ok (.aload_n 2, 1) := by decide +kernel
theorem dL_law_682 : decode cL_law 682 = .ok (.aload_n 0, 1) := by decide +kernel
theorem dL_law_683 : decode cL_law 683 = .ok (.iload_n 3, 1) := by decide +kernel
theorem dL_law_684 : decode cL_law 684 = .ok (.iconst 1, 1) := by decide +kernel
theorem dL_law_685 : decode cL_law 685 = .ok (.iadd, 1) := by decide +kernel
theorem dL_law_686 : decode cL_law 686 = .ok (.iaload, 1) := by decide +kernel
theorem dL_law_687 : decode cL_law 687 = .ok (.aload_n 0, 1) := by decide +kernel
theorem dL_law_688 : decode cL_law 688 = .ok (.iload_n 3, 1) := by decide +kernel
theorem dL_law_689 : decode cL_law 689 = .ok (.iconst 2, 1) := by decide +kernel
theorem dL_law_690 : decode cL_law 690 = .ok (.iadd, 1) := by decide +kernel
theorem dL_law_691 : decode cL_law 691 = .ok (.iaload, 1) := by decide +kernel
theorem dL_law_692 : decode cL_law 692 = .ok (.invokevirtual 87, 3) := by decide +kernel
theorem dL_law_695 : decode cL_law 695 = .ok (.if_icmp .eq 162, 3) := by decide +kernel
theorem dL_law_698 : decode cL_law 698 = .ok (.iconst 0, 1) := by decide +kernel
theorem dL_law_699 : decode cL_law 699 = .ok (.ireturn, 1) := by decide +kernel
theorem dL_law_700 : decode cL_law 700 = .ok (.aload_n 1, 1) := by decide +kernel
theorem dL_law_701 : decode cL_law 701 = .ok (.aload_n 0, 1) := by decide +kernel
theorem dL_law_702 : decode cL_law 702 = .ok (.iload_n 3, 1) := by decide +kernel
theorem dL_law_703 : decode cL_law 703 = .ok (.iconst 1, 1) := by decide +kernel
theorem dL_law_704 : decode cL_law 704 = .ok (.iadd, 1) := by decide +kernel
theorem dL_law_705 : decode cL_law 705 = .ok (.iaload, 1) := by decide +kernel
theorem dL_law_706 : decode cL_law 706 = .ok (.invokevirtual 88, 3) := by decide +kernel
theorem dL_law_709 : decode cL_law 709 = .ok (.aload_n 2, 1) := by decide +kernel
theorem dL_law_710 : decode cL_law 710 = .ok (.aload_n 0, 1) := by decide +kernel
theorem dL_law_711 : decode cL_law 711 = .ok (.iload_n 3, 1) := by decide +kernel
theorem dL_law_712 : decode cL_law 712 = .ok (.iconst 1, 1) := by decide +kernel
theorem dL_law_713 : decode cL_law 713 = .ok (.iadd, 1) := by decide +kernel
theorem dL_law_714 : decode cL_law 714 = .ok (.iaload, 1) := by decide +kernel
theorem dL_law_715 : decode cL_law 715 = .ok (.invokevirtual 91, 3) := by decide +kernel
theorem dL_law_718 : decode cL_law 718 = .ok (.if_icmp .eq 139, 3) := by decide +kernel
theorem dL_law_721 : decode cL_law 721 = .ok (.iconst 0, 1) := by decide +kernel
theorem dL_law_722 : decode cL_law 722 = .ok (.ireturn, 1) := by decide +kernel
theorem dL_law_723 : decode cL_law 723 = .ok (.aload_n 1, 1) := by decide +kernel
theorem dL_law_724 : decode cL_law 724 = .ok (.invokevirtual 92, 3) := by decide +kernel
theorem dL_law_727 : decode cL_law 727 = .ok (.aload_n 2, 1) := by decide +kernel
theorem dL_law_728 : decode cL_law 728 = .ok (.invokevirtual 96, 3) := by decide +kernel
theorem dL_law_731 : decode cL_law 731 = .ok (.if_icmp .eq 126, 3) := by decide +kernel
theorem dL_law_734 : decode cL_law 734 = .ok (.iconst 0, 1) := by decide +kernel
theorem dL_law_735 : decode cL_law 735 = .ok (.ireturn, 1) := by decide +kernel
theorem dL_law_736 : decode cL_law 736 = .ok (.aload_n 1, 1) := by decide +kernel
theorem dL_law_737 : decode cL_law 737 = .ok (.invokevirtual 97, 3) := by decide +kernel
theorem dL_law_740 : decode cL_law 740 = .ok (.aload_n 2, 1) := by decide +kernel
theorem dL_law_741 : decode cL_law 741 = .ok (.invokevirtual 100, 3) := by decide +kernel
theorem dL_law_744 : decode cL_law 744 = .ok (.if_icmp .eq 113, 3) := by decide +kernel
theorem dL_law_747 : decode cL_law 747 = .ok (.iconst 0, 1) := by decide +kernel
theorem dL_law_748 : decode cL_law 748 = .ok (.ireturn, 1) := by decide +kernel
theorem dL_law_749 : decode cL_law 749 = .ok (.aload_n 1, 1) := by decide +kernel
theorem dL_law_750 : decode cL_law 750 = .ok (.aload_n 0, 1) := by decide +kernel
theorem dL_law_751 : decode cL_law 751 = .ok (.iload_n 3, 1) := by decide +kernel
theorem dL_law_752 : decode cL_law 752 = .ok (.iconst 1, 1) := by decide +kernel
theorem dL_law_753 : decode cL_law 753 = .ok (.iadd, 1) := by decide +kernel
theorem dL_law_754 : decode cL_law 754 = .ok (.iaload, 1) := by decide +kernel
theorem dL_law_755 : decode cL_law 755 = .ok (.invokevirtual 101, 3) := by decide +kernel
theorem dL_law_758 : decode cL_law 758 = .ok (.aload_n 2, 1) := by decide +kernel
theorem dL_law_759 : decode cL_law 759 = .ok (.aload_n 0, 1) := by decide +kernel
theorem dL_law_760 : decode cL_law 760 = .ok (.iload_n 3, 1) := by decide +kernel
theorem dL_law_761 : decode cL_law 761 = .ok (.iconst 1, 1) := by decide +kernel
theorem dL_law_762 : decode cL_law 762 = .ok (.iadd, 1) := by decide +kernel
theorem dL_law_763 : decode cL_law 763 = .ok (.iaload, 1) := by decide +kernel
theorem dL_law_764 : decode cL_law 764 = .ok (.invokevirtual 104, 3) := by decide +kernel
theorem dL_law_767 : decode cL_law 767 = .ok (.if_icmp .eq 90, 3) := by decide +kernel
theorem dL_law_770 : decode cL_law 770 = .ok (.iconst 0, 1) := by decide +kernel
theorem dL_law_771 : decode cL_law 771 = .ok (.ireturn, 1) := by decide +kernel
theorem dL_law_772 : decode cL_law 772 = .ok (.aload_n 1, 1) := by decide +kernel
theorem dL_law_773 : decode cL_law 773 = .ok (.invokevirtual 105, 3) := by decide +kernel
theorem dL_law_776 : decode cL_law 776 = .ok (.aload_n 2, 1) := by decide +kernel
theorem dL_law_777 : decode cL_law 777 = .ok (.invokevirtual 108, 3) := by decide +kernel
theorem dL_law_780 : decode cL_law 780 = .ok (.if_icmp .eq 77, 3) := by decide +kernel
theorem dL_law_783 : decode cL_law 783 = .ok (.iconst 0, 1) := by decide +kernel
theorem dL_law_784 : decode cL_law 784 = .ok (.ireturn, 1) := by decide +kernel
theorem dL_law_785 : decode cL_law 785 = .ok (.aload_n 1, 1) := by decide +kernel
theorem dL_law_786 : decode cL_law 786 = .ok (.aload_n 0, 1) := by decide +kernel
theorem dL_law_787 : decode cL_law 787 = .ok (.iload_n 3, 1) := by decide +kernel
theorem dL_law_788 : decode cL_law 788 = .ok (.iconst 1, 1) := by decide +kernel
theorem dL_law_789 : decode cL_law 789 = .ok (.iadd, 1) := by decide +kernel
theorem dL_law_790 : decode cL_law 790 = .ok (.iaload, 1) := by decide +kernel
theorem dL_law_791 : decode cL_law 791 = .ok (.invokevirtual 109, 3) := by decide +kernel
theorem dL_law_794 : decode cL_law 794 = .ok (.aload_n 2, 1) := by decide +kernel
theorem dL_law_795 : decode cL_law 795 = .ok (.aload_n 0, 1) := by decide +kernel
theorem dL_law_796 : decode cL_law 796 = .ok (.iload_n 3, 1) := by decide +kernel
theorem dL_law_797 : decode cL_law 797 = .ok (.iconst 1, 1) := by decide +kernel
theorem dL_law_798 : decode cL_law 798 = .ok (.iadd, 1) := by decide +kernel
theorem dL_law_799 : decode cL_law 799 = .ok (.iaload, 1) := by decide +kernel
theorem dL_law_800 : decode cL_law 800 = .ok (.invokevirtual 112, 3) := by decide +kernel
theorem dL_law_803 : decode cL_law 803 = .ok (.if_icmp .eq 54, 3) := by decide +kernel
theorem dL_law_806 : decode cL_law 806 = .ok (.iconst 0, 1) := by decide +kernel
theorem dL_law_807 : decode cL_law 807 = .ok (.ireturn, 1) := by decide +kernel
theorem dL_law_808 : decode cL_law 808 = .ok (.aload_n 1, 1) := by decide +kernel
theorem dL_law_809 : decode cL_law 809 = .ok (.invokevirtual 113, 3) := by decide +kernel
theorem dL_law_812 : decode cL_law 812 = .ok (.aload_n 2, 1) := by decide +kernel
theorem dL_law_813 : decode cL_law 813 = .ok (.invokevirtual 116, 3) := by decide +kernel
theorem dL_law_816 : decode cL_law 816 = .ok (.if_icmp .eq 41, 3) := by decide +kernel
theorem dL_law_819 : decode cL_law 819 = .ok (.iconst 0, 1) := by decide +kernel
theorem dL_law_820 : decode cL_law 820 = .ok (.ireturn, 1) := by decide +kernel
theorem dL_law_821 : decode cL_law 821 = .ok (.aload_n 1, 1) := by decide +kernel
theorem dL_law_822 : decode cL_law 822 = .ok (.aload_n 0, 1) := by decide +kernel
theorem dL_law_823 : decode cL_law 823 = .ok (.iload_n 3, 1) := by decide +kernel
theorem dL_law_824 : decode cL_law 824 = .ok (.iconst 1, 1) := by decide +kernel
theorem dL_law_825 : decode cL_law 825 = .ok (.iadd, 1) := by decide +kernel
theorem dL_law_826 : decode cL_law 826 = .ok (.iaload, 1) := by decide +kernel
theorem dL_law_827 : decode cL_law 827 = .ok (.invokevirtual 117, 3) := by decide +kernel
theorem dL_law_830 : decode cL_law 830 = .ok (.aload_n 2, 1) := by decide +kernel
theorem dL_law_831 : decode cL_law 831 = .ok (.aload_n 0, 1) := by decide +kernel
theorem dL_law_832 : decode cL_law 832 = .ok (.iload_n 3, 1) := by decide +kernel
theorem dL_law_833 : decode cL_law 833 = .ok (.iconst 1, 1) := by decide +kernel
theorem dL_law_834 : decode cL_law 834 = .ok (.iadd, 1) := by decide +kernel
theorem dL_law_835 : decode cL_law 835 = .ok (.iaload, 1) := by decide +kernel
theorem dL_law_836 : decode cL_law 836 = .ok (.invokevirtual 120, 3) := by decide +kernel
theorem dL_law_839 : decode cL_law 839 = .ok (.if_icmp .eq 18, 3) := by decide +kernel
theorem dL_law_842 : decode cL_law 842 = .ok (.iconst 0, 1) := by decide +kernel
theorem dL_law_843 : decode cL_law 843 = .ok (.ireturn, 1) := by decide +kernel
theorem dL_law_844 : decode cL_law 844 = .ok (.aload_n 1, 1) := by decide +kernel
theorem dL_law_845 : decode cL_law 845 = .ok (.invokevirtual 121, 3) := by decide +kernel
theorem dL_law_848 : decode cL_law 848 = .ok (.aload_n 2, 1) := by decide +kernel
theorem dL_law_849 : decode cL_law 849 = .ok (.invokevirtual 124, 3) := by decide +kernel
theorem dL_law_852 : decode cL_law 852 = .ok (.if_icmp .eq 5, 3) := by decide +kernel
theorem dL_law_855 : decode cL_law 855 = .ok (.iconst 0, 1) := by decide +kernel
theorem dL_law_856 : decode cL_law 856 = .ok (.ireturn, 1) := by decide +kernel
theorem dL_law_857 : decode cL_law 857 = .ok (.iinc 3 4, 3) := by decide +kernel
theorem dL_law_860 : decode cL_law 860 = .ok (.goto (-842), 3) := by decide +kernel
theorem dL_law_863 : decode cL_law 863 = .ok (.iconst 1, 1) := by decide +kernel
theorem dL_law_864 : decode cL_law 864 = .ok (.ireturn, 1) := by decide +kernel
end
section
/-! the frame of the whole proof: worlds of cells by group and place, one judgement, one row an instruction -/
abbrev cj_cl : List vw_C := [(RX0, TX0, 10), (RX1, TX1, 3), (RX2, TX2, 7), (RX3, TX3, 8), (RX4, TX4, 4), (RX5, TX5, 3), (RX6, TX6, 6), (RX7, TX7, 6), (RX8, TX8, 6), (RX9, TX9, 15)]
def cj_ws : List Cond := lw_tbl.filter goodWord
theorem cj_mem {w : Cond} (i : Nat) (h : lw_tbl[i]? = some w) (hg : goodWord w = true) : w ∈ cj_ws := List.mem_filter.mpr ⟨List.mem_of_getElem? h, hg⟩
theorem cj_good {ws : List Cond} (h : GoodIn lw_tbl ws) : ∀ w ∈ ws, w ∈ cj_ws := fun w hw => List.mem_filter.mpr ⟨(h w hw).1, by
  rcases (h w hw).2 with q | ⟨ty, rfl⟩
  · cases w <;> first | rfl | exact q
  · rfl⟩
def cj_nst : List (String × Nat × MethodName × String) := [
  ("CourtJotter", 9, ⟨"CourtJotter$Court", "<init>", "()V"⟩, "CourtJotter"),
  ("CourtJotter$Court", 20, ⟨"CourtJotter$Sheets", "<init>", "()V"⟩, "CourtJotter"),
  ("CourtJotter$Court", 27, ⟨"CourtJotter$Papers", "<init>", "()V"⟩, "CourtJotter"),
  ("CourtJotter$History", 17, ⟨"CourtJotter$Court", "<init>", "()V"⟩, "CourtJotter"),
  ("CourtJotter", 28, ⟨"CourtJotter$Text", "<init>", "()V"⟩, "CourtJotter"),
  ("CourtJotter", 35, ⟨"CourtJotter$Rehearsal", "<init>", "()V"⟩, "CourtJotter"),
  ("CourtJotter", 42, ⟨"CourtJotter$Sale", "<init>", "()V"⟩, "CourtJotter"),
  ("CourtJotter$People", 37, ⟨"CourtJotter", "copyRow", "([I[I)V"⟩, "CourtJotter"),
  ("CourtJotter$Sheets", 31, ⟨"CourtJotter", "copyRow", "([I[I)V"⟩, "CourtJotter"),
  ("CourtJotter$Papers", 34, ⟨"CourtJotter", "copyRow", "([I[I)V"⟩, "CourtJotter"),
  ("CourtJotter$Court", 64, ⟨"CourtJotter", "isWithin", "(III)Z"⟩, "CourtJotter"),
  ("CourtJotter$Court", 117, ⟨"CourtJotter", "hasBit", "(II)Z"⟩, "CourtJotter"),
  ("CourtJotter$People", 57, ⟨"CourtJotter", "hasBit", "(II)Z"⟩, "CourtJotter"),
  ("CourtJotter$Text", 15, ⟨"CourtJotter", "isWithin", "(III)Z"⟩, "CourtJotter")]
theorem cj_nst_tbl : ∀ q ∈ cj_nst, Cond.methodLinkNest q.1 q.2.1 q.2.2.1 q.2.2.2 ∈ lw_tbl := by decide +kernel
def cj_NW (U : State) : Prop := ∀ q ∈ cj_nst, va_Nw (.methodLinkNest q.1 q.2.1 q.2.2.1 q.2.2.2) U
theorem cj_NW.warm {s U : State} (hW : s.WarmedH U.vm) (h : cj_NW s) : cj_NW U := fun q hq => va_Nw.warmM hW (h q hq)
theorem cj_NW.same {u U : State} (h : u.vm = U.vm) (hn : cj_NW u) : cj_NW U := fun q hq => va_Nw.same rfl h (hn q hq)
abbrev cj_Zc : Type := ClassId × ClassId × ClassId
abbrev cj_ty (z : cj_Zc) : List (ClassId × FieldType) := [(z.1, .int), (z.2.1, .char), (z.2.2, .object RX0)]
def cj_K (D : va_G) (z : cj_Zc) (U : State) : Prop := va_K D cj_cl (cj_ty z) U ∧ cj_NW U
theorem cj_K.warm {D : va_G} {z : cj_Zc} {s U : State} (hW : s.WarmedH U.vm) (h : cj_K D z s) : cj_K D z U := ⟨va_K.moved hW.alike h.1, h.2.warm hW⟩
theorem cj_K.same {D : va_G} {z : cj_Zc} {u U : State} (e : u.vm = U.vm) (h : cj_K D z u) : cj_K D z U := ⟨va_K.moved (by rw [← e]; exact Vm.Alike.refl u.vm) h.1, h.2.same e⟩
abbrev cj_Mm : Type := Nat → Nat → Nat → Int32
abbrev cj_Ad : Type := Nat → Nat → Nat
abbrev cj_Fc : Type := (Nat → Int32) → va_E
abbrev cj_En : Type := cj_Ad → Nat → Nat → Option cj_Fc
def cj_Wd (E : cj_En) (D : va_G) (ad : cj_Ad) (μ : cj_Mm) (H : Heap) : Prop := ∀ g k F, E ad g k = some F → va_at D cj_cl (ad g k, F (μ g k)) H
def cj_Ij (E : cj_En) (ad : cj_Ad) : Prop := ∀ g k g' k' F F', E ad g k = some F → E ad g' k' = some F' → ad g k = ad g' k' → g = g' ∧ k = k'
def cj_A (E : cj_En) (ad : cj_Ad) : Nat → Prop := fun q => ∃ g k F, E ad g k = some F ∧ q = ad g k
abbrev cj_Y : Type := cj_En × va_G × cj_Zc × cj_Ad
abbrev cj_X : Type := Program × Launch × Env × Room × State × MethodId × Array Value × List Frame × Method × Code
def cj_Q (Y : cj_Y) (o : Option Value × cj_Mm) : Array Value → State → Outcome → State → Prop := fun _ st oc t => oc = .returned o.1 ∧ cj_Wd Y.1 Y.2.1 Y.2.2.2 o.2 t.heap ∧ va_F (cj_A Y.1 Y.2.2.2) st t
def cj_G (Y : cj_Y) (X : cj_X) (o : Option Value × cj_Mm) (μ : cj_Mm) (pc : Nat) (lv : List (Nat × Value)) (st : List Value) : Prop :=
  ∀ (H : Heap) (locs : List Loc) (ls : Array Slot), cj_Wd Y.1 Y.2.1 Y.2.2.2 μ H → va_S (cj_A Y.1 Y.2.2.2) X.2.2.2.2.1.heap H locs → lv_has ls X.2.2.2.2.2.2.2.2.2.maxLocals lv →
    W X.1 X.2.1 X.2.2.1 X.2.2.2.1 X.2.2.2.2.1 X.2.2.2.2.2.1 X.2.2.2.2.2.2.1 X.2.2.2.2.2.2.2.1 X.2.2.2.2.2.2.2.2.1 X.2.2.2.2.2.2.2.2.2 H locs 0 0 (MQ X.2.2.2.2.2.2.2.1 (cj_Q Y o) X.2.2.2.2.2.2.1 X.2.2.2.2.1 0 0 (cj_A Y.1 Y.2.2.2)) (F0 X.2.2.2.2.2.1 pc ls st)
/-- what a walk rests on -/
def cj_C (Y : cj_Y) (X : cj_X) (cc : ByteArray) (nL : Nat) (own : String) (d : Nat) (ret : Option FieldType) : Prop :=
  X.1.tables.exec = Jvm.exec ∧ X.2.2.2.2.2.2.2.2.2.code = cc ∧ X.2.2.2.2.2.2.2.2.2.maxLocals = nL ∧ X.2.2.2.2.1.vm.findClass own = some X.2.2.2.2.2.1.cls ∧ (∀ w ∈ cj_ws, w.before X.2.2.2.2.2.2.1 X.2.2.2.2.1 = true) ∧ cj_K Y.2.1 Y.2.2.1 X.2.2.2.2.1 ∧ cj_Ij Y.1 Y.2.2.2 ∧ X.2.2.2.2.2.2.2.2.1.locks = false ∧ X.2.2.2.2.2.2.2.2.1.sig.returnType = ret ∧ X.2.2.2.1.frames = d ∧ X.2.2.2.1.locals = 37 * d ∧ X.2.2.2.1.cells = 0 ∧ X.2.2.2.1.slots = 0
abbrev cj_ms (y : MethodName) (cc : ByteArray) (nL : Nat) (ret : Option FieldType) : List Cond := .code y cc nL ret :: cj_ws
/-- a method's contract: over the whole world, from memory μ to memory μ' with the answer v -/
def cj_Ct (l : Launch) (Y : cj_Y) (y : MethodName) (cc : ByteArray) (nL : Nat) (ret : Option FieldType) (d : Nat) (args : List Value) (μ : cj_Mm) (v : Option Value) (μ' : cj_Mm) : Prop :=
  Met l y (cj_ms y cc nL ret) ({ frames := d, cells := 0, slots := 0, locals := 37 * d }) (va_Pc args (fun U => cj_Wd Y.1 Y.2.1 Y.2.2.2 μ U.heap ∧ cj_K Y.2.1 Y.2.2.1 U)) (cj_Q Y (v, μ')) 0 0 (cj_A Y.1 Y.2.2.2)
set_option maxHeartbeats 4000000 in
theorem cj_Ct.of {l : Launch} {Y : cj_Y} {y : MethodName} {cc : ByteArray} {nL : Nat} {ret : Option FieldType} {d : Nat} {args : List Value} {μ μ' : cj_Mm} {v : Option Value} (hy : plainName y.cls = true) (hI : cj_Ij Y.1 Y.2.2.2) (hn : (lg_sl args).length ≤ nL) (lv : List (Nat × Value)) (hlv : lv_args 0 args = lv)
    (body : ∀ X : cj_X, X.2.1 = l → cj_C Y X cc nL y.cls d ret → cj_G Y X (v, μ') μ 0 lv []) : cj_Ct l Y y cc nL ret d args μ v μ' := by
  refine Met.ofW (cc := cc) (maxL := nL) (ret := ret) hy rfl ?_
  intro p e s m args' below meth c s₁ B hml hv
  obtain ⟨rfl, hP, hK⟩ := hv
  have hts := atoms_spec (ws := cj_ms y cc nL ret) B.pre
  have hown : s.vm.findClass y.cls = some m.cls := findClass_of_methodNamed B.named
  have hl := lv_entry args (n := nL) hn
  rw [lg_entry_eq]
  rw [hlv, ← hml] at hl
  exact body (p, l, e, _, s, m, args.toArray, below, meth, c) rfl ⟨B.exec, B.bytes, hml, hown, fun w hw => hts w (List.mem_cons_of_mem _ hw), hK, hI, B.notSynchronized, B.returns, rfl, rfl, rfl, rfl⟩ s.heap [] _ hP va_S.rf (by rw [hml] at hl ⊢; exact hl)
section CJ1
variable {Y : cj_Y} {X : cj_X} {o : Option Value × cj_Mm} {μ : cj_Mm} {pc : Nat} {lv lv' : List (Nat × Value)} {st : List Value} {cc : ByteArray} {nL d : Nat} {own : String} {ret : Option FieldType}
theorem cj_iload_n (C : cj_C Y X cc nL own d ret) {k : Fin 4} {i : Nat} {x : Int32} (hdg : decode cc pc = .ok (.iload_n k, 1)) (hi : (k : Nat) = i) (j : Nat) (hl : lv[j]? = some (i, .int x)) (kk : cj_G Y X o μ (pc + 1) lv (.int x :: st)) : cj_G Y X o μ pc lv st :=
  fun H locs ls hW hS hL => lv_iload_n C.1 C.2.1 hdg hi (lv_at hL j hl) (kk H locs ls hW hS hL)
theorem cj_iload (C : cj_C Y X cc nL own d ret) {i : Nat} {x : Int32} (hdg : decode cc pc = .ok (.iload i, 2)) (j : Nat) (hl : lv[j]? = some (i, .int x)) (kk : cj_G Y X o μ (pc + 2) lv (.int x :: st)) : cj_G Y X o μ pc lv st :=
  fun H locs ls hW hS hL => lv_iload C.1 C.2.1 hdg (lv_at hL j hl) (kk H locs ls hW hS hL)
theorem cj_aload_n (C : cj_C Y X cc nL own d ret) {k : Fin 4} {i : Nat} {x : Nat} (hdg : decode cc pc = .ok (.aload_n k, 1)) (hi : (k : Nat) = i) (j : Nat) (hl : lv[j]? = some (i, .ref x)) (kk : cj_G Y X o μ (pc + 1) lv (.ref x :: st)) : cj_G Y X o μ pc lv st :=
  fun H locs ls hW hS hL => lv_aload_n C.1 C.2.1 hdg hi (lv_at hL j hl) (kk H locs ls hW hS hL)
theorem cj_aload (C : cj_C Y X cc nL own d ret) {i : Nat} {x : Nat} (hdg : decode cc pc = .ok (.aload i, 2)) (j : Nat) (hl : lv[j]? = some (i, .ref x)) (kk : cj_G Y X o μ (pc + 2) lv (.ref x :: st)) : cj_G Y X o μ pc lv st :=
  fun H locs ls hW hS hL => lv_aload C.1 C.2.1 hdg (lv_at hL j hl) (kk H locs ls hW hS hL)
theorem cj_fload_n (C : cj_C Y X cc nL own d ret) {k : Fin 4} {i : Nat} {x : UInt32} (hdg : decode cc pc = .ok (.fload_n k, 1)) (hi : (k : Nat) = i) (j : Nat) (hl : lv[j]? = some (i, .float x)) (kk : cj_G Y X o μ (pc + 1) lv (.float x :: st)) : cj_G Y X o μ pc lv st :=
  fun H locs ls hW hS hL => lv_fload_n C.1 C.2.1 hdg hi (lv_at hL j hl) (kk H locs ls hW hS hL)
theorem cj_iconst (C : cj_C Y X cc nL own d ret) {n : Int} (v : Int32) (hdg : decode cc pc = .ok (.iconst n, 1)) (hv : Int32.ofInt n = v) (kk : cj_G Y X o μ (pc + 1) lv (.int v :: st)) : cj_G Y X o μ pc lv st :=
  fun H locs ls hW hS hL => lv_iconst C.1 C.2.1 hdg hv (kk H locs ls hW hS hL)
theorem cj_bipush (C : cj_C Y X cc nL own d ret) {n : Int} (v : Int32) (hdg : decode cc pc = .ok (.bipush n, 2)) (hv : (Int8.ofInt n).toInt32 = v) (kk : cj_G Y X o μ (pc + 2) lv (.int v :: st)) : cj_G Y X o μ pc lv st :=
  fun H locs ls hW hS hL => lv_bipush C.1 C.2.1 hdg hv (kk H locs ls hW hS hL)
theorem cj_sipush (C : cj_C Y X cc nL own d ret) {n : Int} (v : Int32) (hdg : decode cc pc = .ok (.sipush n, 3)) (hv : (Int16.ofInt n).toInt32 = v) (kk : cj_G Y X o μ (pc + 3) lv (.int v :: st)) : cj_G Y X o μ pc lv st :=
  fun H locs ls hW hS hL => lv_sipush C.1 C.2.1 hdg hv (kk H locs ls hW hS hL)
theorem cj_ldc (C : cj_C Y X cc nL own d ret) {index : Nat} {v : Int32} (hw : Cond.constant own index v ∈ cj_ws) (hdg : decode cc pc = .ok (.ldc index, 2)) (kk : cj_G Y X o μ (pc + 2) lv (.int v :: st)) : cj_G Y X o μ pc lv st :=
  fun H locs ls hW hS hL => lv_ldc C.1 C.2.1 C.2.2.2.1 (C.2.2.2.2.1 _ hw) hdg (kk H locs ls hW hS hL)
theorem cj_ldcw (C : cj_C Y X cc nL own d ret) {index : Nat} {v : Int32} (hw : Cond.constant own index v ∈ cj_ws) (hdg : decode cc pc = .ok (.ldc_w index, 3)) (kk : cj_G Y X o μ (pc + 3) lv (.int v :: st)) : cj_G Y X o μ pc lv st :=
  fun H locs ls hW hS hL => lv_ldcw C.1 C.2.1 C.2.2.2.1 (C.2.2.2.2.1 _ hw) hdg (kk H locs ls hW hS hL)
theorem cj_ldcf (C : cj_C Y X cc nL own d ret) {index : Nat} {v : UInt32} (hw : Cond.constantFloat own index v ∈ cj_ws) (hdg : decode cc pc = .ok (.ldc index, 2)) (kk : cj_G Y X o μ (pc + 2) lv (.float v :: st)) : cj_G Y X o μ pc lv st :=
  fun H locs ls hW hS hL => lv_ldcf C.1 C.2.1 C.2.2.2.1 (C.2.2.2.2.1 _ hw) hdg (kk H locs ls hW hS hL)
theorem cj_istore_n (C : cj_C Y X cc nL own d ret) {k : Fin 4} {i : Nat} {x : Int32} (hdg : decode cc pc = .ok (.istore_n k, 1)) (hi : (k : Nat) = i) (hn : i < nL) (hl : (i, Value.int x) :: lv.filter (fun q => !(q.1 == i) && !(q.1 + 1 == i && q.2.category == 2)) = lv') (kk : cj_G Y X o μ (pc + 1) lv' st) : cj_G Y X o μ pc lv (.int x :: st) :=
  fun H locs ls hW hS hL => lv_istore_n C.1 C.2.1 hdg hi hL (by rw [C.2.2.1]; exact hn) hl (fun ls' h => kk H locs ls' hW hS h)
theorem cj_istore (C : cj_C Y X cc nL own d ret) {i : Nat} {x : Int32} (hdg : decode cc pc = .ok (.istore i, 2)) (hn : i < nL) (hl : (i, Value.int x) :: lv.filter (fun q => !(q.1 == i) && !(q.1 + 1 == i && q.2.category == 2)) = lv') (kk : cj_G Y X o μ (pc + 2) lv' st) : cj_G Y X o μ pc lv (.int x :: st) :=
  fun H locs ls hW hS hL => lv_istore C.1 C.2.1 hdg hL (by rw [C.2.2.1]; exact hn) hl (fun ls' h => kk H locs ls' hW hS h)
theorem cj_astore_n (C : cj_C Y X cc nL own d ret) {k : Fin 4} {i : Nat} {x : Nat} (hdg : decode cc pc = .ok (.astore_n k, 1)) (hi : (k : Nat) = i) (hn : i < nL) (hl : (i, Value.ref x) :: lv.filter (fun q => !(q.1 == i) && !(q.1 + 1 == i && q.2.category == 2)) = lv') (kk : cj_G Y X o μ (pc + 1) lv' st) : cj_G Y X o μ pc lv (.ref x :: st) :=
  fun H locs ls hW hS hL => lv_astore_n C.1 C.2.1 hdg hi hL (by rw [C.2.2.1]; exact hn) hl (fun ls' h => kk H locs ls' hW hS h)
theorem cj_fstore_n (C : cj_C Y X cc nL own d ret) {k : Fin 4} {i : Nat} {x : UInt32} (hdg : decode cc pc = .ok (.fstore_n k, 1)) (hi : (k : Nat) = i) (hn : i < nL) (hl : (i, Value.float x) :: lv.filter (fun q => !(q.1 == i) && !(q.1 + 1 == i && q.2.category == 2)) = lv') (kk : cj_G Y X o μ (pc + 1) lv' st) : cj_G Y X o μ pc lv (.float x :: st) :=
  fun H locs ls hW hS hL => lv_fstore_n C.1 C.2.1 hdg hi hL (by rw [C.2.2.1]; exact hn) hl (fun ls' h => kk H locs ls' hW hS h)
theorem cj_iinc (C : cj_C Y X cc nL own d ret) {i j : Nat} {n : Int} {x v : Int32} (hdg : decode cc pc = .ok (.iinc i n, 3)) (hk : lv[j]? = some (i, .int x)) (hv : x + Int32.ofInt n = v) (hn : i < nL) (hl : (i, Value.int v) :: lv.filter (fun q => !(q.1 == i) && !(q.1 + 1 == i && q.2.category == 2)) = lv') (kk : cj_G Y X o μ (pc + 3) lv' st) : cj_G Y X o μ pc lv st :=
  fun H locs ls hW hS hL => lv_iinc C.1 C.2.1 hdg hL hk hv (by rw [C.2.2.1]; exact hn) hl (fun ls' h => kk H locs ls' hW hS h)
theorem cj_iadd (C : cj_C Y X cc nL own d ret) {x y : Int32} (hdg : decode cc pc = .ok (.iadd, 1)) (kk : cj_G Y X o μ (pc + 1) lv (.int (x + y) :: st)) : cj_G Y X o μ pc lv (.int y :: .int x :: st) := fun H locs ls hW hS hL => lv_iadd C.1 C.2.1 hdg (kk H locs ls hW hS hL)
theorem cj_isub (C : cj_C Y X cc nL own d ret) {x y : Int32} (hdg : decode cc pc = .ok (.isub, 1)) (kk : cj_G Y X o μ (pc + 1) lv (.int (x - y) :: st)) : cj_G Y X o μ pc lv (.int y :: .int x :: st) := fun H locs ls hW hS hL => lv_isub C.1 C.2.1 hdg (kk H locs ls hW hS hL)
theorem cj_imul (C : cj_C Y X cc nL own d ret) {x y : Int32} (hdg : decode cc pc = .ok (.imul, 1)) (kk : cj_G Y X o μ (pc + 1) lv (.int (x * y) :: st)) : cj_G Y X o μ pc lv (.int y :: .int x :: st) := fun H locs ls hW hS hL => lv_imul C.1 C.2.1 hdg (kk H locs ls hW hS hL)
theorem cj_idiv (C : cj_C Y X cc nL own d ret) {x y : Int32} (hdg : decode cc pc = .ok (.idiv, 1)) (hne : ¬ y = 0) (kk : cj_G Y X o μ (pc + 1) lv (.int (x / y) :: st)) : cj_G Y X o μ pc lv (.int y :: .int x :: st) := fun H locs ls hW hS hL => lv_idiv C.1 C.2.1 hdg hne (kk H locs ls hW hS hL)
theorem cj_irem (C : cj_C Y X cc nL own d ret) {x y : Int32} (hdg : decode cc pc = .ok (.irem, 1)) (hne : ¬ y = 0) (kk : cj_G Y X o μ (pc + 1) lv (.int (x - x / y * y) :: st)) : cj_G Y X o μ pc lv (.int y :: .int x :: st) := fun H locs ls hW hS hL => lv_irem C.1 C.2.1 hdg hne (kk H locs ls hW hS hL)
theorem cj_iand (C : cj_C Y X cc nL own d ret) {x y : Int32} (hdg : decode cc pc = .ok (.iand, 1)) (kk : cj_G Y X o μ (pc + 1) lv (.int (x &&& y) :: st)) : cj_G Y X o μ pc lv (.int y :: .int x :: st) := fun H locs ls hW hS hL => lv_iand C.1 C.2.1 hdg (kk H locs ls hW hS hL)
theorem cj_ior (C : cj_C Y X cc nL own d ret) {x y : Int32} (hdg : decode cc pc = .ok (.ior, 1)) (kk : cj_G Y X o μ (pc + 1) lv (.int (x ||| y) :: st)) : cj_G Y X o μ pc lv (.int y :: .int x :: st) := fun H locs ls hW hS hL => lv_ior C.1 C.2.1 hdg (kk H locs ls hW hS hL)
theorem cj_ixor (C : cj_C Y X cc nL own d ret) {x y : Int32} (hdg : decode cc pc = .ok (.ixor, 1)) (kk : cj_G Y X o μ (pc + 1) lv (.int (x ^^^ y) :: st)) : cj_G Y X o μ pc lv (.int y :: .int x :: st) := fun H locs ls hW hS hL => lv_ixor C.1 C.2.1 hdg (kk H locs ls hW hS hL)
theorem cj_ishl (C : cj_C Y X cc nL own d ret) {x y : Int32} (hdg : decode cc pc = .ok (.ishl, 1)) (kk : cj_G Y X o μ (pc + 1) lv (.int (x <<< (y &&& 31)) :: st)) : cj_G Y X o μ pc lv (.int y :: .int x :: st) := fun H locs ls hW hS hL => lv_ishl C.1 C.2.1 hdg (kk H locs ls hW hS hL)
theorem cj_ishr (C : cj_C Y X cc nL own d ret) {x y : Int32} (hdg : decode cc pc = .ok (.ishr, 1)) (kk : cj_G Y X o μ (pc + 1) lv (.int (x >>> (y &&& 31)) :: st)) : cj_G Y X o μ pc lv (.int y :: .int x :: st) := fun H locs ls hW hS hL => lv_ishr C.1 C.2.1 hdg (kk H locs ls hW hS hL)
/-- unsigned shift -/
def cj_us (x y : Int32) : Int32 := (x.toUInt32 >>> (y.toUInt32 &&& Int32.toUInt32 31)).toInt32
theorem cj_iushr (C : cj_C Y X cc nL own d ret) {x y : Int32} (hdg : decode cc pc = .ok (.iushr, 1)) (kk : cj_G Y X o μ (pc + 1) lv (.int (cj_us x y) :: st)) : cj_G Y X o μ pc lv (.int y :: .int x :: st) := fun H locs ls hW hS hL => lv_iushr C.1 C.2.1 hdg rfl (kk H locs ls hW hS hL)
theorem cj_ineg (C : cj_C Y X cc nL own d ret) {x : Int32} (hdg : decode cc pc = .ok (.ineg, 1)) (kk : cj_G Y X o μ (pc + 1) lv (.int (-x) :: st)) : cj_G Y X o μ pc lv (.int x :: st) := fun H locs ls hW hS hL => lv_ineg C.1 C.2.1 hdg (kk H locs ls hW hS hL)
/-- to a char -/
def cj_ch (x : Int32) : Int32 := (x.toUInt32 % 65536).toInt32
theorem cj_i2c (C : cj_C Y X cc nL own d ret) {x : Int32} (hdg : decode cc pc = .ok (.i2c, 1)) (kk : cj_G Y X o μ (pc + 1) lv (.int (cj_ch x) :: st)) : cj_G Y X o μ pc lv (.int x :: st) := fun H locs ls hW hS hL => lv_i2c C.1 C.2.1 hdg rfl (kk H locs ls hW hS hL)
theorem cj_i2f (C : cj_C Y X cc nL own d ret) {x : Int32} (hdg : decode cc pc = .ok (.i2f, 1)) (kk : cj_G Y X o μ (pc + 1) lv (.float (FP.i2f x) :: st)) : cj_G Y X o μ pc lv (.int x :: st) := fun H locs ls hW hS hL => lv_i2f C.1 C.2.1 hdg (kk H locs ls hW hS hL)
theorem cj_f2i (C : cj_C Y X cc nL own d ret) {x : UInt32} (hdg : decode cc pc = .ok (.f2i, 1)) (kk : cj_G Y X o μ (pc + 1) lv (.int (FP.f2i x) :: st)) : cj_G Y X o μ pc lv (.float x :: st) := fun H locs ls hW hS hL => lv_f2i C.1 C.2.1 hdg (kk H locs ls hW hS hL)
theorem cj_fcmp (C : cj_C Y X cc nL own d ret) {x y : UInt32} {op : CmpOp} (hdg : decode cc pc = .ok (.fcmp op, 1)) (kk : cj_G Y X o μ (pc + 1) lv (.int (Op.cmpValue (FP.fcmp x y) op) :: st)) : cj_G Y X o μ pc lv (.float y :: .float x :: st) := fun H locs ls hW hS hL => lv_fcmp C.1 C.2.1 hdg (kk H locs ls hW hS hL)
theorem cj_dup (C : cj_C Y X cc nL own d ret) {a : Value} (hdg : decode cc pc = .ok (.dup, 1)) (ha : a.category = 1) (kk : cj_G Y X o μ (pc + 1) lv (a :: a :: st)) : cj_G Y X o μ pc lv (a :: st) := fun H locs ls hW hS hL => lv_dup C.1 C.2.1 hdg ha (kk H locs ls hW hS hL)
theorem cj_goto (C : cj_C Y X cc nL own d ret) {off : Int} (tgt : Nat) (hdg : decode cc pc = .ok (.goto off, 3)) (ht : (pc : Int) + off = (tgt : Int)) (kk : cj_G Y X o μ tgt lv st) : cj_G Y X o μ pc lv st := fun H locs ls hW hS hL => lv_goto C.1 C.2.1 hdg ht (kk H locs ls hW hS hL)
theorem cj_sub (ks : List Nat) (hl : lv_pick lv ks = lv') (kk : cj_G Y X o μ pc lv' st) : cj_G Y X o μ pc lv st := fun H locs ls hW hS hL => kk H locs ls hW hS (lv_sub hL ks hl)
end CJ1
end
section
/-! functions' words: a guard of an index, a name for a value, what comes behind a call -/
def cj_gd {α : Type} (i : Int32) (n : Nat) (k : Option α) : Option α := if i < 0 ∨ n ≤ i.toNatClampNeg then none else k
theorem cj_gd_s {α : Type} {i : Int32} {n : Nat} {k : Option α} {r : α} (h : cj_gd i n k = some r) : vp_in i n ∧ k = some r := by
  unfold cj_gd at h
  by_cases q : i < 0 ∨ n ≤ i.toNatClampNeg
  · rw [if_pos q] at h; cases h
  · rw [if_neg q] at h; exact ⟨q, h⟩
def cj_gp {α : Type} (p : Prop) [Decidable p] (k : Option α) : Option α := if p then k else none
theorem cj_gp_s {α : Type} {p : Prop} [Decidable p] {k : Option α} {r : α} (h : cj_gp p k = some r) : p ∧ k = some r := by
  unfold cj_gp at h
  by_cases q : p
  · rw [if_pos q] at h; exact ⟨q, h⟩
  · rw [if_neg q] at h; cases h
def cj_lt {α : Type} {β : Type} (v : α) (K : α → β) : β := K v
def cj_bd {α : Type} {β : Type} (x : Option α) (k : α → Option β) : Option β := x.bind k
theorem cj_bd_s {α : Type} {β : Type} {x : Option α} {k : α → Option β} {r : β} (h : cj_bd x k = some r) : ∃ a, x = some a ∧ k a = some r := by
  unfold cj_bd at h
  exact Option.bind_eq_some_iff.mp h
def cj_bp {α : Type} {β : Type} {γ : Type} (x : Option (α × β)) (k : α → β → Option γ) : Option γ := x.bind (fun p => k p.1 p.2)
theorem cj_bp_s {α : Type} {β : Type} {γ : Type} {x : Option (α × β)} {k : α → β → Option γ} {r : γ} (h : cj_bp x k = some r) : ∃ a b, x = some (a, b) ∧ k a b = some r := by
  unfold cj_bp at h
  obtain ⟨⟨a, b⟩, h1, h2⟩ := Option.bind_eq_some_iff.mp h
  exact ⟨a, b, h1, h2⟩
theorem cj_by {α : Type} {P : Prop} {x v : Int32} {A B : Option α} {r : α} (hf : (if x = v then A else B) = some r) (kt : x = v → A = some r → P) (kf : ¬ x = v → B = some r → P) : P := by
  by_cases q : x = v
  · rw [if_pos q] at hf; exact kt q hf
  · rw [if_neg q] at hf; exact kf q hf
/-! memories -/
def cj_upr (σ : Nat → Nat → Int32) (k : Nat) (f : Nat → Int32) : Nat → Nat → Int32 := fun a => if a = k then f else σ a
def cj_up2 (σ : Nat → Nat → Int32) (k j : Nat) (v : Int32) : Nat → Nat → Int32 := cj_upr σ k (upd (σ k) j v)
def cj_upG (μ : cj_Mm) (g : Nat) (σ : Nat → Nat → Int32) : cj_Mm := fun x => if x = g then σ else μ x
theorem cj_upr_s (σ : Nat → Nat → Int32) (k : Nat) (f : Nat → Int32) : cj_upr σ k f k = f := if_pos rfl
theorem cj_upr_o {σ : Nat → Nat → Int32} {k a : Nat} {f : Nat → Int32} (h : ¬ a = k) : cj_upr σ k f a = σ a := if_neg h
theorem cj_upG_s (μ : cj_Mm) (g : Nat) (σ : Nat → Nat → Int32) : cj_upG μ g σ g = σ := if_pos rfl
theorem cj_upG_o {μ : cj_Mm} {g x : Nat} {σ : Nat → Nat → Int32} (h : ¬ x = g) : cj_upG μ g σ x = μ x := if_neg h
theorem cj_upG_i (μ : cj_Mm) (g : Nat) : cj_upG μ g (μ g) = μ := by
  funext x
  unfold cj_upG
  by_cases h : x = g
  · rw [if_pos h, h]
  · rw [if_neg h]
theorem cj_upG_u (μ : cj_Mm) (g : Nat) (σ τ : Nat → Nat → Int32) : cj_upG (cj_upG μ g σ) g τ = cj_upG μ g τ := by
  funext x
  unfold cj_upG
  by_cases h : x = g
  · rw [if_pos h, if_pos h]
  · rw [if_neg h, if_neg h, if_neg h]
theorem cj_Wd.put {E : cj_En} {D : va_G} {ad : cj_Ad} {μ : cj_Mm} {H H1 : Heap} {g k : Nat} {F : cj_Fc} {f : Nat → Int32} (hW : cj_Wd E D ad μ H) (hI : cj_Ij E ad) (he : E ad g k = some F) (h1 : va_at D cj_cl (ad g k, F f) H1) (oq : ∀ q : Nat, q ≠ ad g k → H1[q]? = H[q]?) : cj_Wd E D ad (cj_upG μ g (cj_upr (μ g) k f)) H1 := by
  intro g' k' F' he'
  by_cases h : g' = g ∧ k' = k
  · obtain ⟨rfl, rfl⟩ := h
    rw [cj_upG_s, cj_upr_s]
    rw [he] at he'
    cases he'
    exact h1
  · have hne : ad g' k' ≠ ad g k := fun e => h (hI g' k' g k F' F he' he e)
    have hs : cj_upG μ g (cj_upr (μ g) k f) g' k' = μ g' k' := by
      by_cases hg : g' = g
      · subst hg
        rw [cj_upG_s, cj_upr_o (fun e => h ⟨rfl, e⟩)]
      · rw [cj_upG_o hg]
    rw [hs]
    exact (hW g' k' F' he').kept (oq _ hne)
section CJ2
variable {Y : cj_Y} {X : cj_X} {o : Option Value × cj_Mm} {μ : cj_Mm} {pc : Nat} {lv lv' : List (Nat × Value)} {st : List Value} {cc : ByteArray} {nL d : Nat} {own : String} {ret : Option FieldType} {α : Type} {A B : Option α} {r : α}
theorem cj_if_eq (C : cj_C Y X cc nL own d ret) {x : Int32} {off : Int} (tgt : Nat) (hdg : decode cc pc = .ok (.ifCond .eq off, 3)) (ht : (pc : Int) + off = (tgt : Int)) (hf : (if x = 0 then A else B) = some r) (kt : A = some r → cj_G Y X o μ tgt lv st) (kf : B = some r → cj_G Y X o μ (pc + 3) lv st) : cj_G Y X o μ pc lv (.int x :: st) :=
  fun H locs ls hW hS hL => lv_if_eq C.1 C.2.1 hdg ht (fun h => kt (by rw [if_pos h] at hf; exact hf) H locs ls hW hS hL) (fun h => kf (by rw [if_neg h] at hf; exact hf) H locs ls hW hS hL)
theorem cj_if_ne (C : cj_C Y X cc nL own d ret) {x : Int32} {off : Int} (tgt : Nat) (hdg : decode cc pc = .ok (.ifCond .ne off, 3)) (ht : (pc : Int) + off = (tgt : Int)) (hf : (if x = 0 then B else A) = some r) (kt : A = some r → cj_G Y X o μ tgt lv st) (kf : B = some r → cj_G Y X o μ (pc + 3) lv st) : cj_G Y X o μ pc lv (.int x :: st) :=
  fun H locs ls hW hS hL => lv_if_ne C.1 C.2.1 hdg ht (fun h => kt (by rw [if_neg h] at hf; exact hf) H locs ls hW hS hL) (fun h => kf (by rw [if_pos h] at hf; exact hf) H locs ls hW hS hL)
theorem cj_if_lt (C : cj_C Y X cc nL own d ret) {x : Int32} {off : Int} (tgt : Nat) (hdg : decode cc pc = .ok (.ifCond .lt off, 3)) (ht : (pc : Int) + off = (tgt : Int)) (hf : (if x < 0 then A else B) = some r) (kt : A = some r → cj_G Y X o μ tgt lv st) (kf : B = some r → cj_G Y X o μ (pc + 3) lv st) : cj_G Y X o μ pc lv (.int x :: st) :=
  fun H locs ls hW hS hL => lv_if_lt C.1 C.2.1 hdg ht (fun h => kt (by rw [if_pos h] at hf; exact hf) H locs ls hW hS hL) (fun h => kf (by rw [if_neg h] at hf; exact hf) H locs ls hW hS hL)
theorem cj_if_ge (C : cj_C Y X cc nL own d ret) {x : Int32} {off : Int} (tgt : Nat) (hdg : decode cc pc = .ok (.ifCond .ge off, 3)) (ht : (pc : Int) + off = (tgt : Int)) (hf : (if 0 ≤ x then A else B) = some r) (kt : A = some r → cj_G Y X o μ tgt lv st) (kf : B = some r → cj_G Y X o μ (pc + 3) lv st) : cj_G Y X o μ pc lv (.int x :: st) :=
  fun H locs ls hW hS hL => lv_if_ge C.1 C.2.1 hdg ht (fun h => kt (by rw [if_pos h] at hf; exact hf) H locs ls hW hS hL) (fun h => kf (by rw [if_neg h] at hf; exact hf) H locs ls hW hS hL)
theorem cj_if_gt (C : cj_C Y X cc nL own d ret) {x : Int32} {off : Int} (tgt : Nat) (hdg : decode cc pc = .ok (.ifCond .gt off, 3)) (ht : (pc : Int) + off = (tgt : Int)) (hf : (if 0 < x then A else B) = some r) (kt : A = some r → cj_G Y X o μ tgt lv st) (kf : B = some r → cj_G Y X o μ (pc + 3) lv st) : cj_G Y X o μ pc lv (.int x :: st) :=
  fun H locs ls hW hS hL => lv_if_gt C.1 C.2.1 hdg ht (fun h => kt (by rw [if_pos h] at hf; exact hf) H locs ls hW hS hL) (fun h => kf (by rw [if_neg h] at hf; exact hf) H locs ls hW hS hL)
theorem cj_if_le (C : cj_C Y X cc nL own d ret) {x : Int32} {off : Int} (tgt : Nat) (hdg : decode cc pc = .ok (.ifCond .le off, 3)) (ht : (pc : Int) + off = (tgt : Int)) (hf : (if x ≤ 0 then A else B) = some r) (kt : A = some r → cj_G Y X o μ tgt lv st) (kf : B = some r → cj_G Y X o μ (pc + 3) lv st) : cj_G Y X o μ pc lv (.int x :: st) :=
  fun H locs ls hW hS hL => lv_if_le C.1 C.2.1 hdg ht (fun h => kt (by rw [if_pos h] at hf; exact hf) H locs ls hW hS hL) (fun h => kf (by rw [if_neg h] at hf; exact hf) H locs ls hW hS hL)
theorem cj_ic_eq (C : cj_C Y X cc nL own d ret) {x y : Int32} {off : Int} (tgt : Nat) (hdg : decode cc pc = .ok (.if_icmp .eq off, 3)) (ht : (pc : Int) + off = (tgt : Int)) (hf : (if x = y then A else B) = some r) (kt : A = some r → cj_G Y X o μ tgt lv st) (kf : B = some r → cj_G Y X o μ (pc + 3) lv st) : cj_G Y X o μ pc lv (.int y :: .int x :: st) :=
  fun H locs ls hW hS hL => lv_icmp_eq C.1 C.2.1 hdg ht (fun h => kt (by rw [if_pos h] at hf; exact hf) H locs ls hW hS hL) (fun h => kf (by rw [if_neg h] at hf; exact hf) H locs ls hW hS hL)
theorem cj_ic_ne (C : cj_C Y X cc nL own d ret) {x y : Int32} {off : Int} (tgt : Nat) (hdg : decode cc pc = .ok (.if_icmp .ne off, 3)) (ht : (pc : Int) + off = (tgt : Int)) (hf : (if x = y then B else A) = some r) (kt : A = some r → cj_G Y X o μ tgt lv st) (kf : B = some r → cj_G Y X o μ (pc + 3) lv st) : cj_G Y X o μ pc lv (.int y :: .int x :: st) :=
  fun H locs ls hW hS hL => lv_icmp_ne C.1 C.2.1 hdg ht (fun h => kt (by rw [if_neg h] at hf; exact hf) H locs ls hW hS hL) (fun h => kf (by rw [if_pos h] at hf; exact hf) H locs ls hW hS hL)
theorem cj_ic_lt (C : cj_C Y X cc nL own d ret) {x y : Int32} {off : Int} (tgt : Nat) (hdg : decode cc pc = .ok (.if_icmp .lt off, 3)) (ht : (pc : Int) + off = (tgt : Int)) (hf : (if x < y then A else B) = some r) (kt : A = some r → cj_G Y X o μ tgt lv st) (kf : B = some r → cj_G Y X o μ (pc + 3) lv st) : cj_G Y X o μ pc lv (.int y :: .int x :: st) :=
  fun H locs ls hW hS hL => lv_icmp_lt C.1 C.2.1 hdg ht (fun h => kt (by rw [if_pos h] at hf; exact hf) H locs ls hW hS hL) (fun h => kf (by rw [if_neg h] at hf; exact hf) H locs ls hW hS hL)
theorem cj_ic_ge (C : cj_C Y X cc nL own d ret) {x y : Int32} {off : Int} (tgt : Nat) (hdg : decode cc pc = .ok (.if_icmp .ge off, 3)) (ht : (pc : Int) + off = (tgt : Int)) (hf : (if y ≤ x then A else B) = some r) (kt : A = some r → cj_G Y X o μ tgt lv st) (kf : B = some r → cj_G Y X o μ (pc + 3) lv st) : cj_G Y X o μ pc lv (.int y :: .int x :: st) :=
  fun H locs ls hW hS hL => lv_icmp_ge C.1 C.2.1 hdg ht (fun h => kt (by rw [if_pos h] at hf; exact hf) H locs ls hW hS hL) (fun h => kf (by rw [if_neg h] at hf; exact hf) H locs ls hW hS hL)
theorem cj_ic_gt (C : cj_C Y X cc nL own d ret) {x y : Int32} {off : Int} (tgt : Nat) (hdg : decode cc pc = .ok (.if_icmp .gt off, 3)) (ht : (pc : Int) + off = (tgt : Int)) (hf : (if y < x then A else B) = some r) (kt : A = some r → cj_G Y X o μ tgt lv st) (kf : B = some r → cj_G Y X o μ (pc + 3) lv st) : cj_G Y X o μ pc lv (.int y :: .int x :: st) :=
  fun H locs ls hW hS hL => lv_icmp_gt C.1 C.2.1 hdg ht (fun h => kt (by rw [if_pos h] at hf; exact hf) H locs ls hW hS hL) (fun h => kf (by rw [if_neg h] at hf; exact hf) H locs ls hW hS hL)
theorem cj_ic_le (C : cj_C Y X cc nL own d ret) {x y : Int32} {off : Int} (tgt : Nat) (hdg : decode cc pc = .ok (.if_icmp .le off, 3)) (ht : (pc : Int) + off = (tgt : Int)) (hf : (if x ≤ y then A else B) = some r) (kt : A = some r → cj_G Y X o μ tgt lv st) (kf : B = some r → cj_G Y X o μ (pc + 3) lv st) : cj_G Y X o μ pc lv (.int y :: .int x :: st) :=
  fun H locs ls hW hS hL => lv_icmp_le C.1 C.2.1 hdg ht (fun h => kt (by rw [if_pos h] at hf; exact hf) H locs ls hW hS hL) (fun h => kf (by rw [if_neg h] at hf; exact hf) H locs ls hW hS hL)
theorem cj_ifnull (C : cj_C Y X cc nL own d ret) {x : Nat} {off : Int} (hdg : decode cc pc = .ok (.ifnull off, 3)) (kk : cj_G Y X o μ (pc + 3) lv st) : cj_G Y X o μ pc lv (.ref x :: st) := fun H locs ls hW hS hL => lv_ifnull C.1 C.2.1 hdg (kk H locs ls hW hS hL)
theorem cj_dup2 (C : cj_C Y X cc nL own d ret) {a b : Value} (hdg : decode cc pc = .ok (.dup2, 1)) (ha : a.category = 1) (hb : b.category = 1) (kk : cj_G Y X o μ (pc + 1) lv (a :: b :: a :: b :: st)) : cj_G Y X o μ pc lv (a :: b :: st) := fun H locs ls hW hS hL => lv_dup2_11 C.1 C.2.1 hdg ha hb (kk H locs ls hW hS hL)
theorem cj_fconst0 (C : cj_C Y X cc nL own d ret) (hdg : decode cc pc = .ok (.fconst 0, 1)) (kk : cj_G Y X o μ (pc + 1) lv (.float FP.fconst0 :: st)) : cj_G Y X o μ pc lv st := fun H locs ls hW hS hL => lv_fconst0 C.1 C.2.1 hdg (kk H locs ls hW hS hL)
theorem cj_fconst1 (C : cj_C Y X cc nL own d ret) (hdg : decode cc pc = .ok (.fconst 1, 1)) (kk : cj_G Y X o μ (pc + 1) lv (.float FP.fconst1 :: st)) : cj_G Y X o μ pc lv st := fun H locs ls hW hS hL => lv_fconst1 C.1 C.2.1 hdg (kk H locs ls hW hS hL)
theorem cj_fconst2 (C : cj_C Y X cc nL own d ret) (hdg : decode cc pc = .ok (.fconst 2, 1)) (kk : cj_G Y X o μ (pc + 1) lv (.float FP.fconst2 :: st)) : cj_G Y X o μ pc lv st := fun H locs ls hW hS hL => lv_fconst2 C.1 C.2.1 hdg (kk H locs ls hW hS hL)
theorem cj_fdiv (C : cj_C Y X cc nL own d ret) {x y : UInt32} (hdg : decode cc pc = .ok (.fdiv, 1)) (hf : cj_gp (FP.fdiv x y &&& 0x7fffffff ≤ 0x7f800000) A = some r) (kk : A = some r → cj_G Y X o μ (pc + 1) lv (.float (FP.fdiv x y) :: st)) : cj_G Y X o μ pc lv (.float y :: .float x :: st) := fun H locs ls hW hS hL => lv_fdiv C.1 C.2.1 hdg (cj_gp_s hf).1 (kk (cj_gp_s hf).2 H locs ls hW hS hL)
theorem cj_fmul (C : cj_C Y X cc nL own d ret) {x y : UInt32} (hdg : decode cc pc = .ok (.fmul, 1)) (hf : cj_gp (FP.fmul x y &&& 0x7fffffff ≤ 0x7f800000) A = some r) (kk : A = some r → cj_G Y X o μ (pc + 1) lv (.float (FP.fmul x y) :: st)) : cj_G Y X o μ pc lv (.float y :: .float x :: st) := fun H locs ls hW hS hL => lv_fmul C.1 C.2.1 hdg (cj_gp_s hf).1 (kk (cj_gp_s hf).2 H locs ls hW hS hL)
theorem cj_fsub (C : cj_C Y X cc nL own d ret) {x y : UInt32} (hdg : decode cc pc = .ok (.fsub, 1)) (hf : cj_gp (FP.fsub x y &&& 0x7fffffff ≤ 0x7f800000) A = some r) (kk : A = some r → cj_G Y X o μ (pc + 1) lv (.float (FP.fsub x y) :: st)) : cj_G Y X o μ pc lv (.float y :: .float x :: st) := fun H locs ls hW hS hL => lv_fsub C.1 C.2.1 hdg (cj_gp_s hf).1 (kk (cj_gp_s hf).2 H locs ls hW hS hL)
/-! switches -/
theorem cj_tabI (C : cj_C Y X cc nL own d ret) {dflt lo hi : Int} {offs : Array Int} {len : Nat} {x v : Int32} {off : Int} (tgt : Nat) (h : x = v) (hdg : decode cc pc = .ok (.tableswitch dflt lo hi offs, len)) (h1 : ¬ v.toInt < lo) (h2 : ¬ hi < v.toInt) (ho : offs[(v.toInt - lo).toNat]? = some off) (ht : (pc : Int) + off = (tgt : Int)) (kk : cj_G Y X o μ tgt lv st) : cj_G Y X o μ pc lv (.int x :: st) := by
  subst h
  exact fun H locs ls hW hS hL => lv_tableIn C.1 C.2.1 hdg h1 h2 ho ht (kk H locs ls hW hS hL)
def cj_tck (pc tgt : Nat) (lo hi : Int) (offs : Array Int) (cs : List Int32) : Bool := (List.range (hi + 1 - lo).toNat).all fun k => cs.contains (Int32.ofInt (lo + k)) || (match offs[k]? with | some off => decide ((pc : Int) + off = (tgt : Int)) | none => false)
theorem cj_tabD (C : cj_C Y X cc nL own d ret) {dflt lo hi : Int} {offs : Array Int} {len : Nat} {x : Int32} (tgt : Nat) (cs : List Int32) (hn : ∀ v ∈ cs, ¬ x = v) (hdg : decode cc pc = .ok (.tableswitch dflt lo hi offs, len)) (hck : cj_tck pc tgt lo hi offs cs = true) (ht : (pc : Int) + dflt = (tgt : Int)) (kk : cj_G Y X o μ tgt lv st) : cj_G Y X o μ pc lv (.int x :: st) := by
  intro H locs ls hW hS hL
  by_cases h : x.toInt < lo ∨ hi < x.toInt
  · exact lv_tableOut C.1 C.2.1 hdg h ht (kk H locs ls hW hS hL)
  · have h1 : ¬ x.toInt < lo := fun q => h (Or.inl q)
    have h2 : ¬ hi < x.toInt := fun q => h (Or.inr q)
    have hk : (x.toInt - lo).toNat < (hi + 1 - lo).toNat := by omega
    have h3 := List.all_eq_true.mp hck _ (List.mem_range.mpr hk)
    have e1 : lo + ((x.toInt - lo).toNat : Int) = x.toInt := by omega
    rw [e1, Bool.or_eq_true] at h3
    rcases h3 with h3 | h3
    · have e2 : Int32.ofInt x.toInt = x := by simp
      rw [e2] at h3
      exact absurd rfl (hn x (by simpa using h3))
    · cases ho : offs[(x.toInt - lo).toNat]? with
      | none => rw [ho] at h3; cases h3
      | some off =>
        rw [ho] at h3
        exact lv_tableIn C.1 C.2.1 hdg h1 h2 ho (of_decide_eq_true h3) (kk H locs ls hW hS hL)
theorem cj_lkI (C : cj_C Y X cc nL own d ret) {dflt : Int} {ps : Array (Int × Int)} {len : Nat} {x v : Int32} {off : Int} (tgt : Nat) (h : x = v) (hdg : decode cc pc = .ok (.lookupswitch dflt ps, len)) (hp : (ps.toList.zip (ps.toList.drop 1)).all (fun (a, next) => a.1 < next.1) = true) (ho : Op.lookupswitch.offset ps.toList dflt v.toInt = off) (ht : (pc : Int) + off = (tgt : Int)) (kk : cj_G Y X o μ tgt lv st) : cj_G Y X o μ pc lv (.int x :: st) := by
  subst h
  exact fun H locs ls hW hS hL => lv_lookup C.1 C.2.1 hdg hp ho ht (kk H locs ls hW hS hL)
theorem cj_lkO (x : Int32) (dflt : Int) (cs : List Int32) (hn : ∀ v ∈ cs, ¬ x = v) : ∀ ps : List (Int × Int), ps.all (fun p => cs.contains (Int32.ofInt p.1)) = true → Op.lookupswitch.offset ps dflt x.toInt = dflt
  | [], _ => rfl
  | (a, b) :: ps, h => by
    rw [List.all_cons, Bool.and_eq_true] at h
    rw [Op.lookupswitch.offset_cons, if_neg, cj_lkO x dflt cs hn ps h.2]
    intro e
    have h1 := h.1
    simp only [e] at h1
    have e2 : Int32.ofInt x.toInt = x := by simp
    rw [e2] at h1
    exact absurd rfl (hn x (by simpa using h1))
theorem cj_lkD (C : cj_C Y X cc nL own d ret) {dflt : Int} {ps : Array (Int × Int)} {len : Nat} {x : Int32} (tgt : Nat) (cs : List Int32) (hn : ∀ v ∈ cs, ¬ x = v) (hdg : decode cc pc = .ok (.lookupswitch dflt ps, len)) (hp : (ps.toList.zip (ps.toList.drop 1)).all (fun (a, next) => a.1 < next.1) = true) (hck : ps.toList.all (fun p => cs.contains (Int32.ofInt p.1)) = true) (ht : (pc : Int) + dflt = (tgt : Int)) (kk : cj_G Y X o μ tgt lv st) : cj_G Y X o μ pc lv (.int x :: st) :=
  fun H locs ls hW hS hL => lv_lookup C.1 C.2.1 hdg hp (cj_lkO x dflt cs hn _ hck) ht (kk H locs ls hW hS hL)
/-! ends -/
theorem cj_iret (C : cj_C Y X cc nL own d (some .int)) {v : Int32} (ho : o = (some (.int v), μ)) (hdg : decode cc pc = .ok (.ireturn, 1)) : cj_G Y X o μ pc lv [.int v] := by
  subst ho
  exact fun H locs ls hW hS hL => W.iret C.1 C.2.1 C.2.2.2.2.2.2.2.2.1 (fun t ht _ => ⟨rfl, by rw [ht]; exact hW, hS.F ht⟩) hS.2.2 hdg (hlocks := C.2.2.2.2.2.2.2.1)
theorem cj_zret (C : cj_C Y X cc nL own d ret) {ty : FieldType} {v : Int32} (hr : ret = some ty) (hn : narrow ty (.int v) = .int v) (ho : o = (some (.int v), μ)) (hdg : decode cc pc = .ok (.ireturn, 1)) : cj_G Y X o μ pc lv [.int v] := by
  subst ho
  exact fun H locs ls hW hS hL => W.zret C.1 C.2.1 (by rw [← hr]; exact C.2.2.2.2.2.2.2.2.1) hn (fun t ht _ => ⟨rfl, by rw [ht]; exact hW, hS.F ht⟩) hS.2.2 hdg (hlocks := C.2.2.2.2.2.2.2.1)
theorem cj_vret (C : cj_C Y X cc nL own d none) (ho : o = (none, μ)) (hdg : decode cc pc = .ok (.return_, 1)) : cj_G Y X o μ pc lv [] := by
  subst ho
  exact fun H locs ls hW hS hL => W.vret C.1 C.2.1 C.2.2.2.2.2.2.2.2.1 (fun t ht _ => ⟨rfl, by rw [ht]; exact hW, hS.F ht⟩) hS.2.2 hdg (hlocks := C.2.2.2.2.2.2.2.1)
end CJ2
end
section
/-! the heap's rows -/
theorem cj_sg {D : va_G} {a : Nat} {e : va_E} {H : Heap} (h : va_at D cj_cl (a, e) H) : va_P D cj_cl [(a, e)] H := by
  intro k q hk
  match k, hk with
  | 0, hk => cases hk; exact h
  | k + 1, hk => cases hk
section CJ3
variable {Y : cj_Y} {X : cj_X} {o : Option Value × cj_Mm} {μ : cj_Mm} {pc : Nat} {lv lv' : List (Nat × Value)} {st : List Value} {cc : ByteArray} {nL d : Nat} {own : String} {ret : Option FieldType} {α : Type} {A B : Option α} {r : α}
theorem cj_get (C : cj_C Y X cc nL own d ret) {g k ci j N index : Nat} {F : cj_Fc} {fs : List Value} {Cn rn nm ds : String} {fn : Bool} {T : u_T} {v : Value} (he : Y.1 Y.2.2.2 g k = some F) (hF : F (μ g k) = .inr (ci, fs)) (hc : cj_cl[ci]? = some (Cn, T, N)) (hin : ∀ w ∈ u_ws Cn T N, w ∈ cj_ws) (hj : j < N) (hT : T j = (rn, nm, ds, fn)) (hl : Cond.fieldLink own index rn nm ds ∈ cj_ws) (hv : fs[j]? = some v) (hdg : decode cc pc = .ok (.getfield index, 3)) (kk : cj_G Y X o μ (pc + 3) lv (v :: st)) : cj_G Y X o μ pc lv (.ref (Y.2.2.2 g k) :: st) := by
  intro H locs ls hW hS hL
  have h1 := hW g k F he
  rw [hF] at h1
  exact va_get (D := Y.2.1) (ref := rn) (tys := cj_ty Y.2.2.1) C.1 C.2.1 C.2.2.2.2.1 hin C.2.2.2.1 C.2.2.2.2.2.1.1 (cj_sg h1) 0 rfl hc j hj (by rw [hT]; exact C.2.2.2.2.1 _ hl) (by rw [hT]; exact fun _ h => h) hv hdg (kk H locs ls hW hS hL)
theorem cj_put (C : cj_C Y X cc nL own d ret) {g k ci j N index : Nat} {F : cj_Fc} {fs fs' : List Value} {Cn rn nm ds : String} {T : u_T} {ty0 : Nat → FieldType} {ty : FieldType} {x : Int32} (he : Y.1 Y.2.2.2 g k = some F) (hF : F (μ g k) = .inr (ci, fs)) (hF' : F (upd (μ g k) j x) = .inr (ci, fs')) (hfs : fs' = fs.set j (.int x)) (hc : cj_cl[ci]? = some (Cn, T, N)) (hin : ∀ w ∈ u_ws Cn T N, w ∈ cj_ws) (hty : ∀ k, k < N → parseFieldDescriptor (T k).2.2.1 = some (ty0 k)) (hnm : ∀ a, a < N → ∀ b, b < N → a ≠ b → (T a).2.1 ≠ (T b).2.1) (hj : j < N) (hT : T j = (rn, nm, ds, false)) (hl : Cond.fieldLink own index rn nm ds ∈ cj_ws) (hd : parseFieldDescriptor ds = some ty) (hn : narrow ty (.int x) = .int x) (hfit : fits ty (.int x) = true) (hlen : j < fs.length) (hdg : decode cc pc = .ok (.putfield index, 3)) (kk : cj_G Y X o (cj_upG μ g (cj_up2 (μ g) k j x)) (pc + 3) lv st) : cj_G Y X o μ pc lv (.int x :: .ref (Y.2.2.2 g k) :: st) := by
  intro H locs ls hW hS hL
  have hts := C.2.2.2.2.1
  have hK := C.2.2.2.2.2.1.1
  have hap := va_apart (own := own) hts hin ty0 hty hnm hK hc
  have h1 := hW g k F he
  rw [hF] at h1
  obtain ⟨q, h2, cell, q1, q2, q3, q4⟩ := h1
  have hr : q = (Cn, T, N) := Option.some.inj (h2.symm.trans hc)
  subst hr
  obtain ⟨hSl, hfc, kC, hkC, hkind⟩ := hK.1 ci _ hc
  obtain ⟨cf, kf, fi, f, hi, hsl⟩ := hSl j hj
  have hlay := hts _ (hin _ (u_in_lay hj))
  unfold u_lay at hlay
  rw [if_neg (by rw [hT]; exact Bool.false_ne_true)] at hlay
  have hst := (u_facts hfc hkC (u_lays hts hin hj) hi).1
  have h6 := u_store hfc hkC hkind hlay hi (by rw [hT]; exact hd) hn hfit
  have hlk : (Cond.fieldLink own index (T j).1 (T j).2.1 (T j).2.2.1).before X.2.2.2.2.2.2.1 X.2.2.2.2.1 = true := by rw [hT]; exact hts _ hl
  refine W.putK C.1 C.2.1 (f := f) ⟨C.2.2.2.1, hlk, ⟨_, _, _, hi⟩, hst⟩ (by rw [q2]; exact h6) q1 q3 (by rw [hsl]; exact k2_hasslot (q4 j hj)) rfl rfl hdg fun H' e1 e2 e3 => ?_
  rw [hsl] at e1 ⊢
  refine kk H' _ ls (hW.put C.2.2.2.2.2.2.1 he ?_ e3) (hS.put e2 e3 ⟨g, k, F, he, rfl⟩) hL
  rw [hF', hfs]
  exact ⟨_, hc, t_OB.to (V := updV (vp_V fs) j (.int x)) ⟨_, e1, q2, q3, t_set q4 hap hj (.int x)⟩ (fun j _ => vp_updV_set hlen (.int x) j)⟩
theorem cj_iald (C : cj_C Y X cc nL own d ret) {g k n : Nat} {i : Int32} (he : Y.1 Y.2.2.2 g k = some (fun f => .inl (Y.2.2.1.1, n, .inl f))) (hdg : decode cc pc = .ok (.iaload, 1)) (hf : cj_gd i n A = some r) (kk : A = some r → cj_G Y X o μ (pc + 1) lv (.int (μ g k i.toNatClampNeg) :: st)) : cj_G Y X o μ pc lv (.int i :: .ref (Y.2.2.2 g k) :: st) :=
  fun H locs ls hW hS hL => va_iald (tys := cj_ty Y.2.2.1) C.1 C.2.1 C.2.2.2.2.2.1.1 (cj_sg (hW g k _ he)) 0 0 rfl rfl (cj_gd_s hf).1 hdg (kk (cj_gd_s hf).2 H locs ls hW hS hL)
theorem cj_cald (C : cj_C Y X cc nL own d ret) {g k n : Nat} {i : Int32} (he : Y.1 Y.2.2.2 g k = some (fun f => .inl (Y.2.2.1.2.1, n, .inl f))) (hdg : decode cc pc = .ok (.caload, 1)) (hf : cj_gd i n A = some r) (kk : A = some r → cj_G Y X o μ (pc + 1) lv (.int (μ g k i.toNatClampNeg) :: st)) : cj_G Y X o μ pc lv (.int i :: .ref (Y.2.2.2 g k) :: st) :=
  fun H locs ls hW hS hL => va_cald (tys := cj_ty Y.2.2.1) C.1 C.2.1 C.2.2.2.2.2.1.1 (cj_sg (hW g k _ he)) 0 1 rfl rfl (cj_gd_s hf).1 hdg (kk (cj_gd_s hf).2 H locs ls hW hS hL)
theorem cj_qald (C : cj_C Y X cc nL own d ret) {g k n : Nat} {q : Nat → Nat} {i : Int32} (he : Y.1 Y.2.2.2 g k = some (fun _ => .inl (Y.2.2.1.2.2, n, .inr (.inr (.inr (.inr (fun j => some (q j)))))))) (hdg : decode cc pc = .ok (.aaload, 1)) (hf : cj_gd i n A = some r) (kk : A = some r → cj_G Y X o μ (pc + 1) lv (.ref (q i.toNatClampNeg) :: st)) : cj_G Y X o μ pc lv (.int i :: .ref (Y.2.2.2 g k) :: st) :=
  fun H locs ls hW hS hL => va_aldq (tys := cj_ty Y.2.2.1) C.1 C.2.1 C.2.2.2.2.2.1.1 (cj_sg (hW g k _ he)) 0 2 rfl rfl (cj_gd_s hf).1 hdg (kk (cj_gd_s hf).2 H locs ls hW hS hL)
theorem cj_alen (C : cj_C Y X cc nL own d ret) {g k n : Nat} {v : Int32} (he : Y.1 Y.2.2.2 g k = some (fun f => .inl (Y.2.2.1.1, n, .inl f))) (hv : Int32.ofNat n = v) (hdg : decode cc pc = .ok (.arraylength, 1)) (kk : cj_G Y X o μ (pc + 1) lv (.int v :: st)) : cj_G Y X o μ pc lv (.ref (Y.2.2.2 g k) :: st) :=
  fun H locs ls hW hS hL => va_alen (tys := cj_ty Y.2.2.1) C.1 C.2.1 C.2.2.2.2.2.1.1 (cj_sg (hW g k _ he)) 0 0 rfl rfl hv hdg (kk H locs ls hW hS hL)
theorem cj_arr {c : ClassId} {n : Nat} {f : Nat → Int32} {i : Nat} {x : Int32} : (vp_cell c (n, .inl f)).setSlot i (.int x) = vp_cell c (n, .inl (upd f i x)) := by
  rw [vp_cell_i, vp_cell_i, arrV_store]
  congr 1
  funext q
  by_cases hq : q = i
  · simp [updV, upd, hq]
  · simp [updV, upd, hq]
theorem cj_iast (C : cj_C Y X cc nL own d ret) {g k n : Nat} {i x : Int32} (he : Y.1 Y.2.2.2 g k = some (fun f => .inl (Y.2.2.1.1, n, .inl f))) (hdg : decode cc pc = .ok (.iastore, 1)) (hf : cj_gd i n A = some r) (kk : A = some r → cj_G Y X o (cj_upG μ g (cj_up2 (μ g) k i.toNatClampNeg x)) (pc + 1) lv st) : cj_G Y X o μ pc lv (.int x :: .int i :: .ref (Y.2.2.2 g k) :: st) := by
  intro H locs ls hW hS hL
  have h1 : H[Y.2.2.2 g k]? = some (vp_cell Y.2.2.1.1 (n, .inl (μ g k))) := hW g k _ he
  refine W.iast C.1 C.2.1 h1 ((C.2.2.2.2.2.1.1.2 0 _ rfl).1 n (fun j => .int (μ g k j))) (fun q => by cases q) (by show ¬ (i < 0 ∨ (arrV _ _ _).slots.size ≤ _); rw [arrV_size]; exact (cj_gd_s hf).1) rfl rfl hdg fun H1 e z oq => ?_
  refine kk (cj_gd_s hf).2 H1 _ ls (hW.put C.2.2.2.2.2.2.1 he ?_ oq) (hS.put z oq ⟨g, k, _, he, rfl⟩) hL
  show H1[_]? = some (vp_cell _ _)
  rw [e, cj_arr]
theorem cj_castore (C : cj_C Y X cc nL own d ret) {g k n : Nat} {i x : Int32} (he : Y.1 Y.2.2.2 g k = some (fun f => .inl (Y.2.2.1.2.1, n, .inl f))) (hdg : decode cc pc = .ok (.castore, 1)) (hf : cj_gd i n A = some r) (kk : A = some r → cj_G Y X o (cj_upG μ g (cj_up2 (μ g) k i.toNatClampNeg (vp_nar .char x))) (pc + 1) lv st) : cj_G Y X o μ pc lv (.int x :: .int i :: .ref (Y.2.2.2 g k) :: st) := by
  intro H locs ls hW hS hL
  have h1 : H[Y.2.2.2 g k]? = some (vp_cell Y.2.2.1.2.1 (n, .inl (μ g k))) := hW g k _ he
  refine W.cast C.1 C.2.1 h1 ((C.2.2.2.2.2.1.1.2 1 _ rfl).1 n (fun j => .int (μ g k j))) (fun q => by cases q) (by show ¬ (i < 0 ∨ (arrV _ _ _).slots.size ≤ _); rw [arrV_size]; exact (cj_gd_s hf).1) rfl rfl hdg fun H1 e z oq => ?_
  refine kk (cj_gd_s hf).2 H1 _ ls (hW.put C.2.2.2.2.2.2.1 he ?_ oq) (hS.put z oq ⟨g, k, _, he, rfl⟩) hL
  show H1[_]? = some (vp_cell _ _)
  rw [e, show narrow .char (.int x) = .int (vp_nar .char x) from by first | rfl | simp [vp_nar, narrow], cj_arr]
/-! calls -/
/-- what a call needs of the callee among the tables' words -/
def cj_cw (y : MethodName) (bytes : ByteArray) (maxL n : Nat) (rt : Option FieldType) : Prop :=
  Cond.code y bytes maxL rt ∈ cj_ws ∧ Cond.initialized y.cls ∈ cj_ws ∧ y.cls ≠ "java/lang/invoke/MethodHandle" ∧ y.cls ≠ "java/lang/invoke/VarHandle" ∧ (parseMethodDescriptor y.desc).map (fun d => d.parameters.length) = some n
theorem cj_gi {y : MethodName} {bytes : ByteArray} {maxL n : Nat} {rt : Option FieldType} (h : cj_cw y bytes maxL n rt) : GoodIn cj_ws (cj_ms y bytes maxL rt) := by
  intro w hw
  rcases List.mem_cons.mp hw with rfl | hw
  · exact ⟨h.1, good_of_word rfl⟩
  · exact ⟨hw, good_of_word (List.mem_filter.mp hw).2⟩
theorem cj_blind {Y : cj_Y} {μ : cj_Mm} {args : List Value} : FrameBlind (va_Pc args (fun U => cj_Wd Y.1 Y.2.1 Y.2.2.2 μ U.heap ∧ cj_K Y.2.1 Y.2.2.1 U)) := fun a U g mk q => ⟨q.1, q.2.1, cj_K.same (u := U) (U := U.calling g mk a) rfl q.2.2⟩
theorem cj_after {v : Option Value} {μ' : cj_Mm} {rest : List Value} {stk : List Value} {args' : Array Value} {H : Heap} {locs : List Loc} {ls : Array Slot} (hS : va_S (cj_A Y.1 Y.2.2.2) X.2.2.2.2.1.heap H locs) (hL : lv_has ls X.2.2.2.2.2.2.2.2.2.maxLocals lv)
    (hr : va_Run X.1 X.2.1 X.2.2.1 X.2.2.2.1 X.2.2.2.2.1 X.2.2.2.2.2.1 X.2.2.2.2.2.2.1 X.2.2.2.2.2.2.2.1 X.2.2.2.2.2.2.2.2.1 X.2.2.2.2.2.2.2.2.2 H locs 0 0 0 0 (F0 X.2.2.2.2.2.1 pc ls stk) rest (cj_Q Y (v, μ') args') (cj_A Y.1 Y.2.2.2)) (kk : cj_G Y X o μ' (pc + 3) lv (v.toList ++ rest)) :
    W X.1 X.2.1 X.2.2.1 X.2.2.2.1 X.2.2.2.2.1 X.2.2.2.2.2.1 X.2.2.2.2.2.2.1 X.2.2.2.2.2.2.2.1 X.2.2.2.2.2.2.2.2.1 X.2.2.2.2.2.2.2.2.2 H locs 0 0 (MQ X.2.2.2.2.2.2.2.1 (cj_Q Y o) X.2.2.2.2.2.2.1 X.2.2.2.2.1 0 0 (cj_A Y.1 Y.2.2.2)) (F0 X.2.2.2.2.2.1 pc ls stk) := by
  intro T hT XS
  obtain ⟨v', st₀, t, T', L, h0, X', hLf, e1, e2, ⟨hv, hwd, hz, hk⟩, stp⟩ := hr T hT XS
  cases hv
  rw [h0] at hz hk
  obtain ⟨t2, a1, b1⟩ := kk T'.heap (locs ++ L) ls (by rw [e1]; exact hwd) ⟨Nat.le_trans hS.1 (by rw [e1]; exact hz), fun q h1 h2 => by rw [e1, hk q (Nat.lt_of_lt_of_le h1 hS.1) h2]; exact hS.2.1 q h1 h2, fun q hq => by
      rcases List.mem_append.mp hq with h | h
      · exact hS.2.2 q h
      · exact hLf q h⟩ hL T' rfl X'
  exact ⟨t2, stp t2 a1, b1⟩
theorem cj_callV (C : cj_C Y X cc nL own d ret) {y : MethodName} {bytes : ByteArray} {maxL n d' index g k ci N : Nat} {rt : Option FieldType} {F : cj_Fc} {fs : List Value} {T : u_T} {As rest : List Value} {v : Option Value} {μ' : cj_Mm} (hw : cj_cw y bytes maxL n rt) (hM : cj_Ct X.2.1 Y y bytes maxL rt d' (.ref (Y.2.2.2 g k) :: As) μ v μ') (hi : Cond.instanceMethod y ∈ cj_ws) (hs : Cond.selects y.cls y y ∈ cj_ws) (hl : Cond.methodLink own index y ∈ cj_ws) (he : Y.1 Y.2.2.2 g k = some F) (hF : F (μ g k) = .inr (ci, fs)) (hc : cj_cl[ci]? = some (y.cls, T, N)) (hn : As.length = n) (hd : d' + 1 ≤ d ∧ 8 + (maxL + 11) + 37 * d' ≤ 37 * d) (hcat : (rest.map fun v => v.category).sum ≤ 8) (hdg : decode cc pc = .ok (.invokevirtual index, 3)) (kk : cj_G Y X o μ' (pc + 3) lv (v.toList ++ rest)) : cj_G Y X o μ pc lv (As.reverse ++ .ref (Y.2.2.2 g k) :: rest) := by
  intro H locs ls hW hS hL
  obtain ⟨hx, hb, hml, hown, hts, hK, hI, hlk, hret, hRf, hRl, hRc, hRs⟩ := id C
  have h1 := hW g k F he
  rw [hF] at h1
  have hrecv := va_recv (q := (y.cls, T, N)) hK.1 (cj_sg h1) hc (q0 := 0) rfl
  refine cj_after hS hL (va_runV (As := As) (rest := rest) (C := y.cls) (maxL := maxL) (ret := rt) (bytes := bytes) (n := n) ⟨hx, hb, hml, hown, hts⟩ hM ⟨callB_of n hts (cj_gi hw) rfl rfl rfl (hts _ hw.2.1) (hts _ hl) hw.2.2 (by rw [hRf, hRl]; exact hd), hts _ hi, hts _ hs⟩ ⟨cj_blind, hrecv, fun U hU hWU => ⟨rfl, by rw [hU]; exact hW, hK.warm hWU⟩⟩ rfl hn (hL.1.trans hml) rfl (lv_room hcat) hdg ⟨by rw [hRc]; exact Nat.le_refl _, by rw [hRs]; exact Nat.le_refl _⟩) kk
theorem cj_callS (C : cj_C Y X cc nL own d ret) {y : MethodName} {bytes : ByteArray} {maxL n d' index : Nat} {rt : Option FieldType} {As rest : List Value} {v : Option Value} {μ' : cj_Mm} (hw : cj_cw y bytes maxL n rt) (hM : cj_Ct X.2.1 Y y bytes maxL rt d' As μ v μ') (hs : Cond.static y ∈ cj_ws) (hl : Cond.methodLink own index y ∈ cj_ws) (hn : As.length = n) (hd : d' + 1 ≤ d ∧ 8 + (maxL + 11) + 37 * d' ≤ 37 * d) (hcat : (rest.map fun v => v.category).sum ≤ 8) (hdg : decode cc pc = .ok (.invokestatic index, 3)) (kk : cj_G Y X o μ' (pc + 3) lv (v.toList ++ rest)) : cj_G Y X o μ pc lv (As.reverse ++ rest) := by
  intro H locs ls hW hS hL
  obtain ⟨hx, hb, hml, hown, hts, hK, hI, hlk, hret, hRf, hRl, hRc, hRs⟩ := id C
  refine cj_after hS hL (va_runS (As := As) (rest := rest) (maxL := maxL) (ret := rt) (bytes := bytes) (n := n) ⟨hx, hb, hml, hown, hts⟩ hM ⟨callB_of n hts (cj_gi hw) rfl rfl rfl (hts _ hw.2.1) (hts _ hl) hw.2.2 (by rw [hRf, hRl]; exact hd), hts _ hs⟩ ⟨cj_blind, fun U hU hWU => ⟨rfl, by rw [hU]; exact hW, hK.warm hWU⟩⟩ rfl hn (hL.1.trans hml) rfl (lv_room hcat) hdg ⟨by rw [hRc]; exact Nat.le_refl _, by rw [hRs]; exact Nat.le_refl _⟩) kk
theorem cj_callSN (C : cj_C Y X cc nL own d ret) {y : MethodName} {bytes : ByteArray} {maxL n d' index : Nat} {host : String} {rt : Option FieldType} {As rest : List Value} {v : Option Value} {μ' : cj_Mm} (hw : cj_cw y bytes maxL n rt) (hM : cj_Ct X.2.1 Y y bytes maxL rt d' As μ v μ') (hs : Cond.static y ∈ cj_ws) (hl : (own, index, y, host) ∈ cj_nst) (hn : As.length = n) (hd : d' + 1 ≤ d ∧ 8 + (maxL + 11) + 37 * d' ≤ 37 * d) (hcat : (rest.map fun v => v.category).sum ≤ 8) (hdg : decode cc pc = .ok (.invokestatic index, 3)) (kk : cj_G Y X o μ' (pc + 3) lv (v.toList ++ rest)) : cj_G Y X o μ pc lv (As.reverse ++ rest) := by
  intro H locs ls hW hS hL
  obtain ⟨hx, hb, hml, hown, hts, hK, hI, hlk, hret, hRf, hRl, hRc, hRs⟩ := id C
  refine cj_after hS hL (va_runSN (As := As) (rest := rest) (maxL := maxL) (ret := rt) (bytes := bytes) (n := n) (host := host) ⟨hx, hb, hml, hown, hts⟩ hM ⟨va_cnB n hts (cj_gi hw) rfl rfl rfl (hK.2 _ hl) (hts _ hw.2.1) hw.2.2 (by rw [hRf, hRl]; exact hd), hts _ hs, trivial⟩ ⟨cj_blind, fun U hU hWU => ⟨rfl, by rw [hU]; exact hW, hK.warm hWU⟩⟩ rfl hn (hL.1.trans hml) rfl (lv_room hcat) hdg ⟨by rw [hRc]; exact Nat.le_refl _, by rw [hRs]; exact Nat.le_refl _⟩) kk
end CJ3
end
section
/-! the two systems' worlds: which cell holds what -/
abbrev cj_ia (z : cj_Zc) (n : Nat) : Option cj_Fc := some (fun f => .inl (z.1, n, .inl f))
/-- a court: Court 0, People 1 with arrays 2..8, Sheets 9 with 10..13, Papers 14 with 15..20 -/
def cj_co (z : cj_Zc) (a : Nat → Nat) : Nat → Option cj_Fc
  | 0 => some (fun f => .inr (0, [.ref (a 1), .ref (a 9), .ref (a 14), .int (f 3), .int (f 4), .int (f 5), .int (f 6), .int (f 7), .int (f 8), .int (f 9)]))
  | 1 => some (fun f => .inr (3, [.int (f 0), .ref (a 2), .ref (a 3), .ref (a 4), .ref (a 5), .ref (a 6), .ref (a 7), .ref (a 8)]))
  | 2 => cj_ia z 6
  | 3 => cj_ia z 6
  | 4 => cj_ia z 6
  | 5 => cj_ia z 6
  | 6 => cj_ia z 6
  | 7 => cj_ia z 6
  | 8 => cj_ia z 72
  | 9 => some (fun f => .inr (6, [.int (f 0), .int (f 1), .ref (a 10), .ref (a 11), .ref (a 12), .ref (a 13)]))
  | 10 => cj_ia z 10
  | 11 => cj_ia z 10
  | 12 => cj_ia z 10
  | 13 => cj_ia z 10
  | 14 => some (fun f => .inr (2, [.int (f 0), .ref (a 15), .ref (a 16), .ref (a 17), .ref (a 18), .ref (a 19), .ref (a 20)]))
  | 15 => cj_ia z 4
  | 16 => cj_ia z 4
  | 17 => cj_ia z 4
  | 18 => cj_ia z 4
  | 19 => cj_ia z 4
  | 20 => cj_ia z 4
  | _ => none
/-- the landed class: 0 the jotter, 1 its history, 2 its text, 3 its rehearsal, 4 its sale, 5 the court, 6 the trial, 7..11 the states -/
def cj_EL (z : cj_Zc) : cj_En := fun ad g => match g with
  | 0 => fun k => match k with
    | 0 => some (fun _ => .inr (8, [.ref (ad 5 0), .ref (ad 6 0), .ref (ad 1 0), .ref (ad 2 0), .ref (ad 3 0), .ref (ad 4 0)]))
    | _ => none
  | 1 => fun k => match k with
    | 0 => some (fun f => .inr (1, [.ref (ad 1 1), .int (f 1), .int (f 2)]))
    | 1 => some (fun _ => .inl (z.2.2, 5, .inr (.inr (.inr (.inr (fun j => some (ad (7 + j) 0)))))))
    | _ => none
  | 2 => fun k => match k with
    | 0 => some (fun f => .inr (7, [.ref (ad 2 1), .int (f 1), .int (f 2), .int (f 3), .int (f 4), .int (f 5)]))
    | 1 => some (fun f => .inl (z.2.1, 60, .inl f))
    | _ => none
  | 3 => fun k => match k with
    | 0 => some (fun f => .inr (4, [.int (f 0), .int (f 1), .int (f 2), .int (f 3)]))
    | _ => none
  | 4 => fun k => match k with
    | 0 => some (fun f => .inr (5, [.int (f 0), .int (f 1), .int (f 2)]))
    | _ => none
  | g + 5 => if g < 7 then cj_co z (ad (g + 5)) else fun _ => none
/-- the reference: its object 0, the arrays s 1, past 2, held 3, tried 4, text 5, told 6 -/
def cj_EM (z : cj_Zc) : cj_En := fun ad g => match g with
  | 0 => fun k => match k with
    | 0 => some (fun f => .inr (9, [.ref (ad 0 1), .ref (ad 0 2), .ref (ad 0 3), .ref (ad 0 4), .int (f 4), .int (f 5), .ref (ad 0 5), .int (f 7), .int (f 8), .int (f 9), .int (f 10), .int (f 11), .int (f 12), .int (f 13), .ref (ad 0 6)]))
    | 1 => cj_ia z 183
    | 2 => cj_ia z 732
    | 3 => cj_ia z 183
    | 4 => cj_ia z 183
    | 5 => cj_ia z 60
    | 6 => cj_ia z 2
    | _ => none
  | _ => fun _ => none
abbrev cj_YL (D : va_G) (z : cj_Zc) (ad : cj_Ad) : cj_Y := (cj_EL z, D, z, ad)
abbrev cj_YM (D : va_G) (z : cj_Zc) (ad : cj_Ad) : cj_Y := (cj_EM z, D, z, ad)
def cj_isC (g : Nat) : Prop := ∃ c, c < 7 ∧ g = c + 5
theorem cj_ec {z : cj_Zc} {ad : cj_Ad} {g : Nat} (h : cj_isC g) (k : Nat) : cj_EL z ad g k = cj_co z (ad g) k := by
  obtain ⟨c, hc, rfl⟩ := h
  show (if c < 7 then cj_co z (ad (c + 5)) else fun _ => none) k = _
  rw [if_pos hc]
theorem cj_isC_5 : cj_isC 5 := ⟨0, by decide, rfl⟩
theorem cj_isC_6 : cj_isC 6 := ⟨1, by decide, rfl⟩
theorem cj_isC_7 {i : Nat} (h : i < 5) : cj_isC (7 + i) := ⟨2 + i, by omega, by omega⟩
theorem cj_chr {x : Int32} (h : 0 ≤ x ∧ x ≤ 65535) : narrow .char (.int x) = .int x ∧ fits .char (.int x) = true := by
  obtain ⟨h1, h2⟩ := h
  obtain ⟨j, hj, rfl⟩ := nI_of2 (n := 65535) (M := 65535) rfl (Int32.not_lt.mpr h1) h2
  exact pk_charN (by omega)
theorem cj_boo {x : Int32} (h : x = 0 ∨ x = 1) : narrow .boolean (.int x) = .int x ∧ fits .boolean (.int x) = true := by
  rcases h with rfl | rfl
  · exact ⟨rfl, rfl⟩
  · exact ⟨rfl, rfl⟩
theorem cj_in0 : ∀ w ∈ wsX00, w ∈ cj_ws := cj_good (goodIn_sub (by decide +kernel) (by decide +kernel))
theorem cj_in1 : ∀ w ∈ wsX10, w ∈ cj_ws := cj_good (goodIn_sub (by decide +kernel) (by decide +kernel))
theorem cj_in2 : ∀ w ∈ wsX20, w ∈ cj_ws := cj_good (goodIn_sub (by decide +kernel) (by decide +kernel))
theorem cj_in3 : ∀ w ∈ wsX30, w ∈ cj_ws := cj_good (goodIn_sub (by decide +kernel) (by decide +kernel))
theorem cj_in4 : ∀ w ∈ wsX40, w ∈ cj_ws := cj_good (goodIn_sub (by decide +kernel) (by decide +kernel))
theorem cj_in5 : ∀ w ∈ wsX50, w ∈ cj_ws := cj_good (goodIn_sub (by decide +kernel) (by decide +kernel))
theorem cj_in6 : ∀ w ∈ wsX60, w ∈ cj_ws := cj_good (goodIn_sub (by decide +kernel) (by decide +kernel))
theorem cj_in7 : ∀ w ∈ wsX70, w ∈ cj_ws := cj_good (goodIn_sub (by decide +kernel) (by decide +kernel))
theorem cj_in8 : ∀ w ∈ wsX80, w ∈ cj_ws := cj_good (goodIn_sub (by decide +kernel) (by decide +kernel))
theorem cj_in9 : ∀ w ∈ wsX90, w ∈ cj_ws := cj_good (goodIn_sub (by decide +kernel) (by decide +kernel))
/-! rows over one group's memory -/
section CJ4
variable {Y : cj_Y} {X : cj_X} {o : Option Value × cj_Mm} {μ : cj_Mm} {g : Nat} {σ : Nat → Nat → Int32} {pc : Nat} {lv lv' : List (Nat × Value)} {st : List Value} {cc : ByteArray} {nL d : Nat} {own : String} {ret : Option FieldType} {α : Type} {A B : Option α} {r : α}
theorem cj_at (g : Nat) (kk : cj_G Y X o (cj_upG μ g (μ g)) pc lv st) : cj_G Y X o μ pc lv st := by rw [cj_upG_i] at kk; exact kk
theorem cj_ta (kk : cj_G Y X o μ pc lv st) : cj_G Y X o (cj_upG μ g (μ g)) pc lv st := by rw [cj_upG_i]; exact kk
theorem cj_ltM {μ1 : cj_Mm} {K : cj_Mm → Option α} (hf : cj_lt μ1 K = some r) (kk : ∀ x, K x = some r → cj_G Y X o x pc lv st) : cj_G Y X o μ1 pc lv st := kk _ hf
theorem cj_ltS {K : (Nat → Nat → Int32) → Option α} (hf : cj_lt σ K = some r) (kk : ∀ x, K x = some r → cj_G Y X o (cj_upG μ g x) pc lv st) : cj_G Y X o (cj_upG μ g σ) pc lv st := kk _ hf
theorem cj_ltI {x : Int32} {K : Int32 → Option α} (hf : cj_lt x K = some r) (kk : ∀ y, K y = some r → cj_G Y X o μ pc lv (.int y :: st)) : cj_G Y X o μ pc lv (.int x :: st) := kk _ hf
theorem cj_ltF {x : UInt32} {K : UInt32 → Option α} (hf : cj_lt x K = some r) (kk : ∀ y, K y = some r → cj_G Y X o μ pc lv (.float y :: st)) : cj_G Y X o μ pc lv (.float x :: st) := kk _ hf
theorem cj_getS (C : cj_C Y X cc nL own d ret) {k ci j N index : Nat} {F : cj_Fc} {fs : List Value} {Cn rn nm ds : String} {fn : Bool} {T : u_T} {v : Value} (he : Y.1 Y.2.2.2 g k = some F) (hF : F (σ k) = .inr (ci, fs)) (hc : cj_cl[ci]? = some (Cn, T, N)) (hin : ∀ w ∈ u_ws Cn T N, w ∈ cj_ws) (hj : j < N) (hT : T j = (rn, nm, ds, fn)) (hl : Cond.fieldLink own index rn nm ds ∈ cj_ws) (hv : fs[j]? = some v) (hdg : decode cc pc = .ok (.getfield index, 3)) (kk : cj_G Y X o (cj_upG μ g σ) (pc + 3) lv (v :: st)) : cj_G Y X o (cj_upG μ g σ) pc lv (.ref (Y.2.2.2 g k) :: st) :=
  cj_get C he (by rw [cj_upG_s]; exact hF) hc hin hj hT hl hv hdg kk
theorem cj_putS (C : cj_C Y X cc nL own d ret) {k ci j N index : Nat} {F : cj_Fc} {fs fs' : List Value} {Cn rn nm ds : String} {T : u_T} {ty0 : Nat → FieldType} {ty : FieldType} {x : Int32} (he : Y.1 Y.2.2.2 g k = some F) (hF : F (σ k) = .inr (ci, fs)) (hF' : F (upd (σ k) j x) = .inr (ci, fs')) (hfs : fs' = fs.set j (.int x)) (hc : cj_cl[ci]? = some (Cn, T, N)) (hin : ∀ w ∈ u_ws Cn T N, w ∈ cj_ws) (hty : ∀ k, k < N → parseFieldDescriptor (T k).2.2.1 = some (ty0 k)) (hnm : ∀ a, a < N → ∀ b, b < N → a ≠ b → (T a).2.1 ≠ (T b).2.1) (hj : j < N) (hT : T j = (rn, nm, ds, false)) (hl : Cond.fieldLink own index rn nm ds ∈ cj_ws) (hd : parseFieldDescriptor ds = some ty) (hn : narrow ty (.int x) = .int x) (hfit : fits ty (.int x) = true) (hlen : j < fs.length) (hdg : decode cc pc = .ok (.putfield index, 3)) (kk : cj_G Y X o (cj_upG μ g (cj_up2 σ k j x)) (pc + 3) lv st) : cj_G Y X o (cj_upG μ g σ) pc lv (.int x :: .ref (Y.2.2.2 g k) :: st) :=
  cj_put C he (by rw [cj_upG_s]; exact hF) (by rw [cj_upG_s]; exact hF') hfs hc hin hty hnm hj hT hl hd hn hfit hlen hdg (by rw [cj_upG_s, cj_upG_u]; exact kk)
theorem cj_ialdS (C : cj_C Y X cc nL own d ret) {k n : Nat} {i : Int32} (he : Y.1 Y.2.2.2 g k = some (fun f => .inl (Y.2.2.1.1, n, .inl f))) (hdg : decode cc pc = .ok (.iaload, 1)) (hf : cj_gd i n A = some r) (kk : A = some r → cj_G Y X o (cj_upG μ g σ) (pc + 1) lv (.int (σ k i.toNatClampNeg) :: st)) : cj_G Y X o (cj_upG μ g σ) pc lv (.int i :: .ref (Y.2.2.2 g k) :: st) :=
  cj_iald C he hdg hf (by rw [cj_upG_s]; exact kk)
theorem cj_caldS (C : cj_C Y X cc nL own d ret) {k n : Nat} {i : Int32} (he : Y.1 Y.2.2.2 g k = some (fun f => .inl (Y.2.2.1.2.1, n, .inl f))) (hdg : decode cc pc = .ok (.caload, 1)) (hf : cj_gd i n A = some r) (kk : A = some r → cj_G Y X o (cj_upG μ g σ) (pc + 1) lv (.int (σ k i.toNatClampNeg) :: st)) : cj_G Y X o (cj_upG μ g σ) pc lv (.int i :: .ref (Y.2.2.2 g k) :: st) :=
  cj_cald C he hdg hf (by rw [cj_upG_s]; exact kk)
theorem cj_iastS (C : cj_C Y X cc nL own d ret) {k n : Nat} {i x : Int32} (he : Y.1 Y.2.2.2 g k = some (fun f => .inl (Y.2.2.1.1, n, .inl f))) (hdg : decode cc pc = .ok (.iastore, 1)) (hf : cj_gd i n A = some r) (kk : A = some r → cj_G Y X o (cj_upG μ g (cj_up2 σ k i.toNatClampNeg x)) (pc + 1) lv st) : cj_G Y X o (cj_upG μ g σ) pc lv (.int x :: .int i :: .ref (Y.2.2.2 g k) :: st) :=
  cj_iast C he hdg hf (by rw [cj_upG_s, cj_upG_u]; exact kk)
theorem cj_castS (C : cj_C Y X cc nL own d ret) {k n : Nat} {i x : Int32} (he : Y.1 Y.2.2.2 g k = some (fun f => .inl (Y.2.2.1.2.1, n, .inl f))) (hdg : decode cc pc = .ok (.castore, 1)) (hf : cj_gd i n A = some r) (kk : A = some r → cj_G Y X o (cj_upG μ g (cj_up2 σ k i.toNatClampNeg (vp_nar .char x))) (pc + 1) lv st) : cj_G Y X o (cj_upG μ g σ) pc lv (.int x :: .int i :: .ref (Y.2.2.2 g k) :: st) :=
  cj_castore C he hdg hf (by rw [cj_upG_s, cj_upG_u]; exact kk)
end CJ4
/-! calls by the number of arguments and the kind of answer -/
section CJ5
variable {Y : cj_Y} {X : cj_X} {o : Option Value × cj_Mm} {μ : cj_Mm} {pc : Nat} {lv : List (Nat × Value)} {st : List Value} {cc : ByteArray} {nL d : Nat} {own : String} {ret : Option FieldType}
theorem cj_cV0i (C : cj_C Y X cc nL own d ret) {y : MethodName} {bytes : ByteArray} {maxL d' index g k ci N : Nat} {rt : Option FieldType} {F : cj_Fc} {fs : List Value} {T : u_T} {r : Int32} {μ' : cj_Mm} (hw : cj_cw y bytes maxL 0 rt) (hM : cj_Ct X.2.1 Y y bytes maxL rt d' (.ref (Y.2.2.2 g k) :: []) μ (some (.int r)) μ') (hi : Cond.instanceMethod y ∈ cj_ws) (hs : Cond.selects y.cls y y ∈ cj_ws) (hl : Cond.methodLink own index y ∈ cj_ws) (he : Y.1 Y.2.2.2 g k = some F) (hF : F (μ g k) = .inr (ci, fs)) (hc : cj_cl[ci]? = some (y.cls, T, N)) (hd : d' + 1 ≤ d ∧ 8 + (maxL + 11) + 37 * d' ≤ 37 * d) (hcat : (st.map fun v => v.category).sum ≤ 8) (hdg : decode cc pc = .ok (.invokevirtual index, 3)) (kk : cj_G Y X o μ' (pc + 3) lv (.int r :: st)) : cj_G Y X o μ pc lv (.ref (Y.2.2.2 g k) :: st) :=
  cj_callV (As := []) C hw hM hi hs hl he hF hc rfl hd hcat hdg kk
theorem cj_cV0v (C : cj_C Y X cc nL own d ret) {y : MethodName} {bytes : ByteArray} {maxL d' index g k ci N : Nat} {rt : Option FieldType} {F : cj_Fc} {fs : List Value} {T : u_T} {μ' : cj_Mm} (hw : cj_cw y bytes maxL 0 rt) (hM : cj_Ct X.2.1 Y y bytes maxL rt d' (.ref (Y.2.2.2 g k) :: []) μ none μ') (hi : Cond.instanceMethod y ∈ cj_ws) (hs : Cond.selects y.cls y y ∈ cj_ws) (hl : Cond.methodLink own index y ∈ cj_ws) (he : Y.1 Y.2.2.2 g k = some F) (hF : F (μ g k) = .inr (ci, fs)) (hc : cj_cl[ci]? = some (y.cls, T, N)) (hd : d' + 1 ≤ d ∧ 8 + (maxL + 11) + 37 * d' ≤ 37 * d) (hcat : (st.map fun v => v.category).sum ≤ 8) (hdg : decode cc pc = .ok (.invokevirtual index, 3)) (kk : cj_G Y X o μ' (pc + 3) lv (st)) : cj_G Y X o μ pc lv (.ref (Y.2.2.2 g k) :: st) :=
  cj_callV (As := []) C hw hM hi hs hl he hF hc rfl hd hcat hdg kk
theorem cj_cV1i (C : cj_C Y X cc nL own d ret) {y : MethodName} {bytes : ByteArray} {maxL d' index g k ci N : Nat} {rt : Option FieldType} {F : cj_Fc} {fs : List Value} {T : u_T} {a1 : Value} {r : Int32} {μ' : cj_Mm} (hw : cj_cw y bytes maxL 1 rt) (hM : cj_Ct X.2.1 Y y bytes maxL rt d' (.ref (Y.2.2.2 g k) :: [a1]) μ (some (.int r)) μ') (hi : Cond.instanceMethod y ∈ cj_ws) (hs : Cond.selects y.cls y y ∈ cj_ws) (hl : Cond.methodLink own index y ∈ cj_ws) (he : Y.1 Y.2.2.2 g k = some F) (hF : F (μ g k) = .inr (ci, fs)) (hc : cj_cl[ci]? = some (y.cls, T, N)) (hd : d' + 1 ≤ d ∧ 8 + (maxL + 11) + 37 * d' ≤ 37 * d) (hcat : (st.map fun v => v.category).sum ≤ 8) (hdg : decode cc pc = .ok (.invokevirtual index, 3)) (kk : cj_G Y X o μ' (pc + 3) lv (.int r :: st)) : cj_G Y X o μ pc lv (a1 :: .ref (Y.2.2.2 g k) :: st) :=
  cj_callV (As := [a1]) C hw hM hi hs hl he hF hc rfl hd hcat hdg kk
theorem cj_cS1i (C : cj_C Y X cc nL own d ret) {y : MethodName} {bytes : ByteArray} {maxL d' index : Nat} {rt : Option FieldType} {a1 : Value} {r : Int32} {μ' : cj_Mm} (hw : cj_cw y bytes maxL 1 rt) (hM : cj_Ct X.2.1 Y y bytes maxL rt d' [a1] μ (some (.int r)) μ') (hs : Cond.static y ∈ cj_ws) (hl : Cond.methodLink own index y ∈ cj_ws) (hd : d' + 1 ≤ d ∧ 8 + (maxL + 11) + 37 * d' ≤ 37 * d) (hcat : (st.map fun v => v.category).sum ≤ 8) (hdg : decode cc pc = .ok (.invokestatic index, 3)) (kk : cj_G Y X o μ' (pc + 3) lv (.int r :: st)) : cj_G Y X o μ pc lv (a1 :: st) :=
  cj_callS (As := [a1]) C hw hM hs hl rfl hd hcat hdg kk
theorem cj_cN1i (C : cj_C Y X cc nL own d ret) {y : MethodName} {bytes : ByteArray} {maxL d' index : Nat} {host : String} {rt : Option FieldType} {a1 : Value} {r : Int32} {μ' : cj_Mm} (hw : cj_cw y bytes maxL 1 rt) (hM : cj_Ct X.2.1 Y y bytes maxL rt d' [a1] μ (some (.int r)) μ') (hs : Cond.static y ∈ cj_ws) (hl : (own, index, y, host) ∈ cj_nst) (hd : d' + 1 ≤ d ∧ 8 + (maxL + 11) + 37 * d' ≤ 37 * d) (hcat : (st.map fun v => v.category).sum ≤ 8) (hdg : decode cc pc = .ok (.invokestatic index, 3)) (kk : cj_G Y X o μ' (pc + 3) lv (.int r :: st)) : cj_G Y X o μ pc lv (a1 :: st) :=
  cj_callSN (As := [a1]) C hw hM hs hl rfl hd hcat hdg kk
theorem cj_cV1v (C : cj_C Y X cc nL own d ret) {y : MethodName} {bytes : ByteArray} {maxL d' index g k ci N : Nat} {rt : Option FieldType} {F : cj_Fc} {fs : List Value} {T : u_T} {a1 : Value} {μ' : cj_Mm} (hw : cj_cw y bytes maxL 1 rt) (hM : cj_Ct X.2.1 Y y bytes maxL rt d' (.ref (Y.2.2.2 g k) :: [a1]) μ none μ') (hi : Cond.instanceMethod y ∈ cj_ws) (hs : Cond.selects y.cls y y ∈ cj_ws) (hl : Cond.methodLink own index y ∈ cj_ws) (he : Y.1 Y.2.2.2 g k = some F) (hF : F (μ g k) = .inr (ci, fs)) (hc : cj_cl[ci]? = some (y.cls, T, N)) (hd : d' + 1 ≤ d ∧ 8 + (maxL + 11) + 37 * d' ≤ 37 * d) (hcat : (st.map fun v => v.category).sum ≤ 8) (hdg : decode cc pc = .ok (.invokevirtual index, 3)) (kk : cj_G Y X o μ' (pc + 3) lv (st)) : cj_G Y X o μ pc lv (a1 :: .ref (Y.2.2.2 g k) :: st) :=
  cj_callV (As := [a1]) C hw hM hi hs hl he hF hc rfl hd hcat hdg kk
theorem cj_cS1v (C : cj_C Y X cc nL own d ret) {y : MethodName} {bytes : ByteArray} {maxL d' index : Nat} {rt : Option FieldType} {a1 : Value} {μ' : cj_Mm} (hw : cj_cw y bytes maxL 1 rt) (hM : cj_Ct X.2.1 Y y bytes maxL rt d' [a1] μ none μ') (hs : Cond.static y ∈ cj_ws) (hl : Cond.methodLink own index y ∈ cj_ws) (hd : d' + 1 ≤ d ∧ 8 + (maxL + 11) + 37 * d' ≤ 37 * d) (hcat : (st.map fun v => v.category).sum ≤ 8) (hdg : decode cc pc = .ok (.invokestatic index, 3)) (kk : cj_G Y X o μ' (pc + 3) lv (st)) : cj_G Y X o μ pc lv (a1 :: st) :=
  cj_callS (As := [a1]) C hw hM hs hl rfl hd hcat hdg kk
theorem cj_cN1v (C : cj_C Y X cc nL own d ret) {y : MethodName} {bytes : ByteArray} {maxL d' index : Nat} {host : String} {rt : Option FieldType} {a1 : Value} {μ' : cj_Mm} (hw : cj_cw y bytes maxL 1 rt) (hM : cj_Ct X.2.1 Y y bytes maxL rt d' [a1] μ none μ') (hs : Cond.static y ∈ cj_ws) (hl : (own, index, y, host) ∈ cj_nst) (hd : d' + 1 ≤ d ∧ 8 + (maxL + 11) + 37 * d' ≤ 37 * d) (hcat : (st.map fun v => v.category).sum ≤ 8) (hdg : decode cc pc = .ok (.invokestatic index, 3)) (kk : cj_G Y X o μ' (pc + 3) lv (st)) : cj_G Y X o μ pc lv (a1 :: st) :=
  cj_callSN (As := [a1]) C hw hM hs hl rfl hd hcat hdg kk
theorem cj_cV2i (C : cj_C Y X cc nL own d ret) {y : MethodName} {bytes : ByteArray} {maxL d' index g k ci N : Nat} {rt : Option FieldType} {F : cj_Fc} {fs : List Value} {T : u_T} {a1 a2 : Value} {r : Int32} {μ' : cj_Mm} (hw : cj_cw y bytes maxL 2 rt) (hM : cj_Ct X.2.1 Y y bytes maxL rt d' (.ref (Y.2.2.2 g k) :: [a1, a2]) μ (some (.int r)) μ') (hi : Cond.instanceMethod y ∈ cj_ws) (hs : Cond.selects y.cls y y ∈ cj_ws) (hl : Cond.methodLink own index y ∈ cj_ws) (he : Y.1 Y.2.2.2 g k = some F) (hF : F (μ g k) = .inr (ci, fs)) (hc : cj_cl[ci]? = some (y.cls, T, N)) (hd : d' + 1 ≤ d ∧ 8 + (maxL + 11) + 37 * d' ≤ 37 * d) (hcat : (st.map fun v => v.category).sum ≤ 8) (hdg : decode cc pc = .ok (.invokevirtual index, 3)) (kk : cj_G Y X o μ' (pc + 3) lv (.int r :: st)) : cj_G Y X o μ pc lv (a2 :: a1 :: .ref (Y.2.2.2 g k) :: st) :=
  cj_callV (As := [a1, a2]) C hw hM hi hs hl he hF hc rfl hd hcat hdg kk
theorem cj_cS2i (C : cj_C Y X cc nL own d ret) {y : MethodName} {bytes : ByteArray} {maxL d' index : Nat} {rt : Option FieldType} {a1 a2 : Value} {r : Int32} {μ' : cj_Mm} (hw : cj_cw y bytes maxL 2 rt) (hM : cj_Ct X.2.1 Y y bytes maxL rt d' [a1, a2] μ (some (.int r)) μ') (hs : Cond.static y ∈ cj_ws) (hl : Cond.methodLink own index y ∈ cj_ws) (hd : d' + 1 ≤ d ∧ 8 + (maxL + 11) + 37 * d' ≤ 37 * d) (hcat : (st.map fun v => v.category).sum ≤ 8) (hdg : decode cc pc = .ok (.invokestatic index, 3)) (kk : cj_G Y X o μ' (pc + 3) lv (.int r :: st)) : cj_G Y X o μ pc lv (a2 :: a1 :: st) :=
  cj_callS (As := [a1, a2]) C hw hM hs hl rfl hd hcat hdg kk
theorem cj_cN2i (C : cj_C Y X cc nL own d ret) {y : MethodName} {bytes : ByteArray} {maxL d' index : Nat} {host : String} {rt : Option FieldType} {a1 a2 : Value} {r : Int32} {μ' : cj_Mm} (hw : cj_cw y bytes maxL 2 rt) (hM : cj_Ct X.2.1 Y y bytes maxL rt d' [a1, a2] μ (some (.int r)) μ') (hs : Cond.static y ∈ cj_ws) (hl : (own, index, y, host) ∈ cj_nst) (hd : d' + 1 ≤ d ∧ 8 + (maxL + 11) + 37 * d' ≤ 37 * d) (hcat : (st.map fun v => v.category).sum ≤ 8) (hdg : decode cc pc = .ok (.invokestatic index, 3)) (kk : cj_G Y X o μ' (pc + 3) lv (.int r :: st)) : cj_G Y X o μ pc lv (a2 :: a1 :: st) :=
  cj_callSN (As := [a1, a2]) C hw hM hs hl rfl hd hcat hdg kk
theorem cj_cV2v (C : cj_C Y X cc nL own d ret) {y : MethodName} {bytes : ByteArray} {maxL d' index g k ci N : Nat} {rt : Option FieldType} {F : cj_Fc} {fs : List Value} {T : u_T} {a1 a2 : Value} {μ' : cj_Mm} (hw : cj_cw y bytes maxL 2 rt) (hM : cj_Ct X.2.1 Y y bytes maxL rt d' (.ref (Y.2.2.2 g k) :: [a1, a2]) μ none μ') (hi : Cond.instanceMethod y ∈ cj_ws) (hs : Cond.selects y.cls y y ∈ cj_ws) (hl : Cond.methodLink own index y ∈ cj_ws) (he : Y.1 Y.2.2.2 g k = some F) (hF : F (μ g k) = .inr (ci, fs)) (hc : cj_cl[ci]? = some (y.cls, T, N)) (hd : d' + 1 ≤ d ∧ 8 + (maxL + 11) + 37 * d' ≤ 37 * d) (hcat : (st.map fun v => v.category).sum ≤ 8) (hdg : decode cc pc = .ok (.invokevirtual index, 3)) (kk : cj_G Y X o μ' (pc + 3) lv (st)) : cj_G Y X o μ pc lv (a2 :: a1 :: .ref (Y.2.2.2 g k) :: st) :=
  cj_callV (As := [a1, a2]) C hw hM hi hs hl he hF hc rfl hd hcat hdg kk
theorem cj_cS2v (C : cj_C Y X cc nL own d ret) {y : MethodName} {bytes : ByteArray} {maxL d' index : Nat} {rt : Option FieldType} {a1 a2 : Value} {μ' : cj_Mm} (hw : cj_cw y bytes maxL 2 rt) (hM : cj_Ct X.2.1 Y y bytes maxL rt d' [a1, a2] μ none μ') (hs : Cond.static y ∈ cj_ws) (hl : Cond.methodLink own index y ∈ cj_ws) (hd : d' + 1 ≤ d ∧ 8 + (maxL + 11) + 37 * d' ≤ 37 * d) (hcat : (st.map fun v => v.category).sum ≤ 8) (hdg : decode cc pc = .ok (.invokestatic index, 3)) (kk : cj_G Y X o μ' (pc + 3) lv (st)) : cj_G Y X o μ pc lv (a2 :: a1 :: st) :=
  cj_callS (As := [a1, a2]) C hw hM hs hl rfl hd hcat hdg kk
theorem cj_cN2v (C : cj_C Y X cc nL own d ret) {y : MethodName} {bytes : ByteArray} {maxL d' index : Nat} {host : String} {rt : Option FieldType} {a1 a2 : Value} {μ' : cj_Mm} (hw : cj_cw y bytes maxL 2 rt) (hM : cj_Ct X.2.1 Y y bytes maxL rt d' [a1, a2] μ none μ') (hs : Cond.static y ∈ cj_ws) (hl : (own, index, y, host) ∈ cj_nst) (hd : d' + 1 ≤ d ∧ 8 + (maxL + 11) + 37 * d' ≤ 37 * d) (hcat : (st.map fun v => v.category).sum ≤ 8) (hdg : decode cc pc = .ok (.invokestatic index, 3)) (kk : cj_G Y X o μ' (pc + 3) lv (st)) : cj_G Y X o μ pc lv (a2 :: a1 :: st) :=
  cj_callSN (As := [a1, a2]) C hw hM hs hl rfl hd hcat hdg kk
theorem cj_cV3i (C : cj_C Y X cc nL own d ret) {y : MethodName} {bytes : ByteArray} {maxL d' index g k ci N : Nat} {rt : Option FieldType} {F : cj_Fc} {fs : List Value} {T : u_T} {a1 a2 a3 : Value} {r : Int32} {μ' : cj_Mm} (hw : cj_cw y bytes maxL 3 rt) (hM : cj_Ct X.2.1 Y y bytes maxL rt d' (.ref (Y.2.2.2 g k) :: [a1, a2, a3]) μ (some (.int r)) μ') (hi : Cond.instanceMethod y ∈ cj_ws) (hs : Cond.selects y.cls y y ∈ cj_ws) (hl : Cond.methodLink own index y ∈ cj_ws) (he : Y.1 Y.2.2.2 g k = some F) (hF : F (μ g k) = .inr (ci, fs)) (hc : cj_cl[ci]? = some (y.cls, T, N)) (hd : d' + 1 ≤ d ∧ 8 + (maxL + 11) + 37 * d' ≤ 37 * d) (hcat : (st.map fun v => v.category).sum ≤ 8) (hdg : decode cc pc = .ok (.invokevirtual index, 3)) (kk : cj_G Y X o μ' (pc + 3) lv (.int r :: st)) : cj_G Y X o μ pc lv (a3 :: a2 :: a1 :: .ref (Y.2.2.2 g k) :: st) :=
  cj_callV (As := [a1, a2, a3]) C hw hM hi hs hl he hF hc rfl hd hcat hdg kk
theorem cj_cS3i (C : cj_C Y X cc nL own d ret) {y : MethodName} {bytes : ByteArray} {maxL d' index : Nat} {rt : Option FieldType} {a1 a2 a3 : Value} {r : Int32} {μ' : cj_Mm} (hw : cj_cw y bytes maxL 3 rt) (hM : cj_Ct X.2.1 Y y bytes maxL rt d' [a1, a2, a3] μ (some (.int r)) μ') (hs : Cond.static y ∈ cj_ws) (hl : Cond.methodLink own index y ∈ cj_ws) (hd : d' + 1 ≤ d ∧ 8 + (maxL + 11) + 37 * d' ≤ 37 * d) (hcat : (st.map fun v => v.category).sum ≤ 8) (hdg : decode cc pc = .ok (.invokestatic index, 3)) (kk : cj_G Y X o μ' (pc + 3) lv (.int r :: st)) : cj_G Y X o μ pc lv (a3 :: a2 :: a1 :: st) :=
  cj_callS (As := [a1, a2, a3]) C hw hM hs hl rfl hd hcat hdg kk
theorem cj_cN3i (C : cj_C Y X cc nL own d ret) {y : MethodName} {bytes : ByteArray} {maxL d' index : Nat} {host : String} {rt : Option FieldType} {a1 a2 a3 : Value} {r : Int32} {μ' : cj_Mm} (hw : cj_cw y bytes maxL 3 rt) (hM : cj_Ct X.2.1 Y y bytes maxL rt d' [a1, a2, a3] μ (some (.int r)) μ') (hs : Cond.static y ∈ cj_ws) (hl : (own, index, y, host) ∈ cj_nst) (hd : d' + 1 ≤ d ∧ 8 + (maxL + 11) + 37 * d' ≤ 37 * d) (hcat : (st.map fun v => v.category).sum ≤ 8) (hdg : decode cc pc = .ok (.invokestatic index, 3)) (kk : cj_G Y X o μ' (pc + 3) lv (.int r :: st)) : cj_G Y X o μ pc lv (a3 :: a2 :: a1 :: st) :=
  cj_callSN (As := [a1, a2, a3]) C hw hM hs hl rfl hd hcat hdg kk
theorem cj_cV3v (C : cj_C Y X cc nL own d ret) {y : MethodName} {bytes : ByteArray} {maxL d' index g k ci N : Nat} {rt : Option FieldType} {F : cj_Fc} {fs : List Value} {T : u_T} {a1 a2 a3 : Value} {μ' : cj_Mm} (hw : cj_cw y bytes maxL 3 rt) (hM : cj_Ct X.2.1 Y y bytes maxL rt d' (.ref (Y.2.2.2 g k) :: [a1, a2, a3]) μ none μ') (hi : Cond.instanceMethod y ∈ cj_ws) (hs : Cond.selects y.cls y y ∈ cj_ws) (hl : Cond.methodLink own index y ∈ cj_ws) (he : Y.1 Y.2.2.2 g k = some F) (hF : F (μ g k) = .inr (ci, fs)) (hc : cj_cl[ci]? = some (y.cls, T, N)) (hd : d' + 1 ≤ d ∧ 8 + (maxL + 11) + 37 * d' ≤ 37 * d) (hcat : (st.map fun v => v.category).sum ≤ 8) (hdg : decode cc pc = .ok (.invokevirtual index, 3)) (kk : cj_G Y X o μ' (pc + 3) lv (st)) : cj_G Y X o μ pc lv (a3 :: a2 :: a1 :: .ref (Y.2.2.2 g k) :: st) :=
  cj_callV (As := [a1, a2, a3]) C hw hM hi hs hl he hF hc rfl hd hcat hdg kk
theorem cj_cS3v (C : cj_C Y X cc nL own d ret) {y : MethodName} {bytes : ByteArray} {maxL d' index : Nat} {rt : Option FieldType} {a1 a2 a3 : Value} {μ' : cj_Mm} (hw : cj_cw y bytes maxL 3 rt) (hM : cj_Ct X.2.1 Y y bytes maxL rt d' [a1, a2, a3] μ none μ') (hs : Cond.static y ∈ cj_ws) (hl : Cond.methodLink own index y ∈ cj_ws) (hd : d' + 1 ≤ d ∧ 8 + (maxL + 11) + 37 * d' ≤ 37 * d) (hcat : (st.map fun v => v.category).sum ≤ 8) (hdg : decode cc pc = .ok (.invokestatic index, 3)) (kk : cj_G Y X o μ' (pc + 3) lv (st)) : cj_G Y X o μ pc lv (a3 :: a2 :: a1 :: st) :=
  cj_callS (As := [a1, a2, a3]) C hw hM hs hl rfl hd hcat hdg kk
theorem cj_cN3v (C : cj_C Y X cc nL own d ret) {y : MethodName} {bytes : ByteArray} {maxL d' index : Nat} {host : String} {rt : Option FieldType} {a1 a2 a3 : Value} {μ' : cj_Mm} (hw : cj_cw y bytes maxL 3 rt) (hM : cj_Ct X.2.1 Y y bytes maxL rt d' [a1, a2, a3] μ none μ') (hs : Cond.static y ∈ cj_ws) (hl : (own, index, y, host) ∈ cj_nst) (hd : d' + 1 ≤ d ∧ 8 + (maxL + 11) + 37 * d' ≤ 37 * d) (hcat : (st.map fun v => v.category).sum ≤ 8) (hdg : decode cc pc = .ok (.invokestatic index, 3)) (kk : cj_G Y X o μ' (pc + 3) lv (st)) : cj_G Y X o μ pc lv (a3 :: a2 :: a1 :: st) :=
  cj_callSN (As := [a1, a2, a3]) C hw hM hs hl rfl hd hcat hdg kk
theorem cj_cV4i (C : cj_C Y X cc nL own d ret) {y : MethodName} {bytes : ByteArray} {maxL d' index g k ci N : Nat} {rt : Option FieldType} {F : cj_Fc} {fs : List Value} {T : u_T} {a1 a2 a3 a4 : Value} {r : Int32} {μ' : cj_Mm} (hw : cj_cw y bytes maxL 4 rt) (hM : cj_Ct X.2.1 Y y bytes maxL rt d' (.ref (Y.2.2.2 g k) :: [a1, a2, a3, a4]) μ (some (.int r)) μ') (hi : Cond.instanceMethod y ∈ cj_ws) (hs : Cond.selects y.cls y y ∈ cj_ws) (hl : Cond.methodLink own index y ∈ cj_ws) (he : Y.1 Y.2.2.2 g k = some F) (hF : F (μ g k) = .inr (ci, fs)) (hc : cj_cl[ci]? = some (y.cls, T, N)) (hd : d' + 1 ≤ d ∧ 8 + (maxL + 11) + 37 * d' ≤ 37 * d) (hcat : (st.map fun v => v.category).sum ≤ 8) (hdg : decode cc pc = .ok (.invokevirtual index, 3)) (kk : cj_G Y X o μ' (pc + 3) lv (.int r :: st)) : cj_G Y X o μ pc lv (a4 :: a3 :: a2 :: a1 :: .ref (Y.2.2.2 g k) :: st) :=
  cj_callV (As := [a1, a2, a3, a4]) C hw hM hi hs hl he hF hc rfl hd hcat hdg kk
theorem cj_cS4i (C : cj_C Y X cc nL own d ret) {y : MethodName} {bytes : ByteArray} {maxL d' index : Nat} {rt : Option FieldType} {a1 a2 a3 a4 : Value} {r : Int32} {μ' : cj_Mm} (hw : cj_cw y bytes maxL 4 rt) (hM : cj_Ct X.2.1 Y y bytes maxL rt d' [a1, a2, a3, a4] μ (some (.int r)) μ') (hs : Cond.static y ∈ cj_ws) (hl : Cond.methodLink own index y ∈ cj_ws) (hd : d' + 1 ≤ d ∧ 8 + (maxL + 11) + 37 * d' ≤ 37 * d) (hcat : (st.map fun v => v.category).sum ≤ 8) (hdg : decode cc pc = .ok (.invokestatic index, 3)) (kk : cj_G Y X o μ' (pc + 3) lv (.int r :: st)) : cj_G Y X o μ pc lv (a4 :: a3 :: a2 :: a1 :: st) :=
  cj_callS (As := [a1, a2, a3, a4]) C hw hM hs hl rfl hd hcat hdg kk
theorem cj_cN4i (C : cj_C Y X cc nL own d ret) {y : MethodName} {bytes : ByteArray} {maxL d' index : Nat} {host : String} {rt : Option FieldType} {a1 a2 a3 a4 : Value} {r : Int32} {μ' : cj_Mm} (hw : cj_cw y bytes maxL 4 rt) (hM : cj_Ct X.2.1 Y y bytes maxL rt d' [a1, a2, a3, a4] μ (some (.int r)) μ') (hs : Cond.static y ∈ cj_ws) (hl : (own, index, y, host) ∈ cj_nst) (hd : d' + 1 ≤ d ∧ 8 + (maxL + 11) + 37 * d' ≤ 37 * d) (hcat : (st.map fun v => v.category).sum ≤ 8) (hdg : decode cc pc = .ok (.invokestatic index, 3)) (kk : cj_G Y X o μ' (pc + 3) lv (.int r :: st)) : cj_G Y X o μ pc lv (a4 :: a3 :: a2 :: a1 :: st) :=
  cj_callSN (As := [a1, a2, a3, a4]) C hw hM hs hl rfl hd hcat hdg kk
theorem cj_cV4v (C : cj_C Y X cc nL own d ret) {y : MethodName} {bytes : ByteArray} {maxL d' index g k ci N : Nat} {rt : Option FieldType} {F : cj_Fc} {fs : List Value} {T : u_T} {a1 a2 a3 a4 : Value} {μ' : cj_Mm} (hw : cj_cw y bytes maxL 4 rt) (hM : cj_Ct X.2.1 Y y bytes maxL rt d' (.ref (Y.2.2.2 g k) :: [a1, a2, a3, a4]) μ none μ') (hi : Cond.instanceMethod y ∈ cj_ws) (hs : Cond.selects y.cls y y ∈ cj_ws) (hl : Cond.methodLink own index y ∈ cj_ws) (he : Y.1 Y.2.2.2 g k = some F) (hF : F (μ g k) = .inr (ci, fs)) (hc : cj_cl[ci]? = some (y.cls, T, N)) (hd : d' + 1 ≤ d ∧ 8 + (maxL + 11) + 37 * d' ≤ 37 * d) (hcat : (st.map fun v => v.category).sum ≤ 8) (hdg : decode cc pc = .ok (.invokevirtual index, 3)) (kk : cj_G Y X o μ' (pc + 3) lv (st)) : cj_G Y X o μ pc lv (a4 :: a3 :: a2 :: a1 :: .ref (Y.2.2.2 g k) :: st) :=
  cj_callV (As := [a1, a2, a3, a4]) C hw hM hi hs hl he hF hc rfl hd hcat hdg kk
theorem cj_cS4v (C : cj_C Y X cc nL own d ret) {y : MethodName} {bytes : ByteArray} {maxL d' index : Nat} {rt : Option FieldType} {a1 a2 a3 a4 : Value} {μ' : cj_Mm} (hw : cj_cw y bytes maxL 4 rt) (hM : cj_Ct X.2.1 Y y bytes maxL rt d' [a1, a2, a3, a4] μ none μ') (hs : Cond.static y ∈ cj_ws) (hl : Cond.methodLink own index y ∈ cj_ws) (hd : d' + 1 ≤ d ∧ 8 + (maxL + 11) + 37 * d' ≤ 37 * d) (hcat : (st.map fun v => v.category).sum ≤ 8) (hdg : decode cc pc = .ok (.invokestatic index, 3)) (kk : cj_G Y X o μ' (pc + 3) lv (st)) : cj_G Y X o μ pc lv (a4 :: a3 :: a2 :: a1 :: st) :=
  cj_callS (As := [a1, a2, a3, a4]) C hw hM hs hl rfl hd hcat hdg kk
theorem cj_cN4v (C : cj_C Y X cc nL own d ret) {y : MethodName} {bytes : ByteArray} {maxL d' index : Nat} {host : String} {rt : Option FieldType} {a1 a2 a3 a4 : Value} {μ' : cj_Mm} (hw : cj_cw y bytes maxL 4 rt) (hM : cj_Ct X.2.1 Y y bytes maxL rt d' [a1, a2, a3, a4] μ none μ') (hs : Cond.static y ∈ cj_ws) (hl : (own, index, y, host) ∈ cj_nst) (hd : d' + 1 ≤ d ∧ 8 + (maxL + 11) + 37 * d' ≤ 37 * d) (hcat : (st.map fun v => v.category).sum ≤ 8) (hdg : decode cc pc = .ok (.invokestatic index, 3)) (kk : cj_G Y X o μ' (pc + 3) lv (st)) : cj_G Y X o μ pc lv (a4 :: a3 :: a2 :: a1 :: st) :=
  cj_callSN (As := [a1, a2, a3, a4]) C hw hM hs hl rfl hd hcat hdg kk
end CJ5
end
section
/-! a known place of an array -/
section CJ7
variable {Y : cj_Y} {X : cj_X} {o : Option Value × cj_Mm} {μ : cj_Mm} {g : Nat} {σ : Nat → Nat → Int32} {pc : Nat} {lv : List (Nat × Value)} {st : List Value} {cc : ByteArray} {nL d : Nat} {own : String} {ret : Option FieldType}
theorem cj_k {i : Int32} {n : Nat} (h : ¬ (i < 0 ∨ n ≤ i.toNatClampNeg)) : cj_gd i n (some ()) = some () := if_neg h
theorem cj_ialdK (C : cj_C Y X cc nL own d ret) {k n j : Nat} {i : Int32} (he : Y.1 Y.2.2.2 g k = some (fun f => .inl (Y.2.2.1.1, n, .inl f))) (hj : i.toNatClampNeg = j) (hin : ¬ (i < 0 ∨ n ≤ i.toNatClampNeg)) (hdg : decode cc pc = .ok (.iaload, 1)) (kk : cj_G Y X o μ (pc + 1) lv (.int (μ g k j) :: st)) : cj_G Y X o μ pc lv (.int i :: .ref (Y.2.2.2 g k) :: st) := by
  subst hj
  exact cj_iald C he hdg (cj_k hin) (fun _ => kk)
theorem cj_ialdKS (C : cj_C Y X cc nL own d ret) {k n j : Nat} {i : Int32} (he : Y.1 Y.2.2.2 g k = some (fun f => .inl (Y.2.2.1.1, n, .inl f))) (hj : i.toNatClampNeg = j) (hin : ¬ (i < 0 ∨ n ≤ i.toNatClampNeg)) (hdg : decode cc pc = .ok (.iaload, 1)) (kk : cj_G Y X o (cj_upG μ g σ) (pc + 1) lv (.int (σ k j) :: st)) : cj_G Y X o (cj_upG μ g σ) pc lv (.int i :: .ref (Y.2.2.2 g k) :: st) := by
  subst hj
  exact cj_ialdS C he hdg (cj_k hin) (fun _ => kk)
theorem cj_iastKS (C : cj_C Y X cc nL own d ret) {k n j : Nat} {i x : Int32} (he : Y.1 Y.2.2.2 g k = some (fun f => .inl (Y.2.2.1.1, n, .inl f))) (hj : i.toNatClampNeg = j) (hin : ¬ (i < 0 ∨ n ≤ i.toNatClampNeg)) (hdg : decode cc pc = .ok (.iastore, 1)) (kk : cj_G Y X o (cj_upG μ g (cj_up2 σ k j x)) (pc + 1) lv st) : cj_G Y X o (cj_upG μ g σ) pc lv (.int x :: .int i :: .ref (Y.2.2.2 g k) :: st) := by
  subst hj
  exact cj_iastS C he hdg (cj_k hin) (fun _ => kk)
end CJ7
end
section
/-! a JDK method with bytecode of its own: the same contract -/
set_option maxHeartbeats 4000000 in
theorem cj_Ct.ofF {l : Launch} {Y : cj_Y} {y : MethodName} {cc : ByteArray} {nL : Nat} {ret : Option FieldType} {d : Nat} {args : List Value} {μ μ' : cj_Mm} {v : Option Value} (hy : plainFor y = true) (hI : cj_Ij Y.1 Y.2.2.2) (hn : (lg_sl args).length ≤ nL) (lv : List (Nat × Value)) (hlv : lv_args 0 args = lv)
    (body : ∀ X : cj_X, X.2.1 = l → cj_C Y X cc nL y.cls d ret → cj_G Y X (v, μ') μ 0 lv []) : cj_Ct l Y y cc nL ret d args μ v μ' := by
  unfold cj_Ct Met
  refine MetFree.of_bodySF (code := cc) (maxLocals := nL) (ret := ret) hy ?_ ?_
  · intro args s m h hn
    obtain ⟨meth, c, h1, h2, h3, h4, h5, h6, -, -⟩ := Cond.code_spec hn (atoms_spec (ws := cj_ms y cc nL ret) h _ List.mem_cons_self)
    exact ⟨meth, c, h1, h2, h3, h4, h5, h6⟩
  · intro p e s m args' below meth c s₁ B hml hv _
    obtain ⟨rfl, hP, hK⟩ := hv
    have hts := atoms_spec (ws := cj_ms y cc nL ret) B.pre
    have hown : s.vm.findClass y.cls = some m.cls := findClass_of_methodNamed B.named
    have hl := lv_entry args (n := nL) hn
    have hh0 : s₁.heap = s.heap := by rw [B.state]; rfl
    have K := body (p, l, e, ({ frames := d, cells := 0, slots := 0, locals := 37 * d } : Jvm.Room), s, m, args.toArray, below, meth, c) rfl ⟨B.exec, B.bytes, hml, hown, fun w hw => hts w (List.mem_cons_of_mem _ hw), hK, hI, B.notSynchronized, B.returns, rfl, rfl, rfl, rfl⟩ s.heap [] _ hP va_S.rf (by rw [hlv, ← hml] at hl; rw [hml] at hl ⊢; exact hl)
    rw [lg_entry_eq]
    obtain ⟨t, a1, o, b1, b2, b3⟩ := K s₁ hh0 (Stand.of_body B)
    exact ⟨t, o, a1, b1, b2, ⟨b3.1, b3.2⟩⟩
end
section
/-! the words of the tables that are used, by their places -/
abbrev cj_S : Type := Nat → Nat → Int32
def cj_FU : Nat := 1000
theorem cj_vin {i : Int32} {n : Nat} (h : vp_in i n) : i.toNatClampNeg < n := Nat.not_le.mp fun q => h (Or.inr q)
theorem cj_jn {κ : Type} {α : Type} {P : Prop} {Hyp : κ → Prop} {K0 : κ} {body : κ → Option α} {r : α} (hf : cj_lt K0 body = some r) (h1 : Hyp K0) (h2 : ∀ K, Hyp K → body K = some r → P) : P := h2 K0 h1 hf
theorem eC_0 {z : cj_Zc} {ad : cj_Ad} {g : Nat} (h : cj_isC g) : cj_EL z ad g 0 = some (fun f => .inr (0, [.ref (ad g 1), .ref (ad g 9), .ref (ad g 14), .int (f 3), .int (f 4), .int (f 5), .int (f 6), .int (f 7), .int (f 8), .int (f 9)])) := cj_ec h 0
theorem eC_1 {z : cj_Zc} {ad : cj_Ad} {g : Nat} (h : cj_isC g) : cj_EL z ad g 1 = some (fun f => .inr (3, [.int (f 0), .ref (ad g 2), .ref (ad g 3), .ref (ad g 4), .ref (ad g 5), .ref (ad g 6), .ref (ad g 7), .ref (ad g 8)])) := cj_ec h 1
theorem eC_2 {z : cj_Zc} {ad : cj_Ad} {g : Nat} (h : cj_isC g) : cj_EL z ad g 2 = some (fun f => .inl (z.1, 6, .inl f)) := cj_ec h 2
theorem eC_3 {z : cj_Zc} {ad : cj_Ad} {g : Nat} (h : cj_isC g) : cj_EL z ad g 3 = some (fun f => .inl (z.1, 6, .inl f)) := cj_ec h 3
theorem eC_4 {z : cj_Zc} {ad : cj_Ad} {g : Nat} (h : cj_isC g) : cj_EL z ad g 4 = some (fun f => .inl (z.1, 6, .inl f)) := cj_ec h 4
theorem eC_5 {z : cj_Zc} {ad : cj_Ad} {g : Nat} (h : cj_isC g) : cj_EL z ad g 5 = some (fun f => .inl (z.1, 6, .inl f)) := cj_ec h 5
theorem eC_6 {z : cj_Zc} {ad : cj_Ad} {g : Nat} (h : cj_isC g) : cj_EL z ad g 6 = some (fun f => .inl (z.1, 6, .inl f)) := cj_ec h 6
theorem eC_7 {z : cj_Zc} {ad : cj_Ad} {g : Nat} (h : cj_isC g) : cj_EL z ad g 7 = some (fun f => .inl (z.1, 6, .inl f)) := cj_ec h 7
theorem eC_8 {z : cj_Zc} {ad : cj_Ad} {g : Nat} (h : cj_isC g) : cj_EL z ad g 8 = some (fun f => .inl (z.1, 72, .inl f)) := cj_ec h 8
theorem eC_9 {z : cj_Zc} {ad : cj_Ad} {g : Nat} (h : cj_isC g) : cj_EL z ad g 9 = some (fun f => .inr (6, [.int (f 0), .int (f 1), .ref (ad g 10), .ref (ad g 11), .ref (ad g 12), .ref (ad g 13)])) := cj_ec h 9
theorem eC_10 {z : cj_Zc} {ad : cj_Ad} {g : Nat} (h : cj_isC g) : cj_EL z ad g 10 = some (fun f => .inl (z.1, 10, .inl f)) := cj_ec h 10
theorem eC_11 {z : cj_Zc} {ad : cj_Ad} {g : Nat} (h : cj_isC g) : cj_EL z ad g 11 = some (fun f => .inl (z.1, 10, .inl f)) := cj_ec h 11
theorem eC_12 {z : cj_Zc} {ad : cj_Ad} {g : Nat} (h : cj_isC g) : cj_EL z ad g 12 = some (fun f => .inl (z.1, 10, .inl f)) := cj_ec h 12
theorem eC_13 {z : cj_Zc} {ad : cj_Ad} {g : Nat} (h : cj_isC g) : cj_EL z ad g 13 = some (fun f => .inl (z.1, 10, .inl f)) := cj_ec h 13
theorem eC_14 {z : cj_Zc} {ad : cj_Ad} {g : Nat} (h : cj_isC g) : cj_EL z ad g 14 = some (fun f => .inr (2, [.int (f 0), .ref (ad g 15), .ref (ad g 16), .ref (ad g 17), .ref (ad g 18), .ref (ad g 19), .ref (ad g 20)])) := cj_ec h 14
theorem eC_15 {z : cj_Zc} {ad : cj_Ad} {g : Nat} (h : cj_isC g) : cj_EL z ad g 15 = some (fun f => .inl (z.1, 4, .inl f)) := cj_ec h 15
theorem eC_16 {z : cj_Zc} {ad : cj_Ad} {g : Nat} (h : cj_isC g) : cj_EL z ad g 16 = some (fun f => .inl (z.1, 4, .inl f)) := cj_ec h 16
theorem eC_17 {z : cj_Zc} {ad : cj_Ad} {g : Nat} (h : cj_isC g) : cj_EL z ad g 17 = some (fun f => .inl (z.1, 4, .inl f)) := cj_ec h 17
theorem eC_18 {z : cj_Zc} {ad : cj_Ad} {g : Nat} (h : cj_isC g) : cj_EL z ad g 18 = some (fun f => .inl (z.1, 4, .inl f)) := cj_ec h 18
theorem eC_19 {z : cj_Zc} {ad : cj_Ad} {g : Nat} (h : cj_isC g) : cj_EL z ad g 19 = some (fun f => .inl (z.1, 4, .inl f)) := cj_ec h 19
theorem eC_20 {z : cj_Zc} {ad : cj_Ad} {g : Nat} (h : cj_isC g) : cj_EL z ad g 20 = some (fun f => .inl (z.1, 4, .inl f)) := cj_ec h 20
theorem e0_0 {z : cj_Zc} {ad : cj_Ad} : cj_EL z ad 0 0 = some (fun _ => .inr (8, [.ref (ad 5 0), .ref (ad 6 0), .ref (ad 1 0), .ref (ad 2 0), .ref (ad 3 0), .ref (ad 4 0)])) := rfl
theorem e1_0 {z : cj_Zc} {ad : cj_Ad} : cj_EL z ad 1 0 = some (fun f => .inr (1, [.ref (ad 1 1), .int (f 1), .int (f 2)])) := rfl
theorem e1_1 {z : cj_Zc} {ad : cj_Ad} : cj_EL z ad 1 1 = some (fun _ => .inl (z.2.2, 5, .inr (.inr (.inr (.inr (fun j => some (ad (7 + j) 0))))))) := rfl
theorem e2_0 {z : cj_Zc} {ad : cj_Ad} : cj_EL z ad 2 0 = some (fun f => .inr (7, [.ref (ad 2 1), .int (f 1), .int (f 2), .int (f 3), .int (f 4), .int (f 5)])) := rfl
theorem e2_1 {z : cj_Zc} {ad : cj_Ad} : cj_EL z ad 2 1 = some (fun f => .inl (z.2.1, 60, .inl f)) := rfl
theorem e3_0 {z : cj_Zc} {ad : cj_Ad} : cj_EL z ad 3 0 = some (fun f => .inr (4, [.int (f 0), .int (f 1), .int (f 2), .int (f 3)])) := rfl
theorem e4_0 {z : cj_Zc} {ad : cj_Ad} : cj_EL z ad 4 0 = some (fun f => .inr (5, [.int (f 0), .int (f 1), .int (f 2)])) := rfl
theorem eM_0 {z : cj_Zc} {ad : cj_Ad} : cj_EM z ad 0 0 = some (fun f => .inr (9, [.ref (ad 0 1), .ref (ad 0 2), .ref (ad 0 3), .ref (ad 0 4), .int (f 4), .int (f 5), .ref (ad 0 5), .int (f 7), .int (f 8), .int (f 9), .int (f 10), .int (f 11), .int (f 12), .int (f 13), .ref (ad 0 6)])) := rfl
theorem eM_1 {z : cj_Zc} {ad : cj_Ad} : cj_EM z ad 0 1 = some (fun f => .inl (z.1, 183, .inl f)) := rfl
theorem eM_2 {z : cj_Zc} {ad : cj_Ad} : cj_EM z ad 0 2 = some (fun f => .inl (z.1, 732, .inl f)) := rfl
theorem eM_3 {z : cj_Zc} {ad : cj_Ad} : cj_EM z ad 0 3 = some (fun f => .inl (z.1, 183, .inl f)) := rfl
theorem eM_4 {z : cj_Zc} {ad : cj_Ad} : cj_EM z ad 0 4 = some (fun f => .inl (z.1, 183, .inl f)) := rfl
theorem eM_5 {z : cj_Zc} {ad : cj_Ad} : cj_EM z ad 0 5 = some (fun f => .inl (z.1, 60, .inl f)) := rfl
theorem eM_6 {z : cj_Zc} {ad : cj_Ad} : cj_EM z ad 0 6 = some (fun f => .inl (z.1, 2, .inl f)) := rfl
theorem cjn_X8_9 : ("CourtJotter", 9, (⟨"CourtJotter$Court", "<init>", "()V"⟩ : MethodName), "CourtJotter") ∈ cj_nst := by decide +kernel
theorem cjn_X0_20 : ("CourtJotter$Court", 20, (⟨"CourtJotter$Sheets", "<init>", "()V"⟩ : MethodName), "CourtJotter") ∈ cj_nst := by decide +kernel
theorem cjn_X0_27 : ("CourtJotter$Court", 27, (⟨"CourtJotter$Papers", "<init>", "()V"⟩ : MethodName), "CourtJotter") ∈ cj_nst := by decide +kernel
theorem cjn_X1_17 : ("CourtJotter$History", 17, (⟨"CourtJotter$Court", "<init>", "()V"⟩ : MethodName), "CourtJotter") ∈ cj_nst := by decide +kernel
theorem cjn_X8_28 : ("CourtJotter", 28, (⟨"CourtJotter$Text", "<init>", "()V"⟩ : MethodName), "CourtJotter") ∈ cj_nst := by decide +kernel
theorem cjn_X8_35 : ("CourtJotter", 35, (⟨"CourtJotter$Rehearsal", "<init>", "()V"⟩ : MethodName), "CourtJotter") ∈ cj_nst := by decide +kernel
theorem cjn_X8_42 : ("CourtJotter", 42, (⟨"CourtJotter$Sale", "<init>", "()V"⟩ : MethodName), "CourtJotter") ∈ cj_nst := by decide +kernel
theorem cjn_X3_37 : ("CourtJotter$People", 37, (⟨"CourtJotter", "copyRow", "([I[I)V"⟩ : MethodName), "CourtJotter") ∈ cj_nst := by decide +kernel
theorem cjn_X6_31 : ("CourtJotter$Sheets", 31, (⟨"CourtJotter", "copyRow", "([I[I)V"⟩ : MethodName), "CourtJotter") ∈ cj_nst := by decide +kernel
theorem cjn_X2_34 : ("CourtJotter$Papers", 34, (⟨"CourtJotter", "copyRow", "([I[I)V"⟩ : MethodName), "CourtJotter") ∈ cj_nst := by decide +kernel
theorem cjn_X0_64 : ("CourtJotter$Court", 64, (⟨"CourtJotter", "isWithin", "(III)Z"⟩ : MethodName), "CourtJotter") ∈ cj_nst := by decide +kernel
theorem cjn_X0_117 : ("CourtJotter$Court", 117, (⟨"CourtJotter", "hasBit", "(II)Z"⟩ : MethodName), "CourtJotter") ∈ cj_nst := by decide +kernel
theorem cjn_X3_57 : ("CourtJotter$People", 57, (⟨"CourtJotter", "hasBit", "(II)Z"⟩ : MethodName), "CourtJotter") ∈ cj_nst := by decide +kernel
theorem cjn_X7_15 : ("CourtJotter$Text", 15, (⟨"CourtJotter", "isWithin", "(III)Z"⟩ : MethodName), "CourtJotter") ∈ cj_nst := by decide +kernel
theorem cjq_0 : Cond.selects "CourtJotterModel" ⟨"CourtJotterModel", "of", "(II)I"⟩ ⟨"CourtJotterModel", "of", "(II)I"⟩ ∈ cj_ws := cj_mem 0 (by decide +kernel) rfl
theorem cjq_1 : Cond.selects "CourtJotterModel" ⟨"CourtJotterModel", "changes", "()V"⟩ ⟨"CourtJotterModel", "changes", "()V"⟩ ∈ cj_ws := cj_mem 1 (by decide +kernel) rfl
theorem cjq_2 : Cond.selects "CourtJotterModel" ⟨"CourtJotterModel", "sets", "(III)V"⟩ ⟨"CourtJotterModel", "sets", "(III)V"⟩ ∈ cj_ws := cj_mem 2 (by decide +kernel) rfl
theorem cjq_3 : Cond.selects "CourtJotterModel" ⟨"CourtJotterModel", "isPerson", "(I)Z"⟩ ⟨"CourtJotterModel", "isPerson", "(I)Z"⟩ ∈ cj_ws := cj_mem 3 (by decide +kernel) rfl
theorem cjq_4 : Cond.selects "CourtJotterModel" ⟨"CourtJotterModel", "seen", "(I)I"⟩ ⟨"CourtJotterModel", "seen", "(I)I"⟩ ∈ cj_ws := cj_mem 4 (by decide +kernel) rfl
theorem cjq_5 : Cond.selects "CourtJotterModel" ⟨"CourtJotterModel", "seenAt", "(II)I"⟩ ⟨"CourtJotterModel", "seenAt", "(II)I"⟩ ∈ cj_ws := cj_mem 5 (by decide +kernel) rfl
theorem cjq_6 : Cond.selects "CourtJotterModel" ⟨"CourtJotterModel", "isHidden", "(I)Z"⟩ ⟨"CourtJotterModel", "isHidden", "(I)Z"⟩ ∈ cj_ws := cj_mem 6 (by decide +kernel) rfl
theorem cjq_7 : Cond.selects "CourtJotterModel" ⟨"CourtJotterModel", "slot", "(I)I"⟩ ⟨"CourtJotterModel", "slot", "(I)I"⟩ ∈ cj_ws := cj_mem 7 (by decide +kernel) rfl
theorem cjq_8 : Cond.selects "CourtJotterModel" ⟨"CourtJotterModel", "ofSheet", "(II)I"⟩ ⟨"CourtJotterModel", "ofSheet", "(II)I"⟩ ∈ cj_ws := cj_mem 8 (by decide +kernel) rfl
theorem cjq_9 : Cond.selects "CourtJotterModel" ⟨"CourtJotterModel", "drawable", "(I)I"⟩ ⟨"CourtJotterModel", "drawable", "(I)I"⟩ ∈ cj_ws := cj_mem 9 (by decide +kernel) rfl
theorem cjq_10 : Cond.selects "CourtJotterModel" ⟨"CourtJotterModel", "remembered", "(I)I"⟩ ⟨"CourtJotterModel", "remembered", "(I)I"⟩ ∈ cj_ws := cj_mem 10 (by decide +kernel) rfl
theorem cjq_11 : Cond.selects "CourtJotterModel" ⟨"CourtJotterModel", "takesOut", "(I)V"⟩ ⟨"CourtJotterModel", "takesOut", "(I)V"⟩ ∈ cj_ws := cj_mem 11 (by decide +kernel) rfl
theorem cjq_12 : Cond.selects "CourtJotterModel" ⟨"CourtJotterModel", "hasVerdict", "(I)Z"⟩ ⟨"CourtJotterModel", "hasVerdict", "(I)Z"⟩ ∈ cj_ws := cj_mem 12 (by decide +kernel) rfl
theorem cjq_13 : Cond.selects "CourtJotterModel" ⟨"CourtJotterModel", "day", "()I"⟩ ⟨"CourtJotterModel", "day", "()I"⟩ ∈ cj_ws := cj_mem 13 (by decide +kernel) rfl
theorem cjq_14 : Cond.selects "CourtJotterModel" ⟨"CourtJotterModel", "sheetsOf", "(I)I"⟩ ⟨"CourtJotterModel", "sheetsOf", "(I)I"⟩ ∈ cj_ws := cj_mem 14 (by decide +kernel) rfl
theorem cjq_15 : Cond.selects "CourtJotterModel" ⟨"CourtJotterModel", "isPaper", "(I)Z"⟩ ⟨"CourtJotterModel", "isPaper", "(I)Z"⟩ ∈ cj_ws := cj_mem 15 (by decide +kernel) rfl
theorem cjq_16 : Cond.selects "CourtJotterModel" ⟨"CourtJotterModel", "canSell", "(II)Z"⟩ ⟨"CourtJotterModel", "canSell", "(II)Z"⟩ ∈ cj_ws := cj_mem 16 (by decide +kernel) rfl
theorem cjq_17 : Cond.selects "CourtJotterModel" ⟨"CourtJotterModel", "isDry", "(I)Z"⟩ ⟨"CourtJotterModel", "isDry", "(I)Z"⟩ ∈ cj_ws := cj_mem 17 (by decide +kernel) rfl
theorem cjq_18 : Cond.selects "CourtJotterModel" ⟨"CourtJotterModel", "boughtOf", "(I)I"⟩ ⟨"CourtJotterModel", "boughtOf", "(I)I"⟩ ∈ cj_ws := cj_mem 18 (by decide +kernel) rfl
theorem cjq_19 : Cond.selects "CourtJotterModel" ⟨"CourtJotterModel", "ofPaper", "(II)I"⟩ ⟨"CourtJotterModel", "ofPaper", "(II)I"⟩ ∈ cj_ws := cj_mem 19 (by decide +kernel) rfl
theorem cjq_20 : Cond.selects "CourtJotterModel" ⟨"CourtJotterModel", "sells", "(II)I"⟩ ⟨"CourtJotterModel", "sells", "(II)I"⟩ ∈ cj_ws := cj_mem 20 (by decide +kernel) rfl
theorem cjq_21 : Cond.selects "CourtJotterModel" ⟨"CourtJotterModel", "priceOf", "(II)I"⟩ ⟨"CourtJotterModel", "priceOf", "(II)I"⟩ ∈ cj_ws := cj_mem 21 (by decide +kernel) rfl
theorem cjq_22 : Cond.selects "CourtJotterModel" ⟨"CourtJotterModel", "minute", "()V"⟩ ⟨"CourtJotterModel", "minute", "()V"⟩ ∈ cj_ws := cj_mem 22 (by decide +kernel) rfl
theorem cjq_23 : Cond.selects "CourtJotterModel" ⟨"CourtJotterModel", "sees", "(I)V"⟩ ⟨"CourtJotterModel", "sees", "(I)V"⟩ ∈ cj_ws := cj_mem 23 (by decide +kernel) rfl
theorem cjq_24 : Cond.selects "CourtJotterModel" ⟨"CourtJotterModel", "bestSale", "()I"⟩ ⟨"CourtJotterModel", "bestSale", "()I"⟩ ∈ cj_ws := cj_mem 24 (by decide +kernel) rfl
theorem cjq_25 : Cond.selects "CourtJotterModel" ⟨"CourtJotterModel", "plays", "()Z"⟩ ⟨"CourtJotterModel", "plays", "()Z"⟩ ∈ cj_ws := cj_mem 25 (by decide +kernel) rfl
theorem cjq_26 : Cond.selects "CourtJotterModel" ⟨"CourtJotterModel", "reads", "()Z"⟩ ⟨"CourtJotterModel", "reads", "()Z"⟩ ∈ cj_ws := cj_mem 26 (by decide +kernel) rfl
theorem cjq_27 : Cond.selects "CourtJotterModel" ⟨"CourtJotterModel", "isAt", "(II)Z"⟩ ⟨"CourtJotterModel", "isAt", "(II)Z"⟩ ∈ cj_ws := cj_mem 27 (by decide +kernel) rfl
theorem cjq_28 : Cond.selects "CourtJotterModel" ⟨"CourtJotterModel", "numbered", "(I)Z"⟩ ⟨"CourtJotterModel", "numbered", "(I)Z"⟩ ∈ cj_ws := cj_mem 28 (by decide +kernel) rfl
theorem cjq_29 : Cond.selects "CourtJotterModel" ⟨"CourtJotterModel", "sign", "(I)Z"⟩ ⟨"CourtJotterModel", "sign", "(I)Z"⟩ ∈ cj_ws := cj_mem 29 (by decide +kernel) rfl
theorem cjq_30 : Cond.selects "CourtJotterModel" ⟨"CourtJotterModel", "calls", "()I"⟩ ⟨"CourtJotterModel", "calls", "()I"⟩ ∈ cj_ws := cj_mem 30 (by decide +kernel) rfl
theorem cjq_32 : Jvm.Cond.initialized "CourtJotter" ∈ cj_ws := cj_mem 32 (by decide +kernel) rfl
theorem cjq_33 : Jvm.Cond.initialized "CourtJotter$Court" ∈ cj_ws := cj_mem 33 (by decide +kernel) rfl
theorem cjq_34 : Jvm.Cond.initialized "CourtJotter$People" ∈ cj_ws := cj_mem 34 (by decide +kernel) rfl
theorem cjq_35 : Jvm.Cond.initialized "CourtJotter$Sheets" ∈ cj_ws := cj_mem 35 (by decide +kernel) rfl
theorem cjq_36 : Jvm.Cond.initialized "CourtJotter$Papers" ∈ cj_ws := cj_mem 36 (by decide +kernel) rfl
theorem cjq_37 : Jvm.Cond.initialized "CourtJotter$History" ∈ cj_ws := cj_mem 37 (by decide +kernel) rfl
theorem cjq_38 : Jvm.Cond.initialized "CourtJotter$Text" ∈ cj_ws := cj_mem 38 (by decide +kernel) rfl
theorem cjq_39 : Jvm.Cond.initialized "CourtJotter$Rehearsal" ∈ cj_ws := cj_mem 39 (by decide +kernel) rfl
theorem cjq_41 : Jvm.Cond.initialized "CourtJotterModel" ∈ cj_ws := cj_mem 41 (by decide +kernel) rfl
theorem cjq_42 : Jvm.Cond.initialized "java/lang/Math" ∈ cj_ws := cj_mem 42 (by decide +kernel) rfl
theorem cjq_43 : Jvm.Cond.initialized "java/lang/System" ∈ cj_ws := cj_mem 43 (by decide +kernel) rfl
theorem cjq_44 : Jvm.Cond.initialized "java/lang/Integer" ∈ cj_ws := cj_mem 44 (by decide +kernel) rfl
theorem cjq_45 : Jvm.Cond.initialized "java/lang/Float" ∈ cj_ws := cj_mem 45 (by decide +kernel) rfl
theorem cjq_66 : Jvm.Cond.fieldLink "CourtJotter$People" (33 : Nat) "CourtJotter$People" "count" "I" ∈ cj_ws := cj_mem 66 (by decide +kernel) rfl
theorem cjq_67 : Jvm.Cond.fieldLink "CourtJotter$Court" (74 : Nat) "CourtJotter$People" "count" "I" ∈ cj_ws := cj_mem 67 (by decide +kernel) rfl
theorem cjq_68 : Jvm.Cond.fieldLink "CourtJotter$People" (9 : Nat) "CourtJotter$People" "rows" "[I" ∈ cj_ws := cj_mem 68 (by decide +kernel) rfl
theorem cjq_69 : Jvm.Cond.fieldLink "CourtJotter$Court" (78 : Nat) "CourtJotter$People" "rows" "[I" ∈ cj_ws := cj_mem 69 (by decide +kernel) rfl
theorem cjq_70 : Jvm.Cond.fieldLink "CourtJotter$People" (15 : Nat) "CourtJotter$People" "seats" "[I" ∈ cj_ws := cj_mem 70 (by decide +kernel) rfl
theorem cjq_71 : Jvm.Cond.fieldLink "CourtJotter$Court" (82 : Nat) "CourtJotter$People" "seats" "[I" ∈ cj_ws := cj_mem 71 (by decide +kernel) rfl
theorem cjq_72 : Jvm.Cond.fieldLink "CourtJotter$People" (18 : Nat) "CourtJotter$People" "angles" "[I" ∈ cj_ws := cj_mem 72 (by decide +kernel) rfl
theorem cjq_73 : Jvm.Cond.fieldLink "CourtJotter$Court" (89 : Nat) "CourtJotter$People" "angles" "[I" ∈ cj_ws := cj_mem 73 (by decide +kernel) rfl
theorem cjq_74 : Jvm.Cond.fieldLink "CourtJotter$People" (21 : Nat) "CourtJotter$People" "steps" "[I" ∈ cj_ws := cj_mem 74 (by decide +kernel) rfl
theorem cjq_75 : Jvm.Cond.fieldLink "CourtJotter$Court" (92 : Nat) "CourtJotter$People" "steps" "[I" ∈ cj_ws := cj_mem 75 (by decide +kernel) rfl
theorem cjq_76 : Jvm.Cond.fieldLink "CourtJotter$People" (24 : Nat) "CourtJotter$People" "verdictDays" "[I" ∈ cj_ws := cj_mem 76 (by decide +kernel) rfl
theorem cjq_77 : Jvm.Cond.fieldLink "CourtJotter$Court" (143 : Nat) "CourtJotter$People" "verdictDays" "[I" ∈ cj_ws := cj_mem 77 (by decide +kernel) rfl
theorem cjq_78 : Jvm.Cond.fieldLink "CourtJotter$People" (27 : Nat) "CourtJotter$People" "paid" "[I" ∈ cj_ws := cj_mem 78 (by decide +kernel) rfl
theorem cjq_79 : Jvm.Cond.fieldLink "CourtJotter$Court" (166 : Nat) "CourtJotter$People" "paid" "[I" ∈ cj_ws := cj_mem 79 (by decide +kernel) rfl
theorem cjq_80 : Jvm.Cond.fieldLink "CourtJotter$People" (30 : Nat) "CourtJotter$People" "seenMinutes" "[I" ∈ cj_ws := cj_mem 80 (by decide +kernel) rfl
theorem cjq_105 : Jvm.Cond.fieldLink "CourtJotter$Sheets" (24 : Nat) "CourtJotter$Sheets" "count" "I" ∈ cj_ws := cj_mem 105 (by decide +kernel) rfl
theorem cjq_106 : Jvm.Cond.fieldLink "CourtJotter$Court" (106 : Nat) "CourtJotter$Sheets" "count" "I" ∈ cj_ws := cj_mem 106 (by decide +kernel) rfl
theorem cjq_107 : Jvm.Cond.fieldLink "CourtJotter" (122 : Nat) "CourtJotter$Sheets" "count" "I" ∈ cj_ws := cj_mem 107 (by decide +kernel) rfl
theorem cjq_108 : Jvm.Cond.fieldLink "CourtJotter$Sheets" (28 : Nat) "CourtJotter$Sheets" "begun" "I" ∈ cj_ws := cj_mem 108 (by decide +kernel) rfl
theorem cjq_109 : Jvm.Cond.fieldLink "CourtJotter$Court" (232 : Nat) "CourtJotter$Sheets" "begun" "I" ∈ cj_ws := cj_mem 109 (by decide +kernel) rfl
theorem cjq_110 : Jvm.Cond.fieldLink "CourtJotter$Sheets" (9 : Nat) "CourtJotter$Sheets" "numbers" "[I" ∈ cj_ws := cj_mem 110 (by decide +kernel) rfl
theorem cjq_111 : Jvm.Cond.fieldLink "CourtJotter$Court" (204 : Nat) "CourtJotter$Sheets" "numbers" "[I" ∈ cj_ws := cj_mem 111 (by decide +kernel) rfl
theorem cjq_112 : Jvm.Cond.fieldLink "CourtJotter" (126 : Nat) "CourtJotter$Sheets" "numbers" "[I" ∈ cj_ws := cj_mem 112 (by decide +kernel) rfl
theorem cjq_113 : Jvm.Cond.fieldLink "CourtJotter$Sheets" (15 : Nat) "CourtJotter$Sheets" "people" "[I" ∈ cj_ws := cj_mem 113 (by decide +kernel) rfl
theorem cjq_114 : Jvm.Cond.fieldLink "CourtJotter$Court" (157 : Nat) "CourtJotter$Sheets" "people" "[I" ∈ cj_ws := cj_mem 114 (by decide +kernel) rfl
theorem cjq_115 : Jvm.Cond.fieldLink "CourtJotter$Sheets" (18 : Nat) "CourtJotter$Sheets" "drawn" "[I" ∈ cj_ws := cj_mem 115 (by decide +kernel) rfl
theorem cjq_116 : Jvm.Cond.fieldLink "CourtJotter$Court" (120 : Nat) "CourtJotter$Sheets" "drawn" "[I" ∈ cj_ws := cj_mem 116 (by decide +kernel) rfl
theorem cjq_117 : Jvm.Cond.fieldLink "CourtJotter$Sheets" (21 : Nat) "CourtJotter$Sheets" "dryMinutes" "[I" ∈ cj_ws := cj_mem 117 (by decide +kernel) rfl
theorem cjq_118 : Jvm.Cond.fieldLink "CourtJotter$Court" (123 : Nat) "CourtJotter$Sheets" "dryMinutes" "[I" ∈ cj_ws := cj_mem 118 (by decide +kernel) rfl
theorem cjq_138 : Jvm.Cond.fieldLink "CourtJotter$Papers" (30 : Nat) "CourtJotter$Papers" "count" "I" ∈ cj_ws := cj_mem 138 (by decide +kernel) rfl
theorem cjq_139 : Jvm.Cond.fieldLink "CourtJotter$Court" (99 : Nat) "CourtJotter$Papers" "count" "I" ∈ cj_ws := cj_mem 139 (by decide +kernel) rfl
theorem cjq_140 : Jvm.Cond.fieldLink "CourtJotter$Papers" (9 : Nat) "CourtJotter$Papers" "rates" "[I" ∈ cj_ws := cj_mem 140 (by decide +kernel) rfl
theorem cjq_141 : Jvm.Cond.fieldLink "CourtJotter$Court" (100 : Nat) "CourtJotter$Papers" "rates" "[I" ∈ cj_ws := cj_mem 141 (by decide +kernel) rfl
theorem cjq_142 : Jvm.Cond.fieldLink "CourtJotter$Papers" (15 : Nat) "CourtJotter$Papers" "hours" "[I" ∈ cj_ws := cj_mem 142 (by decide +kernel) rfl
theorem cjq_143 : Jvm.Cond.fieldLink "CourtJotter$Court" (103 : Nat) "CourtJotter$Papers" "hours" "[I" ∈ cj_ws := cj_mem 143 (by decide +kernel) rfl
theorem cjq_144 : Jvm.Cond.fieldLink "CourtJotter$Papers" (18 : Nat) "CourtJotter$Papers" "bought" "[I" ∈ cj_ws := cj_mem 144 (by decide +kernel) rfl
theorem cjq_145 : Jvm.Cond.fieldLink "CourtJotter$Court" (228 : Nat) "CourtJotter$Papers" "bought" "[I" ∈ cj_ws := cj_mem 145 (by decide +kernel) rfl
theorem cjq_146 : Jvm.Cond.fieldLink "CourtJotter$Papers" (21 : Nat) "CourtJotter$Papers" "paid" "[I" ∈ cj_ws := cj_mem 146 (by decide +kernel) rfl
theorem cjq_147 : Jvm.Cond.fieldLink "CourtJotter$Court" (231 : Nat) "CourtJotter$Papers" "paid" "[I" ∈ cj_ws := cj_mem 147 (by decide +kernel) rfl
theorem cjq_148 : Jvm.Cond.fieldLink "CourtJotter$Papers" (24 : Nat) "CourtJotter$Papers" "buyingDays" "[I" ∈ cj_ws := cj_mem 148 (by decide +kernel) rfl
theorem cjq_149 : Jvm.Cond.fieldLink "CourtJotter$Papers" (27 : Nat) "CourtJotter$Papers" "peopleBought" "[I" ∈ cj_ws := cj_mem 149 (by decide +kernel) rfl
theorem cjq_165 : Jvm.Cond.fieldLink "CourtJotter$Court" (12 : Nat) "CourtJotter$Court" "people" "LCourtJotter$People;" ∈ cj_ws := cj_mem 165 (by decide +kernel) rfl
theorem cjq_166 : Jvm.Cond.fieldLink "CourtJotter" (131 : Nat) "CourtJotter$Court" "people" "LCourtJotter$People;" ∈ cj_ws := cj_mem 166 (by decide +kernel) rfl
theorem cjq_167 : Jvm.Cond.fieldLink "CourtJotter$Court" (21 : Nat) "CourtJotter$Court" "sheets" "LCourtJotter$Sheets;" ∈ cj_ws := cj_mem 167 (by decide +kernel) rfl
theorem cjq_168 : Jvm.Cond.fieldLink "CourtJotter" (99 : Nat) "CourtJotter$Court" "sheets" "LCourtJotter$Sheets;" ∈ cj_ws := cj_mem 168 (by decide +kernel) rfl
theorem cjq_169 : Jvm.Cond.fieldLink "CourtJotter$Court" (28 : Nat) "CourtJotter$Court" "papers" "LCourtJotter$Papers;" ∈ cj_ws := cj_mem 169 (by decide +kernel) rfl
theorem cjq_170 : Jvm.Cond.fieldLink "CourtJotter" (108 : Nat) "CourtJotter$Court" "papers" "LCourtJotter$Papers;" ∈ cj_ws := cj_mem 170 (by decide +kernel) rfl
theorem cjq_171 : Jvm.Cond.fieldLink "CourtJotter$Court" (32 : Nat) "CourtJotter$Court" "memory" "I" ∈ cj_ws := cj_mem 171 (by decide +kernel) rfl
theorem cjq_172 : Jvm.Cond.fieldLink "CourtJotter$Court" (36 : Nat) "CourtJotter$Court" "drying" "I" ∈ cj_ws := cj_mem 172 (by decide +kernel) rfl
theorem cjq_173 : Jvm.Cond.fieldLink "CourtJotter$Court" (52 : Nat) "CourtJotter$Court" "minute" "I" ∈ cj_ws := cj_mem 173 (by decide +kernel) rfl
theorem cjq_174 : Jvm.Cond.fieldLink "CourtJotter$Court" (39 : Nat) "CourtJotter$Court" "lookedAt" "I" ∈ cj_ws := cj_mem 174 (by decide +kernel) rfl
theorem cjq_175 : Jvm.Cond.fieldLink "CourtJotter" (152 : Nat) "CourtJotter$Court" "lookedAt" "I" ∈ cj_ws := cj_mem 175 (by decide +kernel) rfl
theorem cjq_176 : Jvm.Cond.fieldLink "CourtJotter$Court" (55 : Nat) "CourtJotter$Court" "drawnThisMinute" "I" ∈ cj_ws := cj_mem 176 (by decide +kernel) rfl
theorem cjq_177 : Jvm.Cond.fieldLink "CourtJotter$Court" (58 : Nat) "CourtJotter$Court" "sold" "I" ∈ cj_ws := cj_mem 177 (by decide +kernel) rfl
theorem cjq_178 : Jvm.Cond.fieldLink "CourtJotter" (180 : Nat) "CourtJotter$Court" "sold" "I" ∈ cj_ws := cj_mem 178 (by decide +kernel) rfl
theorem cjq_179 : Jvm.Cond.fieldLink "CourtJotter$Court" (61 : Nat) "CourtJotter$Court" "paid" "I" ∈ cj_ws := cj_mem 179 (by decide +kernel) rfl
theorem cjq_180 : Jvm.Cond.fieldLink "CourtJotter" (183 : Nat) "CourtJotter$Court" "paid" "I" ∈ cj_ws := cj_mem 180 (by decide +kernel) rfl
theorem cjq_211 : Jvm.Cond.fieldLink "CourtJotter$History" (13 : Nat) "CourtJotter$History" "states" "[LCourtJotter$Court;" ∈ cj_ws := cj_mem 211 (by decide +kernel) rfl
theorem cjq_212 : Jvm.Cond.fieldLink "CourtJotter$History" (18 : Nat) "CourtJotter$History" "oldest" "I" ∈ cj_ws := cj_mem 212 (by decide +kernel) rfl
theorem cjq_213 : Jvm.Cond.fieldLink "CourtJotter$History" (22 : Nat) "CourtJotter$History" "size" "I" ∈ cj_ws := cj_mem 213 (by decide +kernel) rfl
theorem cjq_214 : Jvm.Cond.fieldLink "CourtJotter" (190 : Nat) "CourtJotter$History" "size" "I" ∈ cj_ws := cj_mem 214 (by decide +kernel) rfl
theorem cjq_228 : Jvm.Cond.fieldLink "CourtJotter$Text" (9 : Nat) "CourtJotter$Text" "characters" "[C" ∈ cj_ws := cj_mem 228 (by decide +kernel) rfl
theorem cjq_229 : Jvm.Cond.fieldLink "CourtJotter$Text" (20 : Nat) "CourtJotter$Text" "length" "I" ∈ cj_ws := cj_mem 229 (by decide +kernel) rfl
theorem cjq_230 : Jvm.Cond.fieldLink "CourtJotter$Rehearsal" (18 : Nat) "CourtJotter$Text" "length" "I" ∈ cj_ws := cj_mem 230 (by decide +kernel) rfl
theorem cjq_231 : Jvm.Cond.fieldLink "CourtJotter" (193 : Nat) "CourtJotter$Text" "length" "I" ∈ cj_ws := cj_mem 231 (by decide +kernel) rfl
theorem cjq_232 : Jvm.Cond.fieldLink "CourtJotter$Rehearsal" (27 : Nat) "CourtJotter$Text" "at" "I" ∈ cj_ws := cj_mem 232 (by decide +kernel) rfl
theorem cjq_233 : Jvm.Cond.fieldLink "CourtJotter$Text" (25 : Nat) "CourtJotter$Text" "at" "I" ∈ cj_ws := cj_mem 233 (by decide +kernel) rfl
theorem cjq_234 : Jvm.Cond.fieldLink "CourtJotter$Rehearsal" (34 : Nat) "CourtJotter$Text" "kind" "C" ∈ cj_ws := cj_mem 234 (by decide +kernel) rfl
theorem cjq_235 : Jvm.Cond.fieldLink "CourtJotter$Text" (32 : Nat) "CourtJotter$Text" "kind" "C" ∈ cj_ws := cj_mem 235 (by decide +kernel) rfl
theorem cjq_236 : Jvm.Cond.fieldLink "CourtJotter$Rehearsal" (38 : Nat) "CourtJotter$Text" "first" "I" ∈ cj_ws := cj_mem 236 (by decide +kernel) rfl
theorem cjq_237 : Jvm.Cond.fieldLink "CourtJotter$Text" (47 : Nat) "CourtJotter$Text" "first" "I" ∈ cj_ws := cj_mem 237 (by decide +kernel) rfl
theorem cjq_238 : Jvm.Cond.fieldLink "CourtJotter$Rehearsal" (41 : Nat) "CourtJotter$Text" "second" "I" ∈ cj_ws := cj_mem 238 (by decide +kernel) rfl
theorem cjq_239 : Jvm.Cond.fieldLink "CourtJotter$Text" (50 : Nat) "CourtJotter$Text" "second" "I" ∈ cj_ws := cj_mem 239 (by decide +kernel) rfl
theorem cjq_260 : Jvm.Cond.fieldLink "CourtJotter$Rehearsal" (9 : Nat) "CourtJotter$Rehearsal" "done" "I" ∈ cj_ws := cj_mem 260 (by decide +kernel) rfl
theorem cjq_261 : Jvm.Cond.fieldLink "CourtJotter" (220 : Nat) "CourtJotter$Rehearsal" "done" "I" ∈ cj_ws := cj_mem 261 (by decide +kernel) rfl
theorem cjq_262 : Jvm.Cond.fieldLink "CourtJotter$Rehearsal" (15 : Nat) "CourtJotter$Rehearsal" "position" "I" ∈ cj_ws := cj_mem 262 (by decide +kernel) rfl
theorem cjq_263 : Jvm.Cond.fieldLink "CourtJotter" (210 : Nat) "CourtJotter$Rehearsal" "position" "I" ∈ cj_ws := cj_mem 263 (by decide +kernel) rfl
theorem cjq_264 : Jvm.Cond.fieldLink "CourtJotter$Rehearsal" (50 : Nat) "CourtJotter$Rehearsal" "reason" "I" ∈ cj_ws := cj_mem 264 (by decide +kernel) rfl
theorem cjq_265 : Jvm.Cond.fieldLink "CourtJotter" (213 : Nat) "CourtJotter$Rehearsal" "reason" "I" ∈ cj_ws := cj_mem 265 (by decide +kernel) rfl
theorem cjq_266 : Jvm.Cond.fieldLink "CourtJotter$Rehearsal" (53 : Nat) "CourtJotter$Rehearsal" "cause" "I" ∈ cj_ws := cj_mem 266 (by decide +kernel) rfl
theorem cjq_267 : Jvm.Cond.fieldLink "CourtJotter" (216 : Nat) "CourtJotter$Rehearsal" "cause" "I" ∈ cj_ws := cj_mem 267 (by decide +kernel) rfl
theorem cjq_283 : Jvm.Cond.fieldLink "CourtJotter$Court" (207 : Nat) "CourtJotter$Sale" "sheet" "I" ∈ cj_ws := cj_mem 283 (by decide +kernel) rfl
theorem cjq_284 : Jvm.Cond.fieldLink "CourtJotter" (171 : Nat) "CourtJotter$Sale" "sheet" "I" ∈ cj_ws := cj_mem 284 (by decide +kernel) rfl
theorem cjq_285 : Jvm.Cond.fieldLink "CourtJotter$Court" (210 : Nat) "CourtJotter$Sale" "paper" "I" ∈ cj_ws := cj_mem 285 (by decide +kernel) rfl
theorem cjq_286 : Jvm.Cond.fieldLink "CourtJotter" (174 : Nat) "CourtJotter$Sale" "paper" "I" ∈ cj_ws := cj_mem 286 (by decide +kernel) rfl
theorem cjq_287 : Jvm.Cond.fieldLink "CourtJotter$Court" (199 : Nat) "CourtJotter$Sale" "price" "I" ∈ cj_ws := cj_mem 287 (by decide +kernel) rfl
theorem cjq_288 : Jvm.Cond.fieldLink "CourtJotter" (177 : Nat) "CourtJotter$Sale" "price" "I" ∈ cj_ws := cj_mem 288 (by decide +kernel) rfl
theorem cjq_296 : Jvm.Cond.fieldLink "CourtJotter" (10 : Nat) "CourtJotter" "court" "LCourtJotter$Court;" ∈ cj_ws := cj_mem 296 (by decide +kernel) rfl
theorem cjq_297 : Jvm.Cond.fieldLink "CourtJotter" (16 : Nat) "CourtJotter" "trial" "LCourtJotter$Court;" ∈ cj_ws := cj_mem 297 (by decide +kernel) rfl
theorem cjq_298 : Jvm.Cond.fieldLink "CourtJotter" (22 : Nat) "CourtJotter" "history" "LCourtJotter$History;" ∈ cj_ws := cj_mem 298 (by decide +kernel) rfl
theorem cjq_299 : Jvm.Cond.fieldLink "CourtJotter" (29 : Nat) "CourtJotter" "text" "LCourtJotter$Text;" ∈ cj_ws := cj_mem 299 (by decide +kernel) rfl
theorem cjq_300 : Jvm.Cond.fieldLink "CourtJotter" (36 : Nat) "CourtJotter" "rehearsal" "LCourtJotter$Rehearsal;" ∈ cj_ws := cj_mem 300 (by decide +kernel) rfl
theorem cjq_301 : Jvm.Cond.fieldLink "CourtJotter" (43 : Nat) "CourtJotter" "sale" "LCourtJotter$Sale;" ∈ cj_ws := cj_mem 301 (by decide +kernel) rfl
theorem cjq_318 : Jvm.Cond.code ({ cls := "CourtJotter", name := "person", desc := "(II)I" } : Jvm.MethodName) prog_1_method_2_code (3 : Nat) (Option.some Jvm.ClassFile.FieldType.int) ∈ cj_ws := cj_mem 318 (by decide +kernel) rfl
theorem cjq_319 : Jvm.Cond.methodLink "CourtJotter" (47 : Nat) ({ cls := "CourtJotter$History", name := "prepare", desc := "(LCourtJotter$Court;)V" } : Jvm.MethodName) ∈ cj_ws := cj_mem 319 (by decide +kernel) rfl
theorem cjq_320 : Jvm.Cond.instanceMethod ({ cls := "CourtJotter$History", name := "prepare", desc := "(LCourtJotter$Court;)V" } : Jvm.MethodName) ∈ cj_ws := cj_mem 320 (by decide +kernel) rfl
theorem cjq_321 : Jvm.Cond.selects "CourtJotter$History" ({ cls := "CourtJotter$History", name := "prepare", desc := "(LCourtJotter$Court;)V" } : Jvm.MethodName) ({ cls := "CourtJotter$History", name := "prepare", desc := "(LCourtJotter$Court;)V" } : Jvm.MethodName) ∈ cj_ws := cj_mem 321 (by decide +kernel) rfl
theorem cjq_322 : Jvm.Cond.code ({ cls := "CourtJotter$History", name := "prepare", desc := "(LCourtJotter$Court;)V" } : Jvm.MethodName) prog_3_method_2_code (3 : Nat) (Option.none : Option Jvm.ClassFile.FieldType) ∈ cj_ws := cj_mem 322 (by decide +kernel) rfl
theorem cjq_323 : Jvm.Cond.methodLink "CourtJotter$History" (25 : Nat) ({ cls := "CourtJotter$Court", name := "copyFrom", desc := "(LCourtJotter$Court;)V" } : Jvm.MethodName) ∈ cj_ws := cj_mem 323 (by decide +kernel) rfl
theorem cjq_324 : Jvm.Cond.instanceMethod ({ cls := "CourtJotter$Court", name := "copyFrom", desc := "(LCourtJotter$Court;)V" } : Jvm.MethodName) ∈ cj_ws := cj_mem 324 (by decide +kernel) rfl
theorem cjq_325 : Jvm.Cond.selects "CourtJotter$Court" ({ cls := "CourtJotter$Court", name := "copyFrom", desc := "(LCourtJotter$Court;)V" } : Jvm.MethodName) ({ cls := "CourtJotter$Court", name := "copyFrom", desc := "(LCourtJotter$Court;)V" } : Jvm.MethodName) ∈ cj_ws := cj_mem 325 (by decide +kernel) rfl
theorem cjq_326 : Jvm.Cond.code ({ cls := "CourtJotter$Court", name := "copyFrom", desc := "(LCourtJotter$Court;)V" } : Jvm.MethodName) prog_2_method_2_code (2 : Nat) (Option.none : Option Jvm.ClassFile.FieldType) ∈ cj_ws := cj_mem 326 (by decide +kernel) rfl
theorem cjq_327 : Jvm.Cond.methodLink "CourtJotter$Court" (42 : Nat) ({ cls := "CourtJotter$People", name := "copyFrom", desc := "(LCourtJotter$People;)V" } : Jvm.MethodName) ∈ cj_ws := cj_mem 327 (by decide +kernel) rfl
theorem cjq_328 : Jvm.Cond.instanceMethod ({ cls := "CourtJotter$People", name := "copyFrom", desc := "(LCourtJotter$People;)V" } : Jvm.MethodName) ∈ cj_ws := cj_mem 328 (by decide +kernel) rfl
theorem cjq_329 : Jvm.Cond.selects "CourtJotter$People" ({ cls := "CourtJotter$People", name := "copyFrom", desc := "(LCourtJotter$People;)V" } : Jvm.MethodName) ({ cls := "CourtJotter$People", name := "copyFrom", desc := "(LCourtJotter$People;)V" } : Jvm.MethodName) ∈ cj_ws := cj_mem 329 (by decide +kernel) rfl
theorem cjq_330 : Jvm.Cond.code ({ cls := "CourtJotter$People", name := "copyFrom", desc := "(LCourtJotter$People;)V" } : Jvm.MethodName) prog_5_method_2_code (2 : Nat) (Option.none : Option Jvm.ClassFile.FieldType) ∈ cj_ws := cj_mem 330 (by decide +kernel) rfl
theorem cjq_332 : Jvm.Cond.static ({ cls := "CourtJotter", name := "copyRow", desc := "([I[I)V" } : Jvm.MethodName) ∈ cj_ws := cj_mem 332 (by decide +kernel) rfl
theorem cjq_333 : Jvm.Cond.code ({ cls := "CourtJotter", name := "copyRow", desc := "([I[I)V" } : Jvm.MethodName) prog_1_method_31_code (2 : Nat) (Option.none : Option Jvm.ClassFile.FieldType) ∈ cj_ws := cj_mem 333 (by decide +kernel) rfl
theorem cjq_334 : Jvm.Cond.methodLink "CourtJotter" (223 : Nat) ({ cls := "java/lang/Math", name := "min", desc := "(II)I" } : Jvm.MethodName) ∈ cj_ws := cj_mem 334 (by decide +kernel) rfl
theorem cjq_335 : Jvm.Cond.static ({ cls := "java/lang/Math", name := "min", desc := "(II)I" } : Jvm.MethodName) ∈ cj_ws := cj_mem 335 (by decide +kernel) rfl
theorem cjq_336 : Jvm.Cond.code ({ cls := "java/lang/Math", name := "min", desc := "(II)I" } : Jvm.MethodName) prog_14_method_69_code (2 : Nat) (Option.some Jvm.ClassFile.FieldType.int) ∈ cj_ws := cj_mem 336 (by decide +kernel) rfl
theorem cjq_337 : Jvm.Cond.methodLink "CourtJotter" (228 : Nat) ({ cls := "java/lang/System", name := "arraycopy", desc := "(Ljava/lang/Object;ILjava/lang/Object;II)V" } : Jvm.MethodName) ∈ cj_ws := cj_mem 337 (by decide +kernel) rfl
theorem cjq_338 : Jvm.Cond.static ({ cls := "java/lang/System", name := "arraycopy", desc := "(Ljava/lang/Object;ILjava/lang/Object;II)V" } : Jvm.MethodName) ∈ cj_ws := cj_mem 338 (by decide +kernel) rfl
theorem cjq_339 : Jvm.Cond.native ({ cls := "java/lang/System", name := "arraycopy", desc := "(Ljava/lang/Object;ILjava/lang/Object;II)V" } : Jvm.MethodName) ∈ cj_ws := cj_mem 339 (by decide +kernel) rfl
theorem cjq_340 : Jvm.Cond.methodLink "CourtJotter$Court" (46 : Nat) ({ cls := "CourtJotter$Sheets", name := "copyFrom", desc := "(LCourtJotter$Sheets;)V" } : Jvm.MethodName) ∈ cj_ws := cj_mem 340 (by decide +kernel) rfl
theorem cjq_341 : Jvm.Cond.instanceMethod ({ cls := "CourtJotter$Sheets", name := "copyFrom", desc := "(LCourtJotter$Sheets;)V" } : Jvm.MethodName) ∈ cj_ws := cj_mem 341 (by decide +kernel) rfl
theorem cjq_342 : Jvm.Cond.selects "CourtJotter$Sheets" ({ cls := "CourtJotter$Sheets", name := "copyFrom", desc := "(LCourtJotter$Sheets;)V" } : Jvm.MethodName) ({ cls := "CourtJotter$Sheets", name := "copyFrom", desc := "(LCourtJotter$Sheets;)V" } : Jvm.MethodName) ∈ cj_ws := cj_mem 342 (by decide +kernel) rfl
theorem cjq_343 : Jvm.Cond.code ({ cls := "CourtJotter$Sheets", name := "copyFrom", desc := "(LCourtJotter$Sheets;)V" } : Jvm.MethodName) prog_8_method_2_code (2 : Nat) (Option.none : Option Jvm.ClassFile.FieldType) ∈ cj_ws := cj_mem 343 (by decide +kernel) rfl
theorem cjq_345 : Jvm.Cond.methodLink "CourtJotter$Court" (49 : Nat) ({ cls := "CourtJotter$Papers", name := "copyFrom", desc := "(LCourtJotter$Papers;)V" } : Jvm.MethodName) ∈ cj_ws := cj_mem 345 (by decide +kernel) rfl
theorem cjq_346 : Jvm.Cond.instanceMethod ({ cls := "CourtJotter$Papers", name := "copyFrom", desc := "(LCourtJotter$Papers;)V" } : Jvm.MethodName) ∈ cj_ws := cj_mem 346 (by decide +kernel) rfl
theorem cjq_347 : Jvm.Cond.selects "CourtJotter$Papers" ({ cls := "CourtJotter$Papers", name := "copyFrom", desc := "(LCourtJotter$Papers;)V" } : Jvm.MethodName) ({ cls := "CourtJotter$Papers", name := "copyFrom", desc := "(LCourtJotter$Papers;)V" } : Jvm.MethodName) ∈ cj_ws := cj_mem 347 (by decide +kernel) rfl
theorem cjq_348 : Jvm.Cond.code ({ cls := "CourtJotter$Papers", name := "copyFrom", desc := "(LCourtJotter$Papers;)V" } : Jvm.MethodName) prog_4_method_2_code (2 : Nat) (Option.none : Option Jvm.ClassFile.FieldType) ∈ cj_ws := cj_mem 348 (by decide +kernel) rfl
theorem cjq_350 : Jvm.Cond.methodLink "CourtJotter" (51 : Nat) ({ cls := "CourtJotter$Court", name := "addPerson", desc := "(II)I" } : Jvm.MethodName) ∈ cj_ws := cj_mem 350 (by decide +kernel) rfl
theorem cjq_351 : Jvm.Cond.instanceMethod ({ cls := "CourtJotter$Court", name := "addPerson", desc := "(II)I" } : Jvm.MethodName) ∈ cj_ws := cj_mem 351 (by decide +kernel) rfl
theorem cjq_352 : Jvm.Cond.selects "CourtJotter$Court" ({ cls := "CourtJotter$Court", name := "addPerson", desc := "(II)I" } : Jvm.MethodName) ({ cls := "CourtJotter$Court", name := "addPerson", desc := "(II)I" } : Jvm.MethodName) ∈ cj_ws := cj_mem 352 (by decide +kernel) rfl
theorem cjq_353 : Jvm.Cond.code ({ cls := "CourtJotter$Court", name := "addPerson", desc := "(II)I" } : Jvm.MethodName) prog_2_method_3_code (3 : Nat) (Option.some Jvm.ClassFile.FieldType.int) ∈ cj_ws := cj_mem 353 (by decide +kernel) rfl
theorem cjq_355 : Jvm.Cond.static ({ cls := "CourtJotter", name := "isWithin", desc := "(III)Z" } : Jvm.MethodName) ∈ cj_ws := cj_mem 355 (by decide +kernel) rfl
theorem cjq_356 : Jvm.Cond.code ({ cls := "CourtJotter", name := "isWithin", desc := "(III)Z" } : Jvm.MethodName) prog_1_method_29_code (3 : Nat) (Option.some Jvm.ClassFile.FieldType.boolean) ∈ cj_ws := cj_mem 356 (by decide +kernel) rfl
theorem cjq_357 : Jvm.Cond.constant "CourtJotter$Court" (68 : Nat) (-1000001 : Int32) ∈ cj_ws := cj_mem 357 (by decide +kernel) rfl
theorem cjq_358 : Jvm.Cond.methodLink "CourtJotter$Court" (69 : Nat) ({ cls := "CourtJotter$People", name := "isTaken", desc := "(II)Z" } : Jvm.MethodName) ∈ cj_ws := cj_mem 358 (by decide +kernel) rfl
theorem cjq_359 : Jvm.Cond.instanceMethod ({ cls := "CourtJotter$People", name := "isTaken", desc := "(II)Z" } : Jvm.MethodName) ∈ cj_ws := cj_mem 359 (by decide +kernel) rfl
theorem cjq_360 : Jvm.Cond.selects "CourtJotter$People" ({ cls := "CourtJotter$People", name := "isTaken", desc := "(II)Z" } : Jvm.MethodName) ({ cls := "CourtJotter$People", name := "isTaken", desc := "(II)Z" } : Jvm.MethodName) ∈ cj_ws := cj_mem 360 (by decide +kernel) rfl
theorem cjq_361 : Jvm.Cond.code ({ cls := "CourtJotter$People", name := "isTaken", desc := "(II)Z" } : Jvm.MethodName) prog_5_method_4_code (4 : Nat) (Option.some Jvm.ClassFile.FieldType.boolean) ∈ cj_ws := cj_mem 361 (by decide +kernel) rfl
theorem cjq_362 : Jvm.Cond.constant "CourtJotter$Court" (73 : Nat) (-1000002 : Int32) ∈ cj_ws := cj_mem 362 (by decide +kernel) rfl
theorem cjq_363 : Jvm.Cond.constant "CourtJotter$Court" (77 : Nat) (-1000003 : Int32) ∈ cj_ws := cj_mem 363 (by decide +kernel) rfl
theorem cjq_364 : Jvm.Cond.methodLink "CourtJotter" (55 : Nat) ({ cls := "CourtJotter$History", name := "settle", desc := "(I)I" } : Jvm.MethodName) ∈ cj_ws := cj_mem 364 (by decide +kernel) rfl
theorem cjq_365 : Jvm.Cond.instanceMethod ({ cls := "CourtJotter$History", name := "settle", desc := "(I)I" } : Jvm.MethodName) ∈ cj_ws := cj_mem 365 (by decide +kernel) rfl
theorem cjq_366 : Jvm.Cond.selects "CourtJotter$History" ({ cls := "CourtJotter$History", name := "settle", desc := "(I)I" } : Jvm.MethodName) ({ cls := "CourtJotter$History", name := "settle", desc := "(I)I" } : Jvm.MethodName) ∈ cj_ws := cj_mem 366 (by decide +kernel) rfl
theorem cjq_367 : Jvm.Cond.code ({ cls := "CourtJotter$History", name := "settle", desc := "(I)I" } : Jvm.MethodName) prog_3_method_3_code (2 : Nat) (Option.some Jvm.ClassFile.FieldType.int) ∈ cj_ws := cj_mem 367 (by decide +kernel) rfl
theorem cjq_371 : Jvm.Cond.code ({ cls := "CourtJotter", name := "turn", desc := "(III)I" } : Jvm.MethodName) prog_1_method_3_code (4 : Nat) (Option.some Jvm.ClassFile.FieldType.int) ∈ cj_ws := cj_mem 371 (by decide +kernel) rfl
theorem cjq_372 : Jvm.Cond.methodLink "CourtJotter" (59 : Nat) ({ cls := "CourtJotter$Court", name := "turnPerson", desc := "(III)I" } : Jvm.MethodName) ∈ cj_ws := cj_mem 372 (by decide +kernel) rfl
theorem cjq_373 : Jvm.Cond.instanceMethod ({ cls := "CourtJotter$Court", name := "turnPerson", desc := "(III)I" } : Jvm.MethodName) ∈ cj_ws := cj_mem 373 (by decide +kernel) rfl
theorem cjq_374 : Jvm.Cond.selects "CourtJotter$Court" ({ cls := "CourtJotter$Court", name := "turnPerson", desc := "(III)I" } : Jvm.MethodName) ({ cls := "CourtJotter$Court", name := "turnPerson", desc := "(III)I" } : Jvm.MethodName) ∈ cj_ws := cj_mem 374 (by decide +kernel) rfl
theorem cjq_375 : Jvm.Cond.code ({ cls := "CourtJotter$Court", name := "turnPerson", desc := "(III)I" } : Jvm.MethodName) prog_2_method_4_code (4 : Nat) (Option.some Jvm.ClassFile.FieldType.int) ∈ cj_ws := cj_mem 375 (by decide +kernel) rfl
theorem cjq_376 : Jvm.Cond.methodLink "CourtJotter$Court" (85 : Nat) ({ cls := "CourtJotter$People", name := "has", desc := "(I)Z" } : Jvm.MethodName) ∈ cj_ws := cj_mem 376 (by decide +kernel) rfl
theorem cjq_377 : Jvm.Cond.instanceMethod ({ cls := "CourtJotter$People", name := "has", desc := "(I)Z" } : Jvm.MethodName) ∈ cj_ws := cj_mem 377 (by decide +kernel) rfl
theorem cjq_378 : Jvm.Cond.selects "CourtJotter$People" ({ cls := "CourtJotter$People", name := "has", desc := "(I)Z" } : Jvm.MethodName) ({ cls := "CourtJotter$People", name := "has", desc := "(I)Z" } : Jvm.MethodName) ∈ cj_ws := cj_mem 378 (by decide +kernel) rfl
theorem cjq_379 : Jvm.Cond.code ({ cls := "CourtJotter$People", name := "has", desc := "(I)Z" } : Jvm.MethodName) prog_5_method_3_code (2 : Nat) (Option.some Jvm.ClassFile.FieldType.boolean) ∈ cj_ws := cj_mem 379 (by decide +kernel) rfl
theorem cjq_380 : Jvm.Cond.methodLink "CourtJotter$Court" (95 : Nat) ({ cls := "CourtJotter$People", name := "seenAfter", desc := "(II)I" } : Jvm.MethodName) ∈ cj_ws := cj_mem 380 (by decide +kernel) rfl
theorem cjq_381 : Jvm.Cond.instanceMethod ({ cls := "CourtJotter$People", name := "seenAfter", desc := "(II)I" } : Jvm.MethodName) ∈ cj_ws := cj_mem 381 (by decide +kernel) rfl
theorem cjq_382 : Jvm.Cond.selects "CourtJotter$People" ({ cls := "CourtJotter$People", name := "seenAfter", desc := "(II)I" } : Jvm.MethodName) ({ cls := "CourtJotter$People", name := "seenAfter", desc := "(II)I" } : Jvm.MethodName) ∈ cj_ws := cj_mem 382 (by decide +kernel) rfl
theorem cjq_383 : Jvm.Cond.code ({ cls := "CourtJotter$People", name := "seenAfter", desc := "(II)I" } : Jvm.MethodName) prog_5_method_7_code (3 : Nat) (Option.some Jvm.ClassFile.FieldType.int) ∈ cj_ws := cj_mem 383 (by decide +kernel) rfl
theorem cjq_384 : Jvm.Cond.methodLink "CourtJotter$People" (41 : Nat) ({ cls := "CourtJotter$People", name := "angleAfter", desc := "(II)I" } : Jvm.MethodName) ∈ cj_ws := cj_mem 384 (by decide +kernel) rfl
theorem cjq_385 : Jvm.Cond.instanceMethod ({ cls := "CourtJotter$People", name := "angleAfter", desc := "(II)I" } : Jvm.MethodName) ∈ cj_ws := cj_mem 385 (by decide +kernel) rfl
theorem cjq_386 : Jvm.Cond.selects "CourtJotter$People" ({ cls := "CourtJotter$People", name := "angleAfter", desc := "(II)I" } : Jvm.MethodName) ({ cls := "CourtJotter$People", name := "angleAfter", desc := "(II)I" } : Jvm.MethodName) ∈ cj_ws := cj_mem 386 (by decide +kernel) rfl
theorem cjq_387 : Jvm.Cond.code ({ cls := "CourtJotter$People", name := "angleAfter", desc := "(II)I" } : Jvm.MethodName) prog_5_method_6_code (3 : Nat) (Option.some Jvm.ClassFile.FieldType.int) ∈ cj_ws := cj_mem 387 (by decide +kernel) rfl
theorem cjq_388 : Jvm.Cond.methodLink "CourtJotter$People" (45 : Nat) ({ cls := "CourtJotter$People", name := "seenAside", desc := "(I)I" } : Jvm.MethodName) ∈ cj_ws := cj_mem 388 (by decide +kernel) rfl
theorem cjq_389 : Jvm.Cond.instanceMethod ({ cls := "CourtJotter$People", name := "seenAside", desc := "(I)I" } : Jvm.MethodName) ∈ cj_ws := cj_mem 389 (by decide +kernel) rfl
theorem cjq_390 : Jvm.Cond.selects "CourtJotter$People" ({ cls := "CourtJotter$People", name := "seenAside", desc := "(I)I" } : Jvm.MethodName) ({ cls := "CourtJotter$People", name := "seenAside", desc := "(I)I" } : Jvm.MethodName) ∈ cj_ws := cj_mem 390 (by decide +kernel) rfl
theorem cjq_391 : Jvm.Cond.code ({ cls := "CourtJotter$People", name := "seenAside", desc := "(I)I" } : Jvm.MethodName) prog_5_method_5_code (3 : Nat) (Option.some Jvm.ClassFile.FieldType.int) ∈ cj_ws := cj_mem 391 (by decide +kernel) rfl
theorem cjq_392 : Jvm.Cond.methodLink "CourtJotter$People" (49 : Nat) ({ cls := "CourtJotter$People", name := "features", desc := "(II)I" } : Jvm.MethodName) ∈ cj_ws := cj_mem 392 (by decide +kernel) rfl
theorem cjq_393 : Jvm.Cond.static ({ cls := "CourtJotter$People", name := "features", desc := "(II)I" } : Jvm.MethodName) ∈ cj_ws := cj_mem 393 (by decide +kernel) rfl
theorem cjq_394 : Jvm.Cond.code ({ cls := "CourtJotter$People", name := "features", desc := "(II)I" } : Jvm.MethodName) prog_5_method_9_code (4 : Nat) (Option.some Jvm.ClassFile.FieldType.int) ∈ cj_ws := cj_mem 394 (by decide +kernel) rfl
theorem cjq_398 : Jvm.Cond.code ({ cls := "CourtJotter", name := "paper", desc := "(II)I" } : Jvm.MethodName) prog_1_method_4_code (3 : Nat) (Option.some Jvm.ClassFile.FieldType.int) ∈ cj_ws := cj_mem 398 (by decide +kernel) rfl
theorem cjq_399 : Jvm.Cond.methodLink "CourtJotter" (63 : Nat) ({ cls := "CourtJotter$Court", name := "addPaper", desc := "(II)I" } : Jvm.MethodName) ∈ cj_ws := cj_mem 399 (by decide +kernel) rfl
theorem cjq_400 : Jvm.Cond.instanceMethod ({ cls := "CourtJotter$Court", name := "addPaper", desc := "(II)I" } : Jvm.MethodName) ∈ cj_ws := cj_mem 400 (by decide +kernel) rfl
theorem cjq_401 : Jvm.Cond.selects "CourtJotter$Court" ({ cls := "CourtJotter$Court", name := "addPaper", desc := "(II)I" } : Jvm.MethodName) ({ cls := "CourtJotter$Court", name := "addPaper", desc := "(II)I" } : Jvm.MethodName) ∈ cj_ws := cj_mem 401 (by decide +kernel) rfl
theorem cjq_402 : Jvm.Cond.code ({ cls := "CourtJotter$Court", name := "addPaper", desc := "(II)I" } : Jvm.MethodName) prog_2_method_5_code (3 : Nat) (Option.some Jvm.ClassFile.FieldType.int) ∈ cj_ws := cj_mem 402 (by decide +kernel) rfl
theorem cjq_406 : Jvm.Cond.code ({ cls := "CourtJotter", name := "look", desc := "(I)I" } : Jvm.MethodName) prog_1_method_5_code (2 : Nat) (Option.some Jvm.ClassFile.FieldType.int) ∈ cj_ws := cj_mem 406 (by decide +kernel) rfl
theorem cjq_407 : Jvm.Cond.methodLink "CourtJotter" (66 : Nat) ({ cls := "CourtJotter$Court", name := "lookAt", desc := "(I)I" } : Jvm.MethodName) ∈ cj_ws := cj_mem 407 (by decide +kernel) rfl
theorem cjq_408 : Jvm.Cond.instanceMethod ({ cls := "CourtJotter$Court", name := "lookAt", desc := "(I)I" } : Jvm.MethodName) ∈ cj_ws := cj_mem 408 (by decide +kernel) rfl
theorem cjq_409 : Jvm.Cond.selects "CourtJotter$Court" ({ cls := "CourtJotter$Court", name := "lookAt", desc := "(I)I" } : Jvm.MethodName) ({ cls := "CourtJotter$Court", name := "lookAt", desc := "(I)I" } : Jvm.MethodName) ∈ cj_ws := cj_mem 409 (by decide +kernel) rfl
theorem cjq_410 : Jvm.Cond.code ({ cls := "CourtJotter$Court", name := "lookAt", desc := "(I)I" } : Jvm.MethodName) prog_2_method_6_code (2 : Nat) (Option.some Jvm.ClassFile.FieldType.int) ∈ cj_ws := cj_mem 410 (by decide +kernel) rfl
theorem cjq_414 : Jvm.Cond.code ({ cls := "CourtJotter", name := "sheet", desc := "(I)I" } : Jvm.MethodName) prog_1_method_6_code (2 : Nat) (Option.some Jvm.ClassFile.FieldType.int) ∈ cj_ws := cj_mem 414 (by decide +kernel) rfl
theorem cjq_415 : Jvm.Cond.methodLink "CourtJotter" (69 : Nat) ({ cls := "CourtJotter$Court", name := "beginSheet", desc := "(I)I" } : Jvm.MethodName) ∈ cj_ws := cj_mem 415 (by decide +kernel) rfl
theorem cjq_416 : Jvm.Cond.instanceMethod ({ cls := "CourtJotter$Court", name := "beginSheet", desc := "(I)I" } : Jvm.MethodName) ∈ cj_ws := cj_mem 416 (by decide +kernel) rfl
theorem cjq_417 : Jvm.Cond.selects "CourtJotter$Court" ({ cls := "CourtJotter$Court", name := "beginSheet", desc := "(I)I" } : Jvm.MethodName) ({ cls := "CourtJotter$Court", name := "beginSheet", desc := "(I)I" } : Jvm.MethodName) ∈ cj_ws := cj_mem 417 (by decide +kernel) rfl
theorem cjq_418 : Jvm.Cond.code ({ cls := "CourtJotter$Court", name := "beginSheet", desc := "(I)I" } : Jvm.MethodName) prog_2_method_7_code (2 : Nat) (Option.some Jvm.ClassFile.FieldType.int) ∈ cj_ws := cj_mem 418 (by decide +kernel) rfl
theorem cjq_419 : Jvm.Cond.methodLink "CourtJotter$Court" (107 : Nat) ({ cls := "CourtJotter$Sheets", name := "add", desc := "(I)I" } : Jvm.MethodName) ∈ cj_ws := cj_mem 419 (by decide +kernel) rfl
theorem cjq_420 : Jvm.Cond.instanceMethod ({ cls := "CourtJotter$Sheets", name := "add", desc := "(I)I" } : Jvm.MethodName) ∈ cj_ws := cj_mem 420 (by decide +kernel) rfl
theorem cjq_421 : Jvm.Cond.selects "CourtJotter$Sheets" ({ cls := "CourtJotter$Sheets", name := "add", desc := "(I)I" } : Jvm.MethodName) ({ cls := "CourtJotter$Sheets", name := "add", desc := "(I)I" } : Jvm.MethodName) ∈ cj_ws := cj_mem 421 (by decide +kernel) rfl
theorem cjq_422 : Jvm.Cond.code ({ cls := "CourtJotter$Sheets", name := "add", desc := "(I)I" } : Jvm.MethodName) prog_8_method_5_code (2 : Nat) (Option.some Jvm.ClassFile.FieldType.int) ∈ cj_ws := cj_mem 422 (by decide +kernel) rfl
theorem cjq_426 : Jvm.Cond.code ({ cls := "CourtJotter", name := "draw", desc := "(II)I" } : Jvm.MethodName) prog_1_method_7_code (3 : Nat) (Option.some Jvm.ClassFile.FieldType.int) ∈ cj_ws := cj_mem 426 (by decide +kernel) rfl
theorem cjq_427 : Jvm.Cond.methodLink "CourtJotter" (72 : Nat) ({ cls := "CourtJotter$Court", name := "drawFeature", desc := "(II)I" } : Jvm.MethodName) ∈ cj_ws := cj_mem 427 (by decide +kernel) rfl
theorem cjq_428 : Jvm.Cond.instanceMethod ({ cls := "CourtJotter$Court", name := "drawFeature", desc := "(II)I" } : Jvm.MethodName) ∈ cj_ws := cj_mem 428 (by decide +kernel) rfl
theorem cjq_429 : Jvm.Cond.selects "CourtJotter$Court" ({ cls := "CourtJotter$Court", name := "drawFeature", desc := "(II)I" } : Jvm.MethodName) ({ cls := "CourtJotter$Court", name := "drawFeature", desc := "(II)I" } : Jvm.MethodName) ∈ cj_ws := cj_mem 429 (by decide +kernel) rfl
theorem cjq_430 : Jvm.Cond.code ({ cls := "CourtJotter$Court", name := "drawFeature", desc := "(II)I" } : Jvm.MethodName) prog_2_method_8_code (4 : Nat) (Option.some Jvm.ClassFile.FieldType.int) ∈ cj_ws := cj_mem 430 (by decide +kernel) rfl
theorem cjq_431 : Jvm.Cond.methodLink "CourtJotter$Court" (111 : Nat) ({ cls := "CourtJotter$Sheets", name := "placeOf", desc := "(I)I" } : Jvm.MethodName) ∈ cj_ws := cj_mem 431 (by decide +kernel) rfl
theorem cjq_432 : Jvm.Cond.instanceMethod ({ cls := "CourtJotter$Sheets", name := "placeOf", desc := "(I)I" } : Jvm.MethodName) ∈ cj_ws := cj_mem 432 (by decide +kernel) rfl
theorem cjq_433 : Jvm.Cond.selects "CourtJotter$Sheets" ({ cls := "CourtJotter$Sheets", name := "placeOf", desc := "(I)I" } : Jvm.MethodName) ({ cls := "CourtJotter$Sheets", name := "placeOf", desc := "(I)I" } : Jvm.MethodName) ∈ cj_ws := cj_mem 433 (by decide +kernel) rfl
theorem cjq_434 : Jvm.Cond.code ({ cls := "CourtJotter$Sheets", name := "placeOf", desc := "(I)I" } : Jvm.MethodName) prog_8_method_3_code (3 : Nat) (Option.some Jvm.ClassFile.FieldType.int) ∈ cj_ws := cj_mem 434 (by decide +kernel) rfl
theorem cjq_435 : Jvm.Cond.methodLink "CourtJotter$Court" (114 : Nat) ({ cls := "CourtJotter$Court", name := "drawable", desc := "(I)I" } : Jvm.MethodName) ∈ cj_ws := cj_mem 435 (by decide +kernel) rfl
theorem cjq_436 : Jvm.Cond.instanceMethod ({ cls := "CourtJotter$Court", name := "drawable", desc := "(I)I" } : Jvm.MethodName) ∈ cj_ws := cj_mem 436 (by decide +kernel) rfl
theorem cjq_437 : Jvm.Cond.selects "CourtJotter$Court" ({ cls := "CourtJotter$Court", name := "drawable", desc := "(I)I" } : Jvm.MethodName) ({ cls := "CourtJotter$Court", name := "drawable", desc := "(I)I" } : Jvm.MethodName) ∈ cj_ws := cj_mem 437 (by decide +kernel) rfl
theorem cjq_438 : Jvm.Cond.code ({ cls := "CourtJotter$Court", name := "drawable", desc := "(I)I" } : Jvm.MethodName) prog_2_method_23_code (2 : Nat) (Option.some Jvm.ClassFile.FieldType.int) ∈ cj_ws := cj_mem 438 (by decide +kernel) rfl
theorem cjq_439 : Jvm.Cond.methodLink "CourtJotter$Court" (171 : Nat) ({ cls := "CourtJotter$Court", name := "remembered", desc := "(I)I" } : Jvm.MethodName) ∈ cj_ws := cj_mem 439 (by decide +kernel) rfl
theorem cjq_440 : Jvm.Cond.instanceMethod ({ cls := "CourtJotter$Court", name := "remembered", desc := "(I)I" } : Jvm.MethodName) ∈ cj_ws := cj_mem 440 (by decide +kernel) rfl
theorem cjq_441 : Jvm.Cond.selects "CourtJotter$Court" ({ cls := "CourtJotter$Court", name := "remembered", desc := "(I)I" } : Jvm.MethodName) ({ cls := "CourtJotter$Court", name := "remembered", desc := "(I)I" } : Jvm.MethodName) ∈ cj_ws := cj_mem 441 (by decide +kernel) rfl
theorem cjq_442 : Jvm.Cond.code ({ cls := "CourtJotter$Court", name := "remembered", desc := "(I)I" } : Jvm.MethodName) prog_2_method_22_code (2 : Nat) (Option.some Jvm.ClassFile.FieldType.int) ∈ cj_ws := cj_mem 442 (by decide +kernel) rfl
theorem cjq_443 : Jvm.Cond.methodLink "CourtJotter$Court" (222 : Nat) ({ cls := "CourtJotter$People", name := "rememberedSince", desc := "(II)I" } : Jvm.MethodName) ∈ cj_ws := cj_mem 443 (by decide +kernel) rfl
theorem cjq_444 : Jvm.Cond.instanceMethod ({ cls := "CourtJotter$People", name := "rememberedSince", desc := "(II)I" } : Jvm.MethodName) ∈ cj_ws := cj_mem 444 (by decide +kernel) rfl
theorem cjq_445 : Jvm.Cond.selects "CourtJotter$People" ({ cls := "CourtJotter$People", name := "rememberedSince", desc := "(II)I" } : Jvm.MethodName) ({ cls := "CourtJotter$People", name := "rememberedSince", desc := "(II)I" } : Jvm.MethodName) ∈ cj_ws := cj_mem 445 (by decide +kernel) rfl
theorem cjq_446 : Jvm.Cond.code ({ cls := "CourtJotter$People", name := "rememberedSince", desc := "(II)I" } : Jvm.MethodName) prog_5_method_11_code (6 : Nat) (Option.some Jvm.ClassFile.FieldType.int) ∈ cj_ws := cj_mem 446 (by decide +kernel) rfl
theorem cjq_448 : Jvm.Cond.static ({ cls := "CourtJotter", name := "hasBit", desc := "(II)Z" } : Jvm.MethodName) ∈ cj_ws := cj_mem 448 (by decide +kernel) rfl
theorem cjq_449 : Jvm.Cond.code ({ cls := "CourtJotter", name := "hasBit", desc := "(II)Z" } : Jvm.MethodName) prog_1_method_30_code (2 : Nat) (Option.some Jvm.ClassFile.FieldType.boolean) ∈ cj_ws := cj_mem 449 (by decide +kernel) rfl
theorem cjq_450 : Jvm.Cond.methodLink "CourtJotter$Court" (126 : Nat) ({ cls := "java/lang/Math", name := "max", desc := "(II)I" } : Jvm.MethodName) ∈ cj_ws := cj_mem 450 (by decide +kernel) rfl
theorem cjq_451 : Jvm.Cond.static ({ cls := "java/lang/Math", name := "max", desc := "(II)I" } : Jvm.MethodName) ∈ cj_ws := cj_mem 451 (by decide +kernel) rfl
theorem cjq_452 : Jvm.Cond.code ({ cls := "java/lang/Math", name := "max", desc := "(II)I" } : Jvm.MethodName) prog_14_method_65_code (2 : Nat) (Option.some Jvm.ClassFile.FieldType.int) ∈ cj_ws := cj_mem 452 (by decide +kernel) rfl
theorem cjq_453 : Jvm.Cond.methodLink "CourtJotter$Court" (131 : Nat) ({ cls := "java/lang/Integer", name := "bitCount", desc := "(I)I" } : Jvm.MethodName) ∈ cj_ws := cj_mem 453 (by decide +kernel) rfl
theorem cjq_454 : Jvm.Cond.static ({ cls := "java/lang/Integer", name := "bitCount", desc := "(I)I" } : Jvm.MethodName) ∈ cj_ws := cj_mem 454 (by decide +kernel) rfl
theorem cjq_455 : Jvm.Cond.code ({ cls := "java/lang/Integer", name := "bitCount", desc := "(I)I" } : Jvm.MethodName) prog_13_method_49_code (1 : Nat) (Option.some Jvm.ClassFile.FieldType.int) ∈ cj_ws := cj_mem 455 (by decide +kernel) rfl
theorem cjq_456 : Jvm.Cond.constant "java/lang/Integer" (265 : Nat) (1431655765 : Int32) ∈ cj_ws := cj_mem 456 (by decide +kernel) rfl
theorem cjq_457 : Jvm.Cond.constant "java/lang/Integer" (266 : Nat) (858993459 : Int32) ∈ cj_ws := cj_mem 457 (by decide +kernel) rfl
theorem cjq_458 : Jvm.Cond.constant "java/lang/Integer" (267 : Nat) (252645135 : Int32) ∈ cj_ws := cj_mem 458 (by decide +kernel) rfl
theorem cjq_462 : Jvm.Cond.code ({ cls := "CourtJotter", name := "tear", desc := "(I)I" } : Jvm.MethodName) prog_1_method_8_code (2 : Nat) (Option.some Jvm.ClassFile.FieldType.int) ∈ cj_ws := cj_mem 462 (by decide +kernel) rfl
theorem cjq_463 : Jvm.Cond.methodLink "CourtJotter" (75 : Nat) ({ cls := "CourtJotter$Court", name := "tearOut", desc := "(I)I" } : Jvm.MethodName) ∈ cj_ws := cj_mem 463 (by decide +kernel) rfl
theorem cjq_464 : Jvm.Cond.instanceMethod ({ cls := "CourtJotter$Court", name := "tearOut", desc := "(I)I" } : Jvm.MethodName) ∈ cj_ws := cj_mem 464 (by decide +kernel) rfl
theorem cjq_465 : Jvm.Cond.selects "CourtJotter$Court" ({ cls := "CourtJotter$Court", name := "tearOut", desc := "(I)I" } : Jvm.MethodName) ({ cls := "CourtJotter$Court", name := "tearOut", desc := "(I)I" } : Jvm.MethodName) ∈ cj_ws := cj_mem 465 (by decide +kernel) rfl
theorem cjq_466 : Jvm.Cond.code ({ cls := "CourtJotter$Court", name := "tearOut", desc := "(I)I" } : Jvm.MethodName) prog_2_method_9_code (3 : Nat) (Option.some Jvm.ClassFile.FieldType.int) ∈ cj_ws := cj_mem 466 (by decide +kernel) rfl
theorem cjq_467 : Jvm.Cond.methodLink "CourtJotter$Court" (136 : Nat) ({ cls := "CourtJotter$Sheets", name := "removeAt", desc := "(I)V" } : Jvm.MethodName) ∈ cj_ws := cj_mem 467 (by decide +kernel) rfl
theorem cjq_468 : Jvm.Cond.instanceMethod ({ cls := "CourtJotter$Sheets", name := "removeAt", desc := "(I)V" } : Jvm.MethodName) ∈ cj_ws := cj_mem 468 (by decide +kernel) rfl
theorem cjq_469 : Jvm.Cond.selects "CourtJotter$Sheets" ({ cls := "CourtJotter$Sheets", name := "removeAt", desc := "(I)V" } : Jvm.MethodName) ({ cls := "CourtJotter$Sheets", name := "removeAt", desc := "(I)V" } : Jvm.MethodName) ∈ cj_ws := cj_mem 469 (by decide +kernel) rfl
theorem cjq_470 : Jvm.Cond.code ({ cls := "CourtJotter$Sheets", name := "removeAt", desc := "(I)V" } : Jvm.MethodName) prog_8_method_6_code (3 : Nat) (Option.none : Option Jvm.ClassFile.FieldType) ∈ cj_ws := cj_mem 470 (by decide +kernel) rfl
theorem cjq_474 : Jvm.Cond.code ({ cls := "CourtJotter", name := "verdict", desc := "(I)I" } : Jvm.MethodName) prog_1_method_9_code (2 : Nat) (Option.some Jvm.ClassFile.FieldType.int) ∈ cj_ws := cj_mem 474 (by decide +kernel) rfl
theorem cjq_475 : Jvm.Cond.methodLink "CourtJotter" (78 : Nat) ({ cls := "CourtJotter$Court", name := "tellVerdict", desc := "(I)I" } : Jvm.MethodName) ∈ cj_ws := cj_mem 475 (by decide +kernel) rfl
theorem cjq_476 : Jvm.Cond.instanceMethod ({ cls := "CourtJotter$Court", name := "tellVerdict", desc := "(I)I" } : Jvm.MethodName) ∈ cj_ws := cj_mem 476 (by decide +kernel) rfl
theorem cjq_477 : Jvm.Cond.selects "CourtJotter$Court" ({ cls := "CourtJotter$Court", name := "tellVerdict", desc := "(I)I" } : Jvm.MethodName) ({ cls := "CourtJotter$Court", name := "tellVerdict", desc := "(I)I" } : Jvm.MethodName) ∈ cj_ws := cj_mem 477 (by decide +kernel) rfl
theorem cjq_478 : Jvm.Cond.code ({ cls := "CourtJotter$Court", name := "tellVerdict", desc := "(I)I" } : Jvm.MethodName) prog_2_method_10_code (2 : Nat) (Option.some Jvm.ClassFile.FieldType.int) ∈ cj_ws := cj_mem 478 (by decide +kernel) rfl
theorem cjq_479 : Jvm.Cond.methodLink "CourtJotter$Court" (140 : Nat) ({ cls := "CourtJotter$Court", name := "hasVerdict", desc := "(I)Z" } : Jvm.MethodName) ∈ cj_ws := cj_mem 479 (by decide +kernel) rfl
theorem cjq_480 : Jvm.Cond.instanceMethod ({ cls := "CourtJotter$Court", name := "hasVerdict", desc := "(I)Z" } : Jvm.MethodName) ∈ cj_ws := cj_mem 480 (by decide +kernel) rfl
theorem cjq_481 : Jvm.Cond.selects "CourtJotter$Court" ({ cls := "CourtJotter$Court", name := "hasVerdict", desc := "(I)Z" } : Jvm.MethodName) ({ cls := "CourtJotter$Court", name := "hasVerdict", desc := "(I)Z" } : Jvm.MethodName) ∈ cj_ws := cj_mem 481 (by decide +kernel) rfl
theorem cjq_482 : Jvm.Cond.code ({ cls := "CourtJotter$Court", name := "hasVerdict", desc := "(I)Z" } : Jvm.MethodName) prog_2_method_21_code (2 : Nat) (Option.some Jvm.ClassFile.FieldType.boolean) ∈ cj_ws := cj_mem 482 (by decide +kernel) rfl
theorem cjq_483 : Jvm.Cond.methodLink "CourtJotter$Court" (146 : Nat) ({ cls := "CourtJotter$Court", name := "day", desc := "()I" } : Jvm.MethodName) ∈ cj_ws := cj_mem 483 (by decide +kernel) rfl
theorem cjq_484 : Jvm.Cond.instanceMethod ({ cls := "CourtJotter$Court", name := "day", desc := "()I" } : Jvm.MethodName) ∈ cj_ws := cj_mem 484 (by decide +kernel) rfl
theorem cjq_485 : Jvm.Cond.selects "CourtJotter$Court" ({ cls := "CourtJotter$Court", name := "day", desc := "()I" } : Jvm.MethodName) ({ cls := "CourtJotter$Court", name := "day", desc := "()I" } : Jvm.MethodName) ∈ cj_ws := cj_mem 485 (by decide +kernel) rfl
theorem cjq_486 : Jvm.Cond.code ({ cls := "CourtJotter$Court", name := "day", desc := "()I" } : Jvm.MethodName) prog_2_method_19_code (1 : Nat) (Option.some Jvm.ClassFile.FieldType.int) ∈ cj_ws := cj_mem 486 (by decide +kernel) rfl
theorem cjq_487 : Jvm.Cond.methodLink "CourtJotter$Court" (150 : Nat) ({ cls := "CourtJotter$Sheets", name := "ofPerson", desc := "(I)I" } : Jvm.MethodName) ∈ cj_ws := cj_mem 487 (by decide +kernel) rfl
theorem cjq_488 : Jvm.Cond.instanceMethod ({ cls := "CourtJotter$Sheets", name := "ofPerson", desc := "(I)I" } : Jvm.MethodName) ∈ cj_ws := cj_mem 488 (by decide +kernel) rfl
theorem cjq_489 : Jvm.Cond.selects "CourtJotter$Sheets" ({ cls := "CourtJotter$Sheets", name := "ofPerson", desc := "(I)I" } : Jvm.MethodName) ({ cls := "CourtJotter$Sheets", name := "ofPerson", desc := "(I)I" } : Jvm.MethodName) ∈ cj_ws := cj_mem 489 (by decide +kernel) rfl
theorem cjq_490 : Jvm.Cond.code ({ cls := "CourtJotter$Sheets", name := "ofPerson", desc := "(I)I" } : Jvm.MethodName) prog_8_method_4_code (4 : Nat) (Option.some Jvm.ClassFile.FieldType.int) ∈ cj_ws := cj_mem 490 (by decide +kernel) rfl
theorem cjq_494 : Jvm.Cond.code ({ cls := "CourtJotter", name := "sell", desc := "(II)I" } : Jvm.MethodName) prog_1_method_10_code (3 : Nat) (Option.some Jvm.ClassFile.FieldType.int) ∈ cj_ws := cj_mem 494 (by decide +kernel) rfl
theorem cjq_495 : Jvm.Cond.methodLink "CourtJotter" (81 : Nat) ({ cls := "CourtJotter$Court", name := "sellSheet", desc := "(II)I" } : Jvm.MethodName) ∈ cj_ws := cj_mem 495 (by decide +kernel) rfl
theorem cjq_496 : Jvm.Cond.instanceMethod ({ cls := "CourtJotter$Court", name := "sellSheet", desc := "(II)I" } : Jvm.MethodName) ∈ cj_ws := cj_mem 496 (by decide +kernel) rfl
theorem cjq_497 : Jvm.Cond.selects "CourtJotter$Court" ({ cls := "CourtJotter$Court", name := "sellSheet", desc := "(II)I" } : Jvm.MethodName) ({ cls := "CourtJotter$Court", name := "sellSheet", desc := "(II)I" } : Jvm.MethodName) ∈ cj_ws := cj_mem 497 (by decide +kernel) rfl
theorem cjq_498 : Jvm.Cond.code ({ cls := "CourtJotter$Court", name := "sellSheet", desc := "(II)I" } : Jvm.MethodName) prog_2_method_11_code (6 : Nat) (Option.some Jvm.ClassFile.FieldType.int) ∈ cj_ws := cj_mem 498 (by decide +kernel) rfl
theorem cjq_499 : Jvm.Cond.methodLink "CourtJotter$Court" (153 : Nat) ({ cls := "CourtJotter$Papers", name := "has", desc := "(I)Z" } : Jvm.MethodName) ∈ cj_ws := cj_mem 499 (by decide +kernel) rfl
theorem cjq_500 : Jvm.Cond.instanceMethod ({ cls := "CourtJotter$Papers", name := "has", desc := "(I)Z" } : Jvm.MethodName) ∈ cj_ws := cj_mem 500 (by decide +kernel) rfl
theorem cjq_501 : Jvm.Cond.selects "CourtJotter$Papers" ({ cls := "CourtJotter$Papers", name := "has", desc := "(I)Z" } : Jvm.MethodName) ({ cls := "CourtJotter$Papers", name := "has", desc := "(I)Z" } : Jvm.MethodName) ∈ cj_ws := cj_mem 501 (by decide +kernel) rfl
theorem cjq_502 : Jvm.Cond.code ({ cls := "CourtJotter$Papers", name := "has", desc := "(I)Z" } : Jvm.MethodName) prog_4_method_3_code (2 : Nat) (Option.some Jvm.ClassFile.FieldType.boolean) ∈ cj_ws := cj_mem 502 (by decide +kernel) rfl
theorem cjq_503 : Jvm.Cond.methodLink "CourtJotter$Court" (154 : Nat) ({ cls := "CourtJotter$Court", name := "canSell", desc := "(II)Z" } : Jvm.MethodName) ∈ cj_ws := cj_mem 503 (by decide +kernel) rfl
theorem cjq_504 : Jvm.Cond.instanceMethod ({ cls := "CourtJotter$Court", name := "canSell", desc := "(II)Z" } : Jvm.MethodName) ∈ cj_ws := cj_mem 504 (by decide +kernel) rfl
theorem cjq_505 : Jvm.Cond.selects "CourtJotter$Court" ({ cls := "CourtJotter$Court", name := "canSell", desc := "(II)Z" } : Jvm.MethodName) ({ cls := "CourtJotter$Court", name := "canSell", desc := "(II)Z" } : Jvm.MethodName) ∈ cj_ws := cj_mem 505 (by decide +kernel) rfl
theorem cjq_506 : Jvm.Cond.code ({ cls := "CourtJotter$Court", name := "canSell", desc := "(II)Z" } : Jvm.MethodName) prog_2_method_17_code (3 : Nat) (Option.some Jvm.ClassFile.FieldType.boolean) ∈ cj_ws := cj_mem 506 (by decide +kernel) rfl
theorem cjq_507 : Jvm.Cond.methodLink "CourtJotter$Court" (213 : Nat) ({ cls := "CourtJotter$Court", name := "isDry", desc := "(I)Z" } : Jvm.MethodName) ∈ cj_ws := cj_mem 507 (by decide +kernel) rfl
theorem cjq_508 : Jvm.Cond.instanceMethod ({ cls := "CourtJotter$Court", name := "isDry", desc := "(I)Z" } : Jvm.MethodName) ∈ cj_ws := cj_mem 508 (by decide +kernel) rfl
theorem cjq_509 : Jvm.Cond.selects "CourtJotter$Court" ({ cls := "CourtJotter$Court", name := "isDry", desc := "(I)Z" } : Jvm.MethodName) ({ cls := "CourtJotter$Court", name := "isDry", desc := "(I)Z" } : Jvm.MethodName) ∈ cj_ws := cj_mem 509 (by decide +kernel) rfl
theorem cjq_510 : Jvm.Cond.code ({ cls := "CourtJotter$Court", name := "isDry", desc := "(I)Z" } : Jvm.MethodName) prog_2_method_25_code (2 : Nat) (Option.some Jvm.ClassFile.FieldType.boolean) ∈ cj_ws := cj_mem 510 (by decide +kernel) rfl
theorem cjq_511 : Jvm.Cond.methodLink "CourtJotter$Court" (225 : Nat) ({ cls := "CourtJotter$Court", name := "wetFor", desc := "(I)I" } : Jvm.MethodName) ∈ cj_ws := cj_mem 511 (by decide +kernel) rfl
theorem cjq_512 : Jvm.Cond.instanceMethod ({ cls := "CourtJotter$Court", name := "wetFor", desc := "(I)I" } : Jvm.MethodName) ∈ cj_ws := cj_mem 512 (by decide +kernel) rfl
theorem cjq_513 : Jvm.Cond.selects "CourtJotter$Court" ({ cls := "CourtJotter$Court", name := "wetFor", desc := "(I)I" } : Jvm.MethodName) ({ cls := "CourtJotter$Court", name := "wetFor", desc := "(I)I" } : Jvm.MethodName) ∈ cj_ws := cj_mem 513 (by decide +kernel) rfl
theorem cjq_514 : Jvm.Cond.code ({ cls := "CourtJotter$Court", name := "wetFor", desc := "(I)I" } : Jvm.MethodName) prog_2_method_24_code (2 : Nat) (Option.some Jvm.ClassFile.FieldType.int) ∈ cj_ws := cj_mem 514 (by decide +kernel) rfl
theorem cjq_515 : Jvm.Cond.methodLink "CourtJotter$Court" (216 : Nat) ({ cls := "CourtJotter$Papers", name := "peopleBoughtOn", desc := "(II)I" } : Jvm.MethodName) ∈ cj_ws := cj_mem 515 (by decide +kernel) rfl
theorem cjq_516 : Jvm.Cond.instanceMethod ({ cls := "CourtJotter$Papers", name := "peopleBoughtOn", desc := "(II)I" } : Jvm.MethodName) ∈ cj_ws := cj_mem 516 (by decide +kernel) rfl
theorem cjq_517 : Jvm.Cond.selects "CourtJotter$Papers" ({ cls := "CourtJotter$Papers", name := "peopleBoughtOn", desc := "(II)I" } : Jvm.MethodName) ({ cls := "CourtJotter$Papers", name := "peopleBoughtOn", desc := "(II)I" } : Jvm.MethodName) ∈ cj_ws := cj_mem 517 (by decide +kernel) rfl
theorem cjq_518 : Jvm.Cond.code ({ cls := "CourtJotter$Papers", name := "peopleBoughtOn", desc := "(II)I" } : Jvm.MethodName) prog_4_method_4_code (3 : Nat) (Option.some Jvm.ClassFile.FieldType.int) ∈ cj_ws := cj_mem 518 (by decide +kernel) rfl
theorem cjq_519 : Jvm.Cond.methodLink "CourtJotter$Court" (159 : Nat) ({ cls := "CourtJotter$Court", name := "priceAt", desc := "(II)I" } : Jvm.MethodName) ∈ cj_ws := cj_mem 519 (by decide +kernel) rfl
theorem cjq_520 : Jvm.Cond.instanceMethod ({ cls := "CourtJotter$Court", name := "priceAt", desc := "(II)I" } : Jvm.MethodName) ∈ cj_ws := cj_mem 520 (by decide +kernel) rfl
theorem cjq_521 : Jvm.Cond.selects "CourtJotter$Court" ({ cls := "CourtJotter$Court", name := "priceAt", desc := "(II)I" } : Jvm.MethodName) ({ cls := "CourtJotter$Court", name := "priceAt", desc := "(II)I" } : Jvm.MethodName) ∈ cj_ws := cj_mem 521 (by decide +kernel) rfl
theorem cjq_522 : Jvm.Cond.code ({ cls := "CourtJotter$Court", name := "priceAt", desc := "(II)I" } : Jvm.MethodName) prog_2_method_18_code (4 : Nat) (Option.some Jvm.ClassFile.FieldType.int) ∈ cj_ws := cj_mem 522 (by decide +kernel) rfl
theorem cjq_523 : Jvm.Cond.methodLink "CourtJotter$Court" (219 : Nat) ({ cls := "CourtJotter$Court", name := "hour", desc := "()I" } : Jvm.MethodName) ∈ cj_ws := cj_mem 523 (by decide +kernel) rfl
theorem cjq_524 : Jvm.Cond.instanceMethod ({ cls := "CourtJotter$Court", name := "hour", desc := "()I" } : Jvm.MethodName) ∈ cj_ws := cj_mem 524 (by decide +kernel) rfl
theorem cjq_525 : Jvm.Cond.selects "CourtJotter$Court" ({ cls := "CourtJotter$Court", name := "hour", desc := "()I" } : Jvm.MethodName) ({ cls := "CourtJotter$Court", name := "hour", desc := "()I" } : Jvm.MethodName) ∈ cj_ws := cj_mem 525 (by decide +kernel) rfl
theorem cjq_526 : Jvm.Cond.code ({ cls := "CourtJotter$Court", name := "hour", desc := "()I" } : Jvm.MethodName) prog_2_method_20_code (1 : Nat) (Option.some Jvm.ClassFile.FieldType.int) ∈ cj_ws := cj_mem 526 (by decide +kernel) rfl
theorem cjq_527 : Jvm.Cond.methodLink "CourtJotter$Court" (162 : Nat) ({ cls := "CourtJotter$Papers", name := "buy", desc := "(IIII)V" } : Jvm.MethodName) ∈ cj_ws := cj_mem 527 (by decide +kernel) rfl
theorem cjq_528 : Jvm.Cond.instanceMethod ({ cls := "CourtJotter$Papers", name := "buy", desc := "(IIII)V" } : Jvm.MethodName) ∈ cj_ws := cj_mem 528 (by decide +kernel) rfl
theorem cjq_529 : Jvm.Cond.selects "CourtJotter$Papers" ({ cls := "CourtJotter$Papers", name := "buy", desc := "(IIII)V" } : Jvm.MethodName) ({ cls := "CourtJotter$Papers", name := "buy", desc := "(IIII)V" } : Jvm.MethodName) ∈ cj_ws := cj_mem 529 (by decide +kernel) rfl
theorem cjq_530 : Jvm.Cond.code ({ cls := "CourtJotter$Papers", name := "buy", desc := "(IIII)V" } : Jvm.MethodName) prog_4_method_5_code (5 : Nat) (Option.none : Option Jvm.ClassFile.FieldType) ∈ cj_ws := cj_mem 530 (by decide +kernel) rfl
theorem cjq_531 : Jvm.Cond.methodLink "CourtJotter$Papers" (38 : Nat) ({ cls := "CourtJotter$Papers", name := "peopleBoughtOn", desc := "(II)I" } : Jvm.MethodName) ∈ cj_ws := cj_mem 531 (by decide +kernel) rfl
theorem cjq_535 : Jvm.Cond.code ({ cls := "CourtJotter", name := "pass", desc := "(I)I" } : Jvm.MethodName) prog_1_method_11_code (2 : Nat) (Option.some Jvm.ClassFile.FieldType.int) ∈ cj_ws := cj_mem 535 (by decide +kernel) rfl
theorem cjq_536 : Jvm.Cond.methodLink "CourtJotter" (84 : Nat) ({ cls := "CourtJotter$Court", name := "passMinutes", desc := "(I)I" } : Jvm.MethodName) ∈ cj_ws := cj_mem 536 (by decide +kernel) rfl
theorem cjq_537 : Jvm.Cond.instanceMethod ({ cls := "CourtJotter$Court", name := "passMinutes", desc := "(I)I" } : Jvm.MethodName) ∈ cj_ws := cj_mem 537 (by decide +kernel) rfl
theorem cjq_538 : Jvm.Cond.selects "CourtJotter$Court" ({ cls := "CourtJotter$Court", name := "passMinutes", desc := "(I)I" } : Jvm.MethodName) ({ cls := "CourtJotter$Court", name := "passMinutes", desc := "(I)I" } : Jvm.MethodName) ∈ cj_ws := cj_mem 538 (by decide +kernel) rfl
theorem cjq_539 : Jvm.Cond.code ({ cls := "CourtJotter$Court", name := "passMinutes", desc := "(I)I" } : Jvm.MethodName) prog_2_method_12_code (4 : Nat) (Option.some Jvm.ClassFile.FieldType.int) ∈ cj_ws := cj_mem 539 (by decide +kernel) rfl
theorem cjq_540 : Jvm.Cond.methodLink "CourtJotter$Court" (168 : Nat) ({ cls := "CourtJotter$Court", name := "advance", desc := "(I)V" } : Jvm.MethodName) ∈ cj_ws := cj_mem 540 (by decide +kernel) rfl
theorem cjq_541 : Jvm.Cond.instanceMethod ({ cls := "CourtJotter$Court", name := "advance", desc := "(I)V" } : Jvm.MethodName) ∈ cj_ws := cj_mem 541 (by decide +kernel) rfl
theorem cjq_542 : Jvm.Cond.selects "CourtJotter$Court" ({ cls := "CourtJotter$Court", name := "advance", desc := "(I)V" } : Jvm.MethodName) ({ cls := "CourtJotter$Court", name := "advance", desc := "(I)V" } : Jvm.MethodName) ∈ cj_ws := cj_mem 542 (by decide +kernel) rfl
theorem cjq_543 : Jvm.Cond.code ({ cls := "CourtJotter$Court", name := "advance", desc := "(I)V" } : Jvm.MethodName) prog_2_method_15_code (2 : Nat) (Option.none : Option Jvm.ClassFile.FieldType) ∈ cj_ws := cj_mem 543 (by decide +kernel) rfl
theorem cjq_544 : Jvm.Cond.methodLink "CourtJotter$Court" (192 : Nat) ({ cls := "CourtJotter$People", name := "watch", desc := "(III)V" } : Jvm.MethodName) ∈ cj_ws := cj_mem 544 (by decide +kernel) rfl
theorem cjq_545 : Jvm.Cond.instanceMethod ({ cls := "CourtJotter$People", name := "watch", desc := "(III)V" } : Jvm.MethodName) ∈ cj_ws := cj_mem 545 (by decide +kernel) rfl
theorem cjq_546 : Jvm.Cond.selects "CourtJotter$People" ({ cls := "CourtJotter$People", name := "watch", desc := "(III)V" } : Jvm.MethodName) ({ cls := "CourtJotter$People", name := "watch", desc := "(III)V" } : Jvm.MethodName) ∈ cj_ws := cj_mem 546 (by decide +kernel) rfl
theorem cjq_547 : Jvm.Cond.code ({ cls := "CourtJotter$People", name := "watch", desc := "(III)V" } : Jvm.MethodName) prog_5_method_8_code (8 : Nat) (Option.none : Option Jvm.ClassFile.FieldType) ∈ cj_ws := cj_mem 547 (by decide +kernel) rfl
theorem cjq_548 : Jvm.Cond.methodLink "CourtJotter$People" (52 : Nat) ({ cls := "java/lang/Math", name := "max", desc := "(II)I" } : Jvm.MethodName) ∈ cj_ws := cj_mem 548 (by decide +kernel) rfl
theorem cjq_550 : Jvm.Cond.methodLink "CourtJotter$Court" (196 : Nat) ({ cls := "CourtJotter$People", name := "turnAll", desc := "(I)V" } : Jvm.MethodName) ∈ cj_ws := cj_mem 550 (by decide +kernel) rfl
theorem cjq_551 : Jvm.Cond.instanceMethod ({ cls := "CourtJotter$People", name := "turnAll", desc := "(I)V" } : Jvm.MethodName) ∈ cj_ws := cj_mem 551 (by decide +kernel) rfl
theorem cjq_552 : Jvm.Cond.selects "CourtJotter$People" ({ cls := "CourtJotter$People", name := "turnAll", desc := "(I)V" } : Jvm.MethodName) ({ cls := "CourtJotter$People", name := "turnAll", desc := "(I)V" } : Jvm.MethodName) ∈ cj_ws := cj_mem 552 (by decide +kernel) rfl
theorem cjq_553 : Jvm.Cond.code ({ cls := "CourtJotter$People", name := "turnAll", desc := "(I)V" } : Jvm.MethodName) prog_5_method_10_code (3 : Nat) (Option.none : Option Jvm.ClassFile.FieldType) ∈ cj_ws := cj_mem 553 (by decide +kernel) rfl
theorem cjq_557 : Jvm.Cond.code ({ cls := "CourtJotter", name := "set", desc := "(II)I" } : Jvm.MethodName) prog_1_method_12_code (3 : Nat) (Option.some Jvm.ClassFile.FieldType.int) ∈ cj_ws := cj_mem 557 (by decide +kernel) rfl
theorem cjq_558 : Jvm.Cond.methodLink "CourtJotter" (87 : Nat) ({ cls := "CourtJotter$Court", name := "changeSetting", desc := "(II)I" } : Jvm.MethodName) ∈ cj_ws := cj_mem 558 (by decide +kernel) rfl
theorem cjq_559 : Jvm.Cond.instanceMethod ({ cls := "CourtJotter$Court", name := "changeSetting", desc := "(II)I" } : Jvm.MethodName) ∈ cj_ws := cj_mem 559 (by decide +kernel) rfl
theorem cjq_560 : Jvm.Cond.selects "CourtJotter$Court" ({ cls := "CourtJotter$Court", name := "changeSetting", desc := "(II)I" } : Jvm.MethodName) ({ cls := "CourtJotter$Court", name := "changeSetting", desc := "(II)I" } : Jvm.MethodName) ∈ cj_ws := cj_mem 560 (by decide +kernel) rfl
theorem cjq_561 : Jvm.Cond.code ({ cls := "CourtJotter$Court", name := "changeSetting", desc := "(II)I" } : Jvm.MethodName) prog_2_method_13_code (4 : Nat) (Option.some Jvm.ClassFile.FieldType.int) ∈ cj_ws := cj_mem 561 (by decide +kernel) rfl
theorem cjq_565 : Jvm.Cond.code ({ cls := "CourtJotter", name := "personOf", desc := "(II)I" } : Jvm.MethodName) prog_1_method_13_code (3 : Nat) (Option.some Jvm.ClassFile.FieldType.int) ∈ cj_ws := cj_mem 565 (by decide +kernel) rfl
theorem cjq_566 : Jvm.Cond.methodLink "CourtJotter" (90 : Nat) ({ cls := "CourtJotter$Court", name := "tellOfPerson", desc := "(II)I" } : Jvm.MethodName) ∈ cj_ws := cj_mem 566 (by decide +kernel) rfl
theorem cjq_567 : Jvm.Cond.instanceMethod ({ cls := "CourtJotter$Court", name := "tellOfPerson", desc := "(II)I" } : Jvm.MethodName) ∈ cj_ws := cj_mem 567 (by decide +kernel) rfl
theorem cjq_568 : Jvm.Cond.selects "CourtJotter$Court" ({ cls := "CourtJotter$Court", name := "tellOfPerson", desc := "(II)I" } : Jvm.MethodName) ({ cls := "CourtJotter$Court", name := "tellOfPerson", desc := "(II)I" } : Jvm.MethodName) ∈ cj_ws := cj_mem 568 (by decide +kernel) rfl
theorem cjq_569 : Jvm.Cond.code ({ cls := "CourtJotter$Court", name := "tellOfPerson", desc := "(II)I" } : Jvm.MethodName) prog_2_method_26_code (3 : Nat) (Option.some Jvm.ClassFile.FieldType.int) ∈ cj_ws := cj_mem 569 (by decide +kernel) rfl
theorem cjq_573 : Jvm.Cond.code ({ cls := "CourtJotter", name := "sheetOf", desc := "(II)I" } : Jvm.MethodName) prog_1_method_14_code (3 : Nat) (Option.some Jvm.ClassFile.FieldType.int) ∈ cj_ws := cj_mem 573 (by decide +kernel) rfl
theorem cjq_574 : Jvm.Cond.methodLink "CourtJotter" (93 : Nat) ({ cls := "CourtJotter$Court", name := "tellOfSheet", desc := "(II)I" } : Jvm.MethodName) ∈ cj_ws := cj_mem 574 (by decide +kernel) rfl
theorem cjq_575 : Jvm.Cond.instanceMethod ({ cls := "CourtJotter$Court", name := "tellOfSheet", desc := "(II)I" } : Jvm.MethodName) ∈ cj_ws := cj_mem 575 (by decide +kernel) rfl
theorem cjq_576 : Jvm.Cond.selects "CourtJotter$Court" ({ cls := "CourtJotter$Court", name := "tellOfSheet", desc := "(II)I" } : Jvm.MethodName) ({ cls := "CourtJotter$Court", name := "tellOfSheet", desc := "(II)I" } : Jvm.MethodName) ∈ cj_ws := cj_mem 576 (by decide +kernel) rfl
theorem cjq_577 : Jvm.Cond.code ({ cls := "CourtJotter$Court", name := "tellOfSheet", desc := "(II)I" } : Jvm.MethodName) prog_2_method_27_code (4 : Nat) (Option.some Jvm.ClassFile.FieldType.int) ∈ cj_ws := cj_mem 577 (by decide +kernel) rfl
theorem cjq_581 : Jvm.Cond.code ({ cls := "CourtJotter", name := "paperOf", desc := "(II)I" } : Jvm.MethodName) prog_1_method_15_code (3 : Nat) (Option.some Jvm.ClassFile.FieldType.int) ∈ cj_ws := cj_mem 581 (by decide +kernel) rfl
theorem cjq_582 : Jvm.Cond.methodLink "CourtJotter" (96 : Nat) ({ cls := "CourtJotter$Court", name := "tellOfPaper", desc := "(II)I" } : Jvm.MethodName) ∈ cj_ws := cj_mem 582 (by decide +kernel) rfl
theorem cjq_583 : Jvm.Cond.instanceMethod ({ cls := "CourtJotter$Court", name := "tellOfPaper", desc := "(II)I" } : Jvm.MethodName) ∈ cj_ws := cj_mem 583 (by decide +kernel) rfl
theorem cjq_584 : Jvm.Cond.selects "CourtJotter$Court" ({ cls := "CourtJotter$Court", name := "tellOfPaper", desc := "(II)I" } : Jvm.MethodName) ({ cls := "CourtJotter$Court", name := "tellOfPaper", desc := "(II)I" } : Jvm.MethodName) ∈ cj_ws := cj_mem 584 (by decide +kernel) rfl
theorem cjq_585 : Jvm.Cond.code ({ cls := "CourtJotter$Court", name := "tellOfPaper", desc := "(II)I" } : Jvm.MethodName) prog_2_method_28_code (3 : Nat) (Option.some Jvm.ClassFile.FieldType.int) ∈ cj_ws := cj_mem 585 (by decide +kernel) rfl
theorem cjq_589 : Jvm.Cond.code ({ cls := "CourtJotter", name := "price", desc := "(II)I" } : Jvm.MethodName) prog_1_method_16_code (4 : Nat) (Option.some Jvm.ClassFile.FieldType.int) ∈ cj_ws := cj_mem 589 (by decide +kernel) rfl
theorem cjq_590 : Jvm.Cond.methodLink "CourtJotter" (103 : Nat) ({ cls := "CourtJotter$Sheets", name := "placeOf", desc := "(I)I" } : Jvm.MethodName) ∈ cj_ws := cj_mem 590 (by decide +kernel) rfl
theorem cjq_591 : Jvm.Cond.methodLink "CourtJotter" (112 : Nat) ({ cls := "CourtJotter$Papers", name := "has", desc := "(I)Z" } : Jvm.MethodName) ∈ cj_ws := cj_mem 591 (by decide +kernel) rfl
theorem cjq_592 : Jvm.Cond.constant "CourtJotter" (118 : Nat) (-1000001 : Int32) ∈ cj_ws := cj_mem 592 (by decide +kernel) rfl
theorem cjq_593 : Jvm.Cond.methodLink "CourtJotter" (119 : Nat) ({ cls := "CourtJotter$Court", name := "priceAt", desc := "(II)I" } : Jvm.MethodName) ∈ cj_ws := cj_mem 593 (by decide +kernel) rfl
theorem cjq_597 : Jvm.Cond.code ({ cls := "CourtJotter", name := "number", desc := "(I)I" } : Jvm.MethodName) prog_1_method_17_code (2 : Nat) (Option.some Jvm.ClassFile.FieldType.int) ∈ cj_ws := cj_mem 597 (by decide +kernel) rfl
theorem cjq_598 : Jvm.Cond.constant "CourtJotter" (130 : Nat) (-1000004 : Int32) ∈ cj_ws := cj_mem 598 (by decide +kernel) rfl
theorem cjq_602 : Jvm.Cond.code ({ cls := "CourtJotter", name := "seenIn", desc := "(II)I" } : Jvm.MethodName) prog_1_method_18_code (4 : Nat) (Option.some Jvm.ClassFile.FieldType.int) ∈ cj_ws := cj_mem 602 (by decide +kernel) rfl
theorem cjq_603 : Jvm.Cond.methodLink "CourtJotter" (135 : Nat) ({ cls := "CourtJotter$People", name := "has", desc := "(I)Z" } : Jvm.MethodName) ∈ cj_ws := cj_mem 603 (by decide +kernel) rfl
theorem cjq_604 : Jvm.Cond.methodLink "CourtJotter" (138 : Nat) ({ cls := "CourtJotter", name := "isWithin", desc := "(III)Z" } : Jvm.MethodName) ∈ cj_ws := cj_mem 604 (by decide +kernel) rfl
theorem cjq_605 : Jvm.Cond.methodLink "CourtJotter" (142 : Nat) ({ cls := "CourtJotter$People", name := "seenAfter", desc := "(II)I" } : Jvm.MethodName) ∈ cj_ws := cj_mem 605 (by decide +kernel) rfl
theorem cjq_606 : Jvm.Cond.methodLink "CourtJotter" (145 : Nat) ({ cls := "CourtJotter", name := "hasBit", desc := "(II)Z" } : Jvm.MethodName) ∈ cj_ws := cj_mem 606 (by decide +kernel) rfl
theorem cjq_610 : Jvm.Cond.code ({ cls := "CourtJotter", name := "would", desc := "(II)I" } : Jvm.MethodName) prog_1_method_19_code (3 : Nat) (Option.some Jvm.ClassFile.FieldType.int) ∈ cj_ws := cj_mem 610 (by decide +kernel) rfl
theorem cjq_611 : Jvm.Cond.methodLink "CourtJotter" (149 : Nat) ({ cls := "CourtJotter$Court", name := "copyFrom", desc := "(LCourtJotter$Court;)V" } : Jvm.MethodName) ∈ cj_ws := cj_mem 611 (by decide +kernel) rfl
theorem cjq_612 : Jvm.Cond.methodLink "CourtJotter" (155 : Nat) ({ cls := "CourtJotter$Court", name := "advance", desc := "(I)V" } : Jvm.MethodName) ∈ cj_ws := cj_mem 612 (by decide +kernel) rfl
theorem cjq_613 : Jvm.Cond.methodLink "CourtJotter" (159 : Nat) ({ cls := "CourtJotter$Court", name := "remembered", desc := "(I)I" } : Jvm.MethodName) ∈ cj_ws := cj_mem 613 (by decide +kernel) rfl
theorem cjq_614 : Jvm.Cond.methodLink "CourtJotter" (162 : Nat) ({ cls := "java/lang/Integer", name := "bitCount", desc := "(I)I" } : Jvm.MethodName) ∈ cj_ws := cj_mem 614 (by decide +kernel) rfl
theorem cjq_618 : Jvm.Cond.code ({ cls := "CourtJotter", name := "best", desc := "(I)I" } : Jvm.MethodName) prog_1_method_20_code (2 : Nat) (Option.some Jvm.ClassFile.FieldType.int) ∈ cj_ws := cj_mem 618 (by decide +kernel) rfl
theorem cjq_619 : Jvm.Cond.methodLink "CourtJotter" (167 : Nat) ({ cls := "CourtJotter$Court", name := "findBestSale", desc := "(LCourtJotter$Sale;)Z" } : Jvm.MethodName) ∈ cj_ws := cj_mem 619 (by decide +kernel) rfl
theorem cjq_620 : Jvm.Cond.instanceMethod ({ cls := "CourtJotter$Court", name := "findBestSale", desc := "(LCourtJotter$Sale;)Z" } : Jvm.MethodName) ∈ cj_ws := cj_mem 620 (by decide +kernel) rfl
theorem cjq_621 : Jvm.Cond.selects "CourtJotter$Court" ({ cls := "CourtJotter$Court", name := "findBestSale", desc := "(LCourtJotter$Sale;)Z" } : Jvm.MethodName) ({ cls := "CourtJotter$Court", name := "findBestSale", desc := "(LCourtJotter$Sale;)Z" } : Jvm.MethodName) ∈ cj_ws := cj_mem 621 (by decide +kernel) rfl
theorem cjq_622 : Jvm.Cond.code ({ cls := "CourtJotter$Court", name := "findBestSale", desc := "(LCourtJotter$Sale;)Z" } : Jvm.MethodName) prog_2_method_16_code (5 : Nat) (Option.some Jvm.ClassFile.FieldType.boolean) ∈ cj_ws := cj_mem 622 (by decide +kernel) rfl
theorem cjq_626 : Jvm.Cond.code ({ cls := "CourtJotter", name := "sellAll", desc := "()I" } : Jvm.MethodName) prog_1_method_21_code (3 : Nat) (Option.some Jvm.ClassFile.FieldType.int) ∈ cj_ws := cj_mem 626 (by decide +kernel) rfl
theorem cjq_630 : Jvm.Cond.code ({ cls := "CourtJotter", name := "mean", desc := "()I" } : Jvm.MethodName) prog_1_method_22_code (1 : Nat) (Option.some Jvm.ClassFile.FieldType.int) ∈ cj_ws := cj_mem 630 (by decide +kernel) rfl
theorem cjq_631 : Jvm.Cond.methodLink "CourtJotter" (186 : Nat) ({ cls := "CourtJotter", name := "bitsOf", desc := "(F)I" } : Jvm.MethodName) ∈ cj_ws := cj_mem 631 (by decide +kernel) rfl
theorem cjq_632 : Jvm.Cond.static ({ cls := "CourtJotter", name := "bitsOf", desc := "(F)I" } : Jvm.MethodName) ∈ cj_ws := cj_mem 632 (by decide +kernel) rfl
theorem cjq_633 : Jvm.Cond.code ({ cls := "CourtJotter", name := "bitsOf", desc := "(F)I" } : Jvm.MethodName) prog_1_method_32_code (4 : Nat) (Option.some Jvm.ClassFile.FieldType.int) ∈ cj_ws := cj_mem 633 (by decide +kernel) rfl
theorem cjq_634 : Jvm.Cond.constantFloat "CourtJotter" (234 : Nat) (1258291200 : UInt32) ∈ cj_ws := cj_mem 634 (by decide +kernel) rfl
theorem cjq_638 : Jvm.Cond.code ({ cls := "CourtJotter", name := "count", desc := "(I)I" } : Jvm.MethodName) prog_1_method_23_code (2 : Nat) (Option.some Jvm.ClassFile.FieldType.int) ∈ cj_ws := cj_mem 638 (by decide +kernel) rfl
theorem cjq_639 : Jvm.Cond.methodLink "CourtJotter" (196 : Nat) ({ cls := "CourtJotter$Court", name := "tellCount", desc := "(I)I" } : Jvm.MethodName) ∈ cj_ws := cj_mem 639 (by decide +kernel) rfl
theorem cjq_640 : Jvm.Cond.instanceMethod ({ cls := "CourtJotter$Court", name := "tellCount", desc := "(I)I" } : Jvm.MethodName) ∈ cj_ws := cj_mem 640 (by decide +kernel) rfl
theorem cjq_641 : Jvm.Cond.selects "CourtJotter$Court" ({ cls := "CourtJotter$Court", name := "tellCount", desc := "(I)I" } : Jvm.MethodName) ({ cls := "CourtJotter$Court", name := "tellCount", desc := "(I)I" } : Jvm.MethodName) ∈ cj_ws := cj_mem 641 (by decide +kernel) rfl
theorem cjq_642 : Jvm.Cond.code ({ cls := "CourtJotter$Court", name := "tellCount", desc := "(I)I" } : Jvm.MethodName) prog_2_method_29_code (2 : Nat) (Option.some Jvm.ClassFile.FieldType.int) ∈ cj_ws := cj_mem 642 (by decide +kernel) rfl
theorem cjq_643 : Jvm.Cond.constant "CourtJotter$Court" (235 : Nat) (-1000004 : Int32) ∈ cj_ws := cj_mem 643 (by decide +kernel) rfl
theorem cjq_647 : Jvm.Cond.code ({ cls := "CourtJotter", name := "undo", desc := "()I" } : Jvm.MethodName) prog_1_method_24_code (1 : Nat) (Option.some Jvm.ClassFile.FieldType.int) ∈ cj_ws := cj_mem 647 (by decide +kernel) rfl
theorem cjq_648 : Jvm.Cond.methodLink "CourtJotter" (199 : Nat) ({ cls := "CourtJotter$History", name := "restore", desc := "(LCourtJotter$Court;)I" } : Jvm.MethodName) ∈ cj_ws := cj_mem 648 (by decide +kernel) rfl
theorem cjq_649 : Jvm.Cond.instanceMethod ({ cls := "CourtJotter$History", name := "restore", desc := "(LCourtJotter$Court;)I" } : Jvm.MethodName) ∈ cj_ws := cj_mem 649 (by decide +kernel) rfl
theorem cjq_650 : Jvm.Cond.selects "CourtJotter$History" ({ cls := "CourtJotter$History", name := "restore", desc := "(LCourtJotter$Court;)I" } : Jvm.MethodName) ({ cls := "CourtJotter$History", name := "restore", desc := "(LCourtJotter$Court;)I" } : Jvm.MethodName) ∈ cj_ws := cj_mem 650 (by decide +kernel) rfl
theorem cjq_651 : Jvm.Cond.code ({ cls := "CourtJotter$History", name := "restore", desc := "(LCourtJotter$Court;)I" } : Jvm.MethodName) prog_3_method_4_code (3 : Nat) (Option.some Jvm.ClassFile.FieldType.int) ∈ cj_ws := cj_mem 651 (by decide +kernel) rfl
theorem cjq_652 : Jvm.Cond.constant "CourtJotter$History" (29 : Nat) (-1000002 : Int32) ∈ cj_ws := cj_mem 652 (by decide +kernel) rfl
theorem cjq_656 : Jvm.Cond.code ({ cls := "CourtJotter", name := "type", desc := "(I)I" } : Jvm.MethodName) prog_1_method_25_code (2 : Nat) (Option.some Jvm.ClassFile.FieldType.int) ∈ cj_ws := cj_mem 656 (by decide +kernel) rfl
theorem cjq_657 : Jvm.Cond.methodLink "CourtJotter" (203 : Nat) ({ cls := "CourtJotter$Text", name := "append", desc := "(I)I" } : Jvm.MethodName) ∈ cj_ws := cj_mem 657 (by decide +kernel) rfl
theorem cjq_658 : Jvm.Cond.instanceMethod ({ cls := "CourtJotter$Text", name := "append", desc := "(I)I" } : Jvm.MethodName) ∈ cj_ws := cj_mem 658 (by decide +kernel) rfl
theorem cjq_659 : Jvm.Cond.selects "CourtJotter$Text" ({ cls := "CourtJotter$Text", name := "append", desc := "(I)I" } : Jvm.MethodName) ({ cls := "CourtJotter$Text", name := "append", desc := "(I)I" } : Jvm.MethodName) ∈ cj_ws := cj_mem 659 (by decide +kernel) rfl
theorem cjq_660 : Jvm.Cond.code ({ cls := "CourtJotter$Text", name := "append", desc := "(I)I" } : Jvm.MethodName) prog_9_method_2_code (2 : Nat) (Option.some Jvm.ClassFile.FieldType.int) ∈ cj_ws := cj_mem 660 (by decide +kernel) rfl
theorem cjq_662 : Jvm.Cond.constant "CourtJotter$Text" (19 : Nat) (-1000001 : Int32) ∈ cj_ws := cj_mem 662 (by decide +kernel) rfl
theorem cjq_663 : Jvm.Cond.constant "CourtJotter$Text" (24 : Nat) (-1000003 : Int32) ∈ cj_ws := cj_mem 663 (by decide +kernel) rfl
theorem cjq_667 : Jvm.Cond.code ({ cls := "CourtJotter", name := "clearText", desc := "()I" } : Jvm.MethodName) prog_1_method_26_code (2 : Nat) (Option.some Jvm.ClassFile.FieldType.int) ∈ cj_ws := cj_mem 667 (by decide +kernel) rfl
theorem cjq_671 : Jvm.Cond.code ({ cls := "CourtJotter", name := "fault", desc := "(I)I" } : Jvm.MethodName) prog_1_method_27_code (2 : Nat) (Option.some Jvm.ClassFile.FieldType.int) ∈ cj_ws := cj_mem 671 (by decide +kernel) rfl
theorem cjq_672 : Jvm.Cond.methodLink "CourtJotter" (206 : Nat) ({ cls := "CourtJotter$Rehearsal", name := "run", desc := "(LCourtJotter$Text;LCourtJotter$Court;)V" } : Jvm.MethodName) ∈ cj_ws := cj_mem 672 (by decide +kernel) rfl
theorem cjq_673 : Jvm.Cond.instanceMethod ({ cls := "CourtJotter$Rehearsal", name := "run", desc := "(LCourtJotter$Text;LCourtJotter$Court;)V" } : Jvm.MethodName) ∈ cj_ws := cj_mem 673 (by decide +kernel) rfl
theorem cjq_674 : Jvm.Cond.selects "CourtJotter$Rehearsal" ({ cls := "CourtJotter$Rehearsal", name := "run", desc := "(LCourtJotter$Text;LCourtJotter$Court;)V" } : Jvm.MethodName) ({ cls := "CourtJotter$Rehearsal", name := "run", desc := "(LCourtJotter$Text;LCourtJotter$Court;)V" } : Jvm.MethodName) ∈ cj_ws := cj_mem 674 (by decide +kernel) rfl
theorem cjq_675 : Jvm.Cond.code ({ cls := "CourtJotter$Rehearsal", name := "run", desc := "(LCourtJotter$Text;LCourtJotter$Court;)V" } : Jvm.MethodName) prog_6_method_2_code (5 : Nat) (Option.none : Option Jvm.ClassFile.FieldType) ∈ cj_ws := cj_mem 675 (by decide +kernel) rfl
theorem cjq_676 : Jvm.Cond.methodLink "CourtJotter$Rehearsal" (23 : Nat) ({ cls := "CourtJotter$Text", name := "readOrder", desc := "(I)Z" } : Jvm.MethodName) ∈ cj_ws := cj_mem 676 (by decide +kernel) rfl
theorem cjq_677 : Jvm.Cond.instanceMethod ({ cls := "CourtJotter$Text", name := "readOrder", desc := "(I)Z" } : Jvm.MethodName) ∈ cj_ws := cj_mem 677 (by decide +kernel) rfl
theorem cjq_678 : Jvm.Cond.selects "CourtJotter$Text" ({ cls := "CourtJotter$Text", name := "readOrder", desc := "(I)Z" } : Jvm.MethodName) ({ cls := "CourtJotter$Text", name := "readOrder", desc := "(I)Z" } : Jvm.MethodName) ∈ cj_ws := cj_mem 678 (by decide +kernel) rfl
theorem cjq_679 : Jvm.Cond.code ({ cls := "CourtJotter$Text", name := "readOrder", desc := "(I)Z" } : Jvm.MethodName) prog_9_method_3_code (2 : Nat) (Option.some Jvm.ClassFile.FieldType.boolean) ∈ cj_ws := cj_mem 679 (by decide +kernel) rfl
theorem cjq_680 : Jvm.Cond.methodLink "CourtJotter$Text" (28 : Nat) ({ cls := "CourtJotter$Text", name := "next", desc := "()C" } : Jvm.MethodName) ∈ cj_ws := cj_mem 680 (by decide +kernel) rfl
theorem cjq_681 : Jvm.Cond.instanceMethod ({ cls := "CourtJotter$Text", name := "next", desc := "()C" } : Jvm.MethodName) ∈ cj_ws := cj_mem 681 (by decide +kernel) rfl
theorem cjq_682 : Jvm.Cond.selects "CourtJotter$Text" ({ cls := "CourtJotter$Text", name := "next", desc := "()C" } : Jvm.MethodName) ({ cls := "CourtJotter$Text", name := "next", desc := "()C" } : Jvm.MethodName) ∈ cj_ws := cj_mem 682 (by decide +kernel) rfl
theorem cjq_683 : Jvm.Cond.code ({ cls := "CourtJotter$Text", name := "next", desc := "()C" } : Jvm.MethodName) prog_9_method_4_code (1 : Nat) (Option.some Jvm.ClassFile.FieldType.char) ∈ cj_ws := cj_mem 683 (by decide +kernel) rfl
theorem cjq_684 : Jvm.Cond.methodLink "CourtJotter$Text" (36 : Nat) ({ cls := "CourtJotter$Text", name := "isOneNumber", desc := "(C)Z" } : Jvm.MethodName) ∈ cj_ws := cj_mem 684 (by decide +kernel) rfl
theorem cjq_685 : Jvm.Cond.static ({ cls := "CourtJotter$Text", name := "isOneNumber", desc := "(C)Z" } : Jvm.MethodName) ∈ cj_ws := cj_mem 685 (by decide +kernel) rfl
theorem cjq_686 : Jvm.Cond.code ({ cls := "CourtJotter$Text", name := "isOneNumber", desc := "(C)Z" } : Jvm.MethodName) prog_9_method_6_code (1 : Nat) (Option.some Jvm.ClassFile.FieldType.boolean) ∈ cj_ws := cj_mem 686 (by decide +kernel) rfl
theorem cjq_687 : Jvm.Cond.methodLink "CourtJotter$Text" (40 : Nat) ({ cls := "CourtJotter$Text", name := "isTwoNumbers", desc := "(C)Z" } : Jvm.MethodName) ∈ cj_ws := cj_mem 687 (by decide +kernel) rfl
theorem cjq_688 : Jvm.Cond.static ({ cls := "CourtJotter$Text", name := "isTwoNumbers", desc := "(C)Z" } : Jvm.MethodName) ∈ cj_ws := cj_mem 688 (by decide +kernel) rfl
theorem cjq_689 : Jvm.Cond.code ({ cls := "CourtJotter$Text", name := "isTwoNumbers", desc := "(C)Z" } : Jvm.MethodName) prog_9_method_7_code (1 : Nat) (Option.some Jvm.ClassFile.FieldType.boolean) ∈ cj_ws := cj_mem 689 (by decide +kernel) rfl
theorem cjq_690 : Jvm.Cond.methodLink "CourtJotter$Text" (43 : Nat) ({ cls := "CourtJotter$Text", name := "readNumber", desc := "()I" } : Jvm.MethodName) ∈ cj_ws := cj_mem 690 (by decide +kernel) rfl
theorem cjq_691 : Jvm.Cond.instanceMethod ({ cls := "CourtJotter$Text", name := "readNumber", desc := "()I" } : Jvm.MethodName) ∈ cj_ws := cj_mem 691 (by decide +kernel) rfl
theorem cjq_692 : Jvm.Cond.selects "CourtJotter$Text" ({ cls := "CourtJotter$Text", name := "readNumber", desc := "()I" } : Jvm.MethodName) ({ cls := "CourtJotter$Text", name := "readNumber", desc := "()I" } : Jvm.MethodName) ∈ cj_ws := cj_mem 692 (by decide +kernel) rfl
theorem cjq_693 : Jvm.Cond.code ({ cls := "CourtJotter$Text", name := "readNumber", desc := "()I" } : Jvm.MethodName) prog_9_method_5_code (3 : Nat) (Option.some Jvm.ClassFile.FieldType.int) ∈ cj_ws := cj_mem 693 (by decide +kernel) rfl
theorem cjq_694 : Jvm.Cond.methodLink "CourtJotter$Text" (53 : Nat) ({ cls := "java/lang/Math", name := "max", desc := "(II)I" } : Jvm.MethodName) ∈ cj_ws := cj_mem 694 (by decide +kernel) rfl
theorem cjq_695 : Jvm.Cond.methodLink "CourtJotter$Rehearsal" (30 : Nat) ({ cls := "CourtJotter$Rehearsal", name := "fail", desc := "(III)V" } : Jvm.MethodName) ∈ cj_ws := cj_mem 695 (by decide +kernel) rfl
theorem cjq_696 : Jvm.Cond.instanceMethod ({ cls := "CourtJotter$Rehearsal", name := "fail", desc := "(III)V" } : Jvm.MethodName) ∈ cj_ws := cj_mem 696 (by decide +kernel) rfl
theorem cjq_697 : Jvm.Cond.selects "CourtJotter$Rehearsal" ({ cls := "CourtJotter$Rehearsal", name := "fail", desc := "(III)V" } : Jvm.MethodName) ({ cls := "CourtJotter$Rehearsal", name := "fail", desc := "(III)V" } : Jvm.MethodName) ∈ cj_ws := cj_mem 697 (by decide +kernel) rfl
theorem cjq_698 : Jvm.Cond.code ({ cls := "CourtJotter$Rehearsal", name := "fail", desc := "(III)V" } : Jvm.MethodName) prog_6_method_3_code (4 : Nat) (Option.none : Option Jvm.ClassFile.FieldType) ∈ cj_ws := cj_mem 698 (by decide +kernel) rfl
theorem cjq_699 : Jvm.Cond.methodLink "CourtJotter$Rehearsal" (44 : Nat) ({ cls := "CourtJotter$Court", name := "perform", desc := "(CII)I" } : Jvm.MethodName) ∈ cj_ws := cj_mem 699 (by decide +kernel) rfl
theorem cjq_700 : Jvm.Cond.instanceMethod ({ cls := "CourtJotter$Court", name := "perform", desc := "(CII)I" } : Jvm.MethodName) ∈ cj_ws := cj_mem 700 (by decide +kernel) rfl
theorem cjq_701 : Jvm.Cond.selects "CourtJotter$Court" ({ cls := "CourtJotter$Court", name := "perform", desc := "(CII)I" } : Jvm.MethodName) ({ cls := "CourtJotter$Court", name := "perform", desc := "(CII)I" } : Jvm.MethodName) ∈ cj_ws := cj_mem 701 (by decide +kernel) rfl
theorem cjq_702 : Jvm.Cond.code ({ cls := "CourtJotter$Court", name := "perform", desc := "(CII)I" } : Jvm.MethodName) prog_2_method_14_code (4 : Nat) (Option.some Jvm.ClassFile.FieldType.int) ∈ cj_ws := cj_mem 702 (by decide +kernel) rfl
theorem cjq_703 : Jvm.Cond.methodLink "CourtJotter$Court" (174 : Nat) ({ cls := "CourtJotter$Court", name := "lookAt", desc := "(I)I" } : Jvm.MethodName) ∈ cj_ws := cj_mem 703 (by decide +kernel) rfl
theorem cjq_704 : Jvm.Cond.methodLink "CourtJotter$Court" (177 : Nat) ({ cls := "CourtJotter$Court", name := "beginSheet", desc := "(I)I" } : Jvm.MethodName) ∈ cj_ws := cj_mem 704 (by decide +kernel) rfl
theorem cjq_705 : Jvm.Cond.methodLink "CourtJotter$Court" (180 : Nat) ({ cls := "CourtJotter$Court", name := "drawFeature", desc := "(II)I" } : Jvm.MethodName) ∈ cj_ws := cj_mem 705 (by decide +kernel) rfl
theorem cjq_706 : Jvm.Cond.methodLink "CourtJotter$Court" (183 : Nat) ({ cls := "CourtJotter$Court", name := "tellVerdict", desc := "(I)I" } : Jvm.MethodName) ∈ cj_ws := cj_mem 706 (by decide +kernel) rfl
theorem cjq_707 : Jvm.Cond.methodLink "CourtJotter$Court" (186 : Nat) ({ cls := "CourtJotter$Court", name := "sellSheet", desc := "(II)I" } : Jvm.MethodName) ∈ cj_ws := cj_mem 707 (by decide +kernel) rfl
theorem cjq_708 : Jvm.Cond.methodLink "CourtJotter$Court" (189 : Nat) ({ cls := "CourtJotter$Court", name := "passMinutes", desc := "(I)I" } : Jvm.MethodName) ∈ cj_ws := cj_mem 708 (by decide +kernel) rfl
theorem cjq_712 : Jvm.Cond.code ({ cls := "CourtJotter", name := "play", desc := "()I" } : Jvm.MethodName) prog_1_method_28_code (1 : Nat) (Option.some Jvm.ClassFile.FieldType.int) ∈ cj_ws := cj_mem 712 (by decide +kernel) rfl
theorem cjq_713 : Jvm.Cond.constant "CourtJotter" (219 : Nat) (-1000002 : Int32) ∈ cj_ws := cj_mem 713 (by decide +kernel) rfl
theorem cjq_720 : Jvm.Cond.fieldLink "CourtJotterModel" (7 : Nat) "CourtJotterModel" "s" "[I" ∈ cj_ws := cj_mem 720 (by decide +kernel) rfl
theorem cjq_721 : Jvm.Cond.fieldLink "CourtJotterModel" (13 : Nat) "CourtJotterModel" "past" "[I" ∈ cj_ws := cj_mem 721 (by decide +kernel) rfl
theorem cjq_722 : Jvm.Cond.fieldLink "CourtJotterModel" (16 : Nat) "CourtJotterModel" "held" "[I" ∈ cj_ws := cj_mem 722 (by decide +kernel) rfl
theorem cjq_723 : Jvm.Cond.fieldLink "CourtJotterModel" (19 : Nat) "CourtJotterModel" "tried" "[I" ∈ cj_ws := cj_mem 723 (by decide +kernel) rfl
theorem cjq_724 : Jvm.Cond.fieldLink "CourtJotterModel" (32 : Nat) "CourtJotterModel" "pasts" "I" ∈ cj_ws := cj_mem 724 (by decide +kernel) rfl
theorem cjq_725 : Jvm.Cond.fieldLink "CourtJotterModel" (28 : Nat) "CourtJotterModel" "runs" "Z" ∈ cj_ws := cj_mem 725 (by decide +kernel) rfl
theorem cjq_726 : Jvm.Cond.fieldLink "CourtJotterModel" (22 : Nat) "CourtJotterModel" "text" "[I" ∈ cj_ws := cj_mem 726 (by decide +kernel) rfl
theorem cjq_727 : Jvm.Cond.fieldLink "CourtJotterModel" (139 : Nat) "CourtJotterModel" "typed" "I" ∈ cj_ws := cj_mem 727 (by decide +kernel) rfl
theorem cjq_728 : Jvm.Cond.fieldLink "CourtJotterModel" (142 : Nat) "CourtJotterModel" "spot" "I" ∈ cj_ws := cj_mem 728 (by decide +kernel) rfl
theorem cjq_729 : Jvm.Cond.fieldLink "CourtJotterModel" (178 : Nat) "CourtJotterModel" "from" "I" ∈ cj_ws := cj_mem 729 (by decide +kernel) rfl
theorem cjq_730 : Jvm.Cond.fieldLink "CourtJotterModel" (191 : Nat) "CourtJotterModel" "reason" "I" ∈ cj_ws := cj_mem 730 (by decide +kernel) rfl
theorem cjq_731 : Jvm.Cond.fieldLink "CourtJotterModel" (194 : Nat) "CourtJotterModel" "cause" "I" ∈ cj_ws := cj_mem 731 (by decide +kernel) rfl
theorem cjq_732 : Jvm.Cond.fieldLink "CourtJotterModel" (181 : Nat) "CourtJotterModel" "orders" "I" ∈ cj_ws := cj_mem 732 (by decide +kernel) rfl
theorem cjq_733 : Jvm.Cond.fieldLink "CourtJotterModel" (148 : Nat) "CourtJotterModel" "order" "I" ∈ cj_ws := cj_mem 733 (by decide +kernel) rfl
theorem cjq_734 : Jvm.Cond.fieldLink "CourtJotterModel" (25 : Nat) "CourtJotterModel" "told" "[I" ∈ cj_ws := cj_mem 734 (by decide +kernel) rfl
theorem cjq_769 : Jvm.Cond.code ({ cls := "CourtJotterModel", name := "person", desc := "(II)I" } : Jvm.MethodName) prog_11_method_18_code (5 : Nat) (Option.some Jvm.ClassFile.FieldType.int) ∈ cj_ws := cj_mem 769 (by decide +kernel) rfl
theorem cjq_770 : Jvm.Cond.methodLink "CourtJotterModel" (47 : Nat) ({ cls := "CourtJotterModel", name := "in", desc := "(III)Z" } : Jvm.MethodName) ∈ cj_ws := cj_mem 770 (by decide +kernel) rfl
theorem cjq_771 : Jvm.Cond.static ({ cls := "CourtJotterModel", name := "in", desc := "(III)Z" } : Jvm.MethodName) ∈ cj_ws := cj_mem 771 (by decide +kernel) rfl
theorem cjq_772 : Jvm.Cond.code ({ cls := "CourtJotterModel", name := "in", desc := "(III)Z" } : Jvm.MethodName) prog_11_method_3_code (3 : Nat) (Option.some Jvm.ClassFile.FieldType.boolean) ∈ cj_ws := cj_mem 772 (by decide +kernel) rfl
theorem cjq_773 : Jvm.Cond.constant "CourtJotterModel" (51 : Nat) (-1000001 : Int32) ∈ cj_ws := cj_mem 773 (by decide +kernel) rfl
theorem cjq_774 : Jvm.Cond.methodLink "CourtJotterModel" (36 : Nat) ({ cls := "CourtJotterModel", name := "of", desc := "(II)I" } : Jvm.MethodName) ∈ cj_ws := cj_mem 774 (by decide +kernel) rfl
theorem cjq_776 : Jvm.Cond.instanceMethod ({ cls := "CourtJotterModel", name := "of", desc := "(II)I" } : Jvm.MethodName) ∈ cj_ws := cj_mem 776 (by decide +kernel) rfl
theorem cjq_777 : Jvm.Cond.code ({ cls := "CourtJotterModel", name := "of", desc := "(II)I" } : Jvm.MethodName) prog_11_method_9_code (3 : Nat) (Option.some Jvm.ClassFile.FieldType.int) ∈ cj_ws := cj_mem 777 (by decide +kernel) rfl
theorem cjq_778 : Jvm.Cond.constant "CourtJotterModel" (52 : Nat) (-1000002 : Int32) ∈ cj_ws := cj_mem 778 (by decide +kernel) rfl
theorem cjq_779 : Jvm.Cond.constant "CourtJotterModel" (53 : Nat) (-1000003 : Int32) ∈ cj_ws := cj_mem 779 (by decide +kernel) rfl
theorem cjq_780 : Jvm.Cond.methodLink "CourtJotterModel" (54 : Nat) ({ cls := "CourtJotterModel", name := "changes", desc := "()V" } : Jvm.MethodName) ∈ cj_ws := cj_mem 780 (by decide +kernel) rfl
theorem cjq_782 : Jvm.Cond.instanceMethod ({ cls := "CourtJotterModel", name := "changes", desc := "()V" } : Jvm.MethodName) ∈ cj_ws := cj_mem 782 (by decide +kernel) rfl
theorem cjq_783 : Jvm.Cond.code ({ cls := "CourtJotterModel", name := "changes", desc := "()V" } : Jvm.MethodName) prog_11_method_5_code (2 : Nat) (Option.none : Option Jvm.ClassFile.FieldType) ∈ cj_ws := cj_mem 783 (by decide +kernel) rfl
theorem cjq_784 : Jvm.Cond.methodLink "CourtJotterModel" (57 : Nat) ({ cls := "CourtJotterModel", name := "sets", desc := "(III)V" } : Jvm.MethodName) ∈ cj_ws := cj_mem 784 (by decide +kernel) rfl
theorem cjq_786 : Jvm.Cond.instanceMethod ({ cls := "CourtJotterModel", name := "sets", desc := "(III)V" } : Jvm.MethodName) ∈ cj_ws := cj_mem 786 (by decide +kernel) rfl
theorem cjq_787 : Jvm.Cond.code ({ cls := "CourtJotterModel", name := "sets", desc := "(III)V" } : Jvm.MethodName) prog_11_method_10_code (4 : Nat) (Option.none : Option Jvm.ClassFile.FieldType) ∈ cj_ws := cj_mem 787 (by decide +kernel) rfl
theorem cjq_791 : Jvm.Cond.code ({ cls := "CourtJotterModel", name := "turn", desc := "(III)I" } : Jvm.MethodName) prog_11_method_19_code (4 : Nat) (Option.some Jvm.ClassFile.FieldType.int) ∈ cj_ws := cj_mem 791 (by decide +kernel) rfl
theorem cjq_792 : Jvm.Cond.methodLink "CourtJotterModel" (61 : Nat) ({ cls := "CourtJotterModel", name := "isPerson", desc := "(I)Z" } : Jvm.MethodName) ∈ cj_ws := cj_mem 792 (by decide +kernel) rfl
theorem cjq_794 : Jvm.Cond.instanceMethod ({ cls := "CourtJotterModel", name := "isPerson", desc := "(I)Z" } : Jvm.MethodName) ∈ cj_ws := cj_mem 794 (by decide +kernel) rfl
theorem cjq_795 : Jvm.Cond.code ({ cls := "CourtJotterModel", name := "isPerson", desc := "(I)Z" } : Jvm.MethodName) prog_11_method_7_code (2 : Nat) (Option.some Jvm.ClassFile.FieldType.boolean) ∈ cj_ws := cj_mem 795 (by decide +kernel) rfl
theorem cjq_796 : Jvm.Cond.methodLink "CourtJotterModel" (64 : Nat) ({ cls := "CourtJotterModel", name := "seen", desc := "(I)I" } : Jvm.MethodName) ∈ cj_ws := cj_mem 796 (by decide +kernel) rfl
theorem cjq_798 : Jvm.Cond.instanceMethod ({ cls := "CourtJotterModel", name := "seen", desc := "(I)I" } : Jvm.MethodName) ∈ cj_ws := cj_mem 798 (by decide +kernel) rfl
theorem cjq_799 : Jvm.Cond.code ({ cls := "CourtJotterModel", name := "seen", desc := "(I)I" } : Jvm.MethodName) prog_11_method_16_code (2 : Nat) (Option.some Jvm.ClassFile.FieldType.int) ∈ cj_ws := cj_mem 799 (by decide +kernel) rfl
theorem cjq_800 : Jvm.Cond.methodLink "CourtJotterModel" (44 : Nat) ({ cls := "CourtJotterModel", name := "seenAt", desc := "(II)I" } : Jvm.MethodName) ∈ cj_ws := cj_mem 800 (by decide +kernel) rfl
theorem cjq_802 : Jvm.Cond.instanceMethod ({ cls := "CourtJotterModel", name := "seenAt", desc := "(II)I" } : Jvm.MethodName) ∈ cj_ws := cj_mem 802 (by decide +kernel) rfl
theorem cjq_803 : Jvm.Cond.code ({ cls := "CourtJotterModel", name := "seenAt", desc := "(II)I" } : Jvm.MethodName) prog_11_method_15_code (6 : Nat) (Option.some Jvm.ClassFile.FieldType.int) ∈ cj_ws := cj_mem 803 (by decide +kernel) rfl
theorem cjq_804 : Jvm.Cond.methodLink "CourtJotterModel" (40 : Nat) ({ cls := "CourtJotterModel", name := "isHidden", desc := "(I)Z" } : Jvm.MethodName) ∈ cj_ws := cj_mem 804 (by decide +kernel) rfl
theorem cjq_806 : Jvm.Cond.instanceMethod ({ cls := "CourtJotterModel", name := "isHidden", desc := "(I)Z" } : Jvm.MethodName) ∈ cj_ws := cj_mem 806 (by decide +kernel) rfl
theorem cjq_807 : Jvm.Cond.code ({ cls := "CourtJotterModel", name := "isHidden", desc := "(I)Z" } : Jvm.MethodName) prog_11_method_14_code (4 : Nat) (Option.some Jvm.ClassFile.FieldType.boolean) ∈ cj_ws := cj_mem 807 (by decide +kernel) rfl
theorem cjq_811 : Jvm.Cond.code ({ cls := "CourtJotterModel", name := "paper", desc := "(II)I" } : Jvm.MethodName) prog_11_method_20_code (4 : Nat) (Option.some Jvm.ClassFile.FieldType.int) ∈ cj_ws := cj_mem 811 (by decide +kernel) rfl
theorem cjq_813 : Jvm.Cond.instanceMethod ({ cls := "CourtJotterModel", name := "look", desc := "(I)I" } : Jvm.MethodName) ∈ cj_ws := cj_mem 813 (by decide +kernel) rfl
theorem cjq_814 : Jvm.Cond.selects "CourtJotterModel" ({ cls := "CourtJotterModel", name := "look", desc := "(I)I" } : Jvm.MethodName) ({ cls := "CourtJotterModel", name := "look", desc := "(I)I" } : Jvm.MethodName) ∈ cj_ws := cj_mem 814 (by decide +kernel) rfl
theorem cjq_815 : Jvm.Cond.code ({ cls := "CourtJotterModel", name := "look", desc := "(I)I" } : Jvm.MethodName) prog_11_method_21_code (2 : Nat) (Option.some Jvm.ClassFile.FieldType.int) ∈ cj_ws := cj_mem 815 (by decide +kernel) rfl
theorem cjq_817 : Jvm.Cond.instanceMethod ({ cls := "CourtJotterModel", name := "sheet", desc := "(I)I" } : Jvm.MethodName) ∈ cj_ws := cj_mem 817 (by decide +kernel) rfl
theorem cjq_818 : Jvm.Cond.selects "CourtJotterModel" ({ cls := "CourtJotterModel", name := "sheet", desc := "(I)I" } : Jvm.MethodName) ({ cls := "CourtJotterModel", name := "sheet", desc := "(I)I" } : Jvm.MethodName) ∈ cj_ws := cj_mem 818 (by decide +kernel) rfl
theorem cjq_819 : Jvm.Cond.code ({ cls := "CourtJotterModel", name := "sheet", desc := "(I)I" } : Jvm.MethodName) prog_11_method_23_code (3 : Nat) (Option.some Jvm.ClassFile.FieldType.int) ∈ cj_ws := cj_mem 819 (by decide +kernel) rfl
theorem cjq_821 : Jvm.Cond.instanceMethod ({ cls := "CourtJotterModel", name := "draw", desc := "(II)I" } : Jvm.MethodName) ∈ cj_ws := cj_mem 821 (by decide +kernel) rfl
theorem cjq_822 : Jvm.Cond.selects "CourtJotterModel" ({ cls := "CourtJotterModel", name := "draw", desc := "(II)I" } : Jvm.MethodName) ({ cls := "CourtJotterModel", name := "draw", desc := "(II)I" } : Jvm.MethodName) ∈ cj_ws := cj_mem 822 (by decide +kernel) rfl
theorem cjq_823 : Jvm.Cond.code ({ cls := "CourtJotterModel", name := "draw", desc := "(II)I" } : Jvm.MethodName) prog_11_method_25_code (5 : Nat) (Option.some Jvm.ClassFile.FieldType.int) ∈ cj_ws := cj_mem 823 (by decide +kernel) rfl
theorem cjq_824 : Jvm.Cond.methodLink "CourtJotterModel" (75 : Nat) ({ cls := "CourtJotterModel", name := "slot", desc := "(I)I" } : Jvm.MethodName) ∈ cj_ws := cj_mem 824 (by decide +kernel) rfl
theorem cjq_826 : Jvm.Cond.instanceMethod ({ cls := "CourtJotterModel", name := "slot", desc := "(I)I" } : Jvm.MethodName) ∈ cj_ws := cj_mem 826 (by decide +kernel) rfl
theorem cjq_827 : Jvm.Cond.code ({ cls := "CourtJotterModel", name := "slot", desc := "(I)I" } : Jvm.MethodName) prog_11_method_22_code (3 : Nat) (Option.some Jvm.ClassFile.FieldType.int) ∈ cj_ws := cj_mem 827 (by decide +kernel) rfl
theorem cjq_828 : Jvm.Cond.methodLink "CourtJotterModel" (68 : Nat) ({ cls := "CourtJotterModel", name := "ofSheet", desc := "(II)I" } : Jvm.MethodName) ∈ cj_ws := cj_mem 828 (by decide +kernel) rfl
theorem cjq_830 : Jvm.Cond.instanceMethod ({ cls := "CourtJotterModel", name := "ofSheet", desc := "(II)I" } : Jvm.MethodName) ∈ cj_ws := cj_mem 830 (by decide +kernel) rfl
theorem cjq_831 : Jvm.Cond.code ({ cls := "CourtJotterModel", name := "ofSheet", desc := "(II)I" } : Jvm.MethodName) prog_11_method_11_code (3 : Nat) (Option.some Jvm.ClassFile.FieldType.int) ∈ cj_ws := cj_mem 831 (by decide +kernel) rfl
theorem cjq_832 : Jvm.Cond.constant "CourtJotterModel" (71 : Nat) (-1000004 : Int32) ∈ cj_ws := cj_mem 832 (by decide +kernel) rfl
theorem cjq_833 : Jvm.Cond.methodLink "CourtJotterModel" (78 : Nat) ({ cls := "CourtJotterModel", name := "drawable", desc := "(I)I" } : Jvm.MethodName) ∈ cj_ws := cj_mem 833 (by decide +kernel) rfl
theorem cjq_835 : Jvm.Cond.instanceMethod ({ cls := "CourtJotterModel", name := "drawable", desc := "(I)I" } : Jvm.MethodName) ∈ cj_ws := cj_mem 835 (by decide +kernel) rfl
theorem cjq_836 : Jvm.Cond.code ({ cls := "CourtJotterModel", name := "drawable", desc := "(I)I" } : Jvm.MethodName) prog_11_method_24_code (2 : Nat) (Option.some Jvm.ClassFile.FieldType.int) ∈ cj_ws := cj_mem 836 (by decide +kernel) rfl
theorem cjq_837 : Jvm.Cond.methodLink "CourtJotterModel" (72 : Nat) ({ cls := "CourtJotterModel", name := "remembered", desc := "(I)I" } : Jvm.MethodName) ∈ cj_ws := cj_mem 837 (by decide +kernel) rfl
theorem cjq_839 : Jvm.Cond.instanceMethod ({ cls := "CourtJotterModel", name := "remembered", desc := "(I)I" } : Jvm.MethodName) ∈ cj_ws := cj_mem 839 (by decide +kernel) rfl
theorem cjq_840 : Jvm.Cond.code ({ cls := "CourtJotterModel", name := "remembered", desc := "(I)I" } : Jvm.MethodName) prog_11_method_17_code (5 : Nat) (Option.some Jvm.ClassFile.FieldType.int) ∈ cj_ws := cj_mem 840 (by decide +kernel) rfl
theorem cjq_841 : Jvm.Cond.methodLink "CourtJotterModel" (81 : Nat) ({ cls := "CourtJotterModel", name := "ones", desc := "(I)I" } : Jvm.MethodName) ∈ cj_ws := cj_mem 841 (by decide +kernel) rfl
theorem cjq_842 : Jvm.Cond.static ({ cls := "CourtJotterModel", name := "ones", desc := "(I)I" } : Jvm.MethodName) ∈ cj_ws := cj_mem 842 (by decide +kernel) rfl
theorem cjq_843 : Jvm.Cond.code ({ cls := "CourtJotterModel", name := "ones", desc := "(I)I" } : Jvm.MethodName) prog_11_method_6_code (3 : Nat) (Option.some Jvm.ClassFile.FieldType.int) ∈ cj_ws := cj_mem 843 (by decide +kernel) rfl
theorem cjq_847 : Jvm.Cond.code ({ cls := "CourtJotterModel", name := "tear", desc := "(I)I" } : Jvm.MethodName) prog_11_method_27_code (3 : Nat) (Option.some Jvm.ClassFile.FieldType.int) ∈ cj_ws := cj_mem 847 (by decide +kernel) rfl
theorem cjq_848 : Jvm.Cond.methodLink "CourtJotterModel" (84 : Nat) ({ cls := "CourtJotterModel", name := "takesOut", desc := "(I)V" } : Jvm.MethodName) ∈ cj_ws := cj_mem 848 (by decide +kernel) rfl
theorem cjq_850 : Jvm.Cond.instanceMethod ({ cls := "CourtJotterModel", name := "takesOut", desc := "(I)V" } : Jvm.MethodName) ∈ cj_ws := cj_mem 850 (by decide +kernel) rfl
theorem cjq_851 : Jvm.Cond.code ({ cls := "CourtJotterModel", name := "takesOut", desc := "(I)V" } : Jvm.MethodName) prog_11_method_26_code (3 : Nat) (Option.none : Option Jvm.ClassFile.FieldType) ∈ cj_ws := cj_mem 851 (by decide +kernel) rfl
theorem cjq_853 : Jvm.Cond.instanceMethod ({ cls := "CourtJotterModel", name := "verdict", desc := "(I)I" } : Jvm.MethodName) ∈ cj_ws := cj_mem 853 (by decide +kernel) rfl
theorem cjq_854 : Jvm.Cond.selects "CourtJotterModel" ({ cls := "CourtJotterModel", name := "verdict", desc := "(I)I" } : Jvm.MethodName) ({ cls := "CourtJotterModel", name := "verdict", desc := "(I)I" } : Jvm.MethodName) ∈ cj_ws := cj_mem 854 (by decide +kernel) rfl
theorem cjq_855 : Jvm.Cond.code ({ cls := "CourtJotterModel", name := "verdict", desc := "(I)I" } : Jvm.MethodName) prog_11_method_30_code (2 : Nat) (Option.some Jvm.ClassFile.FieldType.int) ∈ cj_ws := cj_mem 855 (by decide +kernel) rfl
theorem cjq_856 : Jvm.Cond.methodLink "CourtJotterModel" (92 : Nat) ({ cls := "CourtJotterModel", name := "hasVerdict", desc := "(I)Z" } : Jvm.MethodName) ∈ cj_ws := cj_mem 856 (by decide +kernel) rfl
theorem cjq_858 : Jvm.Cond.instanceMethod ({ cls := "CourtJotterModel", name := "hasVerdict", desc := "(I)Z" } : Jvm.MethodName) ∈ cj_ws := cj_mem 858 (by decide +kernel) rfl
theorem cjq_859 : Jvm.Cond.code ({ cls := "CourtJotterModel", name := "hasVerdict", desc := "(I)Z" } : Jvm.MethodName) prog_11_method_29_code (2 : Nat) (Option.some Jvm.ClassFile.FieldType.boolean) ∈ cj_ws := cj_mem 859 (by decide +kernel) rfl
theorem cjq_860 : Jvm.Cond.methodLink "CourtJotterModel" (88 : Nat) ({ cls := "CourtJotterModel", name := "day", desc := "()I" } : Jvm.MethodName) ∈ cj_ws := cj_mem 860 (by decide +kernel) rfl
theorem cjq_862 : Jvm.Cond.instanceMethod ({ cls := "CourtJotterModel", name := "day", desc := "()I" } : Jvm.MethodName) ∈ cj_ws := cj_mem 862 (by decide +kernel) rfl
theorem cjq_863 : Jvm.Cond.code ({ cls := "CourtJotterModel", name := "day", desc := "()I" } : Jvm.MethodName) prog_11_method_13_code (1 : Nat) (Option.some Jvm.ClassFile.FieldType.int) ∈ cj_ws := cj_mem 863 (by decide +kernel) rfl
theorem cjq_864 : Jvm.Cond.methodLink "CourtJotterModel" (95 : Nat) ({ cls := "CourtJotterModel", name := "sheetsOf", desc := "(I)I" } : Jvm.MethodName) ∈ cj_ws := cj_mem 864 (by decide +kernel) rfl
theorem cjq_866 : Jvm.Cond.instanceMethod ({ cls := "CourtJotterModel", name := "sheetsOf", desc := "(I)I" } : Jvm.MethodName) ∈ cj_ws := cj_mem 866 (by decide +kernel) rfl
theorem cjq_867 : Jvm.Cond.code ({ cls := "CourtJotterModel", name := "sheetsOf", desc := "(I)I" } : Jvm.MethodName) prog_11_method_28_code (4 : Nat) (Option.some Jvm.ClassFile.FieldType.int) ∈ cj_ws := cj_mem 867 (by decide +kernel) rfl
theorem cjq_869 : Jvm.Cond.instanceMethod ({ cls := "CourtJotterModel", name := "sell", desc := "(II)I" } : Jvm.MethodName) ∈ cj_ws := cj_mem 869 (by decide +kernel) rfl
theorem cjq_870 : Jvm.Cond.selects "CourtJotterModel" ({ cls := "CourtJotterModel", name := "sell", desc := "(II)I" } : Jvm.MethodName) ({ cls := "CourtJotterModel", name := "sell", desc := "(II)I" } : Jvm.MethodName) ∈ cj_ws := cj_mem 870 (by decide +kernel) rfl
theorem cjq_871 : Jvm.Cond.code ({ cls := "CourtJotterModel", name := "sell", desc := "(II)I" } : Jvm.MethodName) prog_11_method_36_code (4 : Nat) (Option.some Jvm.ClassFile.FieldType.int) ∈ cj_ws := cj_mem 871 (by decide +kernel) rfl
theorem cjq_872 : Jvm.Cond.methodLink "CourtJotterModel" (110 : Nat) ({ cls := "CourtJotterModel", name := "isPaper", desc := "(I)Z" } : Jvm.MethodName) ∈ cj_ws := cj_mem 872 (by decide +kernel) rfl
theorem cjq_874 : Jvm.Cond.instanceMethod ({ cls := "CourtJotterModel", name := "isPaper", desc := "(I)Z" } : Jvm.MethodName) ∈ cj_ws := cj_mem 874 (by decide +kernel) rfl
theorem cjq_875 : Jvm.Cond.code ({ cls := "CourtJotterModel", name := "isPaper", desc := "(I)Z" } : Jvm.MethodName) prog_11_method_8_code (2 : Nat) (Option.some Jvm.ClassFile.FieldType.boolean) ∈ cj_ws := cj_mem 875 (by decide +kernel) rfl
theorem cjq_876 : Jvm.Cond.methodLink "CourtJotterModel" (113 : Nat) ({ cls := "CourtJotterModel", name := "canSell", desc := "(II)Z" } : Jvm.MethodName) ∈ cj_ws := cj_mem 876 (by decide +kernel) rfl
theorem cjq_878 : Jvm.Cond.instanceMethod ({ cls := "CourtJotterModel", name := "canSell", desc := "(II)Z" } : Jvm.MethodName) ∈ cj_ws := cj_mem 878 (by decide +kernel) rfl
theorem cjq_879 : Jvm.Cond.code ({ cls := "CourtJotterModel", name := "canSell", desc := "(II)Z" } : Jvm.MethodName) prog_11_method_33_code (3 : Nat) (Option.some Jvm.ClassFile.FieldType.boolean) ∈ cj_ws := cj_mem 879 (by decide +kernel) rfl
theorem cjq_880 : Jvm.Cond.methodLink "CourtJotterModel" (101 : Nat) ({ cls := "CourtJotterModel", name := "isDry", desc := "(I)Z" } : Jvm.MethodName) ∈ cj_ws := cj_mem 880 (by decide +kernel) rfl
theorem cjq_882 : Jvm.Cond.instanceMethod ({ cls := "CourtJotterModel", name := "isDry", desc := "(I)Z" } : Jvm.MethodName) ∈ cj_ws := cj_mem 882 (by decide +kernel) rfl
theorem cjq_883 : Jvm.Cond.code ({ cls := "CourtJotterModel", name := "isDry", desc := "(I)Z" } : Jvm.MethodName) prog_11_method_31_code (2 : Nat) (Option.some Jvm.ClassFile.FieldType.boolean) ∈ cj_ws := cj_mem 883 (by decide +kernel) rfl
theorem cjq_884 : Jvm.Cond.methodLink "CourtJotterModel" (104 : Nat) ({ cls := "CourtJotterModel", name := "boughtOf", desc := "(I)I" } : Jvm.MethodName) ∈ cj_ws := cj_mem 884 (by decide +kernel) rfl
theorem cjq_886 : Jvm.Cond.instanceMethod ({ cls := "CourtJotterModel", name := "boughtOf", desc := "(I)I" } : Jvm.MethodName) ∈ cj_ws := cj_mem 886 (by decide +kernel) rfl
theorem cjq_887 : Jvm.Cond.code ({ cls := "CourtJotterModel", name := "boughtOf", desc := "(I)I" } : Jvm.MethodName) prog_11_method_32_code (2 : Nat) (Option.some Jvm.ClassFile.FieldType.int) ∈ cj_ws := cj_mem 887 (by decide +kernel) rfl
theorem cjq_888 : Jvm.Cond.methodLink "CourtJotterModel" (98 : Nat) ({ cls := "CourtJotterModel", name := "ofPaper", desc := "(II)I" } : Jvm.MethodName) ∈ cj_ws := cj_mem 888 (by decide +kernel) rfl
theorem cjq_890 : Jvm.Cond.instanceMethod ({ cls := "CourtJotterModel", name := "ofPaper", desc := "(II)I" } : Jvm.MethodName) ∈ cj_ws := cj_mem 890 (by decide +kernel) rfl
theorem cjq_891 : Jvm.Cond.code ({ cls := "CourtJotterModel", name := "ofPaper", desc := "(II)I" } : Jvm.MethodName) prog_11_method_12_code (3 : Nat) (Option.some Jvm.ClassFile.FieldType.int) ∈ cj_ws := cj_mem 891 (by decide +kernel) rfl
theorem cjq_892 : Jvm.Cond.methodLink "CourtJotterModel" (117 : Nat) ({ cls := "CourtJotterModel", name := "sells", desc := "(II)I" } : Jvm.MethodName) ∈ cj_ws := cj_mem 892 (by decide +kernel) rfl
theorem cjq_894 : Jvm.Cond.instanceMethod ({ cls := "CourtJotterModel", name := "sells", desc := "(II)I" } : Jvm.MethodName) ∈ cj_ws := cj_mem 894 (by decide +kernel) rfl
theorem cjq_895 : Jvm.Cond.code ({ cls := "CourtJotterModel", name := "sells", desc := "(II)I" } : Jvm.MethodName) prog_11_method_35_code (5 : Nat) (Option.some Jvm.ClassFile.FieldType.int) ∈ cj_ws := cj_mem 895 (by decide +kernel) rfl
theorem cjq_896 : Jvm.Cond.methodLink "CourtJotterModel" (107 : Nat) ({ cls := "CourtJotterModel", name := "priceOf", desc := "(II)I" } : Jvm.MethodName) ∈ cj_ws := cj_mem 896 (by decide +kernel) rfl
theorem cjq_898 : Jvm.Cond.instanceMethod ({ cls := "CourtJotterModel", name := "priceOf", desc := "(II)I" } : Jvm.MethodName) ∈ cj_ws := cj_mem 898 (by decide +kernel) rfl
theorem cjq_899 : Jvm.Cond.code ({ cls := "CourtJotterModel", name := "priceOf", desc := "(II)I" } : Jvm.MethodName) prog_11_method_34_code (4 : Nat) (Option.some Jvm.ClassFile.FieldType.int) ∈ cj_ws := cj_mem 899 (by decide +kernel) rfl
theorem cjq_901 : Jvm.Cond.instanceMethod ({ cls := "CourtJotterModel", name := "pass", desc := "(I)I" } : Jvm.MethodName) ∈ cj_ws := cj_mem 901 (by decide +kernel) rfl
theorem cjq_902 : Jvm.Cond.selects "CourtJotterModel" ({ cls := "CourtJotterModel", name := "pass", desc := "(I)I" } : Jvm.MethodName) ({ cls := "CourtJotterModel", name := "pass", desc := "(I)I" } : Jvm.MethodName) ∈ cj_ws := cj_mem 902 (by decide +kernel) rfl
theorem cjq_903 : Jvm.Cond.code ({ cls := "CourtJotterModel", name := "pass", desc := "(I)I" } : Jvm.MethodName) prog_11_method_39_code (4 : Nat) (Option.some Jvm.ClassFile.FieldType.int) ∈ cj_ws := cj_mem 903 (by decide +kernel) rfl
theorem cjq_904 : Jvm.Cond.methodLink "CourtJotterModel" (123 : Nat) ({ cls := "CourtJotterModel", name := "minute", desc := "()V" } : Jvm.MethodName) ∈ cj_ws := cj_mem 904 (by decide +kernel) rfl
theorem cjq_906 : Jvm.Cond.instanceMethod ({ cls := "CourtJotterModel", name := "minute", desc := "()V" } : Jvm.MethodName) ∈ cj_ws := cj_mem 906 (by decide +kernel) rfl
theorem cjq_907 : Jvm.Cond.code ({ cls := "CourtJotterModel", name := "minute", desc := "()V" } : Jvm.MethodName) prog_11_method_38_code (2 : Nat) (Option.none : Option Jvm.ClassFile.FieldType) ∈ cj_ws := cj_mem 907 (by decide +kernel) rfl
theorem cjq_908 : Jvm.Cond.methodLink "CourtJotterModel" (120 : Nat) ({ cls := "CourtJotterModel", name := "sees", desc := "(I)V" } : Jvm.MethodName) ∈ cj_ws := cj_mem 908 (by decide +kernel) rfl
theorem cjq_910 : Jvm.Cond.instanceMethod ({ cls := "CourtJotterModel", name := "sees", desc := "(I)V" } : Jvm.MethodName) ∈ cj_ws := cj_mem 910 (by decide +kernel) rfl
theorem cjq_911 : Jvm.Cond.code ({ cls := "CourtJotterModel", name := "sees", desc := "(I)V" } : Jvm.MethodName) prog_11_method_37_code (3 : Nat) (Option.none : Option Jvm.ClassFile.FieldType) ∈ cj_ws := cj_mem 911 (by decide +kernel) rfl
theorem cjq_915 : Jvm.Cond.code ({ cls := "CourtJotterModel", name := "set", desc := "(II)I" } : Jvm.MethodName) prog_11_method_40_code (4 : Nat) (Option.some Jvm.ClassFile.FieldType.int) ∈ cj_ws := cj_mem 915 (by decide +kernel) rfl
theorem cjq_919 : Jvm.Cond.code ({ cls := "CourtJotterModel", name := "personOf", desc := "(II)I" } : Jvm.MethodName) prog_11_method_41_code (3 : Nat) (Option.some Jvm.ClassFile.FieldType.int) ∈ cj_ws := cj_mem 919 (by decide +kernel) rfl
theorem cjq_923 : Jvm.Cond.code ({ cls := "CourtJotterModel", name := "sheetOf", desc := "(II)I" } : Jvm.MethodName) prog_11_method_42_code (4 : Nat) (Option.some Jvm.ClassFile.FieldType.int) ∈ cj_ws := cj_mem 923 (by decide +kernel) rfl
theorem cjq_927 : Jvm.Cond.code ({ cls := "CourtJotterModel", name := "paperOf", desc := "(II)I" } : Jvm.MethodName) prog_11_method_43_code (3 : Nat) (Option.some Jvm.ClassFile.FieldType.int) ∈ cj_ws := cj_mem 927 (by decide +kernel) rfl
theorem cjq_931 : Jvm.Cond.code ({ cls := "CourtJotterModel", name := "price", desc := "(II)I" } : Jvm.MethodName) prog_11_method_44_code (4 : Nat) (Option.some Jvm.ClassFile.FieldType.int) ∈ cj_ws := cj_mem 931 (by decide +kernel) rfl
theorem cjq_935 : Jvm.Cond.code ({ cls := "CourtJotterModel", name := "number", desc := "(I)I" } : Jvm.MethodName) prog_11_method_45_code (2 : Nat) (Option.some Jvm.ClassFile.FieldType.int) ∈ cj_ws := cj_mem 935 (by decide +kernel) rfl
theorem cjq_939 : Jvm.Cond.code ({ cls := "CourtJotterModel", name := "seenIn", desc := "(II)I" } : Jvm.MethodName) prog_11_method_46_code (5 : Nat) (Option.some Jvm.ClassFile.FieldType.int) ∈ cj_ws := cj_mem 939 (by decide +kernel) rfl
theorem cjq_943 : Jvm.Cond.code ({ cls := "CourtJotterModel", name := "would", desc := "(II)I" } : Jvm.MethodName) prog_11_method_47_code (4 : Nat) (Option.some Jvm.ClassFile.FieldType.int) ∈ cj_ws := cj_mem 943 (by decide +kernel) rfl
theorem cjq_944 : Jvm.Cond.methodLink "CourtJotterModel" (126 : Nat) ({ cls := "CourtJotterModel", name := "copies", desc := "([I[I)V" } : Jvm.MethodName) ∈ cj_ws := cj_mem 944 (by decide +kernel) rfl
theorem cjq_945 : Jvm.Cond.static ({ cls := "CourtJotterModel", name := "copies", desc := "([I[I)V" } : Jvm.MethodName) ∈ cj_ws := cj_mem 945 (by decide +kernel) rfl
theorem cjq_946 : Jvm.Cond.code ({ cls := "CourtJotterModel", name := "copies", desc := "([I[I)V" } : Jvm.MethodName) prog_11_method_4_code (3 : Nat) (Option.none : Option Jvm.ClassFile.FieldType) ∈ cj_ws := cj_mem 946 (by decide +kernel) rfl
theorem cjq_950 : Jvm.Cond.code ({ cls := "CourtJotterModel", name := "best", desc := "(I)I" } : Jvm.MethodName) prog_11_method_49_code (3 : Nat) (Option.some Jvm.ClassFile.FieldType.int) ∈ cj_ws := cj_mem 950 (by decide +kernel) rfl
theorem cjq_951 : Jvm.Cond.methodLink "CourtJotterModel" (130 : Nat) ({ cls := "CourtJotterModel", name := "bestSale", desc := "()I" } : Jvm.MethodName) ∈ cj_ws := cj_mem 951 (by decide +kernel) rfl
theorem cjq_953 : Jvm.Cond.instanceMethod ({ cls := "CourtJotterModel", name := "bestSale", desc := "()I" } : Jvm.MethodName) ∈ cj_ws := cj_mem 953 (by decide +kernel) rfl
theorem cjq_954 : Jvm.Cond.code ({ cls := "CourtJotterModel", name := "bestSale", desc := "()I" } : Jvm.MethodName) prog_11_method_48_code (6 : Nat) (Option.some Jvm.ClassFile.FieldType.int) ∈ cj_ws := cj_mem 954 (by decide +kernel) rfl
theorem cjq_958 : Jvm.Cond.code ({ cls := "CourtJotterModel", name := "sellAll", desc := "()I" } : Jvm.MethodName) prog_11_method_50_code (3 : Nat) (Option.some Jvm.ClassFile.FieldType.int) ∈ cj_ws := cj_mem 958 (by decide +kernel) rfl
theorem cjq_962 : Jvm.Cond.code ({ cls := "CourtJotterModel", name := "mean", desc := "()I" } : Jvm.MethodName) prog_11_method_51_code (2 : Nat) (Option.some Jvm.ClassFile.FieldType.int) ∈ cj_ws := cj_mem 962 (by decide +kernel) rfl
theorem cjq_963 : Jvm.Cond.methodLink "CourtJotterModel" (133 : Nat) ({ cls := "java/lang/Float", name := "floatToIntBits", desc := "(F)I" } : Jvm.MethodName) ∈ cj_ws := cj_mem 963 (by decide +kernel) rfl
theorem cjq_964 : Jvm.Cond.static ({ cls := "java/lang/Float", name := "floatToIntBits", desc := "(F)I" } : Jvm.MethodName) ∈ cj_ws := cj_mem 964 (by decide +kernel) rfl
theorem cjq_965 : Jvm.Cond.code ({ cls := "java/lang/Float", name := "floatToIntBits", desc := "(F)I" } : Jvm.MethodName) prog_12_method_24_code (1 : Nat) (Option.some Jvm.ClassFile.FieldType.int) ∈ cj_ws := cj_mem 965 (by decide +kernel) rfl
theorem cjq_966 : Jvm.Cond.methodLink "java/lang/Float" (59 : Nat) ({ cls := "java/lang/Float", name := "isNaN", desc := "(F)Z" } : Jvm.MethodName) ∈ cj_ws := cj_mem 966 (by decide +kernel) rfl
theorem cjq_967 : Jvm.Cond.static ({ cls := "java/lang/Float", name := "isNaN", desc := "(F)Z" } : Jvm.MethodName) ∈ cj_ws := cj_mem 967 (by decide +kernel) rfl
theorem cjq_968 : Jvm.Cond.code ({ cls := "java/lang/Float", name := "isNaN", desc := "(F)Z" } : Jvm.MethodName) prog_12_method_6_code (1 : Nat) (Option.some Jvm.ClassFile.FieldType.boolean) ∈ cj_ws := cj_mem 968 (by decide +kernel) rfl
theorem cjq_969 : Jvm.Cond.methodLink "java/lang/Float" (74 : Nat) ({ cls := "java/lang/Float", name := "floatToRawIntBits", desc := "(F)I" } : Jvm.MethodName) ∈ cj_ws := cj_mem 969 (by decide +kernel) rfl
theorem cjq_970 : Jvm.Cond.static ({ cls := "java/lang/Float", name := "floatToRawIntBits", desc := "(F)I" } : Jvm.MethodName) ∈ cj_ws := cj_mem 970 (by decide +kernel) rfl
theorem cjq_971 : Jvm.Cond.native ({ cls := "java/lang/Float", name := "floatToRawIntBits", desc := "(F)I" } : Jvm.MethodName) ∈ cj_ws := cj_mem 971 (by decide +kernel) rfl
theorem cjq_972 : Jvm.Cond.constant "java/lang/Float" (77 : Nat) (2143289344 : Int32) ∈ cj_ws := cj_mem 972 (by decide +kernel) rfl
theorem cjq_976 : Jvm.Cond.code ({ cls := "CourtJotterModel", name := "count", desc := "(I)I" } : Jvm.MethodName) prog_11_method_52_code (2 : Nat) (Option.some Jvm.ClassFile.FieldType.int) ∈ cj_ws := cj_mem 976 (by decide +kernel) rfl
theorem cjq_980 : Jvm.Cond.code ({ cls := "CourtJotterModel", name := "undo", desc := "()I" } : Jvm.MethodName) prog_11_method_53_code (2 : Nat) (Option.some Jvm.ClassFile.FieldType.int) ∈ cj_ws := cj_mem 980 (by decide +kernel) rfl
theorem cjq_984 : Jvm.Cond.code ({ cls := "CourtJotterModel", name := "type", desc := "(I)I" } : Jvm.MethodName) prog_11_method_54_code (2 : Nat) (Option.some Jvm.ClassFile.FieldType.int) ∈ cj_ws := cj_mem 984 (by decide +kernel) rfl
theorem cjq_988 : Jvm.Cond.code ({ cls := "CourtJotterModel", name := "clearText", desc := "()I" } : Jvm.MethodName) prog_11_method_55_code (2 : Nat) (Option.some Jvm.ClassFile.FieldType.int) ∈ cj_ws := cj_mem 988 (by decide +kernel) rfl
theorem cjq_992 : Jvm.Cond.code ({ cls := "CourtJotterModel", name := "fault", desc := "(I)I" } : Jvm.MethodName) prog_11_method_63_code (3 : Nat) (Option.some Jvm.ClassFile.FieldType.int) ∈ cj_ws := cj_mem 992 (by decide +kernel) rfl
theorem cjq_993 : Jvm.Cond.methodLink "CourtJotterModel" (197 : Nat) ({ cls := "CourtJotterModel", name := "plays", desc := "()Z" } : Jvm.MethodName) ∈ cj_ws := cj_mem 993 (by decide +kernel) rfl
theorem cjq_995 : Jvm.Cond.instanceMethod ({ cls := "CourtJotterModel", name := "plays", desc := "()Z" } : Jvm.MethodName) ∈ cj_ws := cj_mem 995 (by decide +kernel) rfl
theorem cjq_996 : Jvm.Cond.code ({ cls := "CourtJotterModel", name := "plays", desc := "()Z" } : Jvm.MethodName) prog_11_method_62_code (4 : Nat) (Option.some Jvm.ClassFile.FieldType.boolean) ∈ cj_ws := cj_mem 996 (by decide +kernel) rfl
theorem cjq_997 : Jvm.Cond.methodLink "CourtJotterModel" (184 : Nat) ({ cls := "CourtJotterModel", name := "reads", desc := "()Z" } : Jvm.MethodName) ∈ cj_ws := cj_mem 997 (by decide +kernel) rfl
theorem cjq_999 : Jvm.Cond.instanceMethod ({ cls := "CourtJotterModel", name := "reads", desc := "()Z" } : Jvm.MethodName) ∈ cj_ws := cj_mem 999 (by decide +kernel) rfl
theorem cjq_1000 : Jvm.Cond.code ({ cls := "CourtJotterModel", name := "reads", desc := "()Z" } : Jvm.MethodName) prog_11_method_60_code (3 : Nat) (Option.some Jvm.ClassFile.FieldType.boolean) ∈ cj_ws := cj_mem 1000 (by decide +kernel) rfl
theorem cjq_1001 : Jvm.Cond.methodLink "CourtJotterModel" (145 : Nat) ({ cls := "CourtJotterModel", name := "isAt", desc := "(II)Z" } : Jvm.MethodName) ∈ cj_ws := cj_mem 1001 (by decide +kernel) rfl
theorem cjq_1003 : Jvm.Cond.instanceMethod ({ cls := "CourtJotterModel", name := "isAt", desc := "(II)Z" } : Jvm.MethodName) ∈ cj_ws := cj_mem 1003 (by decide +kernel) rfl
theorem cjq_1004 : Jvm.Cond.code ({ cls := "CourtJotterModel", name := "isAt", desc := "(II)Z" } : Jvm.MethodName) prog_11_method_56_code (3 : Nat) (Option.some Jvm.ClassFile.FieldType.boolean) ∈ cj_ws := cj_mem 1004 (by decide +kernel) rfl
theorem cjq_1005 : Jvm.Cond.methodLink "CourtJotterModel" (151 : Nat) ({ cls := "CourtJotterModel", name := "numbersOf", desc := "(I)I" } : Jvm.MethodName) ∈ cj_ws := cj_mem 1005 (by decide +kernel) rfl
theorem cjq_1006 : Jvm.Cond.static ({ cls := "CourtJotterModel", name := "numbersOf", desc := "(I)I" } : Jvm.MethodName) ∈ cj_ws := cj_mem 1006 (by decide +kernel) rfl
theorem cjq_1007 : Jvm.Cond.code ({ cls := "CourtJotterModel", name := "numbersOf", desc := "(I)I" } : Jvm.MethodName) prog_11_method_59_code (1 : Nat) (Option.some Jvm.ClassFile.FieldType.int) ∈ cj_ws := cj_mem 1007 (by decide +kernel) rfl
theorem cjq_1008 : Jvm.Cond.methodLink "CourtJotterModel" (154 : Nat) ({ cls := "CourtJotterModel", name := "numbered", desc := "(I)Z" } : Jvm.MethodName) ∈ cj_ws := cj_mem 1008 (by decide +kernel) rfl
theorem cjq_1010 : Jvm.Cond.instanceMethod ({ cls := "CourtJotterModel", name := "numbered", desc := "(I)Z" } : Jvm.MethodName) ∈ cj_ws := cj_mem 1010 (by decide +kernel) rfl
theorem cjq_1011 : Jvm.Cond.code ({ cls := "CourtJotterModel", name := "numbered", desc := "(I)Z" } : Jvm.MethodName) prog_11_method_58_code (3 : Nat) (Option.some Jvm.ClassFile.FieldType.boolean) ∈ cj_ws := cj_mem 1011 (by decide +kernel) rfl
theorem cjq_1012 : Jvm.Cond.methodLink "CourtJotterModel" (157 : Nat) ({ cls := "CourtJotterModel", name := "sign", desc := "(I)Z" } : Jvm.MethodName) ∈ cj_ws := cj_mem 1012 (by decide +kernel) rfl
theorem cjq_1014 : Jvm.Cond.instanceMethod ({ cls := "CourtJotterModel", name := "sign", desc := "(I)Z" } : Jvm.MethodName) ∈ cj_ws := cj_mem 1014 (by decide +kernel) rfl
theorem cjq_1015 : Jvm.Cond.code ({ cls := "CourtJotterModel", name := "sign", desc := "(I)Z" } : Jvm.MethodName) prog_11_method_57_code (3 : Nat) (Option.some Jvm.ClassFile.FieldType.boolean) ∈ cj_ws := cj_mem 1015 (by decide +kernel) rfl
theorem cjq_1016 : Jvm.Cond.methodLink "CourtJotterModel" (188 : Nat) ({ cls := "CourtJotterModel", name := "calls", desc := "()I" } : Jvm.MethodName) ∈ cj_ws := cj_mem 1016 (by decide +kernel) rfl
theorem cjq_1018 : Jvm.Cond.instanceMethod ({ cls := "CourtJotterModel", name := "calls", desc := "()I" } : Jvm.MethodName) ∈ cj_ws := cj_mem 1018 (by decide +kernel) rfl
theorem cjq_1019 : Jvm.Cond.code ({ cls := "CourtJotterModel", name := "calls", desc := "()I" } : Jvm.MethodName) prog_11_method_61_code (1 : Nat) (Option.some Jvm.ClassFile.FieldType.int) ∈ cj_ws := cj_mem 1019 (by decide +kernel) rfl
theorem cjq_1020 : Jvm.Cond.methodLink "CourtJotterModel" (160 : Nat) ({ cls := "CourtJotterModel", name := "look", desc := "(I)I" } : Jvm.MethodName) ∈ cj_ws := cj_mem 1020 (by decide +kernel) rfl
theorem cjq_1021 : Jvm.Cond.methodLink "CourtJotterModel" (163 : Nat) ({ cls := "CourtJotterModel", name := "sheet", desc := "(I)I" } : Jvm.MethodName) ∈ cj_ws := cj_mem 1021 (by decide +kernel) rfl
theorem cjq_1022 : Jvm.Cond.methodLink "CourtJotterModel" (166 : Nat) ({ cls := "CourtJotterModel", name := "draw", desc := "(II)I" } : Jvm.MethodName) ∈ cj_ws := cj_mem 1022 (by decide +kernel) rfl
theorem cjq_1023 : Jvm.Cond.methodLink "CourtJotterModel" (169 : Nat) ({ cls := "CourtJotterModel", name := "verdict", desc := "(I)I" } : Jvm.MethodName) ∈ cj_ws := cj_mem 1023 (by decide +kernel) rfl
theorem cjq_1024 : Jvm.Cond.methodLink "CourtJotterModel" (172 : Nat) ({ cls := "CourtJotterModel", name := "sell", desc := "(II)I" } : Jvm.MethodName) ∈ cj_ws := cj_mem 1024 (by decide +kernel) rfl
theorem cjq_1025 : Jvm.Cond.methodLink "CourtJotterModel" (175 : Nat) ({ cls := "CourtJotterModel", name := "pass", desc := "(I)I" } : Jvm.MethodName) ∈ cj_ws := cj_mem 1025 (by decide +kernel) rfl
theorem cjq_1029 : Jvm.Cond.code ({ cls := "CourtJotterModel", name := "play", desc := "()I" } : Jvm.MethodName) prog_11_method_64_code (2 : Nat) (Option.some Jvm.ClassFile.FieldType.int) ∈ cj_ws := cj_mem 1029 (by decide +kernel) rfl
theorem cw_J9_min_7cf53 : cj_cw yJ9_min_7cf53 cJ9_min_7cf53 2 2 (some .int) := ⟨cjq_336, cjq_42, by decide +kernel, by decide +kernel, by decide +kernel⟩
theorem cw_X3_copyFrom : cj_cw yX3_copyFrom cX3_copyFrom 2 1 none := ⟨cjq_330, cjq_34, by decide +kernel, by decide +kernel, by decide +kernel⟩
theorem cw_X6_copyFrom : cj_cw yX6_copyFrom cX6_copyFrom 2 1 none := ⟨cjq_343, cjq_35, by decide +kernel, by decide +kernel, by decide +kernel⟩
theorem cw_X2_copyFrom : cj_cw yX2_copyFrom cX2_copyFrom 2 1 none := ⟨cjq_348, cjq_36, by decide +kernel, by decide +kernel, by decide +kernel⟩
theorem cw_X0_copyFrom : cj_cw yX0_copyFrom cX0_copyFrom 2 1 none := ⟨cjq_326, cjq_33, by decide +kernel, by decide +kernel, by decide +kernel⟩
theorem cw_X8_isWithin : cj_cw yX8_isWithin cX8_isWithin 3 3 (some .boolean) := ⟨cjq_356, cjq_32, by decide +kernel, by decide +kernel, by decide +kernel⟩
theorem cw_X3_isTaken : cj_cw yX3_isTaken cX3_isTaken 4 2 (some .boolean) := ⟨cjq_361, cjq_34, by decide +kernel, by decide +kernel, by decide +kernel⟩
theorem cw_X0_addPerson : cj_cw yX0_addPerson cX0_addPerson 3 2 (some .int) := ⟨cjq_353, cjq_33, by decide +kernel, by decide +kernel, by decide +kernel⟩
theorem cw_X3_has : cj_cw yX3_has cX3_has 2 1 (some .boolean) := ⟨cjq_379, cjq_34, by decide +kernel, by decide +kernel, by decide +kernel⟩
theorem cw_X3_angleAfter : cj_cw yX3_angleAfter cX3_angleAfter 3 2 (some .int) := ⟨cjq_387, cjq_34, by decide +kernel, by decide +kernel, by decide +kernel⟩
theorem cw_X3_seenAside : cj_cw yX3_seenAside cX3_seenAside 3 1 (some .int) := ⟨cjq_391, cjq_34, by decide +kernel, by decide +kernel, by decide +kernel⟩
theorem cw_X3_features : cj_cw yX3_features cX3_features 4 2 (some .int) := ⟨cjq_394, cjq_34, by decide +kernel, by decide +kernel, by decide +kernel⟩
theorem cw_X3_seenAfter : cj_cw yX3_seenAfter cX3_seenAfter 3 2 (some .int) := ⟨cjq_383, cjq_34, by decide +kernel, by decide +kernel, by decide +kernel⟩
theorem cw_X0_turnPerson : cj_cw yX0_turnPerson cX0_turnPerson 4 3 (some .int) := ⟨cjq_375, cjq_33, by decide +kernel, by decide +kernel, by decide +kernel⟩
theorem cw_X0_addPaper : cj_cw yX0_addPaper cX0_addPaper 3 2 (some .int) := ⟨cjq_402, cjq_33, by decide +kernel, by decide +kernel, by decide +kernel⟩
theorem cw_X0_lookAt : cj_cw yX0_lookAt cX0_lookAt 2 1 (some .int) := ⟨cjq_410, cjq_33, by decide +kernel, by decide +kernel, by decide +kernel⟩
theorem cw_X6_add : cj_cw yX6_add cX6_add 2 1 (some .int) := ⟨cjq_422, cjq_35, by decide +kernel, by decide +kernel, by decide +kernel⟩
theorem cw_X0_beginSheet : cj_cw yX0_beginSheet cX0_beginSheet 2 1 (some .int) := ⟨cjq_418, cjq_33, by decide +kernel, by decide +kernel, by decide +kernel⟩
theorem cw_X6_placeOf : cj_cw yX6_placeOf cX6_placeOf 3 1 (some .int) := ⟨cjq_434, cjq_35, by decide +kernel, by decide +kernel, by decide +kernel⟩
theorem cw_X3_rememberedSince : cj_cw yX3_rememberedSince cX3_rememberedSince 6 2 (some .int) := ⟨cjq_446, cjq_34, by decide +kernel, by decide +kernel, by decide +kernel⟩
theorem cw_X0_remembered : cj_cw yX0_remembered cX0_remembered 2 1 (some .int) := ⟨cjq_442, cjq_33, by decide +kernel, by decide +kernel, by decide +kernel⟩
theorem cw_X0_drawable : cj_cw yX0_drawable cX0_drawable 2 1 (some .int) := ⟨cjq_438, cjq_33, by decide +kernel, by decide +kernel, by decide +kernel⟩
theorem cw_X8_hasBit : cj_cw yX8_hasBit cX8_hasBit 2 2 (some .boolean) := ⟨cjq_449, cjq_32, by decide +kernel, by decide +kernel, by decide +kernel⟩
theorem cw_J9_max_7cf53 : cj_cw yJ9_max_7cf53 cJ9_max_7cf53 2 2 (some .int) := ⟨cjq_452, cjq_42, by decide +kernel, by decide +kernel, by decide +kernel⟩
theorem cw_J6_bitCount_0f7a4 : cj_cw yJ6_bitCount_0f7a4 cJ6_bitCount_0f7a4 1 1 (some .int) := ⟨cjq_455, cjq_44, by decide +kernel, by decide +kernel, by decide +kernel⟩
theorem cw_X0_drawFeature : cj_cw yX0_drawFeature cX0_drawFeature 4 2 (some .int) := ⟨cjq_430, cjq_33, by decide +kernel, by decide +kernel, by decide +kernel⟩
theorem cw_X6_removeAt : cj_cw yX6_removeAt cX6_removeAt 3 1 none := ⟨cjq_470, cjq_35, by decide +kernel, by decide +kernel, by decide +kernel⟩
theorem cw_X0_tearOut : cj_cw yX0_tearOut cX0_tearOut 3 1 (some .int) := ⟨cjq_466, cjq_33, by decide +kernel, by decide +kernel, by decide +kernel⟩
theorem cw_X0_day : cj_cw yX0_day cX0_day 1 0 (some .int) := ⟨cjq_486, cjq_33, by decide +kernel, by decide +kernel, by decide +kernel⟩
theorem cw_X0_hasVerdict : cj_cw yX0_hasVerdict cX0_hasVerdict 2 1 (some .boolean) := ⟨cjq_482, cjq_33, by decide +kernel, by decide +kernel, by decide +kernel⟩
theorem cw_X6_ofPerson : cj_cw yX6_ofPerson cX6_ofPerson 4 1 (some .int) := ⟨cjq_490, cjq_35, by decide +kernel, by decide +kernel, by decide +kernel⟩
theorem cw_X0_tellVerdict : cj_cw yX0_tellVerdict cX0_tellVerdict 2 1 (some .int) := ⟨cjq_478, cjq_33, by decide +kernel, by decide +kernel, by decide +kernel⟩
theorem cw_X2_has : cj_cw yX2_has cX2_has 2 1 (some .boolean) := ⟨cjq_502, cjq_36, by decide +kernel, by decide +kernel, by decide +kernel⟩
theorem cw_X0_wetFor : cj_cw yX0_wetFor cX0_wetFor 2 1 (some .int) := ⟨cjq_514, cjq_33, by decide +kernel, by decide +kernel, by decide +kernel⟩
theorem cw_X0_isDry : cj_cw yX0_isDry cX0_isDry 2 1 (some .boolean) := ⟨cjq_510, cjq_33, by decide +kernel, by decide +kernel, by decide +kernel⟩
theorem cw_X2_peopleBoughtOn : cj_cw yX2_peopleBoughtOn cX2_peopleBoughtOn 3 2 (some .int) := ⟨cjq_518, cjq_36, by decide +kernel, by decide +kernel, by decide +kernel⟩
theorem cw_X0_canSell : cj_cw yX0_canSell cX0_canSell 3 2 (some .boolean) := ⟨cjq_506, cjq_33, by decide +kernel, by decide +kernel, by decide +kernel⟩
theorem cw_X0_hour : cj_cw yX0_hour cX0_hour 1 0 (some .int) := ⟨cjq_526, cjq_33, by decide +kernel, by decide +kernel, by decide +kernel⟩
theorem cw_X0_priceAt : cj_cw yX0_priceAt cX0_priceAt 4 2 (some .int) := ⟨cjq_522, cjq_33, by decide +kernel, by decide +kernel, by decide +kernel⟩
theorem cw_X2_buy : cj_cw yX2_buy cX2_buy 5 4 none := ⟨cjq_530, cjq_36, by decide +kernel, by decide +kernel, by decide +kernel⟩
theorem cw_X0_sellSheet : cj_cw yX0_sellSheet cX0_sellSheet 6 2 (some .int) := ⟨cjq_498, cjq_33, by decide +kernel, by decide +kernel, by decide +kernel⟩
theorem cw_X3_watch : cj_cw yX3_watch cX3_watch 8 3 none := ⟨cjq_547, cjq_34, by decide +kernel, by decide +kernel, by decide +kernel⟩
theorem cw_X3_turnAll : cj_cw yX3_turnAll cX3_turnAll 3 1 none := ⟨cjq_553, cjq_34, by decide +kernel, by decide +kernel, by decide +kernel⟩
theorem cw_X0_advance : cj_cw yX0_advance cX0_advance 2 1 none := ⟨cjq_543, cjq_33, by decide +kernel, by decide +kernel, by decide +kernel⟩
theorem cw_X0_passMinutes : cj_cw yX0_passMinutes cX0_passMinutes 4 1 (some .int) := ⟨cjq_539, cjq_33, by decide +kernel, by decide +kernel, by decide +kernel⟩
theorem cw_X0_changeSetting : cj_cw yX0_changeSetting cX0_changeSetting 4 2 (some .int) := ⟨cjq_561, cjq_33, by decide +kernel, by decide +kernel, by decide +kernel⟩
theorem cw_X0_perform : cj_cw yX0_perform cX0_perform 4 3 (some .int) := ⟨cjq_702, cjq_33, by decide +kernel, by decide +kernel, by decide +kernel⟩
theorem cw_X0_findBestSale : cj_cw yX0_findBestSale cX0_findBestSale 5 1 (some .boolean) := ⟨cjq_622, cjq_33, by decide +kernel, by decide +kernel, by decide +kernel⟩
theorem cw_X0_tellOfPerson : cj_cw yX0_tellOfPerson cX0_tellOfPerson 3 2 (some .int) := ⟨cjq_569, cjq_33, by decide +kernel, by decide +kernel, by decide +kernel⟩
theorem cw_X0_tellOfSheet : cj_cw yX0_tellOfSheet cX0_tellOfSheet 4 2 (some .int) := ⟨cjq_577, cjq_33, by decide +kernel, by decide +kernel, by decide +kernel⟩
theorem cw_X0_tellOfPaper : cj_cw yX0_tellOfPaper cX0_tellOfPaper 3 2 (some .int) := ⟨cjq_585, cjq_33, by decide +kernel, by decide +kernel, by decide +kernel⟩
theorem cw_X0_tellCount : cj_cw yX0_tellCount cX0_tellCount 2 1 (some .int) := ⟨cjq_642, cjq_33, by decide +kernel, by decide +kernel, by decide +kernel⟩
theorem cw_X1_prepare : cj_cw yX1_prepare cX1_prepare 3 1 none := ⟨cjq_322, cjq_37, by decide +kernel, by decide +kernel, by decide +kernel⟩
theorem cw_X1_settle : cj_cw yX1_settle cX1_settle 2 1 (some .int) := ⟨cjq_367, cjq_37, by decide +kernel, by decide +kernel, by decide +kernel⟩
theorem cw_X1_restore : cj_cw yX1_restore cX1_restore 3 1 (some .int) := ⟨cjq_651, cjq_37, by decide +kernel, by decide +kernel, by decide +kernel⟩
theorem cw_X7_next : cj_cw yX7_next cX7_next 1 0 (some .char) := ⟨cjq_683, cjq_38, by decide +kernel, by decide +kernel, by decide +kernel⟩
theorem cw_X7_isOneNumber : cj_cw yX7_isOneNumber cX7_isOneNumber 1 1 (some .boolean) := ⟨cjq_686, cjq_38, by decide +kernel, by decide +kernel, by decide +kernel⟩
theorem cw_X7_isTwoNumbers : cj_cw yX7_isTwoNumbers cX7_isTwoNumbers 1 1 (some .boolean) := ⟨cjq_689, cjq_38, by decide +kernel, by decide +kernel, by decide +kernel⟩
theorem cw_X7_readNumber : cj_cw yX7_readNumber cX7_readNumber 3 0 (some .int) := ⟨cjq_693, cjq_38, by decide +kernel, by decide +kernel, by decide +kernel⟩
theorem cw_X7_readOrder : cj_cw yX7_readOrder cX7_readOrder 2 1 (some .boolean) := ⟨cjq_679, cjq_38, by decide +kernel, by decide +kernel, by decide +kernel⟩
theorem cw_X4_fail : cj_cw yX4_fail cX4_fail 4 3 none := ⟨cjq_698, cjq_39, by decide +kernel, by decide +kernel, by decide +kernel⟩
theorem cw_X4_run : cj_cw yX4_run cX4_run 5 2 none := ⟨cjq_675, cjq_39, by decide +kernel, by decide +kernel, by decide +kernel⟩
theorem cw_X7_append : cj_cw yX7_append cX7_append 2 1 (some .int) := ⟨cjq_660, cjq_38, by decide +kernel, by decide +kernel, by decide +kernel⟩
theorem cw_X8_person : cj_cw yX8_person cX8_person 3 2 (some .int) := ⟨cjq_318, cjq_32, by decide +kernel, by decide +kernel, by decide +kernel⟩
theorem cw_X8_turn : cj_cw yX8_turn cX8_turn 4 3 (some .int) := ⟨cjq_371, cjq_32, by decide +kernel, by decide +kernel, by decide +kernel⟩
theorem cw_X8_paper : cj_cw yX8_paper cX8_paper 3 2 (some .int) := ⟨cjq_398, cjq_32, by decide +kernel, by decide +kernel, by decide +kernel⟩
theorem cw_X8_look : cj_cw yX8_look cX8_look 2 1 (some .int) := ⟨cjq_406, cjq_32, by decide +kernel, by decide +kernel, by decide +kernel⟩
theorem cw_X8_sheet : cj_cw yX8_sheet cX8_sheet 2 1 (some .int) := ⟨cjq_414, cjq_32, by decide +kernel, by decide +kernel, by decide +kernel⟩
theorem cw_X8_draw : cj_cw yX8_draw cX8_draw 3 2 (some .int) := ⟨cjq_426, cjq_32, by decide +kernel, by decide +kernel, by decide +kernel⟩
theorem cw_X8_tear : cj_cw yX8_tear cX8_tear 2 1 (some .int) := ⟨cjq_462, cjq_32, by decide +kernel, by decide +kernel, by decide +kernel⟩
theorem cw_X8_verdict : cj_cw yX8_verdict cX8_verdict 2 1 (some .int) := ⟨cjq_474, cjq_32, by decide +kernel, by decide +kernel, by decide +kernel⟩
theorem cw_X8_sell : cj_cw yX8_sell cX8_sell 3 2 (some .int) := ⟨cjq_494, cjq_32, by decide +kernel, by decide +kernel, by decide +kernel⟩
theorem cw_X8_pass : cj_cw yX8_pass cX8_pass 2 1 (some .int) := ⟨cjq_535, cjq_32, by decide +kernel, by decide +kernel, by decide +kernel⟩
theorem cw_X8_set : cj_cw yX8_set cX8_set 3 2 (some .int) := ⟨cjq_557, cjq_32, by decide +kernel, by decide +kernel, by decide +kernel⟩
theorem cw_X8_personOf : cj_cw yX8_personOf cX8_personOf 3 2 (some .int) := ⟨cjq_565, cjq_32, by decide +kernel, by decide +kernel, by decide +kernel⟩
theorem cw_X8_sheetOf : cj_cw yX8_sheetOf cX8_sheetOf 3 2 (some .int) := ⟨cjq_573, cjq_32, by decide +kernel, by decide +kernel, by decide +kernel⟩
theorem cw_X8_paperOf : cj_cw yX8_paperOf cX8_paperOf 3 2 (some .int) := ⟨cjq_581, cjq_32, by decide +kernel, by decide +kernel, by decide +kernel⟩
theorem cw_X8_price : cj_cw yX8_price cX8_price 4 2 (some .int) := ⟨cjq_589, cjq_32, by decide +kernel, by decide +kernel, by decide +kernel⟩
theorem cw_X8_number : cj_cw yX8_number cX8_number 2 1 (some .int) := ⟨cjq_597, cjq_32, by decide +kernel, by decide +kernel, by decide +kernel⟩
theorem cw_X8_seenIn : cj_cw yX8_seenIn cX8_seenIn 4 2 (some .int) := ⟨cjq_602, cjq_32, by decide +kernel, by decide +kernel, by decide +kernel⟩
theorem cw_X8_would : cj_cw yX8_would cX8_would 3 2 (some .int) := ⟨cjq_610, cjq_32, by decide +kernel, by decide +kernel, by decide +kernel⟩
theorem cw_X8_best : cj_cw yX8_best cX8_best 2 1 (some .int) := ⟨cjq_618, cjq_32, by decide +kernel, by decide +kernel, by decide +kernel⟩
theorem cw_X8_sellAll : cj_cw yX8_sellAll cX8_sellAll 3 0 (some .int) := ⟨cjq_626, cjq_32, by decide +kernel, by decide +kernel, by decide +kernel⟩
theorem cw_X8_bitsOf : cj_cw yX8_bitsOf cX8_bitsOf 4 1 (some .int) := ⟨cjq_633, cjq_32, by decide +kernel, by decide +kernel, by decide +kernel⟩
theorem cw_X8_mean : cj_cw yX8_mean cX8_mean 1 0 (some .int) := ⟨cjq_630, cjq_32, by decide +kernel, by decide +kernel, by decide +kernel⟩
theorem cw_X8_count : cj_cw yX8_count cX8_count 2 1 (some .int) := ⟨cjq_638, cjq_32, by decide +kernel, by decide +kernel, by decide +kernel⟩
theorem cw_X8_undo : cj_cw yX8_undo cX8_undo 1 0 (some .int) := ⟨cjq_647, cjq_32, by decide +kernel, by decide +kernel, by decide +kernel⟩
theorem cw_X8_type : cj_cw yX8_type cX8_type 2 1 (some .int) := ⟨cjq_656, cjq_32, by decide +kernel, by decide +kernel, by decide +kernel⟩
theorem cw_X8_clearText : cj_cw yX8_clearText cX8_clearText 2 0 (some .int) := ⟨cjq_667, cjq_32, by decide +kernel, by decide +kernel, by decide +kernel⟩
theorem cw_X8_fault : cj_cw yX8_fault cX8_fault 2 1 (some .int) := ⟨cjq_671, cjq_32, by decide +kernel, by decide +kernel, by decide +kernel⟩
theorem cw_X8_play : cj_cw yX8_play cX8_play 1 0 (some .int) := ⟨cjq_712, cjq_32, by decide +kernel, by decide +kernel, by decide +kernel⟩
theorem cw_X9_in : cj_cw yX9_in cX9_in 3 3 (some .boolean) := ⟨cjq_772, cjq_41, by decide +kernel, by decide +kernel, by decide +kernel⟩
theorem cw_X9_copies : cj_cw yX9_copies cX9_copies 3 2 none := ⟨cjq_946, cjq_41, by decide +kernel, by decide +kernel, by decide +kernel⟩
theorem cw_X9_changes : cj_cw yX9_changes cX9_changes 2 0 none := ⟨cjq_783, cjq_41, by decide +kernel, by decide +kernel, by decide +kernel⟩
theorem cw_X9_ones : cj_cw yX9_ones cX9_ones 3 1 (some .int) := ⟨cjq_843, cjq_41, by decide +kernel, by decide +kernel, by decide +kernel⟩
theorem cw_X9_isPerson : cj_cw yX9_isPerson cX9_isPerson 2 1 (some .boolean) := ⟨cjq_795, cjq_41, by decide +kernel, by decide +kernel, by decide +kernel⟩
theorem cw_X9_isPaper : cj_cw yX9_isPaper cX9_isPaper 2 1 (some .boolean) := ⟨cjq_875, cjq_41, by decide +kernel, by decide +kernel, by decide +kernel⟩
theorem cw_X9_of : cj_cw yX9_of cX9_of 3 2 (some .int) := ⟨cjq_777, cjq_41, by decide +kernel, by decide +kernel, by decide +kernel⟩
theorem cw_X9_sets : cj_cw yX9_sets cX9_sets 4 3 none := ⟨cjq_787, cjq_41, by decide +kernel, by decide +kernel, by decide +kernel⟩
theorem cw_X9_ofSheet : cj_cw yX9_ofSheet cX9_ofSheet 3 2 (some .int) := ⟨cjq_831, cjq_41, by decide +kernel, by decide +kernel, by decide +kernel⟩
theorem cw_X9_ofPaper : cj_cw yX9_ofPaper cX9_ofPaper 3 2 (some .int) := ⟨cjq_891, cjq_41, by decide +kernel, by decide +kernel, by decide +kernel⟩
theorem cw_X9_day : cj_cw yX9_day cX9_day 1 0 (some .int) := ⟨cjq_863, cjq_41, by decide +kernel, by decide +kernel, by decide +kernel⟩
theorem cw_X9_isHidden : cj_cw yX9_isHidden cX9_isHidden 4 1 (some .boolean) := ⟨cjq_807, cjq_41, by decide +kernel, by decide +kernel, by decide +kernel⟩
theorem cw_X9_seenAt : cj_cw yX9_seenAt cX9_seenAt 6 2 (some .int) := ⟨cjq_803, cjq_41, by decide +kernel, by decide +kernel, by decide +kernel⟩
theorem cw_X9_seen : cj_cw yX9_seen cX9_seen 2 1 (some .int) := ⟨cjq_799, cjq_41, by decide +kernel, by decide +kernel, by decide +kernel⟩
theorem cw_X9_remembered : cj_cw yX9_remembered cX9_remembered 5 1 (some .int) := ⟨cjq_840, cjq_41, by decide +kernel, by decide +kernel, by decide +kernel⟩
theorem cw_X9_person : cj_cw yX9_person cX9_person 5 2 (some .int) := ⟨cjq_769, cjq_41, by decide +kernel, by decide +kernel, by decide +kernel⟩
theorem cw_X9_turn : cj_cw yX9_turn cX9_turn 4 3 (some .int) := ⟨cjq_791, cjq_41, by decide +kernel, by decide +kernel, by decide +kernel⟩
theorem cw_X9_paper : cj_cw yX9_paper cX9_paper 4 2 (some .int) := ⟨cjq_811, cjq_41, by decide +kernel, by decide +kernel, by decide +kernel⟩
theorem cw_X9_look : cj_cw yX9_look cX9_look 2 1 (some .int) := ⟨cjq_815, cjq_41, by decide +kernel, by decide +kernel, by decide +kernel⟩
theorem cw_X9_slot : cj_cw yX9_slot cX9_slot 3 1 (some .int) := ⟨cjq_827, cjq_41, by decide +kernel, by decide +kernel, by decide +kernel⟩
theorem cw_X9_sheet : cj_cw yX9_sheet cX9_sheet 3 1 (some .int) := ⟨cjq_819, cjq_41, by decide +kernel, by decide +kernel, by decide +kernel⟩
theorem cw_X9_drawable : cj_cw yX9_drawable cX9_drawable 2 1 (some .int) := ⟨cjq_836, cjq_41, by decide +kernel, by decide +kernel, by decide +kernel⟩
theorem cw_X9_draw : cj_cw yX9_draw cX9_draw 5 2 (some .int) := ⟨cjq_823, cjq_41, by decide +kernel, by decide +kernel, by decide +kernel⟩
theorem cw_X9_takesOut : cj_cw yX9_takesOut cX9_takesOut 3 1 none := ⟨cjq_851, cjq_41, by decide +kernel, by decide +kernel, by decide +kernel⟩
theorem cw_X9_tear : cj_cw yX9_tear cX9_tear 3 1 (some .int) := ⟨cjq_847, cjq_41, by decide +kernel, by decide +kernel, by decide +kernel⟩
theorem cw_X9_sheetsOf : cj_cw yX9_sheetsOf cX9_sheetsOf 4 1 (some .int) := ⟨cjq_867, cjq_41, by decide +kernel, by decide +kernel, by decide +kernel⟩
theorem cw_X9_hasVerdict : cj_cw yX9_hasVerdict cX9_hasVerdict 2 1 (some .boolean) := ⟨cjq_859, cjq_41, by decide +kernel, by decide +kernel, by decide +kernel⟩
theorem cw_X9_verdict : cj_cw yX9_verdict cX9_verdict 2 1 (some .int) := ⟨cjq_855, cjq_41, by decide +kernel, by decide +kernel, by decide +kernel⟩
theorem cw_X9_isDry : cj_cw yX9_isDry cX9_isDry 2 1 (some .boolean) := ⟨cjq_883, cjq_41, by decide +kernel, by decide +kernel, by decide +kernel⟩
theorem cw_X9_boughtOf : cj_cw yX9_boughtOf cX9_boughtOf 2 1 (some .int) := ⟨cjq_887, cjq_41, by decide +kernel, by decide +kernel, by decide +kernel⟩
theorem cw_X9_canSell : cj_cw yX9_canSell cX9_canSell 3 2 (some .boolean) := ⟨cjq_879, cjq_41, by decide +kernel, by decide +kernel, by decide +kernel⟩
theorem cw_X9_priceOf : cj_cw yX9_priceOf cX9_priceOf 4 2 (some .int) := ⟨cjq_899, cjq_41, by decide +kernel, by decide +kernel, by decide +kernel⟩
theorem cw_X9_sells : cj_cw yX9_sells cX9_sells 5 2 (some .int) := ⟨cjq_895, cjq_41, by decide +kernel, by decide +kernel, by decide +kernel⟩
theorem cw_X9_sell : cj_cw yX9_sell cX9_sell 4 2 (some .int) := ⟨cjq_871, cjq_41, by decide +kernel, by decide +kernel, by decide +kernel⟩
theorem cw_X9_sees : cj_cw yX9_sees cX9_sees 3 1 none := ⟨cjq_911, cjq_41, by decide +kernel, by decide +kernel, by decide +kernel⟩
theorem cw_X9_minute : cj_cw yX9_minute cX9_minute 2 0 none := ⟨cjq_907, cjq_41, by decide +kernel, by decide +kernel, by decide +kernel⟩
theorem cw_X9_pass : cj_cw yX9_pass cX9_pass 4 1 (some .int) := ⟨cjq_903, cjq_41, by decide +kernel, by decide +kernel, by decide +kernel⟩
theorem cw_X9_set : cj_cw yX9_set cX9_set 4 2 (some .int) := ⟨cjq_915, cjq_41, by decide +kernel, by decide +kernel, by decide +kernel⟩
theorem cw_X9_personOf : cj_cw yX9_personOf cX9_personOf 3 2 (some .int) := ⟨cjq_919, cjq_41, by decide +kernel, by decide +kernel, by decide +kernel⟩
theorem cw_X9_sheetOf : cj_cw yX9_sheetOf cX9_sheetOf 4 2 (some .int) := ⟨cjq_923, cjq_41, by decide +kernel, by decide +kernel, by decide +kernel⟩
theorem cw_X9_paperOf : cj_cw yX9_paperOf cX9_paperOf 3 2 (some .int) := ⟨cjq_927, cjq_41, by decide +kernel, by decide +kernel, by decide +kernel⟩
theorem cw_X9_price : cj_cw yX9_price cX9_price 4 2 (some .int) := ⟨cjq_931, cjq_41, by decide +kernel, by decide +kernel, by decide +kernel⟩
theorem cw_X9_number : cj_cw yX9_number cX9_number 2 1 (some .int) := ⟨cjq_935, cjq_41, by decide +kernel, by decide +kernel, by decide +kernel⟩
theorem cw_X9_seenIn : cj_cw yX9_seenIn cX9_seenIn 5 2 (some .int) := ⟨cjq_939, cjq_41, by decide +kernel, by decide +kernel, by decide +kernel⟩
theorem cw_X9_would : cj_cw yX9_would cX9_would 4 2 (some .int) := ⟨cjq_943, cjq_41, by decide +kernel, by decide +kernel, by decide +kernel⟩
theorem cw_X9_bestSale : cj_cw yX9_bestSale cX9_bestSale 6 0 (some .int) := ⟨cjq_954, cjq_41, by decide +kernel, by decide +kernel, by decide +kernel⟩
theorem cw_X9_best : cj_cw yX9_best cX9_best 3 1 (some .int) := ⟨cjq_950, cjq_41, by decide +kernel, by decide +kernel, by decide +kernel⟩
theorem cw_X9_sellAll : cj_cw yX9_sellAll cX9_sellAll 3 0 (some .int) := ⟨cjq_958, cjq_41, by decide +kernel, by decide +kernel, by decide +kernel⟩
theorem cw_Jxf58ca_isNaN_12338 : cj_cw yJxf58ca_isNaN_12338 cJxf58ca_isNaN_12338 1 1 (some .boolean) := ⟨cjq_968, cjq_45, by decide +kernel, by decide +kernel, by decide +kernel⟩
theorem cw_Jxf58ca_floatToIntBits_5c35a : cj_cw yJxf58ca_floatToIntBits_5c35a cJxf58ca_floatToIntBits_5c35a 1 1 (some .int) := ⟨cjq_965, cjq_45, by decide +kernel, by decide +kernel, by decide +kernel⟩
theorem cw_X9_mean : cj_cw yX9_mean cX9_mean 2 0 (some .int) := ⟨cjq_962, cjq_41, by decide +kernel, by decide +kernel, by decide +kernel⟩
theorem cw_X9_count : cj_cw yX9_count cX9_count 2 1 (some .int) := ⟨cjq_976, cjq_41, by decide +kernel, by decide +kernel, by decide +kernel⟩
theorem cw_X9_undo : cj_cw yX9_undo cX9_undo 2 0 (some .int) := ⟨cjq_980, cjq_41, by decide +kernel, by decide +kernel, by decide +kernel⟩
theorem cw_X9_type : cj_cw yX9_type cX9_type 2 1 (some .int) := ⟨cjq_984, cjq_41, by decide +kernel, by decide +kernel, by decide +kernel⟩
theorem cw_X9_clearText : cj_cw yX9_clearText cX9_clearText 2 0 (some .int) := ⟨cjq_988, cjq_41, by decide +kernel, by decide +kernel, by decide +kernel⟩
theorem cw_X9_isAt : cj_cw yX9_isAt cX9_isAt 3 2 (some .boolean) := ⟨cjq_1004, cjq_41, by decide +kernel, by decide +kernel, by decide +kernel⟩
theorem cw_X9_sign : cj_cw yX9_sign cX9_sign 3 1 (some .boolean) := ⟨cjq_1015, cjq_41, by decide +kernel, by decide +kernel, by decide +kernel⟩
theorem cw_X9_numbered : cj_cw yX9_numbered cX9_numbered 3 1 (some .boolean) := ⟨cjq_1011, cjq_41, by decide +kernel, by decide +kernel, by decide +kernel⟩
theorem cw_X9_numbersOf : cj_cw yX9_numbersOf cX9_numbersOf 1 1 (some .int) := ⟨cjq_1007, cjq_41, by decide +kernel, by decide +kernel, by decide +kernel⟩
theorem cw_X9_reads : cj_cw yX9_reads cX9_reads 3 0 (some .boolean) := ⟨cjq_1000, cjq_41, by decide +kernel, by decide +kernel, by decide +kernel⟩
theorem cw_X9_calls : cj_cw yX9_calls cX9_calls 1 0 (some .int) := ⟨cjq_1019, cjq_41, by decide +kernel, by decide +kernel, by decide +kernel⟩
theorem cw_X9_plays : cj_cw yX9_plays cX9_plays 4 0 (some .boolean) := ⟨cjq_996, cjq_41, by decide +kernel, by decide +kernel, by decide +kernel⟩
theorem cw_X9_fault : cj_cw yX9_fault cX9_fault 3 1 (some .int) := ⟨cjq_992, cjq_41, by decide +kernel, by decide +kernel, by decide +kernel⟩
theorem cw_X9_play : cj_cw yX9_play cX9_play 2 0 (some .int) := ⟨cjq_1029, cjq_41, by decide +kernel, by decide +kernel, by decide +kernel⟩
theorem cw_X8_copyRow : cj_cw yX8_copyRow cX8_copyRow 2 2 none := ⟨cjq_333, cjq_32, by decide +kernel, by decide +kernel, by decide +kernel⟩
end
section
/-! what each method answers and does, read off its bytecode -/
def f_J9_min_7cf53 (a0 : Int32) (a1 : Int32) : Option (Int32) :=
  if a1 < a0 then some a1 else
 some a0
def f_X3_copyFrom (gd : Nat) (gs : Nat) (m0 : cj_Mm) : Option (cj_Mm) :=
  cj_lt (cj_upG m0 gd (cj_up2 (m0 gd) 1 0 (m0 gs 1 0))) (fun (s1 : cj_Mm) =>
 cj_lt (cj_upG s1 gd (cj_upr (s1 gd) 2 (va_cpy (s1 gs 2) (s1 gd 2) 0 0 6))) (fun (s3 : cj_Mm) =>
 cj_lt (cj_upG s3 gd (cj_upr (s3 gd) 3 (va_cpy (s3 gs 3) (s3 gd 3) 0 0 6))) (fun (s5 : cj_Mm) =>
 cj_lt (cj_upG s5 gd (cj_upr (s5 gd) 4 (va_cpy (s5 gs 4) (s5 gd 4) 0 0 6))) (fun (s7 : cj_Mm) =>
 cj_lt (cj_upG s7 gd (cj_upr (s7 gd) 5 (va_cpy (s7 gs 5) (s7 gd 5) 0 0 6))) (fun (s9 : cj_Mm) =>
 cj_lt (cj_upG s9 gd (cj_upr (s9 gd) 6 (va_cpy (s9 gs 6) (s9 gd 6) 0 0 6))) (fun (s11 : cj_Mm) =>
 cj_lt (cj_upG s11 gd (cj_upr (s11 gd) 7 (va_cpy (s11 gs 7) (s11 gd 7) 0 0 6))) (fun (s13 : cj_Mm) =>
 cj_lt (cj_upG s13 gd (cj_upr (s13 gd) 8 (va_cpy (s13 gs 8) (s13 gd 8) 0 0 72))) (fun (s15 : cj_Mm) =>
 some s15))))))))
def f_X6_copyFrom (gd : Nat) (gs : Nat) (m0 : cj_Mm) : Option (cj_Mm) :=
  cj_lt (cj_upG m0 gd (cj_up2 (m0 gd) 9 0 (m0 gs 9 0))) (fun (s1 : cj_Mm) =>
 cj_lt (cj_upG s1 gd (cj_up2 (s1 gd) 9 1 (s1 gs 9 1))) (fun (s2 : cj_Mm) =>
 cj_lt (cj_upG s2 gd (cj_upr (s2 gd) 10 (va_cpy (s2 gs 10) (s2 gd 10) 0 0 10))) (fun (s4 : cj_Mm) =>
 cj_lt (cj_upG s4 gd (cj_upr (s4 gd) 11 (va_cpy (s4 gs 11) (s4 gd 11) 0 0 10))) (fun (s6 : cj_Mm) =>
 cj_lt (cj_upG s6 gd (cj_upr (s6 gd) 12 (va_cpy (s6 gs 12) (s6 gd 12) 0 0 10))) (fun (s8 : cj_Mm) =>
 cj_lt (cj_upG s8 gd (cj_upr (s8 gd) 13 (va_cpy (s8 gs 13) (s8 gd 13) 0 0 10))) (fun (s10 : cj_Mm) =>
 some s10))))))
def f_X2_copyFrom (gd : Nat) (gs : Nat) (m0 : cj_Mm) : Option (cj_Mm) :=
  cj_lt (cj_upG m0 gd (cj_up2 (m0 gd) 14 0 (m0 gs 14 0))) (fun (s1 : cj_Mm) =>
 cj_lt (cj_upG s1 gd (cj_upr (s1 gd) 15 (va_cpy (s1 gs 15) (s1 gd 15) 0 0 4))) (fun (s3 : cj_Mm) =>
 cj_lt (cj_upG s3 gd (cj_upr (s3 gd) 16 (va_cpy (s3 gs 16) (s3 gd 16) 0 0 4))) (fun (s5 : cj_Mm) =>
 cj_lt (cj_upG s5 gd (cj_upr (s5 gd) 17 (va_cpy (s5 gs 17) (s5 gd 17) 0 0 4))) (fun (s7 : cj_Mm) =>
 cj_lt (cj_upG s7 gd (cj_upr (s7 gd) 18 (va_cpy (s7 gs 18) (s7 gd 18) 0 0 4))) (fun (s9 : cj_Mm) =>
 cj_lt (cj_upG s9 gd (cj_upr (s9 gd) 19 (va_cpy (s9 gs 19) (s9 gd 19) 0 0 4))) (fun (s11 : cj_Mm) =>
 cj_lt (cj_upG s11 gd (cj_upr (s11 gd) 20 (va_cpy (s11 gs 20) (s11 gd 20) 0 0 4))) (fun (s13 : cj_Mm) =>
 some s13)))))))
def f_X0_copyFrom (gd : Nat) (gs : Nat) (m0 : cj_Mm) : Option (cj_Mm) :=
  cj_bd (f_X3_copyFrom gd gs m0) (fun (s2 : cj_Mm) =>
 cj_bd (f_X6_copyFrom gd gs s2) (fun (s4 : cj_Mm) =>
 cj_bd (f_X2_copyFrom gd gs s4) (fun (s6 : cj_Mm) =>
 cj_lt (cj_upG s6 gd (cj_up2 (s6 gd) 0 3 (s6 gs 0 3))) (fun (s7 : cj_Mm) =>
 cj_lt (cj_upG s7 gd (cj_up2 (s7 gd) 0 4 (s7 gs 0 4))) (fun (s8 : cj_Mm) =>
 cj_lt (cj_upG s8 gd (cj_up2 (s8 gd) 0 5 (s8 gs 0 5))) (fun (s9 : cj_Mm) =>
 cj_lt (cj_upG s9 gd (cj_up2 (s9 gd) 0 6 (s9 gs 0 6))) (fun (s10 : cj_Mm) =>
 cj_lt (cj_upG s10 gd (cj_up2 (s10 gd) 0 7 (s10 gs 0 7))) (fun (s11 : cj_Mm) =>
 cj_lt (cj_upG s11 gd (cj_up2 (s11 gd) 0 8 (s11 gs 0 8))) (fun (s12 : cj_Mm) =>
 cj_lt (cj_upG s12 gd (cj_up2 (s12 gd) 0 9 (s12 gs 0 9))) (fun (s13 : cj_Mm) =>
 some s13))))))))))
def f_X8_isWithin (a0 : Int32) (a1 : Int32) (a2 : Int32) : Option (Int32) :=
  if a0 < a1 then some 0 else
 if a2 < a0 then some 0 else
 some 1
def f_X3_isTaken_L2 (y1 : Int32) (y2 : Int32) (s4 : cj_S) : Nat → Int32 → Option (Int32)
  | 0, _ => none
  | n + 1, x3 => if (s4 1 0) ≤ x3 then some 0 else
 cj_gd x3 6 (
 if (s4 2 x3.toNatClampNeg) = y1 then cj_gd x3 6 (
 if (s4 3 x3.toNatClampNeg) = y2 then some 1 else
 f_X3_isTaken_L2 y1 y2 s4 n (x3 + 1)) else
 f_X3_isTaken_L2 y1 y2 s4 n (x3 + 1))
def f_X3_isTaken (s0 : cj_S) (a1 : Int32) (a2 : Int32) : Option (Int32) :=
  f_X3_isTaken_L2 a1 a2 s0 cj_FU 0
def f_X0_addPerson (s0 : cj_S) (a1 : Int32) (a2 : Int32) : Option (Int32 × cj_S) :=
  cj_bd (f_X8_isWithin a1 0 3) (fun (x2 : Int32) =>
 if x2 = 0 then some ((-1000001), s0) else
 cj_bd (f_X8_isWithin a2 0 5) (fun (x4 : Int32) =>
 if x4 = 0 then some ((-1000001), s0) else
 cj_bd (f_X3_isTaken s0 a1 a2) (fun (x6 : Int32) =>
 if x6 = 0 then if (s0 1 0) < 6 then cj_gd (s0 1 0) 6 (
 cj_lt (cj_up2 s0 2 ((s0 1 0).toNatClampNeg) a1) (fun (s7 : cj_S) =>
 cj_gd (s7 1 0) 6 (
 cj_lt (cj_up2 s7 3 ((s7 1 0).toNatClampNeg) a2) (fun (s8 : cj_S) =>
 cj_lt (cj_up2 s8 1 0 ((s8 1 0) + 1)) (fun (s9 : cj_S) =>
 some ((s9 1 0) - 1, s9)))))) else
 some ((-1000003), s0) else
 some ((-1000002), s0))))
def f_X3_has (s0 : cj_S) (a1 : Int32) : Option (Int32) :=
  if a1 < 0 then some 0 else
 if (s0 1 0) ≤ a1 then some 0 else
 some 1
def f_X3_angleAfter (s0 : cj_S) (a1 : Int32) (a2 : Int32) : Option (Int32) :=
  cj_gd a1 6 (
 cj_gd a1 6 (
 cj_lt ((s0 4 a1.toNatClampNeg) + ((s0 5 a1.toNatClampNeg) * a2)) (fun (x1 : Int32) =>
 some (x1 - x1 / 12 * 12))))
def f_X3_seenAside_L2 (y1 : Int32) (s3 : cj_S) : Nat → Int32 → Option (Int32)
  | 0, _ => none
  | n + 1, x2 => if (s3 1 0) ≤ x2 then some 2 else
 cj_gd x2 6 (
 cj_gd y1 6 (
 if (s3 3 x2.toNatClampNeg) = (s3 3 y1.toNatClampNeg) then cj_gd x2 6 (
 cj_gd y1 6 (
 if (s3 2 y1.toNatClampNeg) ≤ (s3 2 x2.toNatClampNeg) then f_X3_seenAside_L2 y1 s3 n (x2 + 1) else
 some 0)) else
 f_X3_seenAside_L2 y1 s3 n (x2 + 1)))
def f_X3_seenAside (s0 : cj_S) (a1 : Int32) : Option (Int32) :=
  f_X3_seenAside_L2 a1 s0 cj_FU 0
def f_X3_features_L5 (y1 : Int32) (y2 : Int32) : Nat → Int32 → Int32 → Option (Int32)
  | 0, _, _ => none
  | n + 1, x3, x4 => if y2 < x4 then some x3 else
 cj_lt ((y1 + x4) + 12) (fun (x5 : Int32) =>
 cj_lt (x3 ||| (1 <<< ((x5 - x5 / 12 * 12) &&& 31))) (fun (x6 : Int32) =>
 f_X3_features_L5 y1 y2 n x6 (x4 + 1)))
def f_X3_features (a0 : Int32) (a1 : Int32) : Option (Int32) :=
  f_X3_features_L5 a0 a1 cj_FU 0 (-a1)
def f_X3_seenAfter (s0 : cj_S) (a1 : Int32) (a2 : Int32) : Option (Int32) :=
  cj_bd (f_X3_angleAfter s0 a1 a2) (fun (x2 : Int32) =>
 cj_bd (f_X3_seenAside s0 a1) (fun (x4 : Int32) =>
 cj_bd (f_X3_features x2 x4) (fun (x6 : Int32) =>
 some x6)))
def f_X0_turnPerson (s0 : cj_S) (a1 : Int32) (a2 : Int32) (a3 : Int32) : Option (Int32 × cj_S) :=
  cj_bd (f_X3_has s0 a1) (fun (x2 : Int32) =>
 if x2 = 0 then some ((-1000001), s0) else
 cj_bd (f_X8_isWithin a2 0 11) (fun (x4 : Int32) =>
 if x4 = 0 then some ((-1000001), s0) else
 cj_bd (f_X8_isWithin a3 0 11) (fun (x6 : Int32) =>
 if x6 = 0 then some ((-1000001), s0) else
 cj_gd a1 6 (
 cj_lt (cj_up2 s0 4 a1.toNatClampNeg a2) (fun (s7 : cj_S) =>
 cj_gd a1 6 (
 cj_lt (cj_up2 s7 5 a1.toNatClampNeg a3) (fun (s8 : cj_S) =>
 cj_bd (f_X3_seenAfter s8 a1 0) (fun (x10 : Int32) =>
 some (x10, s8)))))))))
def f_X0_addPaper (s0 : cj_S) (a1 : Int32) (a2 : Int32) : Option (Int32 × cj_S) :=
  cj_bd (f_X8_isWithin a1 1 20) (fun (x2 : Int32) =>
 if x2 = 0 then some ((-1000001), s0) else
 cj_bd (f_X8_isWithin a2 1 299) (fun (x4 : Int32) =>
 if x4 = 0 then some ((-1000001), s0) else
 if (s0 14 0) < 4 then cj_gd (s0 14 0) 4 (
 cj_lt (cj_up2 s0 15 ((s0 14 0).toNatClampNeg) a1) (fun (s5 : cj_S) =>
 cj_gd (s5 14 0) 4 (
 cj_lt (cj_up2 s5 16 ((s5 14 0).toNatClampNeg) a2) (fun (s6 : cj_S) =>
 cj_lt (cj_up2 s6 14 0 ((s6 14 0) + 1)) (fun (s7 : cj_S) =>
 some ((s7 14 0) - 1, s7)))))) else
 some ((-1000003), s0)))
def f_X0_lookAt (s0 : cj_S) (a1 : Int32) : Option (Int32 × cj_S) :=
  cj_lt (fun (u : Unit) => cj_lt (cj_up2 s0 0 6 a1) (fun (s2 : cj_S) =>
 if a1 = ((-1)) then some (0, s2) else
 cj_bd (f_X3_seenAfter s2 a1 0) (fun (x4 : Int32) =>
 some (x4, s2)))) (fun K1 =>
 if a1 = ((-1)) then K1 () else
 cj_bd (f_X3_has s0 a1) (fun (x6 : Int32) =>
 if x6 = 0 then some ((-1000001), s0) else
 K1 ()))
def f_X6_add (s0 : cj_S) (a1 : Int32) : Option (Int32 × cj_S) :=
  cj_gd (s0 9 0) 10 (
 cj_lt (cj_up2 s0 10 ((s0 9 0).toNatClampNeg) (s0 9 1)) (fun (s1 : cj_S) =>
 cj_gd (s1 9 0) 10 (
 cj_lt (cj_up2 s1 11 ((s1 9 0).toNatClampNeg) a1) (fun (s2 : cj_S) =>
 cj_gd (s2 9 0) 10 (
 cj_lt (cj_up2 s2 12 ((s2 9 0).toNatClampNeg) 0) (fun (s3 : cj_S) =>
 cj_gd (s3 9 0) 10 (
 cj_lt (cj_up2 s3 13 ((s3 9 0).toNatClampNeg) 0) (fun (s4 : cj_S) =>
 cj_lt (cj_up2 s4 9 0 ((s4 9 0) + 1)) (fun (s5 : cj_S) =>
 cj_lt (cj_up2 s5 9 1 ((s5 9 1) + 1)) (fun (s6 : cj_S) =>
 some ((s6 9 1) - 1, s6)))))))))))
def f_X0_beginSheet (s0 : cj_S) (a1 : Int32) : Option (Int32 × cj_S) :=
  cj_bd (f_X3_has s0 a1) (fun (x2 : Int32) =>
 if x2 = 0 then some ((-1000001), s0) else
 if (s0 9 0) < 10 then cj_bp (f_X6_add s0 a1) (fun (x4 : Int32) (s5 : cj_S) =>
 some (x4, s5)) else
 some ((-1000003), s0))
def f_X6_placeOf_L2 (y1 : Int32) (s3 : cj_S) : Nat → Int32 → Option (Int32)
  | 0, _ => none
  | n + 1, x2 => if (s3 9 0) ≤ x2 then some ((-1)) else
 cj_gd x2 10 (
 if (s3 10 x2.toNatClampNeg) = y1 then some x2 else
 f_X6_placeOf_L2 y1 s3 n (x2 + 1))
def f_X6_placeOf (s0 : cj_S) (a1 : Int32) : Option (Int32) :=
  f_X6_placeOf_L2 a1 s0 cj_FU 0
def f_X3_rememberedSince_L5 (y1 : Int32) (y2 : Int32) (s5 : cj_S) : Nat → Int32 → Int32 → Option (Int32)
  | 0, _, _ => none
  | n + 1, x3, x4 => if 12 ≤ x4 then some x3 else
 cj_gd ((y1 * 12) + x4) 72 (
 cj_lt (s5 8 ((y1 * 12) + x4).toNatClampNeg) (fun (x6 : Int32) =>
 if x6 = ((-1)) then f_X3_rememberedSince_L5 y1 y2 s5 n x3 (x4 + 1) else
 if x6 < y2 then f_X3_rememberedSince_L5 y1 y2 s5 n x3 (x4 + 1) else
 cj_lt (x3 ||| (1 <<< (x4 &&& 31))) (fun (x7 : Int32) =>
 f_X3_rememberedSince_L5 y1 y2 s5 n x7 (x4 + 1))))
def f_X3_rememberedSince (s0 : cj_S) (a1 : Int32) (a2 : Int32) : Option (Int32) :=
  f_X3_rememberedSince_L5 a1 a2 s0 cj_FU 0 0
def f_X0_remembered (s0 : cj_S) (a1 : Int32) : Option (Int32) :=
  cj_bd (f_X3_rememberedSince s0 a1 ((s0 0 5) - (s0 0 3))) (fun (x2 : Int32) =>
 some x2)
def f_X0_drawable (s0 : cj_S) (a1 : Int32) : Option (Int32) :=
  cj_gd a1 10 (
 cj_bd (f_X0_remembered s0 (s0 11 a1.toNatClampNeg)) (fun (x2 : Int32) =>
 cj_gd a1 10 (
 some (x2 &&& ((s0 12 a1.toNatClampNeg) ^^^ ((-1)))))))
def f_X8_hasBit (a0 : Int32) (a1 : Int32) : Option (Int32) :=
  if ((a0 >>> (a1 &&& 31)) &&& 1) = 0 then some 0 else
 some 1
def f_J9_max_7cf53 (a0 : Int32) (a1 : Int32) : Option (Int32) :=
  if a0 < a1 then some a1 else
 some a0
def f_J6_bitCount_0f7a4 (a0 : Int32) : Option (Int32) :=
  cj_lt (a0 - ((cj_us a0 1) &&& 1431655765)) (fun (x1 : Int32) =>
 cj_lt ((x1 &&& 858993459) + ((cj_us x1 2) &&& 858993459)) (fun (x2 : Int32) =>
 cj_lt ((x2 + (cj_us x2 4)) &&& 252645135) (fun (x3 : Int32) =>
 cj_lt ((x3 + (cj_us x3 8)) + (cj_us (x3 + (cj_us x3 8)) 16)) (fun (x4 : Int32) =>
 some (x4 &&& 63)))))
def f_X0_drawFeature (s0 : cj_S) (a1 : Int32) (a2 : Int32) : Option (Int32 × cj_S) :=
  cj_bd (f_X6_placeOf s0 a1) (fun (x2 : Int32) =>
 if x2 = ((-1)) then some ((-1000001), s0) else
 cj_bd (f_X8_isWithin a2 0 11) (fun (x4 : Int32) =>
 if x4 = 0 then some ((-1000001), s0) else
 cj_bd (f_X0_drawable s0 x2) (fun (x6 : Int32) =>
 cj_bd (f_X8_hasBit x6 a2) (fun (x8 : Int32) =>
 if x8 = 0 then some ((-1000002), s0) else
 if (s0 0 7) < 3 then cj_lt (cj_up2 s0 0 7 ((s0 0 7) + 1)) (fun (s9 : cj_S) =>
 cj_gd x2 10 (
 cj_gd x2 10 (
 cj_lt (cj_up2 s9 12 x2.toNatClampNeg ((s9 12 x2.toNatClampNeg) ||| (1 <<< (a2 &&& 31)))) (fun (s10 : cj_S) =>
 cj_gd x2 10 (
 cj_bd (f_J9_max_7cf53 (s10 13 x2.toNatClampNeg) ((s10 0 5) + (s10 0 4))) (fun (x12 : Int32) =>
 cj_gd x2 10 (
 cj_lt (cj_up2 s10 13 x2.toNatClampNeg x12) (fun (s13 : cj_S) =>
 cj_gd x2 10 (
 cj_bd (f_J6_bitCount_0f7a4 (s13 12 x2.toNatClampNeg)) (fun (x15 : Int32) =>
 some (x15, s13))))))))))) else
 some ((-1000003), s0)))))
def f_X6_removeAt_L2 (K : cj_S → Option (cj_S)) : Nat → Int32 → cj_S → Option (cj_S)
  | 0, _, _ => none
  | n + 1, x1, s2 => if (s2 9 0) ≤ (x1 + 1) then K s2 else
 cj_gd (x1 + 1) 10 (
 cj_gd x1 10 (
 cj_lt (cj_up2 s2 10 x1.toNatClampNeg (s2 10 (x1 + 1).toNatClampNeg)) (fun (s4 : cj_S) =>
 cj_gd (x1 + 1) 10 (
 cj_gd x1 10 (
 cj_lt (cj_up2 s4 11 x1.toNatClampNeg (s4 11 (x1 + 1).toNatClampNeg)) (fun (s5 : cj_S) =>
 cj_gd (x1 + 1) 10 (
 cj_gd x1 10 (
 cj_lt (cj_up2 s5 12 x1.toNatClampNeg (s5 12 (x1 + 1).toNatClampNeg)) (fun (s6 : cj_S) =>
 cj_gd (x1 + 1) 10 (
 cj_gd x1 10 (
 cj_lt (cj_up2 s6 13 x1.toNatClampNeg (s6 13 (x1 + 1).toNatClampNeg)) (fun (s7 : cj_S) =>
 f_X6_removeAt_L2 K n (x1 + 1) s7))))))))))))
def f_X6_removeAt (s0 : cj_S) (a1 : Int32) : Option (cj_S) :=
  f_X6_removeAt_L2 (fun (s8 : cj_S) =>
 cj_lt (cj_up2 s8 9 0 ((s8 9 0) - 1)) (fun (s9 : cj_S) =>
 some s9)) cj_FU a1 s0
def f_X0_tearOut (s0 : cj_S) (a1 : Int32) : Option (Int32 × cj_S) :=
  cj_bd (f_X6_placeOf s0 a1) (fun (x2 : Int32) =>
 if x2 = ((-1)) then some ((-1000001), s0) else
 cj_bd (f_X6_removeAt s0 x2) (fun (s4 : cj_S) =>
 some (s4 9 0, s4)))
def f_X0_day (s0 : cj_S) : Option (Int32) :=
  some ((s0 0 5) / 300)
def f_X0_hasVerdict (s0 : cj_S) (a1 : Int32) : Option (Int32) :=
  cj_gd a1 6 (
 cj_bd (f_X0_day s0) (fun (x2 : Int32) =>
 if (s0 6 a1.toNatClampNeg) = x2 then some 1 else
 some 0))
def f_X6_ofPerson_L4 (y1 : Int32) (s4 : cj_S) : Nat → Int32 → Int32 → Option (Int32)
  | 0, _, _ => none
  | n + 1, x2, x3 => if (s4 9 0) ≤ x3 then some x2 else
 cj_gd x3 10 (
 if (s4 11 x3.toNatClampNeg) = y1 then f_X6_ofPerson_L4 y1 s4 n (x2 + 1) (x3 + 1) else
 f_X6_ofPerson_L4 y1 s4 n x2 (x3 + 1))
def f_X6_ofPerson (s0 : cj_S) (a1 : Int32) : Option (Int32) :=
  f_X6_ofPerson_L4 a1 s0 cj_FU 0 0
def f_X0_tellVerdict (s0 : cj_S) (a1 : Int32) : Option (Int32 × cj_S) :=
  cj_bd (f_X3_has s0 a1) (fun (x2 : Int32) =>
 if x2 = 0 then some ((-1000001), s0) else
 cj_bd (f_X0_hasVerdict s0 a1) (fun (x4 : Int32) =>
 if x4 = 0 then cj_bd (f_X0_day s0) (fun (x6 : Int32) =>
 cj_gd a1 6 (
 cj_lt (cj_up2 s0 6 a1.toNatClampNeg x6) (fun (s7 : cj_S) =>
 cj_bd (f_X6_ofPerson s7 a1) (fun (x9 : Int32) =>
 some (x9, s7))))) else
 some ((-1000002), s0)))
def f_X2_has (s0 : cj_S) (a1 : Int32) : Option (Int32) :=
  if a1 < 0 then some 0 else
 if (s0 14 0) ≤ a1 then some 0 else
 some 1
def f_X0_wetFor (s0 : cj_S) (a1 : Int32) : Option (Int32) :=
  cj_gd a1 10 (
 if (s0 13 a1.toNatClampNeg) ≤ (s0 0 5) then some 0 else
 cj_gd a1 10 (
 some ((s0 13 a1.toNatClampNeg) - (s0 0 5))))
def f_X0_isDry (s0 : cj_S) (a1 : Int32) : Option (Int32) :=
  cj_gd a1 10 (
 if (s0 12 a1.toNatClampNeg) = 0 then some 0 else
 cj_bd (f_X0_wetFor s0 a1) (fun (x2 : Int32) =>
 if x2 = 0 then some 1 else
 some 0))
def f_X2_peopleBoughtOn (s0 : cj_S) (a1 : Int32) (a2 : Int32) : Option (Int32) :=
  cj_gd a1 4 (
 if (s0 19 a1.toNatClampNeg) = a2 then cj_gd a1 4 (
 some (s0 20 a1.toNatClampNeg)) else
 some 0)
def f_X0_canSell (s0 : cj_S) (a1 : Int32) (a2 : Int32) : Option (Int32) :=
  cj_bd (f_X0_isDry s0 a1) (fun (x2 : Int32) =>
 if x2 = 0 then some 0 else
 cj_bd (f_X0_day s0) (fun (x4 : Int32) =>
 cj_bd (f_X2_peopleBoughtOn s0 a2 x4) (fun (x6 : Int32) =>
 cj_gd a1 10 (
 cj_bd (f_X8_hasBit x6 (s0 11 a1.toNatClampNeg)) (fun (x8 : Int32) =>
 if x8 = 0 then some 1 else
 some 0)))))
def f_X0_hour (s0 : cj_S) : Option (Int32) :=
  some ((s0 0 5) - (s0 0 5) / 300 * 300)
def f_X0_priceAt (s0 : cj_S) (a1 : Int32) (a2 : Int32) : Option (Int32) :=
  cj_gd a2 4 (
 cj_gd a1 10 (
 cj_bd (f_J6_bitCount_0f7a4 (s0 12 a1.toNatClampNeg)) (fun (x2 : Int32) =>
 cj_gd a1 10 (
 cj_bd (f_X0_hasVerdict s0 (s0 11 a1.toNatClampNeg)) (fun (x4 : Int32) =>
 cj_lt (fun (x6 : Int32) => cj_bd (f_X0_hour s0) (fun (x8 : Int32) =>
 cj_gd a2 4 (
 if x8 ≤ (s0 16 a2.toNatClampNeg) then some x6 else
 some (x6 / 2)))) (fun K5 =>
 if x4 = 0 then K5 ((s0 15 a2.toNatClampNeg) * x2) else
 cj_lt (((s0 15 a2.toNatClampNeg) * x2) * 2) (fun (x9 : Int32) =>
 K5 x9)))))))
def f_X2_buy (s0 : cj_S) (a1 : Int32) (a2 : Int32) (a3 : Int32) (a4 : Int32) : Option (cj_S) :=
  cj_bd (f_X2_peopleBoughtOn s0 a1 a4) (fun (x2 : Int32) =>
 cj_gd a1 4 (
 cj_lt (cj_up2 s0 20 a1.toNatClampNeg (x2 ||| (1 <<< (a2 &&& 31)))) (fun (s3 : cj_S) =>
 cj_gd a1 4 (
 cj_lt (cj_up2 s3 19 a1.toNatClampNeg a4) (fun (s4 : cj_S) =>
 cj_gd a1 4 (
 cj_gd a1 4 (
 cj_lt (cj_up2 s4 17 a1.toNatClampNeg ((s4 17 a1.toNatClampNeg) + 1)) (fun (s5 : cj_S) =>
 cj_gd a1 4 (
 cj_gd a1 4 (
 cj_lt (cj_up2 s5 18 a1.toNatClampNeg ((s5 18 a1.toNatClampNeg) + a3)) (fun (s6 : cj_S) =>
 some s6)))))))))))
def f_X0_sellSheet (s0 : cj_S) (a1 : Int32) (a2 : Int32) : Option (Int32 × cj_S) :=
  cj_bd (f_X6_placeOf s0 a1) (fun (x2 : Int32) =>
 if x2 = ((-1)) then some ((-1000001), s0) else
 cj_bd (f_X2_has s0 a2) (fun (x4 : Int32) =>
 if x4 = 0 then some ((-1000001), s0) else
 cj_bd (f_X0_canSell s0 x2 a2) (fun (x6 : Int32) =>
 if x6 = 0 then some ((-1000002), s0) else
 cj_gd x2 10 (
 cj_bd (f_X0_priceAt s0 x2 a2) (fun (x8 : Int32) =>
 cj_bd (f_X0_day s0) (fun (x10 : Int32) =>
 cj_bd (f_X2_buy s0 a2 (s0 11 x2.toNatClampNeg) x8 x10) (fun (s12 : cj_S) =>
 cj_gd (s0 11 x2.toNatClampNeg) 6 (
 cj_gd (s0 11 x2.toNatClampNeg) 6 (
 cj_lt (cj_up2 s12 7 ((s0 11 x2.toNatClampNeg).toNatClampNeg) ((s12 7 (s0 11 x2.toNatClampNeg).toNatClampNeg) + x8)) (fun (s13 : cj_S) =>
 cj_lt (cj_up2 s13 0 9 ((s13 0 9) + x8)) (fun (s14 : cj_S) =>
 cj_lt (cj_up2 s14 0 8 ((s14 0 8) + 1)) (fun (s15 : cj_S) =>
 cj_bd (f_X6_removeAt s15 x2) (fun (s17 : cj_S) =>
 some (x8, s17))))))))))))))
def f_X3_watch_L40 (K : cj_S → Option (cj_S)) (y15 : Int32) (y16 : Int32) (y17 : Int32) (y18 : Int32) (y19 : Int32) (y20 : Int32) : Nat → Int32 → cj_S → Option (cj_S)
  | 0, _, _ => none
  | n + 1, x21, s22 => if 12 ≤ x21 then K s22 else
 cj_bd (f_X8_hasBit y20 x21) (fun (x25 : Int32) =>
 if x25 = 0 then f_X3_watch_L40 K y15 y16 y17 y18 y19 y20 n (x21 + 1) s22 else
 cj_gd ((y15 * 12) + x21) 72 (
 cj_lt (cj_up2 s22 8 (((y15 * 12) + x21).toNatClampNeg) (y16 + y19)) (fun (s26 : cj_S) =>
 f_X3_watch_L40 K y15 y16 y17 y18 y19 y20 n (x21 + 1) s26)))
def f_X3_watch_L17 (y5 : Int32) (y6 : Int32) (y7 : Int32) (y8 : Int32) : Nat → Int32 → cj_S → Option (cj_S)
  | 0, _, _ => none
  | n + 1, x9, s10 => if y7 ≤ x9 then some s10 else
 cj_bd (f_X3_angleAfter s10 y5 x9) (fun (x12 : Int32) =>
 cj_bd (f_X3_features x12 y8) (fun (x14 : Int32) =>
 f_X3_watch_L40 (fun (s27 : cj_S) =>
 f_X3_watch_L17 y5 y6 y7 y8 n (x9 + 1) s27) y5 y6 y7 y8 x9 x14 cj_FU 0 s10))
def f_X3_watch (s0 : cj_S) (a1 : Int32) (a2 : Int32) (a3 : Int32) : Option (cj_S) :=
  cj_bd (f_X3_seenAside s0 a1) (fun (x2 : Int32) =>
 cj_bd (f_J9_max_7cf53 0 (a3 - 12)) (fun (x4 : Int32) =>
 f_X3_watch_L17 a1 a2 a3 x2 cj_FU x4 s0))
def f_X3_turnAll_L2 (y1 : Int32) : Nat → Int32 → cj_S → Option (cj_S)
  | 0, _, _ => none
  | n + 1, x2, s3 => if (s3 1 0) ≤ x2 then some s3 else
 cj_bd (f_X3_angleAfter s3 x2 y1) (fun (x5 : Int32) =>
 cj_gd x2 6 (
 cj_lt (cj_up2 s3 4 x2.toNatClampNeg x5) (fun (s6 : cj_S) =>
 f_X3_turnAll_L2 y1 n (x2 + 1) s6)))
def f_X3_turnAll (s0 : cj_S) (a1 : Int32) : Option (cj_S) :=
  f_X3_turnAll_L2 a1 cj_FU 0 s0
def f_X0_advance (s0 : cj_S) (a1 : Int32) : Option (cj_S) :=
  cj_lt (fun (s2 : cj_S) => cj_bd (f_X3_turnAll s2 a1) (fun (s4 : cj_S) =>
 cj_lt (cj_up2 s4 0 5 ((s4 0 5) + a1)) (fun (s5 : cj_S) =>
 cj_lt (cj_up2 s5 0 7 0) (fun (s6 : cj_S) =>
 some s6)))) (fun K1 =>
 if (s0 0 6) = ((-1)) then K1 s0 else
 cj_bd (f_X3_watch s0 (s0 0 6) (s0 0 5) a1) (fun (s8 : cj_S) =>
 K1 s8))
def f_X0_passMinutes_L38 (s7 : cj_S) : Nat → Int32 → Int32 → Option (Int32 × cj_S)
  | 0, _, _ => none
  | n + 1, x5, x6 => if (s7 1 0) ≤ x6 then some (x5, s7) else
 cj_bd (f_X0_remembered s7 x6) (fun (x9 : Int32) =>
 cj_bd (f_J6_bitCount_0f7a4 x9) (fun (x11 : Int32) =>
 f_X0_passMinutes_L38 s7 n (x5 + x11) (x6 + 1)))
def f_X0_passMinutes (s0 : cj_S) (a1 : Int32) : Option (Int32 × cj_S) :=
  cj_bd (f_X8_isWithin a1 1 300) (fun (x2 : Int32) =>
 if x2 = 0 then some ((-1000001), s0) else
 if ((s0 0 5) + a1) ≤ 9999 then cj_bd (f_X0_advance s0 a1) (fun (s4 : cj_S) =>
 f_X0_passMinutes_L38 s4 cj_FU 0 0) else
 some ((-1000003), s0))
def f_X0_changeSetting (s0 : cj_S) (a1 : Int32) (a2 : Int32) : Option (Int32 × cj_S) :=
  cj_lt (fun (u : Unit) => if a1 = 1 then cj_bd (f_X8_isWithin a2 0 60) (fun (x3 : Int32) =>
 if x3 = 0 then some ((-1000001), s0) else
 cj_lt (cj_up2 s0 0 4 a2) (fun (s4 : cj_S) =>
 some (s0 0 4, s4))) else
 some ((-1000001), s0)) (fun K1 =>
 if a1 = 0 then cj_bd (f_X8_isWithin a2 1 200) (fun (x6 : Int32) =>
 if x6 = 0 then K1 () else
 cj_lt (cj_up2 s0 0 3 a2) (fun (s7 : cj_S) =>
 some (s0 0 3, s7))) else
 K1 ())
def f_X0_perform (s0 : cj_S) (a1 : Int32) (a2 : Int32) (a3 : Int32) : Option (Int32 × cj_S) :=
  if a1 = 98 then cj_bp (f_X0_beginSheet s0 a2) (fun (x2 : Int32) (s3 : cj_S) =>
 some (x2, s3)) else
 if a1 = 100 then cj_bp (f_X0_drawFeature s0 a2 a3) (fun (x6 : Int32) (s7 : cj_S) =>
 some (x6, s7)) else
 if a1 = 108 then cj_bp (f_X0_lookAt s0 a2) (fun (x10 : Int32) (s11 : cj_S) =>
 some (x10, s11)) else
 if a1 = 109 then cj_bp (f_X0_passMinutes s0 a2) (fun (x14 : Int32) (s15 : cj_S) =>
 some (x14, s15)) else
 if a1 = 115 then cj_bp (f_X0_sellSheet s0 a2 a3) (fun (x18 : Int32) (s19 : cj_S) =>
 some (x18, s19)) else
 if a1 = 118 then cj_bp (f_X0_tellVerdict s0 a2) (fun (x22 : Int32) (s23 : cj_S) =>
 some (x22, s23)) else
 some ((-1000001), s0)
def f_X0_findBestSale_L20 (K : cj_Mm → Option (Int32 × cj_Mm)) (g : Nat) (y5 : Int32) : Nat → Int32 → cj_Mm → Option (Int32 × cj_Mm)
  | 0, _, _ => none
  | n + 1, x6, s7 => if (s7 g 14 0) ≤ x6 then K s7 else
 cj_bd (f_X0_priceAt (s7 g) y5 x6) (fun (x10 : Int32) =>
 if x10 ≤ (s7 4 0 2) then f_X0_findBestSale_L20 K g y5 n (x6 + 1) s7 else
 cj_bd (f_X0_canSell (s7 g) y5 x6) (fun (x12 : Int32) =>
 if x12 = 0 then f_X0_findBestSale_L20 K g y5 n (x6 + 1) s7 else
 cj_gd y5 10 (
 cj_lt (cj_upG s7 4 (cj_up2 (s7 4) 0 0 (s7 g 10 y5.toNatClampNeg))) (fun (s13 : cj_Mm) =>
 cj_lt (cj_upG s13 4 (cj_up2 (s13 4) 0 1 x6)) (fun (s14 : cj_Mm) =>
 cj_lt (cj_upG s14 4 (cj_up2 (s14 4) 0 2 x10)) (fun (s15 : cj_Mm) =>
 f_X0_findBestSale_L20 K g y5 n (x6 + 1) s15))))))
def f_X0_findBestSale_L7 (K : cj_Mm → Option (Int32 × cj_Mm)) (g : Nat) : Nat → Int32 → cj_Mm → Option (Int32 × cj_Mm)
  | 0, _, _ => none
  | n + 1, x2, s3 => if (s3 g 9 0) ≤ x2 then K s3 else
 f_X0_findBestSale_L20 (fun (s16 : cj_Mm) =>
 f_X0_findBestSale_L7 K g n (x2 + 1) s16) g x2 cj_FU 0 s3
def f_X0_findBestSale (g : Nat) (m0 : cj_Mm) : Option (Int32 × cj_Mm) :=
  cj_lt (cj_upG m0 4 (cj_up2 (m0 4) 0 2 ((-1)))) (fun (s1 : cj_Mm) =>
 f_X0_findBestSale_L7 (fun (s17 : cj_Mm) =>
 if (s17 4 0 2) = ((-1)) then some (0, s17) else
 some (1, s17)) g cj_FU 0 s1)
def f_X0_tellOfPerson (s0 : cj_S) (a1 : Int32) (a2 : Int32) : Option (Int32) :=
  cj_bd (f_X3_has s0 a1) (fun (x2 : Int32) =>
 if x2 = 0 then some ((-1000001)) else
 if a2 = 0 then cj_gd a1 6 (
 some (s0 2 a1.toNatClampNeg)) else
 if a2 = 1 then cj_gd a1 6 (
 some (s0 3 a1.toNatClampNeg)) else
 if a2 = 2 then cj_gd a1 6 (
 some (s0 4 a1.toNatClampNeg)) else
 if a2 = 3 then cj_gd a1 6 (
 some (s0 5 a1.toNatClampNeg)) else
 if a2 = 4 then cj_bd (f_X3_seenAfter s0 a1 0) (fun (x8 : Int32) =>
 some x8) else
 if a2 = 5 then cj_bd (f_X0_remembered s0 a1) (fun (x11 : Int32) =>
 some x11) else
 if a2 = 6 then cj_bd (f_X0_hasVerdict s0 a1) (fun (x14 : Int32) =>
 if x14 = 0 then some 0 else
 some 1) else
 if a2 = 7 then cj_bd (f_X6_ofPerson s0 a1) (fun (x17 : Int32) =>
 some x17) else
 if a2 = 8 then cj_gd a1 6 (
 some (s0 7 a1.toNatClampNeg)) else
 some ((-1000001)))
def f_X0_tellOfSheet (s0 : cj_S) (a1 : Int32) (a2 : Int32) : Option (Int32) :=
  cj_bd (f_X6_placeOf s0 a1) (fun (x2 : Int32) =>
 if x2 = ((-1)) then some ((-1000001)) else
 if a2 = 0 then cj_gd x2 10 (
 some (s0 11 x2.toNatClampNeg)) else
 if a2 = 1 then cj_gd x2 10 (
 some (s0 12 x2.toNatClampNeg)) else
 if a2 = 2 then cj_gd x2 10 (
 cj_bd (f_J6_bitCount_0f7a4 (s0 12 x2.toNatClampNeg)) (fun (x6 : Int32) =>
 some x6)) else
 if a2 = 3 then cj_bd (f_X0_isDry s0 x2) (fun (x9 : Int32) =>
 if x9 = 0 then some 0 else
 some 1) else
 if a2 = 4 then cj_bd (f_X0_wetFor s0 x2) (fun (x12 : Int32) =>
 some x12) else
 if a2 = 5 then cj_bd (f_X0_drawable s0 x2) (fun (x15 : Int32) =>
 some x15) else
 some ((-1000001)))
def f_X0_tellOfPaper (s0 : cj_S) (a1 : Int32) (a2 : Int32) : Option (Int32) :=
  cj_bd (f_X2_has s0 a1) (fun (x2 : Int32) =>
 if x2 = 0 then some ((-1000001)) else
 if a2 = 0 then cj_gd a1 4 (
 some (s0 15 a1.toNatClampNeg)) else
 if a2 = 1 then cj_gd a1 4 (
 some (s0 16 a1.toNatClampNeg)) else
 if a2 = 2 then cj_gd a1 4 (
 some (s0 17 a1.toNatClampNeg)) else
 if a2 = 3 then cj_gd a1 4 (
 some (s0 18 a1.toNatClampNeg)) else
 if a2 = 4 then cj_bd (f_X0_day s0) (fun (x8 : Int32) =>
 cj_bd (f_X2_peopleBoughtOn s0 a1 x8) (fun (x10 : Int32) =>
 some x10)) else
 some ((-1000001)))
def f_X0_tellCount (s0 : cj_S) (a1 : Int32) : Option (Int32) :=
  if a1 = 0 then some (s0 1 0) else
 if a1 = 1 then some (s0 14 0) else
 if a1 = 2 then some (s0 9 0) else
 if a1 = 3 then some (s0 9 1) else
 if a1 = 4 then some (s0 0 5) else
 if a1 = 5 then cj_bd (f_X0_day s0) (fun (x7 : Int32) =>
 some x7) else
 if a1 = 6 then cj_bd (f_X0_hour s0) (fun (x10 : Int32) =>
 some x10) else
 if a1 = 7 then if (s0 0 6) = ((-1)) then some ((-1000004)) else
 some (s0 0 6) else
 if a1 = 8 then some (3 - (s0 0 7)) else
 if a1 = 9 then some (s0 0 8) else
 if a1 = 10 then some (s0 0 9) else
 if a1 = 20 then some (s0 0 3) else
 if a1 = 21 then some (s0 0 4) else
 some ((-1000001))
def f_X1_prepare (m0 : cj_Mm) : Option (cj_Mm) :=
  cj_lt ((m0 1 0 1) + (m0 1 0 2)) (fun (x1 : Int32) =>
 cj_lt (x1 - x1 / 5 * 5) (fun (x2 : Int32) =>
 cj_gd x2 5 (
 cj_bd (f_X0_copyFrom (7 + x2.toNatClampNeg) 5 m0) (fun (s4 : cj_Mm) =>
 some s4))))
def f_X1_settle (s0 : cj_S) (a1 : Int32) : Option (Int32 × cj_S) :=
  cj_lt (fun (u : Unit) => if a1 < 0 then some (a1, s0) else
 cj_lt ((s0 0 1) + 1) (fun (x2 : Int32) =>
 cj_lt (cj_up2 s0 0 1 (x2 - x2 / 5 * 5)) (fun (s3 : cj_S) =>
 some (a1, s3)))) (fun K1 =>
 if a1 < 0 then K1 () else
 if 4 ≤ (s0 0 2) then K1 () else
 cj_lt (cj_up2 s0 0 2 ((s0 0 2) + 1)) (fun (s4 : cj_S) =>
 some (a1, s4)))
def f_X1_restore (m0 : cj_Mm) : Option (Int32 × cj_Mm) :=
  if 0 < (m0 1 0 2) then cj_lt (cj_upG m0 1 (cj_up2 (m0 1) 0 2 ((m0 1 0 2) - 1))) (fun (s1 : cj_Mm) =>
 cj_lt ((s1 1 0 1) + (s1 1 0 2)) (fun (x2 : Int32) =>
 cj_lt (x2 - x2 / 5 * 5) (fun (x3 : Int32) =>
 cj_gd x3 5 (
 cj_bd (f_X0_copyFrom 5 (7 + x3.toNatClampNeg) s1) (fun (s5 : cj_Mm) =>
 some (s5 1 0 2, s5)))))) else
 some ((-1000002), m0)
def f_X7_next (s0 : cj_S) : Option (Int32) :=
  if (s0 0 2) < 0 then some 32 else
 if (s0 0 1) ≤ (s0 0 2) then some 32 else
 cj_gd (s0 0 2) 60 (
 cj_gp (0 ≤ (s0 1 (s0 0 2).toNatClampNeg) ∧ (s0 1 (s0 0 2).toNatClampNeg) ≤ 65535) (
 some (s0 1 (s0 0 2).toNatClampNeg)))
def f_X7_isOneNumber (a0 : Int32) : Option (Int32) :=
  if a0 = 108 then some 1 else
 if a0 = 98 then some 1 else
 if a0 = 118 then some 1 else
 if a0 = 109 then some 1 else
 some 0
def f_X7_isTwoNumbers (a0 : Int32) : Option (Int32) :=
  if a0 = 100 then some 1 else
 if a0 = 115 then some 1 else
 some 0
def f_X7_readNumber_L4 : Nat → Int32 → Int32 → cj_S → Option (Int32 × cj_S)
  | 0, _, _, _ => none
  | n + 1, x1, x2, s3 => if 3 ≤ x2 then some (x1, s3) else
 cj_bd (f_X7_next s3) (fun (x5 : Int32) =>
 cj_bd (f_X8_isWithin x5 48 57) (fun (x7 : Int32) =>
 if x7 = 0 then some (x1, s3) else
 cj_bd (f_J9_max_7cf53 x1 0) (fun (x9 : Int32) =>
 cj_bd (f_X7_next s3) (fun (x11 : Int32) =>
 cj_lt ((x9 * 10) + (x11 - 48)) (fun (x12 : Int32) =>
 cj_lt (cj_up2 s3 0 2 ((s3 0 2) + 1)) (fun (s13 : cj_S) =>
 f_X7_readNumber_L4 n x12 (x2 + 1) s13))))))
def f_X7_readNumber (s0 : cj_S) : Option (Int32 × cj_S) :=
  f_X7_readNumber_L4 cj_FU ((-1)) 0 s0
def f_X7_readOrder (s0 : cj_S) (a1 : Int32) : Option (Int32 × cj_S) :=
  cj_lt (cj_up2 s0 0 2 a1) (fun (s1 : cj_S) =>
 cj_bd (f_X7_next s1) (fun (x3 : Int32) =>
 cj_gp (0 ≤ x3 ∧ x3 ≤ 65535) (
 cj_lt (cj_up2 s1 0 3 x3) (fun (s4 : cj_S) =>
 cj_bd (f_X7_isOneNumber (s4 0 3)) (fun (x6 : Int32) =>
 cj_lt (fun (u : Unit) => cj_lt (cj_up2 s4 0 2 ((s4 0 2) + 1)) (fun (s8 : cj_S) =>
 cj_bp (f_X7_readNumber s8) (fun (x10 : Int32) (s11 : cj_S) =>
 cj_lt (cj_up2 s11 0 4 x10) (fun (s12 : cj_S) =>
 cj_lt (cj_up2 s12 0 5 ((-1))) (fun (s13 : cj_S) =>
 if (s13 0 4) = ((-1)) then some (0, s13) else
 cj_bd (f_X7_isTwoNumbers (s13 0 3)) (fun (x15 : Int32) =>
 cj_lt (fun (s17 : cj_S) => cj_bd (f_X7_next s17) (fun (x19 : Int32) =>
 if x19 = 59 then cj_lt (cj_up2 s17 0 2 ((s17 0 2) + 1)) (fun (s20 : cj_S) =>
 some (1, s20)) else
 some (0, s17))) (fun K16 =>
 if x15 = 0 then K16 s13 else
 cj_bd (f_X7_next s13) (fun (x22 : Int32) =>
 if x22 = 44 then cj_lt (cj_up2 s13 0 2 ((s13 0 2) + 1)) (fun (s23 : cj_S) =>
 cj_bp (f_X7_readNumber s23) (fun (x25 : Int32) (s26 : cj_S) =>
 cj_lt (cj_up2 s26 0 5 x25) (fun (s27 : cj_S) =>
 if (s27 0 5) = ((-1)) then some (0, s27) else
 K16 s27))) else
 some (0, s13))))))))) (fun K7 =>
 if x6 = 0 then cj_bd (f_X7_isTwoNumbers (s4 0 3)) (fun (x29 : Int32) =>
 if x29 = 0 then some (0, s4) else
 K7 ()) else
 K7 ()))))))
def f_X4_fail (s0 : cj_S) (a1 : Int32) (a2 : Int32) (a3 : Int32) : Option (cj_S) :=
  cj_lt (cj_up2 s0 0 1 a1) (fun (s1 : cj_S) =>
 cj_lt (cj_up2 s1 0 2 a2) (fun (s2 : cj_S) =>
 cj_lt (cj_up2 s2 0 3 a3) (fun (s3 : cj_S) =>
 some s3)))
def f_X4_run_L12 (K : Int32 → Int32 → cj_Mm → Option (cj_Mm)) : Nat → Int32 → cj_Mm → Option (cj_Mm)
  | 0, _, _ => none
  | n + 1, x3, s4 => if 60 ≤ (s4 3 0 0) then some s4 else
 if (s4 2 0 1) ≤ x3 then some s4 else
 cj_bp (f_X7_readOrder (s4 2) x3) (fun (x9 : Int32) (s10 : cj_S) =>
 cj_lt (cj_upG s4 2 s10) (fun (s11 : cj_Mm) =>
 if x9 = 0 then cj_bd (f_X4_fail (s11 3) x3 1 ((s11 2 0 2) - x3)) (fun (s18 : cj_S) =>
 cj_lt (cj_upG s11 3 s18) (fun (s19 : cj_Mm) =>
 some s19)) else
 cj_bp (f_X0_perform (s11 6) (s11 2 0 3) (s11 2 0 4) (s11 2 0 5)) (fun (x13 : Int32) (s14 : cj_S) =>
 cj_lt (cj_upG s11 6 s14) (fun (s15 : cj_Mm) =>
 if 0 ≤ x13 then cj_lt (cj_upG s15 3 (cj_up2 (s15 3) 0 0 ((s15 3 0 0) + 1))) (fun (s16 : cj_Mm) =>
 f_X4_run_L12 K n (s15 2 0 2) s16) else
 K x3 x13 s15))))
def f_X4_run (m0 : cj_Mm) : Option (cj_Mm) :=
  cj_lt (cj_upG m0 3 (cj_up2 (m0 3) 0 0 0)) (fun (s1 : cj_Mm) =>
 cj_lt (cj_upG s1 3 (cj_up2 (s1 3) 0 1 ((-1)))) (fun (s2 : cj_Mm) =>
 f_X4_run_L12 (fun (x20 : Int32) (x21 : Int32) (s22 : cj_Mm) =>
 cj_bd (f_X4_fail (s22 3) x20 2 x21) (fun (s24 : cj_S) =>
 cj_lt (cj_upG s22 3 s24) (fun (s25 : cj_Mm) =>
 some s25))) cj_FU 0 s2))
def f_X7_append (s0 : cj_S) (a1 : Int32) : Option (Int32 × cj_S) :=
  cj_bd (f_X8_isWithin a1 32 126) (fun (x2 : Int32) =>
 if x2 = 0 then some ((-1000001), s0) else
 if (s0 0 1) < 60 then cj_gd (s0 0 1) 60 (
 cj_lt (cj_up2 s0 1 ((s0 0 1).toNatClampNeg) (vp_nar .char (cj_ch a1))) (fun (s3 : cj_S) =>
 cj_lt (cj_up2 s3 0 1 ((s3 0 1) + 1)) (fun (s4 : cj_S) =>
 some (s4 0 1, s4)))) else
 some ((-1000003), s0))
def f_X8_person (m0 : cj_Mm) (a1 : Int32) (a2 : Int32) : Option (Int32 × cj_Mm) :=
  cj_bd (f_X1_prepare m0) (fun (s2 : cj_Mm) =>
 cj_bp (f_X0_addPerson (s2 5) a1 a2) (fun (x4 : Int32) (s5 : cj_S) =>
 cj_lt (cj_upG s2 5 s5) (fun (s6 : cj_Mm) =>
 cj_bp (f_X1_settle (s6 1) x4) (fun (x8 : Int32) (s9 : cj_S) =>
 cj_lt (cj_upG s6 1 s9) (fun (s10 : cj_Mm) =>
 some (x8, s10))))))
def f_X8_turn (m0 : cj_Mm) (a1 : Int32) (a2 : Int32) (a3 : Int32) : Option (Int32 × cj_Mm) :=
  cj_bd (f_X1_prepare m0) (fun (s2 : cj_Mm) =>
 cj_bp (f_X0_turnPerson (s2 5) a1 a2 a3) (fun (x4 : Int32) (s5 : cj_S) =>
 cj_lt (cj_upG s2 5 s5) (fun (s6 : cj_Mm) =>
 cj_bp (f_X1_settle (s6 1) x4) (fun (x8 : Int32) (s9 : cj_S) =>
 cj_lt (cj_upG s6 1 s9) (fun (s10 : cj_Mm) =>
 some (x8, s10))))))
def f_X8_paper (m0 : cj_Mm) (a1 : Int32) (a2 : Int32) : Option (Int32 × cj_Mm) :=
  cj_bd (f_X1_prepare m0) (fun (s2 : cj_Mm) =>
 cj_bp (f_X0_addPaper (s2 5) a1 a2) (fun (x4 : Int32) (s5 : cj_S) =>
 cj_lt (cj_upG s2 5 s5) (fun (s6 : cj_Mm) =>
 cj_bp (f_X1_settle (s6 1) x4) (fun (x8 : Int32) (s9 : cj_S) =>
 cj_lt (cj_upG s6 1 s9) (fun (s10 : cj_Mm) =>
 some (x8, s10))))))
def f_X8_look (m0 : cj_Mm) (a1 : Int32) : Option (Int32 × cj_Mm) :=
  cj_bd (f_X1_prepare m0) (fun (s2 : cj_Mm) =>
 cj_bp (f_X0_lookAt (s2 5) a1) (fun (x4 : Int32) (s5 : cj_S) =>
 cj_lt (cj_upG s2 5 s5) (fun (s6 : cj_Mm) =>
 cj_bp (f_X1_settle (s6 1) x4) (fun (x8 : Int32) (s9 : cj_S) =>
 cj_lt (cj_upG s6 1 s9) (fun (s10 : cj_Mm) =>
 some (x8, s10))))))
def f_X8_sheet (m0 : cj_Mm) (a1 : Int32) : Option (Int32 × cj_Mm) :=
  cj_bd (f_X1_prepare m0) (fun (s2 : cj_Mm) =>
 cj_bp (f_X0_beginSheet (s2 5) a1) (fun (x4 : Int32) (s5 : cj_S) =>
 cj_lt (cj_upG s2 5 s5) (fun (s6 : cj_Mm) =>
 cj_bp (f_X1_settle (s6 1) x4) (fun (x8 : Int32) (s9 : cj_S) =>
 cj_lt (cj_upG s6 1 s9) (fun (s10 : cj_Mm) =>
 some (x8, s10))))))
def f_X8_draw (m0 : cj_Mm) (a1 : Int32) (a2 : Int32) : Option (Int32 × cj_Mm) :=
  cj_bd (f_X1_prepare m0) (fun (s2 : cj_Mm) =>
 cj_bp (f_X0_drawFeature (s2 5) a1 a2) (fun (x4 : Int32) (s5 : cj_S) =>
 cj_lt (cj_upG s2 5 s5) (fun (s6 : cj_Mm) =>
 cj_bp (f_X1_settle (s6 1) x4) (fun (x8 : Int32) (s9 : cj_S) =>
 cj_lt (cj_upG s6 1 s9) (fun (s10 : cj_Mm) =>
 some (x8, s10))))))
def f_X8_tear (m0 : cj_Mm) (a1 : Int32) : Option (Int32 × cj_Mm) :=
  cj_bd (f_X1_prepare m0) (fun (s2 : cj_Mm) =>
 cj_bp (f_X0_tearOut (s2 5) a1) (fun (x4 : Int32) (s5 : cj_S) =>
 cj_lt (cj_upG s2 5 s5) (fun (s6 : cj_Mm) =>
 cj_bp (f_X1_settle (s6 1) x4) (fun (x8 : Int32) (s9 : cj_S) =>
 cj_lt (cj_upG s6 1 s9) (fun (s10 : cj_Mm) =>
 some (x8, s10))))))
def f_X8_verdict (m0 : cj_Mm) (a1 : Int32) : Option (Int32 × cj_Mm) :=
  cj_bd (f_X1_prepare m0) (fun (s2 : cj_Mm) =>
 cj_bp (f_X0_tellVerdict (s2 5) a1) (fun (x4 : Int32) (s5 : cj_S) =>
 cj_lt (cj_upG s2 5 s5) (fun (s6 : cj_Mm) =>
 cj_bp (f_X1_settle (s6 1) x4) (fun (x8 : Int32) (s9 : cj_S) =>
 cj_lt (cj_upG s6 1 s9) (fun (s10 : cj_Mm) =>
 some (x8, s10))))))
def f_X8_sell (m0 : cj_Mm) (a1 : Int32) (a2 : Int32) : Option (Int32 × cj_Mm) :=
  cj_bd (f_X1_prepare m0) (fun (s2 : cj_Mm) =>
 cj_bp (f_X0_sellSheet (s2 5) a1 a2) (fun (x4 : Int32) (s5 : cj_S) =>
 cj_lt (cj_upG s2 5 s5) (fun (s6 : cj_Mm) =>
 cj_bp (f_X1_settle (s6 1) x4) (fun (x8 : Int32) (s9 : cj_S) =>
 cj_lt (cj_upG s6 1 s9) (fun (s10 : cj_Mm) =>
 some (x8, s10))))))
def f_X8_pass (m0 : cj_Mm) (a1 : Int32) : Option (Int32 × cj_Mm) :=
  cj_bd (f_X1_prepare m0) (fun (s2 : cj_Mm) =>
 cj_bp (f_X0_passMinutes (s2 5) a1) (fun (x4 : Int32) (s5 : cj_S) =>
 cj_lt (cj_upG s2 5 s5) (fun (s6 : cj_Mm) =>
 cj_bp (f_X1_settle (s6 1) x4) (fun (x8 : Int32) (s9 : cj_S) =>
 cj_lt (cj_upG s6 1 s9) (fun (s10 : cj_Mm) =>
 some (x8, s10))))))
def f_X8_set (m0 : cj_Mm) (a1 : Int32) (a2 : Int32) : Option (Int32 × cj_Mm) :=
  cj_bd (f_X1_prepare m0) (fun (s2 : cj_Mm) =>
 cj_bp (f_X0_changeSetting (s2 5) a1 a2) (fun (x4 : Int32) (s5 : cj_S) =>
 cj_lt (cj_upG s2 5 s5) (fun (s6 : cj_Mm) =>
 cj_bp (f_X1_settle (s6 1) x4) (fun (x8 : Int32) (s9 : cj_S) =>
 cj_lt (cj_upG s6 1 s9) (fun (s10 : cj_Mm) =>
 some (x8, s10))))))
def f_X8_personOf (m0 : cj_Mm) (a1 : Int32) (a2 : Int32) : Option (Int32) :=
  cj_bd (f_X0_tellOfPerson (m0 5) a1 a2) (fun (x2 : Int32) =>
 some x2)
def f_X8_sheetOf (m0 : cj_Mm) (a1 : Int32) (a2 : Int32) : Option (Int32) :=
  cj_bd (f_X0_tellOfSheet (m0 5) a1 a2) (fun (x2 : Int32) =>
 some x2)
def f_X8_paperOf (m0 : cj_Mm) (a1 : Int32) (a2 : Int32) : Option (Int32) :=
  cj_bd (f_X0_tellOfPaper (m0 5) a1 a2) (fun (x2 : Int32) =>
 some x2)
def f_X8_price (m0 : cj_Mm) (a1 : Int32) (a2 : Int32) : Option (Int32) :=
  cj_bd (f_X6_placeOf (m0 5) a1) (fun (x2 : Int32) =>
 if x2 = ((-1)) then some ((-1000001)) else
 cj_bd (f_X2_has (m0 5) a2) (fun (x4 : Int32) =>
 if x4 = 0 then some ((-1000001)) else
 cj_bd (f_X0_priceAt (m0 5) x2 a2) (fun (x6 : Int32) =>
 some x6)))
def f_X8_number (m0 : cj_Mm) (a1 : Int32) : Option (Int32) :=
  if 0 ≤ a1 then if (m0 5 9 0) ≤ a1 then some ((-1000004)) else
 cj_gd a1 10 (
 some (m0 5 10 a1.toNatClampNeg)) else
 some ((-1000001))
def f_X8_seenIn_L29 (y5 : Int32) (y6 : Int32) (s8 : cj_Mm) : Nat → Int32 → Option (Int32)
  | 0, _ => none
  | n + 1, x7 => if 12 ≤ x7 then some ((-1000004)) else
 cj_bd (f_X3_seenAfter (s8 5) y5 x7) (fun (x10 : Int32) =>
 cj_bd (f_X8_hasBit x10 y6) (fun (x12 : Int32) =>
 if x12 = 0 then f_X8_seenIn_L29 y5 y6 s8 n (x7 + 1) else
 some x7))
def f_X8_seenIn (m0 : cj_Mm) (a1 : Int32) (a2 : Int32) : Option (Int32) :=
  cj_bd (f_X3_has (m0 5) a1) (fun (x2 : Int32) =>
 if x2 = 0 then some ((-1000001)) else
 cj_bd (f_X8_isWithin a2 0 11) (fun (x4 : Int32) =>
 if x4 = 0 then some ((-1000001)) else
 f_X8_seenIn_L29 a1 a2 m0 cj_FU 0))
def f_X8_would (m0 : cj_Mm) (a1 : Int32) (a2 : Int32) : Option (Int32 × cj_Mm) :=
  cj_bd (f_X3_has (m0 5) a1) (fun (x2 : Int32) =>
 if x2 = 0 then some ((-1000001), m0) else
 cj_bd (f_X8_isWithin a2 0 300) (fun (x4 : Int32) =>
 if x4 = 0 then some ((-1000001), m0) else
 cj_bd (f_X0_copyFrom 6 5 m0) (fun (s6 : cj_Mm) =>
 cj_lt (cj_upG s6 6 (cj_up2 (s6 6) 0 6 a1)) (fun (s7 : cj_Mm) =>
 cj_bd (f_X0_advance (s7 6) a2) (fun (s9 : cj_S) =>
 cj_lt (cj_upG s7 6 s9) (fun (s10 : cj_Mm) =>
 cj_bd (f_X0_remembered (s10 6) a1) (fun (x12 : Int32) =>
 cj_bd (f_J6_bitCount_0f7a4 x12) (fun (x14 : Int32) =>
 some (x14, s10)))))))))
def f_X8_best (m0 : cj_Mm) (a1 : Int32) : Option (Int32 × cj_Mm) :=
  cj_bd (f_X8_isWithin a1 0 2) (fun (x2 : Int32) =>
 if x2 = 0 then some ((-1000001), m0) else
 cj_bp (f_X0_findBestSale 5 m0) (fun (x4 : Int32) (s5 : cj_Mm) =>
 if x4 = 0 then some ((-1000004), s5) else
 if a1 = 0 then some (s5 4 0 0, s5) else
 if a1 = 1 then some (s5 4 0 1, s5) else
 some (s5 4 0 2, s5)))
def f_X8_sellAll_L15 : Nat → Int32 → Int32 → cj_Mm → Option (Int32 × cj_Mm)
  | 0, _, _, _ => none
  | n + 1, x3, x4, s5 => if 10 ≤ x4 then some (x3, s5) else
 cj_bp (f_X0_findBestSale 6 s5) (fun (x7 : Int32) (s8 : cj_Mm) =>
 if x7 = 0 then some (x3, s8) else
 cj_bp (f_X0_sellSheet (s8 6) (s8 4 0 0) (s8 4 0 1)) (fun (x10 : Int32) (s11 : cj_S) =>
 cj_lt (cj_upG s8 6 s11) (fun (s12 : cj_Mm) =>
 f_X8_sellAll_L15 n (x3 + x10) (x4 + 1) s12)))
def f_X8_sellAll (m0 : cj_Mm) : Option (Int32 × cj_Mm) :=
  cj_bd (f_X0_copyFrom 6 5 m0) (fun (s2 : cj_Mm) =>
 f_X8_sellAll_L15 cj_FU 0 0 s2)
def f_X8_bitsOf_L15 (K : UInt32 → Int32 → Option (Int32)) : Nat → UInt32 → Int32 → Int32 → Option (Int32)
  | 0, _, _, _ => none
  | n + 1, x1, x2, x3 => if 127 ≤ x3 then K x1 x2 else
 if (Op.cmpValue (FP.fcmp x1 FP.fconst2) .l) < 0 then K x1 x2 else
 cj_gp (FP.fdiv x1 FP.fconst2 &&& 0x7fffffff ≤ 0x7f800000) (
 cj_lt (FP.fdiv x1 FP.fconst2) (fun (x6 : UInt32) =>
 f_X8_bitsOf_L15 K n x6 (x2 + 1) (x3 + 1)))
def f_X8_bitsOf_L42 (K : UInt32 → Int32 → Option (Int32)) : Nat → UInt32 → Int32 → Int32 → Option (Int32)
  | 0, _, _, _ => none
  | n + 1, x9, x10, x11 => if 126 ≤ x11 then K x9 x10 else
 if 0 ≤ (Op.cmpValue (FP.fcmp x9 FP.fconst1) .g) then K x9 x10 else
 cj_gp (FP.fmul x9 FP.fconst2 &&& 0x7fffffff ≤ 0x7f800000) (
 cj_lt (FP.fmul x9 FP.fconst2) (fun (x14 : UInt32) =>
 f_X8_bitsOf_L42 K n x14 (x10 + (-1)) (x11 + 1)))
def f_X8_bitsOf (a0 : UInt32) : Option (Int32) :=
  if 0 < (Op.cmpValue (FP.fcmp a0 FP.fconst0) .g) then f_X8_bitsOf_L15 (fun (x7 : UInt32) (x8 : Int32) =>
 f_X8_bitsOf_L42 (fun (x15 : UInt32) (x16 : Int32) =>
 cj_gp (FP.fsub x15 FP.fconst1 &&& 0x7fffffff ≤ 0x7f800000) (
 cj_gp (FP.fmul (FP.fsub x15 FP.fconst1) 1258291200 &&& 0x7fffffff ≤ 0x7f800000) (
 some ((x16 <<< (23 &&& 31)) + (FP.f2i (FP.fmul (FP.fsub x15 FP.fconst1) 1258291200)))))) cj_FU x7 x8 0) cj_FU a0 127 0 else
 some 0
def f_X8_mean (m0 : cj_Mm) : Option (Int32) :=
  if 0 < (m0 5 0 8) then cj_gp (FP.fdiv (FP.i2f (m0 5 0 9)) (FP.i2f (m0 5 0 8)) &&& 0x7fffffff ≤ 0x7f800000) (
 cj_bd (f_X8_bitsOf (FP.fdiv (FP.i2f (m0 5 0 9)) (FP.i2f (m0 5 0 8)))) (fun (x2 : Int32) =>
 some x2)) else
 some ((-1000004))
def f_X8_count (m0 : cj_Mm) (a1 : Int32) : Option (Int32) :=
  if a1 = 11 then some (m0 1 0 2) else
 if a1 = 12 then some (m0 2 0 1) else
 cj_bd (f_X0_tellCount (m0 5) a1) (fun (x4 : Int32) =>
 some x4)
def f_X8_undo (m0 : cj_Mm) : Option (Int32 × cj_Mm) :=
  cj_bp (f_X1_restore m0) (fun (x2 : Int32) (s3 : cj_Mm) =>
 some (x2, s3))
def f_X8_type (m0 : cj_Mm) (a1 : Int32) : Option (Int32 × cj_Mm) :=
  cj_bp (f_X7_append (m0 2) a1) (fun (x2 : Int32) (s3 : cj_S) =>
 cj_lt (cj_upG m0 2 s3) (fun (s4 : cj_Mm) =>
 some (x2, s4)))
def f_X8_clearText (m0 : cj_Mm) : Option (Int32 × cj_Mm) :=
  cj_lt (cj_upG m0 2 (cj_up2 (m0 2) 0 1 0)) (fun (s1 : cj_Mm) =>
 some (m0 2 0 1, s1))
def f_X8_fault (m0 : cj_Mm) (a1 : Int32) : Option (Int32 × cj_Mm) :=
  cj_bd (f_X8_isWithin a1 0 2) (fun (x2 : Int32) =>
 if x2 = 0 then some ((-1000001), m0) else
 cj_bd (f_X0_copyFrom 6 5 m0) (fun (s4 : cj_Mm) =>
 cj_bd (f_X4_run s4) (fun (s6 : cj_Mm) =>
 if (s6 3 0 1) = ((-1)) then some ((-1000004), s6) else
 if a1 = 0 then some (s6 3 0 1, s6) else
 if a1 = 1 then some (s6 3 0 2, s6) else
 some (s6 3 0 3, s6))))
def f_X8_play (m0 : cj_Mm) : Option (Int32 × cj_Mm) :=
  cj_bd (f_X0_copyFrom 6 5 m0) (fun (s2 : cj_Mm) =>
 cj_bd (f_X4_run s2) (fun (s4 : cj_Mm) =>
 if (s4 3 0 1) = ((-1)) then cj_bd (f_X1_prepare s4) (fun (s6 : cj_Mm) =>
 cj_bd (f_X0_copyFrom 5 6 s6) (fun (s8 : cj_Mm) =>
 cj_bp (f_X1_settle (s8 1) (s8 3 0 0)) (fun (x10 : Int32) (s11 : cj_S) =>
 cj_lt (cj_upG s8 1 s11) (fun (s12 : cj_Mm) =>
 some (x10, s12))))) else
 some ((-1000002), s4)))
def f_X9_in (a0 : Int32) (a1 : Int32) (a2 : Int32) : Option (Int32) :=
  if a0 < a1 then some 0 else
 if a2 < a0 then some 0 else
 some 1
def f_X9_copies_L2 (kf : Nat) (kt : Nat) : Nat → Int32 → cj_S → Option (cj_S)
  | 0, _, _ => none
  | n + 1, x1, s2 => if 183 ≤ x1 then some s2 else
 cj_gd x1 183 (
 cj_gd x1 183 (
 cj_lt (cj_up2 s2 kt x1.toNatClampNeg (s2 kf x1.toNatClampNeg)) (fun (s3 : cj_S) =>
 f_X9_copies_L2 kf kt n (x1 + 1) s3)))
def f_X9_copies (kf : Nat) (kt : Nat) (s0 : cj_S) : Option (cj_S) :=
  f_X9_copies_L2 kf kt cj_FU 0 s0
def f_X9_changes_L59 (K : cj_S → Option (cj_S)) : Nat → Int32 → cj_S → Option (cj_S)
  | 0, _, _ => none
  | n + 1, x3, s4 => if 183 ≤ x3 then K s4 else
 cj_gd x3 183 (
 cj_gd ((183 * (s4 0 4)) + x3) 732 (
 cj_lt (cj_up2 s4 2 (((183 * (s4 0 4)) + x3).toNatClampNeg) (s4 1 x3.toNatClampNeg)) (fun (s6 : cj_S) =>
 f_X9_changes_L59 K n (x3 + 1) s6)))
def f_X9_changes_L18 (K : cj_S → Option (cj_S)) : Nat → Int32 → cj_S → Option (cj_S)
  | 0, _, _ => none
  | n + 1, x9, s10 => if 549 ≤ x9 then K s10 else
 cj_gd (x9 + 183) 732 (
 cj_gd x9 732 (
 cj_lt (cj_up2 s10 2 x9.toNatClampNeg (s10 2 (x9 + 183).toNatClampNeg)) (fun (s12 : cj_S) =>
 f_X9_changes_L18 K n (x9 + 1) s12)))
def f_X9_changes (s0 : cj_S) : Option (cj_S) :=
  if (s0 0 5) = 0 then cj_lt (fun (s2 : cj_S) => f_X9_changes_L59 (fun (s7 : cj_S) =>
 cj_lt (cj_up2 s7 0 4 ((s7 0 4) + 1)) (fun (s8 : cj_S) =>
 some s8)) cj_FU 0 s2) (fun K1 =>
 if (s0 0 4) = 4 then f_X9_changes_L18 (fun (s13 : cj_S) =>
 cj_lt (cj_up2 s13 0 4 ((s13 0 4) - 1)) (fun (s14 : cj_S) =>
 K1 s14)) cj_FU 0 s0 else
 K1 s0) else
 some s0
def f_X9_ones_L4 : Nat → Int32 → Int32 → Option (Int32)
  | 0, _, _ => none
  | n + 1, x1, x2 => if x2 = 0 then some x1 else
 f_X9_ones_L4 n (x1 + 1) (x2 &&& (x2 - 1))
def f_X9_ones (a0 : Int32) : Option (Int32) :=
  f_X9_ones_L4 cj_FU 0 a0
def f_X9_isPerson (s0 : cj_S) (a1 : Int32) : Option (Int32) :=
  if a1 < 0 then some 0 else
 if (s0 1 0) ≤ a1 then some 0 else
 some 1
def f_X9_isPaper (s0 : cj_S) (a1 : Int32) : Option (Int32) :=
  if a1 < 0 then some 0 else
 if (s0 1 1) ≤ a1 then some 0 else
 some 1
def f_X9_of (s0 : cj_S) (a1 : Int32) (a2 : Int32) : Option (Int32) :=
  cj_gd ((11 + (18 * a1)) + a2) 183 (
 some (s0 1 ((11 + (18 * a1)) + a2).toNatClampNeg))
def f_X9_sets (s0 : cj_S) (a1 : Int32) (a2 : Int32) (a3 : Int32) : Option (cj_S) :=
  cj_gd ((11 + (18 * a1)) + a2) 183 (
 cj_lt (cj_up2 s0 1 (((11 + (18 * a1)) + a2).toNatClampNeg) a3) (fun (s1 : cj_S) =>
 some s1))
def f_X9_ofSheet (s0 : cj_S) (a1 : Int32) (a2 : Int32) : Option (Int32) :=
  cj_gd ((119 + (4 * a1)) + a2) 183 (
 some (s0 1 ((119 + (4 * a1)) + a2).toNatClampNeg))
def f_X9_ofPaper (s0 : cj_S) (a1 : Int32) (a2 : Int32) : Option (Int32) :=
  cj_gd ((159 + (6 * a1)) + a2) 183 (
 some (s0 1 ((159 + (6 * a1)) + a2).toNatClampNeg))
def f_X9_day (s0 : cj_S) : Option (Int32) :=
  some ((s0 1 4) / 300)
def f_X9_isHidden_L4 (y1 : Int32) (s4 : cj_S) : Nat → Int32 → Int32 → Option (Int32)
  | 0, _, _ => none
  | n + 1, x2, x3 => if (s4 1 0) ≤ x3 then cj_gp (x2 = 0 ∨ x2 = 1) (
 some x2) else
 if x2 = 0 then cj_bd (f_X9_of s4 x3 1) (fun (x6 : Int32) =>
 cj_bd (f_X9_of s4 y1 1) (fun (x8 : Int32) =>
 if x6 = x8 then cj_bd (f_X9_of s4 x3 0) (fun (x10 : Int32) =>
 cj_bd (f_X9_of s4 y1 0) (fun (x12 : Int32) =>
 if x12 ≤ x10 then f_X9_isHidden_L4 y1 s4 n 0 (x3 + 1) else
 f_X9_isHidden_L4 y1 s4 n 1 (x3 + 1))) else
 f_X9_isHidden_L4 y1 s4 n 0 (x3 + 1))) else
 f_X9_isHidden_L4 y1 s4 n 1 (x3 + 1)
def f_X9_isHidden (s0 : cj_S) (a1 : Int32) : Option (Int32) :=
  f_X9_isHidden_L4 a1 s0 cj_FU 0 0
def f_X9_seenAt_L22 (y5 : Int32) (y7 : Int32) (s9 : cj_S) : Nat → Int32 → Int32 → Option (Int32)
  | 0, _, _ => none
  | n + 1, x6, x8 => if y7 < x8 then some x6 else
 cj_lt ((y5 + x8) + 12) (fun (x10 : Int32) =>
 cj_lt (x6 ||| (1 <<< ((x10 - x10 / 12 * 12) &&& 31))) (fun (x11 : Int32) =>
 f_X9_seenAt_L22 y5 y7 s9 n x11 (x8 + 1)))
def f_X9_seenAt (s0 : cj_S) (a1 : Int32) (a2 : Int32) : Option (Int32) :=
  cj_bd (f_X9_isHidden s0 a1) (fun (x2 : Int32) =>
 cj_lt (fun (x4 : Int32) => f_X9_seenAt_L22 a2 x4 s0 cj_FU 0 (-x4)) (fun K3 =>
 if x2 = 0 then K3 2 else
 K3 0))
def f_X9_seen (s0 : cj_S) (a1 : Int32) : Option (Int32) :=
  cj_bd (f_X9_of s0 a1 2) (fun (x2 : Int32) =>
 cj_bd (f_X9_seenAt s0 a1 x2) (fun (x4 : Int32) =>
 some x4))
def f_X9_remembered_L4 (y1 : Int32) (s4 : cj_S) : Nat → Int32 → Int32 → Option (Int32)
  | 0, _, _ => none
  | n + 1, x2, x3 => if 12 ≤ x3 then some x2 else
 cj_bd (f_X9_of s4 y1 (6 + x3)) (fun (x6 : Int32) =>
 if x6 < 0 then f_X9_remembered_L4 y1 s4 n (x2 ||| 0) (x3 + 1) else
 if (s4 1 9) < ((s4 1 4) - x6) then f_X9_remembered_L4 y1 s4 n (x2 ||| 0) (x3 + 1) else
 cj_lt (x2 ||| (1 <<< (x3 &&& 31))) (fun (x7 : Int32) =>
 f_X9_remembered_L4 y1 s4 n x7 (x3 + 1)))
def f_X9_remembered (s0 : cj_S) (a1 : Int32) : Option (Int32) :=
  f_X9_remembered_L4 a1 s0 cj_FU 0 0
def f_X9_person_L23 (K : Unit → Option (Int32 × cj_S)) (y5 : Int32) (y6 : Int32) (s8 : cj_S) : Nat → Int32 → Option (Int32 × cj_S)
  | 0, _ => none
  | n + 1, x7 => if (s8 1 0) ≤ x7 then K () else
 cj_bd (f_X9_of s8 x7 0) (fun (x10 : Int32) =>
 if x10 = y5 then cj_bd (f_X9_of s8 x7 1) (fun (x12 : Int32) =>
 if x12 = y6 then some ((-1000002), s8) else
 f_X9_person_L23 K y5 y6 s8 n (x7 + 1)) else
 f_X9_person_L23 K y5 y6 s8 n (x7 + 1))
def f_X9_person_L106 (K : cj_S → Option (Int32 × cj_S)) (y21 : Int32) : Nat → Int32 → cj_S → Option (Int32 × cj_S)
  | 0, _, _ => none
  | n + 1, x22, s23 => if 12 ≤ x22 then K s23 else
 cj_bd (f_X9_sets s23 y21 (6 + x22) ((-1))) (fun (s26 : cj_S) =>
 f_X9_person_L106 K y21 n (x22 + 1) s26)
def f_X9_person (s0 : cj_S) (a1 : Int32) (a2 : Int32) : Option (Int32 × cj_S) :=
  cj_bd (f_X9_in a1 0 3) (fun (x2 : Int32) =>
 if x2 = 0 then some ((-1000001), s0) else
 cj_bd (f_X9_in a2 0 5) (fun (x4 : Int32) =>
 if x4 = 0 then some ((-1000001), s0) else
 f_X9_person_L23 (fun (u : Unit) =>
 if (s0 1 0) = 6 then some ((-1000003), s0) else
 cj_bd (f_X9_changes s0) (fun (s14 : cj_S) =>
 cj_bd (f_X9_sets s14 (s0 1 0) 0 a1) (fun (s16 : cj_S) =>
 cj_bd (f_X9_sets s16 (s0 1 0) 1 a2) (fun (s18 : cj_S) =>
 cj_bd (f_X9_sets s18 (s0 1 0) 4 ((-1))) (fun (s20 : cj_S) =>
 f_X9_person_L106 (fun (s27 : cj_S) =>
 cj_lt (cj_up2 s27 1 0 ((s27 1 0) + 1)) (fun (s28 : cj_S) =>
 some (s0 1 0, s28))) (s0 1 0) cj_FU 0 s20))))) a1 a2 s0 cj_FU 0))
def f_X9_turn (s0 : cj_S) (a1 : Int32) (a2 : Int32) (a3 : Int32) : Option (Int32 × cj_S) :=
  cj_bd (f_X9_isPerson s0 a1) (fun (x2 : Int32) =>
 if x2 = 0 then some ((-1000001), s0) else
 cj_bd (f_X9_in a2 0 11) (fun (x4 : Int32) =>
 if x4 = 0 then some ((-1000001), s0) else
 cj_bd (f_X9_in a3 0 11) (fun (x6 : Int32) =>
 if x6 = 0 then some ((-1000001), s0) else
 cj_bd (f_X9_changes s0) (fun (s8 : cj_S) =>
 cj_bd (f_X9_sets s8 a1 2 a2) (fun (s10 : cj_S) =>
 cj_bd (f_X9_sets s10 a1 3 a3) (fun (s12 : cj_S) =>
 cj_bd (f_X9_seen s12 a1) (fun (x14 : Int32) =>
 some (x14, s12))))))))
def f_X9_paper (s0 : cj_S) (a1 : Int32) (a2 : Int32) : Option (Int32 × cj_S) :=
  cj_bd (f_X9_in a1 1 20) (fun (x2 : Int32) =>
 if x2 = 0 then some ((-1000001), s0) else
 cj_bd (f_X9_in a2 1 299) (fun (x4 : Int32) =>
 if x4 = 0 then some ((-1000001), s0) else
 if (s0 1 1) = 4 then some ((-1000003), s0) else
 cj_bd (f_X9_changes s0) (fun (s6 : cj_S) =>
 cj_gd ((159 + (6 * (s0 1 1))) + 0) 183 (
 cj_lt (cj_up2 s6 1 (((159 + (6 * (s0 1 1))) + 0).toNatClampNeg) a1) (fun (s7 : cj_S) =>
 cj_gd ((159 + (6 * (s0 1 1))) + 1) 183 (
 cj_lt (cj_up2 s7 1 (((159 + (6 * (s0 1 1))) + 1).toNatClampNeg) a2) (fun (s8 : cj_S) =>
 cj_gd ((159 + (6 * (s0 1 1))) + 4) 183 (
 cj_lt (cj_up2 s8 1 (((159 + (6 * (s0 1 1))) + 4).toNatClampNeg) ((-1))) (fun (s9 : cj_S) =>
 cj_lt (cj_up2 s9 1 1 ((s9 1 1) + 1)) (fun (s10 : cj_S) =>
 some (s0 1 1, s10)))))))))))
def f_X9_look (s0 : cj_S) (a1 : Int32) : Option (Int32 × cj_S) :=
  cj_lt (fun (u : Unit) => cj_bd (f_X9_changes s0) (fun (s3 : cj_S) =>
 cj_lt (cj_up2 s3 1 5 a1) (fun (s4 : cj_S) =>
 if a1 = ((-1)) then some (0, s4) else
 cj_bd (f_X9_seen s4 a1) (fun (x6 : Int32) =>
 some (x6, s4))))) (fun K1 =>
 if a1 = ((-1)) then K1 () else
 cj_bd (f_X9_isPerson s0 a1) (fun (x8 : Int32) =>
 if x8 = 0 then some ((-1000001), s0) else
 K1 ()))
def f_X9_slot_L2 (y1 : Int32) (s3 : cj_S) : Nat → Int32 → Option (Int32)
  | 0, _ => none
  | n + 1, x2 => if (s3 1 2) ≤ x2 then some ((-1000004)) else
 cj_bd (f_X9_ofSheet s3 x2 0) (fun (x5 : Int32) =>
 if x5 = y1 then some x2 else
 f_X9_slot_L2 y1 s3 n (x2 + 1))
def f_X9_slot (s0 : cj_S) (a1 : Int32) : Option (Int32) :=
  f_X9_slot_L2 a1 s0 cj_FU 0
def f_X9_sheet (s0 : cj_S) (a1 : Int32) : Option (Int32 × cj_S) :=
  cj_bd (f_X9_isPerson s0 a1) (fun (x2 : Int32) =>
 if x2 = 0 then some ((-1000001), s0) else
 if (s0 1 2) = 10 then some ((-1000003), s0) else
 cj_bd (f_X9_changes s0) (fun (s4 : cj_S) =>
 cj_gd ((119 + (4 * (s0 1 2))) + 0) 183 (
 cj_lt (cj_up2 s4 1 (((119 + (4 * (s0 1 2))) + 0).toNatClampNeg) (s4 1 3)) (fun (s5 : cj_S) =>
 cj_gd ((119 + (4 * (s0 1 2))) + 1) 183 (
 cj_lt (cj_up2 s5 1 (((119 + (4 * (s0 1 2))) + 1).toNatClampNeg) a1) (fun (s6 : cj_S) =>
 cj_gd ((119 + (4 * (s0 1 2))) + 2) 183 (
 cj_lt (cj_up2 s6 1 (((119 + (4 * (s0 1 2))) + 2).toNatClampNeg) 0) (fun (s7 : cj_S) =>
 cj_gd ((119 + (4 * (s0 1 2))) + 3) 183 (
 cj_lt (cj_up2 s7 1 (((119 + (4 * (s0 1 2))) + 3).toNatClampNeg) 0) (fun (s8 : cj_S) =>
 cj_lt (cj_up2 s8 1 2 ((s8 1 2) + 1)) (fun (s9 : cj_S) =>
 cj_lt (cj_up2 s9 1 3 ((s9 1 3) + 1)) (fun (s10 : cj_S) =>
 some ((s10 1 3) - 1, s10)))))))))))))
def f_X9_drawable (s0 : cj_S) (a1 : Int32) : Option (Int32) :=
  cj_bd (f_X9_ofSheet s0 a1 1) (fun (x2 : Int32) =>
 cj_bd (f_X9_remembered s0 x2) (fun (x4 : Int32) =>
 cj_bd (f_X9_ofSheet s0 a1 2) (fun (x6 : Int32) =>
 some (x4 &&& (x6 ^^^ ((-1)))))))
def f_X9_draw (s0 : cj_S) (a1 : Int32) (a2 : Int32) : Option (Int32 × cj_S) :=
  cj_bd (f_X9_slot s0 a1) (fun (x2 : Int32) =>
 if x2 < 0 then some ((-1000001), s0) else
 cj_bd (f_X9_in a2 0 11) (fun (x4 : Int32) =>
 if x4 = 0 then some ((-1000001), s0) else
 cj_bd (f_X9_drawable s0 x2) (fun (x6 : Int32) =>
 if (x6 &&& (1 <<< (a2 &&& 31))) = 0 then some ((-1000002), s0) else
 if (s0 1 6) = 3 then some ((-1000003), s0) else
 cj_bd (f_X9_changes s0) (fun (s8 : cj_S) =>
 cj_gd ((119 + (4 * x2)) + 2) 183 (
 cj_gd ((119 + (4 * x2)) + 2) 183 (
 cj_lt (cj_up2 s8 1 (((119 + (4 * x2)) + 2).toNatClampNeg) ((s8 1 ((119 + (4 * x2)) + 2).toNatClampNeg) ||| (1 <<< (a2 &&& 31)))) (fun (s9 : cj_S) =>
 cj_bd (f_X9_ofSheet s9 x2 3) (fun (x11 : Int32) =>
 cj_lt (fun (x13 : Int32) => cj_gd ((119 + (4 * x2)) + 3) 183 (
 cj_lt (cj_up2 s9 1 (((119 + (4 * x2)) + 3).toNatClampNeg) x13) (fun (s14 : cj_S) =>
 cj_lt (cj_up2 s14 1 6 ((s14 1 6) + 1)) (fun (s15 : cj_S) =>
 cj_bd (f_X9_ofSheet s15 x2 2) (fun (x17 : Int32) =>
 cj_bd (f_X9_ones x17) (fun (x19 : Int32) =>
 some (x19, s15))))))) (fun K12 =>
 if ((s8 1 4) + (s8 1 10)) ≤ x11 then cj_bd (f_X9_ofSheet s9 x2 3) (fun (x21 : Int32) =>
 K12 x21) else
 K12 ((s8 1 4) + (s8 1 10)))))))))))
def f_X9_takesOut_L17 : Nat → Int32 → cj_S → Option (cj_S)
  | 0, _, _ => none
  | n + 1, x2, s3 => if (119 + (4 * (s3 1 2))) ≤ x2 then some s3 else
 cj_gd (x2 + 4) 183 (
 cj_gd x2 183 (
 cj_lt (cj_up2 s3 1 x2.toNatClampNeg (s3 1 (x2 + 4).toNatClampNeg)) (fun (s4 : cj_S) =>
 f_X9_takesOut_L17 n (x2 + 1) s4)))
def f_X9_takesOut (s0 : cj_S) (a1 : Int32) : Option (cj_S) :=
  cj_lt (cj_up2 s0 1 2 ((s0 1 2) - 1)) (fun (s1 : cj_S) =>
 f_X9_takesOut_L17 cj_FU (119 + (4 * a1)) s1)
def f_X9_tear (s0 : cj_S) (a1 : Int32) : Option (Int32 × cj_S) :=
  cj_bd (f_X9_slot s0 a1) (fun (x2 : Int32) =>
 if 0 ≤ x2 then cj_bd (f_X9_changes s0) (fun (s4 : cj_S) =>
 cj_bd (f_X9_takesOut s4 x2) (fun (s6 : cj_S) =>
 some (s6 1 2, s6))) else
 some ((-1000001), s0))
def f_X9_sheetsOf_L4 (y1 : Int32) (s4 : cj_S) : Nat → Int32 → Int32 → Option (Int32)
  | 0, _, _ => none
  | n + 1, x2, x3 => if (s4 1 2) ≤ x3 then some x2 else
 cj_bd (f_X9_ofSheet s4 x3 1) (fun (x6 : Int32) =>
 if x6 = y1 then f_X9_sheetsOf_L4 y1 s4 n (x2 + 1) (x3 + 1) else
 f_X9_sheetsOf_L4 y1 s4 n (x2 + 0) (x3 + 1))
def f_X9_sheetsOf (s0 : cj_S) (a1 : Int32) : Option (Int32) :=
  f_X9_sheetsOf_L4 a1 s0 cj_FU 0 0
def f_X9_hasVerdict (s0 : cj_S) (a1 : Int32) : Option (Int32) :=
  cj_bd (f_X9_of s0 a1 4) (fun (x2 : Int32) =>
 cj_bd (f_X9_day s0) (fun (x4 : Int32) =>
 if x2 = x4 then some 1 else
 some 0))
def f_X9_verdict (s0 : cj_S) (a1 : Int32) : Option (Int32 × cj_S) :=
  cj_bd (f_X9_isPerson s0 a1) (fun (x2 : Int32) =>
 if x2 = 0 then some ((-1000001), s0) else
 cj_bd (f_X9_hasVerdict s0 a1) (fun (x4 : Int32) =>
 if x4 = 0 then cj_bd (f_X9_changes s0) (fun (s6 : cj_S) =>
 cj_bd (f_X9_day s6) (fun (x8 : Int32) =>
 cj_bd (f_X9_sets s6 a1 4 x8) (fun (s10 : cj_S) =>
 cj_bd (f_X9_sheetsOf s10 a1) (fun (x12 : Int32) =>
 some (x12, s10))))) else
 some ((-1000002), s0)))
def f_X9_isDry (s0 : cj_S) (a1 : Int32) : Option (Int32) :=
  cj_bd (f_X9_ofSheet s0 a1 2) (fun (x2 : Int32) =>
 if x2 = 0 then some 0 else
 cj_bd (f_X9_ofSheet s0 a1 3) (fun (x4 : Int32) =>
 if (s0 1 4) < x4 then some 0 else
 some 1))
def f_X9_boughtOf (s0 : cj_S) (a1 : Int32) : Option (Int32) :=
  cj_bd (f_X9_ofPaper s0 a1 4) (fun (x2 : Int32) =>
 cj_bd (f_X9_day s0) (fun (x4 : Int32) =>
 if x2 = x4 then cj_bd (f_X9_ofPaper s0 a1 5) (fun (x6 : Int32) =>
 some x6) else
 some 0))
def f_X9_canSell (s0 : cj_S) (a1 : Int32) (a2 : Int32) : Option (Int32) :=
  cj_bd (f_X9_isDry s0 a1) (fun (x2 : Int32) =>
 if x2 = 0 then some 0 else
 cj_bd (f_X9_boughtOf s0 a2) (fun (x4 : Int32) =>
 cj_bd (f_X9_ofSheet s0 a1 1) (fun (x6 : Int32) =>
 if ((x4 >>> (x6 &&& 31)) &&& 1) = 0 then some 1 else
 some 0)))
def f_X9_priceOf (s0 : cj_S) (a1 : Int32) (a2 : Int32) : Option (Int32) :=
  cj_bd (f_X9_ofPaper s0 a2 0) (fun (x2 : Int32) =>
 cj_bd (f_X9_ofSheet s0 a1 2) (fun (x4 : Int32) =>
 cj_bd (f_X9_ones x4) (fun (x6 : Int32) =>
 cj_bd (f_X9_ofSheet s0 a1 1) (fun (x8 : Int32) =>
 cj_bd (f_X9_hasVerdict s0 x8) (fun (x10 : Int32) =>
 cj_lt (fun (x12 : Int32) => cj_bd (f_X9_ofPaper s0 a2 1) (fun (x14 : Int32) =>
 if ((s0 1 4) - (s0 1 4) / 300 * 300) ≤ x14 then some x12 else
 some (x12 / 2))) (fun K11 =>
 if x10 = 0 then K11 (x2 * x6) else
 K11 (2 * (x2 * x6))))))))
def f_X9_sells (s0 : cj_S) (a1 : Int32) (a2 : Int32) : Option (Int32 × cj_S) :=
  cj_bd (f_X9_priceOf s0 a1 a2) (fun (x2 : Int32) =>
 cj_bd (f_X9_ofSheet s0 a1 1) (fun (x4 : Int32) =>
 cj_bd (f_X9_boughtOf s0 a2) (fun (x6 : Int32) =>
 cj_gd ((159 + (6 * a2)) + 5) 183 (
 cj_lt (cj_up2 s0 1 (((159 + (6 * a2)) + 5).toNatClampNeg) (x6 ||| (1 <<< (x4 &&& 31)))) (fun (s7 : cj_S) =>
 cj_bd (f_X9_day s7) (fun (x9 : Int32) =>
 cj_gd ((159 + (6 * a2)) + 4) 183 (
 cj_lt (cj_up2 s7 1 (((159 + (6 * a2)) + 4).toNatClampNeg) x9) (fun (s10 : cj_S) =>
 cj_gd ((159 + (6 * a2)) + 2) 183 (
 cj_gd ((159 + (6 * a2)) + 2) 183 (
 cj_lt (cj_up2 s10 1 (((159 + (6 * a2)) + 2).toNatClampNeg) ((s10 1 ((159 + (6 * a2)) + 2).toNatClampNeg) + 1)) (fun (s11 : cj_S) =>
 cj_gd ((159 + (6 * a2)) + 3) 183 (
 cj_gd ((159 + (6 * a2)) + 3) 183 (
 cj_lt (cj_up2 s11 1 (((159 + (6 * a2)) + 3).toNatClampNeg) ((s11 1 ((159 + (6 * a2)) + 3).toNatClampNeg) + x2)) (fun (s12 : cj_S) =>
 cj_gd ((11 + (18 * x4)) + 5) 183 (
 cj_gd ((11 + (18 * x4)) + 5) 183 (
 cj_lt (cj_up2 s12 1 (((11 + (18 * x4)) + 5).toNatClampNeg) ((s12 1 ((11 + (18 * x4)) + 5).toNatClampNeg) + x2)) (fun (s13 : cj_S) =>
 cj_lt (cj_up2 s13 1 7 ((s13 1 7) + 1)) (fun (s14 : cj_S) =>
 cj_lt (cj_up2 s14 1 8 ((s14 1 8) + x2)) (fun (s15 : cj_S) =>
 cj_bd (f_X9_takesOut s15 a1) (fun (s17 : cj_S) =>
 some (x2, s17)))))))))))))))))))))
def f_X9_sell (s0 : cj_S) (a1 : Int32) (a2 : Int32) : Option (Int32 × cj_S) :=
  cj_bd (f_X9_slot s0 a1) (fun (x2 : Int32) =>
 if x2 < 0 then some ((-1000001), s0) else
 cj_bd (f_X9_isPaper s0 a2) (fun (x4 : Int32) =>
 if x4 = 0 then some ((-1000001), s0) else
 cj_bd (f_X9_canSell s0 x2 a2) (fun (x6 : Int32) =>
 if x6 = 0 then some ((-1000002), s0) else
 cj_bd (f_X9_changes s0) (fun (s8 : cj_S) =>
 cj_bp (f_X9_sells s8 x2 a2) (fun (x10 : Int32) (s11 : cj_S) =>
 some (x10, s11))))))
def f_X9_sees_L2 (y1 : Int32) : Nat → Int32 → cj_S → Option (cj_S)
  | 0, _, _ => none
  | n + 1, x2, s3 => if 12 ≤ x2 then some s3 else
 cj_bd (f_X9_seen s3 y1) (fun (x5 : Int32) =>
 if ((x5 >>> (x2 &&& 31)) &&& 1) = 1 then cj_bd (f_X9_sets s3 y1 (6 + x2) (s3 1 4)) (fun (s7 : cj_S) =>
 f_X9_sees_L2 y1 n (x2 + 1) s7) else
 f_X9_sees_L2 y1 n (x2 + 1) s3)
def f_X9_sees (s0 : cj_S) (a1 : Int32) : Option (cj_S) :=
  f_X9_sees_L2 a1 cj_FU 0 s0
def f_X9_minute_L21 (K : cj_S → Option (cj_S)) : Nat → Int32 → cj_S → Option (cj_S)
  | 0, _, _ => none
  | n + 1, x3, s4 => if (s4 1 0) ≤ x3 then K s4 else
 cj_bd (f_X9_of s4 x3 2) (fun (x7 : Int32) =>
 cj_bd (f_X9_of s4 x3 3) (fun (x9 : Int32) =>
 cj_lt (x7 + x9) (fun (x10 : Int32) =>
 cj_bd (f_X9_sets s4 x3 2 (x10 - x10 / 12 * 12)) (fun (s12 : cj_S) =>
 f_X9_minute_L21 K n (x3 + 1) s12))))
def f_X9_minute (s0 : cj_S) : Option (cj_S) :=
  cj_lt (fun (s2 : cj_S) => f_X9_minute_L21 (fun (s13 : cj_S) =>
 cj_lt (cj_up2 s13 1 4 ((s13 1 4) + 1)) (fun (s14 : cj_S) =>
 cj_lt (cj_up2 s14 1 6 0) (fun (s15 : cj_S) =>
 some s15))) cj_FU 0 s2) (fun K1 =>
 if (s0 1 5) < 0 then K1 s0 else
 cj_bd (f_X9_sees s0 (s0 1 5)) (fun (s17 : cj_S) =>
 K1 s17))
def f_X9_pass_L37 (K : cj_S → Option (Int32 × cj_S)) (y5 : Int32) : Nat → Int32 → cj_S → Option (Int32 × cj_S)
  | 0, _, _ => none
  | n + 1, x6, s7 => if y5 ≤ x6 then K s7 else
 cj_bd (f_X9_minute s7) (fun (s10 : cj_S) =>
 f_X9_pass_L37 K y5 n (x6 + 1) s10)
def f_X9_pass_L56 (s14 : cj_S) : Nat → Int32 → Int32 → Option (Int32 × cj_S)
  | 0, _, _ => none
  | n + 1, x12, x13 => if (s14 1 0) ≤ x13 then some (x12, s14) else
 cj_bd (f_X9_remembered s14 x13) (fun (x16 : Int32) =>
 cj_bd (f_X9_ones x16) (fun (x18 : Int32) =>
 f_X9_pass_L56 s14 n (x12 + x18) (x13 + 1)))
def f_X9_pass (s0 : cj_S) (a1 : Int32) : Option (Int32 × cj_S) :=
  cj_bd (f_X9_in a1 1 300) (fun (x2 : Int32) =>
 if x2 = 0 then some ((-1000001), s0) else
 if ((s0 1 4) + a1) ≤ 9999 then cj_bd (f_X9_changes s0) (fun (s4 : cj_S) =>
 f_X9_pass_L37 (fun (s11 : cj_S) =>
 f_X9_pass_L56 s11 cj_FU 0 0) a1 cj_FU 0 s4) else
 some ((-1000003), s0))
def f_X9_set (s0 : cj_S) (a1 : Int32) (a2 : Int32) : Option (Int32 × cj_S) :=
  cj_bd (f_X9_in a1 0 1) (fun (x2 : Int32) =>
 if x2 = 0 then some ((-1000001), s0) else
 cj_lt (fun (x4 : Int32) => cj_bd (f_X9_in a2 (1 - a1) x4) (fun (x6 : Int32) =>
 if x6 = 0 then some ((-1000001), s0) else
 cj_bd (f_X9_changes s0) (fun (s8 : cj_S) =>
 cj_gd (9 + a1) 183 (
 cj_gd (9 + a1) 183 (
 cj_lt (cj_up2 s8 1 ((9 + a1).toNatClampNeg) a2) (fun (s9 : cj_S) =>
 some (s8 1 (9 + a1).toNatClampNeg, s9))))))) (fun K3 =>
 if a1 = 0 then K3 200 else
 K3 60))
def f_X9_personOf (s0 : cj_S) (a1 : Int32) (a2 : Int32) : Option (Int32) :=
  cj_bd (f_X9_isPerson s0 a1) (fun (x2 : Int32) =>
 if x2 = 0 then some ((-1000001)) else
 cj_bd (f_X9_in a2 0 8) (fun (x4 : Int32) =>
 if x4 = 0 then some ((-1000001)) else
 if a2 = 4 then cj_bd (f_X9_seen s0 a1) (fun (x6 : Int32) =>
 some x6) else
 if a2 = 5 then cj_bd (f_X9_remembered s0 a1) (fun (x9 : Int32) =>
 some x9) else
 if a2 = 6 then cj_bd (f_X9_hasVerdict s0 a1) (fun (x12 : Int32) =>
 if x12 = 0 then some 0 else
 some 1) else
 if a2 = 7 then cj_bd (f_X9_sheetsOf s0 a1) (fun (x15 : Int32) =>
 some x15) else
 if a2 = 8 then cj_bd (f_X9_of s0 a1 5) (fun (x18 : Int32) =>
 some x18) else
 cj_bd (f_X9_of s0 a1 a2) (fun (x21 : Int32) =>
 some x21)))
def f_X9_sheetOf (s0 : cj_S) (a1 : Int32) (a2 : Int32) : Option (Int32) :=
  cj_bd (f_X9_slot s0 a1) (fun (x2 : Int32) =>
 if x2 < 0 then some ((-1000001)) else
 cj_bd (f_X9_in a2 0 5) (fun (x4 : Int32) =>
 if x4 = 0 then some ((-1000001)) else
 if a2 = 0 then cj_bd (f_X9_ofSheet s0 x2 (a2 + 1)) (fun (x6 : Int32) =>
 some x6) else
 if a2 = 1 then cj_bd (f_X9_ofSheet s0 x2 (a2 + 1)) (fun (x9 : Int32) =>
 some x9) else
 if a2 = 2 then cj_bd (f_X9_ofSheet s0 x2 2) (fun (x12 : Int32) =>
 cj_bd (f_X9_ones x12) (fun (x14 : Int32) =>
 some x14)) else
 if a2 = 3 then cj_bd (f_X9_isDry s0 x2) (fun (x17 : Int32) =>
 if x17 = 0 then some 0 else
 some 1) else
 if a2 = 4 then cj_bd (f_X9_ofSheet s0 x2 3) (fun (x20 : Int32) =>
 if x20 ≤ (s0 1 4) then some 0 else
 cj_bd (f_X9_ofSheet s0 x2 3) (fun (x22 : Int32) =>
 some (x22 - (s0 1 4)))) else
 cj_bd (f_X9_drawable s0 x2) (fun (x25 : Int32) =>
 some x25)))
def f_X9_paperOf (s0 : cj_S) (a1 : Int32) (a2 : Int32) : Option (Int32) :=
  cj_bd (f_X9_isPaper s0 a1) (fun (x2 : Int32) =>
 if x2 = 0 then some ((-1000001)) else
 cj_bd (f_X9_in a2 0 4) (fun (x4 : Int32) =>
 if x4 = 0 then some ((-1000001)) else
 if 4 ≤ a2 then cj_bd (f_X9_boughtOf s0 a1) (fun (x6 : Int32) =>
 some x6) else
 cj_bd (f_X9_ofPaper s0 a1 a2) (fun (x8 : Int32) =>
 some x8)))
def f_X9_price (s0 : cj_S) (a1 : Int32) (a2 : Int32) : Option (Int32) :=
  cj_bd (f_X9_slot s0 a1) (fun (x2 : Int32) =>
 if x2 < 0 then some ((-1000001)) else
 cj_bd (f_X9_isPaper s0 a2) (fun (x4 : Int32) =>
 if x4 = 0 then some ((-1000001)) else
 cj_bd (f_X9_priceOf s0 x2 a2) (fun (x6 : Int32) =>
 some x6)))
def f_X9_number (s0 : cj_S) (a1 : Int32) : Option (Int32) :=
  if 0 ≤ a1 then if (s0 1 2) ≤ a1 then some ((-1000004)) else
 cj_bd (f_X9_ofSheet s0 a1 0) (fun (x2 : Int32) =>
 some x2) else
 some ((-1000001))
def f_X9_seenIn_L23 (y5 : Int32) (y6 : Int32) (s8 : cj_S) : Nat → Int32 → Option (Int32)
  | 0, _ => none
  | n + 1, x7 => if 12 ≤ x7 then some ((-1000004)) else
 cj_bd (f_X9_of s8 y5 2) (fun (x10 : Int32) =>
 cj_bd (f_X9_of s8 y5 3) (fun (x12 : Int32) =>
 cj_lt (x10 + (x7 * x12)) (fun (x13 : Int32) =>
 cj_lt (x13 - x13 / 12 * 12) (fun (x14 : Int32) =>
 cj_bd (f_X9_seenAt s8 y5 x14) (fun (x16 : Int32) =>
 if ((x16 >>> (y6 &&& 31)) &&& 1) = 1 then some x7 else
 f_X9_seenIn_L23 y5 y6 s8 n (x7 + 1))))))
def f_X9_seenIn (s0 : cj_S) (a1 : Int32) (a2 : Int32) : Option (Int32) :=
  cj_bd (f_X9_isPerson s0 a1) (fun (x2 : Int32) =>
 if x2 = 0 then some ((-1000001)) else
 cj_bd (f_X9_in a2 0 11) (fun (x4 : Int32) =>
 if x4 = 0 then some ((-1000001)) else
 f_X9_seenIn_L23 a1 a2 s0 cj_FU 0))
def f_X9_would_L42 (K : cj_S → Option (Int32 × cj_S)) (y8 : Int32) (y9 : Int32) : Nat → Int32 → cj_S → Option (Int32 × cj_S)
  | 0, _, _ => none
  | n + 1, x10, s11 => if y9 ≤ x10 then K s11 else
 cj_bd (f_X9_minute s11) (fun (s14 : cj_S) =>
 f_X9_would_L42 K y8 y9 n (x10 + 1) s14)
def f_X9_would (s0 : cj_S) (a1 : Int32) (a2 : Int32) : Option (Int32 × cj_S) :=
  cj_bd (f_X9_isPerson s0 a1) (fun (x2 : Int32) =>
 if x2 = 0 then some ((-1000001), s0) else
 cj_bd (f_X9_in a2 0 300) (fun (x4 : Int32) =>
 if x4 = 0 then some ((-1000001), s0) else
 cj_bd (f_X9_copies 1 4 s0) (fun (s6 : cj_S) =>
 cj_lt (cj_up2 s6 1 5 a1) (fun (s7 : cj_S) =>
 f_X9_would_L42 (fun (s15 : cj_S) =>
 cj_bd (f_X9_remembered s15 a1) (fun (x17 : Int32) =>
 cj_bd (f_X9_ones x17) (fun (x19 : Int32) =>
 cj_bd (f_X9_copies 4 1 s15) (fun (s21 : cj_S) =>
 some (x19, s21))))) a1 a2 cj_FU 0 s7))))
def f_X9_bestSale_L20 (K : Int32 → Int32 → Option (Int32)) (y7 : Int32) (s9 : cj_S) : Nat → Int32 → Int32 → Int32 → Option (Int32)
  | 0, _, _, _ => none
  | n + 1, x5, x6, x8 => if (s9 1 1) ≤ x8 then K x5 x6 else
 cj_bd (f_X9_canSell s9 y7 x8) (fun (x13 : Int32) =>
 cj_lt (fun (x15 : Int32) => cj_lt (fun (x17 : Int32) => if x15 = 0 then f_X9_bestSale_L20 K y7 s9 n x17 x6 (x8 + 1) else
 cj_bd (f_X9_priceOf s9 y7 x8) (fun (x19 : Int32) =>
 f_X9_bestSale_L20 K y7 s9 n x17 x19 (x8 + 1))) (fun K16 =>
 if x15 = 0 then K16 x5 else
 K16 ((10 * y7) + x8))) (fun K14 =>
 cj_lt (fun (u : Unit) => K14 0) (fun K20 =>
 if x13 = 0 then K20 () else
 cj_bd (f_X9_priceOf s9 y7 x8) (fun (x22 : Int32) =>
 if x22 ≤ x6 then K20 () else
 K14 1))))
def f_X9_bestSale_L7 (s4 : cj_S) : Nat → Int32 → Int32 → Int32 → Option (Int32)
  | 0, _, _, _ => none
  | n + 1, x1, x2, x3 => if (s4 1 2) ≤ x3 then some x1 else
 f_X9_bestSale_L20 (fun (x23 : Int32) (x24 : Int32) =>
 f_X9_bestSale_L7 s4 n x23 x24 (x3 + 1)) x3 s4 cj_FU x1 x2 0
def f_X9_bestSale (s0 : cj_S) : Option (Int32) :=
  f_X9_bestSale_L7 s0 cj_FU ((-1000004)) ((-1)) 0
def f_X9_best (s0 : cj_S) (a1 : Int32) : Option (Int32) :=
  cj_bd (f_X9_in a1 0 2) (fun (x2 : Int32) =>
 if x2 = 0 then some ((-1000001)) else
 cj_bd (f_X9_bestSale s0) (fun (x4 : Int32) =>
 if 0 ≤ x4 then if a1 = 0 then cj_bd (f_X9_ofSheet s0 (x4 / 10) 0) (fun (x8 : Int32) =>
 some x8) else
 if a1 = 1 then some (x4 - x4 / 10 * 10) else
 cj_bd (f_X9_priceOf s0 (x4 / 10) (x4 - x4 / 10 * 10)) (fun (x6 : Int32) =>
 some x6) else
 some ((-1000004))))
def f_X9_sellAll_L18 (K : Int32 → cj_S → Option (Int32 × cj_S)) : Nat → Int32 → Int32 → cj_S → Option (Int32 × cj_S)
  | 0, _, _, _ => none
  | n + 1, x5, x6, s7 => if x6 < 0 then K x5 s7 else
 cj_bp (f_X9_sells s7 (x6 / 10) (x6 - x6 / 10 * 10)) (fun (x11 : Int32) (s12 : cj_S) =>
 cj_bd (f_X9_bestSale s12) (fun (x14 : Int32) =>
 f_X9_sellAll_L18 K n (x5 + x11) x14 s12))
def f_X9_sellAll (s0 : cj_S) : Option (Int32 × cj_S) :=
  cj_bd (f_X9_copies 1 4 s0) (fun (s2 : cj_S) =>
 cj_bd (f_X9_bestSale s2) (fun (x4 : Int32) =>
 f_X9_sellAll_L18 (fun (x15 : Int32) (s16 : cj_S) =>
 cj_bd (f_X9_copies 4 1 s16) (fun (s18 : cj_S) =>
 some (x15, s18))) cj_FU 0 x4 s2))
def f_Jxf58ca_isNaN_12338 (a0 : UInt32) : Option (Int32) :=
  if (Op.cmpValue (FP.fcmp a0 a0) .l) = 0 then some 0 else
 some 1
def f_Jxf58ca_floatToIntBits_5c35a (a0 : UInt32) : Option (Int32) :=
  cj_bd (f_Jxf58ca_isNaN_12338 a0) (fun (x2 : Int32) =>
 if x2 = 0 then some (UInt32.toInt32 a0) else
 some 2143289344)
def f_X9_mean (s0 : cj_S) : Option (Int32) :=
  cj_lt (fun (x2 : Int32) => cj_gp (FP.fdiv (FP.i2f (s0 1 8)) (FP.i2f x2) &&& 0x7fffffff ≤ 0x7f800000) (
 cj_lt (FP.fdiv (FP.i2f (s0 1 8)) (FP.i2f x2)) (fun (x3 : UInt32) =>
 if (s0 1 7) = 0 then some ((-1000004)) else
 cj_bd (f_Jxf58ca_floatToIntBits_5c35a x3) (fun (x5 : Int32) =>
 some x5)))) (fun K1 =>
 if (s0 1 7) = 0 then K1 1 else
 K1 (s0 1 7))
def f_X9_count (s0 : cj_S) (a1 : Int32) : Option (Int32) :=
  if a1 = 0 then cj_gd a1 183 (
 some (s0 1 a1.toNatClampNeg)) else
 if a1 = 1 then cj_gd a1 183 (
 some (s0 1 a1.toNatClampNeg)) else
 if a1 = 2 then cj_gd a1 183 (
 some (s0 1 a1.toNatClampNeg)) else
 if a1 = 3 then cj_gd a1 183 (
 some (s0 1 a1.toNatClampNeg)) else
 if a1 = 4 then cj_gd a1 183 (
 some (s0 1 a1.toNatClampNeg)) else
 if a1 = 5 then cj_bd (f_X9_day s0) (fun (x7 : Int32) =>
 some x7) else
 if a1 = 6 then some ((s0 1 4) - (s0 1 4) / 300 * 300) else
 if a1 = 7 then if 0 ≤ (s0 1 5) then some (s0 1 5) else
 some ((-1000004)) else
 if a1 = 8 then some (3 - (s0 1 6)) else
 if a1 = 9 then some (s0 1 7) else
 if a1 = 10 then some (s0 1 8) else
 if a1 = 11 then some (s0 0 4) else
 if a1 = 12 then some (s0 0 7) else
 cj_bd (f_X9_in a1 20 21) (fun (x17 : Int32) =>
 if x17 = 0 then some ((-1000001)) else
 cj_gd ((9 + a1) - 20) 183 (
 some (s0 1 ((9 + a1) - 20).toNatClampNeg)))
def f_X9_undo_L22 : Nat → Int32 → cj_S → Option (Int32 × cj_S)
  | 0, _, _ => none
  | n + 1, x2, s3 => if 183 ≤ x2 then some (s3 0 4, s3) else
 cj_gd ((183 * (s3 0 4)) + x2) 732 (
 cj_gd x2 183 (
 cj_lt (cj_up2 s3 1 x2.toNatClampNeg (s3 2 ((183 * (s3 0 4)) + x2).toNatClampNeg)) (fun (s4 : cj_S) =>
 f_X9_undo_L22 n (x2 + 1) s4)))
def f_X9_undo (s0 : cj_S) : Option (Int32 × cj_S) :=
  if (s0 0 4) = 0 then some ((-1000002), s0) else
 cj_lt (cj_up2 s0 0 4 ((s0 0 4) - 1)) (fun (s1 : cj_S) =>
 f_X9_undo_L22 cj_FU 0 s1)
def f_X9_type (s0 : cj_S) (a1 : Int32) : Option (Int32 × cj_S) :=
  cj_bd (f_X9_in a1 32 126) (fun (x2 : Int32) =>
 if x2 = 0 then some ((-1000001), s0) else
 if (s0 0 7) = 60 then some ((-1000003), s0) else
 cj_gd (s0 0 7) 60 (
 cj_lt (cj_up2 s0 5 ((s0 0 7).toNatClampNeg) a1) (fun (s3 : cj_S) =>
 cj_lt (cj_up2 s3 0 7 ((s3 0 7) + 1)) (fun (s4 : cj_S) =>
 some (s4 0 7, s4)))))
def f_X9_clearText (s0 : cj_S) : Option (Int32 × cj_S) :=
  cj_lt (cj_up2 s0 0 7 0) (fun (s1 : cj_S) =>
 some (s0 0 7, s1))
def f_X9_isAt (s0 : cj_S) (a1 : Int32) (a2 : Int32) : Option (Int32) :=
  if (s0 0 7) ≤ (s0 0 8) then some 0 else
 cj_gd (s0 0 8) 60 (
 cj_bd (f_X9_in (s0 5 (s0 0 8).toNatClampNeg) a1 a2) (fun (x2 : Int32) =>
 if x2 = 0 then some 0 else
 some 1))
def f_X9_sign (s0 : cj_S) (a1 : Int32) : Option (Int32 × cj_S) :=
  cj_bd (f_X9_isAt s0 a1 a1) (fun (x2 : Int32) =>
 if x2 = 0 then cj_lt (cj_up2 s0 0 8 ((s0 0 8) + 0)) (fun (s3 : cj_S) =>
 cj_gp (x2 = 0 ∨ x2 = 1) (
 some (x2, s3))) else
 cj_lt (cj_up2 s0 0 8 ((s0 0 8) + 1)) (fun (s4 : cj_S) =>
 cj_gp (x2 = 0 ∨ x2 = 1) (
 some (x2, s4))))
def f_X9_numbered_L12 (K : cj_S → Option (Int32 × cj_S)) (y2 : Int32) (y3 : Int32) : Nat → cj_S → Option (Int32 × cj_S)
  | 0, _ => none
  | n + 1, s4 => cj_bd (f_X9_isAt s4 48 57) (fun (x7 : Int32) =>
 if x7 = 0 then K s4 else
 if 3 ≤ ((s4 0 8) - y3) then K s4 else
 cj_gd y2 2 (
 cj_gd (s4 0 8) 60 (
 cj_gd y2 2 (
 cj_lt (cj_up2 s4 6 y2.toNatClampNeg (((10 * (s4 6 y2.toNatClampNeg)) + (s4 5 (s4 0 8).toNatClampNeg)) - 48)) (fun (s8 : cj_S) =>
 cj_lt (cj_up2 s8 0 8 ((s8 0 8) + 1)) (fun (s9 : cj_S) =>
 f_X9_numbered_L12 K y2 y3 n s9))))))
def f_X9_numbered (s0 : cj_S) (a1 : Int32) : Option (Int32 × cj_S) :=
  cj_gd a1 2 (
 cj_lt (cj_up2 s0 6 a1.toNatClampNeg 0) (fun (s1 : cj_S) =>
 f_X9_numbered_L12 (fun (s10 : cj_S) =>
 if (s10 0 8) ≤ (s0 0 8) then some (0, s10) else
 some (1, s10)) a1 (s0 0 8) cj_FU s1))
def f_X9_numbersOf (a0 : Int32) : Option (Int32) :=
  if a0 = 100 then some 2 else
 if a0 = 115 then some 2 else
 if a0 = 108 then some 1 else
 if a0 = 98 then some 1 else
 if a0 = 118 then some 1 else
 if a0 = 109 then some 1 else
 some 0
def f_X9_reads (s0 : cj_S) : Option (Int32 × cj_S) :=
  cj_bd (f_X9_isAt s0 33 126) (fun (x2 : Int32) =>
 cj_lt (fun (x4 : Int32) => cj_lt (cj_up2 s0 0 13 x4) (fun (s5 : cj_S) =>
 cj_bd (f_X9_numbersOf (s5 0 13)) (fun (x7 : Int32) =>
 if x7 = 0 then some (0, s5) else
 cj_lt (cj_up2 s5 0 8 ((s5 0 8) + 1)) (fun (s8 : cj_S) =>
 cj_bp (f_X9_numbered s8 0) (fun (x10 : Int32) (s11 : cj_S) =>
 cj_lt (fun (x13 : Int32) (s14 : cj_S) => if x13 = 0 then some (0, s14) else
 cj_bp (f_X9_sign s14 59) (fun (x16 : Int32) (s17 : cj_S) =>
 if x16 = 0 then some (0, s17) else
 some (1, s17))) (fun K12 =>
 if x10 = 0 then K12 x10 s11 else
 if x7 = 2 then cj_bp (f_X9_sign s11 44) (fun (x19 : Int32) (s20 : cj_S) =>
 cj_lt (fun (x22 : Int32) (s23 : cj_S) => K12 x22 s23) (fun K21 =>
 cj_lt (fun (s25 : cj_S) => K21 0 s25) (fun K24 =>
 if x19 = 0 then K24 s20 else
 cj_bp (f_X9_numbered s20 1) (fun (x27 : Int32) (s28 : cj_S) =>
 if x27 = 0 then K24 s28 else
 K21 1 s28)))) else
 K12 x10 s11)))))) (fun K3 =>
 if x2 = 0 then K3 0 else
 cj_gd (s0 0 8) 60 (
 K3 (s0 5 (s0 0 8).toNatClampNeg))))
def f_X9_calls (s0 : cj_S) : Option (Int32 × cj_S) :=
  if (s0 0 13) = 98 then cj_bp (f_X9_sheet s0 (s0 6 0)) (fun (x2 : Int32) (s3 : cj_S) =>
 some (x2, s3)) else
 if (s0 0 13) = 100 then cj_bp (f_X9_draw s0 (s0 6 0) (s0 6 1)) (fun (x6 : Int32) (s7 : cj_S) =>
 some (x6, s7)) else
 if (s0 0 13) = 108 then cj_bp (f_X9_look s0 (s0 6 0)) (fun (x10 : Int32) (s11 : cj_S) =>
 some (x10, s11)) else
 if (s0 0 13) = 115 then cj_bp (f_X9_sell s0 (s0 6 0) (s0 6 1)) (fun (x14 : Int32) (s15 : cj_S) =>
 some (x14, s15)) else
 if (s0 0 13) = 118 then cj_bp (f_X9_verdict s0 (s0 6 0)) (fun (x18 : Int32) (s19 : cj_S) =>
 some (x18, s19)) else
 cj_bp (f_X9_pass s0 (s0 6 0)) (fun (x22 : Int32) (s23 : cj_S) =>
 some (x22, s23))
def f_X9_plays_L22 (K : Int32 → cj_S → Option (Int32 × cj_S)) : Nat → Int32 → cj_S → Option (Int32 × cj_S)
  | 0, _, _ => none
  | n + 1, x5, s6 => if (s6 0 7) ≤ (s6 0 8) then K x5 s6 else
 if x5 = 0 then K x5 s6 else
 cj_lt (cj_up2 s6 0 9 (s6 0 8)) (fun (s9 : cj_S) =>
 cj_bp (f_X9_reads s9) (fun (x11 : Int32) (s12 : cj_S) =>
 cj_lt (fun (x14 : Int32) (s15 : cj_S) => cj_lt (fun (x17 : Int32) => cj_lt (fun (x19 : Int32) => cj_lt (cj_up2 s15 0 10 x19) (fun (s20 : cj_S) =>
 cj_lt (fun (x22 : Int32) => cj_lt (cj_up2 s20 0 11 x22) (fun (s23 : cj_S) =>
 cj_lt (cj_up2 s23 0 12 ((s23 0 12) + 1)) (fun (s24 : cj_S) =>
 f_X9_plays_L22 K n x17 s24))) (fun K21 =>
 if x11 = 0 then K21 ((s20 0 8) - (s20 0 9)) else
 K21 x14))) (fun K18 =>
 if x11 = 0 then K18 1 else
 K18 2)) (fun K16 =>
 cj_lt (fun (u : Unit) => K16 0) (fun K25 =>
 if x11 = 0 then K25 () else
 if x14 < 0 then K25 () else
 K16 1))) (fun K13 =>
 if x11 = 0 then K13 0 s12 else
 cj_bp (f_X9_calls s12) (fun (x27 : Int32) (s28 : cj_S) =>
 K13 x27 s28))))
def f_X9_plays (s0 : cj_S) : Option (Int32 × cj_S) :=
  cj_lt (cj_up2 s0 0 5 1) (fun (s1 : cj_S) =>
 cj_lt (cj_up2 s1 0 8 0) (fun (s2 : cj_S) =>
 cj_lt (cj_up2 s2 0 9 0) (fun (s3 : cj_S) =>
 cj_lt (cj_up2 s3 0 12 0) (fun (s4 : cj_S) =>
 f_X9_plays_L22 (fun (x29 : Int32) (s30 : cj_S) =>
 cj_lt (cj_up2 s30 0 5 0) (fun (s31 : cj_S) =>
 cj_gp (x29 = 0 ∨ x29 = 1) (
 some (x29, s31)))) cj_FU 1 s4))))
def f_X9_fault (s0 : cj_S) (a1 : Int32) : Option (Int32 × cj_S) :=
  cj_bd (f_X9_in a1 0 2) (fun (x2 : Int32) =>
 if x2 = 0 then some ((-1000001), s0) else
 cj_bd (f_X9_copies 1 3 s0) (fun (s4 : cj_S) =>
 cj_bp (f_X9_plays s4) (fun (x6 : Int32) (s7 : cj_S) =>
 cj_bd (f_X9_copies 3 1 s7) (fun (s9 : cj_S) =>
 if x6 = 0 then if a1 = 0 then some (s9 0 9, s9) else
 if a1 = 1 then some (s9 0 10, s9) else
 some (s9 0 11, s9) else
 some ((-1000004), s9)))))
def f_X9_play (s0 : cj_S) : Option (Int32 × cj_S) :=
  cj_bd (f_X9_copies 1 3 s0) (fun (s2 : cj_S) =>
 cj_bp (f_X9_plays s2) (fun (x4 : Int32) (s5 : cj_S) =>
 cj_bd (f_X9_copies 3 1 s5) (fun (s7 : cj_S) =>
 if x4 = 0 then some ((-1000002), s7) else
 cj_bd (f_X9_changes s7) (fun (s9 : cj_S) =>
 cj_bp (f_X9_plays s9) (fun (x11 : Int32) (s12 : cj_S) =>
 if x11 = 0 then some ((-1000004), s12) else
 some (s12 0 12, s12))))))
end
section
/-! the native rows: arraycopy over whole rows, and a float's own bits -/
section CJ6
variable {Y : cj_Y} {X : cj_X} {o : Option Value × cj_Mm} {μ : cj_Mm} {pc : Nat} {lv : List (Nat × Value)} {st : List Value} {cc : ByteArray} {nL d : Nat} {own : String} {ret : Option FieldType}
theorem cj_rawf (C : cj_C Y X cc nL own d ret) {index : Nat} {x : UInt32} (hl : Cond.methodLink own index ⟨"java/lang/Float", "floatToRawIntBits", "(F)I"⟩ ∈ cj_ws) (hn : Cond.native ⟨"java/lang/Float", "floatToRawIntBits", "(F)I"⟩ ∈ cj_ws) (hs : Cond.static ⟨"java/lang/Float", "floatToRawIntBits", "(F)I"⟩ ∈ cj_ws) (hi : Cond.initialized "java/lang/Float" ∈ cj_ws) (hd : 1 ≤ d) (hcat : (st.map fun v => v.category).sum ≤ 8) (hdg : decode cc pc = .ok (.invokestatic index, 3)) (kk : cj_G Y X o μ (pc + 3) lv (.int x.toInt32 :: st)) : cj_G Y X o μ pc lv (.float x :: st) := by
  intro H locs ls hW hS hL
  obtain ⟨hx, hb, hml, hown, hts, hK, hI, hlk, hret, hRf, hRl, hRc, hRs⟩ := id C
  exact vn_f2i hx hb hL.1.symm hown (hts _ hl) (hts _ hn) (hts _ hs) (hts _ hi) (by rw [hRf]; exact hd) (by rw [hRl]; omega) hdg (kk H locs ls hW hS hL)
set_option maxHeartbeats 1000000 in
theorem cj_acopy (C : cj_C Y X cc nL own d ret) {index g1 k1 g2 k2 n : Nat} {v : Int32} (he1 : Y.1 Y.2.2.2 g1 k1 = some (fun f => .inl (Y.2.2.1.1, n, .inl f))) (he2 : Y.1 Y.2.2.2 g2 k2 = some (fun f => .inl (Y.2.2.1.1, n, .inl f))) (hv : v.toInt = (n : Int)) (hl : Cond.methodLink own index arraycopyName ∈ cj_ws) (hn : Cond.native arraycopyName ∈ cj_ws) (hs : Cond.static arraycopyName ∈ cj_ws) (hi : Cond.initialized "java/lang/System" ∈ cj_ws) (hd : 1 ≤ d) (hdg : decode cc pc = .ok (.invokestatic index, 3)) (kk : cj_G Y X o (cj_upG μ g2 (cj_upr (μ g2) k2 (va_cpy (μ g1 k1) (μ g2 k2) 0 0 n))) (pc + 3) lv []) : cj_G Y X o μ pc lv [.int v, .int 0, .ref (Y.2.2.2 g2 k2), .int 0, .ref (Y.2.2.2 g1 k1)] := by
  intro H locs ls hW hS hL
  obtain ⟨hx, hb, hml, hown, hts, hK, hI, hlk, hret, hRf, hRl, hRc, hRs⟩ := id C
  intro T hT XS
  have c1 : H[Y.2.2.2 g1 k1]? = some (vp_cell Y.2.2.1.1 (n, .inl (μ g1 k1))) := hW g1 k1 _ he1
  have c2 : H[Y.2.2.2 g2 k2]? = some (vp_cell Y.2.2.1.1 (n, .inl (μ g2 k2))) := hW g2 k2 _ he2
  obtain ⟨-, kA, hkA, cm, hkk⟩ := (hK.1.2 0 _ rfl).1 n (fun j => .int (μ g1 k1 j))
  obtain ⟨-, kB, hkB, cm2, hkk2⟩ := (hK.1.2 0 _ rfl).1 n (fun j => .int (μ g2 k2 j))
  have hvn : v.toNatClampNeg = n := by show v.toInt.toNat = n; omega
  have hv0 : ¬ v < 0 := by
    intro q
    have q2 := Int32.lt_iff_toInt_lt.mp q
    have q3 : (0 : Int32).toInt = 0 := rfl
    omega
  obtain ⟨vm', X', step⟩ := XS.arraycopy hx hown (hts _ hl) (hts _ hn) (hts _ hs) (hts _ hi) (src := Y.2.2.2 g1 k1) (dst := Y.2.2.2 g2 k2) (cs := vp_cell Y.2.2.1.1 (n, .inl (μ g1 k1))) (cd := vp_cell Y.2.2.1.1 (n, .inl (μ g2 k2))) (srcPos := 0) (destPos := 0) (n := v) (by rw [hT]; exact c1) (by rw [hT]; exact c2)
    (fun _ h => by cases h) (fun _ h => by cases h) (fun h => by cases h) (fun h => by cases h) hkA hkB hkk hkk2 (by simp [refKind]) (by decide) (by decide) hv0
    (by rw [hv]; show ¬ _ > ((arrV _ n (fun j => .int (μ g1 k1 j))).slots.size : Int); rw [arrV_size]; show ¬ (0 : Int) + _ > _; omega)
    (by rw [hv]; show ¬ _ > ((arrV _ n (fun j => .int (μ g2 k2 j))).slots.size : Int); rw [arrV_size]; show ¬ (0 : Int) + _ > _; omega)
    (fun vm₁ _ i hi => by
      have e : (vp_cell Y.2.2.1.1 (n, .inl (μ g1 k1))).slots.getD ((0 : Int32).toNatClampNeg + i) .null = .int (μ g1 k1 ((0 : Int32).toNatClampNeg + i)) := by
        show (arrV _ n (fun j => .int (μ g1 k1 j))).slots.getD _ _ = _
        rw [Array.getD_eq_getD_getElem?, arrV_read _ _ (by show 0 + i < n; omega)]
        rfl
      exact ⟨by rw [e]; rfl, by rw [e]; exact trivial⟩)
    (g := F0 X.2.2.2.2.2.1 pc ls [.int v, .int 0, .ref (Y.2.2.2 g2 k2), .int 0, .ref (Y.2.2.2 g1 k1)]) rfl hL.1 (rest := []) rfl (by rw [hb]; exact hdg) (by rw [hRf]; exact hd) (by
      have hw : nativeFrameWords "java/lang/System" "arraycopy" 5 ≤ 24 := by decide
      show 2 * 0 + 0 + _ ≤ _
      rw [hRl]
      omega)
  have e1 : copied (vp_cell Y.2.2.1.1 (n, .inl (μ g1 k1))) (vp_cell Y.2.2.1.1 (n, .inl (μ g2 k2))) 0 0 v = vp_cell Y.2.2.1.1 (n, .inl (va_cpy (μ g1 k1) (μ g2 k2) 0 0 n)) := by
    have q := va_copied (fun z => Value.int z) Y.2.2.1.1 Y.2.2.1.1 (n0 := n) (n1 := n) (sp := 0) (dp := 0) (n := n) (μ g1 k1) (μ g2 k2) (by omega)
    rw [← hvn] at q
    exact hvn ▸ q
  rw [e1] at X' step
  have hlt : Y.2.2.2 g2 k2 < H.size := (Array.getElem?_eq_some_iff.mp c2).1
  have oq : ∀ q : Nat, q ≠ Y.2.2.2 g2 k2 → (H.setIfInBounds (Y.2.2.2 g2 k2) (vp_cell Y.2.2.1.1 (n, .inl (va_cpy (μ g1 k1) (μ g2 k2) 0 0 n))))[q]? = H[q]? := fun q hq => by simp [Array.getElem?_setIfInBounds, Ne.symm hq]
  obtain ⟨t, a1, b1⟩ := kk _ _ ls (hW.put hI he2 (show (H.setIfInBounds (Y.2.2.2 g2 k2) _)[Y.2.2.2 g2 k2]? = some _ by simp [hlt]) oq) ⟨by simp; exact hS.1, fun q p1 p2 => by
      rw [oq q (fun e => p2 ⟨g2, k2, _, he2, e⟩)]
      exact hS.2.1 q p1 p2, fun q hq => by
      rcases List.mem_append.mp hq with h | h
      · exact hS.2.2 q h
      · obtain ⟨j, -, hj⟩ := List.mem_map.mp h
        rw [← hj]
        exact ⟨g2, k2, _, he2, rfl⟩⟩ hL _ (by rw [← hT]; rfl) X'
  exact ⟨t, step t a1, b1⟩
end CJ6
end
section
set_option maxHeartbeats 4000000 in
set_option maxRecDepth 100000 in
theorem ct_J9_min_7cf53 {l : Launch} {Y : cj_Y} (hI : cj_Ij Y.1 Y.2.2.2) {μ : cj_Mm} {a0 : Int32} {a1 : Int32} {r : Int32} (hf : f_J9_min_7cf53 a0 a1 = some r) : cj_Ct l Y yJ9_min_7cf53 cJ9_min_7cf53 2 (some .int) 0 [.int a0, .int a1] (μ) (some (.int r)) (μ) := by
  refine cj_Ct.ofF (by decide +kernel) hI (Nat.le_of_ble_eq_true rfl) [(0, .int a0), (1, .int a1)] rfl (fun X hX C => ?_)
  subst hX
  have C : cj_C Y X cJ9_min_7cf53 2 RJ9 0 (some .int) := C
  unfold f_J9_min_7cf53 at hf
  refine cj_iload_n C dJ9_min_7cf53_0 rfl 0 rfl ?_
  refine cj_iload_n C dJ9_min_7cf53_1 rfl 1 rfl ?_
  refine cj_ic_gt C 9 dJ9_min_7cf53_2 rfl hf (fun hf => ?_) (fun hf => ?_)
  · refine cj_iload_n C dJ9_min_7cf53_9 rfl 1 rfl ?_
    cases hf
    exact cj_iret C rfl dJ9_min_7cf53_10
  · refine cj_iload_n C dJ9_min_7cf53_5 rfl 0 rfl ?_
    refine cj_goto C 10 dJ9_min_7cf53_6 rfl ?_
    cases hf
    exact cj_iret C rfl dJ9_min_7cf53_10
set_option maxHeartbeats 4000000 in
set_option maxRecDepth 100000 in
theorem ct_X8_copyRow {l : Launch} {D : va_G} {z : cj_Zc} {ad : cj_Ad} (hI : cj_Ij (cj_EL z) ad) {m0 : cj_Mm} {g1 k1 g2 k2 n : Nat} (h1 : cj_EL z ad g1 k1 = some (fun f => .inl (z.1, n, .inl f))) (h2 : cj_EL z ad g2 k2 = some (fun f => .inl (z.1, n, .inl f))) (hn : n ≤ 1000) : cj_Ct l (cj_YL D z ad) yX8_copyRow cX8_copyRow 2 none 1 [.ref (ad g1 k1), .ref (ad g2 k2)] m0 none (cj_upG m0 g2 (cj_upr (m0 g2) k2 (va_cpy (m0 g1 k1) (m0 g2 k2) 0 0 n))) := by
  refine cj_Ct.of (by decide +kernel) hI (Nat.le_of_ble_eq_true rfl) [(0, .ref (ad g1 k1)), (1, .ref (ad g2 k2))] rfl (fun X hX C => ?_)
  subst hX
  have C : cj_C (cj_YL D z ad) X cX8_copyRow 2 RX8 1 none := C
  refine cj_aload_n C dX8_copyRow_0 rfl 0 rfl ?_
  refine cj_iconst C 0 dX8_copyRow_1 rfl ?_
  refine cj_aload_n C dX8_copyRow_2 rfl 1 rfl ?_
  refine cj_iconst C 0 dX8_copyRow_3 rfl ?_
  refine cj_aload_n C dX8_copyRow_4 rfl 0 rfl ?_
  refine cj_alen C h1 rfl dX8_copyRow_5 ?_
  refine cj_aload_n C dX8_copyRow_6 rfl 1 rfl ?_
  refine cj_alen C h2 rfl dX8_copyRow_7 ?_
  have hm : f_J9_min_7cf53 (Int32.ofNat n) (Int32.ofNat n) = some (Int32.ofNat n) := by
    unfold f_J9_min_7cf53
    by_cases h : Int32.ofNat n < Int32.ofNat n
    · first | rw [if_pos h] | rfl
    · first | rw [if_neg h] | rfl
  refine cj_cS2i C cw_J9_min_7cf53 (ct_J9_min_7cf53 hI hm) cjq_335 cjq_334 ⟨Nat.le_of_ble_eq_true rfl, Nat.le_of_ble_eq_true rfl⟩ (Nat.le_of_ble_eq_true rfl) dX8_copyRow_8 ?_
  refine cj_acopy C (n := n) h1 h2 (nI_toInt (by omega)) cjq_337 cjq_339 cjq_338 cjq_43 (by decide) dX8_copyRow_11 ?_
  exact cj_vret C rfl dX8_copyRow_14
set_option maxHeartbeats 4000000 in
set_option maxRecDepth 100000 in
theorem ct_X3_copyFrom {l : Launch} {D : va_G} {z : cj_Zc} {ad : cj_Ad} (hI : cj_Ij (cj_EL z) ad) {gd gs : Nat} (hgd : cj_isC gd) (hgs : cj_isC gs) (hne : ¬ gd = gs) {m0 : cj_Mm} {r : cj_Mm} (hf : f_X3_copyFrom gd gs m0 = some r) : cj_Ct l (cj_YL D z ad) yX3_copyFrom cX3_copyFrom 2 none 2 [.ref (ad gd 1), .ref (ad gs 1)] (m0) none (r) := by
  refine cj_Ct.of (by decide +kernel) hI (Nat.le_of_ble_eq_true rfl) [(0, .ref (ad gd 1)), (1, .ref (ad gs 1))] rfl (fun X hX C => ?_)
  subst hX
  have C : cj_C (cj_YL D z ad) X cX3_copyFrom 2 RX3 2 none := C
  unfold f_X3_copyFrom at hf
  refine cj_aload_n C dX3_copyFrom_0 rfl 0 rfl ?_
  refine cj_aload_n C dX3_copyFrom_1 rfl 1 rfl ?_
  refine cj_get (v := .int (m0 gs 1 0)) (j := 0) C (eC_1 hgs) rfl rfl cj_in3 (by decide) rfl cjq_66 rfl dX3_copyFrom_2 ?_
  refine cj_put (j := 0) C (eC_1 hgd) rfl rfl rfl rfl cj_in3 tyX3_ok nmX3 (by decide) rfl cjq_66 rfl rfl rfl (Nat.le_of_ble_eq_true rfl) dX3_copyFrom_5 ?_
  refine cj_ltM hf (fun s1 hf => ?_)
  refine cj_aload_n C dX3_copyFrom_8 rfl 1 rfl ?_
  refine cj_get (v := .ref (ad gs 2)) (j := 1) C (eC_1 hgs) rfl rfl cj_in3 (by decide) rfl cjq_68 rfl dX3_copyFrom_9 ?_
  refine cj_aload_n C dX3_copyFrom_12 rfl 0 rfl ?_
  refine cj_get (v := .ref (ad gd 2)) (j := 1) C (eC_1 hgd) rfl rfl cj_in3 (by decide) rfl cjq_68 rfl dX3_copyFrom_13 ?_
  refine cj_cN2v C cw_X8_copyRow (ct_X8_copyRow hI (eC_2 hgs) (eC_2 hgd) (by decide)) cjq_332 cjn_X3_37 ⟨Nat.le_of_ble_eq_true rfl, Nat.le_of_ble_eq_true rfl⟩ (Nat.le_of_ble_eq_true rfl) dX3_copyFrom_16 ?_
  refine cj_ltM hf (fun s3 hf => ?_)
  refine cj_aload_n C dX3_copyFrom_19 rfl 1 rfl ?_
  refine cj_get (v := .ref (ad gs 3)) (j := 2) C (eC_1 hgs) rfl rfl cj_in3 (by decide) rfl cjq_70 rfl dX3_copyFrom_20 ?_
  refine cj_aload_n C dX3_copyFrom_23 rfl 0 rfl ?_
  refine cj_get (v := .ref (ad gd 3)) (j := 2) C (eC_1 hgd) rfl rfl cj_in3 (by decide) rfl cjq_70 rfl dX3_copyFrom_24 ?_
  refine cj_cN2v C cw_X8_copyRow (ct_X8_copyRow hI (eC_3 hgs) (eC_3 hgd) (by decide)) cjq_332 cjn_X3_37 ⟨Nat.le_of_ble_eq_true rfl, Nat.le_of_ble_eq_true rfl⟩ (Nat.le_of_ble_eq_true rfl) dX3_copyFrom_27 ?_
  refine cj_ltM hf (fun s5 hf => ?_)
  refine cj_aload_n C dX3_copyFrom_30 rfl 1 rfl ?_
  refine cj_get (v := .ref (ad gs 4)) (j := 3) C (eC_1 hgs) rfl rfl cj_in3 (by decide) rfl cjq_72 rfl dX3_copyFrom_31 ?_
  refine cj_aload_n C dX3_copyFrom_34 rfl 0 rfl ?_
  refine cj_get (v := .ref (ad gd 4)) (j := 3) C (eC_1 hgd) rfl rfl cj_in3 (by decide) rfl cjq_72 rfl dX3_copyFrom_35 ?_
  refine cj_cN2v C cw_X8_copyRow (ct_X8_copyRow hI (eC_4 hgs) (eC_4 hgd) (by decide)) cjq_332 cjn_X3_37 ⟨Nat.le_of_ble_eq_true rfl, Nat.le_of_ble_eq_true rfl⟩ (Nat.le_of_ble_eq_true rfl) dX3_copyFrom_38 ?_
  refine cj_ltM hf (fun s7 hf => ?_)
  refine cj_aload_n C dX3_copyFrom_41 rfl 1 rfl ?_
  refine cj_get (v := .ref (ad gs 5)) (j := 4) C (eC_1 hgs) rfl rfl cj_in3 (by decide) rfl cjq_74 rfl dX3_copyFrom_42 ?_
  refine cj_aload_n C dX3_copyFrom_45 rfl 0 rfl ?_
  refine cj_get (v := .ref (ad gd 5)) (j := 4) C (eC_1 hgd) rfl rfl cj_in3 (by decide) rfl cjq_74 rfl dX3_copyFrom_46 ?_
  refine cj_cN2v C cw_X8_copyRow (ct_X8_copyRow hI (eC_5 hgs) (eC_5 hgd) (by decide)) cjq_332 cjn_X3_37 ⟨Nat.le_of_ble_eq_true rfl, Nat.le_of_ble_eq_true rfl⟩ (Nat.le_of_ble_eq_true rfl) dX3_copyFrom_49 ?_
  refine cj_ltM hf (fun s9 hf => ?_)
  refine cj_aload_n C dX3_copyFrom_52 rfl 1 rfl ?_
  refine cj_get (v := .ref (ad gs 6)) (j := 5) C (eC_1 hgs) rfl rfl cj_in3 (by decide) rfl cjq_76 rfl dX3_copyFrom_53 ?_
  refine cj_aload_n C dX3_copyFrom_56 rfl 0 rfl ?_
  refine cj_get (v := .ref (ad gd 6)) (j := 5) C (eC_1 hgd) rfl rfl cj_in3 (by decide) rfl cjq_76 rfl dX3_copyFrom_57 ?_
  refine cj_cN2v C cw_X8_copyRow (ct_X8_copyRow hI (eC_6 hgs) (eC_6 hgd) (by decide)) cjq_332 cjn_X3_37 ⟨Nat.le_of_ble_eq_true rfl, Nat.le_of_ble_eq_true rfl⟩ (Nat.le_of_ble_eq_true rfl) dX3_copyFrom_60 ?_
  refine cj_ltM hf (fun s11 hf => ?_)
  refine cj_aload_n C dX3_copyFrom_63 rfl 1 rfl ?_
  refine cj_get (v := .ref (ad gs 7)) (j := 6) C (eC_1 hgs) rfl rfl cj_in3 (by decide) rfl cjq_78 rfl dX3_copyFrom_64 ?_
  refine cj_aload_n C dX3_copyFrom_67 rfl 0 rfl ?_
  refine cj_get (v := .ref (ad gd 7)) (j := 6) C (eC_1 hgd) rfl rfl cj_in3 (by decide) rfl cjq_78 rfl dX3_copyFrom_68 ?_
  refine cj_cN2v C cw_X8_copyRow (ct_X8_copyRow hI (eC_7 hgs) (eC_7 hgd) (by decide)) cjq_332 cjn_X3_37 ⟨Nat.le_of_ble_eq_true rfl, Nat.le_of_ble_eq_true rfl⟩ (Nat.le_of_ble_eq_true rfl) dX3_copyFrom_71 ?_
  refine cj_ltM hf (fun s13 hf => ?_)
  refine cj_aload_n C dX3_copyFrom_74 rfl 1 rfl ?_
  refine cj_get (v := .ref (ad gs 8)) (j := 7) C (eC_1 hgs) rfl rfl cj_in3 (by decide) rfl cjq_80 rfl dX3_copyFrom_75 ?_
  refine cj_aload_n C dX3_copyFrom_78 rfl 0 rfl ?_
  refine cj_get (v := .ref (ad gd 8)) (j := 7) C (eC_1 hgd) rfl rfl cj_in3 (by decide) rfl cjq_80 rfl dX3_copyFrom_79 ?_
  refine cj_cN2v C cw_X8_copyRow (ct_X8_copyRow hI (eC_8 hgs) (eC_8 hgd) (by decide)) cjq_332 cjn_X3_37 ⟨Nat.le_of_ble_eq_true rfl, Nat.le_of_ble_eq_true rfl⟩ (Nat.le_of_ble_eq_true rfl) dX3_copyFrom_82 ?_
  refine cj_ltM hf (fun s15 hf => ?_)
  cases hf
  exact cj_vret C rfl dX3_copyFrom_85
set_option maxHeartbeats 4000000 in
set_option maxRecDepth 100000 in
theorem ct_X6_copyFrom {l : Launch} {D : va_G} {z : cj_Zc} {ad : cj_Ad} (hI : cj_Ij (cj_EL z) ad) {gd gs : Nat} (hgd : cj_isC gd) (hgs : cj_isC gs) (hne : ¬ gd = gs) {m0 : cj_Mm} {r : cj_Mm} (hf : f_X6_copyFrom gd gs m0 = some r) : cj_Ct l (cj_YL D z ad) yX6_copyFrom cX6_copyFrom 2 none 2 [.ref (ad gd 9), .ref (ad gs 9)] (m0) none (r) := by
  refine cj_Ct.of (by decide +kernel) hI (Nat.le_of_ble_eq_true rfl) [(0, .ref (ad gd 9)), (1, .ref (ad gs 9))] rfl (fun X hX C => ?_)
  subst hX
  have C : cj_C (cj_YL D z ad) X cX6_copyFrom 2 RX6 2 none := C
  unfold f_X6_copyFrom at hf
  refine cj_aload_n C dX6_copyFrom_0 rfl 0 rfl ?_
  refine cj_aload_n C dX6_copyFrom_1 rfl 1 rfl ?_
  refine cj_get (v := .int (m0 gs 9 0)) (j := 0) C (eC_9 hgs) rfl rfl cj_in6 (by decide) rfl cjq_105 rfl dX6_copyFrom_2 ?_
  refine cj_put (j := 0) C (eC_9 hgd) rfl rfl rfl rfl cj_in6 tyX6_ok nmX6 (by decide) rfl cjq_105 rfl rfl rfl (Nat.le_of_ble_eq_true rfl) dX6_copyFrom_5 ?_
  refine cj_ltM hf (fun s1 hf => ?_)
  refine cj_aload_n C dX6_copyFrom_8 rfl 0 rfl ?_
  refine cj_aload_n C dX6_copyFrom_9 rfl 1 rfl ?_
  refine cj_get (v := .int (s1 gs 9 1)) (j := 1) C (eC_9 hgs) rfl rfl cj_in6 (by decide) rfl cjq_108 rfl dX6_copyFrom_10 ?_
  refine cj_put (j := 1) C (eC_9 hgd) rfl rfl rfl rfl cj_in6 tyX6_ok nmX6 (by decide) rfl cjq_108 rfl rfl rfl (Nat.le_of_ble_eq_true rfl) dX6_copyFrom_13 ?_
  refine cj_ltM hf (fun s2 hf => ?_)
  refine cj_aload_n C dX6_copyFrom_16 rfl 1 rfl ?_
  refine cj_get (v := .ref (ad gs 10)) (j := 2) C (eC_9 hgs) rfl rfl cj_in6 (by decide) rfl cjq_110 rfl dX6_copyFrom_17 ?_
  refine cj_aload_n C dX6_copyFrom_20 rfl 0 rfl ?_
  refine cj_get (v := .ref (ad gd 10)) (j := 2) C (eC_9 hgd) rfl rfl cj_in6 (by decide) rfl cjq_110 rfl dX6_copyFrom_21 ?_
  refine cj_cN2v C cw_X8_copyRow (ct_X8_copyRow hI (eC_10 hgs) (eC_10 hgd) (by decide)) cjq_332 cjn_X6_31 ⟨Nat.le_of_ble_eq_true rfl, Nat.le_of_ble_eq_true rfl⟩ (Nat.le_of_ble_eq_true rfl) dX6_copyFrom_24 ?_
  refine cj_ltM hf (fun s4 hf => ?_)
  refine cj_aload_n C dX6_copyFrom_27 rfl 1 rfl ?_
  refine cj_get (v := .ref (ad gs 11)) (j := 3) C (eC_9 hgs) rfl rfl cj_in6 (by decide) rfl cjq_113 rfl dX6_copyFrom_28 ?_
  refine cj_aload_n C dX6_copyFrom_31 rfl 0 rfl ?_
  refine cj_get (v := .ref (ad gd 11)) (j := 3) C (eC_9 hgd) rfl rfl cj_in6 (by decide) rfl cjq_113 rfl dX6_copyFrom_32 ?_
  refine cj_cN2v C cw_X8_copyRow (ct_X8_copyRow hI (eC_11 hgs) (eC_11 hgd) (by decide)) cjq_332 cjn_X6_31 ⟨Nat.le_of_ble_eq_true rfl, Nat.le_of_ble_eq_true rfl⟩ (Nat.le_of_ble_eq_true rfl) dX6_copyFrom_35 ?_
  refine cj_ltM hf (fun s6 hf => ?_)
  refine cj_aload_n C dX6_copyFrom_38 rfl 1 rfl ?_
  refine cj_get (v := .ref (ad gs 12)) (j := 4) C (eC_9 hgs) rfl rfl cj_in6 (by decide) rfl cjq_115 rfl dX6_copyFrom_39 ?_
  refine cj_aload_n C dX6_copyFrom_42 rfl 0 rfl ?_
  refine cj_get (v := .ref (ad gd 12)) (j := 4) C (eC_9 hgd) rfl rfl cj_in6 (by decide) rfl cjq_115 rfl dX6_copyFrom_43 ?_
  refine cj_cN2v C cw_X8_copyRow (ct_X8_copyRow hI (eC_12 hgs) (eC_12 hgd) (by decide)) cjq_332 cjn_X6_31 ⟨Nat.le_of_ble_eq_true rfl, Nat.le_of_ble_eq_true rfl⟩ (Nat.le_of_ble_eq_true rfl) dX6_copyFrom_46 ?_
  refine cj_ltM hf (fun s8 hf => ?_)
  refine cj_aload_n C dX6_copyFrom_49 rfl 1 rfl ?_
  refine cj_get (v := .ref (ad gs 13)) (j := 5) C (eC_9 hgs) rfl rfl cj_in6 (by decide) rfl cjq_117 rfl dX6_copyFrom_50 ?_
  refine cj_aload_n C dX6_copyFrom_53 rfl 0 rfl ?_
  refine cj_get (v := .ref (ad gd 13)) (j := 5) C (eC_9 hgd) rfl rfl cj_in6 (by decide) rfl cjq_117 rfl dX6_copyFrom_54 ?_
  refine cj_cN2v C cw_X8_copyRow (ct_X8_copyRow hI (eC_13 hgs) (eC_13 hgd) (by decide)) cjq_332 cjn_X6_31 ⟨Nat.le_of_ble_eq_true rfl, Nat.le_of_ble_eq_true rfl⟩ (Nat.le_of_ble_eq_true rfl) dX6_copyFrom_57 ?_
  refine cj_ltM hf (fun s10 hf => ?_)
  cases hf
  exact cj_vret C rfl dX6_copyFrom_60
set_option maxHeartbeats 4000000 in
set_option maxRecDepth 100000 in
theorem ct_X2_copyFrom {l : Launch} {D : va_G} {z : cj_Zc} {ad : cj_Ad} (hI : cj_Ij (cj_EL z) ad) {gd gs : Nat} (hgd : cj_isC gd) (hgs : cj_isC gs) (hne : ¬ gd = gs) {m0 : cj_Mm} {r : cj_Mm} (hf : f_X2_copyFrom gd gs m0 = some r) : cj_Ct l (cj_YL D z ad) yX2_copyFrom cX2_copyFrom 2 none 2 [.ref (ad gd 14), .ref (ad gs 14)] (m0) none (r) := by
  refine cj_Ct.of (by decide +kernel) hI (Nat.le_of_ble_eq_true rfl) [(0, .ref (ad gd 14)), (1, .ref (ad gs 14))] rfl (fun X hX C => ?_)
  subst hX
  have C : cj_C (cj_YL D z ad) X cX2_copyFrom 2 RX2 2 none := C
  unfold f_X2_copyFrom at hf
  refine cj_aload_n C dX2_copyFrom_0 rfl 0 rfl ?_
  refine cj_aload_n C dX2_copyFrom_1 rfl 1 rfl ?_
  refine cj_get (v := .int (m0 gs 14 0)) (j := 0) C (eC_14 hgs) rfl rfl cj_in2 (by decide) rfl cjq_138 rfl dX2_copyFrom_2 ?_
  refine cj_put (j := 0) C (eC_14 hgd) rfl rfl rfl rfl cj_in2 tyX2_ok nmX2 (by decide) rfl cjq_138 rfl rfl rfl (Nat.le_of_ble_eq_true rfl) dX2_copyFrom_5 ?_
  refine cj_ltM hf (fun s1 hf => ?_)
  refine cj_aload_n C dX2_copyFrom_8 rfl 1 rfl ?_
  refine cj_get (v := .ref (ad gs 15)) (j := 1) C (eC_14 hgs) rfl rfl cj_in2 (by decide) rfl cjq_140 rfl dX2_copyFrom_9 ?_
  refine cj_aload_n C dX2_copyFrom_12 rfl 0 rfl ?_
  refine cj_get (v := .ref (ad gd 15)) (j := 1) C (eC_14 hgd) rfl rfl cj_in2 (by decide) rfl cjq_140 rfl dX2_copyFrom_13 ?_
  refine cj_cN2v C cw_X8_copyRow (ct_X8_copyRow hI (eC_15 hgs) (eC_15 hgd) (by decide)) cjq_332 cjn_X2_34 ⟨Nat.le_of_ble_eq_true rfl, Nat.le_of_ble_eq_true rfl⟩ (Nat.le_of_ble_eq_true rfl) dX2_copyFrom_16 ?_
  refine cj_ltM hf (fun s3 hf => ?_)
  refine cj_aload_n C dX2_copyFrom_19 rfl 1 rfl ?_
  refine cj_get (v := .ref (ad gs 16)) (j := 2) C (eC_14 hgs) rfl rfl cj_in2 (by decide) rfl cjq_142 rfl dX2_copyFrom_20 ?_
  refine cj_aload_n C dX2_copyFrom_23 rfl 0 rfl ?_
  refine cj_get (v := .ref (ad gd 16)) (j := 2) C (eC_14 hgd) rfl rfl cj_in2 (by decide) rfl cjq_142 rfl dX2_copyFrom_24 ?_
  refine cj_cN2v C cw_X8_copyRow (ct_X8_copyRow hI (eC_16 hgs) (eC_16 hgd) (by decide)) cjq_332 cjn_X2_34 ⟨Nat.le_of_ble_eq_true rfl, Nat.le_of_ble_eq_true rfl⟩ (Nat.le_of_ble_eq_true rfl) dX2_copyFrom_27 ?_
  refine cj_ltM hf (fun s5 hf => ?_)
  refine cj_aload_n C dX2_copyFrom_30 rfl 1 rfl ?_
  refine cj_get (v := .ref (ad gs 17)) (j := 3) C (eC_14 hgs) rfl rfl cj_in2 (by decide) rfl cjq_144 rfl dX2_copyFrom_31 ?_
  refine cj_aload_n C dX2_copyFrom_34 rfl 0 rfl ?_
  refine cj_get (v := .ref (ad gd 17)) (j := 3) C (eC_14 hgd) rfl rfl cj_in2 (by decide) rfl cjq_144 rfl dX2_copyFrom_35 ?_
  refine cj_cN2v C cw_X8_copyRow (ct_X8_copyRow hI (eC_17 hgs) (eC_17 hgd) (by decide)) cjq_332 cjn_X2_34 ⟨Nat.le_of_ble_eq_true rfl, Nat.le_of_ble_eq_true rfl⟩ (Nat.le_of_ble_eq_true rfl) dX2_copyFrom_38 ?_
  refine cj_ltM hf (fun s7 hf => ?_)
  refine cj_aload_n C dX2_copyFrom_41 rfl 1 rfl ?_
  refine cj_get (v := .ref (ad gs 18)) (j := 4) C (eC_14 hgs) rfl rfl cj_in2 (by decide) rfl cjq_146 rfl dX2_copyFrom_42 ?_
  refine cj_aload_n C dX2_copyFrom_45 rfl 0 rfl ?_
  refine cj_get (v := .ref (ad gd 18)) (j := 4) C (eC_14 hgd) rfl rfl cj_in2 (by decide) rfl cjq_146 rfl dX2_copyFrom_46 ?_
  refine cj_cN2v C cw_X8_copyRow (ct_X8_copyRow hI (eC_18 hgs) (eC_18 hgd) (by decide)) cjq_332 cjn_X2_34 ⟨Nat.le_of_ble_eq_true rfl, Nat.le_of_ble_eq_true rfl⟩ (Nat.le_of_ble_eq_true rfl) dX2_copyFrom_49 ?_
  refine cj_ltM hf (fun s9 hf => ?_)
  refine cj_aload_n C dX2_copyFrom_52 rfl 1 rfl ?_
  refine cj_get (v := .ref (ad gs 19)) (j := 5) C (eC_14 hgs) rfl rfl cj_in2 (by decide) rfl cjq_148 rfl dX2_copyFrom_53 ?_
  refine cj_aload_n C dX2_copyFrom_56 rfl 0 rfl ?_
  refine cj_get (v := .ref (ad gd 19)) (j := 5) C (eC_14 hgd) rfl rfl cj_in2 (by decide) rfl cjq_148 rfl dX2_copyFrom_57 ?_
  refine cj_cN2v C cw_X8_copyRow (ct_X8_copyRow hI (eC_19 hgs) (eC_19 hgd) (by decide)) cjq_332 cjn_X2_34 ⟨Nat.le_of_ble_eq_true rfl, Nat.le_of_ble_eq_true rfl⟩ (Nat.le_of_ble_eq_true rfl) dX2_copyFrom_60 ?_
  refine cj_ltM hf (fun s11 hf => ?_)
  refine cj_aload_n C dX2_copyFrom_63 rfl 1 rfl ?_
  refine cj_get (v := .ref (ad gs 20)) (j := 6) C (eC_14 hgs) rfl rfl cj_in2 (by decide) rfl cjq_149 rfl dX2_copyFrom_64 ?_
  refine cj_aload_n C dX2_copyFrom_67 rfl 0 rfl ?_
  refine cj_get (v := .ref (ad gd 20)) (j := 6) C (eC_14 hgd) rfl rfl cj_in2 (by decide) rfl cjq_149 rfl dX2_copyFrom_68 ?_
  refine cj_cN2v C cw_X8_copyRow (ct_X8_copyRow hI (eC_20 hgs) (eC_20 hgd) (by decide)) cjq_332 cjn_X2_34 ⟨Nat.le_of_ble_eq_true rfl, Nat.le_of_ble_eq_true rfl⟩ (Nat.le_of_ble_eq_true rfl) dX2_copyFrom_71 ?_
  refine cj_ltM hf (fun s13 hf => ?_)
  cases hf
  exact cj_vret C rfl dX2_copyFrom_74
set_option maxHeartbeats 4000000 in
set_option maxRecDepth 100000 in
theorem ct_X0_copyFrom {l : Launch} {D : va_G} {z : cj_Zc} {ad : cj_Ad} (hI : cj_Ij (cj_EL z) ad) {gd gs : Nat} (hgd : cj_isC gd) (hgs : cj_isC gs) (hne : ¬ gd = gs) {m0 : cj_Mm} {r : cj_Mm} (hf : f_X0_copyFrom gd gs m0 = some r) : cj_Ct l (cj_YL D z ad) yX0_copyFrom cX0_copyFrom 2 none 3 [.ref (ad gd 0), .ref (ad gs 0)] (m0) none (r) := by
  refine cj_Ct.of (by decide +kernel) hI (Nat.le_of_ble_eq_true rfl) [(0, .ref (ad gd 0)), (1, .ref (ad gs 0))] rfl (fun X hX C => ?_)
  subst hX
  have C : cj_C (cj_YL D z ad) X cX0_copyFrom 2 RX0 3 none := C
  unfold f_X0_copyFrom at hf
  refine cj_aload_n C dX0_copyFrom_0 rfl 0 rfl ?_
  refine cj_get (v := .ref (ad gd 1)) (j := 0) C (eC_0 hgd) rfl rfl cj_in0 (by decide) rfl cjq_165 rfl dX0_copyFrom_1 ?_
  refine cj_aload_n C dX0_copyFrom_4 rfl 1 rfl ?_
  refine cj_get (v := .ref (ad gs 1)) (j := 0) C (eC_0 hgs) rfl rfl cj_in0 (by decide) rfl cjq_165 rfl dX0_copyFrom_5 ?_
  obtain ⟨s2, h1, hf⟩ := cj_bd_s hf
  refine cj_cV1v C cw_X3_copyFrom (ct_X3_copyFrom hI hgd hgs hne h1) cjq_328 cjq_329 cjq_327 (eC_1 hgd) rfl rfl ⟨Nat.le_of_ble_eq_true rfl, Nat.le_of_ble_eq_true rfl⟩ (Nat.le_of_ble_eq_true rfl) dX0_copyFrom_8 ?_
  refine cj_aload_n C dX0_copyFrom_11 rfl 0 rfl ?_
  refine cj_get (v := .ref (ad gd 9)) (j := 1) C (eC_0 hgd) rfl rfl cj_in0 (by decide) rfl cjq_167 rfl dX0_copyFrom_12 ?_
  refine cj_aload_n C dX0_copyFrom_15 rfl 1 rfl ?_
  refine cj_get (v := .ref (ad gs 9)) (j := 1) C (eC_0 hgs) rfl rfl cj_in0 (by decide) rfl cjq_167 rfl dX0_copyFrom_16 ?_
  obtain ⟨s4, h3, hf⟩ := cj_bd_s hf
  refine cj_cV1v C cw_X6_copyFrom (ct_X6_copyFrom hI hgd hgs hne h3) cjq_341 cjq_342 cjq_340 (eC_9 hgd) rfl rfl ⟨Nat.le_of_ble_eq_true rfl, Nat.le_of_ble_eq_true rfl⟩ (Nat.le_of_ble_eq_true rfl) dX0_copyFrom_19 ?_
  refine cj_aload_n C dX0_copyFrom_22 rfl 0 rfl ?_
  refine cj_get (v := .ref (ad gd 14)) (j := 2) C (eC_0 hgd) rfl rfl cj_in0 (by decide) rfl cjq_169 rfl dX0_copyFrom_23 ?_
  refine cj_aload_n C dX0_copyFrom_26 rfl 1 rfl ?_
  refine cj_get (v := .ref (ad gs 14)) (j := 2) C (eC_0 hgs) rfl rfl cj_in0 (by decide) rfl cjq_169 rfl dX0_copyFrom_27 ?_
  obtain ⟨s6, h5, hf⟩ := cj_bd_s hf
  refine cj_cV1v C cw_X2_copyFrom (ct_X2_copyFrom hI hgd hgs hne h5) cjq_346 cjq_347 cjq_345 (eC_14 hgd) rfl rfl ⟨Nat.le_of_ble_eq_true rfl, Nat.le_of_ble_eq_true rfl⟩ (Nat.le_of_ble_eq_true rfl) dX0_copyFrom_30 ?_
  refine cj_aload_n C dX0_copyFrom_33 rfl 0 rfl ?_
  refine cj_aload_n C dX0_copyFrom_34 rfl 1 rfl ?_
  refine cj_get (v := .int (s6 gs 0 3)) (j := 3) C (eC_0 hgs) rfl rfl cj_in0 (by decide) rfl cjq_171 rfl dX0_copyFrom_35 ?_
  refine cj_put (j := 3) C (eC_0 hgd) rfl rfl rfl rfl cj_in0 tyX0_ok nmX0 (by decide) rfl cjq_171 rfl rfl rfl (Nat.le_of_ble_eq_true rfl) dX0_copyFrom_38 ?_
  refine cj_ltM hf (fun s7 hf => ?_)
  refine cj_aload_n C dX0_copyFrom_41 rfl 0 rfl ?_
  refine cj_aload_n C dX0_copyFrom_42 rfl 1 rfl ?_
  refine cj_get (v := .int (s7 gs 0 4)) (j := 4) C (eC_0 hgs) rfl rfl cj_in0 (by decide) rfl cjq_172 rfl dX0_copyFrom_43 ?_
  refine cj_put (j := 4) C (eC_0 hgd) rfl rfl rfl rfl cj_in0 tyX0_ok nmX0 (by decide) rfl cjq_172 rfl rfl rfl (Nat.le_of_ble_eq_true rfl) dX0_copyFrom_46 ?_
  refine cj_ltM hf (fun s8 hf => ?_)
  refine cj_aload_n C dX0_copyFrom_49 rfl 0 rfl ?_
  refine cj_aload_n C dX0_copyFrom_50 rfl 1 rfl ?_
  refine cj_get (v := .int (s8 gs 0 5)) (j := 5) C (eC_0 hgs) rfl rfl cj_in0 (by decide) rfl cjq_173 rfl dX0_copyFrom_51 ?_
  refine cj_put (j := 5) C (eC_0 hgd) rfl rfl rfl rfl cj_in0 tyX0_ok nmX0 (by decide) rfl cjq_173 rfl rfl rfl (Nat.le_of_ble_eq_true rfl) dX0_copyFrom_54 ?_
  refine cj_ltM hf (fun s9 hf => ?_)
  refine cj_aload_n C dX0_copyFrom_57 rfl 0 rfl ?_
  refine cj_aload_n C dX0_copyFrom_58 rfl 1 rfl ?_
  refine cj_get (v := .int (s9 gs 0 6)) (j := 6) C (eC_0 hgs) rfl rfl cj_in0 (by decide) rfl cjq_174 rfl dX0_copyFrom_59 ?_
  refine cj_put (j := 6) C (eC_0 hgd) rfl rfl rfl rfl cj_in0 tyX0_ok nmX0 (by decide) rfl cjq_174 rfl rfl rfl (Nat.le_of_ble_eq_true rfl) dX0_copyFrom_62 ?_
  refine cj_ltM hf (fun s10 hf => ?_)
  refine cj_aload_n C dX0_copyFrom_65 rfl 0 rfl ?_
  refine cj_aload_n C dX0_copyFrom_66 rfl 1 rfl ?_
  refine cj_get (v := .int (s10 gs 0 7)) (j := 7) C (eC_0 hgs) rfl rfl cj_in0 (by decide) rfl cjq_176 rfl dX0_copyFrom_67 ?_
  refine cj_put (j := 7) C (eC_0 hgd) rfl rfl rfl rfl cj_in0 tyX0_ok nmX0 (by decide) rfl cjq_176 rfl rfl rfl (Nat.le_of_ble_eq_true rfl) dX0_copyFrom_70 ?_
  refine cj_ltM hf (fun s11 hf => ?_)
  refine cj_aload_n C dX0_copyFrom_73 rfl 0 rfl ?_
  refine cj_aload_n C dX0_copyFrom_74 rfl 1 rfl ?_
  refine cj_get (v := .int (s11 gs 0 8)) (j := 8) C (eC_0 hgs) rfl rfl cj_in0 (by decide) rfl cjq_177 rfl dX0_copyFrom_75 ?_
  refine cj_put (j := 8) C (eC_0 hgd) rfl rfl rfl rfl cj_in0 tyX0_ok nmX0 (by decide) rfl cjq_177 rfl rfl rfl (Nat.le_of_ble_eq_true rfl) dX0_copyFrom_78 ?_
  refine cj_ltM hf (fun s12 hf => ?_)
  refine cj_aload_n C dX0_copyFrom_81 rfl 0 rfl ?_
  refine cj_aload_n C dX0_copyFrom_82 rfl 1 rfl ?_
  refine cj_get (v := .int (s12 gs 0 9)) (j := 9) C (eC_0 hgs) rfl rfl cj_in0 (by decide) rfl cjq_179 rfl dX0_copyFrom_83 ?_
  refine cj_put (j := 9) C (eC_0 hgd) rfl rfl rfl rfl cj_in0 tyX0_ok nmX0 (by decide) rfl cjq_179 rfl rfl rfl (Nat.le_of_ble_eq_true rfl) dX0_copyFrom_86 ?_
  refine cj_ltM hf (fun s13 hf => ?_)
  cases hf
  exact cj_vret C rfl dX0_copyFrom_89
set_option maxHeartbeats 4000000 in
set_option maxRecDepth 100000 in
theorem ct_X8_isWithin {l : Launch} {Y : cj_Y} (hI : cj_Ij Y.1 Y.2.2.2) {μ : cj_Mm} {a0 : Int32} {a1 : Int32} {a2 : Int32} {r : Int32} (hf : f_X8_isWithin a0 a1 a2 = some r) : cj_Ct l Y yX8_isWithin cX8_isWithin 3 (some .boolean) 0 [.int a0, .int a1, .int a2] (μ) (some (.int r)) (μ) := by
  refine cj_Ct.of (by decide +kernel) hI (Nat.le_of_ble_eq_true rfl) [(0, .int a0), (1, .int a1), (2, .int a2)] rfl (fun X hX C => ?_)
  subst hX
  have C : cj_C Y X cX8_isWithin 3 RX8 0 (some .boolean) := C
  unfold f_X8_isWithin at hf
  refine cj_iload_n C dX8_isWithin_0 rfl 0 rfl ?_
  refine cj_iload_n C dX8_isWithin_1 rfl 1 rfl ?_
  refine cj_ic_lt C 14 dX8_isWithin_2 rfl hf (fun hf => ?_) (fun hf => ?_)
  · refine cj_iconst C 0 dX8_isWithin_14 rfl ?_
    cases hf
    exact cj_zret C rfl rfl rfl dX8_isWithin_15
  · refine cj_iload_n C dX8_isWithin_5 rfl 0 rfl ?_
    refine cj_iload_n C dX8_isWithin_6 rfl 2 rfl ?_
    refine cj_ic_gt C 14 dX8_isWithin_7 rfl hf (fun hf => ?_) (fun hf => ?_)
    · refine cj_iconst C 0 dX8_isWithin_14 rfl ?_
      cases hf
      exact cj_zret C rfl rfl rfl dX8_isWithin_15
    · refine cj_iconst C 1 dX8_isWithin_10 rfl ?_
      refine cj_goto C 15 dX8_isWithin_11 rfl ?_
      cases hf
      exact cj_zret C rfl rfl rfl dX8_isWithin_15
set_option maxHeartbeats 4000000 in
set_option maxRecDepth 100000 in
theorem tl_X3_isTaken_L2 {D : va_G} {z : cj_Zc} {ad : cj_Ad} (hI : cj_Ij (cj_EL z) ad) {μ : cj_Mm} {g : Nat} (hg : cj_isC g) {y1 : Int32} {y2 : Int32} {s4 : cj_S} {X : cj_X} (C : cj_C (cj_YL D z ad) X cX3_isTaken 4 RX3 0 (some .boolean)) {r : Int32} : ∀ (n : Nat) (x3 : Int32), f_X3_isTaken_L2 y1 y2 s4 n x3 = some r → cj_G (cj_YL D z ad) X (some (.int r), cj_upG μ g s4) (cj_upG μ g s4) 2 [(0, .ref (ad g 1)), (1, .int y1), (2, .int y2), (3, .int x3)] [] := by
  intro n
  induction n with
  | zero =>
    intro x3 hf
    rw [f_X3_isTaken_L2] at hf
    cases hf
  | succ n ih =>
    intro x3 hf
    rw [f_X3_isTaken_L2] at hf
    refine cj_iload_n C dX3_isTaken_2 rfl 3 rfl ?_
    refine cj_aload_n C dX3_isTaken_3 rfl 0 rfl ?_
    refine cj_getS (v := .int (s4 1 0)) (j := 0) C (eC_1 hg) rfl rfl cj_in3 (by decide) rfl cjq_66 rfl dX3_isTaken_4 ?_
    refine cj_ic_ge C 38 dX3_isTaken_7 rfl hf (fun hf => ?_) (fun hf => ?_)
    · refine cj_iconst C 0 dX3_isTaken_38 rfl ?_
      cases hf
      exact cj_zret C rfl rfl rfl dX3_isTaken_39
    · refine cj_aload_n C dX3_isTaken_10 rfl 0 rfl ?_
      refine cj_getS (v := .ref (ad g 2)) (j := 1) C (eC_1 hg) rfl rfl cj_in3 (by decide) rfl cjq_68 rfl dX3_isTaken_11 ?_
      refine cj_iload_n C dX3_isTaken_14 rfl 3 rfl ?_
      refine cj_ialdS C (eC_2 hg) dX3_isTaken_15 hf (fun hf => ?_)
      refine cj_iload_n C dX3_isTaken_16 rfl 1 rfl ?_
      refine cj_ic_ne C 32 dX3_isTaken_17 rfl hf (fun hf => ?_) (fun hf => ?_)
      · refine cj_iinc (lv' := [(3, .int (x3 + 1)), (0, .ref (ad g 1)), (1, .int y1), (2, .int y2)]) C dX3_isTaken_32 (j := 3) rfl rfl (by decide) rfl ?_
        refine cj_goto C 2 dX3_isTaken_35 rfl ?_
        refine cj_sub [1, 2, 3, 0] rfl ?_
        exact ih (x3 + 1) hf
      · refine cj_aload_n C dX3_isTaken_20 rfl 0 rfl ?_
        refine cj_getS (v := .ref (ad g 3)) (j := 2) C (eC_1 hg) rfl rfl cj_in3 (by decide) rfl cjq_70 rfl dX3_isTaken_21 ?_
        refine cj_iload_n C dX3_isTaken_24 rfl 3 rfl ?_
        refine cj_ialdS C (eC_3 hg) dX3_isTaken_25 hf (fun hf => ?_)
        refine cj_iload_n C dX3_isTaken_26 rfl 2 rfl ?_
        refine cj_ic_ne C 32 dX3_isTaken_27 rfl hf (fun hf => ?_) (fun hf => ?_)
        · refine cj_iinc (lv' := [(3, .int (x3 + 1)), (0, .ref (ad g 1)), (1, .int y1), (2, .int y2)]) C dX3_isTaken_32 (j := 3) rfl rfl (by decide) rfl ?_
          refine cj_goto C 2 dX3_isTaken_35 rfl ?_
          refine cj_sub [1, 2, 3, 0] rfl ?_
          exact ih (x3 + 1) hf
        · refine cj_iconst C 1 dX3_isTaken_30 rfl ?_
          cases hf
          exact cj_zret C rfl rfl rfl dX3_isTaken_31
set_option maxHeartbeats 4000000 in
set_option maxRecDepth 100000 in
theorem ct_X3_isTaken {l : Launch} {D : va_G} {z : cj_Zc} {ad : cj_Ad} (hI : cj_Ij (cj_EL z) ad) {μ : cj_Mm} {g : Nat} (hg : cj_isC g) {s0 : cj_S} {a1 : Int32} {a2 : Int32} {r : Int32} (hf : f_X3_isTaken s0 a1 a2 = some r) : cj_Ct l (cj_YL D z ad) yX3_isTaken cX3_isTaken 4 (some .boolean) 0 [.ref (ad g 1), .int a1, .int a2] (cj_upG μ g s0) (some (.int r)) (cj_upG μ g s0) := by
  refine cj_Ct.of (by decide +kernel) hI (Nat.le_of_ble_eq_true rfl) [(0, .ref (ad g 1)), (1, .int a1), (2, .int a2)] rfl (fun X hX C => ?_)
  subst hX
  have C : cj_C (cj_YL D z ad) X cX3_isTaken 4 RX3 0 (some .boolean) := C
  unfold f_X3_isTaken at hf
  refine cj_iconst C 0 dX3_isTaken_0 rfl ?_
  refine cj_istore_n (lv' := [(3, .int 0), (0, .ref (ad g 1)), (1, .int a1), (2, .int a2)]) C dX3_isTaken_1 rfl (by decide) rfl ?_
  refine cj_sub [1, 2, 3, 0] rfl ?_
  exact tl_X3_isTaken_L2 hI hg C cj_FU 0 hf
set_option maxHeartbeats 4000000 in
set_option maxRecDepth 100000 in
theorem ct_X0_addPerson {l : Launch} {D : va_G} {z : cj_Zc} {ad : cj_Ad} (hI : cj_Ij (cj_EL z) ad) {μ : cj_Mm} {g : Nat} (hg : cj_isC g) {s0 : cj_S} {a1 : Int32} {a2 : Int32} {r : Int32} {r2 : cj_S} (hf : f_X0_addPerson s0 a1 a2 = some (r, r2)) : cj_Ct l (cj_YL D z ad) yX0_addPerson cX0_addPerson 3 (some .int) 1 [.ref (ad g 0), .int a1, .int a2] (cj_upG μ g s0) (some (.int r)) (cj_upG μ g r2) := by
  refine cj_Ct.of (by decide +kernel) hI (Nat.le_of_ble_eq_true rfl) [(0, .ref (ad g 0)), (1, .int a1), (2, .int a2)] rfl (fun X hX C => ?_)
  subst hX
  have C : cj_C (cj_YL D z ad) X cX0_addPerson 3 RX0 1 (some .int) := C
  unfold f_X0_addPerson at hf
  generalize hr2 : (r, r2) = r3 at hf
  obtain ⟨e1, e2⟩ : r = r3.1 ∧ r2 = r3.2 := by rw [← hr2]; exact ⟨rfl, rfl⟩
  rw [e1, e2]
  clear e1 e2 hr2
  obtain ⟨r, hr⟩ : ∃ r, r = r3 := ⟨_, rfl⟩
  rw [← hr] at hf ⊢
  clear hr
  refine cj_iload_n C dX0_addPerson_0 rfl 1 rfl ?_
  refine cj_iconst C 0 dX0_addPerson_1 rfl ?_
  refine cj_iconst C 3 dX0_addPerson_2 rfl ?_
  obtain ⟨x2, h1, hf⟩ := cj_bd_s hf
  refine cj_cN3i C cw_X8_isWithin (ct_X8_isWithin hI h1) cjq_355 cjn_X0_64 ⟨Nat.le_of_ble_eq_true rfl, Nat.le_of_ble_eq_true rfl⟩ (Nat.le_of_ble_eq_true rfl) dX0_addPerson_3 ?_
  refine cj_if_eq C 18 dX0_addPerson_6 rfl hf (fun hf => ?_) (fun hf => ?_)
  · refine cj_ldc C cjq_357 dX0_addPerson_18 ?_
    cases hf
    exact cj_iret C rfl dX0_addPerson_20
  · refine cj_iload_n C dX0_addPerson_9 rfl 2 rfl ?_
    refine cj_iconst C 0 dX0_addPerson_10 rfl ?_
    refine cj_iconst C 5 dX0_addPerson_11 rfl ?_
    obtain ⟨x4, h3, hf⟩ := cj_bd_s hf
    refine cj_cN3i C cw_X8_isWithin (ct_X8_isWithin hI h3) cjq_355 cjn_X0_64 ⟨Nat.le_of_ble_eq_true rfl, Nat.le_of_ble_eq_true rfl⟩ (Nat.le_of_ble_eq_true rfl) dX0_addPerson_12 ?_
    refine cj_if_ne C 21 dX0_addPerson_15 rfl hf (fun hf => ?_) (fun hf => ?_)
    · refine cj_aload_n C dX0_addPerson_21 rfl 0 rfl ?_
      refine cj_getS (v := .ref (ad g 1)) (j := 0) C (eC_0 hg) rfl rfl cj_in0 (by decide) rfl cjq_165 rfl dX0_addPerson_22 ?_
      refine cj_iload_n C dX0_addPerson_25 rfl 1 rfl ?_
      refine cj_iload_n C dX0_addPerson_26 rfl 2 rfl ?_
      obtain ⟨x6, h5, hf⟩ := cj_bd_s hf
      refine cj_cV2i C cw_X3_isTaken (ct_X3_isTaken hI hg h5) cjq_359 cjq_360 cjq_358 (eC_1 hg) rfl rfl ⟨Nat.le_of_ble_eq_true rfl, Nat.le_of_ble_eq_true rfl⟩ (Nat.le_of_ble_eq_true rfl) dX0_addPerson_27 ?_
      refine cj_if_eq C 36 dX0_addPerson_30 rfl hf (fun hf => ?_) (fun hf => ?_)
      · refine cj_aload_n C dX0_addPerson_36 rfl 0 rfl ?_
        refine cj_getS (v := .ref (ad g 1)) (j := 0) C (eC_0 hg) rfl rfl cj_in0 (by decide) rfl cjq_165 rfl dX0_addPerson_37 ?_
        refine cj_getS (v := .int (s0 1 0)) (j := 0) C (eC_1 hg) rfl rfl cj_in3 (by decide) rfl cjq_67 rfl dX0_addPerson_40 ?_
        refine cj_bipush C 6 dX0_addPerson_43 rfl ?_
        refine cj_ic_lt C 51 dX0_addPerson_45 rfl hf (fun hf => ?_) (fun hf => ?_)
        · refine cj_aload_n C dX0_addPerson_51 rfl 0 rfl ?_
          refine cj_getS (v := .ref (ad g 1)) (j := 0) C (eC_0 hg) rfl rfl cj_in0 (by decide) rfl cjq_165 rfl dX0_addPerson_52 ?_
          refine cj_getS (v := .ref (ad g 2)) (j := 1) C (eC_1 hg) rfl rfl cj_in3 (by decide) rfl cjq_69 rfl dX0_addPerson_55 ?_
          refine cj_aload_n C dX0_addPerson_58 rfl 0 rfl ?_
          refine cj_getS (v := .ref (ad g 1)) (j := 0) C (eC_0 hg) rfl rfl cj_in0 (by decide) rfl cjq_165 rfl dX0_addPerson_59 ?_
          refine cj_getS (v := .int (s0 1 0)) (j := 0) C (eC_1 hg) rfl rfl cj_in3 (by decide) rfl cjq_67 rfl dX0_addPerson_62 ?_
          refine cj_iload_n C dX0_addPerson_65 rfl 1 rfl ?_
          refine cj_iastS C (eC_2 hg) dX0_addPerson_66 hf (fun hf => ?_)
          refine cj_ltS hf (fun s7 hf => ?_)
          refine cj_aload_n C dX0_addPerson_67 rfl 0 rfl ?_
          refine cj_getS (v := .ref (ad g 1)) (j := 0) C (eC_0 hg) rfl rfl cj_in0 (by decide) rfl cjq_165 rfl dX0_addPerson_68 ?_
          refine cj_getS (v := .ref (ad g 3)) (j := 2) C (eC_1 hg) rfl rfl cj_in3 (by decide) rfl cjq_71 rfl dX0_addPerson_71 ?_
          refine cj_aload_n C dX0_addPerson_74 rfl 0 rfl ?_
          refine cj_getS (v := .ref (ad g 1)) (j := 0) C (eC_0 hg) rfl rfl cj_in0 (by decide) rfl cjq_165 rfl dX0_addPerson_75 ?_
          refine cj_getS (v := .int (s7 1 0)) (j := 0) C (eC_1 hg) rfl rfl cj_in3 (by decide) rfl cjq_67 rfl dX0_addPerson_78 ?_
          refine cj_iload_n C dX0_addPerson_81 rfl 2 rfl ?_
          refine cj_iastS C (eC_3 hg) dX0_addPerson_82 hf (fun hf => ?_)
          refine cj_ltS hf (fun s8 hf => ?_)
          refine cj_aload_n C dX0_addPerson_83 rfl 0 rfl ?_
          refine cj_getS (v := .ref (ad g 1)) (j := 0) C (eC_0 hg) rfl rfl cj_in0 (by decide) rfl cjq_165 rfl dX0_addPerson_84 ?_
          refine cj_dup C dX0_addPerson_87 rfl ?_
          refine cj_getS (v := .int (s8 1 0)) (j := 0) C (eC_1 hg) rfl rfl cj_in3 (by decide) rfl cjq_67 rfl dX0_addPerson_88 ?_
          refine cj_iconst C 1 dX0_addPerson_91 rfl ?_
          refine cj_iadd C dX0_addPerson_92 ?_
          refine cj_putS (j := 0) C (eC_1 hg) rfl rfl rfl rfl cj_in3 tyX3_ok nmX3 (by decide) rfl cjq_67 rfl rfl rfl (Nat.le_of_ble_eq_true rfl) dX0_addPerson_93 ?_
          refine cj_ltS hf (fun s9 hf => ?_)
          refine cj_aload_n C dX0_addPerson_96 rfl 0 rfl ?_
          refine cj_getS (v := .ref (ad g 1)) (j := 0) C (eC_0 hg) rfl rfl cj_in0 (by decide) rfl cjq_165 rfl dX0_addPerson_97 ?_
          refine cj_getS (v := .int (s9 1 0)) (j := 0) C (eC_1 hg) rfl rfl cj_in3 (by decide) rfl cjq_67 rfl dX0_addPerson_100 ?_
          refine cj_iconst C 1 dX0_addPerson_103 rfl ?_
          refine cj_isub C dX0_addPerson_104 ?_
          cases hf
          exact cj_iret C rfl dX0_addPerson_105
        · refine cj_ldc C cjq_363 dX0_addPerson_48 ?_
          cases hf
          exact cj_iret C rfl dX0_addPerson_50
      · refine cj_ldc C cjq_362 dX0_addPerson_33 ?_
        cases hf
        exact cj_iret C rfl dX0_addPerson_35
    · refine cj_ldc C cjq_357 dX0_addPerson_18 ?_
      cases hf
      exact cj_iret C rfl dX0_addPerson_20
set_option maxHeartbeats 4000000 in
set_option maxRecDepth 100000 in
theorem ct_X3_has {l : Launch} {D : va_G} {z : cj_Zc} {ad : cj_Ad} (hI : cj_Ij (cj_EL z) ad) {μ : cj_Mm} {g : Nat} (hg : cj_isC g) {s0 : cj_S} {a1 : Int32} {r : Int32} (hf : f_X3_has s0 a1 = some r) : cj_Ct l (cj_YL D z ad) yX3_has cX3_has 2 (some .boolean) 0 [.ref (ad g 1), .int a1] (cj_upG μ g s0) (some (.int r)) (cj_upG μ g s0) := by
  refine cj_Ct.of (by decide +kernel) hI (Nat.le_of_ble_eq_true rfl) [(0, .ref (ad g 1)), (1, .int a1)] rfl (fun X hX C => ?_)
  subst hX
  have C : cj_C (cj_YL D z ad) X cX3_has 2 RX3 0 (some .boolean) := C
  unfold f_X3_has at hf
  refine cj_iload_n C dX3_has_0 rfl 1 rfl ?_
  refine cj_if_lt C 16 dX3_has_1 rfl hf (fun hf => ?_) (fun hf => ?_)
  · refine cj_iconst C 0 dX3_has_16 rfl ?_
    cases hf
    exact cj_zret C rfl rfl rfl dX3_has_17
  · refine cj_iload_n C dX3_has_4 rfl 1 rfl ?_
    refine cj_aload_n C dX3_has_5 rfl 0 rfl ?_
    refine cj_getS (v := .int (s0 1 0)) (j := 0) C (eC_1 hg) rfl rfl cj_in3 (by decide) rfl cjq_66 rfl dX3_has_6 ?_
    refine cj_ic_ge C 16 dX3_has_9 rfl hf (fun hf => ?_) (fun hf => ?_)
    · refine cj_iconst C 0 dX3_has_16 rfl ?_
      cases hf
      exact cj_zret C rfl rfl rfl dX3_has_17
    · refine cj_iconst C 1 dX3_has_12 rfl ?_
      refine cj_goto C 17 dX3_has_13 rfl ?_
      cases hf
      exact cj_zret C rfl rfl rfl dX3_has_17
set_option maxHeartbeats 4000000 in
set_option maxRecDepth 100000 in
theorem ct_X3_angleAfter {l : Launch} {D : va_G} {z : cj_Zc} {ad : cj_Ad} (hI : cj_Ij (cj_EL z) ad) {μ : cj_Mm} {g : Nat} (hg : cj_isC g) {s0 : cj_S} {a1 : Int32} {a2 : Int32} {r : Int32} (hf : f_X3_angleAfter s0 a1 a2 = some r) : cj_Ct l (cj_YL D z ad) yX3_angleAfter cX3_angleAfter 3 (some .int) 0 [.ref (ad g 1), .int a1, .int a2] (cj_upG μ g s0) (some (.int r)) (cj_upG μ g s0) := by
  refine cj_Ct.of (by decide +kernel) hI (Nat.le_of_ble_eq_true rfl) [(0, .ref (ad g 1)), (1, .int a1), (2, .int a2)] rfl (fun X hX C => ?_)
  subst hX
  have C : cj_C (cj_YL D z ad) X cX3_angleAfter 3 RX3 0 (some .int) := C
  unfold f_X3_angleAfter at hf
  refine cj_aload_n C dX3_angleAfter_0 rfl 0 rfl ?_
  refine cj_getS (v := .ref (ad g 4)) (j := 3) C (eC_1 hg) rfl rfl cj_in3 (by decide) rfl cjq_72 rfl dX3_angleAfter_1 ?_
  refine cj_iload_n C dX3_angleAfter_4 rfl 1 rfl ?_
  refine cj_ialdS C (eC_4 hg) dX3_angleAfter_5 hf (fun hf => ?_)
  refine cj_aload_n C dX3_angleAfter_6 rfl 0 rfl ?_
  refine cj_getS (v := .ref (ad g 5)) (j := 4) C (eC_1 hg) rfl rfl cj_in3 (by decide) rfl cjq_74 rfl dX3_angleAfter_7 ?_
  refine cj_iload_n C dX3_angleAfter_10 rfl 1 rfl ?_
  refine cj_ialdS C (eC_5 hg) dX3_angleAfter_11 hf (fun hf => ?_)
  refine cj_iload_n C dX3_angleAfter_12 rfl 2 rfl ?_
  refine cj_imul C dX3_angleAfter_13 ?_
  refine cj_iadd C dX3_angleAfter_14 ?_
  refine cj_ltI hf (fun x1 hf => ?_)
  refine cj_bipush C 12 dX3_angleAfter_15 rfl ?_
  refine cj_irem C dX3_angleAfter_17 (by decide) ?_
  cases hf
  exact cj_iret C rfl dX3_angleAfter_18
set_option maxHeartbeats 4000000 in
set_option maxRecDepth 100000 in
theorem tl_X3_seenAside_L2 {D : va_G} {z : cj_Zc} {ad : cj_Ad} (hI : cj_Ij (cj_EL z) ad) {μ : cj_Mm} {g : Nat} (hg : cj_isC g) {y1 : Int32} {s3 : cj_S} {X : cj_X} (C : cj_C (cj_YL D z ad) X cX3_seenAside 3 RX3 0 (some .int)) {r : Int32} : ∀ (n : Nat) (x2 : Int32), f_X3_seenAside_L2 y1 s3 n x2 = some r → cj_G (cj_YL D z ad) X (some (.int r), cj_upG μ g s3) (cj_upG μ g s3) 2 [(0, .ref (ad g 1)), (1, .int y1), (2, .int x2)] [] := by
  intro n
  induction n with
  | zero =>
    intro x2 hf
    rw [f_X3_seenAside_L2] at hf
    cases hf
  | succ n ih =>
    intro x2 hf
    rw [f_X3_seenAside_L2] at hf
    refine cj_iload_n C dX3_seenAside_2 rfl 2 rfl ?_
    refine cj_aload_n C dX3_seenAside_3 rfl 0 rfl ?_
    refine cj_getS (v := .int (s3 1 0)) (j := 0) C (eC_1 hg) rfl rfl cj_in3 (by decide) rfl cjq_66 rfl dX3_seenAside_4 ?_
    refine cj_ic_ge C 48 dX3_seenAside_7 rfl hf (fun hf => ?_) (fun hf => ?_)
    · refine cj_iconst C 2 dX3_seenAside_48 rfl ?_
      cases hf
      exact cj_iret C rfl dX3_seenAside_49
    · refine cj_aload_n C dX3_seenAside_10 rfl 0 rfl ?_
      refine cj_getS (v := .ref (ad g 3)) (j := 2) C (eC_1 hg) rfl rfl cj_in3 (by decide) rfl cjq_70 rfl dX3_seenAside_11 ?_
      refine cj_iload_n C dX3_seenAside_14 rfl 2 rfl ?_
      refine cj_ialdS C (eC_3 hg) dX3_seenAside_15 hf (fun hf => ?_)
      refine cj_aload_n C dX3_seenAside_16 rfl 0 rfl ?_
      refine cj_getS (v := .ref (ad g 3)) (j := 2) C (eC_1 hg) rfl rfl cj_in3 (by decide) rfl cjq_70 rfl dX3_seenAside_17 ?_
      refine cj_iload_n C dX3_seenAside_20 rfl 1 rfl ?_
      refine cj_ialdS C (eC_3 hg) dX3_seenAside_21 hf (fun hf => ?_)
      refine cj_ic_ne C 42 dX3_seenAside_22 rfl hf (fun hf => ?_) (fun hf => ?_)
      · refine cj_iinc (lv' := [(2, .int (x2 + 1)), (0, .ref (ad g 1)), (1, .int y1)]) C dX3_seenAside_42 (j := 2) rfl rfl (by decide) rfl ?_
        refine cj_goto C 2 dX3_seenAside_45 rfl ?_
        refine cj_sub [1, 2, 0] rfl ?_
        exact ih (x2 + 1) hf
      · refine cj_aload_n C dX3_seenAside_25 rfl 0 rfl ?_
        refine cj_getS (v := .ref (ad g 2)) (j := 1) C (eC_1 hg) rfl rfl cj_in3 (by decide) rfl cjq_68 rfl dX3_seenAside_26 ?_
        refine cj_iload_n C dX3_seenAside_29 rfl 2 rfl ?_
        refine cj_ialdS C (eC_2 hg) dX3_seenAside_30 hf (fun hf => ?_)
        refine cj_aload_n C dX3_seenAside_31 rfl 0 rfl ?_
        refine cj_getS (v := .ref (ad g 2)) (j := 1) C (eC_1 hg) rfl rfl cj_in3 (by decide) rfl cjq_68 rfl dX3_seenAside_32 ?_
        refine cj_iload_n C dX3_seenAside_35 rfl 1 rfl ?_
        refine cj_ialdS C (eC_2 hg) dX3_seenAside_36 hf (fun hf => ?_)
        refine cj_ic_ge C 42 dX3_seenAside_37 rfl hf (fun hf => ?_) (fun hf => ?_)
        · refine cj_iinc (lv' := [(2, .int (x2 + 1)), (0, .ref (ad g 1)), (1, .int y1)]) C dX3_seenAside_42 (j := 2) rfl rfl (by decide) rfl ?_
          refine cj_goto C 2 dX3_seenAside_45 rfl ?_
          refine cj_sub [1, 2, 0] rfl ?_
          exact ih (x2 + 1) hf
        · refine cj_iconst C 0 dX3_seenAside_40 rfl ?_
          cases hf
          exact cj_iret C rfl dX3_seenAside_41
set_option maxHeartbeats 4000000 in
set_option maxRecDepth 100000 in
theorem ct_X3_seenAside {l : Launch} {D : va_G} {z : cj_Zc} {ad : cj_Ad} (hI : cj_Ij (cj_EL z) ad) {μ : cj_Mm} {g : Nat} (hg : cj_isC g) {s0 : cj_S} {a1 : Int32} {r : Int32} (hf : f_X3_seenAside s0 a1 = some r) : cj_Ct l (cj_YL D z ad) yX3_seenAside cX3_seenAside 3 (some .int) 0 [.ref (ad g 1), .int a1] (cj_upG μ g s0) (some (.int r)) (cj_upG μ g s0) := by
  refine cj_Ct.of (by decide +kernel) hI (Nat.le_of_ble_eq_true rfl) [(0, .ref (ad g 1)), (1, .int a1)] rfl (fun X hX C => ?_)
  subst hX
  have C : cj_C (cj_YL D z ad) X cX3_seenAside 3 RX3 0 (some .int) := C
  unfold f_X3_seenAside at hf
  refine cj_iconst C 0 dX3_seenAside_0 rfl ?_
  refine cj_istore_n (lv' := [(2, .int 0), (0, .ref (ad g 1)), (1, .int a1)]) C dX3_seenAside_1 rfl (by decide) rfl ?_
  refine cj_sub [1, 2, 0] rfl ?_
  exact tl_X3_seenAside_L2 hI hg C cj_FU 0 hf
set_option maxHeartbeats 4000000 in
set_option maxRecDepth 100000 in
theorem tl_X3_features_L5 {Y : cj_Y} (hI : cj_Ij Y.1 Y.2.2.2) {μ : cj_Mm} {y1 : Int32} {y2 : Int32} {X : cj_X} (C : cj_C Y X cX3_features 4 RX3 0 (some .int)) {r : Int32} : ∀ (n : Nat) (x3 : Int32) (x4 : Int32), f_X3_features_L5 y1 y2 n x3 x4 = some r → cj_G Y X (some (.int r), μ) (μ) 5 [(0, .int y1), (1, .int y2), (2, .int x3), (3, .int x4)] [] := by
  intro n
  induction n with
  | zero =>
    intro x3 x4 hf
    rw [f_X3_features_L5] at hf
    cases hf
  | succ n ih =>
    intro x3 x4 hf
    rw [f_X3_features_L5] at hf
    refine cj_iload_n C dX3_features_5 rfl 3 rfl ?_
    refine cj_iload_n C dX3_features_6 rfl 1 rfl ?_
    refine cj_ic_gt C 30 dX3_features_7 rfl hf (fun hf => ?_) (fun hf => ?_)
    · refine cj_iload_n C dX3_features_30 rfl 2 rfl ?_
      cases hf
      exact cj_iret C rfl dX3_features_31
    · refine cj_iload_n C dX3_features_10 rfl 2 rfl ?_
      refine cj_iconst C 1 dX3_features_11 rfl ?_
      refine cj_iload_n C dX3_features_12 rfl 0 rfl ?_
      refine cj_iload_n C dX3_features_13 rfl 3 rfl ?_
      refine cj_iadd C dX3_features_14 ?_
      refine cj_bipush C 12 dX3_features_15 rfl ?_
      refine cj_iadd C dX3_features_17 ?_
      refine cj_ltI hf (fun x5 hf => ?_)
      refine cj_bipush C 12 dX3_features_18 rfl ?_
      refine cj_irem C dX3_features_20 (by decide) ?_
      refine cj_ishl C dX3_features_21 ?_
      refine cj_ior C dX3_features_22 ?_
      refine cj_ltI hf (fun x6 hf => ?_)
      refine cj_istore_n (lv' := [(2, .int x6), (0, .int y1), (1, .int y2), (3, .int x4)]) C dX3_features_23 rfl (by decide) rfl ?_
      refine cj_iinc (lv' := [(3, .int (x4 + 1)), (2, .int x6), (0, .int y1), (1, .int y2)]) C dX3_features_24 (j := 3) rfl rfl (by decide) rfl ?_
      refine cj_goto C 5 dX3_features_27 rfl ?_
      refine cj_sub [2, 3, 1, 0] rfl ?_
      exact ih x6 (x4 + 1) hf
set_option maxHeartbeats 4000000 in
set_option maxRecDepth 100000 in
theorem ct_X3_features {l : Launch} {Y : cj_Y} (hI : cj_Ij Y.1 Y.2.2.2) {μ : cj_Mm} {a0 : Int32} {a1 : Int32} {r : Int32} (hf : f_X3_features a0 a1 = some r) : cj_Ct l Y yX3_features cX3_features 4 (some .int) 0 [.int a0, .int a1] (μ) (some (.int r)) (μ) := by
  refine cj_Ct.of (by decide +kernel) hI (Nat.le_of_ble_eq_true rfl) [(0, .int a0), (1, .int a1)] rfl (fun X hX C => ?_)
  subst hX
  have C : cj_C Y X cX3_features 4 RX3 0 (some .int) := C
  unfold f_X3_features at hf
  refine cj_iconst C 0 dX3_features_0 rfl ?_
  refine cj_istore_n (lv' := [(2, .int 0), (0, .int a0), (1, .int a1)]) C dX3_features_1 rfl (by decide) rfl ?_
  refine cj_iload_n C dX3_features_2 rfl 2 rfl ?_
  refine cj_ineg C dX3_features_3 ?_
  refine cj_istore_n (lv' := [(3, .int (-a1)), (2, .int 0), (0, .int a0), (1, .int a1)]) C dX3_features_4 rfl (by decide) rfl ?_
  refine cj_sub [2, 3, 1, 0] rfl ?_
  exact tl_X3_features_L5 hI C cj_FU 0 (-a1) hf
set_option maxHeartbeats 4000000 in
set_option maxRecDepth 100000 in
theorem ct_X3_seenAfter {l : Launch} {D : va_G} {z : cj_Zc} {ad : cj_Ad} (hI : cj_Ij (cj_EL z) ad) {μ : cj_Mm} {g : Nat} (hg : cj_isC g) {s0 : cj_S} {a1 : Int32} {a2 : Int32} {r : Int32} (hf : f_X3_seenAfter s0 a1 a2 = some r) : cj_Ct l (cj_YL D z ad) yX3_seenAfter cX3_seenAfter 3 (some .int) 1 [.ref (ad g 1), .int a1, .int a2] (cj_upG μ g s0) (some (.int r)) (cj_upG μ g s0) := by
  refine cj_Ct.of (by decide +kernel) hI (Nat.le_of_ble_eq_true rfl) [(0, .ref (ad g 1)), (1, .int a1), (2, .int a2)] rfl (fun X hX C => ?_)
  subst hX
  have C : cj_C (cj_YL D z ad) X cX3_seenAfter 3 RX3 1 (some .int) := C
  unfold f_X3_seenAfter at hf
  refine cj_aload_n C dX3_seenAfter_0 rfl 0 rfl ?_
  refine cj_iload_n C dX3_seenAfter_1 rfl 1 rfl ?_
  refine cj_iload_n C dX3_seenAfter_2 rfl 2 rfl ?_
  obtain ⟨x2, h1, hf⟩ := cj_bd_s hf
  refine cj_cV2i C cw_X3_angleAfter (ct_X3_angleAfter hI hg h1) cjq_385 cjq_386 cjq_384 (eC_1 hg) rfl rfl ⟨Nat.le_of_ble_eq_true rfl, Nat.le_of_ble_eq_true rfl⟩ (Nat.le_of_ble_eq_true rfl) dX3_seenAfter_3 ?_
  refine cj_aload_n C dX3_seenAfter_6 rfl 0 rfl ?_
  refine cj_iload_n C dX3_seenAfter_7 rfl 1 rfl ?_
  obtain ⟨x4, h3, hf⟩ := cj_bd_s hf
  refine cj_cV1i C cw_X3_seenAside (ct_X3_seenAside hI hg h3) cjq_389 cjq_390 cjq_388 (eC_1 hg) rfl rfl ⟨Nat.le_of_ble_eq_true rfl, Nat.le_of_ble_eq_true rfl⟩ (Nat.le_of_ble_eq_true rfl) dX3_seenAfter_8 ?_
  obtain ⟨x6, h5, hf⟩ := cj_bd_s hf
  refine cj_cS2i C cw_X3_features (ct_X3_features hI h5) cjq_393 cjq_392 ⟨Nat.le_of_ble_eq_true rfl, Nat.le_of_ble_eq_true rfl⟩ (Nat.le_of_ble_eq_true rfl) dX3_seenAfter_11 ?_
  cases hf
  exact cj_iret C rfl dX3_seenAfter_14
set_option maxHeartbeats 4000000 in
set_option maxRecDepth 100000 in
theorem ct_X0_turnPerson {l : Launch} {D : va_G} {z : cj_Zc} {ad : cj_Ad} (hI : cj_Ij (cj_EL z) ad) {μ : cj_Mm} {g : Nat} (hg : cj_isC g) {s0 : cj_S} {a1 : Int32} {a2 : Int32} {a3 : Int32} {r : Int32} {r2 : cj_S} (hf : f_X0_turnPerson s0 a1 a2 a3 = some (r, r2)) : cj_Ct l (cj_YL D z ad) yX0_turnPerson cX0_turnPerson 4 (some .int) 2 [.ref (ad g 0), .int a1, .int a2, .int a3] (cj_upG μ g s0) (some (.int r)) (cj_upG μ g r2) := by
  refine cj_Ct.of (by decide +kernel) hI (Nat.le_of_ble_eq_true rfl) [(0, .ref (ad g 0)), (1, .int a1), (2, .int a2), (3, .int a3)] rfl (fun X hX C => ?_)
  subst hX
  have C : cj_C (cj_YL D z ad) X cX0_turnPerson 4 RX0 2 (some .int) := C
  unfold f_X0_turnPerson at hf
  generalize hr2 : (r, r2) = r3 at hf
  obtain ⟨e1, e2⟩ : r = r3.1 ∧ r2 = r3.2 := by rw [← hr2]; exact ⟨rfl, rfl⟩
  rw [e1, e2]
  clear e1 e2 hr2
  obtain ⟨r, hr⟩ : ∃ r, r = r3 := ⟨_, rfl⟩
  rw [← hr] at hf ⊢
  clear hr
  refine cj_aload_n C dX0_turnPerson_0 rfl 0 rfl ?_
  refine cj_getS (v := .ref (ad g 1)) (j := 0) C (eC_0 hg) rfl rfl cj_in0 (by decide) rfl cjq_165 rfl dX0_turnPerson_1 ?_
  refine cj_iload_n C dX0_turnPerson_4 rfl 1 rfl ?_
  obtain ⟨x2, h1, hf⟩ := cj_bd_s hf
  refine cj_cV1i C cw_X3_has (ct_X3_has hI hg h1) cjq_377 cjq_378 cjq_376 (eC_1 hg) rfl rfl ⟨Nat.le_of_ble_eq_true rfl, Nat.le_of_ble_eq_true rfl⟩ (Nat.le_of_ble_eq_true rfl) dX0_turnPerson_5 ?_
  refine cj_if_eq C 31 dX0_turnPerson_8 rfl hf (fun hf => ?_) (fun hf => ?_)
  · refine cj_ldc C cjq_357 dX0_turnPerson_31 ?_
    cases hf
    exact cj_iret C rfl dX0_turnPerson_33
  · refine cj_iload_n C dX0_turnPerson_11 rfl 2 rfl ?_
    refine cj_iconst C 0 dX0_turnPerson_12 rfl ?_
    refine cj_bipush C 11 dX0_turnPerson_13 rfl ?_
    obtain ⟨x4, h3, hf⟩ := cj_bd_s hf
    refine cj_cN3i C cw_X8_isWithin (ct_X8_isWithin hI h3) cjq_355 cjn_X0_64 ⟨Nat.le_of_ble_eq_true rfl, Nat.le_of_ble_eq_true rfl⟩ (Nat.le_of_ble_eq_true rfl) dX0_turnPerson_15 ?_
    refine cj_if_eq C 31 dX0_turnPerson_18 rfl hf (fun hf => ?_) (fun hf => ?_)
    · refine cj_ldc C cjq_357 dX0_turnPerson_31 ?_
      cases hf
      exact cj_iret C rfl dX0_turnPerson_33
    · refine cj_iload_n C dX0_turnPerson_21 rfl 3 rfl ?_
      refine cj_iconst C 0 dX0_turnPerson_22 rfl ?_
      refine cj_bipush C 11 dX0_turnPerson_23 rfl ?_
      obtain ⟨x6, h5, hf⟩ := cj_bd_s hf
      refine cj_cN3i C cw_X8_isWithin (ct_X8_isWithin hI h5) cjq_355 cjn_X0_64 ⟨Nat.le_of_ble_eq_true rfl, Nat.le_of_ble_eq_true rfl⟩ (Nat.le_of_ble_eq_true rfl) dX0_turnPerson_25 ?_
      refine cj_if_ne C 34 dX0_turnPerson_28 rfl hf (fun hf => ?_) (fun hf => ?_)
      · refine cj_aload_n C dX0_turnPerson_34 rfl 0 rfl ?_
        refine cj_getS (v := .ref (ad g 1)) (j := 0) C (eC_0 hg) rfl rfl cj_in0 (by decide) rfl cjq_165 rfl dX0_turnPerson_35 ?_
        refine cj_getS (v := .ref (ad g 4)) (j := 3) C (eC_1 hg) rfl rfl cj_in3 (by decide) rfl cjq_73 rfl dX0_turnPerson_38 ?_
        refine cj_iload_n C dX0_turnPerson_41 rfl 1 rfl ?_
        refine cj_iload_n C dX0_turnPerson_42 rfl 2 rfl ?_
        refine cj_iastS C (eC_4 hg) dX0_turnPerson_43 hf (fun hf => ?_)
        refine cj_ltS hf (fun s7 hf => ?_)
        refine cj_aload_n C dX0_turnPerson_44 rfl 0 rfl ?_
        refine cj_getS (v := .ref (ad g 1)) (j := 0) C (eC_0 hg) rfl rfl cj_in0 (by decide) rfl cjq_165 rfl dX0_turnPerson_45 ?_
        refine cj_getS (v := .ref (ad g 5)) (j := 4) C (eC_1 hg) rfl rfl cj_in3 (by decide) rfl cjq_75 rfl dX0_turnPerson_48 ?_
        refine cj_iload_n C dX0_turnPerson_51 rfl 1 rfl ?_
        refine cj_iload_n C dX0_turnPerson_52 rfl 3 rfl ?_
        refine cj_iastS C (eC_5 hg) dX0_turnPerson_53 hf (fun hf => ?_)
        refine cj_ltS hf (fun s8 hf => ?_)
        refine cj_aload_n C dX0_turnPerson_54 rfl 0 rfl ?_
        refine cj_getS (v := .ref (ad g 1)) (j := 0) C (eC_0 hg) rfl rfl cj_in0 (by decide) rfl cjq_165 rfl dX0_turnPerson_55 ?_
        refine cj_iload_n C dX0_turnPerson_58 rfl 1 rfl ?_
        refine cj_iconst C 0 dX0_turnPerson_59 rfl ?_
        obtain ⟨x10, h9, hf⟩ := cj_bd_s hf
        refine cj_cV2i C cw_X3_seenAfter (ct_X3_seenAfter hI hg h9) cjq_381 cjq_382 cjq_380 (eC_1 hg) rfl rfl ⟨Nat.le_of_ble_eq_true rfl, Nat.le_of_ble_eq_true rfl⟩ (Nat.le_of_ble_eq_true rfl) dX0_turnPerson_60 ?_
        cases hf
        exact cj_iret C rfl dX0_turnPerson_63
      · refine cj_ldc C cjq_357 dX0_turnPerson_31 ?_
        cases hf
        exact cj_iret C rfl dX0_turnPerson_33
set_option maxHeartbeats 4000000 in
set_option maxRecDepth 100000 in
theorem ct_X0_addPaper {l : Launch} {D : va_G} {z : cj_Zc} {ad : cj_Ad} (hI : cj_Ij (cj_EL z) ad) {μ : cj_Mm} {g : Nat} (hg : cj_isC g) {s0 : cj_S} {a1 : Int32} {a2 : Int32} {r : Int32} {r2 : cj_S} (hf : f_X0_addPaper s0 a1 a2 = some (r, r2)) : cj_Ct l (cj_YL D z ad) yX0_addPaper cX0_addPaper 3 (some .int) 1 [.ref (ad g 0), .int a1, .int a2] (cj_upG μ g s0) (some (.int r)) (cj_upG μ g r2) := by
  refine cj_Ct.of (by decide +kernel) hI (Nat.le_of_ble_eq_true rfl) [(0, .ref (ad g 0)), (1, .int a1), (2, .int a2)] rfl (fun X hX C => ?_)
  subst hX
  have C : cj_C (cj_YL D z ad) X cX0_addPaper 3 RX0 1 (some .int) := C
  unfold f_X0_addPaper at hf
  generalize hr2 : (r, r2) = r3 at hf
  obtain ⟨e1, e2⟩ : r = r3.1 ∧ r2 = r3.2 := by rw [← hr2]; exact ⟨rfl, rfl⟩
  rw [e1, e2]
  clear e1 e2 hr2
  obtain ⟨r, hr⟩ : ∃ r, r = r3 := ⟨_, rfl⟩
  rw [← hr] at hf ⊢
  clear hr
  refine cj_iload_n C dX0_addPaper_0 rfl 1 rfl ?_
  refine cj_iconst C 1 dX0_addPaper_1 rfl ?_
  refine cj_bipush C 20 dX0_addPaper_2 rfl ?_
  obtain ⟨x2, h1, hf⟩ := cj_bd_s hf
  refine cj_cN3i C cw_X8_isWithin (ct_X8_isWithin hI h1) cjq_355 cjn_X0_64 ⟨Nat.le_of_ble_eq_true rfl, Nat.le_of_ble_eq_true rfl⟩ (Nat.le_of_ble_eq_true rfl) dX0_addPaper_4 ?_
  refine cj_if_eq C 21 dX0_addPaper_7 rfl hf (fun hf => ?_) (fun hf => ?_)
  · refine cj_ldc C cjq_357 dX0_addPaper_21 ?_
    cases hf
    exact cj_iret C rfl dX0_addPaper_23
  · refine cj_iload_n C dX0_addPaper_10 rfl 2 rfl ?_
    refine cj_iconst C 1 dX0_addPaper_11 rfl ?_
    refine cj_sipush C 299 dX0_addPaper_12 rfl ?_
    obtain ⟨x4, h3, hf⟩ := cj_bd_s hf
    refine cj_cN3i C cw_X8_isWithin (ct_X8_isWithin hI h3) cjq_355 cjn_X0_64 ⟨Nat.le_of_ble_eq_true rfl, Nat.le_of_ble_eq_true rfl⟩ (Nat.le_of_ble_eq_true rfl) dX0_addPaper_15 ?_
    refine cj_if_ne C 24 dX0_addPaper_18 rfl hf (fun hf => ?_) (fun hf => ?_)
    · refine cj_aload_n C dX0_addPaper_24 rfl 0 rfl ?_
      refine cj_getS (v := .ref (ad g 14)) (j := 2) C (eC_0 hg) rfl rfl cj_in0 (by decide) rfl cjq_169 rfl dX0_addPaper_25 ?_
      refine cj_getS (v := .int (s0 14 0)) (j := 0) C (eC_14 hg) rfl rfl cj_in2 (by decide) rfl cjq_139 rfl dX0_addPaper_28 ?_
      refine cj_iconst C 4 dX0_addPaper_31 rfl ?_
      refine cj_ic_lt C 38 dX0_addPaper_32 rfl hf (fun hf => ?_) (fun hf => ?_)
      · refine cj_aload_n C dX0_addPaper_38 rfl 0 rfl ?_
        refine cj_getS (v := .ref (ad g 14)) (j := 2) C (eC_0 hg) rfl rfl cj_in0 (by decide) rfl cjq_169 rfl dX0_addPaper_39 ?_
        refine cj_getS (v := .ref (ad g 15)) (j := 1) C (eC_14 hg) rfl rfl cj_in2 (by decide) rfl cjq_141 rfl dX0_addPaper_42 ?_
        refine cj_aload_n C dX0_addPaper_45 rfl 0 rfl ?_
        refine cj_getS (v := .ref (ad g 14)) (j := 2) C (eC_0 hg) rfl rfl cj_in0 (by decide) rfl cjq_169 rfl dX0_addPaper_46 ?_
        refine cj_getS (v := .int (s0 14 0)) (j := 0) C (eC_14 hg) rfl rfl cj_in2 (by decide) rfl cjq_139 rfl dX0_addPaper_49 ?_
        refine cj_iload_n C dX0_addPaper_52 rfl 1 rfl ?_
        refine cj_iastS C (eC_15 hg) dX0_addPaper_53 hf (fun hf => ?_)
        refine cj_ltS hf (fun s5 hf => ?_)
        refine cj_aload_n C dX0_addPaper_54 rfl 0 rfl ?_
        refine cj_getS (v := .ref (ad g 14)) (j := 2) C (eC_0 hg) rfl rfl cj_in0 (by decide) rfl cjq_169 rfl dX0_addPaper_55 ?_
        refine cj_getS (v := .ref (ad g 16)) (j := 2) C (eC_14 hg) rfl rfl cj_in2 (by decide) rfl cjq_143 rfl dX0_addPaper_58 ?_
        refine cj_aload_n C dX0_addPaper_61 rfl 0 rfl ?_
        refine cj_getS (v := .ref (ad g 14)) (j := 2) C (eC_0 hg) rfl rfl cj_in0 (by decide) rfl cjq_169 rfl dX0_addPaper_62 ?_
        refine cj_getS (v := .int (s5 14 0)) (j := 0) C (eC_14 hg) rfl rfl cj_in2 (by decide) rfl cjq_139 rfl dX0_addPaper_65 ?_
        refine cj_iload_n C dX0_addPaper_68 rfl 2 rfl ?_
        refine cj_iastS C (eC_16 hg) dX0_addPaper_69 hf (fun hf => ?_)
        refine cj_ltS hf (fun s6 hf => ?_)
        refine cj_aload_n C dX0_addPaper_70 rfl 0 rfl ?_
        refine cj_getS (v := .ref (ad g 14)) (j := 2) C (eC_0 hg) rfl rfl cj_in0 (by decide) rfl cjq_169 rfl dX0_addPaper_71 ?_
        refine cj_dup C dX0_addPaper_74 rfl ?_
        refine cj_getS (v := .int (s6 14 0)) (j := 0) C (eC_14 hg) rfl rfl cj_in2 (by decide) rfl cjq_139 rfl dX0_addPaper_75 ?_
        refine cj_iconst C 1 dX0_addPaper_78 rfl ?_
        refine cj_iadd C dX0_addPaper_79 ?_
        refine cj_putS (j := 0) C (eC_14 hg) rfl rfl rfl rfl cj_in2 tyX2_ok nmX2 (by decide) rfl cjq_139 rfl rfl rfl (Nat.le_of_ble_eq_true rfl) dX0_addPaper_80 ?_
        refine cj_ltS hf (fun s7 hf => ?_)
        refine cj_aload_n C dX0_addPaper_83 rfl 0 rfl ?_
        refine cj_getS (v := .ref (ad g 14)) (j := 2) C (eC_0 hg) rfl rfl cj_in0 (by decide) rfl cjq_169 rfl dX0_addPaper_84 ?_
        refine cj_getS (v := .int (s7 14 0)) (j := 0) C (eC_14 hg) rfl rfl cj_in2 (by decide) rfl cjq_139 rfl dX0_addPaper_87 ?_
        refine cj_iconst C 1 dX0_addPaper_90 rfl ?_
        refine cj_isub C dX0_addPaper_91 ?_
        cases hf
        exact cj_iret C rfl dX0_addPaper_92
      · refine cj_ldc C cjq_363 dX0_addPaper_35 ?_
        cases hf
        exact cj_iret C rfl dX0_addPaper_37
    · refine cj_ldc C cjq_357 dX0_addPaper_21 ?_
      cases hf
      exact cj_iret C rfl dX0_addPaper_23
set_option maxHeartbeats 4000000 in
set_option maxRecDepth 100000 in
theorem ct_X0_lookAt {l : Launch} {D : va_G} {z : cj_Zc} {ad : cj_Ad} (hI : cj_Ij (cj_EL z) ad) {μ : cj_Mm} {g : Nat} (hg : cj_isC g) {s0 : cj_S} {a1 : Int32} {r : Int32} {r2 : cj_S} (hf : f_X0_lookAt s0 a1 = some (r, r2)) : cj_Ct l (cj_YL D z ad) yX0_lookAt cX0_lookAt 2 (some .int) 2 [.ref (ad g 0), .int a1] (cj_upG μ g s0) (some (.int r)) (cj_upG μ g r2) := by
  refine cj_Ct.of (by decide +kernel) hI (Nat.le_of_ble_eq_true rfl) [(0, .ref (ad g 0)), (1, .int a1)] rfl (fun X hX C => ?_)
  subst hX
  have C : cj_C (cj_YL D z ad) X cX0_lookAt 2 RX0 2 (some .int) := C
  unfold f_X0_lookAt at hf
  generalize hr2 : (r, r2) = r3 at hf
  obtain ⟨e1, e2⟩ : r = r3.1 ∧ r2 = r3.2 := by rw [← hr2]; exact ⟨rfl, rfl⟩
  rw [e1, e2]
  clear e1 e2 hr2
  obtain ⟨r, hr⟩ : ∃ r, r = r3 := ⟨_, rfl⟩
  rw [← hr] at hf ⊢
  clear hr
  refine cj_iload_n C dX0_lookAt_0 rfl 1 rfl ?_
  refine cj_iconst C (-1) dX0_lookAt_1 rfl ?_
  refine cj_jn (Hyp := fun K1 => ∀ (u : Unit), K1 u = some r → cj_G (cj_YL D z ad) X (some (.int r.1), cj_upG μ g r.2) (cj_upG μ g s0) 19 [(0, .ref (ad g 0)), (1, .int a1)] []) hf (fun u hf => ?_) (fun K1 hK1 hf => ?_)
  · refine cj_aload_n C dX0_lookAt_19 rfl 0 rfl ?_
    refine cj_iload_n C dX0_lookAt_20 rfl 1 rfl ?_
    refine cj_putS (j := 6) C (eC_0 hg) rfl rfl rfl rfl cj_in0 tyX0_ok nmX0 (by decide) rfl cjq_174 rfl rfl rfl (Nat.le_of_ble_eq_true rfl) dX0_lookAt_21 ?_
    refine cj_ltS hf (fun s2 hf => ?_)
    refine cj_iload_n C dX0_lookAt_24 rfl 1 rfl ?_
    refine cj_iconst C (-1) dX0_lookAt_25 rfl ?_
    refine cj_ic_ne C 33 dX0_lookAt_26 rfl hf (fun hf => ?_) (fun hf => ?_)
    · refine cj_aload_n C dX0_lookAt_33 rfl 0 rfl ?_
      refine cj_getS (v := .ref (ad g 1)) (j := 0) C (eC_0 hg) rfl rfl cj_in0 (by decide) rfl cjq_165 rfl dX0_lookAt_34 ?_
      refine cj_iload_n C dX0_lookAt_37 rfl 1 rfl ?_
      refine cj_iconst C 0 dX0_lookAt_38 rfl ?_
      obtain ⟨x4, h3, hf⟩ := cj_bd_s hf
      refine cj_cV2i C cw_X3_seenAfter (ct_X3_seenAfter hI hg h3) cjq_381 cjq_382 cjq_380 (eC_1 hg) rfl rfl ⟨Nat.le_of_ble_eq_true rfl, Nat.le_of_ble_eq_true rfl⟩ (Nat.le_of_ble_eq_true rfl) dX0_lookAt_39 ?_
      cases hf
      exact cj_iret C rfl dX0_lookAt_42
    · refine cj_iconst C 0 dX0_lookAt_29 rfl ?_
      refine cj_goto C 42 dX0_lookAt_30 rfl ?_
      cases hf
      exact cj_iret C rfl dX0_lookAt_42
  · refine cj_ic_eq C 19 dX0_lookAt_2 rfl hf (fun hf => ?_) (fun hf => ?_)
    · exact hK1 () hf
    · refine cj_aload_n C dX0_lookAt_5 rfl 0 rfl ?_
      refine cj_getS (v := .ref (ad g 1)) (j := 0) C (eC_0 hg) rfl rfl cj_in0 (by decide) rfl cjq_165 rfl dX0_lookAt_6 ?_
      refine cj_iload_n C dX0_lookAt_9 rfl 1 rfl ?_
      obtain ⟨x6, h5, hf⟩ := cj_bd_s hf
      refine cj_cV1i C cw_X3_has (ct_X3_has hI hg h5) cjq_377 cjq_378 cjq_376 (eC_1 hg) rfl rfl ⟨Nat.le_of_ble_eq_true rfl, Nat.le_of_ble_eq_true rfl⟩ (Nat.le_of_ble_eq_true rfl) dX0_lookAt_10 ?_
      refine cj_if_ne C 19 dX0_lookAt_13 rfl hf (fun hf => ?_) (fun hf => ?_)
      · exact hK1 () hf
      · refine cj_ldc C cjq_357 dX0_lookAt_16 ?_
        cases hf
        exact cj_iret C rfl dX0_lookAt_18
set_option maxHeartbeats 4000000 in
set_option maxRecDepth 100000 in
theorem ct_X6_add {l : Launch} {D : va_G} {z : cj_Zc} {ad : cj_Ad} (hI : cj_Ij (cj_EL z) ad) {μ : cj_Mm} {g : Nat} (hg : cj_isC g) {s0 : cj_S} {a1 : Int32} {r : Int32} {r2 : cj_S} (hf : f_X6_add s0 a1 = some (r, r2)) : cj_Ct l (cj_YL D z ad) yX6_add cX6_add 2 (some .int) 0 [.ref (ad g 9), .int a1] (cj_upG μ g s0) (some (.int r)) (cj_upG μ g r2) := by
  refine cj_Ct.of (by decide +kernel) hI (Nat.le_of_ble_eq_true rfl) [(0, .ref (ad g 9)), (1, .int a1)] rfl (fun X hX C => ?_)
  subst hX
  have C : cj_C (cj_YL D z ad) X cX6_add 2 RX6 0 (some .int) := C
  unfold f_X6_add at hf
  generalize hr2 : (r, r2) = r3 at hf
  obtain ⟨e1, e2⟩ : r = r3.1 ∧ r2 = r3.2 := by rw [← hr2]; exact ⟨rfl, rfl⟩
  rw [e1, e2]
  clear e1 e2 hr2
  obtain ⟨r, hr⟩ : ∃ r, r = r3 := ⟨_, rfl⟩
  rw [← hr] at hf ⊢
  clear hr
  refine cj_aload_n C dX6_add_0 rfl 0 rfl ?_
  refine cj_getS (v := .ref (ad g 10)) (j := 2) C (eC_9 hg) rfl rfl cj_in6 (by decide) rfl cjq_110 rfl dX6_add_1 ?_
  refine cj_aload_n C dX6_add_4 rfl 0 rfl ?_
  refine cj_getS (v := .int (s0 9 0)) (j := 0) C (eC_9 hg) rfl rfl cj_in6 (by decide) rfl cjq_105 rfl dX6_add_5 ?_
  refine cj_aload_n C dX6_add_8 rfl 0 rfl ?_
  refine cj_getS (v := .int (s0 9 1)) (j := 1) C (eC_9 hg) rfl rfl cj_in6 (by decide) rfl cjq_108 rfl dX6_add_9 ?_
  refine cj_iastS C (eC_10 hg) dX6_add_12 hf (fun hf => ?_)
  refine cj_ltS hf (fun s1 hf => ?_)
  refine cj_aload_n C dX6_add_13 rfl 0 rfl ?_
  refine cj_getS (v := .ref (ad g 11)) (j := 3) C (eC_9 hg) rfl rfl cj_in6 (by decide) rfl cjq_113 rfl dX6_add_14 ?_
  refine cj_aload_n C dX6_add_17 rfl 0 rfl ?_
  refine cj_getS (v := .int (s1 9 0)) (j := 0) C (eC_9 hg) rfl rfl cj_in6 (by decide) rfl cjq_105 rfl dX6_add_18 ?_
  refine cj_iload_n C dX6_add_21 rfl 1 rfl ?_
  refine cj_iastS C (eC_11 hg) dX6_add_22 hf (fun hf => ?_)
  refine cj_ltS hf (fun s2 hf => ?_)
  refine cj_aload_n C dX6_add_23 rfl 0 rfl ?_
  refine cj_getS (v := .ref (ad g 12)) (j := 4) C (eC_9 hg) rfl rfl cj_in6 (by decide) rfl cjq_115 rfl dX6_add_24 ?_
  refine cj_aload_n C dX6_add_27 rfl 0 rfl ?_
  refine cj_getS (v := .int (s2 9 0)) (j := 0) C (eC_9 hg) rfl rfl cj_in6 (by decide) rfl cjq_105 rfl dX6_add_28 ?_
  refine cj_iconst C 0 dX6_add_31 rfl ?_
  refine cj_iastS C (eC_12 hg) dX6_add_32 hf (fun hf => ?_)
  refine cj_ltS hf (fun s3 hf => ?_)
  refine cj_aload_n C dX6_add_33 rfl 0 rfl ?_
  refine cj_getS (v := .ref (ad g 13)) (j := 5) C (eC_9 hg) rfl rfl cj_in6 (by decide) rfl cjq_117 rfl dX6_add_34 ?_
  refine cj_aload_n C dX6_add_37 rfl 0 rfl ?_
  refine cj_getS (v := .int (s3 9 0)) (j := 0) C (eC_9 hg) rfl rfl cj_in6 (by decide) rfl cjq_105 rfl dX6_add_38 ?_
  refine cj_iconst C 0 dX6_add_41 rfl ?_
  refine cj_iastS C (eC_13 hg) dX6_add_42 hf (fun hf => ?_)
  refine cj_ltS hf (fun s4 hf => ?_)
  refine cj_aload_n C dX6_add_43 rfl 0 rfl ?_
  refine cj_dup C dX6_add_44 rfl ?_
  refine cj_getS (v := .int (s4 9 0)) (j := 0) C (eC_9 hg) rfl rfl cj_in6 (by decide) rfl cjq_105 rfl dX6_add_45 ?_
  refine cj_iconst C 1 dX6_add_48 rfl ?_
  refine cj_iadd C dX6_add_49 ?_
  refine cj_putS (j := 0) C (eC_9 hg) rfl rfl rfl rfl cj_in6 tyX6_ok nmX6 (by decide) rfl cjq_105 rfl rfl rfl (Nat.le_of_ble_eq_true rfl) dX6_add_50 ?_
  refine cj_ltS hf (fun s5 hf => ?_)
  refine cj_aload_n C dX6_add_53 rfl 0 rfl ?_
  refine cj_dup C dX6_add_54 rfl ?_
  refine cj_getS (v := .int (s5 9 1)) (j := 1) C (eC_9 hg) rfl rfl cj_in6 (by decide) rfl cjq_108 rfl dX6_add_55 ?_
  refine cj_iconst C 1 dX6_add_58 rfl ?_
  refine cj_iadd C dX6_add_59 ?_
  refine cj_putS (j := 1) C (eC_9 hg) rfl rfl rfl rfl cj_in6 tyX6_ok nmX6 (by decide) rfl cjq_108 rfl rfl rfl (Nat.le_of_ble_eq_true rfl) dX6_add_60 ?_
  refine cj_ltS hf (fun s6 hf => ?_)
  refine cj_aload_n C dX6_add_63 rfl 0 rfl ?_
  refine cj_getS (v := .int (s6 9 1)) (j := 1) C (eC_9 hg) rfl rfl cj_in6 (by decide) rfl cjq_108 rfl dX6_add_64 ?_
  refine cj_iconst C 1 dX6_add_67 rfl ?_
  refine cj_isub C dX6_add_68 ?_
  cases hf
  exact cj_iret C rfl dX6_add_69
set_option maxHeartbeats 4000000 in
set_option maxRecDepth 100000 in
theorem ct_X0_beginSheet {l : Launch} {D : va_G} {z : cj_Zc} {ad : cj_Ad} (hI : cj_Ij (cj_EL z) ad) {μ : cj_Mm} {g : Nat} (hg : cj_isC g) {s0 : cj_S} {a1 : Int32} {r : Int32} {r2 : cj_S} (hf : f_X0_beginSheet s0 a1 = some (r, r2)) : cj_Ct l (cj_YL D z ad) yX0_beginSheet cX0_beginSheet 2 (some .int) 1 [.ref (ad g 0), .int a1] (cj_upG μ g s0) (some (.int r)) (cj_upG μ g r2) := by
  refine cj_Ct.of (by decide +kernel) hI (Nat.le_of_ble_eq_true rfl) [(0, .ref (ad g 0)), (1, .int a1)] rfl (fun X hX C => ?_)
  subst hX
  have C : cj_C (cj_YL D z ad) X cX0_beginSheet 2 RX0 1 (some .int) := C
  unfold f_X0_beginSheet at hf
  generalize hr2 : (r, r2) = r3 at hf
  obtain ⟨e1, e2⟩ : r = r3.1 ∧ r2 = r3.2 := by rw [← hr2]; exact ⟨rfl, rfl⟩
  rw [e1, e2]
  clear e1 e2 hr2
  obtain ⟨r, hr⟩ : ∃ r, r = r3 := ⟨_, rfl⟩
  rw [← hr] at hf ⊢
  clear hr
  refine cj_aload_n C dX0_beginSheet_0 rfl 0 rfl ?_
  refine cj_getS (v := .ref (ad g 1)) (j := 0) C (eC_0 hg) rfl rfl cj_in0 (by decide) rfl cjq_165 rfl dX0_beginSheet_1 ?_
  refine cj_iload_n C dX0_beginSheet_4 rfl 1 rfl ?_
  obtain ⟨x2, h1, hf⟩ := cj_bd_s hf
  refine cj_cV1i C cw_X3_has (ct_X3_has hI hg h1) cjq_377 cjq_378 cjq_376 (eC_1 hg) rfl rfl ⟨Nat.le_of_ble_eq_true rfl, Nat.le_of_ble_eq_true rfl⟩ (Nat.le_of_ble_eq_true rfl) dX0_beginSheet_5 ?_
  refine cj_if_ne C 14 dX0_beginSheet_8 rfl hf (fun hf => ?_) (fun hf => ?_)
  · refine cj_aload_n C dX0_beginSheet_14 rfl 0 rfl ?_
    refine cj_getS (v := .ref (ad g 9)) (j := 1) C (eC_0 hg) rfl rfl cj_in0 (by decide) rfl cjq_167 rfl dX0_beginSheet_15 ?_
    refine cj_getS (v := .int (s0 9 0)) (j := 0) C (eC_9 hg) rfl rfl cj_in6 (by decide) rfl cjq_106 rfl dX0_beginSheet_18 ?_
    refine cj_bipush C 10 dX0_beginSheet_21 rfl ?_
    refine cj_ic_lt C 29 dX0_beginSheet_23 rfl hf (fun hf => ?_) (fun hf => ?_)
    · refine cj_aload_n C dX0_beginSheet_29 rfl 0 rfl ?_
      refine cj_getS (v := .ref (ad g 9)) (j := 1) C (eC_0 hg) rfl rfl cj_in0 (by decide) rfl cjq_167 rfl dX0_beginSheet_30 ?_
      refine cj_iload_n C dX0_beginSheet_33 rfl 1 rfl ?_
      obtain ⟨x4, s5, h3, hf⟩ := cj_bp_s hf
      refine cj_cV1i C cw_X6_add (ct_X6_add hI hg h3) cjq_420 cjq_421 cjq_419 (eC_9 hg) rfl rfl ⟨Nat.le_of_ble_eq_true rfl, Nat.le_of_ble_eq_true rfl⟩ (Nat.le_of_ble_eq_true rfl) dX0_beginSheet_34 ?_
      cases hf
      exact cj_iret C rfl dX0_beginSheet_37
    · refine cj_ldc C cjq_363 dX0_beginSheet_26 ?_
      cases hf
      exact cj_iret C rfl dX0_beginSheet_28
  · refine cj_ldc C cjq_357 dX0_beginSheet_11 ?_
    cases hf
    exact cj_iret C rfl dX0_beginSheet_13
set_option maxHeartbeats 4000000 in
set_option maxRecDepth 100000 in
theorem tl_X6_placeOf_L2 {D : va_G} {z : cj_Zc} {ad : cj_Ad} (hI : cj_Ij (cj_EL z) ad) {μ : cj_Mm} {g : Nat} (hg : cj_isC g) {y1 : Int32} {s3 : cj_S} {X : cj_X} (C : cj_C (cj_YL D z ad) X cX6_placeOf 3 RX6 0 (some .int)) {r : Int32} : ∀ (n : Nat) (x2 : Int32), f_X6_placeOf_L2 y1 s3 n x2 = some r → cj_G (cj_YL D z ad) X (some (.int r), cj_upG μ g s3) (cj_upG μ g s3) 2 [(0, .ref (ad g 9)), (1, .int y1), (2, .int x2)] [] := by
  intro n
  induction n with
  | zero =>
    intro x2 hf
    rw [f_X6_placeOf_L2] at hf
    cases hf
  | succ n ih =>
    intro x2 hf
    rw [f_X6_placeOf_L2] at hf
    refine cj_iload_n C dX6_placeOf_2 rfl 2 rfl ?_
    refine cj_aload_n C dX6_placeOf_3 rfl 0 rfl ?_
    refine cj_getS (v := .int (s3 9 0)) (j := 0) C (eC_9 hg) rfl rfl cj_in6 (by decide) rfl cjq_105 rfl dX6_placeOf_4 ?_
    refine cj_ic_ge C 28 dX6_placeOf_7 rfl hf (fun hf => ?_) (fun hf => ?_)
    · refine cj_iconst C (-1) dX6_placeOf_28 rfl ?_
      cases hf
      exact cj_iret C rfl dX6_placeOf_29
    · refine cj_aload_n C dX6_placeOf_10 rfl 0 rfl ?_
      refine cj_getS (v := .ref (ad g 10)) (j := 2) C (eC_9 hg) rfl rfl cj_in6 (by decide) rfl cjq_110 rfl dX6_placeOf_11 ?_
      refine cj_iload_n C dX6_placeOf_14 rfl 2 rfl ?_
      refine cj_ialdS C (eC_10 hg) dX6_placeOf_15 hf (fun hf => ?_)
      refine cj_iload_n C dX6_placeOf_16 rfl 1 rfl ?_
      refine cj_ic_ne C 22 dX6_placeOf_17 rfl hf (fun hf => ?_) (fun hf => ?_)
      · refine cj_iinc (lv' := [(2, .int (x2 + 1)), (0, .ref (ad g 9)), (1, .int y1)]) C dX6_placeOf_22 (j := 2) rfl rfl (by decide) rfl ?_
        refine cj_goto C 2 dX6_placeOf_25 rfl ?_
        refine cj_sub [1, 2, 0] rfl ?_
        exact ih (x2 + 1) hf
      · refine cj_iload_n C dX6_placeOf_20 rfl 2 rfl ?_
        cases hf
        exact cj_iret C rfl dX6_placeOf_21
set_option maxHeartbeats 4000000 in
set_option maxRecDepth 100000 in
theorem ct_X6_placeOf {l : Launch} {D : va_G} {z : cj_Zc} {ad : cj_Ad} (hI : cj_Ij (cj_EL z) ad) {μ : cj_Mm} {g : Nat} (hg : cj_isC g) {s0 : cj_S} {a1 : Int32} {r : Int32} (hf : f_X6_placeOf s0 a1 = some r) : cj_Ct l (cj_YL D z ad) yX6_placeOf cX6_placeOf 3 (some .int) 0 [.ref (ad g 9), .int a1] (cj_upG μ g s0) (some (.int r)) (cj_upG μ g s0) := by
  refine cj_Ct.of (by decide +kernel) hI (Nat.le_of_ble_eq_true rfl) [(0, .ref (ad g 9)), (1, .int a1)] rfl (fun X hX C => ?_)
  subst hX
  have C : cj_C (cj_YL D z ad) X cX6_placeOf 3 RX6 0 (some .int) := C
  unfold f_X6_placeOf at hf
  refine cj_iconst C 0 dX6_placeOf_0 rfl ?_
  refine cj_istore_n (lv' := [(2, .int 0), (0, .ref (ad g 9)), (1, .int a1)]) C dX6_placeOf_1 rfl (by decide) rfl ?_
  refine cj_sub [1, 2, 0] rfl ?_
  exact tl_X6_placeOf_L2 hI hg C cj_FU 0 hf
set_option maxHeartbeats 4000000 in
set_option maxRecDepth 100000 in
theorem tl_X3_rememberedSince_L5 {D : va_G} {z : cj_Zc} {ad : cj_Ad} (hI : cj_Ij (cj_EL z) ad) {μ : cj_Mm} {g : Nat} (hg : cj_isC g) {y1 : Int32} {y2 : Int32} {s5 : cj_S} {X : cj_X} (C : cj_C (cj_YL D z ad) X cX3_rememberedSince 6 RX3 0 (some .int)) {r : Int32} : ∀ (n : Nat) (x3 : Int32) (x4 : Int32), f_X3_rememberedSince_L5 y1 y2 s5 n x3 x4 = some r → cj_G (cj_YL D z ad) X (some (.int r), cj_upG μ g s5) (cj_upG μ g s5) 5 [(0, .ref (ad g 1)), (1, .int y1), (2, .int y2), (3, .int x3), (4, .int x4)] [] := by
  intro n
  induction n with
  | zero =>
    intro x3 x4 hf
    rw [f_X3_rememberedSince_L5] at hf
    cases hf
  | succ n ih =>
    intro x3 x4 hf
    rw [f_X3_rememberedSince_L5] at hf
    refine cj_iload C dX3_rememberedSince_5 4 rfl ?_
    refine cj_bipush C 12 dX3_rememberedSince_7 rfl ?_
    refine cj_ic_ge C 51 dX3_rememberedSince_9 rfl hf (fun hf => ?_) (fun hf => ?_)
    · refine cj_iload_n C dX3_rememberedSince_51 rfl 3 rfl ?_
      cases hf
      exact cj_iret C rfl dX3_rememberedSince_52
    · refine cj_aload_n C dX3_rememberedSince_12 rfl 0 rfl ?_
      refine cj_getS (v := .ref (ad g 8)) (j := 7) C (eC_1 hg) rfl rfl cj_in3 (by decide) rfl cjq_80 rfl dX3_rememberedSince_13 ?_
      refine cj_iload_n C dX3_rememberedSince_16 rfl 1 rfl ?_
      refine cj_bipush C 12 dX3_rememberedSince_17 rfl ?_
      refine cj_imul C dX3_rememberedSince_19 ?_
      refine cj_iload C dX3_rememberedSince_20 4 rfl ?_
      refine cj_iadd C dX3_rememberedSince_22 ?_
      refine cj_ialdS C (eC_8 hg) dX3_rememberedSince_23 hf (fun hf => ?_)
      refine cj_ltI hf (fun x6 hf => ?_)
      refine cj_istore (lv' := [(5, .int x6), (0, .ref (ad g 1)), (1, .int y1), (2, .int y2), (3, .int x3), (4, .int x4)]) C dX3_rememberedSince_24 (by decide) rfl ?_
      refine cj_iload C dX3_rememberedSince_26 0 rfl ?_
      refine cj_iconst C (-1) dX3_rememberedSince_28 rfl ?_
      refine cj_ic_eq C 45 dX3_rememberedSince_29 rfl hf (fun hf => ?_) (fun hf => ?_)
      · refine cj_iinc (lv' := [(4, .int (x4 + 1)), (5, .int x6), (0, .ref (ad g 1)), (1, .int y1), (2, .int y2), (3, .int x3)]) C dX3_rememberedSince_45 (j := 5) rfl rfl (by decide) rfl ?_
        refine cj_goto C 5 dX3_rememberedSince_48 rfl ?_
        refine cj_sub [2, 3, 4, 5, 0] rfl ?_
        exact ih x3 (x4 + 1) hf
      · refine cj_iload C dX3_rememberedSince_32 0 rfl ?_
        refine cj_iload_n C dX3_rememberedSince_34 rfl 3 rfl ?_
        refine cj_ic_lt C 45 dX3_rememberedSince_35 rfl hf (fun hf => ?_) (fun hf => ?_)
        · refine cj_iinc (lv' := [(4, .int (x4 + 1)), (5, .int x6), (0, .ref (ad g 1)), (1, .int y1), (2, .int y2), (3, .int x3)]) C dX3_rememberedSince_45 (j := 5) rfl rfl (by decide) rfl ?_
          refine cj_goto C 5 dX3_rememberedSince_48 rfl ?_
          refine cj_sub [2, 3, 4, 5, 0] rfl ?_
          exact ih x3 (x4 + 1) hf
        · refine cj_iload_n C dX3_rememberedSince_38 rfl 4 rfl ?_
          refine cj_iconst C 1 dX3_rememberedSince_39 rfl ?_
          refine cj_iload C dX3_rememberedSince_40 5 rfl ?_
          refine cj_ishl C dX3_rememberedSince_42 ?_
          refine cj_ior C dX3_rememberedSince_43 ?_
          refine cj_ltI hf (fun x7 hf => ?_)
          refine cj_istore_n (lv' := [(3, .int x7), (5, .int x6), (0, .ref (ad g 1)), (1, .int y1), (2, .int y2), (4, .int x4)]) C dX3_rememberedSince_44 rfl (by decide) rfl ?_
          refine cj_iinc (lv' := [(4, .int (x4 + 1)), (3, .int x7), (5, .int x6), (0, .ref (ad g 1)), (1, .int y1), (2, .int y2)]) C dX3_rememberedSince_45 (j := 5) rfl rfl (by decide) rfl ?_
          refine cj_goto C 5 dX3_rememberedSince_48 rfl ?_
          refine cj_sub [3, 4, 5, 1, 0] rfl ?_
          exact ih x7 (x4 + 1) hf
set_option maxHeartbeats 4000000 in
set_option maxRecDepth 100000 in
theorem ct_X3_rememberedSince {l : Launch} {D : va_G} {z : cj_Zc} {ad : cj_Ad} (hI : cj_Ij (cj_EL z) ad) {μ : cj_Mm} {g : Nat} (hg : cj_isC g) {s0 : cj_S} {a1 : Int32} {a2 : Int32} {r : Int32} (hf : f_X3_rememberedSince s0 a1 a2 = some r) : cj_Ct l (cj_YL D z ad) yX3_rememberedSince cX3_rememberedSince 6 (some .int) 0 [.ref (ad g 1), .int a1, .int a2] (cj_upG μ g s0) (some (.int r)) (cj_upG μ g s0) := by
  refine cj_Ct.of (by decide +kernel) hI (Nat.le_of_ble_eq_true rfl) [(0, .ref (ad g 1)), (1, .int a1), (2, .int a2)] rfl (fun X hX C => ?_)
  subst hX
  have C : cj_C (cj_YL D z ad) X cX3_rememberedSince 6 RX3 0 (some .int) := C
  unfold f_X3_rememberedSince at hf
  refine cj_iconst C 0 dX3_rememberedSince_0 rfl ?_
  refine cj_istore_n (lv' := [(3, .int 0), (0, .ref (ad g 1)), (1, .int a1), (2, .int a2)]) C dX3_rememberedSince_1 rfl (by decide) rfl ?_
  refine cj_iconst C 0 dX3_rememberedSince_2 rfl ?_
  refine cj_istore (lv' := [(4, .int 0), (3, .int 0), (0, .ref (ad g 1)), (1, .int a1), (2, .int a2)]) C dX3_rememberedSince_3 (by decide) rfl ?_
  refine cj_sub [2, 3, 4, 1, 0] rfl ?_
  exact tl_X3_rememberedSince_L5 hI hg C cj_FU 0 0 hf
set_option maxHeartbeats 4000000 in
set_option maxRecDepth 100000 in
theorem ct_X0_remembered {l : Launch} {D : va_G} {z : cj_Zc} {ad : cj_Ad} (hI : cj_Ij (cj_EL z) ad) {μ : cj_Mm} {g : Nat} (hg : cj_isC g) {s0 : cj_S} {a1 : Int32} {r : Int32} (hf : f_X0_remembered s0 a1 = some r) : cj_Ct l (cj_YL D z ad) yX0_remembered cX0_remembered 2 (some .int) 1 [.ref (ad g 0), .int a1] (cj_upG μ g s0) (some (.int r)) (cj_upG μ g s0) := by
  refine cj_Ct.of (by decide +kernel) hI (Nat.le_of_ble_eq_true rfl) [(0, .ref (ad g 0)), (1, .int a1)] rfl (fun X hX C => ?_)
  subst hX
  have C : cj_C (cj_YL D z ad) X cX0_remembered 2 RX0 1 (some .int) := C
  unfold f_X0_remembered at hf
  refine cj_aload_n C dX0_remembered_0 rfl 0 rfl ?_
  refine cj_getS (v := .ref (ad g 1)) (j := 0) C (eC_0 hg) rfl rfl cj_in0 (by decide) rfl cjq_165 rfl dX0_remembered_1 ?_
  refine cj_iload_n C dX0_remembered_4 rfl 1 rfl ?_
  refine cj_aload_n C dX0_remembered_5 rfl 0 rfl ?_
  refine cj_getS (v := .int (s0 0 5)) (j := 5) C (eC_0 hg) rfl rfl cj_in0 (by decide) rfl cjq_173 rfl dX0_remembered_6 ?_
  refine cj_aload_n C dX0_remembered_9 rfl 0 rfl ?_
  refine cj_getS (v := .int (s0 0 3)) (j := 3) C (eC_0 hg) rfl rfl cj_in0 (by decide) rfl cjq_171 rfl dX0_remembered_10 ?_
  refine cj_isub C dX0_remembered_13 ?_
  obtain ⟨x2, h1, hf⟩ := cj_bd_s hf
  refine cj_cV2i C cw_X3_rememberedSince (ct_X3_rememberedSince hI hg h1) cjq_444 cjq_445 cjq_443 (eC_1 hg) rfl rfl ⟨Nat.le_of_ble_eq_true rfl, Nat.le_of_ble_eq_true rfl⟩ (Nat.le_of_ble_eq_true rfl) dX0_remembered_14 ?_
  cases hf
  exact cj_iret C rfl dX0_remembered_17
set_option maxHeartbeats 4000000 in
set_option maxRecDepth 100000 in
theorem ct_X0_drawable {l : Launch} {D : va_G} {z : cj_Zc} {ad : cj_Ad} (hI : cj_Ij (cj_EL z) ad) {μ : cj_Mm} {g : Nat} (hg : cj_isC g) {s0 : cj_S} {a1 : Int32} {r : Int32} (hf : f_X0_drawable s0 a1 = some r) : cj_Ct l (cj_YL D z ad) yX0_drawable cX0_drawable 2 (some .int) 2 [.ref (ad g 0), .int a1] (cj_upG μ g s0) (some (.int r)) (cj_upG μ g s0) := by
  refine cj_Ct.of (by decide +kernel) hI (Nat.le_of_ble_eq_true rfl) [(0, .ref (ad g 0)), (1, .int a1)] rfl (fun X hX C => ?_)
  subst hX
  have C : cj_C (cj_YL D z ad) X cX0_drawable 2 RX0 2 (some .int) := C
  unfold f_X0_drawable at hf
  refine cj_aload_n C dX0_drawable_0 rfl 0 rfl ?_
  refine cj_aload_n C dX0_drawable_1 rfl 0 rfl ?_
  refine cj_getS (v := .ref (ad g 9)) (j := 1) C (eC_0 hg) rfl rfl cj_in0 (by decide) rfl cjq_167 rfl dX0_drawable_2 ?_
  refine cj_getS (v := .ref (ad g 11)) (j := 3) C (eC_9 hg) rfl rfl cj_in6 (by decide) rfl cjq_114 rfl dX0_drawable_5 ?_
  refine cj_iload_n C dX0_drawable_8 rfl 1 rfl ?_
  refine cj_ialdS C (eC_11 hg) dX0_drawable_9 hf (fun hf => ?_)
  obtain ⟨x2, h1, hf⟩ := cj_bd_s hf
  refine cj_cV1i C cw_X0_remembered (ct_X0_remembered hI hg h1) cjq_440 cjq_441 cjq_439 (eC_0 hg) rfl rfl ⟨Nat.le_of_ble_eq_true rfl, Nat.le_of_ble_eq_true rfl⟩ (Nat.le_of_ble_eq_true rfl) dX0_drawable_10 ?_
  refine cj_aload_n C dX0_drawable_13 rfl 0 rfl ?_
  refine cj_getS (v := .ref (ad g 9)) (j := 1) C (eC_0 hg) rfl rfl cj_in0 (by decide) rfl cjq_167 rfl dX0_drawable_14 ?_
  refine cj_getS (v := .ref (ad g 12)) (j := 4) C (eC_9 hg) rfl rfl cj_in6 (by decide) rfl cjq_116 rfl dX0_drawable_17 ?_
  refine cj_iload_n C dX0_drawable_20 rfl 1 rfl ?_
  refine cj_ialdS C (eC_12 hg) dX0_drawable_21 hf (fun hf => ?_)
  refine cj_iconst C (-1) dX0_drawable_22 rfl ?_
  refine cj_ixor C dX0_drawable_23 ?_
  refine cj_iand C dX0_drawable_24 ?_
  cases hf
  exact cj_iret C rfl dX0_drawable_25
set_option maxHeartbeats 4000000 in
set_option maxRecDepth 100000 in
theorem ct_X8_hasBit {l : Launch} {Y : cj_Y} (hI : cj_Ij Y.1 Y.2.2.2) {μ : cj_Mm} {a0 : Int32} {a1 : Int32} {r : Int32} (hf : f_X8_hasBit a0 a1 = some r) : cj_Ct l Y yX8_hasBit cX8_hasBit 2 (some .boolean) 0 [.int a0, .int a1] (μ) (some (.int r)) (μ) := by
  refine cj_Ct.of (by decide +kernel) hI (Nat.le_of_ble_eq_true rfl) [(0, .int a0), (1, .int a1)] rfl (fun X hX C => ?_)
  subst hX
  have C : cj_C Y X cX8_hasBit 2 RX8 0 (some .boolean) := C
  unfold f_X8_hasBit at hf
  refine cj_iload_n C dX8_hasBit_0 rfl 0 rfl ?_
  refine cj_iload_n C dX8_hasBit_1 rfl 1 rfl ?_
  refine cj_ishr C dX8_hasBit_2 ?_
  refine cj_iconst C 1 dX8_hasBit_3 rfl ?_
  refine cj_iand C dX8_hasBit_4 ?_
  refine cj_if_eq C 12 dX8_hasBit_5 rfl hf (fun hf => ?_) (fun hf => ?_)
  · refine cj_iconst C 0 dX8_hasBit_12 rfl ?_
    cases hf
    exact cj_zret C rfl rfl rfl dX8_hasBit_13
  · refine cj_iconst C 1 dX8_hasBit_8 rfl ?_
    refine cj_goto C 13 dX8_hasBit_9 rfl ?_
    cases hf
    exact cj_zret C rfl rfl rfl dX8_hasBit_13
set_option maxHeartbeats 4000000 in
set_option maxRecDepth 100000 in
theorem ct_J9_max_7cf53 {l : Launch} {Y : cj_Y} (hI : cj_Ij Y.1 Y.2.2.2) {μ : cj_Mm} {a0 : Int32} {a1 : Int32} {r : Int32} (hf : f_J9_max_7cf53 a0 a1 = some r) : cj_Ct l Y yJ9_max_7cf53 cJ9_max_7cf53 2 (some .int) 0 [.int a0, .int a1] (μ) (some (.int r)) (μ) := by
  refine cj_Ct.ofF (by decide +kernel) hI (Nat.le_of_ble_eq_true rfl) [(0, .int a0), (1, .int a1)] rfl (fun X hX C => ?_)
  subst hX
  have C : cj_C Y X cJ9_max_7cf53 2 RJ9 0 (some .int) := C
  unfold f_J9_max_7cf53 at hf
  refine cj_iload_n C dJ9_max_7cf53_0 rfl 0 rfl ?_
  refine cj_iload_n C dJ9_max_7cf53_1 rfl 1 rfl ?_
  refine cj_ic_lt C 9 dJ9_max_7cf53_2 rfl hf (fun hf => ?_) (fun hf => ?_)
  · refine cj_iload_n C dJ9_max_7cf53_9 rfl 1 rfl ?_
    cases hf
    exact cj_iret C rfl dJ9_max_7cf53_10
  · refine cj_iload_n C dJ9_max_7cf53_5 rfl 0 rfl ?_
    refine cj_goto C 10 dJ9_max_7cf53_6 rfl ?_
    cases hf
    exact cj_iret C rfl dJ9_max_7cf53_10
set_option maxHeartbeats 4000000 in
set_option maxRecDepth 100000 in
theorem ct_J6_bitCount_0f7a4 {l : Launch} {Y : cj_Y} (hI : cj_Ij Y.1 Y.2.2.2) {μ : cj_Mm} {a0 : Int32} {r : Int32} (hf : f_J6_bitCount_0f7a4 a0 = some r) : cj_Ct l Y yJ6_bitCount_0f7a4 cJ6_bitCount_0f7a4 1 (some .int) 0 [.int a0] (μ) (some (.int r)) (μ) := by
  refine cj_Ct.ofF (by decide +kernel) hI (Nat.le_of_ble_eq_true rfl) [(0, .int a0)] rfl (fun X hX C => ?_)
  subst hX
  have C : cj_C Y X cJ6_bitCount_0f7a4 1 RJ6 0 (some .int) := C
  unfold f_J6_bitCount_0f7a4 at hf
  refine cj_iload_n C dJ6_bitCount_0f7a4_0 rfl 0 rfl ?_
  refine cj_iload_n C dJ6_bitCount_0f7a4_1 rfl 0 rfl ?_
  refine cj_iconst C 1 dJ6_bitCount_0f7a4_2 rfl ?_
  refine cj_iushr C dJ6_bitCount_0f7a4_3 ?_
  refine cj_ldcw C cjq_456 dJ6_bitCount_0f7a4_4 ?_
  refine cj_iand C dJ6_bitCount_0f7a4_7 ?_
  refine cj_isub C dJ6_bitCount_0f7a4_8 ?_
  refine cj_ltI hf (fun x1 hf => ?_)
  refine cj_istore_n (lv' := [(0, .int x1)]) C dJ6_bitCount_0f7a4_9 rfl (by decide) rfl ?_
  refine cj_iload_n C dJ6_bitCount_0f7a4_10 rfl 0 rfl ?_
  refine cj_ldcw C cjq_457 dJ6_bitCount_0f7a4_11 ?_
  refine cj_iand C dJ6_bitCount_0f7a4_14 ?_
  refine cj_iload_n C dJ6_bitCount_0f7a4_15 rfl 0 rfl ?_
  refine cj_iconst C 2 dJ6_bitCount_0f7a4_16 rfl ?_
  refine cj_iushr C dJ6_bitCount_0f7a4_17 ?_
  refine cj_ldcw C cjq_457 dJ6_bitCount_0f7a4_18 ?_
  refine cj_iand C dJ6_bitCount_0f7a4_21 ?_
  refine cj_iadd C dJ6_bitCount_0f7a4_22 ?_
  refine cj_ltI hf (fun x2 hf => ?_)
  refine cj_istore_n (lv' := [(0, .int x2)]) C dJ6_bitCount_0f7a4_23 rfl (by decide) rfl ?_
  refine cj_iload_n C dJ6_bitCount_0f7a4_24 rfl 0 rfl ?_
  refine cj_iload_n C dJ6_bitCount_0f7a4_25 rfl 0 rfl ?_
  refine cj_iconst C 4 dJ6_bitCount_0f7a4_26 rfl ?_
  refine cj_iushr C dJ6_bitCount_0f7a4_27 ?_
  refine cj_iadd C dJ6_bitCount_0f7a4_28 ?_
  refine cj_ldcw C cjq_458 dJ6_bitCount_0f7a4_29 ?_
  refine cj_iand C dJ6_bitCount_0f7a4_32 ?_
  refine cj_ltI hf (fun x3 hf => ?_)
  refine cj_istore_n (lv' := [(0, .int x3)]) C dJ6_bitCount_0f7a4_33 rfl (by decide) rfl ?_
  refine cj_iload_n C dJ6_bitCount_0f7a4_34 rfl 0 rfl ?_
  refine cj_iload_n C dJ6_bitCount_0f7a4_35 rfl 0 rfl ?_
  refine cj_bipush C 8 dJ6_bitCount_0f7a4_36 rfl ?_
  refine cj_iushr C dJ6_bitCount_0f7a4_38 ?_
  refine cj_iadd C dJ6_bitCount_0f7a4_39 ?_
  refine cj_istore_n (lv' := [(0, .int (x3 + (cj_us x3 8)))]) C dJ6_bitCount_0f7a4_40 rfl (by decide) rfl ?_
  refine cj_iload_n C dJ6_bitCount_0f7a4_41 rfl 0 rfl ?_
  refine cj_iload_n C dJ6_bitCount_0f7a4_42 rfl 0 rfl ?_
  refine cj_bipush C 16 dJ6_bitCount_0f7a4_43 rfl ?_
  refine cj_iushr C dJ6_bitCount_0f7a4_45 ?_
  refine cj_iadd C dJ6_bitCount_0f7a4_46 ?_
  refine cj_ltI hf (fun x4 hf => ?_)
  refine cj_istore_n (lv' := [(0, .int x4)]) C dJ6_bitCount_0f7a4_47 rfl (by decide) rfl ?_
  refine cj_iload_n C dJ6_bitCount_0f7a4_48 rfl 0 rfl ?_
  refine cj_bipush C 63 dJ6_bitCount_0f7a4_49 rfl ?_
  refine cj_iand C dJ6_bitCount_0f7a4_51 ?_
  cases hf
  exact cj_iret C rfl dJ6_bitCount_0f7a4_52
set_option maxHeartbeats 4000000 in
set_option maxRecDepth 100000 in
theorem ct_X0_drawFeature {l : Launch} {D : va_G} {z : cj_Zc} {ad : cj_Ad} (hI : cj_Ij (cj_EL z) ad) {μ : cj_Mm} {g : Nat} (hg : cj_isC g) {s0 : cj_S} {a1 : Int32} {a2 : Int32} {r : Int32} {r2 : cj_S} (hf : f_X0_drawFeature s0 a1 a2 = some (r, r2)) : cj_Ct l (cj_YL D z ad) yX0_drawFeature cX0_drawFeature 4 (some .int) 3 [.ref (ad g 0), .int a1, .int a2] (cj_upG μ g s0) (some (.int r)) (cj_upG μ g r2) := by
  refine cj_Ct.of (by decide +kernel) hI (Nat.le_of_ble_eq_true rfl) [(0, .ref (ad g 0)), (1, .int a1), (2, .int a2)] rfl (fun X hX C => ?_)
  subst hX
  have C : cj_C (cj_YL D z ad) X cX0_drawFeature 4 RX0 3 (some .int) := C
  unfold f_X0_drawFeature at hf
  generalize hr2 : (r, r2) = r3 at hf
  obtain ⟨e1, e2⟩ : r = r3.1 ∧ r2 = r3.2 := by rw [← hr2]; exact ⟨rfl, rfl⟩
  rw [e1, e2]
  clear e1 e2 hr2
  obtain ⟨r, hr⟩ : ∃ r, r = r3 := ⟨_, rfl⟩
  rw [← hr] at hf ⊢
  clear hr
  refine cj_aload_n C dX0_drawFeature_0 rfl 0 rfl ?_
  refine cj_getS (v := .ref (ad g 9)) (j := 1) C (eC_0 hg) rfl rfl cj_in0 (by decide) rfl cjq_167 rfl dX0_drawFeature_1 ?_
  refine cj_iload_n C dX0_drawFeature_4 rfl 1 rfl ?_
  obtain ⟨x2, h1, hf⟩ := cj_bd_s hf
  refine cj_cV1i C cw_X6_placeOf (ct_X6_placeOf hI hg h1) cjq_432 cjq_433 cjq_431 (eC_9 hg) rfl rfl ⟨Nat.le_of_ble_eq_true rfl, Nat.le_of_ble_eq_true rfl⟩ (Nat.le_of_ble_eq_true rfl) dX0_drawFeature_5 ?_
  refine cj_istore_n (lv' := [(3, .int x2), (0, .ref (ad g 0)), (1, .int a1), (2, .int a2)]) C dX0_drawFeature_8 rfl (by decide) rfl ?_
  refine cj_iload_n C dX0_drawFeature_9 rfl 0 rfl ?_
  refine cj_iconst C (-1) dX0_drawFeature_10 rfl ?_
  refine cj_ic_eq C 24 dX0_drawFeature_11 rfl hf (fun hf => ?_) (fun hf => ?_)
  · refine cj_ldc C cjq_357 dX0_drawFeature_24 ?_
    cases hf
    exact cj_iret C rfl dX0_drawFeature_26
  · refine cj_iload_n C dX0_drawFeature_14 rfl 3 rfl ?_
    refine cj_iconst C 0 dX0_drawFeature_15 rfl ?_
    refine cj_bipush C 11 dX0_drawFeature_16 rfl ?_
    obtain ⟨x4, h3, hf⟩ := cj_bd_s hf
    refine cj_cN3i C cw_X8_isWithin (ct_X8_isWithin hI h3) cjq_355 cjn_X0_64 ⟨Nat.le_of_ble_eq_true rfl, Nat.le_of_ble_eq_true rfl⟩ (Nat.le_of_ble_eq_true rfl) dX0_drawFeature_18 ?_
    refine cj_if_ne C 27 dX0_drawFeature_21 rfl hf (fun hf => ?_) (fun hf => ?_)
    · refine cj_aload_n C dX0_drawFeature_27 rfl 1 rfl ?_
      refine cj_iload_n C dX0_drawFeature_28 rfl 0 rfl ?_
      obtain ⟨x6, h5, hf⟩ := cj_bd_s hf
      refine cj_cV1i C cw_X0_drawable (ct_X0_drawable hI hg h5) cjq_436 cjq_437 cjq_435 (eC_0 hg) rfl rfl ⟨Nat.le_of_ble_eq_true rfl, Nat.le_of_ble_eq_true rfl⟩ (Nat.le_of_ble_eq_true rfl) dX0_drawFeature_29 ?_
      refine cj_iload_n C dX0_drawFeature_32 rfl 3 rfl ?_
      obtain ⟨x8, h7, hf⟩ := cj_bd_s hf
      refine cj_cN2i C cw_X8_hasBit (ct_X8_hasBit hI h7) cjq_448 cjn_X0_117 ⟨Nat.le_of_ble_eq_true rfl, Nat.le_of_ble_eq_true rfl⟩ (Nat.le_of_ble_eq_true rfl) dX0_drawFeature_33 ?_
      refine cj_if_ne C 42 dX0_drawFeature_36 rfl hf (fun hf => ?_) (fun hf => ?_)
      · refine cj_aload_n C dX0_drawFeature_42 rfl 1 rfl ?_
        refine cj_getS (v := .int (s0 0 7)) (j := 7) C (eC_0 hg) rfl rfl cj_in0 (by decide) rfl cjq_176 rfl dX0_drawFeature_43 ?_
        refine cj_iconst C 3 dX0_drawFeature_46 rfl ?_
        refine cj_ic_lt C 53 dX0_drawFeature_47 rfl hf (fun hf => ?_) (fun hf => ?_)
        · refine cj_aload_n C dX0_drawFeature_53 rfl 1 rfl ?_
          refine cj_dup C dX0_drawFeature_54 rfl ?_
          refine cj_getS (v := .int (s0 0 7)) (j := 7) C (eC_0 hg) rfl rfl cj_in0 (by decide) rfl cjq_176 rfl dX0_drawFeature_55 ?_
          refine cj_iconst C 1 dX0_drawFeature_58 rfl ?_
          refine cj_iadd C dX0_drawFeature_59 ?_
          refine cj_putS (j := 7) C (eC_0 hg) rfl rfl rfl rfl cj_in0 tyX0_ok nmX0 (by decide) rfl cjq_176 rfl rfl rfl (Nat.le_of_ble_eq_true rfl) dX0_drawFeature_60 ?_
          refine cj_ltS hf (fun s9 hf => ?_)
          refine cj_aload_n C dX0_drawFeature_63 rfl 1 rfl ?_
          refine cj_getS (v := .ref (ad g 9)) (j := 1) C (eC_0 hg) rfl rfl cj_in0 (by decide) rfl cjq_167 rfl dX0_drawFeature_64 ?_
          refine cj_getS (v := .ref (ad g 12)) (j := 4) C (eC_9 hg) rfl rfl cj_in6 (by decide) rfl cjq_116 rfl dX0_drawFeature_67 ?_
          refine cj_iload_n C dX0_drawFeature_70 rfl 0 rfl ?_
          refine cj_dup2 C dX0_drawFeature_71 rfl rfl ?_
          refine cj_ialdS C (eC_12 hg) dX0_drawFeature_72 hf (fun hf => ?_)
          refine cj_iconst C 1 dX0_drawFeature_73 rfl ?_
          refine cj_iload_n C dX0_drawFeature_74 rfl 3 rfl ?_
          refine cj_ishl C dX0_drawFeature_75 ?_
          refine cj_ior C dX0_drawFeature_76 ?_
          refine cj_iastS C (eC_12 hg) dX0_drawFeature_77 hf (fun hf => ?_)
          refine cj_ltS hf (fun s10 hf => ?_)
          refine cj_aload_n C dX0_drawFeature_78 rfl 1 rfl ?_
          refine cj_getS (v := .ref (ad g 9)) (j := 1) C (eC_0 hg) rfl rfl cj_in0 (by decide) rfl cjq_167 rfl dX0_drawFeature_79 ?_
          refine cj_getS (v := .ref (ad g 13)) (j := 5) C (eC_9 hg) rfl rfl cj_in6 (by decide) rfl cjq_118 rfl dX0_drawFeature_82 ?_
          refine cj_iload_n C dX0_drawFeature_85 rfl 0 rfl ?_
          refine cj_aload_n C dX0_drawFeature_86 rfl 1 rfl ?_
          refine cj_getS (v := .ref (ad g 9)) (j := 1) C (eC_0 hg) rfl rfl cj_in0 (by decide) rfl cjq_167 rfl dX0_drawFeature_87 ?_
          refine cj_getS (v := .ref (ad g 13)) (j := 5) C (eC_9 hg) rfl rfl cj_in6 (by decide) rfl cjq_118 rfl dX0_drawFeature_90 ?_
          refine cj_iload_n C dX0_drawFeature_93 rfl 0 rfl ?_
          refine cj_ialdS C (eC_13 hg) dX0_drawFeature_94 hf (fun hf => ?_)
          refine cj_aload_n C dX0_drawFeature_95 rfl 1 rfl ?_
          refine cj_getS (v := .int (s10 0 5)) (j := 5) C (eC_0 hg) rfl rfl cj_in0 (by decide) rfl cjq_173 rfl dX0_drawFeature_96 ?_
          refine cj_aload_n C dX0_drawFeature_99 rfl 1 rfl ?_
          refine cj_getS (v := .int (s10 0 4)) (j := 4) C (eC_0 hg) rfl rfl cj_in0 (by decide) rfl cjq_172 rfl dX0_drawFeature_100 ?_
          refine cj_iadd C dX0_drawFeature_103 ?_
          obtain ⟨x12, h11, hf⟩ := cj_bd_s hf
          refine cj_cS2i C cw_J9_max_7cf53 (ct_J9_max_7cf53 hI h11) cjq_451 cjq_450 ⟨Nat.le_of_ble_eq_true rfl, Nat.le_of_ble_eq_true rfl⟩ (Nat.le_of_ble_eq_true rfl) dX0_drawFeature_104 ?_
          refine cj_iastS C (eC_13 hg) dX0_drawFeature_107 hf (fun hf => ?_)
          refine cj_ltS hf (fun s13 hf => ?_)
          refine cj_aload_n C dX0_drawFeature_108 rfl 1 rfl ?_
          refine cj_getS (v := .ref (ad g 9)) (j := 1) C (eC_0 hg) rfl rfl cj_in0 (by decide) rfl cjq_167 rfl dX0_drawFeature_109 ?_
          refine cj_getS (v := .ref (ad g 12)) (j := 4) C (eC_9 hg) rfl rfl cj_in6 (by decide) rfl cjq_116 rfl dX0_drawFeature_112 ?_
          refine cj_iload_n C dX0_drawFeature_115 rfl 0 rfl ?_
          refine cj_ialdS C (eC_12 hg) dX0_drawFeature_116 hf (fun hf => ?_)
          obtain ⟨x15, h14, hf⟩ := cj_bd_s hf
          refine cj_cS1i C cw_J6_bitCount_0f7a4 (ct_J6_bitCount_0f7a4 hI h14) cjq_454 cjq_453 ⟨Nat.le_of_ble_eq_true rfl, Nat.le_of_ble_eq_true rfl⟩ (Nat.le_of_ble_eq_true rfl) dX0_drawFeature_117 ?_
          cases hf
          exact cj_iret C rfl dX0_drawFeature_120
        · refine cj_ldc C cjq_363 dX0_drawFeature_50 ?_
          cases hf
          exact cj_iret C rfl dX0_drawFeature_52
      · refine cj_ldc C cjq_362 dX0_drawFeature_39 ?_
        cases hf
        exact cj_iret C rfl dX0_drawFeature_41
    · refine cj_ldc C cjq_357 dX0_drawFeature_24 ?_
      cases hf
      exact cj_iret C rfl dX0_drawFeature_26
end
