set_option maxHeartbeats 4000000 in
set_option maxRecDepth 100000 in
theorem tl_X6_removeAt_L2 {D : va_G} {z : cj_Zc} {ad : cj_Ad} (hI : cj_Ij (cj_EL z) ad) {μ : cj_Mm} {g : Nat} (hg : cj_isC g)  {X : cj_X} (C : cj_C (cj_YL D z ad) X cX6_removeAt 3 RX6 0 none) {r : cj_S} {K : cj_S → Option (cj_S)} (hK : ∀ (s3 : cj_S), K s3 = some r → cj_G (cj_YL D z ad) X (none, cj_upG μ g r) (cj_upG μ g s3) 74 [(0, .ref (ad g 9))] []) : ∀ (n : Nat) (x1 : Int32) (s2 : cj_S), f_X6_removeAt_L2 K n x1 s2 = some r → cj_G (cj_YL D z ad) X (none, cj_upG μ g r) (cj_upG μ g s2) 2 [(0, .ref (ad g 9)), (2, .int x1)] [] := by
  intro n
  induction n with
  | zero =>
    intro x1 s2 hf
    rw [f_X6_removeAt_L2] at hf
    cases hf
  | succ n ih =>
    intro x1 s2 hf
    rw [f_X6_removeAt_L2] at hf
    refine cj_iload_n C dX6_removeAt_2 rfl 1 rfl ?_
    refine cj_iconst C 1 dX6_removeAt_3 rfl ?_
    refine cj_iadd C dX6_removeAt_4 ?_
    refine cj_aload_n C dX6_removeAt_5 rfl 0 rfl ?_
    refine cj_getS (v := .int (s2 9 0)) (j := 0) C (eC_9 (z := z) (ad := ad) hg) rfl rfl cj_in6 (by decide) rfl cjq_105 rfl dX6_removeAt_6 ?_
    refine cj_ic_ge C 74 dX6_removeAt_9 rfl hf (fun hf => ?_) (fun hf => ?_)
    · refine cj_sub [0] rfl ?_
      exact hK s2 hf
    · refine cj_aload_n C dX6_removeAt_12 rfl 0 rfl ?_
      refine cj_getS (v := .ref (ad g 10)) (j := 2) C (eC_9 (z := z) (ad := ad) hg) rfl rfl cj_in6 (by decide) rfl cjq_110 rfl dX6_removeAt_13 ?_
      refine cj_iload_n C dX6_removeAt_16 rfl 1 rfl ?_
      refine cj_aload_n C dX6_removeAt_17 rfl 0 rfl ?_
      refine cj_getS (v := .ref (ad g 10)) (j := 2) C (eC_9 (z := z) (ad := ad) hg) rfl rfl cj_in6 (by decide) rfl cjq_110 rfl dX6_removeAt_18 ?_
      refine cj_iload_n C dX6_removeAt_21 rfl 1 rfl ?_
      refine cj_iconst C 1 dX6_removeAt_22 rfl ?_
      refine cj_iadd C dX6_removeAt_23 ?_
      refine cj_ialdS C (eC_10 (z := z) (ad := ad) hg) dX6_removeAt_24 hf (fun hf => ?_)
      refine cj_iastS C (eC_10 (z := z) (ad := ad) hg) dX6_removeAt_25 hf (fun hf => ?_)
      refine cj_ltS hf (fun s4 hf => ?_)
      refine cj_aload_n C dX6_removeAt_26 rfl 0 rfl ?_
      refine cj_getS (v := .ref (ad g 11)) (j := 3) C (eC_9 (z := z) (ad := ad) hg) rfl rfl cj_in6 (by decide) rfl cjq_113 rfl dX6_removeAt_27 ?_
      refine cj_iload_n C dX6_removeAt_30 rfl 1 rfl ?_
      refine cj_aload_n C dX6_removeAt_31 rfl 0 rfl ?_
      refine cj_getS (v := .ref (ad g 11)) (j := 3) C (eC_9 (z := z) (ad := ad) hg) rfl rfl cj_in6 (by decide) rfl cjq_113 rfl dX6_removeAt_32 ?_
      refine cj_iload_n C dX6_removeAt_35 rfl 1 rfl ?_
      refine cj_iconst C 1 dX6_removeAt_36 rfl ?_
      refine cj_iadd C dX6_removeAt_37 ?_
      refine cj_ialdS C (eC_11 (z := z) (ad := ad) hg) dX6_removeAt_38 hf (fun hf => ?_)
      refine cj_iastS C (eC_11 (z := z) (ad := ad) hg) dX6_removeAt_39 hf (fun hf => ?_)
      refine cj_ltS hf (fun s5 hf => ?_)
      refine cj_aload_n C dX6_removeAt_40 rfl 0 rfl ?_
      refine cj_getS (v := .ref (ad g 12)) (j := 4) C (eC_9 (z := z) (ad := ad) hg) rfl rfl cj_in6 (by decide) rfl cjq_115 rfl dX6_removeAt_41 ?_
      refine cj_iload_n C dX6_removeAt_44 rfl 1 rfl ?_
      refine cj_aload_n C dX6_removeAt_45 rfl 0 rfl ?_
      refine cj_getS (v := .ref (ad g 12)) (j := 4) C (eC_9 (z := z) (ad := ad) hg) rfl rfl cj_in6 (by decide) rfl cjq_115 rfl dX6_removeAt_46 ?_
      refine cj_iload_n C dX6_removeAt_49 rfl 1 rfl ?_
      refine cj_iconst C 1 dX6_removeAt_50 rfl ?_
      refine cj_iadd C dX6_removeAt_51 ?_
      refine cj_ialdS C (eC_12 (z := z) (ad := ad) hg) dX6_removeAt_52 hf (fun hf => ?_)
      refine cj_iastS C (eC_12 (z := z) (ad := ad) hg) dX6_removeAt_53 hf (fun hf => ?_)
      refine cj_ltS hf (fun s6 hf => ?_)
      refine cj_aload_n C dX6_removeAt_54 rfl 0 rfl ?_
      refine cj_getS (v := .ref (ad g 13)) (j := 5) C (eC_9 (z := z) (ad := ad) hg) rfl rfl cj_in6 (by decide) rfl cjq_117 rfl dX6_removeAt_55 ?_
      refine cj_iload_n C dX6_removeAt_58 rfl 1 rfl ?_
      refine cj_aload_n C dX6_removeAt_59 rfl 0 rfl ?_
      refine cj_getS (v := .ref (ad g 13)) (j := 5) C (eC_9 (z := z) (ad := ad) hg) rfl rfl cj_in6 (by decide) rfl cjq_117 rfl dX6_removeAt_60 ?_
      refine cj_iload_n C dX6_removeAt_63 rfl 1 rfl ?_
      refine cj_iconst C 1 dX6_removeAt_64 rfl ?_
      refine cj_iadd C dX6_removeAt_65 ?_
      refine cj_ialdS C (eC_13 (z := z) (ad := ad) hg) dX6_removeAt_66 hf (fun hf => ?_)
      refine cj_iastS C (eC_13 (z := z) (ad := ad) hg) dX6_removeAt_67 hf (fun hf => ?_)
      refine cj_ltS hf (fun s7 hf => ?_)
      refine cj_iinc (lv' := [(2, .int (x1 + 1)), (0, .ref (ad g 9))]) C dX6_removeAt_68 (j := 1) rfl rfl (by decide) rfl ?_
      refine cj_goto C 2 dX6_removeAt_71 rfl ?_
      refine cj_sub [1, 0] rfl ?_
      exact ih (x1 + 1) s7 hf
set_option maxHeartbeats 4000000 in
set_option maxRecDepth 100000 in
theorem ct_X6_removeAt {l : Launch} {D : va_G} {z : cj_Zc} {ad : cj_Ad} (hI : cj_Ij (cj_EL z) ad) {μ : cj_Mm} {g : Nat} (hg : cj_isC g) {s0 : cj_S} {a1 : Int32} {r : cj_S} (hf : f_X6_removeAt s0 a1 = some r) : cj_Ct l (cj_YL D z ad) yX6_removeAt cX6_removeAt 3 none 0 [.ref (ad g 9), .int a1] (cj_upG μ g s0) none (cj_upG μ g r) := by
  refine cj_Ct.of (by decide +kernel) hI (Nat.le_of_ble_eq_true rfl) [(0, .ref (ad g 9)), (1, .int a1)] rfl (fun X hX C => ?_)
  subst hX
  have C : cj_C (cj_YL D z ad) X cX6_removeAt 3 RX6 0 none := C
  unfold f_X6_removeAt at hf
  refine cj_iload_n C dX6_removeAt_0 rfl 1 rfl ?_
  refine cj_istore_n (lv' := [(2, .int a1), (0, .ref (ad g 9)), (1, .int a1)]) C dX6_removeAt_1 rfl (by decide) rfl ?_
  refine cj_sub [1, 0] rfl ?_
  refine tl_X6_removeAt_L2 hI hg C (fun s8 hf => ?_) cj_FU a1 s0 hf
  refine cj_aload_n C dX6_removeAt_74 rfl 0 rfl ?_
  refine cj_dup C dX6_removeAt_75 rfl ?_
  refine cj_getS (v := .int (s8 9 0)) (j := 0) C (eC_9 (z := z) (ad := ad) hg) rfl rfl cj_in6 (by decide) rfl cjq_105 rfl dX6_removeAt_76 ?_
  refine cj_iconst C 1 dX6_removeAt_79 rfl ?_
  refine cj_isub C dX6_removeAt_80 ?_
  refine cj_putS (j := 0) C (eC_9 (z := z) (ad := ad) hg) rfl rfl rfl rfl cj_in6 tyX6_ok nmX6 (by decide) rfl cjq_105 rfl rfl rfl (Nat.le_of_ble_eq_true rfl) dX6_removeAt_81 ?_
  refine cj_ltS hf (fun s9 hf => ?_)
  cases hf
  exact cj_vret C rfl dX6_removeAt_84
set_option maxHeartbeats 4000000 in
set_option maxRecDepth 100000 in
theorem ct_X0_tearOut {l : Launch} {D : va_G} {z : cj_Zc} {ad : cj_Ad} (hI : cj_Ij (cj_EL z) ad) {μ : cj_Mm} {g : Nat} (hg : cj_isC g) {s0 : cj_S} {a1 : Int32} {r : Int32} {r2 : cj_S} (hf : f_X0_tearOut s0 a1 = some (r, r2)) : cj_Ct l (cj_YL D z ad) yX0_tearOut cX0_tearOut 3 (some .int) 1 [.ref (ad g 0), .int a1] (cj_upG μ g s0) (some (.int r)) (cj_upG μ g r2) := by
  refine cj_Ct.of (by decide +kernel) hI (Nat.le_of_ble_eq_true rfl) [(0, .ref (ad g 0)), (1, .int a1)] rfl (fun X hX C => ?_)
  subst hX
  have C : cj_C (cj_YL D z ad) X cX0_tearOut 3 RX0 1 (some .int) := C
  unfold f_X0_tearOut at hf
  generalize hr2 : (r, r2) = r3 at hf
  obtain ⟨e1, e2⟩ : r = r3.1 ∧ r2 = r3.2 := by rw [← hr2]; exact ⟨rfl, rfl⟩
  rw [e1, e2]
  clear e1 e2 hr2
  obtain ⟨r, hr⟩ : ∃ r, r = r3 := ⟨_, rfl⟩
  rw [← hr] at hf ⊢
  clear hr
  refine cj_aload_n C dX0_tearOut_0 rfl 0 rfl ?_
  refine cj_getS (v := .ref (ad g 9)) (j := 1) C (eC_0 (z := z) (ad := ad) hg) rfl rfl cj_in0 (by decide) rfl cjq_167 rfl dX0_tearOut_1 ?_
  refine cj_iload_n C dX0_tearOut_4 rfl 1 rfl ?_
  obtain ⟨x2, h1, hf⟩ := cj_bd_s hf
  refine cj_cV1i C cw_X6_placeOf (ct_X6_placeOf hI hg h1) cjq_432 cjq_433 cjq_431 (eC_9 (z := z) (ad := ad) hg) rfl rfl ⟨Nat.le_of_ble_eq_true rfl, Nat.le_of_ble_eq_true rfl⟩ (Nat.le_of_ble_eq_true rfl) dX0_tearOut_5 ?_
  refine cj_istore_n (lv' := [(2, .int x2), (0, .ref (ad g 0)), (1, .int a1)]) C dX0_tearOut_8 rfl (by decide) rfl ?_
  refine cj_iload_n C dX0_tearOut_9 rfl 0 rfl ?_
  refine cj_iconst C (-1) dX0_tearOut_10 rfl ?_
  refine cj_ic_ne C 17 dX0_tearOut_11 rfl hf (fun hf => ?_) (fun hf => ?_)
  · refine cj_aload_n C dX0_tearOut_17 rfl 1 rfl ?_
    refine cj_getS (v := .ref (ad g 9)) (j := 1) C (eC_0 (z := z) (ad := ad) hg) rfl rfl cj_in0 (by decide) rfl cjq_167 rfl dX0_tearOut_18 ?_
    refine cj_iload_n C dX0_tearOut_21 rfl 0 rfl ?_
    obtain ⟨s4, h3, hf⟩ := cj_bd_s hf
    refine cj_cV1v C cw_X6_removeAt (ct_X6_removeAt hI hg h3) cjq_468 cjq_469 cjq_467 (eC_9 (z := z) (ad := ad) hg) rfl rfl ⟨Nat.le_of_ble_eq_true rfl, Nat.le_of_ble_eq_true rfl⟩ (Nat.le_of_ble_eq_true rfl) dX0_tearOut_22 ?_
    refine cj_aload_n C dX0_tearOut_25 rfl 1 rfl ?_
    refine cj_getS (v := .ref (ad g 9)) (j := 1) C (eC_0 (z := z) (ad := ad) hg) rfl rfl cj_in0 (by decide) rfl cjq_167 rfl dX0_tearOut_26 ?_
    refine cj_getS (v := .int (s4 9 0)) (j := 0) C (eC_9 (z := z) (ad := ad) hg) rfl rfl cj_in6 (by decide) rfl cjq_106 rfl dX0_tearOut_29 ?_
    cases hf
    exact cj_iret C rfl dX0_tearOut_32
  · refine cj_ldc C cjq_357 dX0_tearOut_14 ?_
    cases hf
    exact cj_iret C rfl dX0_tearOut_16
set_option maxHeartbeats 4000000 in
set_option maxRecDepth 100000 in
theorem ct_X0_day {l : Launch} {D : va_G} {z : cj_Zc} {ad : cj_Ad} (hI : cj_Ij (cj_EL z) ad) {μ : cj_Mm} {g : Nat} (hg : cj_isC g) {s0 : cj_S} {r : Int32} (hf : f_X0_day s0 = some r) : cj_Ct l (cj_YL D z ad) yX0_day cX0_day 1 (some .int) 0 [.ref (ad g 0)] (cj_upG μ g s0) (some (.int r)) (cj_upG μ g s0) := by
  refine cj_Ct.of (by decide +kernel) hI (Nat.le_of_ble_eq_true rfl) [(0, .ref (ad g 0))] rfl (fun X hX C => ?_)
  subst hX
  have C : cj_C (cj_YL D z ad) X cX0_day 1 RX0 0 (some .int) := C
  unfold f_X0_day at hf
  refine cj_aload_n C dX0_day_0 rfl 0 rfl ?_
  refine cj_getS (v := .int (s0 0 5)) (j := 5) C (eC_0 (z := z) (ad := ad) hg) rfl rfl cj_in0 (by decide) rfl cjq_173 rfl dX0_day_1 ?_
  refine cj_sipush C 300 dX0_day_4 rfl ?_
  refine cj_idiv C dX0_day_7 (by decide) ?_
  cases hf
  exact cj_iret C rfl dX0_day_8
set_option maxHeartbeats 4000000 in
set_option maxRecDepth 100000 in
theorem ct_X0_hasVerdict {l : Launch} {D : va_G} {z : cj_Zc} {ad : cj_Ad} (hI : cj_Ij (cj_EL z) ad) {μ : cj_Mm} {g : Nat} (hg : cj_isC g) {s0 : cj_S} {a1 : Int32} {r : Int32} (hf : f_X0_hasVerdict s0 a1 = some r) : cj_Ct l (cj_YL D z ad) yX0_hasVerdict cX0_hasVerdict 2 (some .boolean) 1 [.ref (ad g 0), .int a1] (cj_upG μ g s0) (some (.int r)) (cj_upG μ g s0) := by
  refine cj_Ct.of (by decide +kernel) hI (Nat.le_of_ble_eq_true rfl) [(0, .ref (ad g 0)), (1, .int a1)] rfl (fun X hX C => ?_)
  subst hX
  have C : cj_C (cj_YL D z ad) X cX0_hasVerdict 2 RX0 1 (some .boolean) := C
  unfold f_X0_hasVerdict at hf
  refine cj_aload_n C dX0_hasVerdict_0 rfl 0 rfl ?_
  refine cj_getS (v := .ref (ad g 1)) (j := 0) C (eC_0 (z := z) (ad := ad) hg) rfl rfl cj_in0 (by decide) rfl cjq_165 rfl dX0_hasVerdict_1 ?_
  refine cj_getS (v := .ref (ad g 6)) (j := 5) C (eC_1 (z := z) (ad := ad) hg) rfl rfl cj_in3 (by decide) rfl cjq_77 rfl dX0_hasVerdict_4 ?_
  refine cj_iload_n C dX0_hasVerdict_7 rfl 1 rfl ?_
  refine cj_ialdS C (eC_6 (z := z) (ad := ad) hg) dX0_hasVerdict_8 hf (fun hf => ?_)
  refine cj_aload_n C dX0_hasVerdict_9 rfl 0 rfl ?_
  obtain ⟨x2, h1, hf⟩ := cj_bd_s hf
  refine cj_cV0i C cw_X0_day (ct_X0_day hI hg h1) cjq_484 cjq_485 cjq_483 (eC_0 (z := z) (ad := ad) hg) rfl rfl ⟨Nat.le_of_ble_eq_true rfl, Nat.le_of_ble_eq_true rfl⟩ (Nat.le_of_ble_eq_true rfl) dX0_hasVerdict_10 ?_
  refine cj_ic_ne C 20 dX0_hasVerdict_13 rfl hf (fun hf => ?_) (fun hf => ?_)
  · refine cj_iconst C 0 dX0_hasVerdict_20 rfl ?_
    cases hf
    exact cj_zret C rfl rfl rfl dX0_hasVerdict_21
  · refine cj_iconst C 1 dX0_hasVerdict_16 rfl ?_
    refine cj_goto C 21 dX0_hasVerdict_17 rfl ?_
    cases hf
    exact cj_zret C rfl rfl rfl dX0_hasVerdict_21
set_option maxHeartbeats 4000000 in
set_option maxRecDepth 100000 in
theorem tl_X6_ofPerson_L4 {D : va_G} {z : cj_Zc} {ad : cj_Ad} (hI : cj_Ij (cj_EL z) ad) {μ : cj_Mm} {g : Nat} (hg : cj_isC g) {y1 : Int32} {s4 : cj_S} {X : cj_X} (C : cj_C (cj_YL D z ad) X cX6_ofPerson 4 RX6 0 (some .int)) {r : Int32} : ∀ (n : Nat) (x2 : Int32) (x3 : Int32), f_X6_ofPerson_L4 y1 s4 n x2 x3 = some r → cj_G (cj_YL D z ad) X (some (.int r), cj_upG μ g s4) (cj_upG μ g s4) 4 [(0, .ref (ad g 9)), (1, .int y1), (2, .int x2), (3, .int x3)] [] := by
  intro n
  induction n with
  | zero =>
    intro x2 x3 hf
    rw [f_X6_ofPerson_L4] at hf
    cases hf
  | succ n ih =>
    intro x2 x3 hf
    rw [f_X6_ofPerson_L4] at hf
    refine cj_iload_n C dX6_ofPerson_4 rfl 3 rfl ?_
    refine cj_aload_n C dX6_ofPerson_5 rfl 0 rfl ?_
    refine cj_getS (v := .int (s4 9 0)) (j := 0) C (eC_9 (z := z) (ad := ad) hg) rfl rfl cj_in6 (by decide) rfl cjq_105 rfl dX6_ofPerson_6 ?_
    refine cj_ic_ge C 31 dX6_ofPerson_9 rfl hf (fun hf => ?_) (fun hf => ?_)
    · refine cj_iload_n C dX6_ofPerson_31 rfl 2 rfl ?_
      cases hf
      exact cj_iret C rfl dX6_ofPerson_32
    · refine cj_aload_n C dX6_ofPerson_12 rfl 0 rfl ?_
      refine cj_getS (v := .ref (ad g 11)) (j := 3) C (eC_9 (z := z) (ad := ad) hg) rfl rfl cj_in6 (by decide) rfl cjq_113 rfl dX6_ofPerson_13 ?_
      refine cj_iload_n C dX6_ofPerson_16 rfl 3 rfl ?_
      refine cj_ialdS C (eC_11 (z := z) (ad := ad) hg) dX6_ofPerson_17 hf (fun hf => ?_)
      refine cj_iload_n C dX6_ofPerson_18 rfl 1 rfl ?_
      refine cj_ic_ne C 25 dX6_ofPerson_19 rfl hf (fun hf => ?_) (fun hf => ?_)
      · refine cj_iinc (lv' := [(3, .int (x3 + 1)), (0, .ref (ad g 9)), (1, .int y1), (2, .int x2)]) C dX6_ofPerson_25 (j := 3) rfl rfl (by decide) rfl ?_
        refine cj_goto C 4 dX6_ofPerson_28 rfl ?_
        refine cj_sub [1, 2, 3, 0] rfl ?_
        exact ih x2 (x3 + 1) hf
      · refine cj_iinc (lv' := [(2, .int (x2 + 1)), (0, .ref (ad g 9)), (1, .int y1), (3, .int x3)]) C dX6_ofPerson_22 (j := 2) rfl rfl (by decide) rfl ?_
        refine cj_iinc (lv' := [(3, .int (x3 + 1)), (2, .int (x2 + 1)), (0, .ref (ad g 9)), (1, .int y1)]) C dX6_ofPerson_25 (j := 3) rfl rfl (by decide) rfl ?_
        refine cj_goto C 4 dX6_ofPerson_28 rfl ?_
        refine cj_sub [2, 3, 1, 0] rfl ?_
        exact ih (x2 + 1) (x3 + 1) hf
set_option maxHeartbeats 4000000 in
set_option maxRecDepth 100000 in
theorem ct_X6_ofPerson {l : Launch} {D : va_G} {z : cj_Zc} {ad : cj_Ad} (hI : cj_Ij (cj_EL z) ad) {μ : cj_Mm} {g : Nat} (hg : cj_isC g) {s0 : cj_S} {a1 : Int32} {r : Int32} (hf : f_X6_ofPerson s0 a1 = some r) : cj_Ct l (cj_YL D z ad) yX6_ofPerson cX6_ofPerson 4 (some .int) 0 [.ref (ad g 9), .int a1] (cj_upG μ g s0) (some (.int r)) (cj_upG μ g s0) := by
  refine cj_Ct.of (by decide +kernel) hI (Nat.le_of_ble_eq_true rfl) [(0, .ref (ad g 9)), (1, .int a1)] rfl (fun X hX C => ?_)
  subst hX
  have C : cj_C (cj_YL D z ad) X cX6_ofPerson 4 RX6 0 (some .int) := C
  unfold f_X6_ofPerson at hf
  refine cj_iconst C 0 dX6_ofPerson_0 rfl ?_
  refine cj_istore_n (lv' := [(2, .int 0), (0, .ref (ad g 9)), (1, .int a1)]) C dX6_ofPerson_1 rfl (by decide) rfl ?_
  refine cj_iconst C 0 dX6_ofPerson_2 rfl ?_
  refine cj_istore_n (lv' := [(3, .int 0), (2, .int 0), (0, .ref (ad g 9)), (1, .int a1)]) C dX6_ofPerson_3 rfl (by decide) rfl ?_
  refine cj_sub [2, 3, 1, 0] rfl ?_
  exact tl_X6_ofPerson_L4 hI hg C cj_FU 0 0 hf
set_option maxHeartbeats 4000000 in
set_option maxRecDepth 100000 in
theorem ct_X0_tellVerdict {l : Launch} {D : va_G} {z : cj_Zc} {ad : cj_Ad} (hI : cj_Ij (cj_EL z) ad) {μ : cj_Mm} {g : Nat} (hg : cj_isC g) {s0 : cj_S} {a1 : Int32} {r : Int32} {r2 : cj_S} (hf : f_X0_tellVerdict s0 a1 = some (r, r2)) : cj_Ct l (cj_YL D z ad) yX0_tellVerdict cX0_tellVerdict 2 (some .int) 2 [.ref (ad g 0), .int a1] (cj_upG μ g s0) (some (.int r)) (cj_upG μ g r2) := by
  refine cj_Ct.of (by decide +kernel) hI (Nat.le_of_ble_eq_true rfl) [(0, .ref (ad g 0)), (1, .int a1)] rfl (fun X hX C => ?_)
  subst hX
  have C : cj_C (cj_YL D z ad) X cX0_tellVerdict 2 RX0 2 (some .int) := C
  unfold f_X0_tellVerdict at hf
  generalize hr2 : (r, r2) = r3 at hf
  obtain ⟨e1, e2⟩ : r = r3.1 ∧ r2 = r3.2 := by rw [← hr2]; exact ⟨rfl, rfl⟩
  rw [e1, e2]
  clear e1 e2 hr2
  obtain ⟨r, hr⟩ : ∃ r, r = r3 := ⟨_, rfl⟩
  rw [← hr] at hf ⊢
  clear hr
  refine cj_aload_n C dX0_tellVerdict_0 rfl 0 rfl ?_
  refine cj_getS (v := .ref (ad g 1)) (j := 0) C (eC_0 (z := z) (ad := ad) hg) rfl rfl cj_in0 (by decide) rfl cjq_165 rfl dX0_tellVerdict_1 ?_
  refine cj_iload_n C dX0_tellVerdict_4 rfl 1 rfl ?_
  obtain ⟨x2, h1, hf⟩ := cj_bd_s hf
  refine cj_cV1i C cw_X3_has (ct_X3_has hI hg h1) cjq_377 cjq_378 cjq_376 (eC_1 (z := z) (ad := ad) hg) rfl rfl ⟨Nat.le_of_ble_eq_true rfl, Nat.le_of_ble_eq_true rfl⟩ (Nat.le_of_ble_eq_true rfl) dX0_tellVerdict_5 ?_
  refine cj_if_ne C 14 dX0_tellVerdict_8 rfl hf (fun hf => ?_) (fun hf => ?_)
  · refine cj_aload_n C dX0_tellVerdict_14 rfl 0 rfl ?_
    refine cj_iload_n C dX0_tellVerdict_15 rfl 1 rfl ?_
    obtain ⟨x4, h3, hf⟩ := cj_bd_s hf
    refine cj_cV1i C cw_X0_hasVerdict (ct_X0_hasVerdict hI hg h3) cjq_480 cjq_481 cjq_479 (eC_0 (z := z) (ad := ad) hg) rfl rfl ⟨Nat.le_of_ble_eq_true rfl, Nat.le_of_ble_eq_true rfl⟩ (Nat.le_of_ble_eq_true rfl) dX0_tellVerdict_16 ?_
    refine cj_if_eq C 25 dX0_tellVerdict_19 rfl hf (fun hf => ?_) (fun hf => ?_)
    · refine cj_aload_n C dX0_tellVerdict_25 rfl 0 rfl ?_
      refine cj_getS (v := .ref (ad g 1)) (j := 0) C (eC_0 (z := z) (ad := ad) hg) rfl rfl cj_in0 (by decide) rfl cjq_165 rfl dX0_tellVerdict_26 ?_
      refine cj_getS (v := .ref (ad g 6)) (j := 5) C (eC_1 (z := z) (ad := ad) hg) rfl rfl cj_in3 (by decide) rfl cjq_77 rfl dX0_tellVerdict_29 ?_
      refine cj_iload_n C dX0_tellVerdict_32 rfl 1 rfl ?_
      refine cj_aload_n C dX0_tellVerdict_33 rfl 0 rfl ?_
      obtain ⟨x6, h5, hf⟩ := cj_bd_s hf
      refine cj_cV0i C cw_X0_day (ct_X0_day hI hg h5) cjq_484 cjq_485 cjq_483 (eC_0 (z := z) (ad := ad) hg) rfl rfl ⟨Nat.le_of_ble_eq_true rfl, Nat.le_of_ble_eq_true rfl⟩ (Nat.le_of_ble_eq_true rfl) dX0_tellVerdict_34 ?_
      refine cj_iastS C (eC_6 (z := z) (ad := ad) hg) dX0_tellVerdict_37 hf (fun hf => ?_)
      refine cj_ltS hf (fun s7 hf => ?_)
      refine cj_aload_n C dX0_tellVerdict_38 rfl 0 rfl ?_
      refine cj_getS (v := .ref (ad g 9)) (j := 1) C (eC_0 (z := z) (ad := ad) hg) rfl rfl cj_in0 (by decide) rfl cjq_167 rfl dX0_tellVerdict_39 ?_
      refine cj_iload_n C dX0_tellVerdict_42 rfl 1 rfl ?_
      obtain ⟨x9, h8, hf⟩ := cj_bd_s hf
      refine cj_cV1i C cw_X6_ofPerson (ct_X6_ofPerson hI hg h8) cjq_488 cjq_489 cjq_487 (eC_9 (z := z) (ad := ad) hg) rfl rfl ⟨Nat.le_of_ble_eq_true rfl, Nat.le_of_ble_eq_true rfl⟩ (Nat.le_of_ble_eq_true rfl) dX0_tellVerdict_43 ?_
      cases hf
      exact cj_iret C rfl dX0_tellVerdict_46
    · refine cj_ldc C cjq_362 dX0_tellVerdict_22 ?_
      cases hf
      exact cj_iret C rfl dX0_tellVerdict_24
  · refine cj_ldc C cjq_357 dX0_tellVerdict_11 ?_
    cases hf
    exact cj_iret C rfl dX0_tellVerdict_13
set_option maxHeartbeats 4000000 in
set_option maxRecDepth 100000 in
theorem ct_X2_has {l : Launch} {D : va_G} {z : cj_Zc} {ad : cj_Ad} (hI : cj_Ij (cj_EL z) ad) {μ : cj_Mm} {g : Nat} (hg : cj_isC g) {s0 : cj_S} {a1 : Int32} {r : Int32} (hf : f_X2_has s0 a1 = some r) : cj_Ct l (cj_YL D z ad) yX2_has cX2_has 2 (some .boolean) 0 [.ref (ad g 14), .int a1] (cj_upG μ g s0) (some (.int r)) (cj_upG μ g s0) := by
  refine cj_Ct.of (by decide +kernel) hI (Nat.le_of_ble_eq_true rfl) [(0, .ref (ad g 14)), (1, .int a1)] rfl (fun X hX C => ?_)
  subst hX
  have C : cj_C (cj_YL D z ad) X cX2_has 2 RX2 0 (some .boolean) := C
  unfold f_X2_has at hf
  refine cj_iload_n C dX2_has_0 rfl 1 rfl ?_
  refine cj_if_lt C 16 dX2_has_1 rfl hf (fun hf => ?_) (fun hf => ?_)
  · refine cj_iconst C 0 dX2_has_16 rfl ?_
    cases hf
    exact cj_zret C rfl rfl rfl dX2_has_17
  · refine cj_iload_n C dX2_has_4 rfl 1 rfl ?_
    refine cj_aload_n C dX2_has_5 rfl 0 rfl ?_
    refine cj_getS (v := .int (s0 14 0)) (j := 0) C (eC_14 (z := z) (ad := ad) hg) rfl rfl cj_in2 (by decide) rfl cjq_138 rfl dX2_has_6 ?_
    refine cj_ic_ge C 16 dX2_has_9 rfl hf (fun hf => ?_) (fun hf => ?_)
    · refine cj_iconst C 0 dX2_has_16 rfl ?_
      cases hf
      exact cj_zret C rfl rfl rfl dX2_has_17
    · refine cj_iconst C 1 dX2_has_12 rfl ?_
      refine cj_goto C 17 dX2_has_13 rfl ?_
      cases hf
      exact cj_zret C rfl rfl rfl dX2_has_17
set_option maxHeartbeats 4000000 in
set_option maxRecDepth 100000 in
theorem ct_X0_wetFor {l : Launch} {D : va_G} {z : cj_Zc} {ad : cj_Ad} (hI : cj_Ij (cj_EL z) ad) {μ : cj_Mm} {g : Nat} (hg : cj_isC g) {s0 : cj_S} {a1 : Int32} {r : Int32} (hf : f_X0_wetFor s0 a1 = some r) : cj_Ct l (cj_YL D z ad) yX0_wetFor cX0_wetFor 2 (some .int) 0 [.ref (ad g 0), .int a1] (cj_upG μ g s0) (some (.int r)) (cj_upG μ g s0) := by
  refine cj_Ct.of (by decide +kernel) hI (Nat.le_of_ble_eq_true rfl) [(0, .ref (ad g 0)), (1, .int a1)] rfl (fun X hX C => ?_)
  subst hX
  have C : cj_C (cj_YL D z ad) X cX0_wetFor 2 RX0 0 (some .int) := C
  unfold f_X0_wetFor at hf
  refine cj_aload_n C dX0_wetFor_0 rfl 0 rfl ?_
  refine cj_getS (v := .ref (ad g 9)) (j := 1) C (eC_0 (z := z) (ad := ad) hg) rfl rfl cj_in0 (by decide) rfl cjq_167 rfl dX0_wetFor_1 ?_
  refine cj_getS (v := .ref (ad g 13)) (j := 5) C (eC_9 (z := z) (ad := ad) hg) rfl rfl cj_in6 (by decide) rfl cjq_118 rfl dX0_wetFor_4 ?_
  refine cj_iload_n C dX0_wetFor_7 rfl 1 rfl ?_
  refine cj_ialdS C (eC_13 (z := z) (ad := ad) hg) dX0_wetFor_8 hf (fun hf => ?_)
  refine cj_aload_n C dX0_wetFor_9 rfl 0 rfl ?_
  refine cj_getS (v := .int (s0 0 5)) (j := 5) C (eC_0 (z := z) (ad := ad) hg) rfl rfl cj_in0 (by decide) rfl cjq_173 rfl dX0_wetFor_10 ?_
  refine cj_ic_le C 33 dX0_wetFor_13 rfl hf (fun hf => ?_) (fun hf => ?_)
  · refine cj_iconst C 0 dX0_wetFor_33 rfl ?_
    cases hf
    exact cj_iret C rfl dX0_wetFor_34
  · refine cj_aload_n C dX0_wetFor_16 rfl 0 rfl ?_
    refine cj_getS (v := .ref (ad g 9)) (j := 1) C (eC_0 (z := z) (ad := ad) hg) rfl rfl cj_in0 (by decide) rfl cjq_167 rfl dX0_wetFor_17 ?_
    refine cj_getS (v := .ref (ad g 13)) (j := 5) C (eC_9 (z := z) (ad := ad) hg) rfl rfl cj_in6 (by decide) rfl cjq_118 rfl dX0_wetFor_20 ?_
    refine cj_iload_n C dX0_wetFor_23 rfl 1 rfl ?_
    refine cj_ialdS C (eC_13 (z := z) (ad := ad) hg) dX0_wetFor_24 hf (fun hf => ?_)
    refine cj_aload_n C dX0_wetFor_25 rfl 0 rfl ?_
    refine cj_getS (v := .int (s0 0 5)) (j := 5) C (eC_0 (z := z) (ad := ad) hg) rfl rfl cj_in0 (by decide) rfl cjq_173 rfl dX0_wetFor_26 ?_
    refine cj_isub C dX0_wetFor_29 ?_
    refine cj_goto C 34 dX0_wetFor_30 rfl ?_
    cases hf
    exact cj_iret C rfl dX0_wetFor_34
set_option maxHeartbeats 4000000 in
set_option maxRecDepth 100000 in
theorem ct_X0_isDry {l : Launch} {D : va_G} {z : cj_Zc} {ad : cj_Ad} (hI : cj_Ij (cj_EL z) ad) {μ : cj_Mm} {g : Nat} (hg : cj_isC g) {s0 : cj_S} {a1 : Int32} {r : Int32} (hf : f_X0_isDry s0 a1 = some r) : cj_Ct l (cj_YL D z ad) yX0_isDry cX0_isDry 2 (some .boolean) 1 [.ref (ad g 0), .int a1] (cj_upG μ g s0) (some (.int r)) (cj_upG μ g s0) := by
  refine cj_Ct.of (by decide +kernel) hI (Nat.le_of_ble_eq_true rfl) [(0, .ref (ad g 0)), (1, .int a1)] rfl (fun X hX C => ?_)
  subst hX
  have C : cj_C (cj_YL D z ad) X cX0_isDry 2 RX0 1 (some .boolean) := C
  unfold f_X0_isDry at hf
  refine cj_aload_n C dX0_isDry_0 rfl 0 rfl ?_
  refine cj_getS (v := .ref (ad g 9)) (j := 1) C (eC_0 (z := z) (ad := ad) hg) rfl rfl cj_in0 (by decide) rfl cjq_167 rfl dX0_isDry_1 ?_
  refine cj_getS (v := .ref (ad g 12)) (j := 4) C (eC_9 (z := z) (ad := ad) hg) rfl rfl cj_in6 (by decide) rfl cjq_116 rfl dX0_isDry_4 ?_
  refine cj_iload_n C dX0_isDry_7 rfl 1 rfl ?_
  refine cj_ialdS C (eC_12 (z := z) (ad := ad) hg) dX0_isDry_8 hf (fun hf => ?_)
  refine cj_if_eq C 24 dX0_isDry_9 rfl hf (fun hf => ?_) (fun hf => ?_)
  · refine cj_iconst C 0 dX0_isDry_24 rfl ?_
    cases hf
    exact cj_zret C rfl rfl rfl dX0_isDry_25
  · refine cj_aload_n C dX0_isDry_12 rfl 0 rfl ?_
    refine cj_iload_n C dX0_isDry_13 rfl 1 rfl ?_
    obtain ⟨x2, h1, hf⟩ := cj_bd_s hf
    refine cj_cV1i C cw_X0_wetFor (ct_X0_wetFor hI hg h1) cjq_512 cjq_513 cjq_511 (eC_0 (z := z) (ad := ad) hg) rfl rfl ⟨Nat.le_of_ble_eq_true rfl, Nat.le_of_ble_eq_true rfl⟩ (Nat.le_of_ble_eq_true rfl) dX0_isDry_14 ?_
    refine cj_if_ne C 24 dX0_isDry_17 rfl hf (fun hf => ?_) (fun hf => ?_)
    · refine cj_iconst C 0 dX0_isDry_24 rfl ?_
      cases hf
      exact cj_zret C rfl rfl rfl dX0_isDry_25
    · refine cj_iconst C 1 dX0_isDry_20 rfl ?_
      refine cj_goto C 25 dX0_isDry_21 rfl ?_
      cases hf
      exact cj_zret C rfl rfl rfl dX0_isDry_25
set_option maxHeartbeats 4000000 in
set_option maxRecDepth 100000 in
theorem ct_X2_peopleBoughtOn {l : Launch} {D : va_G} {z : cj_Zc} {ad : cj_Ad} (hI : cj_Ij (cj_EL z) ad) {μ : cj_Mm} {g : Nat} (hg : cj_isC g) {s0 : cj_S} {a1 : Int32} {a2 : Int32} {r : Int32} (hf : f_X2_peopleBoughtOn s0 a1 a2 = some r) : cj_Ct l (cj_YL D z ad) yX2_peopleBoughtOn cX2_peopleBoughtOn 3 (some .int) 0 [.ref (ad g 14), .int a1, .int a2] (cj_upG μ g s0) (some (.int r)) (cj_upG μ g s0) := by
  refine cj_Ct.of (by decide +kernel) hI (Nat.le_of_ble_eq_true rfl) [(0, .ref (ad g 14)), (1, .int a1), (2, .int a2)] rfl (fun X hX C => ?_)
  subst hX
  have C : cj_C (cj_YL D z ad) X cX2_peopleBoughtOn 3 RX2 0 (some .int) := C
  unfold f_X2_peopleBoughtOn at hf
  refine cj_aload_n C dX2_peopleBoughtOn_0 rfl 0 rfl ?_
  refine cj_getS (v := .ref (ad g 19)) (j := 5) C (eC_14 (z := z) (ad := ad) hg) rfl rfl cj_in2 (by decide) rfl cjq_148 rfl dX2_peopleBoughtOn_1 ?_
  refine cj_iload_n C dX2_peopleBoughtOn_4 rfl 1 rfl ?_
  refine cj_ialdS C (eC_19 (z := z) (ad := ad) hg) dX2_peopleBoughtOn_5 hf (fun hf => ?_)
  refine cj_iload_n C dX2_peopleBoughtOn_6 rfl 2 rfl ?_
  refine cj_ic_ne C 19 dX2_peopleBoughtOn_7 rfl hf (fun hf => ?_) (fun hf => ?_)
  · refine cj_iconst C 0 dX2_peopleBoughtOn_19 rfl ?_
    cases hf
    exact cj_iret C rfl dX2_peopleBoughtOn_20
  · refine cj_aload_n C dX2_peopleBoughtOn_10 rfl 0 rfl ?_
    refine cj_getS (v := .ref (ad g 20)) (j := 6) C (eC_14 (z := z) (ad := ad) hg) rfl rfl cj_in2 (by decide) rfl cjq_149 rfl dX2_peopleBoughtOn_11 ?_
    refine cj_iload_n C dX2_peopleBoughtOn_14 rfl 1 rfl ?_
    refine cj_ialdS C (eC_20 (z := z) (ad := ad) hg) dX2_peopleBoughtOn_15 hf (fun hf => ?_)
    refine cj_goto C 20 dX2_peopleBoughtOn_16 rfl ?_
    cases hf
    exact cj_iret C rfl dX2_peopleBoughtOn_20
set_option maxHeartbeats 4000000 in
set_option maxRecDepth 100000 in
theorem ct_X0_canSell {l : Launch} {D : va_G} {z : cj_Zc} {ad : cj_Ad} (hI : cj_Ij (cj_EL z) ad) {μ : cj_Mm} {g : Nat} (hg : cj_isC g) {s0 : cj_S} {a1 : Int32} {a2 : Int32} {r : Int32} (hf : f_X0_canSell s0 a1 a2 = some r) : cj_Ct l (cj_YL D z ad) yX0_canSell cX0_canSell 3 (some .boolean) 2 [.ref (ad g 0), .int a1, .int a2] (cj_upG μ g s0) (some (.int r)) (cj_upG μ g s0) := by
  refine cj_Ct.of (by decide +kernel) hI (Nat.le_of_ble_eq_true rfl) [(0, .ref (ad g 0)), (1, .int a1), (2, .int a2)] rfl (fun X hX C => ?_)
  subst hX
  have C : cj_C (cj_YL D z ad) X cX0_canSell 3 RX0 2 (some .boolean) := C
  unfold f_X0_canSell at hf
  refine cj_aload_n C dX0_canSell_0 rfl 0 rfl ?_
  refine cj_iload_n C dX0_canSell_1 rfl 1 rfl ?_
  obtain ⟨x2, h1, hf⟩ := cj_bd_s hf
  refine cj_cV1i C cw_X0_isDry (ct_X0_isDry hI hg h1) cjq_508 cjq_509 cjq_507 (eC_0 (z := z) (ad := ad) hg) rfl rfl ⟨Nat.le_of_ble_eq_true rfl, Nat.le_of_ble_eq_true rfl⟩ (Nat.le_of_ble_eq_true rfl) dX0_canSell_2 ?_
  refine cj_if_eq C 39 dX0_canSell_5 rfl hf (fun hf => ?_) (fun hf => ?_)
  · refine cj_iconst C 0 dX0_canSell_39 rfl ?_
    cases hf
    exact cj_zret C rfl rfl rfl dX0_canSell_40
  · refine cj_aload_n C dX0_canSell_8 rfl 0 rfl ?_
    refine cj_getS (v := .ref (ad g 14)) (j := 2) C (eC_0 (z := z) (ad := ad) hg) rfl rfl cj_in0 (by decide) rfl cjq_169 rfl dX0_canSell_9 ?_
    refine cj_iload_n C dX0_canSell_12 rfl 2 rfl ?_
    refine cj_aload_n C dX0_canSell_13 rfl 0 rfl ?_
    obtain ⟨x4, h3, hf⟩ := cj_bd_s hf
    refine cj_cV0i C cw_X0_day (ct_X0_day hI hg h3) cjq_484 cjq_485 cjq_483 (eC_0 (z := z) (ad := ad) hg) rfl rfl ⟨Nat.le_of_ble_eq_true rfl, Nat.le_of_ble_eq_true rfl⟩ (Nat.le_of_ble_eq_true rfl) dX0_canSell_14 ?_
    obtain ⟨x6, h5, hf⟩ := cj_bd_s hf
    refine cj_cV2i C cw_X2_peopleBoughtOn (ct_X2_peopleBoughtOn hI hg h5) cjq_516 cjq_517 cjq_515 (eC_14 (z := z) (ad := ad) hg) rfl rfl ⟨Nat.le_of_ble_eq_true rfl, Nat.le_of_ble_eq_true rfl⟩ (Nat.le_of_ble_eq_true rfl) dX0_canSell_17 ?_
    refine cj_aload_n C dX0_canSell_20 rfl 0 rfl ?_
    refine cj_getS (v := .ref (ad g 9)) (j := 1) C (eC_0 (z := z) (ad := ad) hg) rfl rfl cj_in0 (by decide) rfl cjq_167 rfl dX0_canSell_21 ?_
    refine cj_getS (v := .ref (ad g 11)) (j := 3) C (eC_9 (z := z) (ad := ad) hg) rfl rfl cj_in6 (by decide) rfl cjq_114 rfl dX0_canSell_24 ?_
    refine cj_iload_n C dX0_canSell_27 rfl 1 rfl ?_
    refine cj_ialdS C (eC_11 (z := z) (ad := ad) hg) dX0_canSell_28 hf (fun hf => ?_)
    obtain ⟨x8, h7, hf⟩ := cj_bd_s hf
    refine cj_cN2i C cw_X8_hasBit (ct_X8_hasBit hI h7) cjq_448 cjn_X0_117 ⟨Nat.le_of_ble_eq_true rfl, Nat.le_of_ble_eq_true rfl⟩ (Nat.le_of_ble_eq_true rfl) dX0_canSell_29 ?_
    refine cj_if_ne C 39 dX0_canSell_32 rfl hf (fun hf => ?_) (fun hf => ?_)
    · refine cj_iconst C 0 dX0_canSell_39 rfl ?_
      cases hf
      exact cj_zret C rfl rfl rfl dX0_canSell_40
    · refine cj_iconst C 1 dX0_canSell_35 rfl ?_
      refine cj_goto C 40 dX0_canSell_36 rfl ?_
      cases hf
      exact cj_zret C rfl rfl rfl dX0_canSell_40
set_option maxHeartbeats 4000000 in
set_option maxRecDepth 100000 in
theorem ct_X0_hour {l : Launch} {D : va_G} {z : cj_Zc} {ad : cj_Ad} (hI : cj_Ij (cj_EL z) ad) {μ : cj_Mm} {g : Nat} (hg : cj_isC g) {s0 : cj_S} {r : Int32} (hf : f_X0_hour s0 = some r) : cj_Ct l (cj_YL D z ad) yX0_hour cX0_hour 1 (some .int) 0 [.ref (ad g 0)] (cj_upG μ g s0) (some (.int r)) (cj_upG μ g s0) := by
  refine cj_Ct.of (by decide +kernel) hI (Nat.le_of_ble_eq_true rfl) [(0, .ref (ad g 0))] rfl (fun X hX C => ?_)
  subst hX
  have C : cj_C (cj_YL D z ad) X cX0_hour 1 RX0 0 (some .int) := C
  unfold f_X0_hour at hf
  refine cj_aload_n C dX0_hour_0 rfl 0 rfl ?_
  refine cj_getS (v := .int (s0 0 5)) (j := 5) C (eC_0 (z := z) (ad := ad) hg) rfl rfl cj_in0 (by decide) rfl cjq_173 rfl dX0_hour_1 ?_
  refine cj_sipush C 300 dX0_hour_4 rfl ?_
  refine cj_irem C dX0_hour_7 (by decide) ?_
  cases hf
  exact cj_iret C rfl dX0_hour_8
set_option maxHeartbeats 4000000 in
set_option maxRecDepth 100000 in
theorem ct_X0_priceAt {l : Launch} {D : va_G} {z : cj_Zc} {ad : cj_Ad} (hI : cj_Ij (cj_EL z) ad) {μ : cj_Mm} {g : Nat} (hg : cj_isC g) {s0 : cj_S} {a1 : Int32} {a2 : Int32} {r : Int32} (hf : f_X0_priceAt s0 a1 a2 = some r) : cj_Ct l (cj_YL D z ad) yX0_priceAt cX0_priceAt 4 (some .int) 2 [.ref (ad g 0), .int a1, .int a2] (cj_upG μ g s0) (some (.int r)) (cj_upG μ g s0) := by
  refine cj_Ct.of (by decide +kernel) hI (Nat.le_of_ble_eq_true rfl) [(0, .ref (ad g 0)), (1, .int a1), (2, .int a2)] rfl (fun X hX C => ?_)
  subst hX
  have C : cj_C (cj_YL D z ad) X cX0_priceAt 4 RX0 2 (some .int) := C
  unfold f_X0_priceAt at hf
  refine cj_aload_n C dX0_priceAt_0 rfl 0 rfl ?_
  refine cj_getS (v := .ref (ad g 14)) (j := 2) C (eC_0 (z := z) (ad := ad) hg) rfl rfl cj_in0 (by decide) rfl cjq_169 rfl dX0_priceAt_1 ?_
  refine cj_getS (v := .ref (ad g 15)) (j := 1) C (eC_14 (z := z) (ad := ad) hg) rfl rfl cj_in2 (by decide) rfl cjq_141 rfl dX0_priceAt_4 ?_
  refine cj_iload_n C dX0_priceAt_7 rfl 2 rfl ?_
  refine cj_ialdS C (eC_15 (z := z) (ad := ad) hg) dX0_priceAt_8 hf (fun hf => ?_)
  refine cj_aload_n C dX0_priceAt_9 rfl 0 rfl ?_
  refine cj_getS (v := .ref (ad g 9)) (j := 1) C (eC_0 (z := z) (ad := ad) hg) rfl rfl cj_in0 (by decide) rfl cjq_167 rfl dX0_priceAt_10 ?_
  refine cj_getS (v := .ref (ad g 12)) (j := 4) C (eC_9 (z := z) (ad := ad) hg) rfl rfl cj_in6 (by decide) rfl cjq_116 rfl dX0_priceAt_13 ?_
  refine cj_iload_n C dX0_priceAt_16 rfl 1 rfl ?_
  refine cj_ialdS C (eC_12 (z := z) (ad := ad) hg) dX0_priceAt_17 hf (fun hf => ?_)
  obtain ⟨x2, h1, hf⟩ := cj_bd_s hf
  refine cj_cS1i C cw_J6_bitCount_0f7a4 (ct_J6_bitCount_0f7a4 hI h1) cjq_454 cjq_453 ⟨Nat.le_of_ble_eq_true rfl, Nat.le_of_ble_eq_true rfl⟩ (Nat.le_of_ble_eq_true rfl) dX0_priceAt_18 ?_
  refine cj_imul C dX0_priceAt_21 ?_
  refine cj_istore_n (lv' := [(3, .int ((s0 15 a2.toNatClampNeg) * x2)), (0, .ref (ad g 0)), (1, .int a1), (2, .int a2)]) C dX0_priceAt_22 rfl (by decide) rfl ?_
  refine cj_aload_n C dX0_priceAt_23 rfl 1 rfl ?_
  refine cj_aload_n C dX0_priceAt_24 rfl 1 rfl ?_
  refine cj_getS (v := .ref (ad g 9)) (j := 1) C (eC_0 (z := z) (ad := ad) hg) rfl rfl cj_in0 (by decide) rfl cjq_167 rfl dX0_priceAt_25 ?_
  refine cj_getS (v := .ref (ad g 11)) (j := 3) C (eC_9 (z := z) (ad := ad) hg) rfl rfl cj_in6 (by decide) rfl cjq_114 rfl dX0_priceAt_28 ?_
  refine cj_iload_n C dX0_priceAt_31 rfl 2 rfl ?_
  refine cj_ialdS C (eC_11 (z := z) (ad := ad) hg) dX0_priceAt_32 hf (fun hf => ?_)
  obtain ⟨x4, h3, hf⟩ := cj_bd_s hf
  refine cj_cV1i C cw_X0_hasVerdict (ct_X0_hasVerdict hI hg h3) cjq_480 cjq_481 cjq_479 (eC_0 (z := z) (ad := ad) hg) rfl rfl ⟨Nat.le_of_ble_eq_true rfl, Nat.le_of_ble_eq_true rfl⟩ (Nat.le_of_ble_eq_true rfl) dX0_priceAt_33 ?_
  refine cj_jn (Hyp := fun K5 => ∀ (x6 : Int32), K5 x6 = some r → cj_G (cj_YL D z ad) X (some (.int r), cj_upG μ g s0) (cj_upG μ g s0) 43 [(0, .ref (ad g 0)), (2, .int a2), (3, .int x6)] []) hf (fun x6 hf => ?_) (fun K5 hK5 hf => ?_)
  · refine cj_aload_n C dX0_priceAt_43 rfl 0 rfl ?_
    obtain ⟨x8, h7, hf⟩ := cj_bd_s hf
    refine cj_cV0i C cw_X0_hour (ct_X0_hour hI hg h7) cjq_524 cjq_525 cjq_523 (eC_0 (z := z) (ad := ad) hg) rfl rfl ⟨Nat.le_of_ble_eq_true rfl, Nat.le_of_ble_eq_true rfl⟩ (Nat.le_of_ble_eq_true rfl) dX0_priceAt_44 ?_
    refine cj_aload_n C dX0_priceAt_47 rfl 0 rfl ?_
    refine cj_getS (v := .ref (ad g 14)) (j := 2) C (eC_0 (z := z) (ad := ad) hg) rfl rfl cj_in0 (by decide) rfl cjq_169 rfl dX0_priceAt_48 ?_
    refine cj_getS (v := .ref (ad g 16)) (j := 2) C (eC_14 (z := z) (ad := ad) hg) rfl rfl cj_in2 (by decide) rfl cjq_143 rfl dX0_priceAt_51 ?_
    refine cj_iload_n C dX0_priceAt_54 rfl 1 rfl ?_
    refine cj_ialdS C (eC_16 (z := z) (ad := ad) hg) dX0_priceAt_55 hf (fun hf => ?_)
    refine cj_ic_le C 65 dX0_priceAt_56 rfl hf (fun hf => ?_) (fun hf => ?_)
    · refine cj_iload_n C dX0_priceAt_65 rfl 2 rfl ?_
      cases hf
      exact cj_iret C rfl dX0_priceAt_66
    · refine cj_iload_n C dX0_priceAt_59 rfl 2 rfl ?_
      refine cj_iconst C 2 dX0_priceAt_60 rfl ?_
      refine cj_idiv C dX0_priceAt_61 (by decide) ?_
      refine cj_goto C 66 dX0_priceAt_62 rfl ?_
      cases hf
      exact cj_iret C rfl dX0_priceAt_66
  · refine cj_if_eq C 43 dX0_priceAt_36 rfl hf (fun hf => ?_) (fun hf => ?_)
    · refine cj_sub [1, 3, 0] rfl ?_
      exact hK5 ((s0 15 a2.toNatClampNeg) * x2) hf
    · refine cj_iload_n C dX0_priceAt_39 rfl 0 rfl ?_
      refine cj_iconst C 2 dX0_priceAt_40 rfl ?_
      refine cj_imul C dX0_priceAt_41 ?_
      refine cj_ltI hf (fun x9 hf => ?_)
      refine cj_istore_n (lv' := [(3, .int x9), (0, .ref (ad g 0)), (1, .int a1), (2, .int a2)]) C dX0_priceAt_42 rfl (by decide) rfl ?_
      refine cj_sub [1, 3, 0] rfl ?_
      exact hK5 x9 hf
set_option maxHeartbeats 4000000 in
set_option maxRecDepth 100000 in
theorem ct_X2_buy {l : Launch} {D : va_G} {z : cj_Zc} {ad : cj_Ad} (hI : cj_Ij (cj_EL z) ad) {μ : cj_Mm} {g : Nat} (hg : cj_isC g) {s0 : cj_S} {a1 : Int32} {a2 : Int32} {a3 : Int32} {a4 : Int32} {r : cj_S} (hf : f_X2_buy s0 a1 a2 a3 a4 = some r) : cj_Ct l (cj_YL D z ad) yX2_buy cX2_buy 5 none 1 [.ref (ad g 14), .int a1, .int a2, .int a3, .int a4] (cj_upG μ g s0) none (cj_upG μ g r) := by
  refine cj_Ct.of (by decide +kernel) hI (Nat.le_of_ble_eq_true rfl) [(0, .ref (ad g 14)), (1, .int a1), (2, .int a2), (3, .int a3), (4, .int a4)] rfl (fun X hX C => ?_)
  subst hX
  have C : cj_C (cj_YL D z ad) X cX2_buy 5 RX2 1 none := C
  unfold f_X2_buy at hf
  refine cj_aload_n C dX2_buy_0 rfl 0 rfl ?_
  refine cj_getS (v := .ref (ad g 20)) (j := 6) C (eC_14 (z := z) (ad := ad) hg) rfl rfl cj_in2 (by decide) rfl cjq_149 rfl dX2_buy_1 ?_
  refine cj_iload_n C dX2_buy_4 rfl 1 rfl ?_
  refine cj_aload_n C dX2_buy_5 rfl 0 rfl ?_
  refine cj_iload_n C dX2_buy_6 rfl 1 rfl ?_
  refine cj_iload C dX2_buy_7 4 rfl ?_
  obtain ⟨x2, h1, hf⟩ := cj_bd_s hf
  refine cj_cV2i C cw_X2_peopleBoughtOn (ct_X2_peopleBoughtOn hI hg h1) cjq_516 cjq_517 cjq_531 (eC_14 (z := z) (ad := ad) hg) rfl rfl ⟨Nat.le_of_ble_eq_true rfl, Nat.le_of_ble_eq_true rfl⟩ (Nat.le_of_ble_eq_true rfl) dX2_buy_9 ?_
  refine cj_iconst C 1 dX2_buy_12 rfl ?_
  refine cj_iload_n C dX2_buy_13 rfl 2 rfl ?_
  refine cj_ishl C dX2_buy_14 ?_
  refine cj_ior C dX2_buy_15 ?_
  refine cj_iastS C (eC_20 (z := z) (ad := ad) hg) dX2_buy_16 hf (fun hf => ?_)
  refine cj_ltS hf (fun s3 hf => ?_)
  refine cj_aload_n C dX2_buy_17 rfl 0 rfl ?_
  refine cj_getS (v := .ref (ad g 19)) (j := 5) C (eC_14 (z := z) (ad := ad) hg) rfl rfl cj_in2 (by decide) rfl cjq_148 rfl dX2_buy_18 ?_
  refine cj_iload_n C dX2_buy_21 rfl 1 rfl ?_
  refine cj_iload C dX2_buy_22 4 rfl ?_
  refine cj_iastS C (eC_19 (z := z) (ad := ad) hg) dX2_buy_24 hf (fun hf => ?_)
  refine cj_ltS hf (fun s4 hf => ?_)
  refine cj_aload_n C dX2_buy_25 rfl 0 rfl ?_
  refine cj_getS (v := .ref (ad g 17)) (j := 3) C (eC_14 (z := z) (ad := ad) hg) rfl rfl cj_in2 (by decide) rfl cjq_144 rfl dX2_buy_26 ?_
  refine cj_iload_n C dX2_buy_29 rfl 1 rfl ?_
  refine cj_dup2 C dX2_buy_30 rfl rfl ?_
  refine cj_ialdS C (eC_17 (z := z) (ad := ad) hg) dX2_buy_31 hf (fun hf => ?_)
  refine cj_iconst C 1 dX2_buy_32 rfl ?_
  refine cj_iadd C dX2_buy_33 ?_
  refine cj_iastS C (eC_17 (z := z) (ad := ad) hg) dX2_buy_34 hf (fun hf => ?_)
  refine cj_ltS hf (fun s5 hf => ?_)
  refine cj_aload_n C dX2_buy_35 rfl 0 rfl ?_
  refine cj_getS (v := .ref (ad g 18)) (j := 4) C (eC_14 (z := z) (ad := ad) hg) rfl rfl cj_in2 (by decide) rfl cjq_146 rfl dX2_buy_36 ?_
  refine cj_iload_n C dX2_buy_39 rfl 1 rfl ?_
  refine cj_dup2 C dX2_buy_40 rfl rfl ?_
  refine cj_ialdS C (eC_18 (z := z) (ad := ad) hg) dX2_buy_41 hf (fun hf => ?_)
  refine cj_iload_n C dX2_buy_42 rfl 3 rfl ?_
  refine cj_iadd C dX2_buy_43 ?_
  refine cj_iastS C (eC_18 (z := z) (ad := ad) hg) dX2_buy_44 hf (fun hf => ?_)
  refine cj_ltS hf (fun s6 hf => ?_)
  cases hf
  exact cj_vret C rfl dX2_buy_45
set_option maxHeartbeats 4000000 in
set_option maxRecDepth 100000 in
theorem ct_X0_sellSheet {l : Launch} {D : va_G} {z : cj_Zc} {ad : cj_Ad} (hI : cj_Ij (cj_EL z) ad) {μ : cj_Mm} {g : Nat} (hg : cj_isC g) {s0 : cj_S} {a1 : Int32} {a2 : Int32} {r : Int32} {r2 : cj_S} (hf : f_X0_sellSheet s0 a1 a2 = some (r, r2)) : cj_Ct l (cj_YL D z ad) yX0_sellSheet cX0_sellSheet 6 (some .int) 3 [.ref (ad g 0), .int a1, .int a2] (cj_upG μ g s0) (some (.int r)) (cj_upG μ g r2) := by
  refine cj_Ct.of (by decide +kernel) hI (Nat.le_of_ble_eq_true rfl) [(0, .ref (ad g 0)), (1, .int a1), (2, .int a2)] rfl (fun X hX C => ?_)
  subst hX
  have C : cj_C (cj_YL D z ad) X cX0_sellSheet 6 RX0 3 (some .int) := C
  unfold f_X0_sellSheet at hf
  generalize hr2 : (r, r2) = r3 at hf
  obtain ⟨e1, e2⟩ : r = r3.1 ∧ r2 = r3.2 := by rw [← hr2]; exact ⟨rfl, rfl⟩
  rw [e1, e2]
  clear e1 e2 hr2
  obtain ⟨r, hr⟩ : ∃ r, r = r3 := ⟨_, rfl⟩
  rw [← hr] at hf ⊢
  clear hr
  refine cj_aload_n C dX0_sellSheet_0 rfl 0 rfl ?_
  refine cj_getS (v := .ref (ad g 9)) (j := 1) C (eC_0 (z := z) (ad := ad) hg) rfl rfl cj_in0 (by decide) rfl cjq_167 rfl dX0_sellSheet_1 ?_
  refine cj_iload_n C dX0_sellSheet_4 rfl 1 rfl ?_
  obtain ⟨x2, h1, hf⟩ := cj_bd_s hf
  refine cj_cV1i C cw_X6_placeOf (ct_X6_placeOf hI hg h1) cjq_432 cjq_433 cjq_431 (eC_9 (z := z) (ad := ad) hg) rfl rfl ⟨Nat.le_of_ble_eq_true rfl, Nat.le_of_ble_eq_true rfl⟩ (Nat.le_of_ble_eq_true rfl) dX0_sellSheet_5 ?_
  refine cj_istore_n (lv' := [(3, .int x2), (0, .ref (ad g 0)), (1, .int a1), (2, .int a2)]) C dX0_sellSheet_8 rfl (by decide) rfl ?_
  refine cj_iload_n C dX0_sellSheet_9 rfl 0 rfl ?_
  refine cj_iconst C (-1) dX0_sellSheet_10 rfl ?_
  refine cj_ic_eq C 25 dX0_sellSheet_11 rfl hf (fun hf => ?_) (fun hf => ?_)
  · refine cj_ldc C cjq_357 dX0_sellSheet_25 ?_
    cases hf
    exact cj_iret C rfl dX0_sellSheet_27
  · refine cj_aload_n C dX0_sellSheet_14 rfl 1 rfl ?_
    refine cj_getS (v := .ref (ad g 14)) (j := 2) C (eC_0 (z := z) (ad := ad) hg) rfl rfl cj_in0 (by decide) rfl cjq_169 rfl dX0_sellSheet_15 ?_
    refine cj_iload_n C dX0_sellSheet_18 rfl 3 rfl ?_
    obtain ⟨x4, h3, hf⟩ := cj_bd_s hf
    refine cj_cV1i C cw_X2_has (ct_X2_has hI hg h3) cjq_500 cjq_501 cjq_499 (eC_14 (z := z) (ad := ad) hg) rfl rfl ⟨Nat.le_of_ble_eq_true rfl, Nat.le_of_ble_eq_true rfl⟩ (Nat.le_of_ble_eq_true rfl) dX0_sellSheet_19 ?_
    refine cj_if_ne C 28 dX0_sellSheet_22 rfl hf (fun hf => ?_) (fun hf => ?_)
    · refine cj_aload_n C dX0_sellSheet_28 rfl 1 rfl ?_
      refine cj_iload_n C dX0_sellSheet_29 rfl 0 rfl ?_
      refine cj_iload_n C dX0_sellSheet_30 rfl 3 rfl ?_
      obtain ⟨x6, h5, hf⟩ := cj_bd_s hf
      refine cj_cV2i C cw_X0_canSell (ct_X0_canSell hI hg h5) cjq_504 cjq_505 cjq_503 (eC_0 (z := z) (ad := ad) hg) rfl rfl ⟨Nat.le_of_ble_eq_true rfl, Nat.le_of_ble_eq_true rfl⟩ (Nat.le_of_ble_eq_true rfl) dX0_sellSheet_31 ?_
      refine cj_if_ne C 40 dX0_sellSheet_34 rfl hf (fun hf => ?_) (fun hf => ?_)
      · refine cj_aload_n C dX0_sellSheet_40 rfl 1 rfl ?_
        refine cj_getS (v := .ref (ad g 9)) (j := 1) C (eC_0 (z := z) (ad := ad) hg) rfl rfl cj_in0 (by decide) rfl cjq_167 rfl dX0_sellSheet_41 ?_
        refine cj_getS (v := .ref (ad g 11)) (j := 3) C (eC_9 (z := z) (ad := ad) hg) rfl rfl cj_in6 (by decide) rfl cjq_114 rfl dX0_sellSheet_44 ?_
        refine cj_iload_n C dX0_sellSheet_47 rfl 0 rfl ?_
        refine cj_ialdS C (eC_11 (z := z) (ad := ad) hg) dX0_sellSheet_48 hf (fun hf => ?_)
        refine cj_istore (lv' := [(4, .int (s0 11 x2.toNatClampNeg)), (3, .int x2), (0, .ref (ad g 0)), (1, .int a1), (2, .int a2)]) C dX0_sellSheet_49 (by decide) rfl ?_
        refine cj_aload_n C dX0_sellSheet_51 rfl 2 rfl ?_
        refine cj_iload_n C dX0_sellSheet_52 rfl 1 rfl ?_
        refine cj_iload_n C dX0_sellSheet_53 rfl 4 rfl ?_
        obtain ⟨x8, h7, hf⟩ := cj_bd_s hf
        refine cj_cV2i C cw_X0_priceAt (ct_X0_priceAt hI hg h7) cjq_520 cjq_521 cjq_519 (eC_0 (z := z) (ad := ad) hg) rfl rfl ⟨Nat.le_of_ble_eq_true rfl, Nat.le_of_ble_eq_true rfl⟩ (Nat.le_of_ble_eq_true rfl) dX0_sellSheet_54 ?_
        refine cj_istore (lv' := [(5, .int x8), (4, .int (s0 11 x2.toNatClampNeg)), (3, .int x2), (0, .ref (ad g 0)), (1, .int a1), (2, .int a2)]) C dX0_sellSheet_57 (by decide) rfl ?_
        refine cj_aload_n C dX0_sellSheet_59 rfl 3 rfl ?_
        refine cj_getS (v := .ref (ad g 14)) (j := 2) C (eC_0 (z := z) (ad := ad) hg) rfl rfl cj_in0 (by decide) rfl cjq_169 rfl dX0_sellSheet_60 ?_
        refine cj_iload_n C dX0_sellSheet_63 rfl 5 rfl ?_
        refine cj_iload C dX0_sellSheet_64 1 rfl ?_
        refine cj_iload C dX0_sellSheet_66 0 rfl ?_
        refine cj_aload_n C dX0_sellSheet_68 rfl 3 rfl ?_
        obtain ⟨x10, h9, hf⟩ := cj_bd_s hf
        refine cj_cV0i C cw_X0_day (ct_X0_day hI hg h9) cjq_484 cjq_485 cjq_483 (eC_0 (z := z) (ad := ad) hg) rfl rfl ⟨Nat.le_of_ble_eq_true rfl, Nat.le_of_ble_eq_true rfl⟩ (Nat.le_of_ble_eq_true rfl) dX0_sellSheet_69 ?_
        obtain ⟨s12, h11, hf⟩ := cj_bd_s hf
        refine cj_cV4v C cw_X2_buy (ct_X2_buy hI hg h11) cjq_528 cjq_529 cjq_527 (eC_14 (z := z) (ad := ad) hg) rfl rfl ⟨Nat.le_of_ble_eq_true rfl, Nat.le_of_ble_eq_true rfl⟩ (Nat.le_of_ble_eq_true rfl) dX0_sellSheet_72 ?_
        refine cj_aload_n C dX0_sellSheet_75 rfl 3 rfl ?_
        refine cj_getS (v := .ref (ad g 1)) (j := 0) C (eC_0 (z := z) (ad := ad) hg) rfl rfl cj_in0 (by decide) rfl cjq_165 rfl dX0_sellSheet_76 ?_
        refine cj_getS (v := .ref (ad g 7)) (j := 6) C (eC_1 (z := z) (ad := ad) hg) rfl rfl cj_in3 (by decide) rfl cjq_79 rfl dX0_sellSheet_79 ?_
        refine cj_iload C dX0_sellSheet_82 1 rfl ?_
        refine cj_dup2 C dX0_sellSheet_84 rfl rfl ?_
        refine cj_ialdS C (eC_7 (z := z) (ad := ad) hg) dX0_sellSheet_85 hf (fun hf => ?_)
        refine cj_iload C dX0_sellSheet_86 0 rfl ?_
        refine cj_iadd C dX0_sellSheet_88 ?_
        refine cj_iastS C (eC_7 (z := z) (ad := ad) hg) dX0_sellSheet_89 hf (fun hf => ?_)
        refine cj_ltS hf (fun s13 hf => ?_)
        refine cj_aload_n C dX0_sellSheet_90 rfl 3 rfl ?_
        refine cj_dup C dX0_sellSheet_91 rfl ?_
        refine cj_getS (v := .int (s13 0 9)) (j := 9) C (eC_0 (z := z) (ad := ad) hg) rfl rfl cj_in0 (by decide) rfl cjq_179 rfl dX0_sellSheet_92 ?_
        refine cj_iload C dX0_sellSheet_95 0 rfl ?_
        refine cj_iadd C dX0_sellSheet_97 ?_
        refine cj_putS (j := 9) C (eC_0 (z := z) (ad := ad) hg) rfl rfl rfl rfl cj_in0 tyX0_ok nmX0 (by decide) rfl cjq_179 rfl rfl rfl (Nat.le_of_ble_eq_true rfl) dX0_sellSheet_98 ?_
        refine cj_ltS hf (fun s14 hf => ?_)
        refine cj_aload_n C dX0_sellSheet_101 rfl 3 rfl ?_
        refine cj_dup C dX0_sellSheet_102 rfl ?_
        refine cj_getS (v := .int (s14 0 8)) (j := 8) C (eC_0 (z := z) (ad := ad) hg) rfl rfl cj_in0 (by decide) rfl cjq_177 rfl dX0_sellSheet_103 ?_
        refine cj_iconst C 1 dX0_sellSheet_106 rfl ?_
        refine cj_iadd C dX0_sellSheet_107 ?_
        refine cj_putS (j := 8) C (eC_0 (z := z) (ad := ad) hg) rfl rfl rfl rfl cj_in0 tyX0_ok nmX0 (by decide) rfl cjq_177 rfl rfl rfl (Nat.le_of_ble_eq_true rfl) dX0_sellSheet_108 ?_
        refine cj_ltS hf (fun s15 hf => ?_)
        refine cj_aload_n C dX0_sellSheet_111 rfl 3 rfl ?_
        refine cj_getS (v := .ref (ad g 9)) (j := 1) C (eC_0 (z := z) (ad := ad) hg) rfl rfl cj_in0 (by decide) rfl cjq_167 rfl dX0_sellSheet_112 ?_
        refine cj_iload_n C dX0_sellSheet_115 rfl 2 rfl ?_
        obtain ⟨s17, h16, hf⟩ := cj_bd_s hf
        refine cj_cV1v C cw_X6_removeAt (ct_X6_removeAt hI hg h16) cjq_468 cjq_469 cjq_467 (eC_9 (z := z) (ad := ad) hg) rfl rfl ⟨Nat.le_of_ble_eq_true rfl, Nat.le_of_ble_eq_true rfl⟩ (Nat.le_of_ble_eq_true rfl) dX0_sellSheet_116 ?_
        refine cj_iload C dX0_sellSheet_119 0 rfl ?_
        cases hf
        exact cj_iret C rfl dX0_sellSheet_121
      · refine cj_ldc C cjq_362 dX0_sellSheet_37 ?_
        cases hf
        exact cj_iret C rfl dX0_sellSheet_39
    · refine cj_ldc C cjq_357 dX0_sellSheet_25 ?_
      cases hf
      exact cj_iret C rfl dX0_sellSheet_27
set_option maxHeartbeats 4000000 in
set_option maxRecDepth 100000 in
theorem tl_X3_watch_L40 {D : va_G} {z : cj_Zc} {ad : cj_Ad} (hI : cj_Ij (cj_EL z) ad) {μ : cj_Mm} {g : Nat} (hg : cj_isC g) {y15 : Int32} {y16 : Int32} {y17 : Int32} {y18 : Int32} {y19 : Int32} {y20 : Int32} {X : cj_X} (C : cj_C (cj_YL D z ad) X cX3_watch 8 RX3 1 none) {r : cj_S} {K : cj_S → Option (cj_S)} (hK : ∀ (s23 : cj_S), K s23 = some r → cj_G (cj_YL D z ad) X (none, cj_upG μ g r) (cj_upG μ g s23) 79 [(0, .ref (ad g 1)), (1, .int y15), (2, .int y16), (3, .int y17), (4, .int y18), (5, .int y19)] []) : ∀ (n : Nat) (x21 : Int32) (s22 : cj_S), f_X3_watch_L40 K y15 y16 y17 y18 y19 y20 n x21 s22 = some r → cj_G (cj_YL D z ad) X (none, cj_upG μ g r) (cj_upG μ g s22) 40 [(0, .ref (ad g 1)), (1, .int y15), (2, .int y16), (3, .int y17), (4, .int y18), (5, .int y19), (6, .int y20), (7, .int x21)] [] := by
  intro n
  induction n with
  | zero =>
    intro x21 s22 hf
    rw [f_X3_watch_L40] at hf
    cases hf
  | succ n ih =>
    intro x21 s22 hf
    rw [f_X3_watch_L40] at hf
    refine cj_iload C dX3_watch_40 7 rfl ?_
    refine cj_bipush C 12 dX3_watch_42 rfl ?_
    refine cj_ic_ge C 79 dX3_watch_44 rfl hf (fun hf => ?_) (fun hf => ?_)
    · refine cj_sub [0, 1, 2, 3, 4, 5] rfl ?_
      exact hK s22 hf
    · refine cj_iload C dX3_watch_47 6 rfl ?_
      refine cj_iload C dX3_watch_49 7 rfl ?_
      obtain ⟨x25, h24, hf⟩ := cj_bd_s hf
      refine cj_cN2i C cw_X8_hasBit (ct_X8_hasBit hI h24) cjq_448 cjn_X3_57 ⟨Nat.le_of_ble_eq_true rfl, Nat.le_of_ble_eq_true rfl⟩ (Nat.le_of_ble_eq_true rfl) dX3_watch_51 ?_
      refine cj_if_eq C 73 dX3_watch_54 rfl hf (fun hf => ?_) (fun hf => ?_)
      · refine cj_iinc (lv' := [(7, .int (x21 + 1)), (0, .ref (ad g 1)), (1, .int y15), (2, .int y16), (3, .int y17), (4, .int y18), (5, .int y19), (6, .int y20)]) C dX3_watch_73 (j := 7) rfl rfl (by decide) rfl ?_
        refine cj_goto C 40 dX3_watch_76 rfl ?_
        refine cj_sub [1, 2, 3, 4, 5, 6, 7, 0] rfl ?_
        exact ih (x21 + 1) s22 hf
      · refine cj_aload_n C dX3_watch_57 rfl 0 rfl ?_
        refine cj_getS (v := .ref (ad g 8)) (j := 7) C (eC_1 (z := z) (ad := ad) hg) rfl rfl cj_in3 (by decide) rfl cjq_80 rfl dX3_watch_58 ?_
        refine cj_iload_n C dX3_watch_61 rfl 1 rfl ?_
        refine cj_bipush C 12 dX3_watch_62 rfl ?_
        refine cj_imul C dX3_watch_64 ?_
        refine cj_iload C dX3_watch_65 7 rfl ?_
        refine cj_iadd C dX3_watch_67 ?_
        refine cj_iload_n C dX3_watch_68 rfl 2 rfl ?_
        refine cj_iload C dX3_watch_69 5 rfl ?_
        refine cj_iadd C dX3_watch_71 ?_
        refine cj_iastS C (eC_8 (z := z) (ad := ad) hg) dX3_watch_72 hf (fun hf => ?_)
        refine cj_ltS hf (fun s26 hf => ?_)
        refine cj_iinc (lv' := [(7, .int (x21 + 1)), (0, .ref (ad g 1)), (1, .int y15), (2, .int y16), (3, .int y17), (4, .int y18), (5, .int y19), (6, .int y20)]) C dX3_watch_73 (j := 7) rfl rfl (by decide) rfl ?_
        refine cj_goto C 40 dX3_watch_76 rfl ?_
        refine cj_sub [1, 2, 3, 4, 5, 6, 7, 0] rfl ?_
        exact ih (x21 + 1) s26 hf
set_option maxHeartbeats 4000000 in
set_option maxRecDepth 100000 in
theorem tl_X3_watch_L17 {D : va_G} {z : cj_Zc} {ad : cj_Ad} (hI : cj_Ij (cj_EL z) ad) {μ : cj_Mm} {g : Nat} (hg : cj_isC g) {y5 : Int32} {y6 : Int32} {y7 : Int32} {y8 : Int32} {X : cj_X} (C : cj_C (cj_YL D z ad) X cX3_watch 8 RX3 1 none) {r : cj_S} : ∀ (n : Nat) (x9 : Int32) (s10 : cj_S), f_X3_watch_L17 y5 y6 y7 y8 n x9 s10 = some r → cj_G (cj_YL D z ad) X (none, cj_upG μ g r) (cj_upG μ g s10) 17 [(0, .ref (ad g 1)), (1, .int y5), (2, .int y6), (3, .int y7), (4, .int y8), (5, .int x9)] [] := by
  intro n
  induction n with
  | zero =>
    intro x9 s10 hf
    rw [f_X3_watch_L17] at hf
    cases hf
  | succ n ih =>
    intro x9 s10 hf
    rw [f_X3_watch_L17] at hf
    refine cj_iload C dX3_watch_17 5 rfl ?_
    refine cj_iload_n C dX3_watch_19 rfl 3 rfl ?_
    refine cj_ic_ge C 85 dX3_watch_20 rfl hf (fun hf => ?_) (fun hf => ?_)
    · cases hf
      exact cj_vret C rfl dX3_watch_85
    · refine cj_aload_n C dX3_watch_23 rfl 0 rfl ?_
      refine cj_iload_n C dX3_watch_24 rfl 1 rfl ?_
      refine cj_iload C dX3_watch_25 5 rfl ?_
      obtain ⟨x12, h11, hf⟩ := cj_bd_s hf
      refine cj_cV2i C cw_X3_angleAfter (ct_X3_angleAfter hI hg h11) cjq_385 cjq_386 cjq_384 (eC_1 (z := z) (ad := ad) hg) rfl rfl ⟨Nat.le_of_ble_eq_true rfl, Nat.le_of_ble_eq_true rfl⟩ (Nat.le_of_ble_eq_true rfl) dX3_watch_27 ?_
      refine cj_iload C dX3_watch_30 4 rfl ?_
      obtain ⟨x14, h13, hf⟩ := cj_bd_s hf
      refine cj_cS2i C cw_X3_features (ct_X3_features hI h13) cjq_393 cjq_392 ⟨Nat.le_of_ble_eq_true rfl, Nat.le_of_ble_eq_true rfl⟩ (Nat.le_of_ble_eq_true rfl) dX3_watch_32 ?_
      refine cj_istore (lv' := [(6, .int x14), (0, .ref (ad g 1)), (1, .int y5), (2, .int y6), (3, .int y7), (4, .int y8), (5, .int x9)]) C dX3_watch_35 (by decide) rfl ?_
      refine cj_iconst C 0 dX3_watch_37 rfl ?_
      refine cj_istore (lv' := [(7, .int 0), (6, .int x14), (0, .ref (ad g 1)), (1, .int y5), (2, .int y6), (3, .int y7), (4, .int y8), (5, .int x9)]) C dX3_watch_38 (by decide) rfl ?_
      refine cj_sub [2, 3, 4, 5, 6, 7, 1, 0] rfl ?_
      refine tl_X3_watch_L40 hI hg C (fun s27 hf => ?_) cj_FU 0 s10 hf
      refine cj_iinc (lv' := [(5, .int (x9 + 1)), (0, .ref (ad g 1)), (1, .int y5), (2, .int y6), (3, .int y7), (4, .int y8)]) C dX3_watch_79 (j := 5) rfl rfl (by decide) rfl ?_
      refine cj_goto C 17 dX3_watch_82 rfl ?_
      refine cj_sub [1, 2, 3, 4, 5, 0] rfl ?_
      exact ih (x9 + 1) s27 hf
set_option maxHeartbeats 4000000 in
set_option maxRecDepth 100000 in
theorem ct_X3_watch {l : Launch} {D : va_G} {z : cj_Zc} {ad : cj_Ad} (hI : cj_Ij (cj_EL z) ad) {μ : cj_Mm} {g : Nat} (hg : cj_isC g) {s0 : cj_S} {a1 : Int32} {a2 : Int32} {a3 : Int32} {r : cj_S} (hf : f_X3_watch s0 a1 a2 a3 = some r) : cj_Ct l (cj_YL D z ad) yX3_watch cX3_watch 8 none 1 [.ref (ad g 1), .int a1, .int a2, .int a3] (cj_upG μ g s0) none (cj_upG μ g r) := by
  refine cj_Ct.of (by decide +kernel) hI (Nat.le_of_ble_eq_true rfl) [(0, .ref (ad g 1)), (1, .int a1), (2, .int a2), (3, .int a3)] rfl (fun X hX C => ?_)
  subst hX
  have C : cj_C (cj_YL D z ad) X cX3_watch 8 RX3 1 none := C
  unfold f_X3_watch at hf
  refine cj_aload_n C dX3_watch_0 rfl 0 rfl ?_
  refine cj_iload_n C dX3_watch_1 rfl 1 rfl ?_
  obtain ⟨x2, h1, hf⟩ := cj_bd_s hf
  refine cj_cV1i C cw_X3_seenAside (ct_X3_seenAside hI hg h1) cjq_389 cjq_390 cjq_388 (eC_1 (z := z) (ad := ad) hg) rfl rfl ⟨Nat.le_of_ble_eq_true rfl, Nat.le_of_ble_eq_true rfl⟩ (Nat.le_of_ble_eq_true rfl) dX3_watch_2 ?_
  refine cj_istore (lv' := [(4, .int x2), (0, .ref (ad g 1)), (1, .int a1), (2, .int a2), (3, .int a3)]) C dX3_watch_5 (by decide) rfl ?_
  refine cj_iconst C 0 dX3_watch_7 rfl ?_
  refine cj_iload_n C dX3_watch_8 rfl 4 rfl ?_
  refine cj_bipush C 12 dX3_watch_9 rfl ?_
  refine cj_isub C dX3_watch_11 ?_
  obtain ⟨x4, h3, hf⟩ := cj_bd_s hf
  refine cj_cS2i C cw_J9_max_7cf53 (ct_J9_max_7cf53 hI h3) cjq_451 cjq_548 ⟨Nat.le_of_ble_eq_true rfl, Nat.le_of_ble_eq_true rfl⟩ (Nat.le_of_ble_eq_true rfl) dX3_watch_12 ?_
  refine cj_istore (lv' := [(5, .int x4), (4, .int x2), (0, .ref (ad g 1)), (1, .int a1), (2, .int a2), (3, .int a3)]) C dX3_watch_15 (by decide) rfl ?_
  refine cj_sub [2, 3, 4, 5, 1, 0] rfl ?_
  exact tl_X3_watch_L17 hI hg C cj_FU x4 s0 hf
set_option maxHeartbeats 4000000 in
set_option maxRecDepth 100000 in
theorem tl_X3_turnAll_L2 {D : va_G} {z : cj_Zc} {ad : cj_Ad} (hI : cj_Ij (cj_EL z) ad) {μ : cj_Mm} {g : Nat} (hg : cj_isC g) {y1 : Int32} {X : cj_X} (C : cj_C (cj_YL D z ad) X cX3_turnAll 3 RX3 1 none) {r : cj_S} : ∀ (n : Nat) (x2 : Int32) (s3 : cj_S), f_X3_turnAll_L2 y1 n x2 s3 = some r → cj_G (cj_YL D z ad) X (none, cj_upG μ g r) (cj_upG μ g s3) 2 [(0, .ref (ad g 1)), (1, .int y1), (2, .int x2)] [] := by
  intro n
  induction n with
  | zero =>
    intro x2 s3 hf
    rw [f_X3_turnAll_L2] at hf
    cases hf
  | succ n ih =>
    intro x2 s3 hf
    rw [f_X3_turnAll_L2] at hf
    refine cj_iload_n C dX3_turnAll_2 rfl 2 rfl ?_
    refine cj_aload_n C dX3_turnAll_3 rfl 0 rfl ?_
    refine cj_getS (v := .int (s3 1 0)) (j := 0) C (eC_1 (z := z) (ad := ad) hg) rfl rfl cj_in3 (by decide) rfl cjq_66 rfl dX3_turnAll_4 ?_
    refine cj_ic_ge C 28 dX3_turnAll_7 rfl hf (fun hf => ?_) (fun hf => ?_)
    · cases hf
      exact cj_vret C rfl dX3_turnAll_28
    · refine cj_aload_n C dX3_turnAll_10 rfl 0 rfl ?_
      refine cj_getS (v := .ref (ad g 4)) (j := 3) C (eC_1 (z := z) (ad := ad) hg) rfl rfl cj_in3 (by decide) rfl cjq_72 rfl dX3_turnAll_11 ?_
      refine cj_iload_n C dX3_turnAll_14 rfl 2 rfl ?_
      refine cj_aload_n C dX3_turnAll_15 rfl 0 rfl ?_
      refine cj_iload_n C dX3_turnAll_16 rfl 2 rfl ?_
      refine cj_iload_n C dX3_turnAll_17 rfl 1 rfl ?_
      obtain ⟨x5, h4, hf⟩ := cj_bd_s hf
      refine cj_cV2i C cw_X3_angleAfter (ct_X3_angleAfter hI hg h4) cjq_385 cjq_386 cjq_384 (eC_1 (z := z) (ad := ad) hg) rfl rfl ⟨Nat.le_of_ble_eq_true rfl, Nat.le_of_ble_eq_true rfl⟩ (Nat.le_of_ble_eq_true rfl) dX3_turnAll_18 ?_
      refine cj_iastS C (eC_4 (z := z) (ad := ad) hg) dX3_turnAll_21 hf (fun hf => ?_)
      refine cj_ltS hf (fun s6 hf => ?_)
      refine cj_iinc (lv' := [(2, .int (x2 + 1)), (0, .ref (ad g 1)), (1, .int y1)]) C dX3_turnAll_22 (j := 2) rfl rfl (by decide) rfl ?_
      refine cj_goto C 2 dX3_turnAll_25 rfl ?_
      refine cj_sub [1, 2, 0] rfl ?_
      exact ih (x2 + 1) s6 hf
set_option maxHeartbeats 4000000 in
set_option maxRecDepth 100000 in
theorem ct_X3_turnAll {l : Launch} {D : va_G} {z : cj_Zc} {ad : cj_Ad} (hI : cj_Ij (cj_EL z) ad) {μ : cj_Mm} {g : Nat} (hg : cj_isC g) {s0 : cj_S} {a1 : Int32} {r : cj_S} (hf : f_X3_turnAll s0 a1 = some r) : cj_Ct l (cj_YL D z ad) yX3_turnAll cX3_turnAll 3 none 1 [.ref (ad g 1), .int a1] (cj_upG μ g s0) none (cj_upG μ g r) := by
  refine cj_Ct.of (by decide +kernel) hI (Nat.le_of_ble_eq_true rfl) [(0, .ref (ad g 1)), (1, .int a1)] rfl (fun X hX C => ?_)
  subst hX
  have C : cj_C (cj_YL D z ad) X cX3_turnAll 3 RX3 1 none := C
  unfold f_X3_turnAll at hf
  refine cj_iconst C 0 dX3_turnAll_0 rfl ?_
  refine cj_istore_n (lv' := [(2, .int 0), (0, .ref (ad g 1)), (1, .int a1)]) C dX3_turnAll_1 rfl (by decide) rfl ?_
  refine cj_sub [1, 2, 0] rfl ?_
  exact tl_X3_turnAll_L2 hI hg C cj_FU 0 s0 hf
set_option maxHeartbeats 4000000 in
set_option maxRecDepth 100000 in
theorem ct_X0_advance {l : Launch} {D : va_G} {z : cj_Zc} {ad : cj_Ad} (hI : cj_Ij (cj_EL z) ad) {μ : cj_Mm} {g : Nat} (hg : cj_isC g) {s0 : cj_S} {a1 : Int32} {r : cj_S} (hf : f_X0_advance s0 a1 = some r) : cj_Ct l (cj_YL D z ad) yX0_advance cX0_advance 2 none 2 [.ref (ad g 0), .int a1] (cj_upG μ g s0) none (cj_upG μ g r) := by
  refine cj_Ct.of (by decide +kernel) hI (Nat.le_of_ble_eq_true rfl) [(0, .ref (ad g 0)), (1, .int a1)] rfl (fun X hX C => ?_)
  subst hX
  have C : cj_C (cj_YL D z ad) X cX0_advance 2 RX0 2 none := C
  unfold f_X0_advance at hf
  refine cj_aload_n C dX0_advance_0 rfl 0 rfl ?_
  refine cj_getS (v := .int (s0 0 6)) (j := 6) C (eC_0 (z := z) (ad := ad) hg) rfl rfl cj_in0 (by decide) rfl cjq_174 rfl dX0_advance_1 ?_
  refine cj_iconst C (-1) dX0_advance_4 rfl ?_
  refine cj_jn (Hyp := fun K1 => ∀ (s2 : cj_S), K1 s2 = some r → cj_G (cj_YL D z ad) X (none, cj_upG μ g r) (cj_upG μ g s2) 24 [(0, .ref (ad g 0)), (1, .int a1)] []) hf (fun s2 hf => ?_) (fun K1 hK1 hf => ?_)
  · refine cj_aload_n C dX0_advance_24 rfl 0 rfl ?_
    refine cj_getS (v := .ref (ad g 1)) (j := 0) C (eC_0 (z := z) (ad := ad) hg) rfl rfl cj_in0 (by decide) rfl cjq_165 rfl dX0_advance_25 ?_
    refine cj_iload_n C dX0_advance_28 rfl 1 rfl ?_
    obtain ⟨s4, h3, hf⟩ := cj_bd_s hf
    refine cj_cV1v C cw_X3_turnAll (ct_X3_turnAll hI hg h3) cjq_551 cjq_552 cjq_550 (eC_1 (z := z) (ad := ad) hg) rfl rfl ⟨Nat.le_of_ble_eq_true rfl, Nat.le_of_ble_eq_true rfl⟩ (Nat.le_of_ble_eq_true rfl) dX0_advance_29 ?_
    refine cj_aload_n C dX0_advance_32 rfl 0 rfl ?_
    refine cj_dup C dX0_advance_33 rfl ?_
    refine cj_getS (v := .int (s4 0 5)) (j := 5) C (eC_0 (z := z) (ad := ad) hg) rfl rfl cj_in0 (by decide) rfl cjq_173 rfl dX0_advance_34 ?_
    refine cj_iload_n C dX0_advance_37 rfl 1 rfl ?_
    refine cj_iadd C dX0_advance_38 ?_
    refine cj_putS (j := 5) C (eC_0 (z := z) (ad := ad) hg) rfl rfl rfl rfl cj_in0 tyX0_ok nmX0 (by decide) rfl cjq_173 rfl rfl rfl (Nat.le_of_ble_eq_true rfl) dX0_advance_39 ?_
    refine cj_ltS hf (fun s5 hf => ?_)
    refine cj_aload_n C dX0_advance_42 rfl 0 rfl ?_
    refine cj_iconst C 0 dX0_advance_43 rfl ?_
    refine cj_putS (j := 7) C (eC_0 (z := z) (ad := ad) hg) rfl rfl rfl rfl cj_in0 tyX0_ok nmX0 (by decide) rfl cjq_176 rfl rfl rfl (Nat.le_of_ble_eq_true rfl) dX0_advance_44 ?_
    refine cj_ltS hf (fun s6 hf => ?_)
    cases hf
    exact cj_vret C rfl dX0_advance_47
  · refine cj_ic_eq C 24 dX0_advance_5 rfl hf (fun hf => ?_) (fun hf => ?_)
    · exact hK1 s0 hf
    · refine cj_aload_n C dX0_advance_8 rfl 0 rfl ?_
      refine cj_getS (v := .ref (ad g 1)) (j := 0) C (eC_0 (z := z) (ad := ad) hg) rfl rfl cj_in0 (by decide) rfl cjq_165 rfl dX0_advance_9 ?_
      refine cj_aload_n C dX0_advance_12 rfl 0 rfl ?_
      refine cj_getS (v := .int (s0 0 6)) (j := 6) C (eC_0 (z := z) (ad := ad) hg) rfl rfl cj_in0 (by decide) rfl cjq_174 rfl dX0_advance_13 ?_
      refine cj_aload_n C dX0_advance_16 rfl 0 rfl ?_
      refine cj_getS (v := .int (s0 0 5)) (j := 5) C (eC_0 (z := z) (ad := ad) hg) rfl rfl cj_in0 (by decide) rfl cjq_173 rfl dX0_advance_17 ?_
      refine cj_iload_n C dX0_advance_20 rfl 1 rfl ?_
      obtain ⟨s8, h7, hf⟩ := cj_bd_s hf
      refine cj_cV3v C cw_X3_watch (ct_X3_watch hI hg h7) cjq_545 cjq_546 cjq_544 (eC_1 (z := z) (ad := ad) hg) rfl rfl ⟨Nat.le_of_ble_eq_true rfl, Nat.le_of_ble_eq_true rfl⟩ (Nat.le_of_ble_eq_true rfl) dX0_advance_21 ?_
      exact hK1 s8 hf
set_option maxHeartbeats 4000000 in
set_option maxRecDepth 100000 in
theorem tl_X0_passMinutes_L38 {D : va_G} {z : cj_Zc} {ad : cj_Ad} (hI : cj_Ij (cj_EL z) ad) {μ : cj_Mm} {g : Nat} (hg : cj_isC g) {s7 : cj_S} {X : cj_X} (C : cj_C (cj_YL D z ad) X cX0_passMinutes 4 RX0 3 (some .int)) {r : Int32 × cj_S} : ∀ (n : Nat) (x5 : Int32) (x6 : Int32), f_X0_passMinutes_L38 s7 n x5 x6 = some r → cj_G (cj_YL D z ad) X (some (.int r.1), cj_upG μ g r.2) (cj_upG μ g s7) 38 [(0, .ref (ad g 0)), (2, .int x5), (3, .int x6)] [] := by
  intro n
  induction n with
  | zero =>
    intro x5 x6 hf
    rw [f_X0_passMinutes_L38] at hf
    cases hf
  | succ n ih =>
    intro x5 x6 hf
    rw [f_X0_passMinutes_L38] at hf
    refine cj_iload_n C dX0_passMinutes_38 rfl 2 rfl ?_
    refine cj_aload_n C dX0_passMinutes_39 rfl 0 rfl ?_
    refine cj_getS (v := .ref (ad g 1)) (j := 0) C (eC_0 (z := z) (ad := ad) hg) rfl rfl cj_in0 (by decide) rfl cjq_165 rfl dX0_passMinutes_40 ?_
    refine cj_getS (v := .int (s7 1 0)) (j := 0) C (eC_1 (z := z) (ad := ad) hg) rfl rfl cj_in3 (by decide) rfl cjq_67 rfl dX0_passMinutes_43 ?_
    refine cj_ic_ge C 66 dX0_passMinutes_46 rfl hf (fun hf => ?_) (fun hf => ?_)
    · refine cj_iload_n C dX0_passMinutes_66 rfl 1 rfl ?_
      cases hf
      exact cj_iret C rfl dX0_passMinutes_67
    · refine cj_iload_n C dX0_passMinutes_49 rfl 1 rfl ?_
      refine cj_aload_n C dX0_passMinutes_50 rfl 0 rfl ?_
      refine cj_iload_n C dX0_passMinutes_51 rfl 2 rfl ?_
      obtain ⟨x9, h8, hf⟩ := cj_bd_s hf
      refine cj_cV1i C cw_X0_remembered (ct_X0_remembered hI hg h8) cjq_440 cjq_441 cjq_439 (eC_0 (z := z) (ad := ad) hg) rfl rfl ⟨Nat.le_of_ble_eq_true rfl, Nat.le_of_ble_eq_true rfl⟩ (Nat.le_of_ble_eq_true rfl) dX0_passMinutes_52 ?_
      obtain ⟨x11, h10, hf⟩ := cj_bd_s hf
      refine cj_cS1i C cw_J6_bitCount_0f7a4 (ct_J6_bitCount_0f7a4 hI h10) cjq_454 cjq_453 ⟨Nat.le_of_ble_eq_true rfl, Nat.le_of_ble_eq_true rfl⟩ (Nat.le_of_ble_eq_true rfl) dX0_passMinutes_55 ?_
      refine cj_iadd C dX0_passMinutes_58 ?_
      refine cj_istore_n (lv' := [(2, .int (x5 + x11)), (0, .ref (ad g 0)), (3, .int x6)]) C dX0_passMinutes_59 rfl (by decide) rfl ?_
      refine cj_iinc (lv' := [(3, .int (x6 + 1)), (2, .int (x5 + x11)), (0, .ref (ad g 0))]) C dX0_passMinutes_60 (j := 2) rfl rfl (by decide) rfl ?_
      refine cj_goto C 38 dX0_passMinutes_63 rfl ?_
      refine cj_sub [2, 1, 0] rfl ?_
      exact ih (x5 + x11) (x6 + 1) hf
set_option maxHeartbeats 4000000 in
set_option maxRecDepth 100000 in
theorem ct_X0_passMinutes {l : Launch} {D : va_G} {z : cj_Zc} {ad : cj_Ad} (hI : cj_Ij (cj_EL z) ad) {μ : cj_Mm} {g : Nat} (hg : cj_isC g) {s0 : cj_S} {a1 : Int32} {r : Int32} {r2 : cj_S} (hf : f_X0_passMinutes s0 a1 = some (r, r2)) : cj_Ct l (cj_YL D z ad) yX0_passMinutes cX0_passMinutes 4 (some .int) 3 [.ref (ad g 0), .int a1] (cj_upG μ g s0) (some (.int r)) (cj_upG μ g r2) := by
  refine cj_Ct.of (by decide +kernel) hI (Nat.le_of_ble_eq_true rfl) [(0, .ref (ad g 0)), (1, .int a1)] rfl (fun X hX C => ?_)
  subst hX
  have C : cj_C (cj_YL D z ad) X cX0_passMinutes 4 RX0 3 (some .int) := C
  unfold f_X0_passMinutes at hf
  generalize hr2 : (r, r2) = r3 at hf
  obtain ⟨e1, e2⟩ : r = r3.1 ∧ r2 = r3.2 := by rw [← hr2]; exact ⟨rfl, rfl⟩
  rw [e1, e2]
  clear e1 e2 hr2
  obtain ⟨r, hr⟩ : ∃ r, r = r3 := ⟨_, rfl⟩
  rw [← hr] at hf ⊢
  clear hr
  refine cj_iload_n C dX0_passMinutes_0 rfl 1 rfl ?_
  refine cj_iconst C 1 dX0_passMinutes_1 rfl ?_
  refine cj_sipush C 300 dX0_passMinutes_2 rfl ?_
  obtain ⟨x2, h1, hf⟩ := cj_bd_s hf
  refine cj_cN3i C cw_X8_isWithin (ct_X8_isWithin hI h1) cjq_355 cjn_X0_64 ⟨Nat.le_of_ble_eq_true rfl, Nat.le_of_ble_eq_true rfl⟩ (Nat.le_of_ble_eq_true rfl) dX0_passMinutes_5 ?_
  refine cj_if_ne C 14 dX0_passMinutes_8 rfl hf (fun hf => ?_) (fun hf => ?_)
  · refine cj_aload_n C dX0_passMinutes_14 rfl 0 rfl ?_
    refine cj_getS (v := .int (s0 0 5)) (j := 5) C (eC_0 (z := z) (ad := ad) hg) rfl rfl cj_in0 (by decide) rfl cjq_173 rfl dX0_passMinutes_15 ?_
    refine cj_iload_n C dX0_passMinutes_18 rfl 1 rfl ?_
    refine cj_iadd C dX0_passMinutes_19 ?_
    refine cj_sipush C 9999 dX0_passMinutes_20 rfl ?_
    refine cj_ic_le C 29 dX0_passMinutes_23 rfl hf (fun hf => ?_) (fun hf => ?_)
    · refine cj_aload_n C dX0_passMinutes_29 rfl 0 rfl ?_
      refine cj_iload_n C dX0_passMinutes_30 rfl 1 rfl ?_
      obtain ⟨s4, h3, hf⟩ := cj_bd_s hf
      refine cj_cV1v C cw_X0_advance (ct_X0_advance hI hg h3) cjq_541 cjq_542 cjq_540 (eC_0 (z := z) (ad := ad) hg) rfl rfl ⟨Nat.le_of_ble_eq_true rfl, Nat.le_of_ble_eq_true rfl⟩ (Nat.le_of_ble_eq_true rfl) dX0_passMinutes_31 ?_
      refine cj_iconst C 0 dX0_passMinutes_34 rfl ?_
      refine cj_istore_n (lv' := [(2, .int 0), (0, .ref (ad g 0)), (1, .int a1)]) C dX0_passMinutes_35 rfl (by decide) rfl ?_
      refine cj_iconst C 0 dX0_passMinutes_36 rfl ?_
      refine cj_istore_n (lv' := [(3, .int 0), (2, .int 0), (0, .ref (ad g 0)), (1, .int a1)]) C dX0_passMinutes_37 rfl (by decide) rfl ?_
      refine cj_sub [2, 1, 0] rfl ?_
      exact tl_X0_passMinutes_L38 hI hg C cj_FU 0 0 hf
    · refine cj_ldc C cjq_363 dX0_passMinutes_26 ?_
      cases hf
      exact cj_iret C rfl dX0_passMinutes_28
  · refine cj_ldc C cjq_357 dX0_passMinutes_11 ?_
    cases hf
    exact cj_iret C rfl dX0_passMinutes_13
set_option maxHeartbeats 4000000 in
set_option maxRecDepth 100000 in
theorem ct_X0_changeSetting {l : Launch} {D : va_G} {z : cj_Zc} {ad : cj_Ad} (hI : cj_Ij (cj_EL z) ad) {μ : cj_Mm} {g : Nat} (hg : cj_isC g) {s0 : cj_S} {a1 : Int32} {a2 : Int32} {r : Int32} {r2 : cj_S} (hf : f_X0_changeSetting s0 a1 a2 = some (r, r2)) : cj_Ct l (cj_YL D z ad) yX0_changeSetting cX0_changeSetting 4 (some .int) 1 [.ref (ad g 0), .int a1, .int a2] (cj_upG μ g s0) (some (.int r)) (cj_upG μ g r2) := by
  refine cj_Ct.of (by decide +kernel) hI (Nat.le_of_ble_eq_true rfl) [(0, .ref (ad g 0)), (1, .int a1), (2, .int a2)] rfl (fun X hX C => ?_)
  subst hX
  have C : cj_C (cj_YL D z ad) X cX0_changeSetting 4 RX0 1 (some .int) := C
  unfold f_X0_changeSetting at hf
  generalize hr2 : (r, r2) = r3 at hf
  obtain ⟨e1, e2⟩ : r = r3.1 ∧ r2 = r3.2 := by rw [← hr2]; exact ⟨rfl, rfl⟩
  rw [e1, e2]
  clear e1 e2 hr2
  obtain ⟨r, hr⟩ : ∃ r, r = r3 := ⟨_, rfl⟩
  rw [← hr] at hf ⊢
  clear hr
  refine cj_iload_n C dX0_changeSetting_0 rfl 1 rfl ?_
  refine cj_jn (Hyp := fun K1 => ∀ (u : Unit), K1 u = some r → cj_G (cj_YL D z ad) X (some (.int r.1), cj_upG μ g r.2) (cj_upG μ g s0) 27 [(0, .ref (ad g 0)), (1, .int a1), (2, .int a2)] []) hf (fun u hf => ?_) (fun K1 hK1 hf => ?_)
  · refine cj_iload_n C dX0_changeSetting_27 rfl 1 rfl ?_
    refine cj_iconst C 1 dX0_changeSetting_28 rfl ?_
    refine cj_ic_ne C 54 dX0_changeSetting_29 rfl hf (fun hf => ?_) (fun hf => ?_)
    · refine cj_ldc C cjq_357 dX0_changeSetting_54 ?_
      cases hf
      exact cj_iret C rfl dX0_changeSetting_56
    · refine cj_iload_n C dX0_changeSetting_32 rfl 2 rfl ?_
      refine cj_iconst C 0 dX0_changeSetting_33 rfl ?_
      refine cj_bipush C 60 dX0_changeSetting_34 rfl ?_
      obtain ⟨x3, h2, hf⟩ := cj_bd_s hf
      refine cj_cN3i C cw_X8_isWithin (ct_X8_isWithin hI h2) cjq_355 cjn_X0_64 ⟨Nat.le_of_ble_eq_true rfl, Nat.le_of_ble_eq_true rfl⟩ (Nat.le_of_ble_eq_true rfl) dX0_changeSetting_36 ?_
      refine cj_if_eq C 54 dX0_changeSetting_39 rfl hf (fun hf => ?_) (fun hf => ?_)
      · refine cj_ldc C cjq_357 dX0_changeSetting_54 ?_
        cases hf
        exact cj_iret C rfl dX0_changeSetting_56
      · refine cj_aload_n C dX0_changeSetting_42 rfl 0 rfl ?_
        refine cj_getS (v := .int (s0 0 4)) (j := 4) C (eC_0 (z := z) (ad := ad) hg) rfl rfl cj_in0 (by decide) rfl cjq_172 rfl dX0_changeSetting_43 ?_
        refine cj_istore_n (lv' := [(3, .int (s0 0 4)), (0, .ref (ad g 0)), (1, .int a1), (2, .int a2)]) C dX0_changeSetting_46 rfl (by decide) rfl ?_
        refine cj_aload_n C dX0_changeSetting_47 rfl 1 rfl ?_
        refine cj_iload_n C dX0_changeSetting_48 rfl 3 rfl ?_
        refine cj_putS (j := 4) C (eC_0 (z := z) (ad := ad) hg) rfl rfl rfl rfl cj_in0 tyX0_ok nmX0 (by decide) rfl cjq_172 rfl rfl rfl (Nat.le_of_ble_eq_true rfl) dX0_changeSetting_49 ?_
        refine cj_ltS hf (fun s4 hf => ?_)
        refine cj_iload_n C dX0_changeSetting_52 rfl 0 rfl ?_
        cases hf
        exact cj_iret C rfl dX0_changeSetting_53
  · refine cj_if_ne C 27 dX0_changeSetting_1 rfl hf (fun hf => ?_) (fun hf => ?_)
    · exact hK1 () hf
    · refine cj_iload_n C dX0_changeSetting_4 rfl 2 rfl ?_
      refine cj_iconst C 1 dX0_changeSetting_5 rfl ?_
      refine cj_sipush C 200 dX0_changeSetting_6 rfl ?_
      obtain ⟨x6, h5, hf⟩ := cj_bd_s hf
      refine cj_cN3i C cw_X8_isWithin (ct_X8_isWithin hI h5) cjq_355 cjn_X0_64 ⟨Nat.le_of_ble_eq_true rfl, Nat.le_of_ble_eq_true rfl⟩ (Nat.le_of_ble_eq_true rfl) dX0_changeSetting_9 ?_
      refine cj_if_eq C 27 dX0_changeSetting_12 rfl hf (fun hf => ?_) (fun hf => ?_)
      · exact hK1 () hf
      · refine cj_aload_n C dX0_changeSetting_15 rfl 0 rfl ?_
        refine cj_getS (v := .int (s0 0 3)) (j := 3) C (eC_0 (z := z) (ad := ad) hg) rfl rfl cj_in0 (by decide) rfl cjq_171 rfl dX0_changeSetting_16 ?_
        refine cj_istore_n (lv' := [(3, .int (s0 0 3)), (0, .ref (ad g 0)), (1, .int a1), (2, .int a2)]) C dX0_changeSetting_19 rfl (by decide) rfl ?_
        refine cj_aload_n C dX0_changeSetting_20 rfl 1 rfl ?_
        refine cj_iload_n C dX0_changeSetting_21 rfl 3 rfl ?_
        refine cj_putS (j := 3) C (eC_0 (z := z) (ad := ad) hg) rfl rfl rfl rfl cj_in0 tyX0_ok nmX0 (by decide) rfl cjq_171 rfl rfl rfl (Nat.le_of_ble_eq_true rfl) dX0_changeSetting_22 ?_
        refine cj_ltS hf (fun s7 hf => ?_)
        refine cj_iload_n C dX0_changeSetting_25 rfl 0 rfl ?_
        cases hf
        exact cj_iret C rfl dX0_changeSetting_26
set_option maxHeartbeats 4000000 in
set_option maxRecDepth 100000 in
theorem ct_X0_perform {l : Launch} {D : va_G} {z : cj_Zc} {ad : cj_Ad} (hI : cj_Ij (cj_EL z) ad) {μ : cj_Mm} {g : Nat} (hg : cj_isC g) {s0 : cj_S} {a1 : Int32} {a2 : Int32} {a3 : Int32} {r : Int32} {r2 : cj_S} (hf : f_X0_perform s0 a1 a2 a3 = some (r, r2)) : cj_Ct l (cj_YL D z ad) yX0_perform cX0_perform 4 (some .int) 4 [.ref (ad g 0), .int a1, .int a2, .int a3] (cj_upG μ g s0) (some (.int r)) (cj_upG μ g r2) := by
  refine cj_Ct.of (by decide +kernel) hI (Nat.le_of_ble_eq_true rfl) [(0, .ref (ad g 0)), (1, .int a1), (2, .int a2), (3, .int a3)] rfl (fun X hX C => ?_)
  subst hX
  have C : cj_C (cj_YL D z ad) X cX0_perform 4 RX0 4 (some .int) := C
  unfold f_X0_perform at hf
  generalize hr2 : (r, r2) = r3 at hf
  obtain ⟨e1, e2⟩ : r = r3.1 ∧ r2 = r3.2 := by rw [← hr2]; exact ⟨rfl, rfl⟩
  rw [e1, e2]
  clear e1 e2 hr2
  obtain ⟨r, hr⟩ : ∃ r, r = r3 := ⟨_, rfl⟩
  rw [← hr] at hf ⊢
  clear hr
  refine cj_iload_n C dX0_perform_0 rfl 1 rfl ?_
  refine cj_by hf (fun e4 hf => ?_) (fun e4 hf => ?_)
  · refine cj_lkI (off := 65) C 66 e4 dX0_perform_1 (by decide +kernel) (by decide +kernel) rfl ?_
    refine cj_aload_n C dX0_perform_66 rfl 0 rfl ?_
    refine cj_iload_n C dX0_perform_67 rfl 2 rfl ?_
    obtain ⟨x2, s3, h1, hf⟩ := cj_bp_s hf
    refine cj_cV1i C cw_X0_beginSheet (ct_X0_beginSheet hI hg h1) cjq_416 cjq_417 cjq_704 (eC_0 (z := z) (ad := ad) hg) rfl rfl ⟨Nat.le_of_ble_eq_true rfl, Nat.le_of_ble_eq_true rfl⟩ (Nat.le_of_ble_eq_true rfl) dX0_perform_68 ?_
    cases hf
    exact cj_iret C rfl dX0_perform_71
  refine cj_by hf (fun e8 hf => ?_) (fun e8 hf => ?_)
  · refine cj_lkI (off := 71) C 72 e8 dX0_perform_1 (by decide +kernel) (by decide +kernel) rfl ?_
    refine cj_aload_n C dX0_perform_72 rfl 0 rfl ?_
    refine cj_iload_n C dX0_perform_73 rfl 2 rfl ?_
    refine cj_iload_n C dX0_perform_74 rfl 3 rfl ?_
    obtain ⟨x6, s7, h5, hf⟩ := cj_bp_s hf
    refine cj_cV2i C cw_X0_drawFeature (ct_X0_drawFeature hI hg h5) cjq_428 cjq_429 cjq_705 (eC_0 (z := z) (ad := ad) hg) rfl rfl ⟨Nat.le_of_ble_eq_true rfl, Nat.le_of_ble_eq_true rfl⟩ (Nat.le_of_ble_eq_true rfl) dX0_perform_75 ?_
    cases hf
    exact cj_iret C rfl dX0_perform_78
  refine cj_by hf (fun e12 hf => ?_) (fun e12 hf => ?_)
  · refine cj_lkI (off := 59) C 60 e12 dX0_perform_1 (by decide +kernel) (by decide +kernel) rfl ?_
    refine cj_aload_n C dX0_perform_60 rfl 0 rfl ?_
    refine cj_iload_n C dX0_perform_61 rfl 2 rfl ?_
    obtain ⟨x10, s11, h9, hf⟩ := cj_bp_s hf
    refine cj_cV1i C cw_X0_lookAt (ct_X0_lookAt hI hg h9) cjq_408 cjq_409 cjq_703 (eC_0 (z := z) (ad := ad) hg) rfl rfl ⟨Nat.le_of_ble_eq_true rfl, Nat.le_of_ble_eq_true rfl⟩ (Nat.le_of_ble_eq_true rfl) dX0_perform_62 ?_
    cases hf
    exact cj_iret C rfl dX0_perform_65
  refine cj_by hf (fun e16 hf => ?_) (fun e16 hf => ?_)
  · refine cj_lkI (off := 91) C 92 e16 dX0_perform_1 (by decide +kernel) (by decide +kernel) rfl ?_
    refine cj_aload_n C dX0_perform_92 rfl 0 rfl ?_
    refine cj_iload_n C dX0_perform_93 rfl 2 rfl ?_
    obtain ⟨x14, s15, h13, hf⟩ := cj_bp_s hf
    refine cj_cV1i C cw_X0_passMinutes (ct_X0_passMinutes hI hg h13) cjq_537 cjq_538 cjq_708 (eC_0 (z := z) (ad := ad) hg) rfl rfl ⟨Nat.le_of_ble_eq_true rfl, Nat.le_of_ble_eq_true rfl⟩ (Nat.le_of_ble_eq_true rfl) dX0_perform_94 ?_
    cases hf
    exact cj_iret C rfl dX0_perform_97
  refine cj_by hf (fun e20 hf => ?_) (fun e20 hf => ?_)
  · refine cj_lkI (off := 84) C 85 e20 dX0_perform_1 (by decide +kernel) (by decide +kernel) rfl ?_
    refine cj_aload_n C dX0_perform_85 rfl 0 rfl ?_
    refine cj_iload_n C dX0_perform_86 rfl 2 rfl ?_
    refine cj_iload_n C dX0_perform_87 rfl 3 rfl ?_
    obtain ⟨x18, s19, h17, hf⟩ := cj_bp_s hf
    refine cj_cV2i C cw_X0_sellSheet (ct_X0_sellSheet hI hg h17) cjq_496 cjq_497 cjq_707 (eC_0 (z := z) (ad := ad) hg) rfl rfl ⟨Nat.le_of_ble_eq_true rfl, Nat.le_of_ble_eq_true rfl⟩ (Nat.le_of_ble_eq_true rfl) dX0_perform_88 ?_
    cases hf
    exact cj_iret C rfl dX0_perform_91
  refine cj_by hf (fun e24 hf => ?_) (fun e24 hf => ?_)
  · refine cj_lkI (off := 78) C 79 e24 dX0_perform_1 (by decide +kernel) (by decide +kernel) rfl ?_
    refine cj_aload_n C dX0_perform_79 rfl 0 rfl ?_
    refine cj_iload_n C dX0_perform_80 rfl 2 rfl ?_
    obtain ⟨x22, s23, h21, hf⟩ := cj_bp_s hf
    refine cj_cV1i C cw_X0_tellVerdict (ct_X0_tellVerdict hI hg h21) cjq_476 cjq_477 cjq_706 (eC_0 (z := z) (ad := ad) hg) rfl rfl ⟨Nat.le_of_ble_eq_true rfl, Nat.le_of_ble_eq_true rfl⟩ (Nat.le_of_ble_eq_true rfl) dX0_perform_81 ?_
    cases hf
    exact cj_iret C rfl dX0_perform_84
  refine cj_lkD C 98 [98, 100, 108, 109, 115, 118] (List.forall_mem_cons.mpr ⟨e4, List.forall_mem_cons.mpr ⟨e8, List.forall_mem_cons.mpr ⟨e12, List.forall_mem_cons.mpr ⟨e16, List.forall_mem_cons.mpr ⟨e20, List.forall_mem_cons.mpr ⟨e24, fun _ h => absurd h List.not_mem_nil⟩⟩⟩⟩⟩⟩) dX0_perform_1 (by decide +kernel) (by decide +kernel) rfl ?_
  refine cj_ldc C cjq_357 dX0_perform_98 ?_
  cases hf
  exact cj_iret C rfl dX0_perform_100
set_option maxHeartbeats 4000000 in
set_option maxRecDepth 100000 in
theorem tl_X0_findBestSale_L20 {D : va_G} {z : cj_Zc} {ad : cj_Ad} (hI : cj_Ij (cj_EL z) ad) {g : Nat} (hg : cj_isC g) {y5 : Int32} {X : cj_X} (C : cj_C (cj_YL D z ad) X cX0_findBestSale 5 RX0 3 (some .boolean)) {r : Int32 × cj_Mm} {K : cj_Mm → Option (Int32 × cj_Mm)} (hK : ∀ (s8 : cj_Mm), K s8 = some r → cj_G (cj_YL D z ad) X (some (.int r.1), r.2) (s8) 87 [(0, .ref (ad g 0)), (1, .ref (ad 4 0)), (2, .int y5)] []) : ∀ (n : Nat) (x6 : Int32) (s7 : cj_Mm), f_X0_findBestSale_L20 K g y5 n x6 s7 = some r → cj_G (cj_YL D z ad) X (some (.int r.1), r.2) (s7) 20 [(0, .ref (ad g 0)), (1, .ref (ad 4 0)), (2, .int y5), (3, .int x6)] [] := by
  intro n
  induction n with
  | zero =>
    intro x6 s7 hf
    rw [f_X0_findBestSale_L20] at hf
    cases hf
  | succ n ih =>
    intro x6 s7 hf
    rw [f_X0_findBestSale_L20] at hf
    refine cj_iload_n C dX0_findBestSale_20 rfl 3 rfl ?_
    refine cj_aload_n C dX0_findBestSale_21 rfl 0 rfl ?_
    refine cj_get (v := .ref (ad g 14)) (j := 2) C (eC_0 (z := z) (ad := ad) hg) rfl rfl cj_in0 (by decide) rfl cjq_169 rfl dX0_findBestSale_22 ?_
    refine cj_get (v := .int (s7 g 14 0)) (j := 0) C (eC_14 (z := z) (ad := ad) hg) rfl rfl cj_in2 (by decide) rfl cjq_139 rfl dX0_findBestSale_25 ?_
    refine cj_ic_ge C 87 dX0_findBestSale_28 rfl hf (fun hf => ?_) (fun hf => ?_)
    · refine cj_sub [0, 1, 2] rfl ?_
      exact hK s7 hf
    · refine cj_aload_n C dX0_findBestSale_31 rfl 0 rfl ?_
      refine cj_iload_n C dX0_findBestSale_32 rfl 2 rfl ?_
      refine cj_iload_n C dX0_findBestSale_33 rfl 3 rfl ?_
      obtain ⟨x10, h9, hf⟩ := cj_bd_s hf
      refine cj_at g ?_
      refine cj_cV2i C cw_X0_priceAt (ct_X0_priceAt hI hg h9) cjq_520 cjq_521 cjq_519 (eC_0 (z := z) (ad := ad) hg) rfl rfl ⟨Nat.le_of_ble_eq_true rfl, Nat.le_of_ble_eq_true rfl⟩ (Nat.le_of_ble_eq_true rfl) dX0_findBestSale_34 ?_
      refine cj_ta ?_
      refine cj_istore (lv' := [(4, .int x10), (0, .ref (ad g 0)), (1, .ref (ad 4 0)), (2, .int y5), (3, .int x6)]) C dX0_findBestSale_37 (by decide) rfl ?_
      refine cj_iload C dX0_findBestSale_39 0 rfl ?_
      refine cj_aload_n C dX0_findBestSale_41 rfl 2 rfl ?_
      refine cj_get (v := .int (s7 4 0 2)) (j := 2) C (e4_0 (z := z) (ad := ad)) rfl rfl cj_in5 (by decide) rfl cjq_287 rfl dX0_findBestSale_42 ?_
      refine cj_ic_le C 81 dX0_findBestSale_45 rfl hf (fun hf => ?_) (fun hf => ?_)
      · refine cj_iinc (lv' := [(3, .int (x6 + 1)), (4, .int x10), (0, .ref (ad g 0)), (1, .ref (ad 4 0)), (2, .int y5)]) C dX0_findBestSale_81 (j := 4) rfl rfl (by decide) rfl ?_
        refine cj_goto C 20 dX0_findBestSale_84 rfl ?_
        refine cj_sub [2, 3, 4, 0] rfl ?_
        exact ih (x6 + 1) s7 hf
      · refine cj_aload_n C dX0_findBestSale_48 rfl 1 rfl ?_
        refine cj_iload_n C dX0_findBestSale_49 rfl 3 rfl ?_
        refine cj_iload_n C dX0_findBestSale_50 rfl 4 rfl ?_
        obtain ⟨x12, h11, hf⟩ := cj_bd_s hf
        refine cj_at g ?_
        refine cj_cV2i C cw_X0_canSell (ct_X0_canSell hI hg h11) cjq_504 cjq_505 cjq_503 (eC_0 (z := z) (ad := ad) hg) rfl rfl ⟨Nat.le_of_ble_eq_true rfl, Nat.le_of_ble_eq_true rfl⟩ (Nat.le_of_ble_eq_true rfl) dX0_findBestSale_51 ?_
        refine cj_ta ?_
        refine cj_if_eq C 81 dX0_findBestSale_54 rfl hf (fun hf => ?_) (fun hf => ?_)
        · refine cj_iinc (lv' := [(3, .int (x6 + 1)), (4, .int x10), (0, .ref (ad g 0)), (1, .ref (ad 4 0)), (2, .int y5)]) C dX0_findBestSale_81 (j := 4) rfl rfl (by decide) rfl ?_
          refine cj_goto C 20 dX0_findBestSale_84 rfl ?_
          refine cj_sub [2, 3, 4, 0] rfl ?_
          exact ih (x6 + 1) s7 hf
        · refine cj_aload_n C dX0_findBestSale_57 rfl 2 rfl ?_
          refine cj_aload_n C dX0_findBestSale_58 rfl 1 rfl ?_
          refine cj_get (v := .ref (ad g 9)) (j := 1) C (eC_0 (z := z) (ad := ad) hg) rfl rfl cj_in0 (by decide) rfl cjq_167 rfl dX0_findBestSale_59 ?_
          refine cj_get (v := .ref (ad g 10)) (j := 2) C (eC_9 (z := z) (ad := ad) hg) rfl rfl cj_in6 (by decide) rfl cjq_111 rfl dX0_findBestSale_62 ?_
          refine cj_iload_n C dX0_findBestSale_65 rfl 3 rfl ?_
          refine cj_iald C (eC_10 (z := z) (ad := ad) hg) dX0_findBestSale_66 hf (fun hf => ?_)
          refine cj_put (j := 0) C (e4_0 (z := z) (ad := ad)) rfl rfl rfl rfl cj_in5 tyX5_ok nmX5 (by decide) rfl cjq_283 rfl rfl rfl (Nat.le_of_ble_eq_true rfl) dX0_findBestSale_67 ?_
          refine cj_ltM hf (fun s13 hf => ?_)
          refine cj_aload_n C dX0_findBestSale_70 rfl 2 rfl ?_
          refine cj_iload_n C dX0_findBestSale_71 rfl 4 rfl ?_
          refine cj_put (j := 1) C (e4_0 (z := z) (ad := ad)) rfl rfl rfl rfl cj_in5 tyX5_ok nmX5 (by decide) rfl cjq_285 rfl rfl rfl (Nat.le_of_ble_eq_true rfl) dX0_findBestSale_72 ?_
          refine cj_ltM hf (fun s14 hf => ?_)
          refine cj_aload_n C dX0_findBestSale_75 rfl 2 rfl ?_
          refine cj_iload C dX0_findBestSale_76 0 rfl ?_
          refine cj_put (j := 2) C (e4_0 (z := z) (ad := ad)) rfl rfl rfl rfl cj_in5 tyX5_ok nmX5 (by decide) rfl cjq_287 rfl rfl rfl (Nat.le_of_ble_eq_true rfl) dX0_findBestSale_78 ?_
          refine cj_ltM hf (fun s15 hf => ?_)
          refine cj_iinc (lv' := [(3, .int (x6 + 1)), (4, .int x10), (0, .ref (ad g 0)), (1, .ref (ad 4 0)), (2, .int y5)]) C dX0_findBestSale_81 (j := 4) rfl rfl (by decide) rfl ?_
          refine cj_goto C 20 dX0_findBestSale_84 rfl ?_
          refine cj_sub [2, 3, 4, 0] rfl ?_
          exact ih (x6 + 1) s15 hf
set_option maxHeartbeats 4000000 in
set_option maxRecDepth 100000 in
theorem tl_X0_findBestSale_L7 {D : va_G} {z : cj_Zc} {ad : cj_Ad} (hI : cj_Ij (cj_EL z) ad) {g : Nat} (hg : cj_isC g)  {X : cj_X} (C : cj_C (cj_YL D z ad) X cX0_findBestSale 5 RX0 3 (some .boolean)) {r : Int32 × cj_Mm} {K : cj_Mm → Option (Int32 × cj_Mm)} (hK : ∀ (s4 : cj_Mm), K s4 = some r → cj_G (cj_YL D z ad) X (some (.int r.1), r.2) (s4) 93 [(1, .ref (ad 4 0))] []) : ∀ (n : Nat) (x2 : Int32) (s3 : cj_Mm), f_X0_findBestSale_L7 K g n x2 s3 = some r → cj_G (cj_YL D z ad) X (some (.int r.1), r.2) (s3) 7 [(0, .ref (ad g 0)), (1, .ref (ad 4 0)), (2, .int x2)] [] := by
  intro n
  induction n with
  | zero =>
    intro x2 s3 hf
    rw [f_X0_findBestSale_L7] at hf
    cases hf
  | succ n ih =>
    intro x2 s3 hf
    rw [f_X0_findBestSale_L7] at hf
    refine cj_iload_n C dX0_findBestSale_7 rfl 2 rfl ?_
    refine cj_aload_n C dX0_findBestSale_8 rfl 0 rfl ?_
    refine cj_get (v := .ref (ad g 9)) (j := 1) C (eC_0 (z := z) (ad := ad) hg) rfl rfl cj_in0 (by decide) rfl cjq_167 rfl dX0_findBestSale_9 ?_
    refine cj_get (v := .int (s3 g 9 0)) (j := 0) C (eC_9 (z := z) (ad := ad) hg) rfl rfl cj_in6 (by decide) rfl cjq_106 rfl dX0_findBestSale_12 ?_
    refine cj_ic_ge C 93 dX0_findBestSale_15 rfl hf (fun hf => ?_) (fun hf => ?_)
    · refine cj_sub [1] rfl ?_
      exact hK s3 hf
    · refine cj_iconst C 0 dX0_findBestSale_18 rfl ?_
      refine cj_istore_n (lv' := [(3, .int 0), (0, .ref (ad g 0)), (1, .ref (ad 4 0)), (2, .int x2)]) C dX0_findBestSale_19 rfl (by decide) rfl ?_
      refine cj_sub [1, 2, 3, 0] rfl ?_
      refine tl_X0_findBestSale_L20 hI hg C (fun s16 hf => ?_) cj_FU 0 s3 hf
      refine cj_iinc (lv' := [(2, .int (x2 + 1)), (0, .ref (ad g 0)), (1, .ref (ad 4 0))]) C dX0_findBestSale_87 (j := 2) rfl rfl (by decide) rfl ?_
      refine cj_goto C 7 dX0_findBestSale_90 rfl ?_
      refine cj_sub [1, 2, 0] rfl ?_
      exact ih (x2 + 1) s16 hf
set_option maxHeartbeats 4000000 in
set_option maxRecDepth 100000 in
theorem ct_X0_findBestSale {l : Launch} {D : va_G} {z : cj_Zc} {ad : cj_Ad} (hI : cj_Ij (cj_EL z) ad) {g : Nat} (hg : cj_isC g) {m0 : cj_Mm} {r : Int32} {r2 : cj_Mm} (hf : f_X0_findBestSale g m0 = some (r, r2)) : cj_Ct l (cj_YL D z ad) yX0_findBestSale cX0_findBestSale 5 (some .boolean) 3 [.ref (ad g 0), .ref (ad 4 0)] (m0) (some (.int r)) (r2) := by
  refine cj_Ct.of (by decide +kernel) hI (Nat.le_of_ble_eq_true rfl) [(0, .ref (ad g 0)), (1, .ref (ad 4 0))] rfl (fun X hX C => ?_)
  subst hX
  have C : cj_C (cj_YL D z ad) X cX0_findBestSale 5 RX0 3 (some .boolean) := C
  unfold f_X0_findBestSale at hf
  generalize hr2 : (r, r2) = r3 at hf
  obtain ⟨e1, e2⟩ : r = r3.1 ∧ r2 = r3.2 := by rw [← hr2]; exact ⟨rfl, rfl⟩
  rw [e1, e2]
  clear e1 e2 hr2
  obtain ⟨r, hr⟩ : ∃ r, r = r3 := ⟨_, rfl⟩
  rw [← hr] at hf ⊢
  clear hr
  refine cj_aload_n C dX0_findBestSale_0 rfl 1 rfl ?_
  refine cj_iconst C (-1) dX0_findBestSale_1 rfl ?_
  refine cj_put (j := 2) C (e4_0 (z := z) (ad := ad)) rfl rfl rfl rfl cj_in5 tyX5_ok nmX5 (by decide) rfl cjq_287 rfl rfl rfl (Nat.le_of_ble_eq_true rfl) dX0_findBestSale_2 ?_
  refine cj_ltM hf (fun s1 hf => ?_)
  refine cj_iconst C 0 dX0_findBestSale_5 rfl ?_
  refine cj_istore_n (lv' := [(2, .int 0), (0, .ref (ad g 0)), (1, .ref (ad 4 0))]) C dX0_findBestSale_6 rfl (by decide) rfl ?_
  refine cj_sub [1, 2, 0] rfl ?_
  refine tl_X0_findBestSale_L7 hI hg C (fun s17 hf => ?_) cj_FU 0 s1 hf
  refine cj_aload_n C dX0_findBestSale_93 rfl 0 rfl ?_
  refine cj_get (v := .int (s17 4 0 2)) (j := 2) C (e4_0 (z := z) (ad := ad)) rfl rfl cj_in5 (by decide) rfl cjq_287 rfl dX0_findBestSale_94 ?_
  refine cj_iconst C (-1) dX0_findBestSale_97 rfl ?_
  refine cj_ic_eq C 105 dX0_findBestSale_98 rfl hf (fun hf => ?_) (fun hf => ?_)
  · refine cj_iconst C 0 dX0_findBestSale_105 rfl ?_
    cases hf
    exact cj_zret C rfl rfl rfl dX0_findBestSale_106
  · refine cj_iconst C 1 dX0_findBestSale_101 rfl ?_
    refine cj_goto C 106 dX0_findBestSale_102 rfl ?_
    cases hf
    exact cj_zret C rfl rfl rfl dX0_findBestSale_106
