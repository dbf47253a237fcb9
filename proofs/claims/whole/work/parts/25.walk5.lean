set_option maxHeartbeats 4000000 in
set_option maxRecDepth 100000 in
theorem tl_X9_takesOut_L17 {D : va_G} {z : cj_Zc} {ad : cj_Ad} (hI : cj_Ij (cj_EM z) ad) {μ : cj_Mm}  {X : cj_X} (C : cj_C (cj_YM D z ad) X cX9_takesOut 3 RX9 0 none) {r : cj_S} : ∀ (n : Nat) (x2 : Int32) (s3 : cj_S), f_X9_takesOut_L17 n x2 s3 = some r → cj_G (cj_YM D z ad) X (none, cj_upG μ 0 r) (cj_upG μ 0 s3) 17 [(0, .ref (ad 0 0)), (2, .int x2)] [] := by
  intro n
  induction n with
  | zero =>
    intro x2 s3 hf
    rw [f_X9_takesOut_L17] at hf
    cases hf
  | succ n ih =>
    intro x2 s3 hf
    rw [f_X9_takesOut_L17] at hf
    refine cj_iload_n C dX9_takesOut_17 rfl 1 rfl ?_
    refine cj_bipush C 119 dX9_takesOut_18 rfl ?_
    refine cj_iconst C 4 dX9_takesOut_20 rfl ?_
    refine cj_aload_n C dX9_takesOut_21 rfl 0 rfl ?_
    refine cj_getS (v := .ref (ad 0 1)) (j := 0) C (eM_0 (z := z) (ad := ad)) rfl rfl cj_in9 (by decide) rfl cjq_720 rfl dX9_takesOut_22 ?_
    refine cj_iconst C 2 dX9_takesOut_25 rfl ?_
    refine cj_ialdKS (j := 2) C (eM_1 (z := z) (ad := ad)) rfl (by decide) dX9_takesOut_26 ?_
    refine cj_imul C dX9_takesOut_27 ?_
    refine cj_iadd C dX9_takesOut_28 ?_
    refine cj_ic_ge C 52 dX9_takesOut_29 rfl hf (fun hf => ?_) (fun hf => ?_)
    · cases hf
      exact cj_vret C rfl dX9_takesOut_52
    · refine cj_aload_n C dX9_takesOut_32 rfl 0 rfl ?_
      refine cj_getS (v := .ref (ad 0 1)) (j := 0) C (eM_0 (z := z) (ad := ad)) rfl rfl cj_in9 (by decide) rfl cjq_720 rfl dX9_takesOut_33 ?_
      refine cj_iload_n C dX9_takesOut_36 rfl 1 rfl ?_
      refine cj_aload_n C dX9_takesOut_37 rfl 0 rfl ?_
      refine cj_getS (v := .ref (ad 0 1)) (j := 0) C (eM_0 (z := z) (ad := ad)) rfl rfl cj_in9 (by decide) rfl cjq_720 rfl dX9_takesOut_38 ?_
      refine cj_iload_n C dX9_takesOut_41 rfl 1 rfl ?_
      refine cj_iconst C 4 dX9_takesOut_42 rfl ?_
      refine cj_iadd C dX9_takesOut_43 ?_
      refine cj_ialdS C (eM_1 (z := z) (ad := ad)) dX9_takesOut_44 hf (fun hf => ?_)
      refine cj_iastS C (eM_1 (z := z) (ad := ad)) dX9_takesOut_45 hf (fun hf => ?_)
      refine cj_ltS hf (fun s4 hf => ?_)
      refine cj_iinc (lv' := [(2, .int (x2 + 1)), (0, .ref (ad 0 0))]) C dX9_takesOut_46 (j := 1) rfl rfl (by decide) rfl ?_
      refine cj_goto C 17 dX9_takesOut_49 rfl ?_
      refine cj_sub [1, 0] rfl ?_
      exact ih (x2 + 1) s4 hf
set_option maxHeartbeats 4000000 in
set_option maxRecDepth 100000 in
theorem ct_X9_takesOut {l : Launch} {D : va_G} {z : cj_Zc} {ad : cj_Ad} (hI : cj_Ij (cj_EM z) ad) {μ : cj_Mm} {s0 : cj_S} {a1 : Int32} {r : cj_S} (hf : f_X9_takesOut s0 a1 = some r) : cj_Ct l (cj_YM D z ad) yX9_takesOut cX9_takesOut 3 none 0 [.ref (ad 0 0), .int a1] (cj_upG μ 0 s0) none (cj_upG μ 0 r) := by
  refine cj_Ct.of (by decide +kernel) hI (Nat.le_of_ble_eq_true rfl) [(0, .ref (ad 0 0)), (1, .int a1)] rfl (fun X hX C => ?_)
  subst hX
  have C : cj_C (cj_YM D z ad) X cX9_takesOut 3 RX9 0 none := C
  unfold f_X9_takesOut at hf
  refine cj_aload_n C dX9_takesOut_0 rfl 0 rfl ?_
  refine cj_getS (v := .ref (ad 0 1)) (j := 0) C (eM_0 (z := z) (ad := ad)) rfl rfl cj_in9 (by decide) rfl cjq_720 rfl dX9_takesOut_1 ?_
  refine cj_iconst C 2 dX9_takesOut_4 rfl ?_
  refine cj_dup2 C dX9_takesOut_5 rfl rfl ?_
  refine cj_ialdKS (j := 2) C (eM_1 (z := z) (ad := ad)) rfl (by decide) dX9_takesOut_6 ?_
  refine cj_iconst C 1 dX9_takesOut_7 rfl ?_
  refine cj_isub C dX9_takesOut_8 ?_
  refine cj_iastKS (j := 2) C (eM_1 (z := z) (ad := ad)) rfl (by decide) dX9_takesOut_9 ?_
  refine cj_ltS hf (fun s1 hf => ?_)
  refine cj_bipush C 119 dX9_takesOut_10 rfl ?_
  refine cj_iconst C 4 dX9_takesOut_12 rfl ?_
  refine cj_iload_n C dX9_takesOut_13 rfl 1 rfl ?_
  refine cj_imul C dX9_takesOut_14 ?_
  refine cj_iadd C dX9_takesOut_15 ?_
  refine cj_istore_n (lv' := [(2, .int (119 + (4 * a1))), (0, .ref (ad 0 0)), (1, .int a1)]) C dX9_takesOut_16 rfl (by decide) rfl ?_
  refine cj_sub [1, 0] rfl ?_
  exact tl_X9_takesOut_L17 hI C cj_FU (119 + (4 * a1)) s1 hf
set_option maxHeartbeats 4000000 in
set_option maxRecDepth 100000 in
theorem ct_X9_tear {l : Launch} {D : va_G} {z : cj_Zc} {ad : cj_Ad} (hI : cj_Ij (cj_EM z) ad) {μ : cj_Mm} {s0 : cj_S} {a1 : Int32} {r : Int32} {r2 : cj_S} (hf : f_X9_tear s0 a1 = some (r, r2)) : cj_Ct l (cj_YM D z ad) yX9_tear cX9_tear 3 (some .int) 2 [.ref (ad 0 0), .int a1] (cj_upG μ 0 s0) (some (.int r)) (cj_upG μ 0 r2) := by
  refine cj_Ct.of (by decide +kernel) hI (Nat.le_of_ble_eq_true rfl) [(0, .ref (ad 0 0)), (1, .int a1)] rfl (fun X hX C => ?_)
  subst hX
  have C : cj_C (cj_YM D z ad) X cX9_tear 3 RX9 2 (some .int) := C
  unfold f_X9_tear at hf
  generalize hr2 : (r, r2) = r3 at hf
  obtain ⟨e1, e2⟩ : r = r3.1 ∧ r2 = r3.2 := by rw [← hr2]; exact ⟨rfl, rfl⟩
  rw [e1, e2]
  clear e1 e2 hr2
  obtain ⟨r, hr⟩ : ∃ r, r = r3 := ⟨_, rfl⟩
  rw [← hr] at hf ⊢
  clear hr
  refine cj_aload_n C dX9_tear_0 rfl 0 rfl ?_
  refine cj_iload_n C dX9_tear_1 rfl 1 rfl ?_
  obtain ⟨x2, h1, hf⟩ := cj_bd_s hf
  refine cj_cV1i C cw_X9_slot (ct_X9_slot hI h1) cjq_826 cjq_7 cjq_824 (eM_0 (z := z) (ad := ad)) rfl rfl ⟨Nat.le_of_ble_eq_true rfl, Nat.le_of_ble_eq_true rfl⟩ (Nat.le_of_ble_eq_true rfl) dX9_tear_2 ?_
  refine cj_istore_n (lv' := [(2, .int x2), (0, .ref (ad 0 0)), (1, .int a1)]) C dX9_tear_5 rfl (by decide) rfl ?_
  refine cj_iload_n C dX9_tear_6 rfl 0 rfl ?_
  refine cj_if_ge C 13 dX9_tear_7 rfl hf (fun hf => ?_) (fun hf => ?_)
  · refine cj_aload_n C dX9_tear_13 rfl 1 rfl ?_
    obtain ⟨s4, h3, hf⟩ := cj_bd_s hf
    refine cj_cV0v C cw_X9_changes (ct_X9_changes hI h3) cjq_782 cjq_1 cjq_780 (eM_0 (z := z) (ad := ad)) rfl rfl ⟨Nat.le_of_ble_eq_true rfl, Nat.le_of_ble_eq_true rfl⟩ (Nat.le_of_ble_eq_true rfl) dX9_tear_14 ?_
    refine cj_aload_n C dX9_tear_17 rfl 1 rfl ?_
    refine cj_iload_n C dX9_tear_18 rfl 0 rfl ?_
    obtain ⟨s6, h5, hf⟩ := cj_bd_s hf
    refine cj_cV1v C cw_X9_takesOut (ct_X9_takesOut hI h5) cjq_850 cjq_11 cjq_848 (eM_0 (z := z) (ad := ad)) rfl rfl ⟨Nat.le_of_ble_eq_true rfl, Nat.le_of_ble_eq_true rfl⟩ (Nat.le_of_ble_eq_true rfl) dX9_tear_19 ?_
    refine cj_aload_n C dX9_tear_22 rfl 1 rfl ?_
    refine cj_getS (v := .ref (ad 0 1)) (j := 0) C (eM_0 (z := z) (ad := ad)) rfl rfl cj_in9 (by decide) rfl cjq_720 rfl dX9_tear_23 ?_
    refine cj_iconst C 2 dX9_tear_26 rfl ?_
    refine cj_ialdKS (j := 2) C (eM_1 (z := z) (ad := ad)) rfl (by decide) dX9_tear_27 ?_
    cases hf
    exact cj_iret C rfl dX9_tear_28
  · refine cj_ldc C cjq_773 dX9_tear_10 ?_
    cases hf
    exact cj_iret C rfl dX9_tear_12
set_option maxHeartbeats 4000000 in
set_option maxRecDepth 100000 in
theorem tl_X9_sheetsOf_L4 {D : va_G} {z : cj_Zc} {ad : cj_Ad} (hI : cj_Ij (cj_EM z) ad) {μ : cj_Mm} {y1 : Int32} {s4 : cj_S} {X : cj_X} (C : cj_C (cj_YM D z ad) X cX9_sheetsOf 4 RX9 1 (some .int)) {r : Int32} : ∀ (n : Nat) (x2 : Int32) (x3 : Int32), f_X9_sheetsOf_L4 y1 s4 n x2 x3 = some r → cj_G (cj_YM D z ad) X (some (.int r), cj_upG μ 0 s4) (cj_upG μ 0 s4) 4 [(0, .ref (ad 0 0)), (1, .int y1), (2, .int x2), (3, .int x3)] [] := by
  intro n
  induction n with
  | zero =>
    intro x2 x3 hf
    rw [f_X9_sheetsOf_L4] at hf
    cases hf
  | succ n ih =>
    intro x2 x3 hf
    rw [f_X9_sheetsOf_L4] at hf
    refine cj_iload_n C dX9_sheetsOf_4 rfl 3 rfl ?_
    refine cj_aload_n C dX9_sheetsOf_5 rfl 0 rfl ?_
    refine cj_getS (v := .ref (ad 0 1)) (j := 0) C (eM_0 (z := z) (ad := ad)) rfl rfl cj_in9 (by decide) rfl cjq_720 rfl dX9_sheetsOf_6 ?_
    refine cj_iconst C 2 dX9_sheetsOf_9 rfl ?_
    refine cj_ialdKS (j := 2) C (eM_1 (z := z) (ad := ad)) rfl (by decide) dX9_sheetsOf_10 ?_
    refine cj_ic_ge C 38 dX9_sheetsOf_11 rfl hf (fun hf => ?_) (fun hf => ?_)
    · refine cj_iload_n C dX9_sheetsOf_38 rfl 2 rfl ?_
      cases hf
      exact cj_iret C rfl dX9_sheetsOf_39
    · refine cj_iload_n C dX9_sheetsOf_14 rfl 2 rfl ?_
      refine cj_aload_n C dX9_sheetsOf_15 rfl 0 rfl ?_
      refine cj_iload_n C dX9_sheetsOf_16 rfl 3 rfl ?_
      refine cj_iconst C 1 dX9_sheetsOf_17 rfl ?_
      obtain ⟨x6, h5, hf⟩ := cj_bd_s hf
      refine cj_cV2i C cw_X9_ofSheet (ct_X9_ofSheet hI h5) cjq_830 cjq_8 cjq_828 (eM_0 (z := z) (ad := ad)) rfl rfl ⟨Nat.le_of_ble_eq_true rfl, Nat.le_of_ble_eq_true rfl⟩ (Nat.le_of_ble_eq_true rfl) dX9_sheetsOf_18 ?_
      refine cj_iload_n C dX9_sheetsOf_21 rfl 1 rfl ?_
      refine cj_ic_ne C 29 dX9_sheetsOf_22 rfl hf (fun hf => ?_) (fun hf => ?_)
      · refine cj_iconst C 0 dX9_sheetsOf_29 rfl ?_
        refine cj_iadd C dX9_sheetsOf_30 ?_
        refine cj_istore_n (lv' := [(2, .int (x2 + 0)), (0, .ref (ad 0 0)), (1, .int y1), (3, .int x3)]) C dX9_sheetsOf_31 rfl (by decide) rfl ?_
        refine cj_iinc (lv' := [(3, .int (x3 + 1)), (2, .int (x2 + 0)), (0, .ref (ad 0 0)), (1, .int y1)]) C dX9_sheetsOf_32 (j := 3) rfl rfl (by decide) rfl ?_
        refine cj_goto C 4 dX9_sheetsOf_35 rfl ?_
        refine cj_sub [2, 3, 1, 0] rfl ?_
        exact ih (x2 + 0) (x3 + 1) hf
      · refine cj_iconst C 1 dX9_sheetsOf_25 rfl ?_
        refine cj_goto C 30 dX9_sheetsOf_26 rfl ?_
        refine cj_iadd C dX9_sheetsOf_30 ?_
        refine cj_istore_n (lv' := [(2, .int (x2 + 1)), (0, .ref (ad 0 0)), (1, .int y1), (3, .int x3)]) C dX9_sheetsOf_31 rfl (by decide) rfl ?_
        refine cj_iinc (lv' := [(3, .int (x3 + 1)), (2, .int (x2 + 1)), (0, .ref (ad 0 0)), (1, .int y1)]) C dX9_sheetsOf_32 (j := 3) rfl rfl (by decide) rfl ?_
        refine cj_goto C 4 dX9_sheetsOf_35 rfl ?_
        refine cj_sub [2, 3, 1, 0] rfl ?_
        exact ih (x2 + 1) (x3 + 1) hf
set_option maxHeartbeats 4000000 in
set_option maxRecDepth 100000 in
theorem ct_X9_sheetsOf {l : Launch} {D : va_G} {z : cj_Zc} {ad : cj_Ad} (hI : cj_Ij (cj_EM z) ad) {μ : cj_Mm} {s0 : cj_S} {a1 : Int32} {r : Int32} (hf : f_X9_sheetsOf s0 a1 = some r) : cj_Ct l (cj_YM D z ad) yX9_sheetsOf cX9_sheetsOf 4 (some .int) 1 [.ref (ad 0 0), .int a1] (cj_upG μ 0 s0) (some (.int r)) (cj_upG μ 0 s0) := by
  refine cj_Ct.of (by decide +kernel) hI (Nat.le_of_ble_eq_true rfl) [(0, .ref (ad 0 0)), (1, .int a1)] rfl (fun X hX C => ?_)
  subst hX
  have C : cj_C (cj_YM D z ad) X cX9_sheetsOf 4 RX9 1 (some .int) := C
  unfold f_X9_sheetsOf at hf
  refine cj_iconst C 0 dX9_sheetsOf_0 rfl ?_
  refine cj_istore_n (lv' := [(2, .int 0), (0, .ref (ad 0 0)), (1, .int a1)]) C dX9_sheetsOf_1 rfl (by decide) rfl ?_
  refine cj_iconst C 0 dX9_sheetsOf_2 rfl ?_
  refine cj_istore_n (lv' := [(3, .int 0), (2, .int 0), (0, .ref (ad 0 0)), (1, .int a1)]) C dX9_sheetsOf_3 rfl (by decide) rfl ?_
  refine cj_sub [2, 3, 1, 0] rfl ?_
  exact tl_X9_sheetsOf_L4 hI C cj_FU 0 0 hf
set_option maxHeartbeats 4000000 in
set_option maxRecDepth 100000 in
theorem ct_X9_hasVerdict {l : Launch} {D : va_G} {z : cj_Zc} {ad : cj_Ad} (hI : cj_Ij (cj_EM z) ad) {μ : cj_Mm} {s0 : cj_S} {a1 : Int32} {r : Int32} (hf : f_X9_hasVerdict s0 a1 = some r) : cj_Ct l (cj_YM D z ad) yX9_hasVerdict cX9_hasVerdict 2 (some .boolean) 1 [.ref (ad 0 0), .int a1] (cj_upG μ 0 s0) (some (.int r)) (cj_upG μ 0 s0) := by
  refine cj_Ct.of (by decide +kernel) hI (Nat.le_of_ble_eq_true rfl) [(0, .ref (ad 0 0)), (1, .int a1)] rfl (fun X hX C => ?_)
  subst hX
  have C : cj_C (cj_YM D z ad) X cX9_hasVerdict 2 RX9 1 (some .boolean) := C
  unfold f_X9_hasVerdict at hf
  refine cj_aload_n C dX9_hasVerdict_0 rfl 0 rfl ?_
  refine cj_iload_n C dX9_hasVerdict_1 rfl 1 rfl ?_
  refine cj_iconst C 4 dX9_hasVerdict_2 rfl ?_
  obtain ⟨x2, h1, hf⟩ := cj_bd_s hf
  refine cj_cV2i C cw_X9_of (ct_X9_of hI h1) cjq_776 cjq_0 cjq_774 (eM_0 (z := z) (ad := ad)) rfl rfl ⟨Nat.le_of_ble_eq_true rfl, Nat.le_of_ble_eq_true rfl⟩ (Nat.le_of_ble_eq_true rfl) dX9_hasVerdict_3 ?_
  refine cj_aload_n C dX9_hasVerdict_6 rfl 0 rfl ?_
  obtain ⟨x4, h3, hf⟩ := cj_bd_s hf
  refine cj_cV0i C cw_X9_day (ct_X9_day hI h3) cjq_862 cjq_13 cjq_860 (eM_0 (z := z) (ad := ad)) rfl rfl ⟨Nat.le_of_ble_eq_true rfl, Nat.le_of_ble_eq_true rfl⟩ (Nat.le_of_ble_eq_true rfl) dX9_hasVerdict_7 ?_
  refine cj_ic_ne C 17 dX9_hasVerdict_10 rfl hf (fun hf => ?_) (fun hf => ?_)
  · refine cj_iconst C 0 dX9_hasVerdict_17 rfl ?_
    cases hf
    exact cj_zret C rfl rfl rfl dX9_hasVerdict_18
  · refine cj_iconst C 1 dX9_hasVerdict_13 rfl ?_
    refine cj_goto C 18 dX9_hasVerdict_14 rfl ?_
    cases hf
    exact cj_zret C rfl rfl rfl dX9_hasVerdict_18
set_option maxHeartbeats 4000000 in
set_option maxRecDepth 100000 in
theorem ct_X9_verdict {l : Launch} {D : va_G} {z : cj_Zc} {ad : cj_Ad} (hI : cj_Ij (cj_EM z) ad) {μ : cj_Mm} {s0 : cj_S} {a1 : Int32} {r : Int32} {r2 : cj_S} (hf : f_X9_verdict s0 a1 = some (r, r2)) : cj_Ct l (cj_YM D z ad) yX9_verdict cX9_verdict 2 (some .int) 2 [.ref (ad 0 0), .int a1] (cj_upG μ 0 s0) (some (.int r)) (cj_upG μ 0 r2) := by
  refine cj_Ct.of (by decide +kernel) hI (Nat.le_of_ble_eq_true rfl) [(0, .ref (ad 0 0)), (1, .int a1)] rfl (fun X hX C => ?_)
  subst hX
  have C : cj_C (cj_YM D z ad) X cX9_verdict 2 RX9 2 (some .int) := C
  unfold f_X9_verdict at hf
  generalize hr2 : (r, r2) = r3 at hf
  obtain ⟨e1, e2⟩ : r = r3.1 ∧ r2 = r3.2 := by rw [← hr2]; exact ⟨rfl, rfl⟩
  rw [e1, e2]
  clear e1 e2 hr2
  obtain ⟨r, hr⟩ : ∃ r, r = r3 := ⟨_, rfl⟩
  rw [← hr] at hf ⊢
  clear hr
  refine cj_aload_n C dX9_verdict_0 rfl 0 rfl ?_
  refine cj_iload_n C dX9_verdict_1 rfl 1 rfl ?_
  obtain ⟨x2, h1, hf⟩ := cj_bd_s hf
  refine cj_cV1i C cw_X9_isPerson (ct_X9_isPerson hI h1) cjq_794 cjq_3 cjq_792 (eM_0 (z := z) (ad := ad)) rfl rfl ⟨Nat.le_of_ble_eq_true rfl, Nat.le_of_ble_eq_true rfl⟩ (Nat.le_of_ble_eq_true rfl) dX9_verdict_2 ?_
  refine cj_if_ne C 11 dX9_verdict_5 rfl hf (fun hf => ?_) (fun hf => ?_)
  · refine cj_aload_n C dX9_verdict_11 rfl 0 rfl ?_
    refine cj_iload_n C dX9_verdict_12 rfl 1 rfl ?_
    obtain ⟨x4, h3, hf⟩ := cj_bd_s hf
    refine cj_cV1i C cw_X9_hasVerdict (ct_X9_hasVerdict hI h3) cjq_858 cjq_12 cjq_856 (eM_0 (z := z) (ad := ad)) rfl rfl ⟨Nat.le_of_ble_eq_true rfl, Nat.le_of_ble_eq_true rfl⟩ (Nat.le_of_ble_eq_true rfl) dX9_verdict_13 ?_
    refine cj_if_eq C 22 dX9_verdict_16 rfl hf (fun hf => ?_) (fun hf => ?_)
    · refine cj_aload_n C dX9_verdict_22 rfl 0 rfl ?_
      obtain ⟨s6, h5, hf⟩ := cj_bd_s hf
      refine cj_cV0v C cw_X9_changes (ct_X9_changes hI h5) cjq_782 cjq_1 cjq_780 (eM_0 (z := z) (ad := ad)) rfl rfl ⟨Nat.le_of_ble_eq_true rfl, Nat.le_of_ble_eq_true rfl⟩ (Nat.le_of_ble_eq_true rfl) dX9_verdict_23 ?_
      refine cj_aload_n C dX9_verdict_26 rfl 0 rfl ?_
      refine cj_iload_n C dX9_verdict_27 rfl 1 rfl ?_
      refine cj_iconst C 4 dX9_verdict_28 rfl ?_
      refine cj_aload_n C dX9_verdict_29 rfl 0 rfl ?_
      obtain ⟨x8, h7, hf⟩ := cj_bd_s hf
      refine cj_cV0i C cw_X9_day (ct_X9_day hI h7) cjq_862 cjq_13 cjq_860 (eM_0 (z := z) (ad := ad)) rfl rfl ⟨Nat.le_of_ble_eq_true rfl, Nat.le_of_ble_eq_true rfl⟩ (Nat.le_of_ble_eq_true rfl) dX9_verdict_30 ?_
      obtain ⟨s10, h9, hf⟩ := cj_bd_s hf
      refine cj_cV3v C cw_X9_sets (ct_X9_sets hI h9) cjq_786 cjq_2 cjq_784 (eM_0 (z := z) (ad := ad)) rfl rfl ⟨Nat.le_of_ble_eq_true rfl, Nat.le_of_ble_eq_true rfl⟩ (Nat.le_of_ble_eq_true rfl) dX9_verdict_33 ?_
      refine cj_aload_n C dX9_verdict_36 rfl 0 rfl ?_
      refine cj_iload_n C dX9_verdict_37 rfl 1 rfl ?_
      obtain ⟨x12, h11, hf⟩ := cj_bd_s hf
      refine cj_cV1i C cw_X9_sheetsOf (ct_X9_sheetsOf hI h11) cjq_866 cjq_14 cjq_864 (eM_0 (z := z) (ad := ad)) rfl rfl ⟨Nat.le_of_ble_eq_true rfl, Nat.le_of_ble_eq_true rfl⟩ (Nat.le_of_ble_eq_true rfl) dX9_verdict_38 ?_
      cases hf
      exact cj_iret C rfl dX9_verdict_41
    · refine cj_ldc C cjq_778 dX9_verdict_19 ?_
      cases hf
      exact cj_iret C rfl dX9_verdict_21
  · refine cj_ldc C cjq_773 dX9_verdict_8 ?_
    cases hf
    exact cj_iret C rfl dX9_verdict_10
set_option maxHeartbeats 4000000 in
set_option maxRecDepth 100000 in
theorem ct_X9_isDry {l : Launch} {D : va_G} {z : cj_Zc} {ad : cj_Ad} (hI : cj_Ij (cj_EM z) ad) {μ : cj_Mm} {s0 : cj_S} {a1 : Int32} {r : Int32} (hf : f_X9_isDry s0 a1 = some r) : cj_Ct l (cj_YM D z ad) yX9_isDry cX9_isDry 2 (some .boolean) 1 [.ref (ad 0 0), .int a1] (cj_upG μ 0 s0) (some (.int r)) (cj_upG μ 0 s0) := by
  refine cj_Ct.of (by decide +kernel) hI (Nat.le_of_ble_eq_true rfl) [(0, .ref (ad 0 0)), (1, .int a1)] rfl (fun X hX C => ?_)
  subst hX
  have C : cj_C (cj_YM D z ad) X cX9_isDry 2 RX9 1 (some .boolean) := C
  unfold f_X9_isDry at hf
  refine cj_aload_n C dX9_isDry_0 rfl 0 rfl ?_
  refine cj_iload_n C dX9_isDry_1 rfl 1 rfl ?_
  refine cj_iconst C 2 dX9_isDry_2 rfl ?_
  obtain ⟨x2, h1, hf⟩ := cj_bd_s hf
  refine cj_cV2i C cw_X9_ofSheet (ct_X9_ofSheet hI h1) cjq_830 cjq_8 cjq_828 (eM_0 (z := z) (ad := ad)) rfl rfl ⟨Nat.le_of_ble_eq_true rfl, Nat.le_of_ble_eq_true rfl⟩ (Nat.le_of_ble_eq_true rfl) dX9_isDry_3 ?_
  refine cj_if_eq C 28 dX9_isDry_6 rfl hf (fun hf => ?_) (fun hf => ?_)
  · refine cj_iconst C 0 dX9_isDry_28 rfl ?_
    cases hf
    exact cj_zret C rfl rfl rfl dX9_isDry_29
  · refine cj_aload_n C dX9_isDry_9 rfl 0 rfl ?_
    refine cj_iload_n C dX9_isDry_10 rfl 1 rfl ?_
    refine cj_iconst C 3 dX9_isDry_11 rfl ?_
    obtain ⟨x4, h3, hf⟩ := cj_bd_s hf
    refine cj_cV2i C cw_X9_ofSheet (ct_X9_ofSheet hI h3) cjq_830 cjq_8 cjq_828 (eM_0 (z := z) (ad := ad)) rfl rfl ⟨Nat.le_of_ble_eq_true rfl, Nat.le_of_ble_eq_true rfl⟩ (Nat.le_of_ble_eq_true rfl) dX9_isDry_12 ?_
    refine cj_aload_n C dX9_isDry_15 rfl 0 rfl ?_
    refine cj_getS (v := .ref (ad 0 1)) (j := 0) C (eM_0 (z := z) (ad := ad)) rfl rfl cj_in9 (by decide) rfl cjq_720 rfl dX9_isDry_16 ?_
    refine cj_iconst C 4 dX9_isDry_19 rfl ?_
    refine cj_ialdKS (j := 4) C (eM_1 (z := z) (ad := ad)) rfl (by decide) dX9_isDry_20 ?_
    refine cj_ic_gt C 28 dX9_isDry_21 rfl hf (fun hf => ?_) (fun hf => ?_)
    · refine cj_iconst C 0 dX9_isDry_28 rfl ?_
      cases hf
      exact cj_zret C rfl rfl rfl dX9_isDry_29
    · refine cj_iconst C 1 dX9_isDry_24 rfl ?_
      refine cj_goto C 29 dX9_isDry_25 rfl ?_
      cases hf
      exact cj_zret C rfl rfl rfl dX9_isDry_29
set_option maxHeartbeats 4000000 in
set_option maxRecDepth 100000 in
theorem ct_X9_boughtOf {l : Launch} {D : va_G} {z : cj_Zc} {ad : cj_Ad} (hI : cj_Ij (cj_EM z) ad) {μ : cj_Mm} {s0 : cj_S} {a1 : Int32} {r : Int32} (hf : f_X9_boughtOf s0 a1 = some r) : cj_Ct l (cj_YM D z ad) yX9_boughtOf cX9_boughtOf 2 (some .int) 1 [.ref (ad 0 0), .int a1] (cj_upG μ 0 s0) (some (.int r)) (cj_upG μ 0 s0) := by
  refine cj_Ct.of (by decide +kernel) hI (Nat.le_of_ble_eq_true rfl) [(0, .ref (ad 0 0)), (1, .int a1)] rfl (fun X hX C => ?_)
  subst hX
  have C : cj_C (cj_YM D z ad) X cX9_boughtOf 2 RX9 1 (some .int) := C
  unfold f_X9_boughtOf at hf
  refine cj_aload_n C dX9_boughtOf_0 rfl 0 rfl ?_
  refine cj_iload_n C dX9_boughtOf_1 rfl 1 rfl ?_
  refine cj_iconst C 4 dX9_boughtOf_2 rfl ?_
  obtain ⟨x2, h1, hf⟩ := cj_bd_s hf
  refine cj_cV2i C cw_X9_ofPaper (ct_X9_ofPaper hI h1) cjq_890 cjq_19 cjq_888 (eM_0 (z := z) (ad := ad)) rfl rfl ⟨Nat.le_of_ble_eq_true rfl, Nat.le_of_ble_eq_true rfl⟩ (Nat.le_of_ble_eq_true rfl) dX9_boughtOf_3 ?_
  refine cj_aload_n C dX9_boughtOf_6 rfl 0 rfl ?_
  obtain ⟨x4, h3, hf⟩ := cj_bd_s hf
  refine cj_cV0i C cw_X9_day (ct_X9_day hI h3) cjq_862 cjq_13 cjq_860 (eM_0 (z := z) (ad := ad)) rfl rfl ⟨Nat.le_of_ble_eq_true rfl, Nat.le_of_ble_eq_true rfl⟩ (Nat.le_of_ble_eq_true rfl) dX9_boughtOf_7 ?_
  refine cj_ic_ne C 22 dX9_boughtOf_10 rfl hf (fun hf => ?_) (fun hf => ?_)
  · refine cj_iconst C 0 dX9_boughtOf_22 rfl ?_
    cases hf
    exact cj_iret C rfl dX9_boughtOf_23
  · refine cj_aload_n C dX9_boughtOf_13 rfl 0 rfl ?_
    refine cj_iload_n C dX9_boughtOf_14 rfl 1 rfl ?_
    refine cj_iconst C 5 dX9_boughtOf_15 rfl ?_
    obtain ⟨x6, h5, hf⟩ := cj_bd_s hf
    refine cj_cV2i C cw_X9_ofPaper (ct_X9_ofPaper hI h5) cjq_890 cjq_19 cjq_888 (eM_0 (z := z) (ad := ad)) rfl rfl ⟨Nat.le_of_ble_eq_true rfl, Nat.le_of_ble_eq_true rfl⟩ (Nat.le_of_ble_eq_true rfl) dX9_boughtOf_16 ?_
    refine cj_goto C 23 dX9_boughtOf_19 rfl ?_
    cases hf
    exact cj_iret C rfl dX9_boughtOf_23
set_option maxHeartbeats 4000000 in
set_option maxRecDepth 100000 in
theorem ct_X9_canSell {l : Launch} {D : va_G} {z : cj_Zc} {ad : cj_Ad} (hI : cj_Ij (cj_EM z) ad) {μ : cj_Mm} {s0 : cj_S} {a1 : Int32} {a2 : Int32} {r : Int32} (hf : f_X9_canSell s0 a1 a2 = some r) : cj_Ct l (cj_YM D z ad) yX9_canSell cX9_canSell 3 (some .boolean) 2 [.ref (ad 0 0), .int a1, .int a2] (cj_upG μ 0 s0) (some (.int r)) (cj_upG μ 0 s0) := by
  refine cj_Ct.of (by decide +kernel) hI (Nat.le_of_ble_eq_true rfl) [(0, .ref (ad 0 0)), (1, .int a1), (2, .int a2)] rfl (fun X hX C => ?_)
  subst hX
  have C : cj_C (cj_YM D z ad) X cX9_canSell 3 RX9 2 (some .boolean) := C
  unfold f_X9_canSell at hf
  refine cj_aload_n C dX9_canSell_0 rfl 0 rfl ?_
  refine cj_iload_n C dX9_canSell_1 rfl 1 rfl ?_
  obtain ⟨x2, h1, hf⟩ := cj_bd_s hf
  refine cj_cV1i C cw_X9_isDry (ct_X9_isDry hI h1) cjq_882 cjq_17 cjq_880 (eM_0 (z := z) (ad := ad)) rfl rfl ⟨Nat.le_of_ble_eq_true rfl, Nat.le_of_ble_eq_true rfl⟩ (Nat.le_of_ble_eq_true rfl) dX9_canSell_2 ?_
  refine cj_if_eq C 29 dX9_canSell_5 rfl hf (fun hf => ?_) (fun hf => ?_)
  · refine cj_iconst C 0 dX9_canSell_29 rfl ?_
    cases hf
    exact cj_zret C rfl rfl rfl dX9_canSell_30
  · refine cj_aload_n C dX9_canSell_8 rfl 0 rfl ?_
    refine cj_iload_n C dX9_canSell_9 rfl 2 rfl ?_
    obtain ⟨x4, h3, hf⟩ := cj_bd_s hf
    refine cj_cV1i C cw_X9_boughtOf (ct_X9_boughtOf hI h3) cjq_886 cjq_18 cjq_884 (eM_0 (z := z) (ad := ad)) rfl rfl ⟨Nat.le_of_ble_eq_true rfl, Nat.le_of_ble_eq_true rfl⟩ (Nat.le_of_ble_eq_true rfl) dX9_canSell_10 ?_
    refine cj_aload_n C dX9_canSell_13 rfl 0 rfl ?_
    refine cj_iload_n C dX9_canSell_14 rfl 1 rfl ?_
    refine cj_iconst C 1 dX9_canSell_15 rfl ?_
    obtain ⟨x6, h5, hf⟩ := cj_bd_s hf
    refine cj_cV2i C cw_X9_ofSheet (ct_X9_ofSheet hI h5) cjq_830 cjq_8 cjq_828 (eM_0 (z := z) (ad := ad)) rfl rfl ⟨Nat.le_of_ble_eq_true rfl, Nat.le_of_ble_eq_true rfl⟩ (Nat.le_of_ble_eq_true rfl) dX9_canSell_16 ?_
    refine cj_ishr C dX9_canSell_19 ?_
    refine cj_iconst C 1 dX9_canSell_20 rfl ?_
    refine cj_iand C dX9_canSell_21 ?_
    refine cj_if_ne C 29 dX9_canSell_22 rfl hf (fun hf => ?_) (fun hf => ?_)
    · refine cj_iconst C 0 dX9_canSell_29 rfl ?_
      cases hf
      exact cj_zret C rfl rfl rfl dX9_canSell_30
    · refine cj_iconst C 1 dX9_canSell_25 rfl ?_
      refine cj_goto C 30 dX9_canSell_26 rfl ?_
      cases hf
      exact cj_zret C rfl rfl rfl dX9_canSell_30
set_option maxHeartbeats 4000000 in
set_option maxRecDepth 100000 in
theorem ct_X9_priceOf {l : Launch} {D : va_G} {z : cj_Zc} {ad : cj_Ad} (hI : cj_Ij (cj_EM z) ad) {μ : cj_Mm} {s0 : cj_S} {a1 : Int32} {a2 : Int32} {r : Int32} (hf : f_X9_priceOf s0 a1 a2 = some r) : cj_Ct l (cj_YM D z ad) yX9_priceOf cX9_priceOf 4 (some .int) 2 [.ref (ad 0 0), .int a1, .int a2] (cj_upG μ 0 s0) (some (.int r)) (cj_upG μ 0 s0) := by
  refine cj_Ct.of (by decide +kernel) hI (Nat.le_of_ble_eq_true rfl) [(0, .ref (ad 0 0)), (1, .int a1), (2, .int a2)] rfl (fun X hX C => ?_)
  subst hX
  have C : cj_C (cj_YM D z ad) X cX9_priceOf 4 RX9 2 (some .int) := C
  unfold f_X9_priceOf at hf
  refine cj_aload_n C dX9_priceOf_0 rfl 0 rfl ?_
  refine cj_iload_n C dX9_priceOf_1 rfl 2 rfl ?_
  refine cj_iconst C 0 dX9_priceOf_2 rfl ?_
  obtain ⟨x2, h1, hf⟩ := cj_bd_s hf
  refine cj_cV2i C cw_X9_ofPaper (ct_X9_ofPaper hI h1) cjq_890 cjq_19 cjq_888 (eM_0 (z := z) (ad := ad)) rfl rfl ⟨Nat.le_of_ble_eq_true rfl, Nat.le_of_ble_eq_true rfl⟩ (Nat.le_of_ble_eq_true rfl) dX9_priceOf_3 ?_
  refine cj_aload_n C dX9_priceOf_6 rfl 0 rfl ?_
  refine cj_iload_n C dX9_priceOf_7 rfl 1 rfl ?_
  refine cj_iconst C 2 dX9_priceOf_8 rfl ?_
  obtain ⟨x4, h3, hf⟩ := cj_bd_s hf
  refine cj_cV2i C cw_X9_ofSheet (ct_X9_ofSheet hI h3) cjq_830 cjq_8 cjq_828 (eM_0 (z := z) (ad := ad)) rfl rfl ⟨Nat.le_of_ble_eq_true rfl, Nat.le_of_ble_eq_true rfl⟩ (Nat.le_of_ble_eq_true rfl) dX9_priceOf_9 ?_
  obtain ⟨x6, h5, hf⟩ := cj_bd_s hf
  refine cj_cS1i C cw_X9_ones (ct_X9_ones hI h5) cjq_842 cjq_841 ⟨Nat.le_of_ble_eq_true rfl, Nat.le_of_ble_eq_true rfl⟩ (Nat.le_of_ble_eq_true rfl) dX9_priceOf_12 ?_
  refine cj_imul C dX9_priceOf_15 ?_
  refine cj_istore_n (lv' := [(3, .int (x2 * x6)), (0, .ref (ad 0 0)), (1, .int a1), (2, .int a2)]) C dX9_priceOf_16 rfl (by decide) rfl ?_
  refine cj_aload_n C dX9_priceOf_17 rfl 1 rfl ?_
  refine cj_aload_n C dX9_priceOf_18 rfl 1 rfl ?_
  refine cj_iload_n C dX9_priceOf_19 rfl 2 rfl ?_
  refine cj_iconst C 1 dX9_priceOf_20 rfl ?_
  obtain ⟨x8, h7, hf⟩ := cj_bd_s hf
  refine cj_cV2i C cw_X9_ofSheet (ct_X9_ofSheet hI h7) cjq_830 cjq_8 cjq_828 (eM_0 (z := z) (ad := ad)) rfl rfl ⟨Nat.le_of_ble_eq_true rfl, Nat.le_of_ble_eq_true rfl⟩ (Nat.le_of_ble_eq_true rfl) dX9_priceOf_21 ?_
  obtain ⟨x10, h9, hf⟩ := cj_bd_s hf
  refine cj_cV1i C cw_X9_hasVerdict (ct_X9_hasVerdict hI h9) cjq_858 cjq_12 cjq_856 (eM_0 (z := z) (ad := ad)) rfl rfl ⟨Nat.le_of_ble_eq_true rfl, Nat.le_of_ble_eq_true rfl⟩ (Nat.le_of_ble_eq_true rfl) dX9_priceOf_24 ?_
  refine cj_jn (Hyp := fun K11 => ∀ (x12 : Int32), K11 x12 = some r → cj_G (cj_YM D z ad) X (some (.int r), cj_upG μ 0 s0) (cj_upG μ 0 s0) 37 [(0, .ref (ad 0 0)), (2, .int a2)] [.int x12]) hf (fun x12 hf => ?_) (fun K11 hK11 hf => ?_)
  · refine cj_istore_n (lv' := [(3, .int x12), (0, .ref (ad 0 0)), (2, .int a2)]) C dX9_priceOf_37 rfl (by decide) rfl ?_
    refine cj_aload_n C dX9_priceOf_38 rfl 1 rfl ?_
    refine cj_getS (v := .ref (ad 0 1)) (j := 0) C (eM_0 (z := z) (ad := ad)) rfl rfl cj_in9 (by decide) rfl cjq_720 rfl dX9_priceOf_39 ?_
    refine cj_iconst C 4 dX9_priceOf_42 rfl ?_
    refine cj_ialdKS (j := 4) C (eM_1 (z := z) (ad := ad)) rfl (by decide) dX9_priceOf_43 ?_
    refine cj_sipush C 300 dX9_priceOf_44 rfl ?_
    refine cj_irem C dX9_priceOf_47 (by decide) ?_
    refine cj_aload_n C dX9_priceOf_48 rfl 1 rfl ?_
    refine cj_iload_n C dX9_priceOf_49 rfl 2 rfl ?_
    refine cj_iconst C 1 dX9_priceOf_50 rfl ?_
    obtain ⟨x14, h13, hf⟩ := cj_bd_s hf
    refine cj_cV2i C cw_X9_ofPaper (ct_X9_ofPaper hI h13) cjq_890 cjq_19 cjq_888 (eM_0 (z := z) (ad := ad)) rfl rfl ⟨Nat.le_of_ble_eq_true rfl, Nat.le_of_ble_eq_true rfl⟩ (Nat.le_of_ble_eq_true rfl) dX9_priceOf_51 ?_
    refine cj_ic_le C 63 dX9_priceOf_54 rfl hf (fun hf => ?_) (fun hf => ?_)
    · refine cj_iload_n C dX9_priceOf_63 rfl 0 rfl ?_
      cases hf
      exact cj_iret C rfl dX9_priceOf_64
    · refine cj_iload_n C dX9_priceOf_57 rfl 0 rfl ?_
      refine cj_iconst C 2 dX9_priceOf_58 rfl ?_
      refine cj_idiv C dX9_priceOf_59 (by decide) ?_
      refine cj_goto C 64 dX9_priceOf_60 rfl ?_
      cases hf
      exact cj_iret C rfl dX9_priceOf_64
  · refine cj_if_eq C 36 dX9_priceOf_27 rfl hf (fun hf => ?_) (fun hf => ?_)
    · refine cj_iload_n C dX9_priceOf_36 rfl 0 rfl ?_
      refine cj_sub [1, 3] rfl ?_
      exact hK11 (x2 * x6) hf
    · refine cj_iconst C 2 dX9_priceOf_30 rfl ?_
      refine cj_iload_n C dX9_priceOf_31 rfl 0 rfl ?_
      refine cj_imul C dX9_priceOf_32 ?_
      refine cj_goto C 37 dX9_priceOf_33 rfl ?_
      refine cj_sub [1, 3] rfl ?_
      exact hK11 (2 * (x2 * x6)) hf
set_option maxHeartbeats 4000000 in
set_option maxRecDepth 100000 in
theorem ct_X9_sells {l : Launch} {D : va_G} {z : cj_Zc} {ad : cj_Ad} (hI : cj_Ij (cj_EM z) ad) {μ : cj_Mm} {s0 : cj_S} {a1 : Int32} {a2 : Int32} {r : Int32} {r2 : cj_S} (hf : f_X9_sells s0 a1 a2 = some (r, r2)) : cj_Ct l (cj_YM D z ad) yX9_sells cX9_sells 5 (some .int) 3 [.ref (ad 0 0), .int a1, .int a2] (cj_upG μ 0 s0) (some (.int r)) (cj_upG μ 0 r2) := by
  refine cj_Ct.of (by decide +kernel) hI (Nat.le_of_ble_eq_true rfl) [(0, .ref (ad 0 0)), (1, .int a1), (2, .int a2)] rfl (fun X hX C => ?_)
  subst hX
  have C : cj_C (cj_YM D z ad) X cX9_sells 5 RX9 3 (some .int) := C
  unfold f_X9_sells at hf
  generalize hr2 : (r, r2) = r3 at hf
  obtain ⟨e1, e2⟩ : r = r3.1 ∧ r2 = r3.2 := by rw [← hr2]; exact ⟨rfl, rfl⟩
  rw [e1, e2]
  clear e1 e2 hr2
  obtain ⟨r, hr⟩ : ∃ r, r = r3 := ⟨_, rfl⟩
  rw [← hr] at hf ⊢
  clear hr
  refine cj_aload_n C dX9_sells_0 rfl 0 rfl ?_
  refine cj_iload_n C dX9_sells_1 rfl 1 rfl ?_
  refine cj_iload_n C dX9_sells_2 rfl 2 rfl ?_
  obtain ⟨x2, h1, hf⟩ := cj_bd_s hf
  refine cj_cV2i C cw_X9_priceOf (ct_X9_priceOf hI h1) cjq_898 cjq_21 cjq_896 (eM_0 (z := z) (ad := ad)) rfl rfl ⟨Nat.le_of_ble_eq_true rfl, Nat.le_of_ble_eq_true rfl⟩ (Nat.le_of_ble_eq_true rfl) dX9_sells_3 ?_
  refine cj_istore_n (lv' := [(3, .int x2), (0, .ref (ad 0 0)), (1, .int a1), (2, .int a2)]) C dX9_sells_6 rfl (by decide) rfl ?_
  refine cj_aload_n C dX9_sells_7 rfl 1 rfl ?_
  refine cj_iload_n C dX9_sells_8 rfl 2 rfl ?_
  refine cj_iconst C 1 dX9_sells_9 rfl ?_
  obtain ⟨x4, h3, hf⟩ := cj_bd_s hf
  refine cj_cV2i C cw_X9_ofSheet (ct_X9_ofSheet hI h3) cjq_830 cjq_8 cjq_828 (eM_0 (z := z) (ad := ad)) rfl rfl ⟨Nat.le_of_ble_eq_true rfl, Nat.le_of_ble_eq_true rfl⟩ (Nat.le_of_ble_eq_true rfl) dX9_sells_10 ?_
  refine cj_istore (lv' := [(4, .int x4), (3, .int x2), (0, .ref (ad 0 0)), (1, .int a1), (2, .int a2)]) C dX9_sells_13 (by decide) rfl ?_
  refine cj_aload_n C dX9_sells_15 rfl 2 rfl ?_
  refine cj_getS (v := .ref (ad 0 1)) (j := 0) C (eM_0 (z := z) (ad := ad)) rfl rfl cj_in9 (by decide) rfl cjq_720 rfl dX9_sells_16 ?_
  refine cj_sipush C 159 dX9_sells_19 rfl ?_
  refine cj_bipush C 6 dX9_sells_22 rfl ?_
  refine cj_iload_n C dX9_sells_24 rfl 4 rfl ?_
  refine cj_imul C dX9_sells_25 ?_
  refine cj_iadd C dX9_sells_26 ?_
  refine cj_iconst C 5 dX9_sells_27 rfl ?_
  refine cj_iadd C dX9_sells_28 ?_
  refine cj_aload_n C dX9_sells_29 rfl 2 rfl ?_
  refine cj_iload_n C dX9_sells_30 rfl 4 rfl ?_
  obtain ⟨x6, h5, hf⟩ := cj_bd_s hf
  refine cj_cV1i C cw_X9_boughtOf (ct_X9_boughtOf hI h5) cjq_886 cjq_18 cjq_884 (eM_0 (z := z) (ad := ad)) rfl rfl ⟨Nat.le_of_ble_eq_true rfl, Nat.le_of_ble_eq_true rfl⟩ (Nat.le_of_ble_eq_true rfl) dX9_sells_31 ?_
  refine cj_iconst C 1 dX9_sells_34 rfl ?_
  refine cj_iload C dX9_sells_35 0 rfl ?_
  refine cj_ishl C dX9_sells_37 ?_
  refine cj_ior C dX9_sells_38 ?_
  refine cj_iastS C (eM_1 (z := z) (ad := ad)) dX9_sells_39 hf (fun hf => ?_)
  refine cj_ltS hf (fun s7 hf => ?_)
  refine cj_aload_n C dX9_sells_40 rfl 2 rfl ?_
  refine cj_getS (v := .ref (ad 0 1)) (j := 0) C (eM_0 (z := z) (ad := ad)) rfl rfl cj_in9 (by decide) rfl cjq_720 rfl dX9_sells_41 ?_
  refine cj_sipush C 159 dX9_sells_44 rfl ?_
  refine cj_bipush C 6 dX9_sells_47 rfl ?_
  refine cj_iload_n C dX9_sells_49 rfl 4 rfl ?_
  refine cj_imul C dX9_sells_50 ?_
  refine cj_iadd C dX9_sells_51 ?_
  refine cj_iconst C 4 dX9_sells_52 rfl ?_
  refine cj_iadd C dX9_sells_53 ?_
  refine cj_aload_n C dX9_sells_54 rfl 2 rfl ?_
  obtain ⟨x9, h8, hf⟩ := cj_bd_s hf
  refine cj_cV0i C cw_X9_day (ct_X9_day hI h8) cjq_862 cjq_13 cjq_860 (eM_0 (z := z) (ad := ad)) rfl rfl ⟨Nat.le_of_ble_eq_true rfl, Nat.le_of_ble_eq_true rfl⟩ (Nat.le_of_ble_eq_true rfl) dX9_sells_55 ?_
  refine cj_iastS C (eM_1 (z := z) (ad := ad)) dX9_sells_58 hf (fun hf => ?_)
  refine cj_ltS hf (fun s10 hf => ?_)
  refine cj_aload_n C dX9_sells_59 rfl 2 rfl ?_
  refine cj_getS (v := .ref (ad 0 1)) (j := 0) C (eM_0 (z := z) (ad := ad)) rfl rfl cj_in9 (by decide) rfl cjq_720 rfl dX9_sells_60 ?_
  refine cj_sipush C 159 dX9_sells_63 rfl ?_
  refine cj_bipush C 6 dX9_sells_66 rfl ?_
  refine cj_iload_n C dX9_sells_68 rfl 4 rfl ?_
  refine cj_imul C dX9_sells_69 ?_
  refine cj_iadd C dX9_sells_70 ?_
  refine cj_iconst C 2 dX9_sells_71 rfl ?_
  refine cj_iadd C dX9_sells_72 ?_
  refine cj_dup2 C dX9_sells_73 rfl rfl ?_
  refine cj_ialdS C (eM_1 (z := z) (ad := ad)) dX9_sells_74 hf (fun hf => ?_)
  refine cj_iconst C 1 dX9_sells_75 rfl ?_
  refine cj_iadd C dX9_sells_76 ?_
  refine cj_iastS C (eM_1 (z := z) (ad := ad)) dX9_sells_77 hf (fun hf => ?_)
  refine cj_ltS hf (fun s11 hf => ?_)
  refine cj_aload_n C dX9_sells_78 rfl 2 rfl ?_
  refine cj_getS (v := .ref (ad 0 1)) (j := 0) C (eM_0 (z := z) (ad := ad)) rfl rfl cj_in9 (by decide) rfl cjq_720 rfl dX9_sells_79 ?_
  refine cj_sipush C 159 dX9_sells_82 rfl ?_
  refine cj_bipush C 6 dX9_sells_85 rfl ?_
  refine cj_iload_n C dX9_sells_87 rfl 4 rfl ?_
  refine cj_imul C dX9_sells_88 ?_
  refine cj_iadd C dX9_sells_89 ?_
  refine cj_iconst C 3 dX9_sells_90 rfl ?_
  refine cj_iadd C dX9_sells_91 ?_
  refine cj_dup2 C dX9_sells_92 rfl rfl ?_
  refine cj_ialdS C (eM_1 (z := z) (ad := ad)) dX9_sells_93 hf (fun hf => ?_)
  refine cj_iload_n C dX9_sells_94 rfl 1 rfl ?_
  refine cj_iadd C dX9_sells_95 ?_
  refine cj_iastS C (eM_1 (z := z) (ad := ad)) dX9_sells_96 hf (fun hf => ?_)
  refine cj_ltS hf (fun s12 hf => ?_)
  refine cj_aload_n C dX9_sells_97 rfl 2 rfl ?_
  refine cj_getS (v := .ref (ad 0 1)) (j := 0) C (eM_0 (z := z) (ad := ad)) rfl rfl cj_in9 (by decide) rfl cjq_720 rfl dX9_sells_98 ?_
  refine cj_bipush C 11 dX9_sells_101 rfl ?_
  refine cj_bipush C 18 dX9_sells_103 rfl ?_
  refine cj_iload C dX9_sells_105 0 rfl ?_
  refine cj_imul C dX9_sells_107 ?_
  refine cj_iadd C dX9_sells_108 ?_
  refine cj_iconst C 5 dX9_sells_109 rfl ?_
  refine cj_iadd C dX9_sells_110 ?_
  refine cj_dup2 C dX9_sells_111 rfl rfl ?_
  refine cj_ialdS C (eM_1 (z := z) (ad := ad)) dX9_sells_112 hf (fun hf => ?_)
  refine cj_iload_n C dX9_sells_113 rfl 1 rfl ?_
  refine cj_iadd C dX9_sells_114 ?_
  refine cj_iastS C (eM_1 (z := z) (ad := ad)) dX9_sells_115 hf (fun hf => ?_)
  refine cj_ltS hf (fun s13 hf => ?_)
  refine cj_aload_n C dX9_sells_116 rfl 2 rfl ?_
  refine cj_getS (v := .ref (ad 0 1)) (j := 0) C (eM_0 (z := z) (ad := ad)) rfl rfl cj_in9 (by decide) rfl cjq_720 rfl dX9_sells_117 ?_
  refine cj_bipush C 7 dX9_sells_120 rfl ?_
  refine cj_dup2 C dX9_sells_122 rfl rfl ?_
  refine cj_ialdKS (j := 7) C (eM_1 (z := z) (ad := ad)) rfl (by decide) dX9_sells_123 ?_
  refine cj_iconst C 1 dX9_sells_124 rfl ?_
  refine cj_iadd C dX9_sells_125 ?_
  refine cj_iastKS (j := 7) C (eM_1 (z := z) (ad := ad)) rfl (by decide) dX9_sells_126 ?_
  refine cj_ltS hf (fun s14 hf => ?_)
  refine cj_aload_n C dX9_sells_127 rfl 2 rfl ?_
  refine cj_getS (v := .ref (ad 0 1)) (j := 0) C (eM_0 (z := z) (ad := ad)) rfl rfl cj_in9 (by decide) rfl cjq_720 rfl dX9_sells_128 ?_
  refine cj_bipush C 8 dX9_sells_131 rfl ?_
  refine cj_dup2 C dX9_sells_133 rfl rfl ?_
  refine cj_ialdKS (j := 8) C (eM_1 (z := z) (ad := ad)) rfl (by decide) dX9_sells_134 ?_
  refine cj_iload_n C dX9_sells_135 rfl 1 rfl ?_
  refine cj_iadd C dX9_sells_136 ?_
  refine cj_iastKS (j := 8) C (eM_1 (z := z) (ad := ad)) rfl (by decide) dX9_sells_137 ?_
  refine cj_ltS hf (fun s15 hf => ?_)
  refine cj_aload_n C dX9_sells_138 rfl 2 rfl ?_
  refine cj_iload_n C dX9_sells_139 rfl 3 rfl ?_
  obtain ⟨s17, h16, hf⟩ := cj_bd_s hf
  refine cj_cV1v C cw_X9_takesOut (ct_X9_takesOut hI h16) cjq_850 cjq_11 cjq_848 (eM_0 (z := z) (ad := ad)) rfl rfl ⟨Nat.le_of_ble_eq_true rfl, Nat.le_of_ble_eq_true rfl⟩ (Nat.le_of_ble_eq_true rfl) dX9_sells_140 ?_
  refine cj_iload_n C dX9_sells_143 rfl 1 rfl ?_
  cases hf
  exact cj_iret C rfl dX9_sells_144
set_option maxHeartbeats 4000000 in
set_option maxRecDepth 100000 in
theorem ct_X9_sell {l : Launch} {D : va_G} {z : cj_Zc} {ad : cj_Ad} (hI : cj_Ij (cj_EM z) ad) {μ : cj_Mm} {s0 : cj_S} {a1 : Int32} {a2 : Int32} {r : Int32} {r2 : cj_S} (hf : f_X9_sell s0 a1 a2 = some (r, r2)) : cj_Ct l (cj_YM D z ad) yX9_sell cX9_sell 4 (some .int) 4 [.ref (ad 0 0), .int a1, .int a2] (cj_upG μ 0 s0) (some (.int r)) (cj_upG μ 0 r2) := by
  refine cj_Ct.of (by decide +kernel) hI (Nat.le_of_ble_eq_true rfl) [(0, .ref (ad 0 0)), (1, .int a1), (2, .int a2)] rfl (fun X hX C => ?_)
  subst hX
  have C : cj_C (cj_YM D z ad) X cX9_sell 4 RX9 4 (some .int) := C
  unfold f_X9_sell at hf
  generalize hr2 : (r, r2) = r3 at hf
  obtain ⟨e1, e2⟩ : r = r3.1 ∧ r2 = r3.2 := by rw [← hr2]; exact ⟨rfl, rfl⟩
  rw [e1, e2]
  clear e1 e2 hr2
  obtain ⟨r, hr⟩ : ∃ r, r = r3 := ⟨_, rfl⟩
  rw [← hr] at hf ⊢
  clear hr
  refine cj_aload_n C dX9_sell_0 rfl 0 rfl ?_
  refine cj_iload_n C dX9_sell_1 rfl 1 rfl ?_
  obtain ⟨x2, h1, hf⟩ := cj_bd_s hf
  refine cj_cV1i C cw_X9_slot (ct_X9_slot hI h1) cjq_826 cjq_7 cjq_824 (eM_0 (z := z) (ad := ad)) rfl rfl ⟨Nat.le_of_ble_eq_true rfl, Nat.le_of_ble_eq_true rfl⟩ (Nat.le_of_ble_eq_true rfl) dX9_sell_2 ?_
  refine cj_istore_n (lv' := [(3, .int x2), (0, .ref (ad 0 0)), (1, .int a1), (2, .int a2)]) C dX9_sell_5 rfl (by decide) rfl ?_
  refine cj_iload_n C dX9_sell_6 rfl 0 rfl ?_
  refine cj_if_lt C 18 dX9_sell_7 rfl hf (fun hf => ?_) (fun hf => ?_)
  · refine cj_ldc C cjq_773 dX9_sell_18 ?_
    cases hf
    exact cj_iret C rfl dX9_sell_20
  · refine cj_aload_n C dX9_sell_10 rfl 1 rfl ?_
    refine cj_iload_n C dX9_sell_11 rfl 3 rfl ?_
    obtain ⟨x4, h3, hf⟩ := cj_bd_s hf
    refine cj_cV1i C cw_X9_isPaper (ct_X9_isPaper hI h3) cjq_874 cjq_15 cjq_872 (eM_0 (z := z) (ad := ad)) rfl rfl ⟨Nat.le_of_ble_eq_true rfl, Nat.le_of_ble_eq_true rfl⟩ (Nat.le_of_ble_eq_true rfl) dX9_sell_12 ?_
    refine cj_if_ne C 21 dX9_sell_15 rfl hf (fun hf => ?_) (fun hf => ?_)
    · refine cj_aload_n C dX9_sell_21 rfl 1 rfl ?_
      refine cj_iload_n C dX9_sell_22 rfl 0 rfl ?_
      refine cj_iload_n C dX9_sell_23 rfl 3 rfl ?_
      obtain ⟨x6, h5, hf⟩ := cj_bd_s hf
      refine cj_cV2i C cw_X9_canSell (ct_X9_canSell hI h5) cjq_878 cjq_16 cjq_876 (eM_0 (z := z) (ad := ad)) rfl rfl ⟨Nat.le_of_ble_eq_true rfl, Nat.le_of_ble_eq_true rfl⟩ (Nat.le_of_ble_eq_true rfl) dX9_sell_24 ?_
      refine cj_if_ne C 33 dX9_sell_27 rfl hf (fun hf => ?_) (fun hf => ?_)
      · refine cj_aload_n C dX9_sell_33 rfl 1 rfl ?_
        obtain ⟨s8, h7, hf⟩ := cj_bd_s hf
        refine cj_cV0v C cw_X9_changes (ct_X9_changes hI h7) cjq_782 cjq_1 cjq_780 (eM_0 (z := z) (ad := ad)) rfl rfl ⟨Nat.le_of_ble_eq_true rfl, Nat.le_of_ble_eq_true rfl⟩ (Nat.le_of_ble_eq_true rfl) dX9_sell_34 ?_
        refine cj_aload_n C dX9_sell_37 rfl 1 rfl ?_
        refine cj_iload_n C dX9_sell_38 rfl 0 rfl ?_
        refine cj_iload_n C dX9_sell_39 rfl 3 rfl ?_
        obtain ⟨x10, s11, h9, hf⟩ := cj_bp_s hf
        refine cj_cV2i C cw_X9_sells (ct_X9_sells hI h9) cjq_894 cjq_20 cjq_892 (eM_0 (z := z) (ad := ad)) rfl rfl ⟨Nat.le_of_ble_eq_true rfl, Nat.le_of_ble_eq_true rfl⟩ (Nat.le_of_ble_eq_true rfl) dX9_sell_40 ?_
        cases hf
        exact cj_iret C rfl dX9_sell_43
      · refine cj_ldc C cjq_778 dX9_sell_30 ?_
        cases hf
        exact cj_iret C rfl dX9_sell_32
    · refine cj_ldc C cjq_773 dX9_sell_18 ?_
      cases hf
      exact cj_iret C rfl dX9_sell_20
set_option maxHeartbeats 4000000 in
set_option maxRecDepth 100000 in
theorem tl_X9_sees_L2 {D : va_G} {z : cj_Zc} {ad : cj_Ad} (hI : cj_Ij (cj_EM z) ad) {μ : cj_Mm} {y1 : Int32} {X : cj_X} (C : cj_C (cj_YM D z ad) X cX9_sees 3 RX9 4 none) {r : cj_S} : ∀ (n : Nat) (x2 : Int32) (s3 : cj_S), f_X9_sees_L2 y1 n x2 s3 = some r → cj_G (cj_YM D z ad) X (none, cj_upG μ 0 r) (cj_upG μ 0 s3) 2 [(0, .ref (ad 0 0)), (1, .int y1), (2, .int x2)] [] := by
  intro n
  induction n with
  | zero =>
    intro x2 s3 hf
    rw [f_X9_sees_L2] at hf
    cases hf
  | succ n ih =>
    intro x2 s3 hf
    rw [f_X9_sees_L2] at hf
    refine cj_iload_n C dX9_sees_2 rfl 2 rfl ?_
    refine cj_bipush C 12 dX9_sees_3 rfl ?_
    refine cj_ic_ge C 42 dX9_sees_5 rfl hf (fun hf => ?_) (fun hf => ?_)
    · cases hf
      exact cj_vret C rfl dX9_sees_42
    · refine cj_aload_n C dX9_sees_8 rfl 0 rfl ?_
      refine cj_iload_n C dX9_sees_9 rfl 1 rfl ?_
      obtain ⟨x5, h4, hf⟩ := cj_bd_s hf
      refine cj_cV1i C cw_X9_seen (ct_X9_seen hI h4) cjq_798 cjq_4 cjq_796 (eM_0 (z := z) (ad := ad)) rfl rfl ⟨Nat.le_of_ble_eq_true rfl, Nat.le_of_ble_eq_true rfl⟩ (Nat.le_of_ble_eq_true rfl) dX9_sees_10 ?_
      refine cj_iload_n C dX9_sees_13 rfl 2 rfl ?_
      refine cj_ishr C dX9_sees_14 ?_
      refine cj_iconst C 1 dX9_sees_15 rfl ?_
      refine cj_iand C dX9_sees_16 ?_
      refine cj_iconst C 1 dX9_sees_17 rfl ?_
      refine cj_ic_ne C 36 dX9_sees_18 rfl hf (fun hf => ?_) (fun hf => ?_)
      · refine cj_iinc (lv' := [(2, .int (x2 + 1)), (0, .ref (ad 0 0)), (1, .int y1)]) C dX9_sees_36 (j := 2) rfl rfl (by decide) rfl ?_
        refine cj_goto C 2 dX9_sees_39 rfl ?_
        refine cj_sub [1, 2, 0] rfl ?_
        exact ih (x2 + 1) s3 hf
      · refine cj_aload_n C dX9_sees_21 rfl 0 rfl ?_
        refine cj_iload_n C dX9_sees_22 rfl 1 rfl ?_
        refine cj_bipush C 6 dX9_sees_23 rfl ?_
        refine cj_iload_n C dX9_sees_25 rfl 2 rfl ?_
        refine cj_iadd C dX9_sees_26 ?_
        refine cj_aload_n C dX9_sees_27 rfl 0 rfl ?_
        refine cj_getS (v := .ref (ad 0 1)) (j := 0) C (eM_0 (z := z) (ad := ad)) rfl rfl cj_in9 (by decide) rfl cjq_720 rfl dX9_sees_28 ?_
        refine cj_iconst C 4 dX9_sees_31 rfl ?_
        refine cj_ialdKS (j := 4) C (eM_1 (z := z) (ad := ad)) rfl (by decide) dX9_sees_32 ?_
        obtain ⟨s7, h6, hf⟩ := cj_bd_s hf
        refine cj_cV3v C cw_X9_sets (ct_X9_sets hI h6) cjq_786 cjq_2 cjq_784 (eM_0 (z := z) (ad := ad)) rfl rfl ⟨Nat.le_of_ble_eq_true rfl, Nat.le_of_ble_eq_true rfl⟩ (Nat.le_of_ble_eq_true rfl) dX9_sees_33 ?_
        refine cj_iinc (lv' := [(2, .int (x2 + 1)), (0, .ref (ad 0 0)), (1, .int y1)]) C dX9_sees_36 (j := 2) rfl rfl (by decide) rfl ?_
        refine cj_goto C 2 dX9_sees_39 rfl ?_
        refine cj_sub [1, 2, 0] rfl ?_
        exact ih (x2 + 1) s7 hf
set_option maxHeartbeats 4000000 in
set_option maxRecDepth 100000 in
theorem ct_X9_sees {l : Launch} {D : va_G} {z : cj_Zc} {ad : cj_Ad} (hI : cj_Ij (cj_EM z) ad) {μ : cj_Mm} {s0 : cj_S} {a1 : Int32} {r : cj_S} (hf : f_X9_sees s0 a1 = some r) : cj_Ct l (cj_YM D z ad) yX9_sees cX9_sees 3 none 4 [.ref (ad 0 0), .int a1] (cj_upG μ 0 s0) none (cj_upG μ 0 r) := by
  refine cj_Ct.of (by decide +kernel) hI (Nat.le_of_ble_eq_true rfl) [(0, .ref (ad 0 0)), (1, .int a1)] rfl (fun X hX C => ?_)
  subst hX
  have C : cj_C (cj_YM D z ad) X cX9_sees 3 RX9 4 none := C
  unfold f_X9_sees at hf
  refine cj_iconst C 0 dX9_sees_0 rfl ?_
  refine cj_istore_n (lv' := [(2, .int 0), (0, .ref (ad 0 0)), (1, .int a1)]) C dX9_sees_1 rfl (by decide) rfl ?_
  refine cj_sub [1, 2, 0] rfl ?_
  exact tl_X9_sees_L2 hI C cj_FU 0 s0 hf
set_option maxHeartbeats 4000000 in
set_option maxRecDepth 100000 in
theorem tl_X9_minute_L21 {D : va_G} {z : cj_Zc} {ad : cj_Ad} (hI : cj_Ij (cj_EM z) ad) {μ : cj_Mm}  {X : cj_X} (C : cj_C (cj_YM D z ad) X cX9_minute 2 RX9 5 none) {r : cj_S} {K : cj_S → Option (cj_S)} (hK : ∀ (s5 : cj_S), K s5 = some r → cj_G (cj_YM D z ad) X (none, cj_upG μ 0 r) (cj_upG μ 0 s5) 59 [(0, .ref (ad 0 0))] []) : ∀ (n : Nat) (x3 : Int32) (s4 : cj_S), f_X9_minute_L21 K n x3 s4 = some r → cj_G (cj_YM D z ad) X (none, cj_upG μ 0 r) (cj_upG μ 0 s4) 21 [(0, .ref (ad 0 0)), (1, .int x3)] [] := by
  intro n
  induction n with
  | zero =>
    intro x3 s4 hf
    rw [f_X9_minute_L21] at hf
    cases hf
  | succ n ih =>
    intro x3 s4 hf
    rw [f_X9_minute_L21] at hf
    refine cj_iload_n C dX9_minute_21 rfl 1 rfl ?_
    refine cj_aload_n C dX9_minute_22 rfl 0 rfl ?_
    refine cj_getS (v := .ref (ad 0 1)) (j := 0) C (eM_0 (z := z) (ad := ad)) rfl rfl cj_in9 (by decide) rfl cjq_720 rfl dX9_minute_23 ?_
    refine cj_iconst C 0 dX9_minute_26 rfl ?_
    refine cj_ialdKS (j := 0) C (eM_1 (z := z) (ad := ad)) rfl (by decide) dX9_minute_27 ?_
    refine cj_ic_ge C 59 dX9_minute_28 rfl hf (fun hf => ?_) (fun hf => ?_)
    · refine cj_sub [0] rfl ?_
      exact hK s4 hf
    · refine cj_aload_n C dX9_minute_31 rfl 0 rfl ?_
      refine cj_iload_n C dX9_minute_32 rfl 1 rfl ?_
      refine cj_iconst C 2 dX9_minute_33 rfl ?_
      refine cj_aload_n C dX9_minute_34 rfl 0 rfl ?_
      refine cj_iload_n C dX9_minute_35 rfl 1 rfl ?_
      refine cj_iconst C 2 dX9_minute_36 rfl ?_
      obtain ⟨x7, h6, hf⟩ := cj_bd_s hf
      refine cj_cV2i C cw_X9_of (ct_X9_of hI h6) cjq_776 cjq_0 cjq_774 (eM_0 (z := z) (ad := ad)) rfl rfl ⟨Nat.le_of_ble_eq_true rfl, Nat.le_of_ble_eq_true rfl⟩ (Nat.le_of_ble_eq_true rfl) dX9_minute_37 ?_
      refine cj_aload_n C dX9_minute_40 rfl 0 rfl ?_
      refine cj_iload_n C dX9_minute_41 rfl 1 rfl ?_
      refine cj_iconst C 3 dX9_minute_42 rfl ?_
      obtain ⟨x9, h8, hf⟩ := cj_bd_s hf
      refine cj_cV2i C cw_X9_of (ct_X9_of hI h8) cjq_776 cjq_0 cjq_774 (eM_0 (z := z) (ad := ad)) rfl rfl ⟨Nat.le_of_ble_eq_true rfl, Nat.le_of_ble_eq_true rfl⟩ (Nat.le_of_ble_eq_true rfl) dX9_minute_43 ?_
      refine cj_iadd C dX9_minute_46 ?_
      refine cj_ltI hf (fun x10 hf => ?_)
      refine cj_bipush C 12 dX9_minute_47 rfl ?_
      refine cj_irem C dX9_minute_49 (by decide) ?_
      obtain ⟨s12, h11, hf⟩ := cj_bd_s hf
      refine cj_cV3v C cw_X9_sets (ct_X9_sets hI h11) cjq_786 cjq_2 cjq_784 (eM_0 (z := z) (ad := ad)) rfl rfl ⟨Nat.le_of_ble_eq_true rfl, Nat.le_of_ble_eq_true rfl⟩ (Nat.le_of_ble_eq_true rfl) dX9_minute_50 ?_
      refine cj_iinc (lv' := [(1, .int (x3 + 1)), (0, .ref (ad 0 0))]) C dX9_minute_53 (j := 1) rfl rfl (by decide) rfl ?_
      refine cj_goto C 21 dX9_minute_56 rfl ?_
      refine cj_sub [1, 0] rfl ?_
      exact ih (x3 + 1) s12 hf
set_option maxHeartbeats 4000000 in
set_option maxRecDepth 100000 in
theorem ct_X9_minute {l : Launch} {D : va_G} {z : cj_Zc} {ad : cj_Ad} (hI : cj_Ij (cj_EM z) ad) {μ : cj_Mm} {s0 : cj_S} {r : cj_S} (hf : f_X9_minute s0 = some r) : cj_Ct l (cj_YM D z ad) yX9_minute cX9_minute 2 none 5 [.ref (ad 0 0)] (cj_upG μ 0 s0) none (cj_upG μ 0 r) := by
  refine cj_Ct.of (by decide +kernel) hI (Nat.le_of_ble_eq_true rfl) [(0, .ref (ad 0 0))] rfl (fun X hX C => ?_)
  subst hX
  have C : cj_C (cj_YM D z ad) X cX9_minute 2 RX9 5 none := C
  unfold f_X9_minute at hf
  refine cj_aload_n C dX9_minute_0 rfl 0 rfl ?_
  refine cj_getS (v := .ref (ad 0 1)) (j := 0) C (eM_0 (z := z) (ad := ad)) rfl rfl cj_in9 (by decide) rfl cjq_720 rfl dX9_minute_1 ?_
  refine cj_iconst C 5 dX9_minute_4 rfl ?_
  refine cj_ialdKS (j := 5) C (eM_1 (z := z) (ad := ad)) rfl (by decide) dX9_minute_5 ?_
  refine cj_jn (Hyp := fun K1 => ∀ (s2 : cj_S), K1 s2 = some r → cj_G (cj_YM D z ad) X (none, cj_upG μ 0 r) (cj_upG μ 0 s2) 19 [(0, .ref (ad 0 0))] []) hf (fun s2 hf => ?_) (fun K1 hK1 hf => ?_)
  · refine cj_iconst C 0 dX9_minute_19 rfl ?_
    refine cj_istore_n (lv' := [(1, .int 0), (0, .ref (ad 0 0))]) C dX9_minute_20 rfl (by decide) rfl ?_
    refine cj_sub [1, 0] rfl ?_
    refine tl_X9_minute_L21 hI C (fun s13 hf => ?_) cj_FU 0 s2 hf
    refine cj_aload_n C dX9_minute_59 rfl 0 rfl ?_
    refine cj_getS (v := .ref (ad 0 1)) (j := 0) C (eM_0 (z := z) (ad := ad)) rfl rfl cj_in9 (by decide) rfl cjq_720 rfl dX9_minute_60 ?_
    refine cj_iconst C 4 dX9_minute_63 rfl ?_
    refine cj_dup2 C dX9_minute_64 rfl rfl ?_
    refine cj_ialdKS (j := 4) C (eM_1 (z := z) (ad := ad)) rfl (by decide) dX9_minute_65 ?_
    refine cj_iconst C 1 dX9_minute_66 rfl ?_
    refine cj_iadd C dX9_minute_67 ?_
    refine cj_iastKS (j := 4) C (eM_1 (z := z) (ad := ad)) rfl (by decide) dX9_minute_68 ?_
    refine cj_ltS hf (fun s14 hf => ?_)
    refine cj_aload_n C dX9_minute_69 rfl 0 rfl ?_
    refine cj_getS (v := .ref (ad 0 1)) (j := 0) C (eM_0 (z := z) (ad := ad)) rfl rfl cj_in9 (by decide) rfl cjq_720 rfl dX9_minute_70 ?_
    refine cj_bipush C 6 dX9_minute_73 rfl ?_
    refine cj_iconst C 0 dX9_minute_75 rfl ?_
    refine cj_iastKS (j := 6) C (eM_1 (z := z) (ad := ad)) rfl (by decide) dX9_minute_76 ?_
    refine cj_ltS hf (fun s15 hf => ?_)
    cases hf
    exact cj_vret C rfl dX9_minute_77
  · refine cj_if_lt C 19 dX9_minute_6 rfl hf (fun hf => ?_) (fun hf => ?_)
    · exact hK1 s0 hf
    · refine cj_aload_n C dX9_minute_9 rfl 0 rfl ?_
      refine cj_aload_n C dX9_minute_10 rfl 0 rfl ?_
      refine cj_getS (v := .ref (ad 0 1)) (j := 0) C (eM_0 (z := z) (ad := ad)) rfl rfl cj_in9 (by decide) rfl cjq_720 rfl dX9_minute_11 ?_
      refine cj_iconst C 5 dX9_minute_14 rfl ?_
      refine cj_ialdKS (j := 5) C (eM_1 (z := z) (ad := ad)) rfl (by decide) dX9_minute_15 ?_
      obtain ⟨s17, h16, hf⟩ := cj_bd_s hf
      refine cj_cV1v C cw_X9_sees (ct_X9_sees hI h16) cjq_910 cjq_23 cjq_908 (eM_0 (z := z) (ad := ad)) rfl rfl ⟨Nat.le_of_ble_eq_true rfl, Nat.le_of_ble_eq_true rfl⟩ (Nat.le_of_ble_eq_true rfl) dX9_minute_16 ?_
      exact hK1 s17 hf
set_option maxHeartbeats 4000000 in
set_option maxRecDepth 100000 in
theorem tl_X9_pass_L37 {D : va_G} {z : cj_Zc} {ad : cj_Ad} (hI : cj_Ij (cj_EM z) ad) {μ : cj_Mm} {y5 : Int32} {X : cj_X} (C : cj_C (cj_YM D z ad) X cX9_pass 4 RX9 6 (some .int)) {r : Int32 × cj_S} {K : cj_S → Option (Int32 × cj_S)} (hK : ∀ (s8 : cj_S), K s8 = some r → cj_G (cj_YM D z ad) X (some (.int r.1), cj_upG μ 0 r.2) (cj_upG μ 0 s8) 52 [(0, .ref (ad 0 0))] []) : ∀ (n : Nat) (x6 : Int32) (s7 : cj_S), f_X9_pass_L37 K y5 n x6 s7 = some r → cj_G (cj_YM D z ad) X (some (.int r.1), cj_upG μ 0 r.2) (cj_upG μ 0 s7) 37 [(0, .ref (ad 0 0)), (1, .int y5), (2, .int x6)] [] := by
  intro n
  induction n with
  | zero =>
    intro x6 s7 hf
    rw [f_X9_pass_L37] at hf
    cases hf
  | succ n ih =>
    intro x6 s7 hf
    rw [f_X9_pass_L37] at hf
    refine cj_iload_n C dX9_pass_37 rfl 2 rfl ?_
    refine cj_iload_n C dX9_pass_38 rfl 1 rfl ?_
    refine cj_ic_ge C 52 dX9_pass_39 rfl hf (fun hf => ?_) (fun hf => ?_)
    · refine cj_sub [0] rfl ?_
      exact hK s7 hf
    · refine cj_aload_n C dX9_pass_42 rfl 0 rfl ?_
      obtain ⟨s10, h9, hf⟩ := cj_bd_s hf
      refine cj_cV0v C cw_X9_minute (ct_X9_minute hI h9) cjq_906 cjq_22 cjq_904 (eM_0 (z := z) (ad := ad)) rfl rfl ⟨Nat.le_of_ble_eq_true rfl, Nat.le_of_ble_eq_true rfl⟩ (Nat.le_of_ble_eq_true rfl) dX9_pass_43 ?_
      refine cj_iinc (lv' := [(2, .int (x6 + 1)), (0, .ref (ad 0 0)), (1, .int y5)]) C dX9_pass_46 (j := 2) rfl rfl (by decide) rfl ?_
      refine cj_goto C 37 dX9_pass_49 rfl ?_
      refine cj_sub [1, 2, 0] rfl ?_
      exact ih (x6 + 1) s10 hf
set_option maxHeartbeats 4000000 in
set_option maxRecDepth 100000 in
theorem tl_X9_pass_L56 {D : va_G} {z : cj_Zc} {ad : cj_Ad} (hI : cj_Ij (cj_EM z) ad) {μ : cj_Mm} {s14 : cj_S} {X : cj_X} (C : cj_C (cj_YM D z ad) X cX9_pass 4 RX9 6 (some .int)) {r : Int32 × cj_S} : ∀ (n : Nat) (x12 : Int32) (x13 : Int32), f_X9_pass_L56 s14 n x12 x13 = some r → cj_G (cj_YM D z ad) X (some (.int r.1), cj_upG μ 0 r.2) (cj_upG μ 0 s14) 56 [(0, .ref (ad 0 0)), (2, .int x12), (3, .int x13)] [] := by
  intro n
  induction n with
  | zero =>
    intro x12 x13 hf
    rw [f_X9_pass_L56] at hf
    cases hf
  | succ n ih =>
    intro x12 x13 hf
    rw [f_X9_pass_L56] at hf
    refine cj_iload_n C dX9_pass_56 rfl 2 rfl ?_
    refine cj_aload_n C dX9_pass_57 rfl 0 rfl ?_
    refine cj_getS (v := .ref (ad 0 1)) (j := 0) C (eM_0 (z := z) (ad := ad)) rfl rfl cj_in9 (by decide) rfl cjq_720 rfl dX9_pass_58 ?_
    refine cj_iconst C 0 dX9_pass_61 rfl ?_
    refine cj_ialdKS (j := 0) C (eM_1 (z := z) (ad := ad)) rfl (by decide) dX9_pass_62 ?_
    refine cj_ic_ge C 83 dX9_pass_63 rfl hf (fun hf => ?_) (fun hf => ?_)
    · refine cj_iload_n C dX9_pass_83 rfl 1 rfl ?_
      cases hf
      exact cj_iret C rfl dX9_pass_84
    · refine cj_iload_n C dX9_pass_66 rfl 1 rfl ?_
      refine cj_aload_n C dX9_pass_67 rfl 0 rfl ?_
      refine cj_iload_n C dX9_pass_68 rfl 2 rfl ?_
      obtain ⟨x16, h15, hf⟩ := cj_bd_s hf
      refine cj_cV1i C cw_X9_remembered (ct_X9_remembered hI h15) cjq_839 cjq_10 cjq_837 (eM_0 (z := z) (ad := ad)) rfl rfl ⟨Nat.le_of_ble_eq_true rfl, Nat.le_of_ble_eq_true rfl⟩ (Nat.le_of_ble_eq_true rfl) dX9_pass_69 ?_
      obtain ⟨x18, h17, hf⟩ := cj_bd_s hf
      refine cj_cS1i C cw_X9_ones (ct_X9_ones hI h17) cjq_842 cjq_841 ⟨Nat.le_of_ble_eq_true rfl, Nat.le_of_ble_eq_true rfl⟩ (Nat.le_of_ble_eq_true rfl) dX9_pass_72 ?_
      refine cj_iadd C dX9_pass_75 ?_
      refine cj_istore_n (lv' := [(2, .int (x12 + x18)), (0, .ref (ad 0 0)), (3, .int x13)]) C dX9_pass_76 rfl (by decide) rfl ?_
      refine cj_iinc (lv' := [(3, .int (x13 + 1)), (2, .int (x12 + x18)), (0, .ref (ad 0 0))]) C dX9_pass_77 (j := 2) rfl rfl (by decide) rfl ?_
      refine cj_goto C 56 dX9_pass_80 rfl ?_
      refine cj_sub [2, 1, 0] rfl ?_
      exact ih (x12 + x18) (x13 + 1) hf
set_option maxHeartbeats 4000000 in
set_option maxRecDepth 100000 in
theorem ct_X9_pass {l : Launch} {D : va_G} {z : cj_Zc} {ad : cj_Ad} (hI : cj_Ij (cj_EM z) ad) {μ : cj_Mm} {s0 : cj_S} {a1 : Int32} {r : Int32} {r2 : cj_S} (hf : f_X9_pass s0 a1 = some (r, r2)) : cj_Ct l (cj_YM D z ad) yX9_pass cX9_pass 4 (some .int) 6 [.ref (ad 0 0), .int a1] (cj_upG μ 0 s0) (some (.int r)) (cj_upG μ 0 r2) := by
  refine cj_Ct.of (by decide +kernel) hI (Nat.le_of_ble_eq_true rfl) [(0, .ref (ad 0 0)), (1, .int a1)] rfl (fun X hX C => ?_)
  subst hX
  have C : cj_C (cj_YM D z ad) X cX9_pass 4 RX9 6 (some .int) := C
  unfold f_X9_pass at hf
  generalize hr2 : (r, r2) = r3 at hf
  obtain ⟨e1, e2⟩ : r = r3.1 ∧ r2 = r3.2 := by rw [← hr2]; exact ⟨rfl, rfl⟩
  rw [e1, e2]
  clear e1 e2 hr2
  obtain ⟨r, hr⟩ : ∃ r, r = r3 := ⟨_, rfl⟩
  rw [← hr] at hf ⊢
  clear hr
  refine cj_iload_n C dX9_pass_0 rfl 1 rfl ?_
  refine cj_iconst C 1 dX9_pass_1 rfl ?_
  refine cj_sipush C 300 dX9_pass_2 rfl ?_
  obtain ⟨x2, h1, hf⟩ := cj_bd_s hf
  refine cj_cS3i C cw_X9_in (ct_X9_in hI h1) cjq_771 cjq_770 ⟨Nat.le_of_ble_eq_true rfl, Nat.le_of_ble_eq_true rfl⟩ (Nat.le_of_ble_eq_true rfl) dX9_pass_5 ?_
  refine cj_if_ne C 14 dX9_pass_8 rfl hf (fun hf => ?_) (fun hf => ?_)
  · refine cj_aload_n C dX9_pass_14 rfl 0 rfl ?_
    refine cj_getS (v := .ref (ad 0 1)) (j := 0) C (eM_0 (z := z) (ad := ad)) rfl rfl cj_in9 (by decide) rfl cjq_720 rfl dX9_pass_15 ?_
    refine cj_iconst C 4 dX9_pass_18 rfl ?_
    refine cj_ialdKS (j := 4) C (eM_1 (z := z) (ad := ad)) rfl (by decide) dX9_pass_19 ?_
    refine cj_iload_n C dX9_pass_20 rfl 1 rfl ?_
    refine cj_iadd C dX9_pass_21 ?_
    refine cj_sipush C 9999 dX9_pass_22 rfl ?_
    refine cj_ic_le C 31 dX9_pass_25 rfl hf (fun hf => ?_) (fun hf => ?_)
    · refine cj_aload_n C dX9_pass_31 rfl 0 rfl ?_
      obtain ⟨s4, h3, hf⟩ := cj_bd_s hf
      refine cj_cV0v C cw_X9_changes (ct_X9_changes hI h3) cjq_782 cjq_1 cjq_780 (eM_0 (z := z) (ad := ad)) rfl rfl ⟨Nat.le_of_ble_eq_true rfl, Nat.le_of_ble_eq_true rfl⟩ (Nat.le_of_ble_eq_true rfl) dX9_pass_32 ?_
      refine cj_iconst C 0 dX9_pass_35 rfl ?_
      refine cj_istore_n (lv' := [(2, .int 0), (0, .ref (ad 0 0)), (1, .int a1)]) C dX9_pass_36 rfl (by decide) rfl ?_
      refine cj_sub [1, 2, 0] rfl ?_
      refine tl_X9_pass_L37 hI C (fun s11 hf => ?_) cj_FU 0 s4 hf
      refine cj_iconst C 0 dX9_pass_52 rfl ?_
      refine cj_istore_n (lv' := [(2, .int 0), (0, .ref (ad 0 0))]) C dX9_pass_53 rfl (by decide) rfl ?_
      refine cj_iconst C 0 dX9_pass_54 rfl ?_
      refine cj_istore_n (lv' := [(3, .int 0), (2, .int 0), (0, .ref (ad 0 0))]) C dX9_pass_55 rfl (by decide) rfl ?_
      refine cj_sub [2, 1, 0] rfl ?_
      exact tl_X9_pass_L56 hI C cj_FU 0 0 hf
    · refine cj_ldc C cjq_779 dX9_pass_28 ?_
      cases hf
      exact cj_iret C rfl dX9_pass_30
  · refine cj_ldc C cjq_773 dX9_pass_11 ?_
    cases hf
    exact cj_iret C rfl dX9_pass_13
set_option maxHeartbeats 4000000 in
set_option maxRecDepth 100000 in
theorem ct_X9_set {l : Launch} {D : va_G} {z : cj_Zc} {ad : cj_Ad} (hI : cj_Ij (cj_EM z) ad) {μ : cj_Mm} {s0 : cj_S} {a1 : Int32} {a2 : Int32} {r : Int32} {r2 : cj_S} (hf : f_X9_set s0 a1 a2 = some (r, r2)) : cj_Ct l (cj_YM D z ad) yX9_set cX9_set 4 (some .int) 1 [.ref (ad 0 0), .int a1, .int a2] (cj_upG μ 0 s0) (some (.int r)) (cj_upG μ 0 r2) := by
  refine cj_Ct.of (by decide +kernel) hI (Nat.le_of_ble_eq_true rfl) [(0, .ref (ad 0 0)), (1, .int a1), (2, .int a2)] rfl (fun X hX C => ?_)
  subst hX
  have C : cj_C (cj_YM D z ad) X cX9_set 4 RX9 1 (some .int) := C
  unfold f_X9_set at hf
  generalize hr2 : (r, r2) = r3 at hf
  obtain ⟨e1, e2⟩ : r = r3.1 ∧ r2 = r3.2 := by rw [← hr2]; exact ⟨rfl, rfl⟩
  rw [e1, e2]
  clear e1 e2 hr2
  obtain ⟨r, hr⟩ : ∃ r, r = r3 := ⟨_, rfl⟩
  rw [← hr] at hf ⊢
  clear hr
  refine cj_iload_n C dX9_set_0 rfl 1 rfl ?_
  refine cj_iconst C 0 dX9_set_1 rfl ?_
  refine cj_iconst C 1 dX9_set_2 rfl ?_
  obtain ⟨x2, h1, hf⟩ := cj_bd_s hf
  refine cj_cS3i C cw_X9_in (ct_X9_in hI h1) cjq_771 cjq_770 ⟨Nat.le_of_ble_eq_true rfl, Nat.le_of_ble_eq_true rfl⟩ (Nat.le_of_ble_eq_true rfl) dX9_set_3 ?_
  refine cj_if_eq C 31 dX9_set_6 rfl hf (fun hf => ?_) (fun hf => ?_)
  · refine cj_ldc C cjq_773 dX9_set_31 ?_
    cases hf
    exact cj_iret C rfl dX9_set_33
  · refine cj_iload_n C dX9_set_9 rfl 2 rfl ?_
    refine cj_iconst C 1 dX9_set_10 rfl ?_
    refine cj_iload_n C dX9_set_11 rfl 1 rfl ?_
    refine cj_isub C dX9_set_12 ?_
    refine cj_iload_n C dX9_set_13 rfl 1 rfl ?_
    refine cj_jn (Hyp := fun K3 => ∀ (x4 : Int32), K3 x4 = some r → cj_G (cj_YM D z ad) X (some (.int r.1), cj_upG μ 0 r.2) (cj_upG μ 0 s0) 25 [(0, .ref (ad 0 0)), (1, .int a1), (2, .int a2)] [.int x4, .int (1 - a1), .int a2]) hf (fun x4 hf => ?_) (fun K3 hK3 hf => ?_)
    · obtain ⟨x6, h5, hf⟩ := cj_bd_s hf
      refine cj_cS3i C cw_X9_in (ct_X9_in hI h5) cjq_771 cjq_770 ⟨Nat.le_of_ble_eq_true rfl, Nat.le_of_ble_eq_true rfl⟩ (Nat.le_of_ble_eq_true rfl) dX9_set_25 ?_
      refine cj_if_ne C 34 dX9_set_28 rfl hf (fun hf => ?_) (fun hf => ?_)
      · refine cj_aload_n C dX9_set_34 rfl 0 rfl ?_
        obtain ⟨s8, h7, hf⟩ := cj_bd_s hf
        refine cj_cV0v C cw_X9_changes (ct_X9_changes hI h7) cjq_782 cjq_1 cjq_780 (eM_0 (z := z) (ad := ad)) rfl rfl ⟨Nat.le_of_ble_eq_true rfl, Nat.le_of_ble_eq_true rfl⟩ (Nat.le_of_ble_eq_true rfl) dX9_set_35 ?_
        refine cj_aload_n C dX9_set_38 rfl 0 rfl ?_
        refine cj_getS (v := .ref (ad 0 1)) (j := 0) C (eM_0 (z := z) (ad := ad)) rfl rfl cj_in9 (by decide) rfl cjq_720 rfl dX9_set_39 ?_
        refine cj_bipush C 9 dX9_set_42 rfl ?_
        refine cj_iload_n C dX9_set_44 rfl 1 rfl ?_
        refine cj_iadd C dX9_set_45 ?_
        refine cj_ialdS C (eM_1 (z := z) (ad := ad)) dX9_set_46 hf (fun hf => ?_)
        refine cj_istore_n (lv' := [(3, .int (s8 1 (9 + a1).toNatClampNeg)), (0, .ref (ad 0 0)), (1, .int a1), (2, .int a2)]) C dX9_set_47 rfl (by decide) rfl ?_
        refine cj_aload_n C dX9_set_48 rfl 1 rfl ?_
        refine cj_getS (v := .ref (ad 0 1)) (j := 0) C (eM_0 (z := z) (ad := ad)) rfl rfl cj_in9 (by decide) rfl cjq_720 rfl dX9_set_49 ?_
        refine cj_bipush C 9 dX9_set_52 rfl ?_
        refine cj_iload_n C dX9_set_54 rfl 2 rfl ?_
        refine cj_iadd C dX9_set_55 ?_
        refine cj_iload_n C dX9_set_56 rfl 3 rfl ?_
        refine cj_iastS C (eM_1 (z := z) (ad := ad)) dX9_set_57 hf (fun hf => ?_)
        refine cj_ltS hf (fun s9 hf => ?_)
        refine cj_iload_n C dX9_set_58 rfl 0 rfl ?_
        cases hf
        exact cj_iret C rfl dX9_set_59
      · refine cj_ldc C cjq_773 dX9_set_31 ?_
        cases hf
        exact cj_iret C rfl dX9_set_33
    · refine cj_if_ne C 23 dX9_set_14 rfl hf (fun hf => ?_) (fun hf => ?_)
      · refine cj_bipush C 60 dX9_set_23 rfl ?_
        exact hK3 60 hf
      · refine cj_sipush C 200 dX9_set_17 rfl ?_
        refine cj_goto C 25 dX9_set_20 rfl ?_
        exact hK3 200 hf
set_option maxHeartbeats 4000000 in
set_option maxRecDepth 100000 in
theorem ct_X9_personOf {l : Launch} {D : va_G} {z : cj_Zc} {ad : cj_Ad} (hI : cj_Ij (cj_EM z) ad) {μ : cj_Mm} {s0 : cj_S} {a1 : Int32} {a2 : Int32} {r : Int32} (hf : f_X9_personOf s0 a1 a2 = some r) : cj_Ct l (cj_YM D z ad) yX9_personOf cX9_personOf 3 (some .int) 4 [.ref (ad 0 0), .int a1, .int a2] (cj_upG μ 0 s0) (some (.int r)) (cj_upG μ 0 s0) := by
  refine cj_Ct.of (by decide +kernel) hI (Nat.le_of_ble_eq_true rfl) [(0, .ref (ad 0 0)), (1, .int a1), (2, .int a2)] rfl (fun X hX C => ?_)
  subst hX
  have C : cj_C (cj_YM D z ad) X cX9_personOf 3 RX9 4 (some .int) := C
  unfold f_X9_personOf at hf
  refine cj_aload_n C dX9_personOf_0 rfl 0 rfl ?_
  refine cj_iload_n C dX9_personOf_1 rfl 1 rfl ?_
  obtain ⟨x2, h1, hf⟩ := cj_bd_s hf
  refine cj_cV1i C cw_X9_isPerson (ct_X9_isPerson hI h1) cjq_794 cjq_3 cjq_792 (eM_0 (z := z) (ad := ad)) rfl rfl ⟨Nat.le_of_ble_eq_true rfl, Nat.le_of_ble_eq_true rfl⟩ (Nat.le_of_ble_eq_true rfl) dX9_personOf_2 ?_
  refine cj_if_eq C 18 dX9_personOf_5 rfl hf (fun hf => ?_) (fun hf => ?_)
  · refine cj_ldc C cjq_773 dX9_personOf_18 ?_
    cases hf
    exact cj_iret C rfl dX9_personOf_20
  · refine cj_iload_n C dX9_personOf_8 rfl 2 rfl ?_
    refine cj_iconst C 0 dX9_personOf_9 rfl ?_
    refine cj_bipush C 8 dX9_personOf_10 rfl ?_
    obtain ⟨x4, h3, hf⟩ := cj_bd_s hf
    refine cj_cS3i C cw_X9_in (ct_X9_in hI h3) cjq_771 cjq_770 ⟨Nat.le_of_ble_eq_true rfl, Nat.le_of_ble_eq_true rfl⟩ (Nat.le_of_ble_eq_true rfl) dX9_personOf_12 ?_
    refine cj_if_ne C 21 dX9_personOf_15 rfl hf (fun hf => ?_) (fun hf => ?_)
    · refine cj_iload_n C dX9_personOf_21 rfl 2 rfl ?_
      refine cj_by hf (fun e7 hf => ?_) (fun e7 hf => ?_)
      · refine cj_tabI C 56 e7 dX9_personOf_22 (by decide) (by decide) rfl rfl ?_
        refine cj_aload_n C dX9_personOf_56 rfl 0 rfl ?_
        refine cj_iload_n C dX9_personOf_57 rfl 1 rfl ?_
        obtain ⟨x6, h5, hf⟩ := cj_bd_s hf
        refine cj_cV1i C cw_X9_seen (ct_X9_seen hI h5) cjq_798 cjq_4 cjq_796 (eM_0 (z := z) (ad := ad)) rfl rfl ⟨Nat.le_of_ble_eq_true rfl, Nat.le_of_ble_eq_true rfl⟩ (Nat.le_of_ble_eq_true rfl) dX9_personOf_58 ?_
        cases hf
        exact cj_iret C rfl dX9_personOf_61
      refine cj_by hf (fun e10 hf => ?_) (fun e10 hf => ?_)
      · refine cj_tabI C 62 e10 dX9_personOf_22 (by decide) (by decide) rfl rfl ?_
        refine cj_aload_n C dX9_personOf_62 rfl 0 rfl ?_
        refine cj_iload_n C dX9_personOf_63 rfl 1 rfl ?_
        obtain ⟨x9, h8, hf⟩ := cj_bd_s hf
        refine cj_cV1i C cw_X9_remembered (ct_X9_remembered hI h8) cjq_839 cjq_10 cjq_837 (eM_0 (z := z) (ad := ad)) rfl rfl ⟨Nat.le_of_ble_eq_true rfl, Nat.le_of_ble_eq_true rfl⟩ (Nat.le_of_ble_eq_true rfl) dX9_personOf_64 ?_
        cases hf
        exact cj_iret C rfl dX9_personOf_67
      refine cj_by hf (fun e13 hf => ?_) (fun e13 hf => ?_)
      · refine cj_tabI C 68 e13 dX9_personOf_22 (by decide) (by decide) rfl rfl ?_
        refine cj_aload_n C dX9_personOf_68 rfl 0 rfl ?_
        refine cj_iload_n C dX9_personOf_69 rfl 1 rfl ?_
        obtain ⟨x12, h11, hf⟩ := cj_bd_s hf
        refine cj_cV1i C cw_X9_hasVerdict (ct_X9_hasVerdict hI h11) cjq_858 cjq_12 cjq_856 (eM_0 (z := z) (ad := ad)) rfl rfl ⟨Nat.le_of_ble_eq_true rfl, Nat.le_of_ble_eq_true rfl⟩ (Nat.le_of_ble_eq_true rfl) dX9_personOf_70 ?_
        refine cj_if_eq C 80 dX9_personOf_73 rfl hf (fun hf => ?_) (fun hf => ?_)
        · refine cj_iconst C 0 dX9_personOf_80 rfl ?_
          cases hf
          exact cj_iret C rfl dX9_personOf_81
        · refine cj_iconst C 1 dX9_personOf_76 rfl ?_
          refine cj_goto C 81 dX9_personOf_77 rfl ?_
          cases hf
          exact cj_iret C rfl dX9_personOf_81
      refine cj_by hf (fun e16 hf => ?_) (fun e16 hf => ?_)
      · refine cj_tabI C 82 e16 dX9_personOf_22 (by decide) (by decide) rfl rfl ?_
        refine cj_aload_n C dX9_personOf_82 rfl 0 rfl ?_
        refine cj_iload_n C dX9_personOf_83 rfl 1 rfl ?_
        obtain ⟨x15, h14, hf⟩ := cj_bd_s hf
        refine cj_cV1i C cw_X9_sheetsOf (ct_X9_sheetsOf hI h14) cjq_866 cjq_14 cjq_864 (eM_0 (z := z) (ad := ad)) rfl rfl ⟨Nat.le_of_ble_eq_true rfl, Nat.le_of_ble_eq_true rfl⟩ (Nat.le_of_ble_eq_true rfl) dX9_personOf_84 ?_
        cases hf
        exact cj_iret C rfl dX9_personOf_87
      refine cj_by hf (fun e19 hf => ?_) (fun e19 hf => ?_)
      · refine cj_tabI C 88 e19 dX9_personOf_22 (by decide) (by decide) rfl rfl ?_
        refine cj_aload_n C dX9_personOf_88 rfl 0 rfl ?_
        refine cj_iload_n C dX9_personOf_89 rfl 1 rfl ?_
        refine cj_iconst C 5 dX9_personOf_90 rfl ?_
        obtain ⟨x18, h17, hf⟩ := cj_bd_s hf
        refine cj_cV2i C cw_X9_of (ct_X9_of hI h17) cjq_776 cjq_0 cjq_774 (eM_0 (z := z) (ad := ad)) rfl rfl ⟨Nat.le_of_ble_eq_true rfl, Nat.le_of_ble_eq_true rfl⟩ (Nat.le_of_ble_eq_true rfl) dX9_personOf_91 ?_
        cases hf
        exact cj_iret C rfl dX9_personOf_94
      refine cj_tabD C 95 [4, 5, 6, 7, 8] (List.forall_mem_cons.mpr ⟨e7, List.forall_mem_cons.mpr ⟨e10, List.forall_mem_cons.mpr ⟨e13, List.forall_mem_cons.mpr ⟨e16, List.forall_mem_cons.mpr ⟨e19, fun _ h => absurd h List.not_mem_nil⟩⟩⟩⟩⟩) dX9_personOf_22 (by decide +kernel) rfl ?_
      refine cj_aload_n C dX9_personOf_95 rfl 0 rfl ?_
      refine cj_iload_n C dX9_personOf_96 rfl 1 rfl ?_
      refine cj_iload_n C dX9_personOf_97 rfl 2 rfl ?_
      obtain ⟨x21, h20, hf⟩ := cj_bd_s hf
      refine cj_cV2i C cw_X9_of (ct_X9_of hI h20) cjq_776 cjq_0 cjq_774 (eM_0 (z := z) (ad := ad)) rfl rfl ⟨Nat.le_of_ble_eq_true rfl, Nat.le_of_ble_eq_true rfl⟩ (Nat.le_of_ble_eq_true rfl) dX9_personOf_98 ?_
      cases hf
      exact cj_iret C rfl dX9_personOf_101
    · refine cj_ldc C cjq_773 dX9_personOf_18 ?_
      cases hf
      exact cj_iret C rfl dX9_personOf_20
set_option maxHeartbeats 4000000 in
set_option maxRecDepth 100000 in
theorem ct_X9_sheetOf {l : Launch} {D : va_G} {z : cj_Zc} {ad : cj_Ad} (hI : cj_Ij (cj_EM z) ad) {μ : cj_Mm} {s0 : cj_S} {a1 : Int32} {a2 : Int32} {r : Int32} (hf : f_X9_sheetOf s0 a1 a2 = some r) : cj_Ct l (cj_YM D z ad) yX9_sheetOf cX9_sheetOf 4 (some .int) 3 [.ref (ad 0 0), .int a1, .int a2] (cj_upG μ 0 s0) (some (.int r)) (cj_upG μ 0 s0) := by
  refine cj_Ct.of (by decide +kernel) hI (Nat.le_of_ble_eq_true rfl) [(0, .ref (ad 0 0)), (1, .int a1), (2, .int a2)] rfl (fun X hX C => ?_)
  subst hX
  have C : cj_C (cj_YM D z ad) X cX9_sheetOf 4 RX9 3 (some .int) := C
  unfold f_X9_sheetOf at hf
  refine cj_aload_n C dX9_sheetOf_0 rfl 0 rfl ?_
  refine cj_iload_n C dX9_sheetOf_1 rfl 1 rfl ?_
  obtain ⟨x2, h1, hf⟩ := cj_bd_s hf
  refine cj_cV1i C cw_X9_slot (ct_X9_slot hI h1) cjq_826 cjq_7 cjq_824 (eM_0 (z := z) (ad := ad)) rfl rfl ⟨Nat.le_of_ble_eq_true rfl, Nat.le_of_ble_eq_true rfl⟩ (Nat.le_of_ble_eq_true rfl) dX9_sheetOf_2 ?_
  refine cj_istore_n (lv' := [(3, .int x2), (0, .ref (ad 0 0)), (1, .int a1), (2, .int a2)]) C dX9_sheetOf_5 rfl (by decide) rfl ?_
  refine cj_iload_n C dX9_sheetOf_6 rfl 0 rfl ?_
  refine cj_if_lt C 19 dX9_sheetOf_7 rfl hf (fun hf => ?_) (fun hf => ?_)
  · refine cj_ldc C cjq_773 dX9_sheetOf_19 ?_
    cases hf
    exact cj_iret C rfl dX9_sheetOf_21
  · refine cj_iload_n C dX9_sheetOf_10 rfl 3 rfl ?_
    refine cj_iconst C 0 dX9_sheetOf_11 rfl ?_
    refine cj_iconst C 5 dX9_sheetOf_12 rfl ?_
    obtain ⟨x4, h3, hf⟩ := cj_bd_s hf
    refine cj_cS3i C cw_X9_in (ct_X9_in hI h3) cjq_771 cjq_770 ⟨Nat.le_of_ble_eq_true rfl, Nat.le_of_ble_eq_true rfl⟩ (Nat.le_of_ble_eq_true rfl) dX9_sheetOf_13 ?_
    refine cj_if_ne C 22 dX9_sheetOf_16 rfl hf (fun hf => ?_) (fun hf => ?_)
    · refine cj_iload_n C dX9_sheetOf_22 rfl 3 rfl ?_
      refine cj_by hf (fun e7 hf => ?_) (fun e7 hf => ?_)
      · refine cj_tabI C 56 e7 dX9_sheetOf_23 (by decide) (by decide) rfl rfl ?_
        refine cj_aload_n C dX9_sheetOf_56 rfl 1 rfl ?_
        refine cj_iload_n C dX9_sheetOf_57 rfl 0 rfl ?_
        refine cj_iload_n C dX9_sheetOf_58 rfl 3 rfl ?_
        refine cj_iconst C 1 dX9_sheetOf_59 rfl ?_
        refine cj_iadd C dX9_sheetOf_60 ?_
        obtain ⟨x6, h5, hf⟩ := cj_bd_s hf
        refine cj_cV2i C cw_X9_ofSheet (ct_X9_ofSheet hI h5) cjq_830 cjq_8 cjq_828 (eM_0 (z := z) (ad := ad)) rfl rfl ⟨Nat.le_of_ble_eq_true rfl, Nat.le_of_ble_eq_true rfl⟩ (Nat.le_of_ble_eq_true rfl) dX9_sheetOf_61 ?_
        cases hf
        exact cj_iret C rfl dX9_sheetOf_64
      refine cj_by hf (fun e10 hf => ?_) (fun e10 hf => ?_)
      · refine cj_tabI C 56 e10 dX9_sheetOf_23 (by decide) (by decide) rfl rfl ?_
        refine cj_aload_n C dX9_sheetOf_56 rfl 1 rfl ?_
        refine cj_iload_n C dX9_sheetOf_57 rfl 0 rfl ?_
        refine cj_iload_n C dX9_sheetOf_58 rfl 3 rfl ?_
        refine cj_iconst C 1 dX9_sheetOf_59 rfl ?_
        refine cj_iadd C dX9_sheetOf_60 ?_
        obtain ⟨x9, h8, hf⟩ := cj_bd_s hf
        refine cj_cV2i C cw_X9_ofSheet (ct_X9_ofSheet hI h8) cjq_830 cjq_8 cjq_828 (eM_0 (z := z) (ad := ad)) rfl rfl ⟨Nat.le_of_ble_eq_true rfl, Nat.le_of_ble_eq_true rfl⟩ (Nat.le_of_ble_eq_true rfl) dX9_sheetOf_61 ?_
        cases hf
        exact cj_iret C rfl dX9_sheetOf_64
      refine cj_by hf (fun e15 hf => ?_) (fun e15 hf => ?_)
      · refine cj_tabI C 65 e15 dX9_sheetOf_23 (by decide) (by decide) rfl rfl ?_
        refine cj_aload_n C dX9_sheetOf_65 rfl 1 rfl ?_
        refine cj_iload_n C dX9_sheetOf_66 rfl 0 rfl ?_
        refine cj_iconst C 2 dX9_sheetOf_67 rfl ?_
        obtain ⟨x12, h11, hf⟩ := cj_bd_s hf
        refine cj_cV2i C cw_X9_ofSheet (ct_X9_ofSheet hI h11) cjq_830 cjq_8 cjq_828 (eM_0 (z := z) (ad := ad)) rfl rfl ⟨Nat.le_of_ble_eq_true rfl, Nat.le_of_ble_eq_true rfl⟩ (Nat.le_of_ble_eq_true rfl) dX9_sheetOf_68 ?_
        obtain ⟨x14, h13, hf⟩ := cj_bd_s hf
        refine cj_cS1i C cw_X9_ones (ct_X9_ones hI h13) cjq_842 cjq_841 ⟨Nat.le_of_ble_eq_true rfl, Nat.le_of_ble_eq_true rfl⟩ (Nat.le_of_ble_eq_true rfl) dX9_sheetOf_71 ?_
        cases hf
        exact cj_iret C rfl dX9_sheetOf_74
      refine cj_by hf (fun e18 hf => ?_) (fun e18 hf => ?_)
      · refine cj_tabI C 75 e18 dX9_sheetOf_23 (by decide) (by decide) rfl rfl ?_
        refine cj_aload_n C dX9_sheetOf_75 rfl 1 rfl ?_
        refine cj_iload_n C dX9_sheetOf_76 rfl 0 rfl ?_
        obtain ⟨x17, h16, hf⟩ := cj_bd_s hf
        refine cj_cV1i C cw_X9_isDry (ct_X9_isDry hI h16) cjq_882 cjq_17 cjq_880 (eM_0 (z := z) (ad := ad)) rfl rfl ⟨Nat.le_of_ble_eq_true rfl, Nat.le_of_ble_eq_true rfl⟩ (Nat.le_of_ble_eq_true rfl) dX9_sheetOf_77 ?_
        refine cj_if_eq C 87 dX9_sheetOf_80 rfl hf (fun hf => ?_) (fun hf => ?_)
        · refine cj_iconst C 0 dX9_sheetOf_87 rfl ?_
          cases hf
          exact cj_iret C rfl dX9_sheetOf_88
        · refine cj_iconst C 1 dX9_sheetOf_83 rfl ?_
          refine cj_goto C 88 dX9_sheetOf_84 rfl ?_
          cases hf
          exact cj_iret C rfl dX9_sheetOf_88
      refine cj_by hf (fun e23 hf => ?_) (fun e23 hf => ?_)
      · refine cj_tabI C 89 e23 dX9_sheetOf_23 (by decide) (by decide) rfl rfl ?_
        refine cj_aload_n C dX9_sheetOf_89 rfl 1 rfl ?_
        refine cj_iload_n C dX9_sheetOf_90 rfl 0 rfl ?_
        refine cj_iconst C 3 dX9_sheetOf_91 rfl ?_
        obtain ⟨x20, h19, hf⟩ := cj_bd_s hf
        refine cj_cV2i C cw_X9_ofSheet (ct_X9_ofSheet hI h19) cjq_830 cjq_8 cjq_828 (eM_0 (z := z) (ad := ad)) rfl rfl ⟨Nat.le_of_ble_eq_true rfl, Nat.le_of_ble_eq_true rfl⟩ (Nat.le_of_ble_eq_true rfl) dX9_sheetOf_92 ?_
        refine cj_aload_n C dX9_sheetOf_95 rfl 1 rfl ?_
        refine cj_getS (v := .ref (ad 0 1)) (j := 0) C (eM_0 (z := z) (ad := ad)) rfl rfl cj_in9 (by decide) rfl cjq_720 rfl dX9_sheetOf_96 ?_
        refine cj_iconst C 4 dX9_sheetOf_99 rfl ?_
        refine cj_ialdKS (j := 4) C (eM_1 (z := z) (ad := ad)) rfl (by decide) dX9_sheetOf_100 ?_
        refine cj_ic_le C 120 dX9_sheetOf_101 rfl hf (fun hf => ?_) (fun hf => ?_)
        · refine cj_iconst C 0 dX9_sheetOf_120 rfl ?_
          cases hf
          exact cj_iret C rfl dX9_sheetOf_121
        · refine cj_aload_n C dX9_sheetOf_104 rfl 1 rfl ?_
          refine cj_iload_n C dX9_sheetOf_105 rfl 0 rfl ?_
          refine cj_iconst C 3 dX9_sheetOf_106 rfl ?_
          obtain ⟨x22, h21, hf⟩ := cj_bd_s hf
          refine cj_cV2i C cw_X9_ofSheet (ct_X9_ofSheet hI h21) cjq_830 cjq_8 cjq_828 (eM_0 (z := z) (ad := ad)) rfl rfl ⟨Nat.le_of_ble_eq_true rfl, Nat.le_of_ble_eq_true rfl⟩ (Nat.le_of_ble_eq_true rfl) dX9_sheetOf_107 ?_
          refine cj_aload_n C dX9_sheetOf_110 rfl 1 rfl ?_
          refine cj_getS (v := .ref (ad 0 1)) (j := 0) C (eM_0 (z := z) (ad := ad)) rfl rfl cj_in9 (by decide) rfl cjq_720 rfl dX9_sheetOf_111 ?_
          refine cj_iconst C 4 dX9_sheetOf_114 rfl ?_
          refine cj_ialdKS (j := 4) C (eM_1 (z := z) (ad := ad)) rfl (by decide) dX9_sheetOf_115 ?_
          refine cj_isub C dX9_sheetOf_116 ?_
          refine cj_goto C 121 dX9_sheetOf_117 rfl ?_
          cases hf
          exact cj_iret C rfl dX9_sheetOf_121
      refine cj_tabD C 122 [0, 1, 2, 3, 4] (List.forall_mem_cons.mpr ⟨e7, List.forall_mem_cons.mpr ⟨e10, List.forall_mem_cons.mpr ⟨e15, List.forall_mem_cons.mpr ⟨e18, List.forall_mem_cons.mpr ⟨e23, fun _ h => absurd h List.not_mem_nil⟩⟩⟩⟩⟩) dX9_sheetOf_23 (by decide +kernel) rfl ?_
      refine cj_aload_n C dX9_sheetOf_122 rfl 1 rfl ?_
      refine cj_iload_n C dX9_sheetOf_123 rfl 0 rfl ?_
      obtain ⟨x25, h24, hf⟩ := cj_bd_s hf
      refine cj_cV1i C cw_X9_drawable (ct_X9_drawable hI h24) cjq_835 cjq_9 cjq_833 (eM_0 (z := z) (ad := ad)) rfl rfl ⟨Nat.le_of_ble_eq_true rfl, Nat.le_of_ble_eq_true rfl⟩ (Nat.le_of_ble_eq_true rfl) dX9_sheetOf_124 ?_
      cases hf
      exact cj_iret C rfl dX9_sheetOf_127
    · refine cj_ldc C cjq_773 dX9_sheetOf_19 ?_
      cases hf
      exact cj_iret C rfl dX9_sheetOf_21
set_option maxHeartbeats 4000000 in
set_option maxRecDepth 100000 in
theorem ct_X9_paperOf {l : Launch} {D : va_G} {z : cj_Zc} {ad : cj_Ad} (hI : cj_Ij (cj_EM z) ad) {μ : cj_Mm} {s0 : cj_S} {a1 : Int32} {a2 : Int32} {r : Int32} (hf : f_X9_paperOf s0 a1 a2 = some r) : cj_Ct l (cj_YM D z ad) yX9_paperOf cX9_paperOf 3 (some .int) 2 [.ref (ad 0 0), .int a1, .int a2] (cj_upG μ 0 s0) (some (.int r)) (cj_upG μ 0 s0) := by
  refine cj_Ct.of (by decide +kernel) hI (Nat.le_of_ble_eq_true rfl) [(0, .ref (ad 0 0)), (1, .int a1), (2, .int a2)] rfl (fun X hX C => ?_)
  subst hX
  have C : cj_C (cj_YM D z ad) X cX9_paperOf 3 RX9 2 (some .int) := C
  unfold f_X9_paperOf at hf
  refine cj_aload_n C dX9_paperOf_0 rfl 0 rfl ?_
  refine cj_iload_n C dX9_paperOf_1 rfl 1 rfl ?_
  obtain ⟨x2, h1, hf⟩ := cj_bd_s hf
  refine cj_cV1i C cw_X9_isPaper (ct_X9_isPaper hI h1) cjq_874 cjq_15 cjq_872 (eM_0 (z := z) (ad := ad)) rfl rfl ⟨Nat.le_of_ble_eq_true rfl, Nat.le_of_ble_eq_true rfl⟩ (Nat.le_of_ble_eq_true rfl) dX9_paperOf_2 ?_
  refine cj_if_eq C 17 dX9_paperOf_5 rfl hf (fun hf => ?_) (fun hf => ?_)
  · refine cj_ldc C cjq_773 dX9_paperOf_17 ?_
    cases hf
    exact cj_iret C rfl dX9_paperOf_19
  · refine cj_iload_n C dX9_paperOf_8 rfl 2 rfl ?_
    refine cj_iconst C 0 dX9_paperOf_9 rfl ?_
    refine cj_iconst C 4 dX9_paperOf_10 rfl ?_
    obtain ⟨x4, h3, hf⟩ := cj_bd_s hf
    refine cj_cS3i C cw_X9_in (ct_X9_in hI h3) cjq_771 cjq_770 ⟨Nat.le_of_ble_eq_true rfl, Nat.le_of_ble_eq_true rfl⟩ (Nat.le_of_ble_eq_true rfl) dX9_paperOf_11 ?_
    refine cj_if_ne C 20 dX9_paperOf_14 rfl hf (fun hf => ?_) (fun hf => ?_)
    · refine cj_iload_n C dX9_paperOf_20 rfl 2 rfl ?_
      refine cj_iconst C 4 dX9_paperOf_21 rfl ?_
      refine cj_ic_ge C 34 dX9_paperOf_22 rfl hf (fun hf => ?_) (fun hf => ?_)
      · refine cj_aload_n C dX9_paperOf_34 rfl 0 rfl ?_
        refine cj_iload_n C dX9_paperOf_35 rfl 1 rfl ?_
        obtain ⟨x6, h5, hf⟩ := cj_bd_s hf
        refine cj_cV1i C cw_X9_boughtOf (ct_X9_boughtOf hI h5) cjq_886 cjq_18 cjq_884 (eM_0 (z := z) (ad := ad)) rfl rfl ⟨Nat.le_of_ble_eq_true rfl, Nat.le_of_ble_eq_true rfl⟩ (Nat.le_of_ble_eq_true rfl) dX9_paperOf_36 ?_
        cases hf
        exact cj_iret C rfl dX9_paperOf_39
      · refine cj_aload_n C dX9_paperOf_25 rfl 0 rfl ?_
        refine cj_iload_n C dX9_paperOf_26 rfl 1 rfl ?_
        refine cj_iload_n C dX9_paperOf_27 rfl 2 rfl ?_
        obtain ⟨x8, h7, hf⟩ := cj_bd_s hf
        refine cj_cV2i C cw_X9_ofPaper (ct_X9_ofPaper hI h7) cjq_890 cjq_19 cjq_888 (eM_0 (z := z) (ad := ad)) rfl rfl ⟨Nat.le_of_ble_eq_true rfl, Nat.le_of_ble_eq_true rfl⟩ (Nat.le_of_ble_eq_true rfl) dX9_paperOf_28 ?_
        refine cj_goto C 39 dX9_paperOf_31 rfl ?_
        cases hf
        exact cj_iret C rfl dX9_paperOf_39
    · refine cj_ldc C cjq_773 dX9_paperOf_17 ?_
      cases hf
      exact cj_iret C rfl dX9_paperOf_19
