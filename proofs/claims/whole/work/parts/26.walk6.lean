set_option maxHeartbeats 4000000 in
set_option maxRecDepth 100000 in
theorem ct_X9_price {l : Launch} {D : va_G} {z : cj_Zc} {ad : cj_Ad} (hI : cj_Ij (cj_EM z) ad) {μ : cj_Mm} {s0 : cj_S} {a1 : Int32} {a2 : Int32} {r : Int32} (hf : f_X9_price s0 a1 a2 = some r) : cj_Ct l (cj_YM D z ad) yX9_price cX9_price 4 (some .int) 3 [.ref (ad 0 0), .int a1, .int a2] (cj_upG μ 0 s0) (some (.int r)) (cj_upG μ 0 s0) := by
  refine cj_Ct.of (by decide +kernel) hI (Nat.le_of_ble_eq_true rfl) [(0, .ref (ad 0 0)), (1, .int a1), (2, .int a2)] rfl (fun X hX C => ?_)
  subst hX
  have C : cj_C (cj_YM D z ad) X cX9_price 4 RX9 3 (some .int) := C
  unfold f_X9_price at hf
  refine cj_aload_n C dX9_price_0 rfl 0 rfl ?_
  refine cj_iload_n C dX9_price_1 rfl 1 rfl ?_
  obtain ⟨x2, h1, hf⟩ := cj_bd_s hf
  refine cj_cV1i C cw_X9_slot (ct_X9_slot hI h1) cjq_826 cjq_7 cjq_824 (eM_0 (z := z) (ad := ad)) rfl rfl ⟨Nat.le_of_ble_eq_true rfl, Nat.le_of_ble_eq_true rfl⟩ (Nat.le_of_ble_eq_true rfl) dX9_price_2 ?_
  refine cj_istore_n (lv' := [(3, .int x2), (0, .ref (ad 0 0)), (1, .int a1), (2, .int a2)]) C dX9_price_5 rfl (by decide) rfl ?_
  refine cj_iload_n C dX9_price_6 rfl 0 rfl ?_
  refine cj_if_lt C 27 dX9_price_7 rfl hf (fun hf => ?_) (fun hf => ?_)
  · refine cj_ldc C cjq_773 dX9_price_27 ?_
    cases hf
    exact cj_iret C rfl dX9_price_29
  · refine cj_aload_n C dX9_price_10 rfl 1 rfl ?_
    refine cj_iload_n C dX9_price_11 rfl 3 rfl ?_
    obtain ⟨x4, h3, hf⟩ := cj_bd_s hf
    refine cj_cV1i C cw_X9_isPaper (ct_X9_isPaper hI h3) cjq_874 cjq_15 cjq_872 (eM_0 (z := z) (ad := ad)) rfl rfl ⟨Nat.le_of_ble_eq_true rfl, Nat.le_of_ble_eq_true rfl⟩ (Nat.le_of_ble_eq_true rfl) dX9_price_12 ?_
    refine cj_if_eq C 27 dX9_price_15 rfl hf (fun hf => ?_) (fun hf => ?_)
    · refine cj_ldc C cjq_773 dX9_price_27 ?_
      cases hf
      exact cj_iret C rfl dX9_price_29
    · refine cj_aload_n C dX9_price_18 rfl 1 rfl ?_
      refine cj_iload_n C dX9_price_19 rfl 0 rfl ?_
      refine cj_iload_n C dX9_price_20 rfl 3 rfl ?_
      obtain ⟨x6, h5, hf⟩ := cj_bd_s hf
      refine cj_cV2i C cw_X9_priceOf (ct_X9_priceOf hI h5) cjq_898 cjq_21 cjq_896 (eM_0 (z := z) (ad := ad)) rfl rfl ⟨Nat.le_of_ble_eq_true rfl, Nat.le_of_ble_eq_true rfl⟩ (Nat.le_of_ble_eq_true rfl) dX9_price_21 ?_
      refine cj_goto C 29 dX9_price_24 rfl ?_
      cases hf
      exact cj_iret C rfl dX9_price_29
set_option maxHeartbeats 4000000 in
set_option maxRecDepth 100000 in
theorem ct_X9_number {l : Launch} {D : va_G} {z : cj_Zc} {ad : cj_Ad} (hI : cj_Ij (cj_EM z) ad) {μ : cj_Mm} {s0 : cj_S} {a1 : Int32} {r : Int32} (hf : f_X9_number s0 a1 = some r) : cj_Ct l (cj_YM D z ad) yX9_number cX9_number 2 (some .int) 1 [.ref (ad 0 0), .int a1] (cj_upG μ 0 s0) (some (.int r)) (cj_upG μ 0 s0) := by
  refine cj_Ct.of (by decide +kernel) hI (Nat.le_of_ble_eq_true rfl) [(0, .ref (ad 0 0)), (1, .int a1)] rfl (fun X hX C => ?_)
  subst hX
  have C : cj_C (cj_YM D z ad) X cX9_number 2 RX9 1 (some .int) := C
  unfold f_X9_number at hf
  refine cj_iload_n C dX9_number_0 rfl 1 rfl ?_
  refine cj_if_ge C 9 dX9_number_1 rfl hf (fun hf => ?_) (fun hf => ?_)
  · refine cj_iload_n C dX9_number_9 rfl 1 rfl ?_
    refine cj_aload_n C dX9_number_10 rfl 0 rfl ?_
    refine cj_getS (v := .ref (ad 0 1)) (j := 0) C (eM_0 (z := z) (ad := ad)) rfl rfl cj_in9 (by decide) rfl cjq_720 rfl dX9_number_11 ?_
    refine cj_iconst C 2 dX9_number_14 rfl ?_
    refine cj_ialdKS (j := 2) C (eM_1 (z := z) (ad := ad)) rfl (by decide) dX9_number_15 ?_
    refine cj_ic_ge C 28 dX9_number_16 rfl hf (fun hf => ?_) (fun hf => ?_)
    · refine cj_ldc C cjq_832 dX9_number_28 ?_
      cases hf
      exact cj_iret C rfl dX9_number_30
    · refine cj_aload_n C dX9_number_19 rfl 0 rfl ?_
      refine cj_iload_n C dX9_number_20 rfl 1 rfl ?_
      refine cj_iconst C 0 dX9_number_21 rfl ?_
      obtain ⟨x2, h1, hf⟩ := cj_bd_s hf
      refine cj_cV2i C cw_X9_ofSheet (ct_X9_ofSheet hI h1) cjq_830 cjq_8 cjq_828 (eM_0 (z := z) (ad := ad)) rfl rfl ⟨Nat.le_of_ble_eq_true rfl, Nat.le_of_ble_eq_true rfl⟩ (Nat.le_of_ble_eq_true rfl) dX9_number_22 ?_
      refine cj_goto C 30 dX9_number_25 rfl ?_
      cases hf
      exact cj_iret C rfl dX9_number_30
  · refine cj_ldc C cjq_773 dX9_number_4 ?_
    refine cj_goto C 30 dX9_number_6 rfl ?_
    cases hf
    exact cj_iret C rfl dX9_number_30
set_option maxHeartbeats 4000000 in
set_option maxRecDepth 100000 in
theorem tl_X9_seenIn_L23 {D : va_G} {z : cj_Zc} {ad : cj_Ad} (hI : cj_Ij (cj_EM z) ad) {μ : cj_Mm} {y5 : Int32} {y6 : Int32} {s8 : cj_S} {X : cj_X} (C : cj_C (cj_YM D z ad) X cX9_seenIn 5 RX9 3 (some .int)) {r : Int32} : ∀ (n : Nat) (x7 : Int32), f_X9_seenIn_L23 y5 y6 s8 n x7 = some r → cj_G (cj_YM D z ad) X (some (.int r), cj_upG μ 0 s8) (cj_upG μ 0 s8) 23 [(0, .ref (ad 0 0)), (1, .int y5), (2, .int y6), (3, .int x7)] [] := by
  intro n
  induction n with
  | zero =>
    intro x7 hf
    rw [f_X9_seenIn_L23] at hf
    cases hf
  | succ n ih =>
    intro x7 hf
    rw [f_X9_seenIn_L23] at hf
    refine cj_iload_n C dX9_seenIn_23 rfl 3 rfl ?_
    refine cj_bipush C 12 dX9_seenIn_24 rfl ?_
    refine cj_ic_ge C 72 dX9_seenIn_26 rfl hf (fun hf => ?_) (fun hf => ?_)
    · refine cj_ldc C cjq_832 dX9_seenIn_72 ?_
      cases hf
      exact cj_iret C rfl dX9_seenIn_74
    · refine cj_aload_n C dX9_seenIn_29 rfl 0 rfl ?_
      refine cj_iload_n C dX9_seenIn_30 rfl 1 rfl ?_
      refine cj_iconst C 2 dX9_seenIn_31 rfl ?_
      obtain ⟨x10, h9, hf⟩ := cj_bd_s hf
      refine cj_cV2i C cw_X9_of (ct_X9_of hI h9) cjq_776 cjq_0 cjq_774 (eM_0 (z := z) (ad := ad)) rfl rfl ⟨Nat.le_of_ble_eq_true rfl, Nat.le_of_ble_eq_true rfl⟩ (Nat.le_of_ble_eq_true rfl) dX9_seenIn_32 ?_
      refine cj_iload_n C dX9_seenIn_35 rfl 3 rfl ?_
      refine cj_aload_n C dX9_seenIn_36 rfl 0 rfl ?_
      refine cj_iload_n C dX9_seenIn_37 rfl 1 rfl ?_
      refine cj_iconst C 3 dX9_seenIn_38 rfl ?_
      obtain ⟨x12, h11, hf⟩ := cj_bd_s hf
      refine cj_cV2i C cw_X9_of (ct_X9_of hI h11) cjq_776 cjq_0 cjq_774 (eM_0 (z := z) (ad := ad)) rfl rfl ⟨Nat.le_of_ble_eq_true rfl, Nat.le_of_ble_eq_true rfl⟩ (Nat.le_of_ble_eq_true rfl) dX9_seenIn_39 ?_
      refine cj_imul C dX9_seenIn_42 ?_
      refine cj_iadd C dX9_seenIn_43 ?_
      refine cj_ltI hf (fun x13 hf => ?_)
      refine cj_bipush C 12 dX9_seenIn_44 rfl ?_
      refine cj_irem C dX9_seenIn_46 (by decide) ?_
      refine cj_ltI hf (fun x14 hf => ?_)
      refine cj_istore (lv' := [(4, .int x14), (0, .ref (ad 0 0)), (1, .int y5), (2, .int y6), (3, .int x7)]) C dX9_seenIn_47 (by decide) rfl ?_
      refine cj_aload_n C dX9_seenIn_49 rfl 1 rfl ?_
      refine cj_iload_n C dX9_seenIn_50 rfl 2 rfl ?_
      refine cj_iload C dX9_seenIn_51 0 rfl ?_
      obtain ⟨x16, h15, hf⟩ := cj_bd_s hf
      refine cj_cV2i C cw_X9_seenAt (ct_X9_seenAt hI h15) cjq_802 cjq_5 cjq_800 (eM_0 (z := z) (ad := ad)) rfl rfl ⟨Nat.le_of_ble_eq_true rfl, Nat.le_of_ble_eq_true rfl⟩ (Nat.le_of_ble_eq_true rfl) dX9_seenIn_53 ?_
      refine cj_iload_n C dX9_seenIn_56 rfl 3 rfl ?_
      refine cj_ishr C dX9_seenIn_57 ?_
      refine cj_iconst C 1 dX9_seenIn_58 rfl ?_
      refine cj_iand C dX9_seenIn_59 ?_
      refine cj_iconst C 1 dX9_seenIn_60 rfl ?_
      refine cj_ic_ne C 66 dX9_seenIn_61 rfl hf (fun hf => ?_) (fun hf => ?_)
      · refine cj_iinc (lv' := [(3, .int (x7 + 1)), (4, .int x14), (0, .ref (ad 0 0)), (1, .int y5), (2, .int y6)]) C dX9_seenIn_66 (j := 4) rfl rfl (by decide) rfl ?_
        refine cj_goto C 23 dX9_seenIn_69 rfl ?_
        refine cj_sub [2, 3, 4, 0] rfl ?_
        exact ih (x7 + 1) hf
      · refine cj_iload_n C dX9_seenIn_64 rfl 4 rfl ?_
        cases hf
        exact cj_iret C rfl dX9_seenIn_65
set_option maxHeartbeats 4000000 in
set_option maxRecDepth 100000 in
theorem ct_X9_seenIn {l : Launch} {D : va_G} {z : cj_Zc} {ad : cj_Ad} (hI : cj_Ij (cj_EM z) ad) {μ : cj_Mm} {s0 : cj_S} {a1 : Int32} {a2 : Int32} {r : Int32} (hf : f_X9_seenIn s0 a1 a2 = some r) : cj_Ct l (cj_YM D z ad) yX9_seenIn cX9_seenIn 5 (some .int) 3 [.ref (ad 0 0), .int a1, .int a2] (cj_upG μ 0 s0) (some (.int r)) (cj_upG μ 0 s0) := by
  refine cj_Ct.of (by decide +kernel) hI (Nat.le_of_ble_eq_true rfl) [(0, .ref (ad 0 0)), (1, .int a1), (2, .int a2)] rfl (fun X hX C => ?_)
  subst hX
  have C : cj_C (cj_YM D z ad) X cX9_seenIn 5 RX9 3 (some .int) := C
  unfold f_X9_seenIn at hf
  refine cj_aload_n C dX9_seenIn_0 rfl 0 rfl ?_
  refine cj_iload_n C dX9_seenIn_1 rfl 1 rfl ?_
  obtain ⟨x2, h1, hf⟩ := cj_bd_s hf
  refine cj_cV1i C cw_X9_isPerson (ct_X9_isPerson hI h1) cjq_794 cjq_3 cjq_792 (eM_0 (z := z) (ad := ad)) rfl rfl ⟨Nat.le_of_ble_eq_true rfl, Nat.le_of_ble_eq_true rfl⟩ (Nat.le_of_ble_eq_true rfl) dX9_seenIn_2 ?_
  refine cj_if_eq C 18 dX9_seenIn_5 rfl hf (fun hf => ?_) (fun hf => ?_)
  · refine cj_ldc C cjq_773 dX9_seenIn_18 ?_
    cases hf
    exact cj_iret C rfl dX9_seenIn_20
  · refine cj_iload_n C dX9_seenIn_8 rfl 2 rfl ?_
    refine cj_iconst C 0 dX9_seenIn_9 rfl ?_
    refine cj_bipush C 11 dX9_seenIn_10 rfl ?_
    obtain ⟨x4, h3, hf⟩ := cj_bd_s hf
    refine cj_cS3i C cw_X9_in (ct_X9_in hI h3) cjq_771 cjq_770 ⟨Nat.le_of_ble_eq_true rfl, Nat.le_of_ble_eq_true rfl⟩ (Nat.le_of_ble_eq_true rfl) dX9_seenIn_12 ?_
    refine cj_if_ne C 21 dX9_seenIn_15 rfl hf (fun hf => ?_) (fun hf => ?_)
    · refine cj_iconst C 0 dX9_seenIn_21 rfl ?_
      refine cj_istore_n (lv' := [(3, .int 0), (0, .ref (ad 0 0)), (1, .int a1), (2, .int a2)]) C dX9_seenIn_22 rfl (by decide) rfl ?_
      refine cj_sub [1, 2, 3, 0] rfl ?_
      exact tl_X9_seenIn_L23 hI C cj_FU 0 hf
    · refine cj_ldc C cjq_773 dX9_seenIn_18 ?_
      cases hf
      exact cj_iret C rfl dX9_seenIn_20
set_option maxHeartbeats 4000000 in
set_option maxRecDepth 100000 in
theorem tl_X9_would_L42 {D : va_G} {z : cj_Zc} {ad : cj_Ad} (hI : cj_Ij (cj_EM z) ad) {μ : cj_Mm} {y8 : Int32} {y9 : Int32} {X : cj_X} (C : cj_C (cj_YM D z ad) X cX9_would 4 RX9 6 (some .int)) {r : Int32 × cj_S} {K : cj_S → Option (Int32 × cj_S)} (hK : ∀ (s12 : cj_S), K s12 = some r → cj_G (cj_YM D z ad) X (some (.int r.1), cj_upG μ 0 r.2) (cj_upG μ 0 s12) 57 [(0, .ref (ad 0 0)), (1, .int y8)] []) : ∀ (n : Nat) (x10 : Int32) (s11 : cj_S), f_X9_would_L42 K y8 y9 n x10 s11 = some r → cj_G (cj_YM D z ad) X (some (.int r.1), cj_upG μ 0 r.2) (cj_upG μ 0 s11) 42 [(0, .ref (ad 0 0)), (1, .int y8), (2, .int y9), (3, .int x10)] [] := by
  intro n
  induction n with
  | zero =>
    intro x10 s11 hf
    rw [f_X9_would_L42] at hf
    cases hf
  | succ n ih =>
    intro x10 s11 hf
    rw [f_X9_would_L42] at hf
    refine cj_iload_n C dX9_would_42 rfl 3 rfl ?_
    refine cj_iload_n C dX9_would_43 rfl 2 rfl ?_
    refine cj_ic_ge C 57 dX9_would_44 rfl hf (fun hf => ?_) (fun hf => ?_)
    · refine cj_sub [0, 1] rfl ?_
      exact hK s11 hf
    · refine cj_aload_n C dX9_would_47 rfl 0 rfl ?_
      obtain ⟨s14, h13, hf⟩ := cj_bd_s hf
      refine cj_cV0v C cw_X9_minute (ct_X9_minute hI h13) cjq_906 cjq_22 cjq_904 (eM_0 (z := z) (ad := ad)) rfl rfl ⟨Nat.le_of_ble_eq_true rfl, Nat.le_of_ble_eq_true rfl⟩ (Nat.le_of_ble_eq_true rfl) dX9_would_48 ?_
      refine cj_iinc (lv' := [(3, .int (x10 + 1)), (0, .ref (ad 0 0)), (1, .int y8), (2, .int y9)]) C dX9_would_51 (j := 3) rfl rfl (by decide) rfl ?_
      refine cj_goto C 42 dX9_would_54 rfl ?_
      refine cj_sub [1, 2, 3, 0] rfl ?_
      exact ih (x10 + 1) s14 hf
set_option maxHeartbeats 4000000 in
set_option maxRecDepth 100000 in
theorem ct_X9_would {l : Launch} {D : va_G} {z : cj_Zc} {ad : cj_Ad} (hI : cj_Ij (cj_EM z) ad) {μ : cj_Mm} {s0 : cj_S} {a1 : Int32} {a2 : Int32} {r : Int32} {r2 : cj_S} (hf : f_X9_would s0 a1 a2 = some (r, r2)) : cj_Ct l (cj_YM D z ad) yX9_would cX9_would 4 (some .int) 6 [.ref (ad 0 0), .int a1, .int a2] (cj_upG μ 0 s0) (some (.int r)) (cj_upG μ 0 r2) := by
  refine cj_Ct.of (by decide +kernel) hI (Nat.le_of_ble_eq_true rfl) [(0, .ref (ad 0 0)), (1, .int a1), (2, .int a2)] rfl (fun X hX C => ?_)
  subst hX
  have C : cj_C (cj_YM D z ad) X cX9_would 4 RX9 6 (some .int) := C
  unfold f_X9_would at hf
  generalize hr2 : (r, r2) = r3 at hf
  obtain ⟨e1, e2⟩ : r = r3.1 ∧ r2 = r3.2 := by rw [← hr2]; exact ⟨rfl, rfl⟩
  rw [e1, e2]
  clear e1 e2 hr2
  obtain ⟨r, hr⟩ : ∃ r, r = r3 := ⟨_, rfl⟩
  rw [← hr] at hf ⊢
  clear hr
  refine cj_aload_n C dX9_would_0 rfl 0 rfl ?_
  refine cj_iload_n C dX9_would_1 rfl 1 rfl ?_
  obtain ⟨x2, h1, hf⟩ := cj_bd_s hf
  refine cj_cV1i C cw_X9_isPerson (ct_X9_isPerson hI h1) cjq_794 cjq_3 cjq_792 (eM_0 (z := z) (ad := ad)) rfl rfl ⟨Nat.le_of_ble_eq_true rfl, Nat.le_of_ble_eq_true rfl⟩ (Nat.le_of_ble_eq_true rfl) dX9_would_2 ?_
  refine cj_if_eq C 19 dX9_would_5 rfl hf (fun hf => ?_) (fun hf => ?_)
  · refine cj_ldc C cjq_773 dX9_would_19 ?_
    cases hf
    exact cj_iret C rfl dX9_would_21
  · refine cj_iload_n C dX9_would_8 rfl 2 rfl ?_
    refine cj_iconst C 0 dX9_would_9 rfl ?_
    refine cj_sipush C 300 dX9_would_10 rfl ?_
    obtain ⟨x4, h3, hf⟩ := cj_bd_s hf
    refine cj_cS3i C cw_X9_in (ct_X9_in hI h3) cjq_771 cjq_770 ⟨Nat.le_of_ble_eq_true rfl, Nat.le_of_ble_eq_true rfl⟩ (Nat.le_of_ble_eq_true rfl) dX9_would_13 ?_
    refine cj_if_ne C 22 dX9_would_16 rfl hf (fun hf => ?_) (fun hf => ?_)
    · refine cj_aload_n C dX9_would_22 rfl 0 rfl ?_
      refine cj_getS (v := .ref (ad 0 1)) (j := 0) C (eM_0 (z := z) (ad := ad)) rfl rfl cj_in9 (by decide) rfl cjq_720 rfl dX9_would_23 ?_
      refine cj_aload_n C dX9_would_26 rfl 0 rfl ?_
      refine cj_getS (v := .ref (ad 0 4)) (j := 3) C (eM_0 (z := z) (ad := ad)) rfl rfl cj_in9 (by decide) rfl cjq_723 rfl dX9_would_27 ?_
      obtain ⟨s6, h5, hf⟩ := cj_bd_s hf
      refine cj_cS2v C cw_X9_copies (ct_X9_copies hI eM_1 eM_4 h5) cjq_945 cjq_944 ⟨Nat.le_of_ble_eq_true rfl, Nat.le_of_ble_eq_true rfl⟩ (Nat.le_of_ble_eq_true rfl) dX9_would_30 ?_
      refine cj_aload_n C dX9_would_33 rfl 0 rfl ?_
      refine cj_getS (v := .ref (ad 0 1)) (j := 0) C (eM_0 (z := z) (ad := ad)) rfl rfl cj_in9 (by decide) rfl cjq_720 rfl dX9_would_34 ?_
      refine cj_iconst C 5 dX9_would_37 rfl ?_
      refine cj_iload_n C dX9_would_38 rfl 1 rfl ?_
      refine cj_iastKS (j := 5) C (eM_1 (z := z) (ad := ad)) rfl (by decide) dX9_would_39 ?_
      refine cj_ltS hf (fun s7 hf => ?_)
      refine cj_iconst C 0 dX9_would_40 rfl ?_
      refine cj_istore_n (lv' := [(3, .int 0), (0, .ref (ad 0 0)), (1, .int a1), (2, .int a2)]) C dX9_would_41 rfl (by decide) rfl ?_
      refine cj_sub [1, 2, 3, 0] rfl ?_
      refine tl_X9_would_L42 hI C (fun s15 hf => ?_) cj_FU 0 s7 hf
      refine cj_aload_n C dX9_would_57 rfl 0 rfl ?_
      refine cj_iload_n C dX9_would_58 rfl 1 rfl ?_
      obtain ⟨x17, h16, hf⟩ := cj_bd_s hf
      refine cj_cV1i C cw_X9_remembered (ct_X9_remembered hI h16) cjq_839 cjq_10 cjq_837 (eM_0 (z := z) (ad := ad)) rfl rfl ⟨Nat.le_of_ble_eq_true rfl, Nat.le_of_ble_eq_true rfl⟩ (Nat.le_of_ble_eq_true rfl) dX9_would_59 ?_
      obtain ⟨x19, h18, hf⟩ := cj_bd_s hf
      refine cj_cS1i C cw_X9_ones (ct_X9_ones hI h18) cjq_842 cjq_841 ⟨Nat.le_of_ble_eq_true rfl, Nat.le_of_ble_eq_true rfl⟩ (Nat.le_of_ble_eq_true rfl) dX9_would_62 ?_
      refine cj_istore_n (lv' := [(3, .int x19), (0, .ref (ad 0 0)), (1, .int a1)]) C dX9_would_65 rfl (by decide) rfl ?_
      refine cj_aload_n C dX9_would_66 rfl 1 rfl ?_
      refine cj_getS (v := .ref (ad 0 4)) (j := 3) C (eM_0 (z := z) (ad := ad)) rfl rfl cj_in9 (by decide) rfl cjq_723 rfl dX9_would_67 ?_
      refine cj_aload_n C dX9_would_70 rfl 1 rfl ?_
      refine cj_getS (v := .ref (ad 0 1)) (j := 0) C (eM_0 (z := z) (ad := ad)) rfl rfl cj_in9 (by decide) rfl cjq_720 rfl dX9_would_71 ?_
      obtain ⟨s21, h20, hf⟩ := cj_bd_s hf
      refine cj_cS2v C cw_X9_copies (ct_X9_copies hI eM_4 eM_1 h20) cjq_945 cjq_944 ⟨Nat.le_of_ble_eq_true rfl, Nat.le_of_ble_eq_true rfl⟩ (Nat.le_of_ble_eq_true rfl) dX9_would_74 ?_
      refine cj_iload_n C dX9_would_77 rfl 0 rfl ?_
      cases hf
      exact cj_iret C rfl dX9_would_78
    · refine cj_ldc C cjq_773 dX9_would_19 ?_
      cases hf
      exact cj_iret C rfl dX9_would_21
set_option maxHeartbeats 4000000 in
set_option maxRecDepth 100000 in
theorem tl_X9_bestSale_L20 {D : va_G} {z : cj_Zc} {ad : cj_Ad} (hI : cj_Ij (cj_EM z) ad) {μ : cj_Mm} {y7 : Int32} {s9 : cj_S} {X : cj_X} (C : cj_C (cj_YM D z ad) X cX9_bestSale 6 RX9 3 (some .int)) {r : Int32} {K : Int32 → Int32 → Option (Int32)} (hK : ∀ (x10 : Int32) (x11 : Int32), K x10 x11 = some r → cj_G (cj_YM D z ad) X (some (.int r), cj_upG μ 0 s9) (cj_upG μ 0 s9) 99 [(0, .ref (ad 0 0)), (1, .int x10), (2, .int x11), (3, .int y7)] []) : ∀ (n : Nat) (x5 : Int32) (x6 : Int32) (x8 : Int32), f_X9_bestSale_L20 K y7 s9 n x5 x6 x8 = some r → cj_G (cj_YM D z ad) X (some (.int r), cj_upG μ 0 s9) (cj_upG μ 0 s9) 20 [(0, .ref (ad 0 0)), (1, .int x5), (2, .int x6), (3, .int y7), (4, .int x8)] [] := by
  intro n
  induction n with
  | zero =>
    intro x5 x6 x8 hf
    rw [f_X9_bestSale_L20] at hf
    cases hf
  | succ n ih =>
    intro x5 x6 x8 hf
    rw [f_X9_bestSale_L20] at hf
    refine cj_iload C dX9_bestSale_20 4 rfl ?_
    refine cj_aload_n C dX9_bestSale_22 rfl 0 rfl ?_
    refine cj_getS (v := .ref (ad 0 1)) (j := 0) C (eM_0 (z := z) (ad := ad)) rfl rfl cj_in9 (by decide) rfl cjq_720 rfl dX9_bestSale_23 ?_
    refine cj_iconst C 1 dX9_bestSale_26 rfl ?_
    refine cj_ialdKS (j := 1) C (eM_1 (z := z) (ad := ad)) rfl (by decide) dX9_bestSale_27 ?_
    refine cj_ic_ge C 99 dX9_bestSale_28 rfl hf (fun hf => ?_) (fun hf => ?_)
    · refine cj_sub [0, 1, 2, 3] rfl ?_
      exact hK x5 x6 hf
    · refine cj_aload_n C dX9_bestSale_31 rfl 0 rfl ?_
      refine cj_iload_n C dX9_bestSale_32 rfl 3 rfl ?_
      refine cj_iload C dX9_bestSale_33 4 rfl ?_
      obtain ⟨x13, h12, hf⟩ := cj_bd_s hf
      refine cj_cV2i C cw_X9_canSell (ct_X9_canSell hI h12) cjq_878 cjq_16 cjq_876 (eM_0 (z := z) (ad := ad)) rfl rfl ⟨Nat.le_of_ble_eq_true rfl, Nat.le_of_ble_eq_true rfl⟩ (Nat.le_of_ble_eq_true rfl) dX9_bestSale_35 ?_
      refine cj_jn (Hyp := fun K14 => ∀ (x15 : Int32), K14 x15 = some r → cj_G (cj_YM D z ad) X (some (.int r), cj_upG μ 0 s9) (cj_upG μ 0 s9) 57 [(0, .ref (ad 0 0)), (1, .int x5), (2, .int x6), (3, .int y7), (4, .int x8)] [.int x15]) hf (fun x15 hf => ?_) (fun K14 hK14 hf => ?_)
      · refine cj_istore (lv' := [(5, .int x15), (0, .ref (ad 0 0)), (1, .int x5), (2, .int x6), (3, .int y7), (4, .int x8)]) C dX9_bestSale_57 (by decide) rfl ?_
        refine cj_iload C dX9_bestSale_59 0 rfl ?_
        refine cj_jn (Hyp := fun K16 => ∀ (x17 : Int32), K16 x17 = some r → cj_G (cj_YM D z ad) X (some (.int r), cj_upG μ 0 s9) (cj_upG μ 0 s9) 75 [(0, .ref (ad 0 0)), (2, .int x6), (3, .int y7), (4, .int x8), (5, .int x15)] [.int x17]) hf (fun x17 hf => ?_) (fun K16 hK16 hf => ?_)
        · refine cj_istore_n (lv' := [(1, .int x17), (0, .ref (ad 0 0)), (2, .int x6), (3, .int y7), (4, .int x8), (5, .int x15)]) C dX9_bestSale_75 rfl (by decide) rfl ?_
          refine cj_iload C dX9_bestSale_76 5 rfl ?_
          refine cj_if_eq C 91 dX9_bestSale_78 rfl hf (fun hf => ?_) (fun hf => ?_)
          · refine cj_iload_n C dX9_bestSale_91 rfl 2 rfl ?_
            refine cj_istore_n (lv' := [(2, .int x6), (1, .int x17), (0, .ref (ad 0 0)), (3, .int y7), (4, .int x8), (5, .int x15)]) C dX9_bestSale_92 rfl (by decide) rfl ?_
            refine cj_iinc (lv' := [(4, .int (x8 + 1)), (2, .int x6), (1, .int x17), (0, .ref (ad 0 0)), (3, .int y7), (5, .int x15)]) C dX9_bestSale_93 (j := 4) rfl rfl (by decide) rfl ?_
            refine cj_goto C 20 dX9_bestSale_96 rfl ?_
            refine cj_sub [3, 2, 1, 4, 0] rfl ?_
            exact ih x17 x6 (x8 + 1) hf
          · refine cj_aload_n C dX9_bestSale_81 rfl 1 rfl ?_
            refine cj_iload_n C dX9_bestSale_82 rfl 3 rfl ?_
            refine cj_iload C dX9_bestSale_83 4 rfl ?_
            obtain ⟨x19, h18, hf⟩ := cj_bd_s hf
            refine cj_cV2i C cw_X9_priceOf (ct_X9_priceOf hI h18) cjq_898 cjq_21 cjq_896 (eM_0 (z := z) (ad := ad)) rfl rfl ⟨Nat.le_of_ble_eq_true rfl, Nat.le_of_ble_eq_true rfl⟩ (Nat.le_of_ble_eq_true rfl) dX9_bestSale_85 ?_
            refine cj_goto C 92 dX9_bestSale_88 rfl ?_
            refine cj_istore_n (lv' := [(2, .int x19), (1, .int x17), (0, .ref (ad 0 0)), (3, .int y7), (4, .int x8), (5, .int x15)]) C dX9_bestSale_92 rfl (by decide) rfl ?_
            refine cj_iinc (lv' := [(4, .int (x8 + 1)), (2, .int x19), (1, .int x17), (0, .ref (ad 0 0)), (3, .int y7), (5, .int x15)]) C dX9_bestSale_93 (j := 4) rfl rfl (by decide) rfl ?_
            refine cj_goto C 20 dX9_bestSale_96 rfl ?_
            refine cj_sub [3, 2, 1, 4, 0] rfl ?_
            exact ih x17 x19 (x8 + 1) hf
        · refine cj_if_eq C 74 dX9_bestSale_61 rfl hf (fun hf => ?_) (fun hf => ?_)
          · refine cj_iload_n C dX9_bestSale_74 rfl 2 rfl ?_
            refine cj_sub [1, 3, 4, 5, 0] rfl ?_
            exact hK16 x5 hf
          · refine cj_bipush C 10 dX9_bestSale_64 rfl ?_
            refine cj_iload_n C dX9_bestSale_66 rfl 4 rfl ?_
            refine cj_imul C dX9_bestSale_67 ?_
            refine cj_iload C dX9_bestSale_68 5 rfl ?_
            refine cj_iadd C dX9_bestSale_70 ?_
            refine cj_goto C 75 dX9_bestSale_71 rfl ?_
            refine cj_sub [1, 3, 4, 5, 0] rfl ?_
            exact hK16 ((10 * y7) + x8) hf
      · refine cj_jn (Hyp := fun K20 => ∀ (u : Unit), K20 u = some r → cj_G (cj_YM D z ad) X (some (.int r), cj_upG μ 0 s9) (cj_upG μ 0 s9) 56 [(0, .ref (ad 0 0)), (1, .int x5), (2, .int x6), (3, .int y7), (4, .int x8)] []) hf (fun u hf => ?_) (fun K20 hK20 hf => ?_)
        · refine cj_iconst C 0 dX9_bestSale_56 rfl ?_
          exact hK14 0 hf
        · refine cj_if_eq C 56 dX9_bestSale_38 rfl hf (fun hf => ?_) (fun hf => ?_)
          · exact hK20 () hf
          · refine cj_aload_n C dX9_bestSale_41 rfl 0 rfl ?_
            refine cj_iload_n C dX9_bestSale_42 rfl 3 rfl ?_
            refine cj_iload C dX9_bestSale_43 4 rfl ?_
            obtain ⟨x22, h21, hf⟩ := cj_bd_s hf
            refine cj_cV2i C cw_X9_priceOf (ct_X9_priceOf hI h21) cjq_898 cjq_21 cjq_896 (eM_0 (z := z) (ad := ad)) rfl rfl ⟨Nat.le_of_ble_eq_true rfl, Nat.le_of_ble_eq_true rfl⟩ (Nat.le_of_ble_eq_true rfl) dX9_bestSale_45 ?_
            refine cj_iload_n C dX9_bestSale_48 rfl 2 rfl ?_
            refine cj_ic_le C 56 dX9_bestSale_49 rfl hf (fun hf => ?_) (fun hf => ?_)
            · exact hK20 () hf
            · refine cj_iconst C 1 dX9_bestSale_52 rfl ?_
              refine cj_goto C 57 dX9_bestSale_53 rfl ?_
              exact hK14 1 hf
set_option maxHeartbeats 4000000 in
set_option maxRecDepth 100000 in
theorem tl_X9_bestSale_L7 {D : va_G} {z : cj_Zc} {ad : cj_Ad} (hI : cj_Ij (cj_EM z) ad) {μ : cj_Mm} {s4 : cj_S} {X : cj_X} (C : cj_C (cj_YM D z ad) X cX9_bestSale 6 RX9 3 (some .int)) {r : Int32} : ∀ (n : Nat) (x1 : Int32) (x2 : Int32) (x3 : Int32), f_X9_bestSale_L7 s4 n x1 x2 x3 = some r → cj_G (cj_YM D z ad) X (some (.int r), cj_upG μ 0 s4) (cj_upG μ 0 s4) 7 [(0, .ref (ad 0 0)), (1, .int x1), (2, .int x2), (3, .int x3)] [] := by
  intro n
  induction n with
  | zero =>
    intro x1 x2 x3 hf
    rw [f_X9_bestSale_L7] at hf
    cases hf
  | succ n ih =>
    intro x1 x2 x3 hf
    rw [f_X9_bestSale_L7] at hf
    refine cj_iload_n C dX9_bestSale_7 rfl 3 rfl ?_
    refine cj_aload_n C dX9_bestSale_8 rfl 0 rfl ?_
    refine cj_getS (v := .ref (ad 0 1)) (j := 0) C (eM_0 (z := z) (ad := ad)) rfl rfl cj_in9 (by decide) rfl cjq_720 rfl dX9_bestSale_9 ?_
    refine cj_iconst C 2 dX9_bestSale_12 rfl ?_
    refine cj_ialdKS (j := 2) C (eM_1 (z := z) (ad := ad)) rfl (by decide) dX9_bestSale_13 ?_
    refine cj_ic_ge C 105 dX9_bestSale_14 rfl hf (fun hf => ?_) (fun hf => ?_)
    · refine cj_iload_n C dX9_bestSale_105 rfl 1 rfl ?_
      cases hf
      exact cj_iret C rfl dX9_bestSale_106
    · refine cj_iconst C 0 dX9_bestSale_17 rfl ?_
      refine cj_istore (lv' := [(4, .int 0), (0, .ref (ad 0 0)), (1, .int x1), (2, .int x2), (3, .int x3)]) C dX9_bestSale_18 (by decide) rfl ?_
      refine cj_sub [1, 2, 3, 4, 0] rfl ?_
      refine tl_X9_bestSale_L20 hI C (fun x23 x24 hf => ?_) cj_FU x1 x2 0 hf
      refine cj_iinc (lv' := [(3, .int (x3 + 1)), (0, .ref (ad 0 0)), (1, .int x23), (2, .int x24)]) C dX9_bestSale_99 (j := 3) rfl rfl (by decide) rfl ?_
      refine cj_goto C 7 dX9_bestSale_102 rfl ?_
      refine cj_sub [1, 2, 3, 0] rfl ?_
      exact ih x23 x24 (x3 + 1) hf
set_option maxHeartbeats 4000000 in
set_option maxRecDepth 100000 in
theorem ct_X9_bestSale {l : Launch} {D : va_G} {z : cj_Zc} {ad : cj_Ad} (hI : cj_Ij (cj_EM z) ad) {μ : cj_Mm} {s0 : cj_S} {r : Int32} (hf : f_X9_bestSale s0 = some r) : cj_Ct l (cj_YM D z ad) yX9_bestSale cX9_bestSale 6 (some .int) 3 [.ref (ad 0 0)] (cj_upG μ 0 s0) (some (.int r)) (cj_upG μ 0 s0) := by
  refine cj_Ct.of (by decide +kernel) hI (Nat.le_of_ble_eq_true rfl) [(0, .ref (ad 0 0))] rfl (fun X hX C => ?_)
  subst hX
  have C : cj_C (cj_YM D z ad) X cX9_bestSale 6 RX9 3 (some .int) := C
  unfold f_X9_bestSale at hf
  refine cj_ldc C cjq_832 dX9_bestSale_0 ?_
  refine cj_istore_n (lv' := [(1, .int ((-1000004))), (0, .ref (ad 0 0))]) C dX9_bestSale_2 rfl (by decide) rfl ?_
  refine cj_iconst C (-1) dX9_bestSale_3 rfl ?_
  refine cj_istore_n (lv' := [(2, .int ((-1))), (1, .int ((-1000004))), (0, .ref (ad 0 0))]) C dX9_bestSale_4 rfl (by decide) rfl ?_
  refine cj_iconst C 0 dX9_bestSale_5 rfl ?_
  refine cj_istore_n (lv' := [(3, .int 0), (2, .int ((-1))), (1, .int ((-1000004))), (0, .ref (ad 0 0))]) C dX9_bestSale_6 rfl (by decide) rfl ?_
  refine cj_sub [3, 2, 1, 0] rfl ?_
  exact tl_X9_bestSale_L7 hI C cj_FU ((-1000004)) ((-1)) 0 hf
set_option maxHeartbeats 4000000 in
set_option maxRecDepth 100000 in
theorem ct_X9_best {l : Launch} {D : va_G} {z : cj_Zc} {ad : cj_Ad} (hI : cj_Ij (cj_EM z) ad) {μ : cj_Mm} {s0 : cj_S} {a1 : Int32} {r : Int32} (hf : f_X9_best s0 a1 = some r) : cj_Ct l (cj_YM D z ad) yX9_best cX9_best 3 (some .int) 4 [.ref (ad 0 0), .int a1] (cj_upG μ 0 s0) (some (.int r)) (cj_upG μ 0 s0) := by
  refine cj_Ct.of (by decide +kernel) hI (Nat.le_of_ble_eq_true rfl) [(0, .ref (ad 0 0)), (1, .int a1)] rfl (fun X hX C => ?_)
  subst hX
  have C : cj_C (cj_YM D z ad) X cX9_best 3 RX9 4 (some .int) := C
  unfold f_X9_best at hf
  refine cj_iload_n C dX9_best_0 rfl 1 rfl ?_
  refine cj_iconst C 0 dX9_best_1 rfl ?_
  refine cj_iconst C 2 dX9_best_2 rfl ?_
  obtain ⟨x2, h1, hf⟩ := cj_bd_s hf
  refine cj_cS3i C cw_X9_in (ct_X9_in hI h1) cjq_771 cjq_770 ⟨Nat.le_of_ble_eq_true rfl, Nat.le_of_ble_eq_true rfl⟩ (Nat.le_of_ble_eq_true rfl) dX9_best_3 ?_
  refine cj_if_ne C 12 dX9_best_6 rfl hf (fun hf => ?_) (fun hf => ?_)
  · refine cj_aload_n C dX9_best_12 rfl 0 rfl ?_
    obtain ⟨x4, h3, hf⟩ := cj_bd_s hf
    refine cj_cV0i C cw_X9_bestSale (ct_X9_bestSale hI h3) cjq_953 cjq_24 cjq_951 (eM_0 (z := z) (ad := ad)) rfl rfl ⟨Nat.le_of_ble_eq_true rfl, Nat.le_of_ble_eq_true rfl⟩ (Nat.le_of_ble_eq_true rfl) dX9_best_13 ?_
    refine cj_istore_n (lv' := [(2, .int x4), (0, .ref (ad 0 0)), (1, .int a1)]) C dX9_best_16 rfl (by decide) rfl ?_
    refine cj_iload_n C dX9_best_17 rfl 0 rfl ?_
    refine cj_if_ge C 26 dX9_best_18 rfl hf (fun hf => ?_) (fun hf => ?_)
    · refine cj_iload_n C dX9_best_26 rfl 2 rfl ?_
      refine cj_if_ne C 42 dX9_best_27 rfl hf (fun hf => ?_) (fun hf => ?_)
      · refine cj_iload_n C dX9_best_42 rfl 2 rfl ?_
        refine cj_iconst C 1 dX9_best_43 rfl ?_
        refine cj_ic_ne C 54 dX9_best_44 rfl hf (fun hf => ?_) (fun hf => ?_)
        · refine cj_aload_n C dX9_best_54 rfl 1 rfl ?_
          refine cj_iload_n C dX9_best_55 rfl 0 rfl ?_
          refine cj_bipush C 10 dX9_best_56 rfl ?_
          refine cj_idiv C dX9_best_58 (by decide) ?_
          refine cj_iload_n C dX9_best_59 rfl 0 rfl ?_
          refine cj_bipush C 10 dX9_best_60 rfl ?_
          refine cj_irem C dX9_best_62 (by decide) ?_
          obtain ⟨x6, h5, hf⟩ := cj_bd_s hf
          refine cj_cV2i C cw_X9_priceOf (ct_X9_priceOf hI h5) cjq_898 cjq_21 cjq_896 (eM_0 (z := z) (ad := ad)) rfl rfl ⟨Nat.le_of_ble_eq_true rfl, Nat.le_of_ble_eq_true rfl⟩ (Nat.le_of_ble_eq_true rfl) dX9_best_63 ?_
          cases hf
          exact cj_iret C rfl dX9_best_66
        · refine cj_iload_n C dX9_best_47 rfl 0 rfl ?_
          refine cj_bipush C 10 dX9_best_48 rfl ?_
          refine cj_irem C dX9_best_50 (by decide) ?_
          refine cj_goto C 66 dX9_best_51 rfl ?_
          cases hf
          exact cj_iret C rfl dX9_best_66
      · refine cj_aload_n C dX9_best_30 rfl 1 rfl ?_
        refine cj_iload_n C dX9_best_31 rfl 0 rfl ?_
        refine cj_bipush C 10 dX9_best_32 rfl ?_
        refine cj_idiv C dX9_best_34 (by decide) ?_
        refine cj_iconst C 0 dX9_best_35 rfl ?_
        obtain ⟨x8, h7, hf⟩ := cj_bd_s hf
        refine cj_cV2i C cw_X9_ofSheet (ct_X9_ofSheet hI h7) cjq_830 cjq_8 cjq_828 (eM_0 (z := z) (ad := ad)) rfl rfl ⟨Nat.le_of_ble_eq_true rfl, Nat.le_of_ble_eq_true rfl⟩ (Nat.le_of_ble_eq_true rfl) dX9_best_36 ?_
        refine cj_goto C 66 dX9_best_39 rfl ?_
        cases hf
        exact cj_iret C rfl dX9_best_66
    · refine cj_ldc C cjq_832 dX9_best_21 ?_
      refine cj_goto C 66 dX9_best_23 rfl ?_
      cases hf
      exact cj_iret C rfl dX9_best_66
  · refine cj_ldc C cjq_773 dX9_best_9 ?_
    cases hf
    exact cj_iret C rfl dX9_best_11
set_option maxHeartbeats 4000000 in
set_option maxRecDepth 100000 in
theorem tl_X9_sellAll_L18 {D : va_G} {z : cj_Zc} {ad : cj_Ad} (hI : cj_Ij (cj_EM z) ad) {μ : cj_Mm}  {X : cj_X} (C : cj_C (cj_YM D z ad) X cX9_sellAll 3 RX9 4 (some .int)) {r : Int32 × cj_S} {K : Int32 → cj_S → Option (Int32 × cj_S)} (hK : ∀ (x8 : Int32) (s9 : cj_S), K x8 s9 = some r → cj_G (cj_YM D z ad) X (some (.int r.1), cj_upG μ 0 r.2) (cj_upG μ 0 s9) 45 [(0, .ref (ad 0 0)), (1, .int x8)] []) : ∀ (n : Nat) (x5 : Int32) (x6 : Int32) (s7 : cj_S), f_X9_sellAll_L18 K n x5 x6 s7 = some r → cj_G (cj_YM D z ad) X (some (.int r.1), cj_upG μ 0 r.2) (cj_upG μ 0 s7) 18 [(0, .ref (ad 0 0)), (1, .int x5), (2, .int x6)] [] := by
  intro n
  induction n with
  | zero =>
    intro x5 x6 s7 hf
    rw [f_X9_sellAll_L18] at hf
    cases hf
  | succ n ih =>
    intro x5 x6 s7 hf
    rw [f_X9_sellAll_L18] at hf
    refine cj_iload_n C dX9_sellAll_18 rfl 2 rfl ?_
    refine cj_if_lt C 45 dX9_sellAll_19 rfl hf (fun hf => ?_) (fun hf => ?_)
    · refine cj_sub [0, 1] rfl ?_
      exact hK x5 s7 hf
    · refine cj_iload_n C dX9_sellAll_22 rfl 1 rfl ?_
      refine cj_aload_n C dX9_sellAll_23 rfl 0 rfl ?_
      refine cj_iload_n C dX9_sellAll_24 rfl 2 rfl ?_
      refine cj_bipush C 10 dX9_sellAll_25 rfl ?_
      refine cj_idiv C dX9_sellAll_27 (by decide) ?_
      refine cj_iload_n C dX9_sellAll_28 rfl 2 rfl ?_
      refine cj_bipush C 10 dX9_sellAll_29 rfl ?_
      refine cj_irem C dX9_sellAll_31 (by decide) ?_
      obtain ⟨x11, s12, h10, hf⟩ := cj_bp_s hf
      refine cj_cV2i C cw_X9_sells (ct_X9_sells hI h10) cjq_894 cjq_20 cjq_892 (eM_0 (z := z) (ad := ad)) rfl rfl ⟨Nat.le_of_ble_eq_true rfl, Nat.le_of_ble_eq_true rfl⟩ (Nat.le_of_ble_eq_true rfl) dX9_sellAll_32 ?_
      refine cj_iadd C dX9_sellAll_35 ?_
      refine cj_istore_n (lv' := [(1, .int (x5 + x11)), (0, .ref (ad 0 0)), (2, .int x6)]) C dX9_sellAll_36 rfl (by decide) rfl ?_
      refine cj_aload_n C dX9_sellAll_37 rfl 1 rfl ?_
      obtain ⟨x14, h13, hf⟩ := cj_bd_s hf
      refine cj_cV0i C cw_X9_bestSale (ct_X9_bestSale hI h13) cjq_953 cjq_24 cjq_951 (eM_0 (z := z) (ad := ad)) rfl rfl ⟨Nat.le_of_ble_eq_true rfl, Nat.le_of_ble_eq_true rfl⟩ (Nat.le_of_ble_eq_true rfl) dX9_sellAll_38 ?_
      refine cj_istore_n (lv' := [(2, .int x14), (1, .int (x5 + x11)), (0, .ref (ad 0 0))]) C dX9_sellAll_41 rfl (by decide) rfl ?_
      refine cj_goto C 18 dX9_sellAll_42 rfl ?_
      refine cj_sub [2, 1, 0] rfl ?_
      exact ih (x5 + x11) x14 s12 hf
set_option maxHeartbeats 4000000 in
set_option maxRecDepth 100000 in
theorem ct_X9_sellAll {l : Launch} {D : va_G} {z : cj_Zc} {ad : cj_Ad} (hI : cj_Ij (cj_EM z) ad) {μ : cj_Mm} {s0 : cj_S} {r : Int32} {r2 : cj_S} (hf : f_X9_sellAll s0 = some (r, r2)) : cj_Ct l (cj_YM D z ad) yX9_sellAll cX9_sellAll 3 (some .int) 4 [.ref (ad 0 0)] (cj_upG μ 0 s0) (some (.int r)) (cj_upG μ 0 r2) := by
  refine cj_Ct.of (by decide +kernel) hI (Nat.le_of_ble_eq_true rfl) [(0, .ref (ad 0 0))] rfl (fun X hX C => ?_)
  subst hX
  have C : cj_C (cj_YM D z ad) X cX9_sellAll 3 RX9 4 (some .int) := C
  unfold f_X9_sellAll at hf
  generalize hr2 : (r, r2) = r3 at hf
  obtain ⟨e1, e2⟩ : r = r3.1 ∧ r2 = r3.2 := by rw [← hr2]; exact ⟨rfl, rfl⟩
  rw [e1, e2]
  clear e1 e2 hr2
  obtain ⟨r, hr⟩ : ∃ r, r = r3 := ⟨_, rfl⟩
  rw [← hr] at hf ⊢
  clear hr
  refine cj_aload_n C dX9_sellAll_0 rfl 0 rfl ?_
  refine cj_getS (v := .ref (ad 0 1)) (j := 0) C (eM_0 (z := z) (ad := ad)) rfl rfl cj_in9 (by decide) rfl cjq_720 rfl dX9_sellAll_1 ?_
  refine cj_aload_n C dX9_sellAll_4 rfl 0 rfl ?_
  refine cj_getS (v := .ref (ad 0 4)) (j := 3) C (eM_0 (z := z) (ad := ad)) rfl rfl cj_in9 (by decide) rfl cjq_723 rfl dX9_sellAll_5 ?_
  obtain ⟨s2, h1, hf⟩ := cj_bd_s hf
  refine cj_cS2v C cw_X9_copies (ct_X9_copies hI eM_1 eM_4 h1) cjq_945 cjq_944 ⟨Nat.le_of_ble_eq_true rfl, Nat.le_of_ble_eq_true rfl⟩ (Nat.le_of_ble_eq_true rfl) dX9_sellAll_8 ?_
  refine cj_iconst C 0 dX9_sellAll_11 rfl ?_
  refine cj_istore_n (lv' := [(1, .int 0), (0, .ref (ad 0 0))]) C dX9_sellAll_12 rfl (by decide) rfl ?_
  refine cj_aload_n C dX9_sellAll_13 rfl 1 rfl ?_
  obtain ⟨x4, h3, hf⟩ := cj_bd_s hf
  refine cj_cV0i C cw_X9_bestSale (ct_X9_bestSale hI h3) cjq_953 cjq_24 cjq_951 (eM_0 (z := z) (ad := ad)) rfl rfl ⟨Nat.le_of_ble_eq_true rfl, Nat.le_of_ble_eq_true rfl⟩ (Nat.le_of_ble_eq_true rfl) dX9_sellAll_14 ?_
  refine cj_istore_n (lv' := [(2, .int x4), (1, .int 0), (0, .ref (ad 0 0))]) C dX9_sellAll_17 rfl (by decide) rfl ?_
  refine cj_sub [2, 1, 0] rfl ?_
  refine tl_X9_sellAll_L18 hI C (fun x15 s16 hf => ?_) cj_FU 0 x4 s2 hf
  refine cj_aload_n C dX9_sellAll_45 rfl 0 rfl ?_
  refine cj_getS (v := .ref (ad 0 4)) (j := 3) C (eM_0 (z := z) (ad := ad)) rfl rfl cj_in9 (by decide) rfl cjq_723 rfl dX9_sellAll_46 ?_
  refine cj_aload_n C dX9_sellAll_49 rfl 0 rfl ?_
  refine cj_getS (v := .ref (ad 0 1)) (j := 0) C (eM_0 (z := z) (ad := ad)) rfl rfl cj_in9 (by decide) rfl cjq_720 rfl dX9_sellAll_50 ?_
  obtain ⟨s18, h17, hf⟩ := cj_bd_s hf
  refine cj_cS2v C cw_X9_copies (ct_X9_copies hI eM_4 eM_1 h17) cjq_945 cjq_944 ⟨Nat.le_of_ble_eq_true rfl, Nat.le_of_ble_eq_true rfl⟩ (Nat.le_of_ble_eq_true rfl) dX9_sellAll_53 ?_
  refine cj_iload_n C dX9_sellAll_56 rfl 1 rfl ?_
  cases hf
  exact cj_iret C rfl dX9_sellAll_57
set_option maxHeartbeats 4000000 in
set_option maxRecDepth 100000 in
theorem ct_Jxf58ca_isNaN_12338 {l : Launch} {Y : cj_Y} (hI : cj_Ij Y.1 Y.2.2.2) {μ : cj_Mm} {a0 : UInt32} {r : Int32} (hf : f_Jxf58ca_isNaN_12338 a0 = some r) : cj_Ct l Y yJxf58ca_isNaN_12338 cJxf58ca_isNaN_12338 1 (some .boolean) 0 [.float a0] (μ) (some (.int r)) (μ) := by
  refine cj_Ct.ofF (by decide +kernel) hI (Nat.le_of_ble_eq_true rfl) [(0, .float a0)] rfl (fun X hX C => ?_)
  subst hX
  have C : cj_C Y X cJxf58ca_isNaN_12338 1 RJxf58ca 0 (some .boolean) := C
  unfold f_Jxf58ca_isNaN_12338 at hf
  refine cj_fload_n C dJxf58ca_isNaN_12338_0 rfl 0 rfl ?_
  refine cj_fload_n C dJxf58ca_isNaN_12338_1 rfl 0 rfl ?_
  refine cj_fcmp C dJxf58ca_isNaN_12338_2 ?_
  refine cj_if_eq C 10 dJxf58ca_isNaN_12338_3 rfl hf (fun hf => ?_) (fun hf => ?_)
  · refine cj_iconst C 0 dJxf58ca_isNaN_12338_10 rfl ?_
    cases hf
    exact cj_zret C rfl rfl rfl dJxf58ca_isNaN_12338_11
  · refine cj_iconst C 1 dJxf58ca_isNaN_12338_6 rfl ?_
    refine cj_goto C 11 dJxf58ca_isNaN_12338_7 rfl ?_
    cases hf
    exact cj_zret C rfl rfl rfl dJxf58ca_isNaN_12338_11
set_option maxHeartbeats 4000000 in
set_option maxRecDepth 100000 in
theorem ct_Jxf58ca_floatToIntBits_5c35a {l : Launch} {Y : cj_Y} (hI : cj_Ij Y.1 Y.2.2.2) {μ : cj_Mm} {a0 : UInt32} {r : Int32} (hf : f_Jxf58ca_floatToIntBits_5c35a a0 = some r) : cj_Ct l Y yJxf58ca_floatToIntBits_5c35a cJxf58ca_floatToIntBits_5c35a 1 (some .int) 1 [.float a0] (μ) (some (.int r)) (μ) := by
  refine cj_Ct.ofF (by decide +kernel) hI (Nat.le_of_ble_eq_true rfl) [(0, .float a0)] rfl (fun X hX C => ?_)
  subst hX
  have C : cj_C Y X cJxf58ca_floatToIntBits_5c35a 1 RJxf58ca 1 (some .int) := C
  unfold f_Jxf58ca_floatToIntBits_5c35a at hf
  refine cj_fload_n C dJxf58ca_floatToIntBits_5c35a_0 rfl 0 rfl ?_
  obtain ⟨x2, h1, hf⟩ := cj_bd_s hf
  refine cj_cS1i C cw_Jxf58ca_isNaN_12338 (ct_Jxf58ca_isNaN_12338 hI h1) cjq_967 cjq_966 ⟨Nat.le_of_ble_eq_true rfl, Nat.le_of_ble_eq_true rfl⟩ (Nat.le_of_ble_eq_true rfl) dJxf58ca_floatToIntBits_5c35a_1 ?_
  refine cj_if_ne C 12 dJxf58ca_floatToIntBits_5c35a_4 rfl hf (fun hf => ?_) (fun hf => ?_)
  · refine cj_ldc C cjq_972 dJxf58ca_floatToIntBits_5c35a_12 ?_
    cases hf
    exact cj_iret C rfl dJxf58ca_floatToIntBits_5c35a_14
  · refine cj_fload_n C dJxf58ca_floatToIntBits_5c35a_7 rfl 0 rfl ?_
    refine cj_rawf C cjq_969 cjq_971 cjq_970 cjq_45 (by decide) (Nat.le_of_ble_eq_true rfl) dJxf58ca_floatToIntBits_5c35a_8 ?_
    cases hf
    exact cj_iret C rfl dJxf58ca_floatToIntBits_5c35a_11
set_option maxHeartbeats 4000000 in
set_option maxRecDepth 100000 in
theorem ct_X9_mean {l : Launch} {D : va_G} {z : cj_Zc} {ad : cj_Ad} (hI : cj_Ij (cj_EM z) ad) {μ : cj_Mm} {s0 : cj_S} {r : Int32} (hf : f_X9_mean s0 = some r) : cj_Ct l (cj_YM D z ad) yX9_mean cX9_mean 2 (some .int) 2 [.ref (ad 0 0)] (cj_upG μ 0 s0) (some (.int r)) (cj_upG μ 0 s0) := by
  refine cj_Ct.of (by decide +kernel) hI (Nat.le_of_ble_eq_true rfl) [(0, .ref (ad 0 0))] rfl (fun X hX C => ?_)
  subst hX
  have C : cj_C (cj_YM D z ad) X cX9_mean 2 RX9 2 (some .int) := C
  unfold f_X9_mean at hf
  refine cj_aload_n C dX9_mean_0 rfl 0 rfl ?_
  refine cj_getS (v := .ref (ad 0 1)) (j := 0) C (eM_0 (z := z) (ad := ad)) rfl rfl cj_in9 (by decide) rfl cjq_720 rfl dX9_mean_1 ?_
  refine cj_bipush C 8 dX9_mean_4 rfl ?_
  refine cj_ialdKS (j := 8) C (eM_1 (z := z) (ad := ad)) rfl (by decide) dX9_mean_6 ?_
  refine cj_i2f C dX9_mean_7 ?_
  refine cj_aload_n C dX9_mean_8 rfl 0 rfl ?_
  refine cj_getS (v := .ref (ad 0 1)) (j := 0) C (eM_0 (z := z) (ad := ad)) rfl rfl cj_in9 (by decide) rfl cjq_720 rfl dX9_mean_9 ?_
  refine cj_bipush C 7 dX9_mean_12 rfl ?_
  refine cj_ialdKS (j := 7) C (eM_1 (z := z) (ad := ad)) rfl (by decide) dX9_mean_14 ?_
  refine cj_jn (Hyp := fun K1 => ∀ (x2 : Int32), K1 x2 = some r → cj_G (cj_YM D z ad) X (some (.int r), cj_upG μ 0 s0) (cj_upG μ 0 s0) 29 [(0, .ref (ad 0 0))] [.int x2, .float (FP.i2f (s0 1 8))]) hf (fun x2 hf => ?_) (fun K1 hK1 hf => ?_)
  · refine cj_i2f C dX9_mean_29 ?_
    refine cj_fdiv C dX9_mean_30 hf (fun hf => ?_)
    refine cj_ltF hf (fun x3 hf => ?_)
    refine cj_fstore_n (lv' := [(1, .float x3), (0, .ref (ad 0 0))]) C dX9_mean_31 rfl (by decide) rfl ?_
    refine cj_aload_n C dX9_mean_32 rfl 1 rfl ?_
    refine cj_getS (v := .ref (ad 0 1)) (j := 0) C (eM_0 (z := z) (ad := ad)) rfl rfl cj_in9 (by decide) rfl cjq_720 rfl dX9_mean_33 ?_
    refine cj_bipush C 7 dX9_mean_36 rfl ?_
    refine cj_ialdKS (j := 7) C (eM_1 (z := z) (ad := ad)) rfl (by decide) dX9_mean_38 ?_
    refine cj_if_ne C 47 dX9_mean_39 rfl hf (fun hf => ?_) (fun hf => ?_)
    · refine cj_fload_n C dX9_mean_47 rfl 0 rfl ?_
      obtain ⟨x5, h4, hf⟩ := cj_bd_s hf
      refine cj_cS1i C cw_Jxf58ca_floatToIntBits_5c35a (ct_Jxf58ca_floatToIntBits_5c35a hI h4) cjq_964 cjq_963 ⟨Nat.le_of_ble_eq_true rfl, Nat.le_of_ble_eq_true rfl⟩ (Nat.le_of_ble_eq_true rfl) dX9_mean_48 ?_
      cases hf
      exact cj_iret C rfl dX9_mean_51
    · refine cj_ldc C cjq_832 dX9_mean_42 ?_
      refine cj_goto C 51 dX9_mean_44 rfl ?_
      cases hf
      exact cj_iret C rfl dX9_mean_51
  · refine cj_if_ne C 22 dX9_mean_15 rfl hf (fun hf => ?_) (fun hf => ?_)
    · refine cj_aload_n C dX9_mean_22 rfl 0 rfl ?_
      refine cj_getS (v := .ref (ad 0 1)) (j := 0) C (eM_0 (z := z) (ad := ad)) rfl rfl cj_in9 (by decide) rfl cjq_720 rfl dX9_mean_23 ?_
      refine cj_bipush C 7 dX9_mean_26 rfl ?_
      refine cj_ialdKS (j := 7) C (eM_1 (z := z) (ad := ad)) rfl (by decide) dX9_mean_28 ?_
      exact hK1 (s0 1 7) hf
    · refine cj_iconst C 1 dX9_mean_18 rfl ?_
      refine cj_goto C 29 dX9_mean_19 rfl ?_
      exact hK1 1 hf
set_option maxHeartbeats 4000000 in
set_option maxRecDepth 100000 in
theorem ct_X9_count {l : Launch} {D : va_G} {z : cj_Zc} {ad : cj_Ad} (hI : cj_Ij (cj_EM z) ad) {μ : cj_Mm} {s0 : cj_S} {a1 : Int32} {r : Int32} (hf : f_X9_count s0 a1 = some r) : cj_Ct l (cj_YM D z ad) yX9_count cX9_count 2 (some .int) 1 [.ref (ad 0 0), .int a1] (cj_upG μ 0 s0) (some (.int r)) (cj_upG μ 0 s0) := by
  refine cj_Ct.of (by decide +kernel) hI (Nat.le_of_ble_eq_true rfl) [(0, .ref (ad 0 0)), (1, .int a1)] rfl (fun X hX C => ?_)
  subst hX
  have C : cj_C (cj_YM D z ad) X cX9_count 2 RX9 1 (some .int) := C
  unfold f_X9_count at hf
  refine cj_iload_n C dX9_count_0 rfl 1 rfl ?_
  refine cj_by hf (fun e1 hf => ?_) (fun e1 hf => ?_)
  · refine cj_tabI C 68 e1 dX9_count_1 (by decide) (by decide) rfl rfl ?_
    refine cj_aload_n C dX9_count_68 rfl 0 rfl ?_
    refine cj_getS (v := .ref (ad 0 1)) (j := 0) C (eM_0 (z := z) (ad := ad)) rfl rfl cj_in9 (by decide) rfl cjq_720 rfl dX9_count_69 ?_
    refine cj_iload_n C dX9_count_72 rfl 1 rfl ?_
    refine cj_ialdS C (eM_1 (z := z) (ad := ad)) dX9_count_73 hf (fun hf => ?_)
    cases hf
    exact cj_iret C rfl dX9_count_74
  refine cj_by hf (fun e2 hf => ?_) (fun e2 hf => ?_)
  · refine cj_tabI C 68 e2 dX9_count_1 (by decide) (by decide) rfl rfl ?_
    refine cj_aload_n C dX9_count_68 rfl 0 rfl ?_
    refine cj_getS (v := .ref (ad 0 1)) (j := 0) C (eM_0 (z := z) (ad := ad)) rfl rfl cj_in9 (by decide) rfl cjq_720 rfl dX9_count_69 ?_
    refine cj_iload_n C dX9_count_72 rfl 1 rfl ?_
    refine cj_ialdS C (eM_1 (z := z) (ad := ad)) dX9_count_73 hf (fun hf => ?_)
    cases hf
    exact cj_iret C rfl dX9_count_74
  refine cj_by hf (fun e3 hf => ?_) (fun e3 hf => ?_)
  · refine cj_tabI C 68 e3 dX9_count_1 (by decide) (by decide) rfl rfl ?_
    refine cj_aload_n C dX9_count_68 rfl 0 rfl ?_
    refine cj_getS (v := .ref (ad 0 1)) (j := 0) C (eM_0 (z := z) (ad := ad)) rfl rfl cj_in9 (by decide) rfl cjq_720 rfl dX9_count_69 ?_
    refine cj_iload_n C dX9_count_72 rfl 1 rfl ?_
    refine cj_ialdS C (eM_1 (z := z) (ad := ad)) dX9_count_73 hf (fun hf => ?_)
    cases hf
    exact cj_iret C rfl dX9_count_74
  refine cj_by hf (fun e4 hf => ?_) (fun e4 hf => ?_)
  · refine cj_tabI C 68 e4 dX9_count_1 (by decide) (by decide) rfl rfl ?_
    refine cj_aload_n C dX9_count_68 rfl 0 rfl ?_
    refine cj_getS (v := .ref (ad 0 1)) (j := 0) C (eM_0 (z := z) (ad := ad)) rfl rfl cj_in9 (by decide) rfl cjq_720 rfl dX9_count_69 ?_
    refine cj_iload_n C dX9_count_72 rfl 1 rfl ?_
    refine cj_ialdS C (eM_1 (z := z) (ad := ad)) dX9_count_73 hf (fun hf => ?_)
    cases hf
    exact cj_iret C rfl dX9_count_74
  refine cj_by hf (fun e5 hf => ?_) (fun e5 hf => ?_)
  · refine cj_tabI C 68 e5 dX9_count_1 (by decide) (by decide) rfl rfl ?_
    refine cj_aload_n C dX9_count_68 rfl 0 rfl ?_
    refine cj_getS (v := .ref (ad 0 1)) (j := 0) C (eM_0 (z := z) (ad := ad)) rfl rfl cj_in9 (by decide) rfl cjq_720 rfl dX9_count_69 ?_
    refine cj_iload_n C dX9_count_72 rfl 1 rfl ?_
    refine cj_ialdS C (eM_1 (z := z) (ad := ad)) dX9_count_73 hf (fun hf => ?_)
    cases hf
    exact cj_iret C rfl dX9_count_74
  refine cj_by hf (fun e8 hf => ?_) (fun e8 hf => ?_)
  · refine cj_tabI C 75 e8 dX9_count_1 (by decide) (by decide) rfl rfl ?_
    refine cj_aload_n C dX9_count_75 rfl 0 rfl ?_
    obtain ⟨x7, h6, hf⟩ := cj_bd_s hf
    refine cj_cV0i C cw_X9_day (ct_X9_day hI h6) cjq_862 cjq_13 cjq_860 (eM_0 (z := z) (ad := ad)) rfl rfl ⟨Nat.le_of_ble_eq_true rfl, Nat.le_of_ble_eq_true rfl⟩ (Nat.le_of_ble_eq_true rfl) dX9_count_76 ?_
    cases hf
    exact cj_iret C rfl dX9_count_79
  refine cj_by hf (fun e9 hf => ?_) (fun e9 hf => ?_)
  · refine cj_tabI C 80 e9 dX9_count_1 (by decide) (by decide) rfl rfl ?_
    refine cj_aload_n C dX9_count_80 rfl 0 rfl ?_
    refine cj_getS (v := .ref (ad 0 1)) (j := 0) C (eM_0 (z := z) (ad := ad)) rfl rfl cj_in9 (by decide) rfl cjq_720 rfl dX9_count_81 ?_
    refine cj_iconst C 4 dX9_count_84 rfl ?_
    refine cj_ialdKS (j := 4) C (eM_1 (z := z) (ad := ad)) rfl (by decide) dX9_count_85 ?_
    refine cj_sipush C 300 dX9_count_86 rfl ?_
    refine cj_irem C dX9_count_89 (by decide) ?_
    cases hf
    exact cj_iret C rfl dX9_count_90
  refine cj_by hf (fun e10 hf => ?_) (fun e10 hf => ?_)
  · refine cj_tabI C 91 e10 dX9_count_1 (by decide) (by decide) rfl rfl ?_
    refine cj_aload_n C dX9_count_91 rfl 0 rfl ?_
    refine cj_getS (v := .ref (ad 0 1)) (j := 0) C (eM_0 (z := z) (ad := ad)) rfl rfl cj_in9 (by decide) rfl cjq_720 rfl dX9_count_92 ?_
    refine cj_iconst C 5 dX9_count_95 rfl ?_
    refine cj_ialdKS (j := 5) C (eM_1 (z := z) (ad := ad)) rfl (by decide) dX9_count_96 ?_
    refine cj_if_ge C 105 dX9_count_97 rfl hf (fun hf => ?_) (fun hf => ?_)
    · refine cj_aload_n C dX9_count_105 rfl 0 rfl ?_
      refine cj_getS (v := .ref (ad 0 1)) (j := 0) C (eM_0 (z := z) (ad := ad)) rfl rfl cj_in9 (by decide) rfl cjq_720 rfl dX9_count_106 ?_
      refine cj_iconst C 5 dX9_count_109 rfl ?_
      refine cj_ialdKS (j := 5) C (eM_1 (z := z) (ad := ad)) rfl (by decide) dX9_count_110 ?_
      cases hf
      exact cj_iret C rfl dX9_count_111
    · refine cj_ldc C cjq_832 dX9_count_100 ?_
      refine cj_goto C 111 dX9_count_102 rfl ?_
      cases hf
      exact cj_iret C rfl dX9_count_111
  refine cj_by hf (fun e11 hf => ?_) (fun e11 hf => ?_)
  · refine cj_tabI C 112 e11 dX9_count_1 (by decide) (by decide) rfl rfl ?_
    refine cj_iconst C 3 dX9_count_112 rfl ?_
    refine cj_aload_n C dX9_count_113 rfl 0 rfl ?_
    refine cj_getS (v := .ref (ad 0 1)) (j := 0) C (eM_0 (z := z) (ad := ad)) rfl rfl cj_in9 (by decide) rfl cjq_720 rfl dX9_count_114 ?_
    refine cj_bipush C 6 dX9_count_117 rfl ?_
    refine cj_ialdKS (j := 6) C (eM_1 (z := z) (ad := ad)) rfl (by decide) dX9_count_119 ?_
    refine cj_isub C dX9_count_120 ?_
    cases hf
    exact cj_iret C rfl dX9_count_121
  refine cj_by hf (fun e12 hf => ?_) (fun e12 hf => ?_)
  · refine cj_tabI C 122 e12 dX9_count_1 (by decide) (by decide) rfl rfl ?_
    refine cj_aload_n C dX9_count_122 rfl 0 rfl ?_
    refine cj_getS (v := .ref (ad 0 1)) (j := 0) C (eM_0 (z := z) (ad := ad)) rfl rfl cj_in9 (by decide) rfl cjq_720 rfl dX9_count_123 ?_
    refine cj_bipush C 7 dX9_count_126 rfl ?_
    refine cj_ialdKS (j := 7) C (eM_1 (z := z) (ad := ad)) rfl (by decide) dX9_count_128 ?_
    cases hf
    exact cj_iret C rfl dX9_count_129
  refine cj_by hf (fun e13 hf => ?_) (fun e13 hf => ?_)
  · refine cj_tabI C 130 e13 dX9_count_1 (by decide) (by decide) rfl rfl ?_
    refine cj_aload_n C dX9_count_130 rfl 0 rfl ?_
    refine cj_getS (v := .ref (ad 0 1)) (j := 0) C (eM_0 (z := z) (ad := ad)) rfl rfl cj_in9 (by decide) rfl cjq_720 rfl dX9_count_131 ?_
    refine cj_bipush C 8 dX9_count_134 rfl ?_
    refine cj_ialdKS (j := 8) C (eM_1 (z := z) (ad := ad)) rfl (by decide) dX9_count_136 ?_
    cases hf
    exact cj_iret C rfl dX9_count_137
  refine cj_by hf (fun e14 hf => ?_) (fun e14 hf => ?_)
  · refine cj_tabI C 138 e14 dX9_count_1 (by decide) (by decide) rfl rfl ?_
    refine cj_aload_n C dX9_count_138 rfl 0 rfl ?_
    refine cj_getS (v := .int (s0 0 4)) (j := 4) C (eM_0 (z := z) (ad := ad)) rfl rfl cj_in9 (by decide) rfl cjq_724 rfl dX9_count_139 ?_
    cases hf
    exact cj_iret C rfl dX9_count_142
  refine cj_by hf (fun e15 hf => ?_) (fun e15 hf => ?_)
  · refine cj_tabI C 143 e15 dX9_count_1 (by decide) (by decide) rfl rfl ?_
    refine cj_aload_n C dX9_count_143 rfl 0 rfl ?_
    refine cj_getS (v := .int (s0 0 7)) (j := 7) C (eM_0 (z := z) (ad := ad)) rfl rfl cj_in9 (by decide) rfl cjq_727 rfl dX9_count_144 ?_
    cases hf
    exact cj_iret C rfl dX9_count_147
  refine cj_tabD C 148 [0, 1, 2, 3, 4, 5, 6, 7, 8, 9, 10, 11, 12] (List.forall_mem_cons.mpr ⟨e1, List.forall_mem_cons.mpr ⟨e2, List.forall_mem_cons.mpr ⟨e3, List.forall_mem_cons.mpr ⟨e4, List.forall_mem_cons.mpr ⟨e5, List.forall_mem_cons.mpr ⟨e8, List.forall_mem_cons.mpr ⟨e9, List.forall_mem_cons.mpr ⟨e10, List.forall_mem_cons.mpr ⟨e11, List.forall_mem_cons.mpr ⟨e12, List.forall_mem_cons.mpr ⟨e13, List.forall_mem_cons.mpr ⟨e14, List.forall_mem_cons.mpr ⟨e15, fun _ h => absurd h List.not_mem_nil⟩⟩⟩⟩⟩⟩⟩⟩⟩⟩⟩⟩⟩) dX9_count_1 (by decide +kernel) rfl ?_
  refine cj_iload_n C dX9_count_148 rfl 1 rfl ?_
  refine cj_bipush C 20 dX9_count_149 rfl ?_
  refine cj_bipush C 21 dX9_count_151 rfl ?_
  obtain ⟨x17, h16, hf⟩ := cj_bd_s hf
  refine cj_cS3i C cw_X9_in (ct_X9_in hI h16) cjq_771 cjq_770 ⟨Nat.le_of_ble_eq_true rfl, Nat.le_of_ble_eq_true rfl⟩ (Nat.le_of_ble_eq_true rfl) dX9_count_153 ?_
  refine cj_if_eq C 174 dX9_count_156 rfl hf (fun hf => ?_) (fun hf => ?_)
  · refine cj_ldc C cjq_773 dX9_count_174 ?_
    cases hf
    exact cj_iret C rfl dX9_count_176
  · refine cj_aload_n C dX9_count_159 rfl 0 rfl ?_
    refine cj_getS (v := .ref (ad 0 1)) (j := 0) C (eM_0 (z := z) (ad := ad)) rfl rfl cj_in9 (by decide) rfl cjq_720 rfl dX9_count_160 ?_
    refine cj_bipush C 9 dX9_count_163 rfl ?_
    refine cj_iload_n C dX9_count_165 rfl 1 rfl ?_
    refine cj_iadd C dX9_count_166 ?_
    refine cj_bipush C 20 dX9_count_167 rfl ?_
    refine cj_isub C dX9_count_169 ?_
    refine cj_ialdS C (eM_1 (z := z) (ad := ad)) dX9_count_170 hf (fun hf => ?_)
    refine cj_goto C 176 dX9_count_171 rfl ?_
    cases hf
    exact cj_iret C rfl dX9_count_176
set_option maxHeartbeats 4000000 in
set_option maxRecDepth 100000 in
theorem tl_X9_undo_L22 {D : va_G} {z : cj_Zc} {ad : cj_Ad} (hI : cj_Ij (cj_EM z) ad) {μ : cj_Mm}  {X : cj_X} (C : cj_C (cj_YM D z ad) X cX9_undo 2 RX9 0 (some .int)) {r : Int32 × cj_S} : ∀ (n : Nat) (x2 : Int32) (s3 : cj_S), f_X9_undo_L22 n x2 s3 = some r → cj_G (cj_YM D z ad) X (some (.int r.1), cj_upG μ 0 r.2) (cj_upG μ 0 s3) 22 [(0, .ref (ad 0 0)), (1, .int x2)] [] := by
  intro n
  induction n with
  | zero =>
    intro x2 s3 hf
    rw [f_X9_undo_L22] at hf
    cases hf
  | succ n ih =>
    intro x2 s3 hf
    rw [f_X9_undo_L22] at hf
    refine cj_iload_n C dX9_undo_22 rfl 1 rfl ?_
    refine cj_sipush C 183 dX9_undo_23 rfl ?_
    refine cj_ic_ge C 56 dX9_undo_26 rfl hf (fun hf => ?_) (fun hf => ?_)
    · refine cj_aload_n C dX9_undo_56 rfl 0 rfl ?_
      refine cj_getS (v := .int (s3 0 4)) (j := 4) C (eM_0 (z := z) (ad := ad)) rfl rfl cj_in9 (by decide) rfl cjq_724 rfl dX9_undo_57 ?_
      cases hf
      exact cj_iret C rfl dX9_undo_60
    · refine cj_aload_n C dX9_undo_29 rfl 0 rfl ?_
      refine cj_getS (v := .ref (ad 0 1)) (j := 0) C (eM_0 (z := z) (ad := ad)) rfl rfl cj_in9 (by decide) rfl cjq_720 rfl dX9_undo_30 ?_
      refine cj_iload_n C dX9_undo_33 rfl 1 rfl ?_
      refine cj_aload_n C dX9_undo_34 rfl 0 rfl ?_
      refine cj_getS (v := .ref (ad 0 2)) (j := 1) C (eM_0 (z := z) (ad := ad)) rfl rfl cj_in9 (by decide) rfl cjq_721 rfl dX9_undo_35 ?_
      refine cj_sipush C 183 dX9_undo_38 rfl ?_
      refine cj_aload_n C dX9_undo_41 rfl 0 rfl ?_
      refine cj_getS (v := .int (s3 0 4)) (j := 4) C (eM_0 (z := z) (ad := ad)) rfl rfl cj_in9 (by decide) rfl cjq_724 rfl dX9_undo_42 ?_
      refine cj_imul C dX9_undo_45 ?_
      refine cj_iload_n C dX9_undo_46 rfl 1 rfl ?_
      refine cj_iadd C dX9_undo_47 ?_
      refine cj_ialdS C (eM_2 (z := z) (ad := ad)) dX9_undo_48 hf (fun hf => ?_)
      refine cj_iastS C (eM_1 (z := z) (ad := ad)) dX9_undo_49 hf (fun hf => ?_)
      refine cj_ltS hf (fun s4 hf => ?_)
      refine cj_iinc (lv' := [(1, .int (x2 + 1)), (0, .ref (ad 0 0))]) C dX9_undo_50 (j := 1) rfl rfl (by decide) rfl ?_
      refine cj_goto C 22 dX9_undo_53 rfl ?_
      refine cj_sub [1, 0] rfl ?_
      exact ih (x2 + 1) s4 hf
set_option maxHeartbeats 4000000 in
set_option maxRecDepth 100000 in
theorem ct_X9_undo {l : Launch} {D : va_G} {z : cj_Zc} {ad : cj_Ad} (hI : cj_Ij (cj_EM z) ad) {μ : cj_Mm} {s0 : cj_S} {r : Int32} {r2 : cj_S} (hf : f_X9_undo s0 = some (r, r2)) : cj_Ct l (cj_YM D z ad) yX9_undo cX9_undo 2 (some .int) 0 [.ref (ad 0 0)] (cj_upG μ 0 s0) (some (.int r)) (cj_upG μ 0 r2) := by
  refine cj_Ct.of (by decide +kernel) hI (Nat.le_of_ble_eq_true rfl) [(0, .ref (ad 0 0))] rfl (fun X hX C => ?_)
  subst hX
  have C : cj_C (cj_YM D z ad) X cX9_undo 2 RX9 0 (some .int) := C
  unfold f_X9_undo at hf
  generalize hr2 : (r, r2) = r3 at hf
  obtain ⟨e1, e2⟩ : r = r3.1 ∧ r2 = r3.2 := by rw [← hr2]; exact ⟨rfl, rfl⟩
  rw [e1, e2]
  clear e1 e2 hr2
  obtain ⟨r, hr⟩ : ∃ r, r = r3 := ⟨_, rfl⟩
  rw [← hr] at hf ⊢
  clear hr
  refine cj_aload_n C dX9_undo_0 rfl 0 rfl ?_
  refine cj_getS (v := .int (s0 0 4)) (j := 4) C (eM_0 (z := z) (ad := ad)) rfl rfl cj_in9 (by decide) rfl cjq_724 rfl dX9_undo_1 ?_
  refine cj_if_ne C 10 dX9_undo_4 rfl hf (fun hf => ?_) (fun hf => ?_)
  · refine cj_aload_n C dX9_undo_10 rfl 0 rfl ?_
    refine cj_dup C dX9_undo_11 rfl ?_
    refine cj_getS (v := .int (s0 0 4)) (j := 4) C (eM_0 (z := z) (ad := ad)) rfl rfl cj_in9 (by decide) rfl cjq_724 rfl dX9_undo_12 ?_
    refine cj_iconst C 1 dX9_undo_15 rfl ?_
    refine cj_isub C dX9_undo_16 ?_
    refine cj_putS (j := 4) C (eM_0 (z := z) (ad := ad)) rfl rfl rfl rfl cj_in9 tyX9_ok nmX9 (by decide) rfl cjq_724 rfl rfl rfl (Nat.le_of_ble_eq_true rfl) dX9_undo_17 ?_
    refine cj_ltS hf (fun s1 hf => ?_)
    refine cj_iconst C 0 dX9_undo_20 rfl ?_
    refine cj_istore_n (lv' := [(1, .int 0), (0, .ref (ad 0 0))]) C dX9_undo_21 rfl (by decide) rfl ?_
    refine cj_sub [1, 0] rfl ?_
    exact tl_X9_undo_L22 hI C cj_FU 0 s1 hf
  · refine cj_ldc C cjq_778 dX9_undo_7 ?_
    cases hf
    exact cj_iret C rfl dX9_undo_9
set_option maxHeartbeats 4000000 in
set_option maxRecDepth 100000 in
theorem ct_X9_type {l : Launch} {D : va_G} {z : cj_Zc} {ad : cj_Ad} (hI : cj_Ij (cj_EM z) ad) {μ : cj_Mm} {s0 : cj_S} {a1 : Int32} {r : Int32} {r2 : cj_S} (hf : f_X9_type s0 a1 = some (r, r2)) : cj_Ct l (cj_YM D z ad) yX9_type cX9_type 2 (some .int) 1 [.ref (ad 0 0), .int a1] (cj_upG μ 0 s0) (some (.int r)) (cj_upG μ 0 r2) := by
  refine cj_Ct.of (by decide +kernel) hI (Nat.le_of_ble_eq_true rfl) [(0, .ref (ad 0 0)), (1, .int a1)] rfl (fun X hX C => ?_)
  subst hX
  have C : cj_C (cj_YM D z ad) X cX9_type 2 RX9 1 (some .int) := C
  unfold f_X9_type at hf
  generalize hr2 : (r, r2) = r3 at hf
  obtain ⟨e1, e2⟩ : r = r3.1 ∧ r2 = r3.2 := by rw [← hr2]; exact ⟨rfl, rfl⟩
  rw [e1, e2]
  clear e1 e2 hr2
  obtain ⟨r, hr⟩ : ∃ r, r = r3 := ⟨_, rfl⟩
  rw [← hr] at hf ⊢
  clear hr
  refine cj_iload_n C dX9_type_0 rfl 1 rfl ?_
  refine cj_bipush C 32 dX9_type_1 rfl ?_
  refine cj_bipush C 126 dX9_type_3 rfl ?_
  obtain ⟨x2, h1, hf⟩ := cj_bd_s hf
  refine cj_cS3i C cw_X9_in (ct_X9_in hI h1) cjq_771 cjq_770 ⟨Nat.le_of_ble_eq_true rfl, Nat.le_of_ble_eq_true rfl⟩ (Nat.le_of_ble_eq_true rfl) dX9_type_5 ?_
  refine cj_if_ne C 14 dX9_type_8 rfl hf (fun hf => ?_) (fun hf => ?_)
  · refine cj_aload_n C dX9_type_14 rfl 0 rfl ?_
    refine cj_getS (v := .int (s0 0 7)) (j := 7) C (eM_0 (z := z) (ad := ad)) rfl rfl cj_in9 (by decide) rfl cjq_727 rfl dX9_type_15 ?_
    refine cj_bipush C 60 dX9_type_18 rfl ?_
    refine cj_ic_ne C 26 dX9_type_20 rfl hf (fun hf => ?_) (fun hf => ?_)
    · refine cj_aload_n C dX9_type_26 rfl 0 rfl ?_
      refine cj_getS (v := .ref (ad 0 5)) (j := 6) C (eM_0 (z := z) (ad := ad)) rfl rfl cj_in9 (by decide) rfl cjq_726 rfl dX9_type_27 ?_
      refine cj_aload_n C dX9_type_30 rfl 0 rfl ?_
      refine cj_getS (v := .int (s0 0 7)) (j := 7) C (eM_0 (z := z) (ad := ad)) rfl rfl cj_in9 (by decide) rfl cjq_727 rfl dX9_type_31 ?_
      refine cj_iload_n C dX9_type_34 rfl 1 rfl ?_
      refine cj_iastS C (eM_5 (z := z) (ad := ad)) dX9_type_35 hf (fun hf => ?_)
      refine cj_ltS hf (fun s3 hf => ?_)
      refine cj_aload_n C dX9_type_36 rfl 0 rfl ?_
      refine cj_dup C dX9_type_37 rfl ?_
      refine cj_getS (v := .int (s3 0 7)) (j := 7) C (eM_0 (z := z) (ad := ad)) rfl rfl cj_in9 (by decide) rfl cjq_727 rfl dX9_type_38 ?_
      refine cj_iconst C 1 dX9_type_41 rfl ?_
      refine cj_iadd C dX9_type_42 ?_
      refine cj_putS (j := 7) C (eM_0 (z := z) (ad := ad)) rfl rfl rfl rfl cj_in9 tyX9_ok nmX9 (by decide) rfl cjq_727 rfl rfl rfl (Nat.le_of_ble_eq_true rfl) dX9_type_43 ?_
      refine cj_ltS hf (fun s4 hf => ?_)
      refine cj_aload_n C dX9_type_46 rfl 0 rfl ?_
      refine cj_getS (v := .int (s4 0 7)) (j := 7) C (eM_0 (z := z) (ad := ad)) rfl rfl cj_in9 (by decide) rfl cjq_727 rfl dX9_type_47 ?_
      cases hf
      exact cj_iret C rfl dX9_type_50
    · refine cj_ldc C cjq_779 dX9_type_23 ?_
      cases hf
      exact cj_iret C rfl dX9_type_25
  · refine cj_ldc C cjq_773 dX9_type_11 ?_
    cases hf
    exact cj_iret C rfl dX9_type_13
set_option maxHeartbeats 4000000 in
set_option maxRecDepth 100000 in
theorem ct_X9_clearText {l : Launch} {D : va_G} {z : cj_Zc} {ad : cj_Ad} (hI : cj_Ij (cj_EM z) ad) {μ : cj_Mm} {s0 : cj_S} {r : Int32} {r2 : cj_S} (hf : f_X9_clearText s0 = some (r, r2)) : cj_Ct l (cj_YM D z ad) yX9_clearText cX9_clearText 2 (some .int) 0 [.ref (ad 0 0)] (cj_upG μ 0 s0) (some (.int r)) (cj_upG μ 0 r2) := by
  refine cj_Ct.of (by decide +kernel) hI (Nat.le_of_ble_eq_true rfl) [(0, .ref (ad 0 0))] rfl (fun X hX C => ?_)
  subst hX
  have C : cj_C (cj_YM D z ad) X cX9_clearText 2 RX9 0 (some .int) := C
  unfold f_X9_clearText at hf
  generalize hr2 : (r, r2) = r3 at hf
  obtain ⟨e1, e2⟩ : r = r3.1 ∧ r2 = r3.2 := by rw [← hr2]; exact ⟨rfl, rfl⟩
  rw [e1, e2]
  clear e1 e2 hr2
  obtain ⟨r, hr⟩ : ∃ r, r = r3 := ⟨_, rfl⟩
  rw [← hr] at hf ⊢
  clear hr
  refine cj_aload_n C dX9_clearText_0 rfl 0 rfl ?_
  refine cj_getS (v := .int (s0 0 7)) (j := 7) C (eM_0 (z := z) (ad := ad)) rfl rfl cj_in9 (by decide) rfl cjq_727 rfl dX9_clearText_1 ?_
  refine cj_istore_n (lv' := [(1, .int (s0 0 7)), (0, .ref (ad 0 0))]) C dX9_clearText_4 rfl (by decide) rfl ?_
  refine cj_aload_n C dX9_clearText_5 rfl 1 rfl ?_
  refine cj_iconst C 0 dX9_clearText_6 rfl ?_
  refine cj_putS (j := 7) C (eM_0 (z := z) (ad := ad)) rfl rfl rfl rfl cj_in9 tyX9_ok nmX9 (by decide) rfl cjq_727 rfl rfl rfl (Nat.le_of_ble_eq_true rfl) dX9_clearText_7 ?_
  refine cj_ltS hf (fun s1 hf => ?_)
  refine cj_iload_n C dX9_clearText_10 rfl 0 rfl ?_
  cases hf
  exact cj_iret C rfl dX9_clearText_11
set_option maxHeartbeats 4000000 in
set_option maxRecDepth 100000 in
theorem ct_X9_isAt {l : Launch} {D : va_G} {z : cj_Zc} {ad : cj_Ad} (hI : cj_Ij (cj_EM z) ad) {μ : cj_Mm} {s0 : cj_S} {a1 : Int32} {a2 : Int32} {r : Int32} (hf : f_X9_isAt s0 a1 a2 = some r) : cj_Ct l (cj_YM D z ad) yX9_isAt cX9_isAt 3 (some .boolean) 1 [.ref (ad 0 0), .int a1, .int a2] (cj_upG μ 0 s0) (some (.int r)) (cj_upG μ 0 s0) := by
  refine cj_Ct.of (by decide +kernel) hI (Nat.le_of_ble_eq_true rfl) [(0, .ref (ad 0 0)), (1, .int a1), (2, .int a2)] rfl (fun X hX C => ?_)
  subst hX
  have C : cj_C (cj_YM D z ad) X cX9_isAt 3 RX9 1 (some .boolean) := C
  unfold f_X9_isAt at hf
  refine cj_aload_n C dX9_isAt_0 rfl 0 rfl ?_
  refine cj_getS (v := .int (s0 0 8)) (j := 8) C (eM_0 (z := z) (ad := ad)) rfl rfl cj_in9 (by decide) rfl cjq_728 rfl dX9_isAt_1 ?_
  refine cj_aload_n C dX9_isAt_4 rfl 0 rfl ?_
  refine cj_getS (v := .int (s0 0 7)) (j := 7) C (eM_0 (z := z) (ad := ad)) rfl rfl cj_in9 (by decide) rfl cjq_727 rfl dX9_isAt_5 ?_
  refine cj_ic_ge C 32 dX9_isAt_8 rfl hf (fun hf => ?_) (fun hf => ?_)
  · refine cj_iconst C 0 dX9_isAt_32 rfl ?_
    cases hf
    exact cj_zret C rfl rfl rfl dX9_isAt_33
  · refine cj_aload_n C dX9_isAt_11 rfl 0 rfl ?_
    refine cj_getS (v := .ref (ad 0 5)) (j := 6) C (eM_0 (z := z) (ad := ad)) rfl rfl cj_in9 (by decide) rfl cjq_726 rfl dX9_isAt_12 ?_
    refine cj_aload_n C dX9_isAt_15 rfl 0 rfl ?_
    refine cj_getS (v := .int (s0 0 8)) (j := 8) C (eM_0 (z := z) (ad := ad)) rfl rfl cj_in9 (by decide) rfl cjq_728 rfl dX9_isAt_16 ?_
    refine cj_ialdS C (eM_5 (z := z) (ad := ad)) dX9_isAt_19 hf (fun hf => ?_)
    refine cj_iload_n C dX9_isAt_20 rfl 1 rfl ?_
    refine cj_iload_n C dX9_isAt_21 rfl 2 rfl ?_
    obtain ⟨x2, h1, hf⟩ := cj_bd_s hf
    refine cj_cS3i C cw_X9_in (ct_X9_in hI h1) cjq_771 cjq_770 ⟨Nat.le_of_ble_eq_true rfl, Nat.le_of_ble_eq_true rfl⟩ (Nat.le_of_ble_eq_true rfl) dX9_isAt_22 ?_
    refine cj_if_eq C 32 dX9_isAt_25 rfl hf (fun hf => ?_) (fun hf => ?_)
    · refine cj_iconst C 0 dX9_isAt_32 rfl ?_
      cases hf
      exact cj_zret C rfl rfl rfl dX9_isAt_33
    · refine cj_iconst C 1 dX9_isAt_28 rfl ?_
      refine cj_goto C 33 dX9_isAt_29 rfl ?_
      cases hf
      exact cj_zret C rfl rfl rfl dX9_isAt_33
set_option maxHeartbeats 4000000 in
set_option maxRecDepth 100000 in
theorem ct_X9_sign {l : Launch} {D : va_G} {z : cj_Zc} {ad : cj_Ad} (hI : cj_Ij (cj_EM z) ad) {μ : cj_Mm} {s0 : cj_S} {a1 : Int32} {r : Int32} {r2 : cj_S} (hf : f_X9_sign s0 a1 = some (r, r2)) : cj_Ct l (cj_YM D z ad) yX9_sign cX9_sign 3 (some .boolean) 2 [.ref (ad 0 0), .int a1] (cj_upG μ 0 s0) (some (.int r)) (cj_upG μ 0 r2) := by
  refine cj_Ct.of (by decide +kernel) hI (Nat.le_of_ble_eq_true rfl) [(0, .ref (ad 0 0)), (1, .int a1)] rfl (fun X hX C => ?_)
  subst hX
  have C : cj_C (cj_YM D z ad) X cX9_sign 3 RX9 2 (some .boolean) := C
  unfold f_X9_sign at hf
  generalize hr2 : (r, r2) = r3 at hf
  obtain ⟨e1, e2⟩ : r = r3.1 ∧ r2 = r3.2 := by rw [← hr2]; exact ⟨rfl, rfl⟩
  rw [e1, e2]
  clear e1 e2 hr2
  obtain ⟨r, hr⟩ : ∃ r, r = r3 := ⟨_, rfl⟩
  rw [← hr] at hf ⊢
  clear hr
  refine cj_aload_n C dX9_sign_0 rfl 0 rfl ?_
  refine cj_iload_n C dX9_sign_1 rfl 1 rfl ?_
  refine cj_iload_n C dX9_sign_2 rfl 1 rfl ?_
  obtain ⟨x2, h1, hf⟩ := cj_bd_s hf
  refine cj_cV2i C cw_X9_isAt (ct_X9_isAt hI h1) cjq_1003 cjq_27 cjq_1001 (eM_0 (z := z) (ad := ad)) rfl rfl ⟨Nat.le_of_ble_eq_true rfl, Nat.le_of_ble_eq_true rfl⟩ (Nat.le_of_ble_eq_true rfl) dX9_sign_3 ?_
  refine cj_istore_n (lv' := [(2, .int x2), (0, .ref (ad 0 0)), (1, .int a1)]) C dX9_sign_6 rfl (by decide) rfl ?_
  refine cj_aload_n C dX9_sign_7 rfl 1 rfl ?_
  refine cj_dup C dX9_sign_8 rfl ?_
  refine cj_getS (v := .int (s0 0 8)) (j := 8) C (eM_0 (z := z) (ad := ad)) rfl rfl cj_in9 (by decide) rfl cjq_728 rfl dX9_sign_9 ?_
  refine cj_iload_n C dX9_sign_12 rfl 0 rfl ?_
  refine cj_if_eq C 20 dX9_sign_13 rfl hf (fun hf => ?_) (fun hf => ?_)
  · refine cj_iconst C 0 dX9_sign_20 rfl ?_
    refine cj_iadd C dX9_sign_21 ?_
    refine cj_putS (j := 8) C (eM_0 (z := z) (ad := ad)) rfl rfl rfl rfl cj_in9 tyX9_ok nmX9 (by decide) rfl cjq_728 rfl rfl rfl (Nat.le_of_ble_eq_true rfl) dX9_sign_22 ?_
    refine cj_ltS hf (fun s3 hf => ?_)
    refine cj_iload_n C dX9_sign_25 rfl 0 rfl ?_
    obtain ⟨hp, hf⟩ := cj_gp_s hf
    cases hf
    exact cj_zret C rfl (cj_boo hp).1 rfl dX9_sign_26
  · refine cj_iconst C 1 dX9_sign_16 rfl ?_
    refine cj_goto C 21 dX9_sign_17 rfl ?_
    refine cj_iadd C dX9_sign_21 ?_
    refine cj_putS (j := 8) C (eM_0 (z := z) (ad := ad)) rfl rfl rfl rfl cj_in9 tyX9_ok nmX9 (by decide) rfl cjq_728 rfl rfl rfl (Nat.le_of_ble_eq_true rfl) dX9_sign_22 ?_
    refine cj_ltS hf (fun s4 hf => ?_)
    refine cj_iload_n C dX9_sign_25 rfl 0 rfl ?_
    obtain ⟨hp, hf⟩ := cj_gp_s hf
    cases hf
    exact cj_zret C rfl (cj_boo hp).1 rfl dX9_sign_26
set_option maxHeartbeats 4000000 in
set_option maxRecDepth 100000 in
theorem tl_X9_numbered_L12 {D : va_G} {z : cj_Zc} {ad : cj_Ad} (hI : cj_Ij (cj_EM z) ad) {μ : cj_Mm} {y2 : Int32} {y3 : Int32} {X : cj_X} (C : cj_C (cj_YM D z ad) X cX9_numbered 3 RX9 2 (some .boolean)) {r : Int32 × cj_S} {K : cj_S → Option (Int32 × cj_S)} (hK : ∀ (s5 : cj_S), K s5 = some r → cj_G (cj_YM D z ad) X (some (.int r.1), cj_upG μ 0 r.2) (cj_upG μ 0 s5) 74 [(0, .ref (ad 0 0)), (2, .int y3)] []) : ∀ (n : Nat) (s4 : cj_S), f_X9_numbered_L12 K y2 y3 n s4 = some r → cj_G (cj_YM D z ad) X (some (.int r.1), cj_upG μ 0 r.2) (cj_upG μ 0 s4) 12 [(0, .ref (ad 0 0)), (1, .int y2), (2, .int y3)] [] := by
  intro n
  induction n with
  | zero =>
    intro s4 hf
    rw [f_X9_numbered_L12] at hf
    cases hf
  | succ n ih =>
    intro s4 hf
    rw [f_X9_numbered_L12] at hf
    refine cj_aload_n C dX9_numbered_12 rfl 0 rfl ?_
    refine cj_bipush C 48 dX9_numbered_13 rfl ?_
    refine cj_bipush C 57 dX9_numbered_15 rfl ?_
    obtain ⟨x7, h6, hf⟩ := cj_bd_s hf
    refine cj_cV2i C cw_X9_isAt (ct_X9_isAt hI h6) cjq_1003 cjq_27 cjq_1001 (eM_0 (z := z) (ad := ad)) rfl rfl ⟨Nat.le_of_ble_eq_true rfl, Nat.le_of_ble_eq_true rfl⟩ (Nat.le_of_ble_eq_true rfl) dX9_numbered_17 ?_
    refine cj_if_eq C 74 dX9_numbered_20 rfl hf (fun hf => ?_) (fun hf => ?_)
    · refine cj_sub [0, 2] rfl ?_
      exact hK s4 hf
    · refine cj_aload_n C dX9_numbered_23 rfl 0 rfl ?_
      refine cj_getS (v := .int (s4 0 8)) (j := 8) C (eM_0 (z := z) (ad := ad)) rfl rfl cj_in9 (by decide) rfl cjq_728 rfl dX9_numbered_24 ?_
      refine cj_iload_n C dX9_numbered_27 rfl 2 rfl ?_
      refine cj_isub C dX9_numbered_28 ?_
      refine cj_iconst C 3 dX9_numbered_29 rfl ?_
      refine cj_ic_ge C 74 dX9_numbered_30 rfl hf (fun hf => ?_) (fun hf => ?_)
      · refine cj_sub [0, 2] rfl ?_
        exact hK s4 hf
      · refine cj_aload_n C dX9_numbered_33 rfl 0 rfl ?_
        refine cj_getS (v := .ref (ad 0 6)) (j := 14) C (eM_0 (z := z) (ad := ad)) rfl rfl cj_in9 (by decide) rfl cjq_734 rfl dX9_numbered_34 ?_
        refine cj_iload_n C dX9_numbered_37 rfl 1 rfl ?_
        refine cj_bipush C 10 dX9_numbered_38 rfl ?_
        refine cj_aload_n C dX9_numbered_40 rfl 0 rfl ?_
        refine cj_getS (v := .ref (ad 0 6)) (j := 14) C (eM_0 (z := z) (ad := ad)) rfl rfl cj_in9 (by decide) rfl cjq_734 rfl dX9_numbered_41 ?_
        refine cj_iload_n C dX9_numbered_44 rfl 1 rfl ?_
        refine cj_ialdS C (eM_6 (z := z) (ad := ad)) dX9_numbered_45 hf (fun hf => ?_)
        refine cj_imul C dX9_numbered_46 ?_
        refine cj_aload_n C dX9_numbered_47 rfl 0 rfl ?_
        refine cj_getS (v := .ref (ad 0 5)) (j := 6) C (eM_0 (z := z) (ad := ad)) rfl rfl cj_in9 (by decide) rfl cjq_726 rfl dX9_numbered_48 ?_
        refine cj_aload_n C dX9_numbered_51 rfl 0 rfl ?_
        refine cj_getS (v := .int (s4 0 8)) (j := 8) C (eM_0 (z := z) (ad := ad)) rfl rfl cj_in9 (by decide) rfl cjq_728 rfl dX9_numbered_52 ?_
        refine cj_ialdS C (eM_5 (z := z) (ad := ad)) dX9_numbered_55 hf (fun hf => ?_)
        refine cj_iadd C dX9_numbered_56 ?_
        refine cj_bipush C 48 dX9_numbered_57 rfl ?_
        refine cj_isub C dX9_numbered_59 ?_
        refine cj_iastS C (eM_6 (z := z) (ad := ad)) dX9_numbered_60 hf (fun hf => ?_)
        refine cj_ltS hf (fun s8 hf => ?_)
        refine cj_aload_n C dX9_numbered_61 rfl 0 rfl ?_
        refine cj_dup C dX9_numbered_62 rfl ?_
        refine cj_getS (v := .int (s8 0 8)) (j := 8) C (eM_0 (z := z) (ad := ad)) rfl rfl cj_in9 (by decide) rfl cjq_728 rfl dX9_numbered_63 ?_
        refine cj_iconst C 1 dX9_numbered_66 rfl ?_
        refine cj_iadd C dX9_numbered_67 ?_
        refine cj_putS (j := 8) C (eM_0 (z := z) (ad := ad)) rfl rfl rfl rfl cj_in9 tyX9_ok nmX9 (by decide) rfl cjq_728 rfl rfl rfl (Nat.le_of_ble_eq_true rfl) dX9_numbered_68 ?_
        refine cj_ltS hf (fun s9 hf => ?_)
        refine cj_goto C 12 dX9_numbered_71 rfl ?_
        exact ih s9 hf
set_option maxHeartbeats 4000000 in
set_option maxRecDepth 100000 in
theorem ct_X9_numbered {l : Launch} {D : va_G} {z : cj_Zc} {ad : cj_Ad} (hI : cj_Ij (cj_EM z) ad) {μ : cj_Mm} {s0 : cj_S} {a1 : Int32} {r : Int32} {r2 : cj_S} (hf : f_X9_numbered s0 a1 = some (r, r2)) : cj_Ct l (cj_YM D z ad) yX9_numbered cX9_numbered 3 (some .boolean) 2 [.ref (ad 0 0), .int a1] (cj_upG μ 0 s0) (some (.int r)) (cj_upG μ 0 r2) := by
  refine cj_Ct.of (by decide +kernel) hI (Nat.le_of_ble_eq_true rfl) [(0, .ref (ad 0 0)), (1, .int a1)] rfl (fun X hX C => ?_)
  subst hX
  have C : cj_C (cj_YM D z ad) X cX9_numbered 3 RX9 2 (some .boolean) := C
  unfold f_X9_numbered at hf
  generalize hr2 : (r, r2) = r3 at hf
  obtain ⟨e1, e2⟩ : r = r3.1 ∧ r2 = r3.2 := by rw [← hr2]; exact ⟨rfl, rfl⟩
  rw [e1, e2]
  clear e1 e2 hr2
  obtain ⟨r, hr⟩ : ∃ r, r = r3 := ⟨_, rfl⟩
  rw [← hr] at hf ⊢
  clear hr
  refine cj_aload_n C dX9_numbered_0 rfl 0 rfl ?_
  refine cj_getS (v := .int (s0 0 8)) (j := 8) C (eM_0 (z := z) (ad := ad)) rfl rfl cj_in9 (by decide) rfl cjq_728 rfl dX9_numbered_1 ?_
  refine cj_istore_n (lv' := [(2, .int (s0 0 8)), (0, .ref (ad 0 0)), (1, .int a1)]) C dX9_numbered_4 rfl (by decide) rfl ?_
  refine cj_aload_n C dX9_numbered_5 rfl 1 rfl ?_
  refine cj_getS (v := .ref (ad 0 6)) (j := 14) C (eM_0 (z := z) (ad := ad)) rfl rfl cj_in9 (by decide) rfl cjq_734 rfl dX9_numbered_6 ?_
  refine cj_iload_n C dX9_numbered_9 rfl 2 rfl ?_
  refine cj_iconst C 0 dX9_numbered_10 rfl ?_
  refine cj_iastS C (eM_6 (z := z) (ad := ad)) dX9_numbered_11 hf (fun hf => ?_)
  refine cj_ltS hf (fun s1 hf => ?_)
  refine cj_sub [1, 2, 0] rfl ?_
  refine tl_X9_numbered_L12 hI C (fun s10 hf => ?_) cj_FU s1 hf
  refine cj_aload_n C dX9_numbered_74 rfl 0 rfl ?_
  refine cj_getS (v := .int (s10 0 8)) (j := 8) C (eM_0 (z := z) (ad := ad)) rfl rfl cj_in9 (by decide) rfl cjq_728 rfl dX9_numbered_75 ?_
  refine cj_iload_n C dX9_numbered_78 rfl 1 rfl ?_
  refine cj_ic_le C 86 dX9_numbered_79 rfl hf (fun hf => ?_) (fun hf => ?_)
  · refine cj_iconst C 0 dX9_numbered_86 rfl ?_
    cases hf
    exact cj_zret C rfl rfl rfl dX9_numbered_87
  · refine cj_iconst C 1 dX9_numbered_82 rfl ?_
    refine cj_goto C 87 dX9_numbered_83 rfl ?_
    cases hf
    exact cj_zret C rfl rfl rfl dX9_numbered_87
set_option maxHeartbeats 4000000 in
set_option maxRecDepth 100000 in
theorem ct_X9_numbersOf {l : Launch} {Y : cj_Y} (hI : cj_Ij Y.1 Y.2.2.2) {μ : cj_Mm} {a0 : Int32} {r : Int32} (hf : f_X9_numbersOf a0 = some r) : cj_Ct l Y yX9_numbersOf cX9_numbersOf 1 (some .int) 0 [.int a0] (μ) (some (.int r)) (μ) := by
  refine cj_Ct.of (by decide +kernel) hI (Nat.le_of_ble_eq_true rfl) [(0, .int a0)] rfl (fun X hX C => ?_)
  subst hX
  have C : cj_C Y X cX9_numbersOf 1 RX9 0 (some .int) := C
  unfold f_X9_numbersOf at hf
  refine cj_iload_n C dX9_numbersOf_0 rfl 0 rfl ?_
  refine cj_bipush C 100 dX9_numbersOf_1 rfl ?_
  refine cj_ic_eq C 12 dX9_numbersOf_3 rfl hf (fun hf => ?_) (fun hf => ?_)
  · refine cj_iconst C 2 dX9_numbersOf_12 rfl ?_
    refine cj_goto C 45 dX9_numbersOf_13 rfl ?_
    cases hf
    exact cj_iret C rfl dX9_numbersOf_45
  · refine cj_iload_n C dX9_numbersOf_6 rfl 0 rfl ?_
    refine cj_bipush C 115 dX9_numbersOf_7 rfl ?_
    refine cj_ic_ne C 16 dX9_numbersOf_9 rfl hf (fun hf => ?_) (fun hf => ?_)
    · refine cj_iload_n C dX9_numbersOf_16 rfl 0 rfl ?_
      refine cj_bipush C 108 dX9_numbersOf_17 rfl ?_
      refine cj_ic_eq C 40 dX9_numbersOf_19 rfl hf (fun hf => ?_) (fun hf => ?_)
      · refine cj_iconst C 1 dX9_numbersOf_40 rfl ?_
        refine cj_goto C 45 dX9_numbersOf_41 rfl ?_
        cases hf
        exact cj_iret C rfl dX9_numbersOf_45
      · refine cj_iload_n C dX9_numbersOf_22 rfl 0 rfl ?_
        refine cj_bipush C 98 dX9_numbersOf_23 rfl ?_
        refine cj_ic_eq C 40 dX9_numbersOf_25 rfl hf (fun hf => ?_) (fun hf => ?_)
        · refine cj_iconst C 1 dX9_numbersOf_40 rfl ?_
          refine cj_goto C 45 dX9_numbersOf_41 rfl ?_
          cases hf
          exact cj_iret C rfl dX9_numbersOf_45
        · refine cj_iload_n C dX9_numbersOf_28 rfl 0 rfl ?_
          refine cj_bipush C 118 dX9_numbersOf_29 rfl ?_
          refine cj_ic_eq C 40 dX9_numbersOf_31 rfl hf (fun hf => ?_) (fun hf => ?_)
          · refine cj_iconst C 1 dX9_numbersOf_40 rfl ?_
            refine cj_goto C 45 dX9_numbersOf_41 rfl ?_
            cases hf
            exact cj_iret C rfl dX9_numbersOf_45
          · refine cj_iload_n C dX9_numbersOf_34 rfl 0 rfl ?_
            refine cj_bipush C 109 dX9_numbersOf_35 rfl ?_
            refine cj_ic_ne C 44 dX9_numbersOf_37 rfl hf (fun hf => ?_) (fun hf => ?_)
            · refine cj_iconst C 0 dX9_numbersOf_44 rfl ?_
              cases hf
              exact cj_iret C rfl dX9_numbersOf_45
            · refine cj_iconst C 1 dX9_numbersOf_40 rfl ?_
              refine cj_goto C 45 dX9_numbersOf_41 rfl ?_
              cases hf
              exact cj_iret C rfl dX9_numbersOf_45
    · refine cj_iconst C 2 dX9_numbersOf_12 rfl ?_
      refine cj_goto C 45 dX9_numbersOf_13 rfl ?_
      cases hf
      exact cj_iret C rfl dX9_numbersOf_45
set_option maxHeartbeats 4000000 in
set_option maxRecDepth 100000 in
theorem ct_X9_reads {l : Launch} {D : va_G} {z : cj_Zc} {ad : cj_Ad} (hI : cj_Ij (cj_EM z) ad) {μ : cj_Mm} {s0 : cj_S} {r : Int32} {r2 : cj_S} (hf : f_X9_reads s0 = some (r, r2)) : cj_Ct l (cj_YM D z ad) yX9_reads cX9_reads 3 (some .boolean) 3 [.ref (ad 0 0)] (cj_upG μ 0 s0) (some (.int r)) (cj_upG μ 0 r2) := by
  refine cj_Ct.of (by decide +kernel) hI (Nat.le_of_ble_eq_true rfl) [(0, .ref (ad 0 0))] rfl (fun X hX C => ?_)
  subst hX
  have C : cj_C (cj_YM D z ad) X cX9_reads 3 RX9 3 (some .boolean) := C
  unfold f_X9_reads at hf
  generalize hr2 : (r, r2) = r3 at hf
  obtain ⟨e1, e2⟩ : r = r3.1 ∧ r2 = r3.2 := by rw [← hr2]; exact ⟨rfl, rfl⟩
  rw [e1, e2]
  clear e1 e2 hr2
  obtain ⟨r, hr⟩ : ∃ r, r = r3 := ⟨_, rfl⟩
  rw [← hr] at hf ⊢
  clear hr
  refine cj_aload_n C dX9_reads_0 rfl 0 rfl ?_
  refine cj_aload_n C dX9_reads_1 rfl 0 rfl ?_
  refine cj_bipush C 33 dX9_reads_2 rfl ?_
  refine cj_bipush C 126 dX9_reads_4 rfl ?_
  obtain ⟨x2, h1, hf⟩ := cj_bd_s hf
  refine cj_cV2i C cw_X9_isAt (ct_X9_isAt hI h1) cjq_1003 cjq_27 cjq_1001 (eM_0 (z := z) (ad := ad)) rfl rfl ⟨Nat.le_of_ble_eq_true rfl, Nat.le_of_ble_eq_true rfl⟩ (Nat.le_of_ble_eq_true rfl) dX9_reads_6 ?_
  refine cj_jn (Hyp := fun K3 => ∀ (x4 : Int32), K3 x4 = some r → cj_G (cj_YM D z ad) X (some (.int r.1), cj_upG μ 0 r.2) (cj_upG μ 0 s0) 25 [(0, .ref (ad 0 0))] [.int x4, .ref (ad 0 0)]) hf (fun x4 hf => ?_) (fun K3 hK3 hf => ?_)
  · refine cj_putS (j := 13) C (eM_0 (z := z) (ad := ad)) rfl rfl rfl rfl cj_in9 tyX9_ok nmX9 (by decide) rfl cjq_733 rfl rfl rfl (Nat.le_of_ble_eq_true rfl) dX9_reads_25 ?_
    refine cj_ltS hf (fun s5 hf => ?_)
    refine cj_aload_n C dX9_reads_28 rfl 0 rfl ?_
    refine cj_getS (v := .int (s5 0 13)) (j := 13) C (eM_0 (z := z) (ad := ad)) rfl rfl cj_in9 (by decide) rfl cjq_733 rfl dX9_reads_29 ?_
    obtain ⟨x7, h6, hf⟩ := cj_bd_s hf
    refine cj_cS1i C cw_X9_numbersOf (ct_X9_numbersOf hI h6) cjq_1006 cjq_1005 ⟨Nat.le_of_ble_eq_true rfl, Nat.le_of_ble_eq_true rfl⟩ (Nat.le_of_ble_eq_true rfl) dX9_reads_32 ?_
    refine cj_istore_n (lv' := [(1, .int x7), (0, .ref (ad 0 0))]) C dX9_reads_35 rfl (by decide) rfl ?_
    refine cj_iload_n C dX9_reads_36 rfl 0 rfl ?_
    refine cj_if_ne C 42 dX9_reads_37 rfl hf (fun hf => ?_) (fun hf => ?_)
    · refine cj_aload_n C dX9_reads_42 rfl 1 rfl ?_
      refine cj_dup C dX9_reads_43 rfl ?_
      refine cj_getS (v := .int (s5 0 8)) (j := 8) C (eM_0 (z := z) (ad := ad)) rfl rfl cj_in9 (by decide) rfl cjq_728 rfl dX9_reads_44 ?_
      refine cj_iconst C 1 dX9_reads_47 rfl ?_
      refine cj_iadd C dX9_reads_48 ?_
      refine cj_putS (j := 8) C (eM_0 (z := z) (ad := ad)) rfl rfl rfl rfl cj_in9 tyX9_ok nmX9 (by decide) rfl cjq_728 rfl rfl rfl (Nat.le_of_ble_eq_true rfl) dX9_reads_49 ?_
      refine cj_ltS hf (fun s8 hf => ?_)
      refine cj_aload_n C dX9_reads_52 rfl 1 rfl ?_
      refine cj_iconst C 0 dX9_reads_53 rfl ?_
      obtain ⟨x10, s11, h9, hf⟩ := cj_bp_s hf
      refine cj_cV1i C cw_X9_numbered (ct_X9_numbered hI h9) cjq_1010 cjq_28 cjq_1008 (eM_0 (z := z) (ad := ad)) rfl rfl ⟨Nat.le_of_ble_eq_true rfl, Nat.le_of_ble_eq_true rfl⟩ (Nat.le_of_ble_eq_true rfl) dX9_reads_54 ?_
      refine cj_istore_n (lv' := [(2, .int x10), (1, .int x7), (0, .ref (ad 0 0))]) C dX9_reads_57 rfl (by decide) rfl ?_
      refine cj_iload_n C dX9_reads_58 rfl 0 rfl ?_
      refine cj_jn (Hyp := fun K12 => ∀ (x13 : Int32) (s14 : cj_S), K12 x13 s14 = some r → cj_G (cj_YM D z ad) X (some (.int r.1), cj_upG μ 0 r.2) (cj_upG μ 0 s14) 90 [(0, .ref (ad 0 0)), (2, .int x13)] []) hf (fun x13 s14 hf => ?_) (fun K12 hK12 hf => ?_)
      · refine cj_iload_n C dX9_reads_90 rfl 1 rfl ?_
        refine cj_if_eq C 107 dX9_reads_91 rfl hf (fun hf => ?_) (fun hf => ?_)
        · refine cj_iconst C 0 dX9_reads_107 rfl ?_
          cases hf
          exact cj_zret C rfl rfl rfl dX9_reads_108
        · refine cj_aload_n C dX9_reads_94 rfl 0 rfl ?_
          refine cj_bipush C 59 dX9_reads_95 rfl ?_
          obtain ⟨x16, s17, h15, hf⟩ := cj_bp_s hf
          refine cj_cV1i C cw_X9_sign (ct_X9_sign hI h15) cjq_1014 cjq_29 cjq_1012 (eM_0 (z := z) (ad := ad)) rfl rfl ⟨Nat.le_of_ble_eq_true rfl, Nat.le_of_ble_eq_true rfl⟩ (Nat.le_of_ble_eq_true rfl) dX9_reads_97 ?_
          refine cj_if_eq C 107 dX9_reads_100 rfl hf (fun hf => ?_) (fun hf => ?_)
          · refine cj_iconst C 0 dX9_reads_107 rfl ?_
            cases hf
            exact cj_zret C rfl rfl rfl dX9_reads_108
          · refine cj_iconst C 1 dX9_reads_103 rfl ?_
            refine cj_goto C 108 dX9_reads_104 rfl ?_
            cases hf
            exact cj_zret C rfl rfl rfl dX9_reads_108
      · refine cj_if_eq C 90 dX9_reads_59 rfl hf (fun hf => ?_) (fun hf => ?_)
        · refine cj_sub [2, 0] rfl ?_
          exact hK12 x10 s11 hf
        · refine cj_iload_n C dX9_reads_62 rfl 1 rfl ?_
          refine cj_iconst C 2 dX9_reads_63 rfl ?_
          refine cj_ic_ne C 90 dX9_reads_64 rfl hf (fun hf => ?_) (fun hf => ?_)
          · refine cj_sub [2, 0] rfl ?_
            exact hK12 x10 s11 hf
          · refine cj_aload_n C dX9_reads_67 rfl 2 rfl ?_
            refine cj_bipush C 44 dX9_reads_68 rfl ?_
            obtain ⟨x19, s20, h18, hf⟩ := cj_bp_s hf
            refine cj_cV1i C cw_X9_sign (ct_X9_sign hI h18) cjq_1014 cjq_29 cjq_1012 (eM_0 (z := z) (ad := ad)) rfl rfl ⟨Nat.le_of_ble_eq_true rfl, Nat.le_of_ble_eq_true rfl⟩ (Nat.le_of_ble_eq_true rfl) dX9_reads_70 ?_
            refine cj_jn (Hyp := fun K21 => ∀ (x22 : Int32) (s23 : cj_S), K21 x22 s23 = some r → cj_G (cj_YM D z ad) X (some (.int r.1), cj_upG μ 0 r.2) (cj_upG μ 0 s23) 89 [(0, .ref (ad 0 0))] [.int x22]) hf (fun x22 s23 hf => ?_) (fun K21 hK21 hf => ?_)
            · refine cj_istore_n (lv' := [(2, .int x22), (0, .ref (ad 0 0))]) C dX9_reads_89 rfl (by decide) rfl ?_
              refine cj_sub [1, 0] rfl ?_
              exact hK12 x22 s23 hf
            · refine cj_jn (Hyp := fun K24 => ∀ (s25 : cj_S), K24 s25 = some r → cj_G (cj_YM D z ad) X (some (.int r.1), cj_upG μ 0 r.2) (cj_upG μ 0 s25) 88 [(0, .ref (ad 0 0))] []) hf (fun s25 hf => ?_) (fun K24 hK24 hf => ?_)
              · refine cj_iconst C 0 dX9_reads_88 rfl ?_
                exact hK21 0 s25 hf
              · refine cj_if_eq C 88 dX9_reads_73 rfl hf (fun hf => ?_) (fun hf => ?_)
                · refine cj_sub [2] rfl ?_
                  exact hK24 s20 hf
                · refine cj_aload_n C dX9_reads_76 rfl 2 rfl ?_
                  refine cj_iconst C 1 dX9_reads_77 rfl ?_
                  obtain ⟨x27, s28, h26, hf⟩ := cj_bp_s hf
                  refine cj_cV1i C cw_X9_numbered (ct_X9_numbered hI h26) cjq_1010 cjq_28 cjq_1008 (eM_0 (z := z) (ad := ad)) rfl rfl ⟨Nat.le_of_ble_eq_true rfl, Nat.le_of_ble_eq_true rfl⟩ (Nat.le_of_ble_eq_true rfl) dX9_reads_78 ?_
                  refine cj_if_eq C 88 dX9_reads_81 rfl hf (fun hf => ?_) (fun hf => ?_)
                  · refine cj_sub [2] rfl ?_
                    exact hK24 s28 hf
                  · refine cj_iconst C 1 dX9_reads_84 rfl ?_
                    refine cj_goto C 89 dX9_reads_85 rfl ?_
                    refine cj_sub [2] rfl ?_
                    exact hK21 1 s28 hf
    · refine cj_iconst C 0 dX9_reads_40 rfl ?_
      cases hf
      exact cj_zret C rfl rfl rfl dX9_reads_41
  · refine cj_if_eq C 24 dX9_reads_9 rfl hf (fun hf => ?_) (fun hf => ?_)
    · refine cj_iconst C 0 dX9_reads_24 rfl ?_
      exact hK3 0 hf
    · refine cj_aload_n C dX9_reads_12 rfl 0 rfl ?_
      refine cj_getS (v := .ref (ad 0 5)) (j := 6) C (eM_0 (z := z) (ad := ad)) rfl rfl cj_in9 (by decide) rfl cjq_726 rfl dX9_reads_13 ?_
      refine cj_aload_n C dX9_reads_16 rfl 0 rfl ?_
      refine cj_getS (v := .int (s0 0 8)) (j := 8) C (eM_0 (z := z) (ad := ad)) rfl rfl cj_in9 (by decide) rfl cjq_728 rfl dX9_reads_17 ?_
      refine cj_ialdS C (eM_5 (z := z) (ad := ad)) dX9_reads_20 hf (fun hf => ?_)
      refine cj_goto C 25 dX9_reads_21 rfl ?_
      exact hK3 (s0 5 (s0 0 8).toNatClampNeg) hf
