set_option maxHeartbeats 4000000 in
set_option maxRecDepth 100000 in
theorem tl_X9_ones_L4 {Y : cj_Y} (hI : cj_Ij Y.1 Y.2.2.2) {μ : cj_Mm}  {X : cj_X} (C : cj_C Y X cX9_ones 3 RX9 0 (some .int)) {r : Int32} : ∀ (n : Nat) (x1 : Int32) (x2 : Int32), f_X9_ones_L4 n x1 x2 = some r → cj_G Y X (some (.int r), μ) (μ) 4 [(1, .int x1), (2, .int x2)] [] := by
  intro n
  induction n with
  | zero =>
    intro x1 x2 hf
    rw [f_X9_ones_L4] at hf
    cases hf
  | succ n ih =>
    intro x1 x2 hf
    rw [f_X9_ones_L4] at hf
    refine cj_iload_n C dX9_ones_4 rfl 1 rfl ?_
    refine cj_if_eq C 20 dX9_ones_5 rfl hf (fun hf => ?_) (fun hf => ?_)
    · refine cj_iload_n C dX9_ones_20 rfl 0 rfl ?_
      cases hf
      exact cj_iret C rfl dX9_ones_21
    · refine cj_iinc (lv' := [(1, .int (x1 + 1)), (2, .int x2)]) C dX9_ones_8 (j := 0) rfl rfl (by decide) rfl ?_
      refine cj_iload_n C dX9_ones_11 rfl 1 rfl ?_
      refine cj_iload_n C dX9_ones_12 rfl 1 rfl ?_
      refine cj_iconst C 1 dX9_ones_13 rfl ?_
      refine cj_isub C dX9_ones_14 ?_
      refine cj_iand C dX9_ones_15 ?_
      refine cj_istore_n (lv' := [(2, .int (x2 &&& (x2 - 1))), (1, .int (x1 + 1))]) C dX9_ones_16 rfl (by decide) rfl ?_
      refine cj_goto C 4 dX9_ones_17 rfl ?_
      refine cj_sub [1, 0] rfl ?_
      exact ih (x1 + 1) (x2 &&& (x2 - 1)) hf
set_option maxHeartbeats 4000000 in
set_option maxRecDepth 100000 in
theorem ct_X9_ones {l : Launch} {Y : cj_Y} (hI : cj_Ij Y.1 Y.2.2.2) {μ : cj_Mm} {a0 : Int32} {r : Int32} (hf : f_X9_ones a0 = some r) : cj_Ct l Y yX9_ones cX9_ones 3 (some .int) 0 [.int a0] (μ) (some (.int r)) (μ) := by
  refine cj_Ct.of (by decide +kernel) hI (Nat.le_of_ble_eq_true rfl) [(0, .int a0)] rfl (fun X hX C => ?_)
  subst hX
  have C : cj_C Y X cX9_ones 3 RX9 0 (some .int) := C
  unfold f_X9_ones at hf
  refine cj_iconst C 0 dX9_ones_0 rfl ?_
  refine cj_istore_n (lv' := [(1, .int 0), (0, .int a0)]) C dX9_ones_1 rfl (by decide) rfl ?_
  refine cj_iload_n C dX9_ones_2 rfl 1 rfl ?_
  refine cj_istore_n (lv' := [(2, .int a0), (1, .int 0), (0, .int a0)]) C dX9_ones_3 rfl (by decide) rfl ?_
  refine cj_sub [1, 0] rfl ?_
  exact tl_X9_ones_L4 hI C cj_FU 0 a0 hf
set_option maxHeartbeats 4000000 in
set_option maxRecDepth 100000 in
theorem ct_X9_isPerson {l : Launch} {D : va_G} {z : cj_Zc} {ad : cj_Ad} (hI : cj_Ij (cj_EM z) ad) {μ : cj_Mm} {s0 : cj_S} {a1 : Int32} {r : Int32} (hf : f_X9_isPerson s0 a1 = some r) : cj_Ct l (cj_YM D z ad) yX9_isPerson cX9_isPerson 2 (some .boolean) 0 [.ref (ad 0 0), .int a1] (cj_upG μ 0 s0) (some (.int r)) (cj_upG μ 0 s0) := by
  refine cj_Ct.of (by decide +kernel) hI (Nat.le_of_ble_eq_true rfl) [(0, .ref (ad 0 0)), (1, .int a1)] rfl (fun X hX C => ?_)
  subst hX
  have C : cj_C (cj_YM D z ad) X cX9_isPerson 2 RX9 0 (some .boolean) := C
  unfold f_X9_isPerson at hf
  refine cj_iload_n C dX9_isPerson_0 rfl 1 rfl ?_
  refine cj_if_lt C 18 dX9_isPerson_1 rfl hf (fun hf => ?_) (fun hf => ?_)
  · refine cj_iconst C 0 dX9_isPerson_18 rfl ?_
    cases hf
    exact cj_zret C rfl rfl rfl dX9_isPerson_19
  · refine cj_iload_n C dX9_isPerson_4 rfl 1 rfl ?_
    refine cj_aload_n C dX9_isPerson_5 rfl 0 rfl ?_
    refine cj_getS (v := .ref (ad 0 1)) (j := 0) C (eM_0 (z := z) (ad := ad)) rfl rfl cj_in9 (by decide) rfl cjq_720 rfl dX9_isPerson_6 ?_
    refine cj_iconst C 0 dX9_isPerson_9 rfl ?_
    refine cj_ialdKS (j := 0) C (eM_1 (z := z) (ad := ad)) rfl (by decide) dX9_isPerson_10 ?_
    refine cj_ic_ge C 18 dX9_isPerson_11 rfl hf (fun hf => ?_) (fun hf => ?_)
    · refine cj_iconst C 0 dX9_isPerson_18 rfl ?_
      cases hf
      exact cj_zret C rfl rfl rfl dX9_isPerson_19
    · refine cj_iconst C 1 dX9_isPerson_14 rfl ?_
      refine cj_goto C 19 dX9_isPerson_15 rfl ?_
      cases hf
      exact cj_zret C rfl rfl rfl dX9_isPerson_19
set_option maxHeartbeats 4000000 in
set_option maxRecDepth 100000 in
theorem ct_X9_isPaper {l : Launch} {D : va_G} {z : cj_Zc} {ad : cj_Ad} (hI : cj_Ij (cj_EM z) ad) {μ : cj_Mm} {s0 : cj_S} {a1 : Int32} {r : Int32} (hf : f_X9_isPaper s0 a1 = some r) : cj_Ct l (cj_YM D z ad) yX9_isPaper cX9_isPaper 2 (some .boolean) 0 [.ref (ad 0 0), .int a1] (cj_upG μ 0 s0) (some (.int r)) (cj_upG μ 0 s0) := by
  refine cj_Ct.of (by decide +kernel) hI (Nat.le_of_ble_eq_true rfl) [(0, .ref (ad 0 0)), (1, .int a1)] rfl (fun X hX C => ?_)
  subst hX
  have C : cj_C (cj_YM D z ad) X cX9_isPaper 2 RX9 0 (some .boolean) := C
  unfold f_X9_isPaper at hf
  refine cj_iload_n C dX9_isPaper_0 rfl 1 rfl ?_
  refine cj_if_lt C 18 dX9_isPaper_1 rfl hf (fun hf => ?_) (fun hf => ?_)
  · refine cj_iconst C 0 dX9_isPaper_18 rfl ?_
    cases hf
    exact cj_zret C rfl rfl rfl dX9_isPaper_19
  · refine cj_iload_n C dX9_isPaper_4 rfl 1 rfl ?_
    refine cj_aload_n C dX9_isPaper_5 rfl 0 rfl ?_
    refine cj_getS (v := .ref (ad 0 1)) (j := 0) C (eM_0 (z := z) (ad := ad)) rfl rfl cj_in9 (by decide) rfl cjq_720 rfl dX9_isPaper_6 ?_
    refine cj_iconst C 1 dX9_isPaper_9 rfl ?_
    refine cj_ialdKS (j := 1) C (eM_1 (z := z) (ad := ad)) rfl (by decide) dX9_isPaper_10 ?_
    refine cj_ic_ge C 18 dX9_isPaper_11 rfl hf (fun hf => ?_) (fun hf => ?_)
    · refine cj_iconst C 0 dX9_isPaper_18 rfl ?_
      cases hf
      exact cj_zret C rfl rfl rfl dX9_isPaper_19
    · refine cj_iconst C 1 dX9_isPaper_14 rfl ?_
      refine cj_goto C 19 dX9_isPaper_15 rfl ?_
      cases hf
      exact cj_zret C rfl rfl rfl dX9_isPaper_19
set_option maxHeartbeats 4000000 in
set_option maxRecDepth 100000 in
theorem ct_X9_of {l : Launch} {D : va_G} {z : cj_Zc} {ad : cj_Ad} (hI : cj_Ij (cj_EM z) ad) {μ : cj_Mm} {s0 : cj_S} {a1 : Int32} {a2 : Int32} {r : Int32} (hf : f_X9_of s0 a1 a2 = some r) : cj_Ct l (cj_YM D z ad) yX9_of cX9_of 3 (some .int) 0 [.ref (ad 0 0), .int a1, .int a2] (cj_upG μ 0 s0) (some (.int r)) (cj_upG μ 0 s0) := by
  refine cj_Ct.of (by decide +kernel) hI (Nat.le_of_ble_eq_true rfl) [(0, .ref (ad 0 0)), (1, .int a1), (2, .int a2)] rfl (fun X hX C => ?_)
  subst hX
  have C : cj_C (cj_YM D z ad) X cX9_of 3 RX9 0 (some .int) := C
  unfold f_X9_of at hf
  refine cj_aload_n C dX9_of_0 rfl 0 rfl ?_
  refine cj_getS (v := .ref (ad 0 1)) (j := 0) C (eM_0 (z := z) (ad := ad)) rfl rfl cj_in9 (by decide) rfl cjq_720 rfl dX9_of_1 ?_
  refine cj_bipush C 11 dX9_of_4 rfl ?_
  refine cj_bipush C 18 dX9_of_6 rfl ?_
  refine cj_iload_n C dX9_of_8 rfl 1 rfl ?_
  refine cj_imul C dX9_of_9 ?_
  refine cj_iadd C dX9_of_10 ?_
  refine cj_iload_n C dX9_of_11 rfl 2 rfl ?_
  refine cj_iadd C dX9_of_12 ?_
  refine cj_ialdS C (eM_1 (z := z) (ad := ad)) dX9_of_13 hf (fun hf => ?_)
  cases hf
  exact cj_iret C rfl dX9_of_14
set_option maxHeartbeats 4000000 in
set_option maxRecDepth 100000 in
theorem ct_X9_sets {l : Launch} {D : va_G} {z : cj_Zc} {ad : cj_Ad} (hI : cj_Ij (cj_EM z) ad) {μ : cj_Mm} {s0 : cj_S} {a1 : Int32} {a2 : Int32} {a3 : Int32} {r : cj_S} (hf : f_X9_sets s0 a1 a2 a3 = some r) : cj_Ct l (cj_YM D z ad) yX9_sets cX9_sets 4 none 0 [.ref (ad 0 0), .int a1, .int a2, .int a3] (cj_upG μ 0 s0) none (cj_upG μ 0 r) := by
  refine cj_Ct.of (by decide +kernel) hI (Nat.le_of_ble_eq_true rfl) [(0, .ref (ad 0 0)), (1, .int a1), (2, .int a2), (3, .int a3)] rfl (fun X hX C => ?_)
  subst hX
  have C : cj_C (cj_YM D z ad) X cX9_sets 4 RX9 0 none := C
  unfold f_X9_sets at hf
  refine cj_aload_n C dX9_sets_0 rfl 0 rfl ?_
  refine cj_getS (v := .ref (ad 0 1)) (j := 0) C (eM_0 (z := z) (ad := ad)) rfl rfl cj_in9 (by decide) rfl cjq_720 rfl dX9_sets_1 ?_
  refine cj_bipush C 11 dX9_sets_4 rfl ?_
  refine cj_bipush C 18 dX9_sets_6 rfl ?_
  refine cj_iload_n C dX9_sets_8 rfl 1 rfl ?_
  refine cj_imul C dX9_sets_9 ?_
  refine cj_iadd C dX9_sets_10 ?_
  refine cj_iload_n C dX9_sets_11 rfl 2 rfl ?_
  refine cj_iadd C dX9_sets_12 ?_
  refine cj_iload_n C dX9_sets_13 rfl 3 rfl ?_
  refine cj_iastS C (eM_1 (z := z) (ad := ad)) dX9_sets_14 hf (fun hf => ?_)
  refine cj_ltS hf (fun s1 hf => ?_)
  cases hf
  exact cj_vret C rfl dX9_sets_15
set_option maxHeartbeats 4000000 in
set_option maxRecDepth 100000 in
theorem ct_X9_ofSheet {l : Launch} {D : va_G} {z : cj_Zc} {ad : cj_Ad} (hI : cj_Ij (cj_EM z) ad) {μ : cj_Mm} {s0 : cj_S} {a1 : Int32} {a2 : Int32} {r : Int32} (hf : f_X9_ofSheet s0 a1 a2 = some r) : cj_Ct l (cj_YM D z ad) yX9_ofSheet cX9_ofSheet 3 (some .int) 0 [.ref (ad 0 0), .int a1, .int a2] (cj_upG μ 0 s0) (some (.int r)) (cj_upG μ 0 s0) := by
  refine cj_Ct.of (by decide +kernel) hI (Nat.le_of_ble_eq_true rfl) [(0, .ref (ad 0 0)), (1, .int a1), (2, .int a2)] rfl (fun X hX C => ?_)
  subst hX
  have C : cj_C (cj_YM D z ad) X cX9_ofSheet 3 RX9 0 (some .int) := C
  unfold f_X9_ofSheet at hf
  refine cj_aload_n C dX9_ofSheet_0 rfl 0 rfl ?_
  refine cj_getS (v := .ref (ad 0 1)) (j := 0) C (eM_0 (z := z) (ad := ad)) rfl rfl cj_in9 (by decide) rfl cjq_720 rfl dX9_ofSheet_1 ?_
  refine cj_bipush C 119 dX9_ofSheet_4 rfl ?_
  refine cj_iconst C 4 dX9_ofSheet_6 rfl ?_
  refine cj_iload_n C dX9_ofSheet_7 rfl 1 rfl ?_
  refine cj_imul C dX9_ofSheet_8 ?_
  refine cj_iadd C dX9_ofSheet_9 ?_
  refine cj_iload_n C dX9_ofSheet_10 rfl 2 rfl ?_
  refine cj_iadd C dX9_ofSheet_11 ?_
  refine cj_ialdS C (eM_1 (z := z) (ad := ad)) dX9_ofSheet_12 hf (fun hf => ?_)
  cases hf
  exact cj_iret C rfl dX9_ofSheet_13
set_option maxHeartbeats 4000000 in
set_option maxRecDepth 100000 in
theorem ct_X9_ofPaper {l : Launch} {D : va_G} {z : cj_Zc} {ad : cj_Ad} (hI : cj_Ij (cj_EM z) ad) {μ : cj_Mm} {s0 : cj_S} {a1 : Int32} {a2 : Int32} {r : Int32} (hf : f_X9_ofPaper s0 a1 a2 = some r) : cj_Ct l (cj_YM D z ad) yX9_ofPaper cX9_ofPaper 3 (some .int) 0 [.ref (ad 0 0), .int a1, .int a2] (cj_upG μ 0 s0) (some (.int r)) (cj_upG μ 0 s0) := by
  refine cj_Ct.of (by decide +kernel) hI (Nat.le_of_ble_eq_true rfl) [(0, .ref (ad 0 0)), (1, .int a1), (2, .int a2)] rfl (fun X hX C => ?_)
  subst hX
  have C : cj_C (cj_YM D z ad) X cX9_ofPaper 3 RX9 0 (some .int) := C
  unfold f_X9_ofPaper at hf
  refine cj_aload_n C dX9_ofPaper_0 rfl 0 rfl ?_
  refine cj_getS (v := .ref (ad 0 1)) (j := 0) C (eM_0 (z := z) (ad := ad)) rfl rfl cj_in9 (by decide) rfl cjq_720 rfl dX9_ofPaper_1 ?_
  refine cj_sipush C 159 dX9_ofPaper_4 rfl ?_
  refine cj_bipush C 6 dX9_ofPaper_7 rfl ?_
  refine cj_iload_n C dX9_ofPaper_9 rfl 1 rfl ?_
  refine cj_imul C dX9_ofPaper_10 ?_
  refine cj_iadd C dX9_ofPaper_11 ?_
  refine cj_iload_n C dX9_ofPaper_12 rfl 2 rfl ?_
  refine cj_iadd C dX9_ofPaper_13 ?_
  refine cj_ialdS C (eM_1 (z := z) (ad := ad)) dX9_ofPaper_14 hf (fun hf => ?_)
  cases hf
  exact cj_iret C rfl dX9_ofPaper_15
set_option maxHeartbeats 4000000 in
set_option maxRecDepth 100000 in
theorem ct_X9_day {l : Launch} {D : va_G} {z : cj_Zc} {ad : cj_Ad} (hI : cj_Ij (cj_EM z) ad) {μ : cj_Mm} {s0 : cj_S} {r : Int32} (hf : f_X9_day s0 = some r) : cj_Ct l (cj_YM D z ad) yX9_day cX9_day 1 (some .int) 0 [.ref (ad 0 0)] (cj_upG μ 0 s0) (some (.int r)) (cj_upG μ 0 s0) := by
  refine cj_Ct.of (by decide +kernel) hI (Nat.le_of_ble_eq_true rfl) [(0, .ref (ad 0 0))] rfl (fun X hX C => ?_)
  subst hX
  have C : cj_C (cj_YM D z ad) X cX9_day 1 RX9 0 (some .int) := C
  unfold f_X9_day at hf
  refine cj_aload_n C dX9_day_0 rfl 0 rfl ?_
  refine cj_getS (v := .ref (ad 0 1)) (j := 0) C (eM_0 (z := z) (ad := ad)) rfl rfl cj_in9 (by decide) rfl cjq_720 rfl dX9_day_1 ?_
  refine cj_iconst C 4 dX9_day_4 rfl ?_
  refine cj_ialdKS (j := 4) C (eM_1 (z := z) (ad := ad)) rfl (by decide) dX9_day_5 ?_
  refine cj_sipush C 300 dX9_day_6 rfl ?_
  refine cj_idiv C dX9_day_9 (by decide) ?_
  cases hf
  exact cj_iret C rfl dX9_day_10
set_option maxHeartbeats 4000000 in
set_option maxRecDepth 100000 in
theorem tl_X9_isHidden_L4 {D : va_G} {z : cj_Zc} {ad : cj_Ad} (hI : cj_Ij (cj_EM z) ad) {μ : cj_Mm} {y1 : Int32} {s4 : cj_S} {X : cj_X} (C : cj_C (cj_YM D z ad) X cX9_isHidden 4 RX9 1 (some .boolean)) {r : Int32} : ∀ (n : Nat) (x2 : Int32) (x3 : Int32), f_X9_isHidden_L4 y1 s4 n x2 x3 = some r → cj_G (cj_YM D z ad) X (some (.int r), cj_upG μ 0 s4) (cj_upG μ 0 s4) 4 [(0, .ref (ad 0 0)), (1, .int y1), (2, .int x2), (3, .int x3)] [] := by
  intro n
  induction n with
  | zero =>
    intro x2 x3 hf
    rw [f_X9_isHidden_L4] at hf
    cases hf
  | succ n ih =>
    intro x2 x3 hf
    rw [f_X9_isHidden_L4] at hf
    refine cj_iload_n C dX9_isHidden_4 rfl 3 rfl ?_
    refine cj_aload_n C dX9_isHidden_5 rfl 0 rfl ?_
    refine cj_getS (v := .ref (ad 0 1)) (j := 0) C (eM_0 (z := z) (ad := ad)) rfl rfl cj_in9 (by decide) rfl cjq_720 rfl dX9_isHidden_6 ?_
    refine cj_iconst C 0 dX9_isHidden_9 rfl ?_
    refine cj_ialdKS (j := 0) C (eM_1 (z := z) (ad := ad)) rfl (by decide) dX9_isHidden_10 ?_
    refine cj_ic_ge C 60 dX9_isHidden_11 rfl hf (fun hf => ?_) (fun hf => ?_)
    · refine cj_iload_n C dX9_isHidden_60 rfl 2 rfl ?_
      obtain ⟨hp, hf⟩ := cj_gp_s hf
      cases hf
      exact cj_zret C rfl (cj_boo hp).1 rfl dX9_isHidden_61
    · refine cj_iload_n C dX9_isHidden_14 rfl 2 rfl ?_
      refine cj_if_ne C 48 dX9_isHidden_15 rfl hf (fun hf => ?_) (fun hf => ?_)
      · refine cj_iconst C 1 dX9_isHidden_48 rfl ?_
        refine cj_goto C 53 dX9_isHidden_49 rfl ?_
        refine cj_istore_n (lv' := [(2, .int 1), (0, .ref (ad 0 0)), (1, .int y1), (3, .int x3)]) C dX9_isHidden_53 rfl (by decide) rfl ?_
        refine cj_iinc (lv' := [(3, .int (x3 + 1)), (2, .int 1), (0, .ref (ad 0 0)), (1, .int y1)]) C dX9_isHidden_54 (j := 3) rfl rfl (by decide) rfl ?_
        refine cj_goto C 4 dX9_isHidden_57 rfl ?_
        refine cj_sub [2, 3, 1, 0] rfl ?_
        exact ih 1 (x3 + 1) hf
      · refine cj_aload_n C dX9_isHidden_18 rfl 0 rfl ?_
        refine cj_iload_n C dX9_isHidden_19 rfl 3 rfl ?_
        refine cj_iconst C 1 dX9_isHidden_20 rfl ?_
        obtain ⟨x6, h5, hf⟩ := cj_bd_s hf
        refine cj_cV2i C cw_X9_of (ct_X9_of hI h5) cjq_776 cjq_0 cjq_774 (eM_0 (z := z) (ad := ad)) rfl rfl ⟨Nat.le_of_ble_eq_true rfl, Nat.le_of_ble_eq_true rfl⟩ (Nat.le_of_ble_eq_true rfl) dX9_isHidden_21 ?_
        refine cj_aload_n C dX9_isHidden_24 rfl 0 rfl ?_
        refine cj_iload_n C dX9_isHidden_25 rfl 1 rfl ?_
        refine cj_iconst C 1 dX9_isHidden_26 rfl ?_
        obtain ⟨x8, h7, hf⟩ := cj_bd_s hf
        refine cj_cV2i C cw_X9_of (ct_X9_of hI h7) cjq_776 cjq_0 cjq_774 (eM_0 (z := z) (ad := ad)) rfl rfl ⟨Nat.le_of_ble_eq_true rfl, Nat.le_of_ble_eq_true rfl⟩ (Nat.le_of_ble_eq_true rfl) dX9_isHidden_27 ?_
        refine cj_ic_ne C 52 dX9_isHidden_30 rfl hf (fun hf => ?_) (fun hf => ?_)
        · refine cj_iconst C 0 dX9_isHidden_52 rfl ?_
          refine cj_istore_n (lv' := [(2, .int 0), (0, .ref (ad 0 0)), (1, .int y1), (3, .int x3)]) C dX9_isHidden_53 rfl (by decide) rfl ?_
          refine cj_iinc (lv' := [(3, .int (x3 + 1)), (2, .int 0), (0, .ref (ad 0 0)), (1, .int y1)]) C dX9_isHidden_54 (j := 3) rfl rfl (by decide) rfl ?_
          refine cj_goto C 4 dX9_isHidden_57 rfl ?_
          refine cj_sub [2, 3, 1, 0] rfl ?_
          exact ih 0 (x3 + 1) hf
        · refine cj_aload_n C dX9_isHidden_33 rfl 0 rfl ?_
          refine cj_iload_n C dX9_isHidden_34 rfl 3 rfl ?_
          refine cj_iconst C 0 dX9_isHidden_35 rfl ?_
          obtain ⟨x10, h9, hf⟩ := cj_bd_s hf
          refine cj_cV2i C cw_X9_of (ct_X9_of hI h9) cjq_776 cjq_0 cjq_774 (eM_0 (z := z) (ad := ad)) rfl rfl ⟨Nat.le_of_ble_eq_true rfl, Nat.le_of_ble_eq_true rfl⟩ (Nat.le_of_ble_eq_true rfl) dX9_isHidden_36 ?_
          refine cj_aload_n C dX9_isHidden_39 rfl 0 rfl ?_
          refine cj_iload_n C dX9_isHidden_40 rfl 1 rfl ?_
          refine cj_iconst C 0 dX9_isHidden_41 rfl ?_
          obtain ⟨x12, h11, hf⟩ := cj_bd_s hf
          refine cj_cV2i C cw_X9_of (ct_X9_of hI h11) cjq_776 cjq_0 cjq_774 (eM_0 (z := z) (ad := ad)) rfl rfl ⟨Nat.le_of_ble_eq_true rfl, Nat.le_of_ble_eq_true rfl⟩ (Nat.le_of_ble_eq_true rfl) dX9_isHidden_42 ?_
          refine cj_ic_ge C 52 dX9_isHidden_45 rfl hf (fun hf => ?_) (fun hf => ?_)
          · refine cj_iconst C 0 dX9_isHidden_52 rfl ?_
            refine cj_istore_n (lv' := [(2, .int 0), (0, .ref (ad 0 0)), (1, .int y1), (3, .int x3)]) C dX9_isHidden_53 rfl (by decide) rfl ?_
            refine cj_iinc (lv' := [(3, .int (x3 + 1)), (2, .int 0), (0, .ref (ad 0 0)), (1, .int y1)]) C dX9_isHidden_54 (j := 3) rfl rfl (by decide) rfl ?_
            refine cj_goto C 4 dX9_isHidden_57 rfl ?_
            refine cj_sub [2, 3, 1, 0] rfl ?_
            exact ih 0 (x3 + 1) hf
          · refine cj_iconst C 1 dX9_isHidden_48 rfl ?_
            refine cj_goto C 53 dX9_isHidden_49 rfl ?_
            refine cj_istore_n (lv' := [(2, .int 1), (0, .ref (ad 0 0)), (1, .int y1), (3, .int x3)]) C dX9_isHidden_53 rfl (by decide) rfl ?_
            refine cj_iinc (lv' := [(3, .int (x3 + 1)), (2, .int 1), (0, .ref (ad 0 0)), (1, .int y1)]) C dX9_isHidden_54 (j := 3) rfl rfl (by decide) rfl ?_
            refine cj_goto C 4 dX9_isHidden_57 rfl ?_
            refine cj_sub [2, 3, 1, 0] rfl ?_
            exact ih 1 (x3 + 1) hf
set_option maxHeartbeats 4000000 in
set_option maxRecDepth 100000 in
theorem ct_X9_isHidden {l : Launch} {D : va_G} {z : cj_Zc} {ad : cj_Ad} (hI : cj_Ij (cj_EM z) ad) {μ : cj_Mm} {s0 : cj_S} {a1 : Int32} {r : Int32} (hf : f_X9_isHidden s0 a1 = some r) : cj_Ct l (cj_YM D z ad) yX9_isHidden cX9_isHidden 4 (some .boolean) 1 [.ref (ad 0 0), .int a1] (cj_upG μ 0 s0) (some (.int r)) (cj_upG μ 0 s0) := by
  refine cj_Ct.of (by decide +kernel) hI (Nat.le_of_ble_eq_true rfl) [(0, .ref (ad 0 0)), (1, .int a1)] rfl (fun X hX C => ?_)
  subst hX
  have C : cj_C (cj_YM D z ad) X cX9_isHidden 4 RX9 1 (some .boolean) := C
  unfold f_X9_isHidden at hf
  refine cj_iconst C 0 dX9_isHidden_0 rfl ?_
  refine cj_istore_n (lv' := [(2, .int 0), (0, .ref (ad 0 0)), (1, .int a1)]) C dX9_isHidden_1 rfl (by decide) rfl ?_
  refine cj_iconst C 0 dX9_isHidden_2 rfl ?_
  refine cj_istore_n (lv' := [(3, .int 0), (2, .int 0), (0, .ref (ad 0 0)), (1, .int a1)]) C dX9_isHidden_3 rfl (by decide) rfl ?_
  refine cj_sub [2, 3, 1, 0] rfl ?_
  exact tl_X9_isHidden_L4 hI C cj_FU 0 0 hf
set_option maxHeartbeats 4000000 in
set_option maxRecDepth 100000 in
theorem tl_X9_seenAt_L22 {D : va_G} {z : cj_Zc} {ad : cj_Ad} (hI : cj_Ij (cj_EM z) ad) {μ : cj_Mm} {y5 : Int32} {y7 : Int32} {s9 : cj_S} {X : cj_X} (C : cj_C (cj_YM D z ad) X cX9_seenAt 6 RX9 2 (some .int)) {r : Int32} : ∀ (n : Nat) (x6 : Int32) (x8 : Int32), f_X9_seenAt_L22 y5 y7 s9 n x6 x8 = some r → cj_G (cj_YM D z ad) X (some (.int r), cj_upG μ 0 s9) (cj_upG μ 0 s9) 22 [(2, .int y5), (3, .int x6), (4, .int y7), (5, .int x8)] [] := by
  intro n
  induction n with
  | zero =>
    intro x6 x8 hf
    rw [f_X9_seenAt_L22] at hf
    cases hf
  | succ n ih =>
    intro x6 x8 hf
    rw [f_X9_seenAt_L22] at hf
    refine cj_iload C dX9_seenAt_22 3 rfl ?_
    refine cj_iload C dX9_seenAt_24 2 rfl ?_
    refine cj_ic_gt C 50 dX9_seenAt_26 rfl hf (fun hf => ?_) (fun hf => ?_)
    · refine cj_iload_n C dX9_seenAt_50 rfl 1 rfl ?_
      cases hf
      exact cj_iret C rfl dX9_seenAt_51
    · refine cj_iload_n C dX9_seenAt_29 rfl 1 rfl ?_
      refine cj_iconst C 1 dX9_seenAt_30 rfl ?_
      refine cj_iload_n C dX9_seenAt_31 rfl 0 rfl ?_
      refine cj_iload C dX9_seenAt_32 3 rfl ?_
      refine cj_iadd C dX9_seenAt_34 ?_
      refine cj_bipush C 12 dX9_seenAt_35 rfl ?_
      refine cj_iadd C dX9_seenAt_37 ?_
      refine cj_ltI hf (fun x10 hf => ?_)
      refine cj_bipush C 12 dX9_seenAt_38 rfl ?_
      refine cj_irem C dX9_seenAt_40 (by decide) ?_
      refine cj_ishl C dX9_seenAt_41 ?_
      refine cj_ior C dX9_seenAt_42 ?_
      refine cj_ltI hf (fun x11 hf => ?_)
      refine cj_istore_n (lv' := [(3, .int x11), (2, .int y5), (4, .int y7), (5, .int x8)]) C dX9_seenAt_43 rfl (by decide) rfl ?_
      refine cj_iinc (lv' := [(5, .int (x8 + 1)), (3, .int x11), (2, .int y5), (4, .int y7)]) C dX9_seenAt_44 (j := 3) rfl rfl (by decide) rfl ?_
      refine cj_goto C 22 dX9_seenAt_47 rfl ?_
      refine cj_sub [2, 1, 3, 0] rfl ?_
      exact ih x11 (x8 + 1) hf
set_option maxHeartbeats 4000000 in
set_option maxRecDepth 100000 in
theorem ct_X9_seenAt {l : Launch} {D : va_G} {z : cj_Zc} {ad : cj_Ad} (hI : cj_Ij (cj_EM z) ad) {μ : cj_Mm} {s0 : cj_S} {a1 : Int32} {a2 : Int32} {r : Int32} (hf : f_X9_seenAt s0 a1 a2 = some r) : cj_Ct l (cj_YM D z ad) yX9_seenAt cX9_seenAt 6 (some .int) 2 [.ref (ad 0 0), .int a1, .int a2] (cj_upG μ 0 s0) (some (.int r)) (cj_upG μ 0 s0) := by
  refine cj_Ct.of (by decide +kernel) hI (Nat.le_of_ble_eq_true rfl) [(0, .ref (ad 0 0)), (1, .int a1), (2, .int a2)] rfl (fun X hX C => ?_)
  subst hX
  have C : cj_C (cj_YM D z ad) X cX9_seenAt 6 RX9 2 (some .int) := C
  unfold f_X9_seenAt at hf
  refine cj_iconst C 0 dX9_seenAt_0 rfl ?_
  refine cj_istore_n (lv' := [(3, .int 0), (0, .ref (ad 0 0)), (1, .int a1), (2, .int a2)]) C dX9_seenAt_1 rfl (by decide) rfl ?_
  refine cj_aload_n C dX9_seenAt_2 rfl 1 rfl ?_
  refine cj_iload_n C dX9_seenAt_3 rfl 2 rfl ?_
  obtain ⟨x2, h1, hf⟩ := cj_bd_s hf
  refine cj_cV1i C cw_X9_isHidden (ct_X9_isHidden hI h1) cjq_806 cjq_6 cjq_804 (eM_0 (z := z) (ad := ad)) rfl rfl ⟨Nat.le_of_ble_eq_true rfl, Nat.le_of_ble_eq_true rfl⟩ (Nat.le_of_ble_eq_true rfl) dX9_seenAt_4 ?_
  refine cj_jn (Hyp := fun K3 => ∀ (x4 : Int32), K3 x4 = some r → cj_G (cj_YM D z ad) X (some (.int r), cj_upG μ 0 s0) (cj_upG μ 0 s0) 15 [(2, .int a2), (3, .int 0)] [.int x4]) hf (fun x4 hf => ?_) (fun K3 hK3 hf => ?_)
  · refine cj_istore (lv' := [(4, .int x4), (2, .int a2), (3, .int 0)]) C dX9_seenAt_15 (by decide) rfl ?_
    refine cj_iload C dX9_seenAt_17 0 rfl ?_
    refine cj_ineg C dX9_seenAt_19 ?_
    refine cj_istore (lv' := [(5, .int (-x4)), (4, .int x4), (2, .int a2), (3, .int 0)]) C dX9_seenAt_20 (by decide) rfl ?_
    refine cj_sub [2, 3, 1, 0] rfl ?_
    exact tl_X9_seenAt_L22 hI C cj_FU 0 (-x4) hf
  · refine cj_if_eq C 14 dX9_seenAt_7 rfl hf (fun hf => ?_) (fun hf => ?_)
    · refine cj_iconst C 2 dX9_seenAt_14 rfl ?_
      refine cj_sub [3, 0] rfl ?_
      exact hK3 2 hf
    · refine cj_iconst C 0 dX9_seenAt_10 rfl ?_
      refine cj_goto C 15 dX9_seenAt_11 rfl ?_
      refine cj_sub [3, 0] rfl ?_
      exact hK3 0 hf
set_option maxHeartbeats 4000000 in
set_option maxRecDepth 100000 in
theorem ct_X9_seen {l : Launch} {D : va_G} {z : cj_Zc} {ad : cj_Ad} (hI : cj_Ij (cj_EM z) ad) {μ : cj_Mm} {s0 : cj_S} {a1 : Int32} {r : Int32} (hf : f_X9_seen s0 a1 = some r) : cj_Ct l (cj_YM D z ad) yX9_seen cX9_seen 2 (some .int) 3 [.ref (ad 0 0), .int a1] (cj_upG μ 0 s0) (some (.int r)) (cj_upG μ 0 s0) := by
  refine cj_Ct.of (by decide +kernel) hI (Nat.le_of_ble_eq_true rfl) [(0, .ref (ad 0 0)), (1, .int a1)] rfl (fun X hX C => ?_)
  subst hX
  have C : cj_C (cj_YM D z ad) X cX9_seen 2 RX9 3 (some .int) := C
  unfold f_X9_seen at hf
  refine cj_aload_n C dX9_seen_0 rfl 0 rfl ?_
  refine cj_iload_n C dX9_seen_1 rfl 1 rfl ?_
  refine cj_aload_n C dX9_seen_2 rfl 0 rfl ?_
  refine cj_iload_n C dX9_seen_3 rfl 1 rfl ?_
  refine cj_iconst C 2 dX9_seen_4 rfl ?_
  obtain ⟨x2, h1, hf⟩ := cj_bd_s hf
  refine cj_cV2i C cw_X9_of (ct_X9_of hI h1) cjq_776 cjq_0 cjq_774 (eM_0 (z := z) (ad := ad)) rfl rfl ⟨Nat.le_of_ble_eq_true rfl, Nat.le_of_ble_eq_true rfl⟩ (Nat.le_of_ble_eq_true rfl) dX9_seen_5 ?_
  obtain ⟨x4, h3, hf⟩ := cj_bd_s hf
  refine cj_cV2i C cw_X9_seenAt (ct_X9_seenAt hI h3) cjq_802 cjq_5 cjq_800 (eM_0 (z := z) (ad := ad)) rfl rfl ⟨Nat.le_of_ble_eq_true rfl, Nat.le_of_ble_eq_true rfl⟩ (Nat.le_of_ble_eq_true rfl) dX9_seen_8 ?_
  cases hf
  exact cj_iret C rfl dX9_seen_11
set_option maxHeartbeats 4000000 in
set_option maxRecDepth 100000 in
theorem tl_X9_remembered_L4 {D : va_G} {z : cj_Zc} {ad : cj_Ad} (hI : cj_Ij (cj_EM z) ad) {μ : cj_Mm} {y1 : Int32} {s4 : cj_S} {X : cj_X} (C : cj_C (cj_YM D z ad) X cX9_remembered 5 RX9 1 (some .int)) {r : Int32} : ∀ (n : Nat) (x2 : Int32) (x3 : Int32), f_X9_remembered_L4 y1 s4 n x2 x3 = some r → cj_G (cj_YM D z ad) X (some (.int r), cj_upG μ 0 s4) (cj_upG μ 0 s4) 4 [(0, .ref (ad 0 0)), (1, .int y1), (2, .int x2), (3, .int x3)] [] := by
  intro n
  induction n with
  | zero =>
    intro x2 x3 hf
    rw [f_X9_remembered_L4] at hf
    cases hf
  | succ n ih =>
    intro x2 x3 hf
    rw [f_X9_remembered_L4] at hf
    refine cj_iload_n C dX9_remembered_4 rfl 3 rfl ?_
    refine cj_bipush C 12 dX9_remembered_5 rfl ?_
    refine cj_ic_ge C 61 dX9_remembered_7 rfl hf (fun hf => ?_) (fun hf => ?_)
    · refine cj_iload_n C dX9_remembered_61 rfl 2 rfl ?_
      cases hf
      exact cj_iret C rfl dX9_remembered_62
    · refine cj_aload_n C dX9_remembered_10 rfl 0 rfl ?_
      refine cj_iload_n C dX9_remembered_11 rfl 1 rfl ?_
      refine cj_bipush C 6 dX9_remembered_12 rfl ?_
      refine cj_iload_n C dX9_remembered_14 rfl 3 rfl ?_
      refine cj_iadd C dX9_remembered_15 ?_
      obtain ⟨x6, h5, hf⟩ := cj_bd_s hf
      refine cj_cV2i C cw_X9_of (ct_X9_of hI h5) cjq_776 cjq_0 cjq_774 (eM_0 (z := z) (ad := ad)) rfl rfl ⟨Nat.le_of_ble_eq_true rfl, Nat.le_of_ble_eq_true rfl⟩ (Nat.le_of_ble_eq_true rfl) dX9_remembered_16 ?_
      refine cj_istore (lv' := [(4, .int x6), (0, .ref (ad 0 0)), (1, .int y1), (2, .int x2), (3, .int x3)]) C dX9_remembered_19 (by decide) rfl ?_
      refine cj_iload_n C dX9_remembered_21 rfl 3 rfl ?_
      refine cj_iload C dX9_remembered_22 0 rfl ?_
      refine cj_if_lt C 52 dX9_remembered_24 rfl hf (fun hf => ?_) (fun hf => ?_)
      · refine cj_iconst C 0 dX9_remembered_52 rfl ?_
        refine cj_ior C dX9_remembered_53 ?_
        refine cj_istore_n (lv' := [(2, .int (x2 ||| 0)), (4, .int x6), (0, .ref (ad 0 0)), (1, .int y1), (3, .int x3)]) C dX9_remembered_54 rfl (by decide) rfl ?_
        refine cj_iinc (lv' := [(3, .int (x3 + 1)), (2, .int (x2 ||| 0)), (4, .int x6), (0, .ref (ad 0 0)), (1, .int y1)]) C dX9_remembered_55 (j := 4) rfl rfl (by decide) rfl ?_
        refine cj_goto C 4 dX9_remembered_58 rfl ?_
        refine cj_sub [3, 4, 1, 0] rfl ?_
        exact ih (x2 ||| 0) (x3 + 1) hf
      · refine cj_aload_n C dX9_remembered_27 rfl 1 rfl ?_
        refine cj_getS (v := .ref (ad 0 1)) (j := 0) C (eM_0 (z := z) (ad := ad)) rfl rfl cj_in9 (by decide) rfl cjq_720 rfl dX9_remembered_28 ?_
        refine cj_iconst C 4 dX9_remembered_31 rfl ?_
        refine cj_ialdKS (j := 4) C (eM_1 (z := z) (ad := ad)) rfl (by decide) dX9_remembered_32 ?_
        refine cj_iload C dX9_remembered_33 0 rfl ?_
        refine cj_isub C dX9_remembered_35 ?_
        refine cj_aload_n C dX9_remembered_36 rfl 1 rfl ?_
        refine cj_getS (v := .ref (ad 0 1)) (j := 0) C (eM_0 (z := z) (ad := ad)) rfl rfl cj_in9 (by decide) rfl cjq_720 rfl dX9_remembered_37 ?_
        refine cj_bipush C 9 dX9_remembered_40 rfl ?_
        refine cj_ialdKS (j := 9) C (eM_1 (z := z) (ad := ad)) rfl (by decide) dX9_remembered_42 ?_
        refine cj_ic_gt C 52 dX9_remembered_43 rfl hf (fun hf => ?_) (fun hf => ?_)
        · refine cj_iconst C 0 dX9_remembered_52 rfl ?_
          refine cj_ior C dX9_remembered_53 ?_
          refine cj_istore_n (lv' := [(2, .int (x2 ||| 0)), (4, .int x6), (0, .ref (ad 0 0)), (1, .int y1), (3, .int x3)]) C dX9_remembered_54 rfl (by decide) rfl ?_
          refine cj_iinc (lv' := [(3, .int (x3 + 1)), (2, .int (x2 ||| 0)), (4, .int x6), (0, .ref (ad 0 0)), (1, .int y1)]) C dX9_remembered_55 (j := 4) rfl rfl (by decide) rfl ?_
          refine cj_goto C 4 dX9_remembered_58 rfl ?_
          refine cj_sub [3, 4, 1, 0] rfl ?_
          exact ih (x2 ||| 0) (x3 + 1) hf
        · refine cj_iconst C 1 dX9_remembered_46 rfl ?_
          refine cj_iload_n C dX9_remembered_47 rfl 4 rfl ?_
          refine cj_ishl C dX9_remembered_48 ?_
          refine cj_goto C 53 dX9_remembered_49 rfl ?_
          refine cj_ior C dX9_remembered_53 ?_
          refine cj_ltI hf (fun x7 hf => ?_)
          refine cj_istore_n (lv' := [(2, .int x7), (4, .int x6), (0, .ref (ad 0 0)), (1, .int y1), (3, .int x3)]) C dX9_remembered_54 rfl (by decide) rfl ?_
          refine cj_iinc (lv' := [(3, .int (x3 + 1)), (2, .int x7), (4, .int x6), (0, .ref (ad 0 0)), (1, .int y1)]) C dX9_remembered_55 (j := 4) rfl rfl (by decide) rfl ?_
          refine cj_goto C 4 dX9_remembered_58 rfl ?_
          refine cj_sub [3, 4, 1, 0] rfl ?_
          exact ih x7 (x3 + 1) hf
set_option maxHeartbeats 4000000 in
set_option maxRecDepth 100000 in
theorem ct_X9_remembered {l : Launch} {D : va_G} {z : cj_Zc} {ad : cj_Ad} (hI : cj_Ij (cj_EM z) ad) {μ : cj_Mm} {s0 : cj_S} {a1 : Int32} {r : Int32} (hf : f_X9_remembered s0 a1 = some r) : cj_Ct l (cj_YM D z ad) yX9_remembered cX9_remembered 5 (some .int) 1 [.ref (ad 0 0), .int a1] (cj_upG μ 0 s0) (some (.int r)) (cj_upG μ 0 s0) := by
  refine cj_Ct.of (by decide +kernel) hI (Nat.le_of_ble_eq_true rfl) [(0, .ref (ad 0 0)), (1, .int a1)] rfl (fun X hX C => ?_)
  subst hX
  have C : cj_C (cj_YM D z ad) X cX9_remembered 5 RX9 1 (some .int) := C
  unfold f_X9_remembered at hf
  refine cj_iconst C 0 dX9_remembered_0 rfl ?_
  refine cj_istore_n (lv' := [(2, .int 0), (0, .ref (ad 0 0)), (1, .int a1)]) C dX9_remembered_1 rfl (by decide) rfl ?_
  refine cj_iconst C 0 dX9_remembered_2 rfl ?_
  refine cj_istore_n (lv' := [(3, .int 0), (2, .int 0), (0, .ref (ad 0 0)), (1, .int a1)]) C dX9_remembered_3 rfl (by decide) rfl ?_
  refine cj_sub [2, 3, 1, 0] rfl ?_
  exact tl_X9_remembered_L4 hI C cj_FU 0 0 hf
set_option maxHeartbeats 4000000 in
set_option maxRecDepth 100000 in
theorem tl_X9_person_L23 {D : va_G} {z : cj_Zc} {ad : cj_Ad} (hI : cj_Ij (cj_EM z) ad) {μ : cj_Mm} {y5 : Int32} {y6 : Int32} {s8 : cj_S} {X : cj_X} (C : cj_C (cj_YM D z ad) X cX9_person 5 RX9 1 (some .int)) {r : Int32 × cj_S} {K : Unit → Option (Int32 × cj_S)} (hK : ∀ (u : Unit), K u = some r → cj_G (cj_YM D z ad) X (some (.int r.1), cj_upG μ 0 r.2) (cj_upG μ 0 s8) 62 [(0, .ref (ad 0 0)), (1, .int y5), (2, .int y6)] []) : ∀ (n : Nat) (x7 : Int32), f_X9_person_L23 K y5 y6 s8 n x7 = some r → cj_G (cj_YM D z ad) X (some (.int r.1), cj_upG μ 0 r.2) (cj_upG μ 0 s8) 23 [(0, .ref (ad 0 0)), (1, .int y5), (2, .int y6), (3, .int x7)] [] := by
  intro n
  induction n with
  | zero =>
    intro x7 hf
    rw [f_X9_person_L23] at hf
    cases hf
  | succ n ih =>
    intro x7 hf
    rw [f_X9_person_L23] at hf
    refine cj_iload_n C dX9_person_23 rfl 3 rfl ?_
    refine cj_aload_n C dX9_person_24 rfl 0 rfl ?_
    refine cj_getS (v := .ref (ad 0 1)) (j := 0) C (eM_0 (z := z) (ad := ad)) rfl rfl cj_in9 (by decide) rfl cjq_720 rfl dX9_person_25 ?_
    refine cj_iconst C 0 dX9_person_28 rfl ?_
    refine cj_ialdKS (j := 0) C (eM_1 (z := z) (ad := ad)) rfl (by decide) dX9_person_29 ?_
    refine cj_ic_ge C 62 dX9_person_30 rfl hf (fun hf => ?_) (fun hf => ?_)
    · refine cj_sub [0, 1, 2] rfl ?_
      exact hK () hf
    · refine cj_aload_n C dX9_person_33 rfl 0 rfl ?_
      refine cj_iload_n C dX9_person_34 rfl 3 rfl ?_
      refine cj_iconst C 0 dX9_person_35 rfl ?_
      obtain ⟨x10, h9, hf⟩ := cj_bd_s hf
      refine cj_cV2i C cw_X9_of (ct_X9_of hI h9) cjq_776 cjq_0 cjq_774 (eM_0 (z := z) (ad := ad)) rfl rfl ⟨Nat.le_of_ble_eq_true rfl, Nat.le_of_ble_eq_true rfl⟩ (Nat.le_of_ble_eq_true rfl) dX9_person_36 ?_
      refine cj_iload_n C dX9_person_39 rfl 1 rfl ?_
      refine cj_ic_ne C 56 dX9_person_40 rfl hf (fun hf => ?_) (fun hf => ?_)
      · refine cj_iinc (lv' := [(3, .int (x7 + 1)), (0, .ref (ad 0 0)), (1, .int y5), (2, .int y6)]) C dX9_person_56 (j := 3) rfl rfl (by decide) rfl ?_
        refine cj_goto C 23 dX9_person_59 rfl ?_
        refine cj_sub [1, 2, 3, 0] rfl ?_
        exact ih (x7 + 1) hf
      · refine cj_aload_n C dX9_person_43 rfl 0 rfl ?_
        refine cj_iload_n C dX9_person_44 rfl 3 rfl ?_
        refine cj_iconst C 1 dX9_person_45 rfl ?_
        obtain ⟨x12, h11, hf⟩ := cj_bd_s hf
        refine cj_cV2i C cw_X9_of (ct_X9_of hI h11) cjq_776 cjq_0 cjq_774 (eM_0 (z := z) (ad := ad)) rfl rfl ⟨Nat.le_of_ble_eq_true rfl, Nat.le_of_ble_eq_true rfl⟩ (Nat.le_of_ble_eq_true rfl) dX9_person_46 ?_
        refine cj_iload_n C dX9_person_49 rfl 2 rfl ?_
        refine cj_ic_ne C 56 dX9_person_50 rfl hf (fun hf => ?_) (fun hf => ?_)
        · refine cj_iinc (lv' := [(3, .int (x7 + 1)), (0, .ref (ad 0 0)), (1, .int y5), (2, .int y6)]) C dX9_person_56 (j := 3) rfl rfl (by decide) rfl ?_
          refine cj_goto C 23 dX9_person_59 rfl ?_
          refine cj_sub [1, 2, 3, 0] rfl ?_
          exact ih (x7 + 1) hf
        · refine cj_ldc C cjq_778 dX9_person_53 ?_
          cases hf
          exact cj_iret C rfl dX9_person_55
set_option maxHeartbeats 4000000 in
set_option maxRecDepth 100000 in
theorem tl_X9_person_L106 {D : va_G} {z : cj_Zc} {ad : cj_Ad} (hI : cj_Ij (cj_EM z) ad) {μ : cj_Mm} {y21 : Int32} {X : cj_X} (C : cj_C (cj_YM D z ad) X cX9_person 5 RX9 1 (some .int)) {r : Int32 × cj_S} {K : cj_S → Option (Int32 × cj_S)} (hK : ∀ (s24 : cj_S), K s24 = some r → cj_G (cj_YM D z ad) X (some (.int r.1), cj_upG μ 0 r.2) (cj_upG μ 0 s24) 130 [(0, .ref (ad 0 0)), (3, .int y21)] []) : ∀ (n : Nat) (x22 : Int32) (s23 : cj_S), f_X9_person_L106 K y21 n x22 s23 = some r → cj_G (cj_YM D z ad) X (some (.int r.1), cj_upG μ 0 r.2) (cj_upG μ 0 s23) 106 [(0, .ref (ad 0 0)), (3, .int y21), (4, .int x22)] [] := by
  intro n
  induction n with
  | zero =>
    intro x22 s23 hf
    rw [f_X9_person_L106] at hf
    cases hf
  | succ n ih =>
    intro x22 s23 hf
    rw [f_X9_person_L106] at hf
    refine cj_iload C dX9_person_106 2 rfl ?_
    refine cj_bipush C 12 dX9_person_108 rfl ?_
    refine cj_ic_ge C 130 dX9_person_110 rfl hf (fun hf => ?_) (fun hf => ?_)
    · refine cj_sub [0, 1] rfl ?_
      exact hK s23 hf
    · refine cj_aload_n C dX9_person_113 rfl 0 rfl ?_
      refine cj_iload_n C dX9_person_114 rfl 1 rfl ?_
      refine cj_bipush C 6 dX9_person_115 rfl ?_
      refine cj_iload C dX9_person_117 2 rfl ?_
      refine cj_iadd C dX9_person_119 ?_
      refine cj_iconst C (-1) dX9_person_120 rfl ?_
      obtain ⟨s26, h25, hf⟩ := cj_bd_s hf
      refine cj_cV3v C cw_X9_sets (ct_X9_sets hI h25) cjq_786 cjq_2 cjq_784 (eM_0 (z := z) (ad := ad)) rfl rfl ⟨Nat.le_of_ble_eq_true rfl, Nat.le_of_ble_eq_true rfl⟩ (Nat.le_of_ble_eq_true rfl) dX9_person_121 ?_
      refine cj_iinc (lv' := [(4, .int (x22 + 1)), (0, .ref (ad 0 0)), (3, .int y21)]) C dX9_person_124 (j := 2) rfl rfl (by decide) rfl ?_
      refine cj_goto C 106 dX9_person_127 rfl ?_
      refine cj_sub [1, 2, 0] rfl ?_
      exact ih (x22 + 1) s26 hf
set_option maxHeartbeats 4000000 in
set_option maxRecDepth 100000 in
theorem ct_X9_person {l : Launch} {D : va_G} {z : cj_Zc} {ad : cj_Ad} (hI : cj_Ij (cj_EM z) ad) {μ : cj_Mm} {s0 : cj_S} {a1 : Int32} {a2 : Int32} {r : Int32} {r2 : cj_S} (hf : f_X9_person s0 a1 a2 = some (r, r2)) : cj_Ct l (cj_YM D z ad) yX9_person cX9_person 5 (some .int) 1 [.ref (ad 0 0), .int a1, .int a2] (cj_upG μ 0 s0) (some (.int r)) (cj_upG μ 0 r2) := by
  refine cj_Ct.of (by decide +kernel) hI (Nat.le_of_ble_eq_true rfl) [(0, .ref (ad 0 0)), (1, .int a1), (2, .int a2)] rfl (fun X hX C => ?_)
  subst hX
  have C : cj_C (cj_YM D z ad) X cX9_person 5 RX9 1 (some .int) := C
  unfold f_X9_person at hf
  generalize hr2 : (r, r2) = r3 at hf
  obtain ⟨e1, e2⟩ : r = r3.1 ∧ r2 = r3.2 := by rw [← hr2]; exact ⟨rfl, rfl⟩
  rw [e1, e2]
  clear e1 e2 hr2
  obtain ⟨r, hr⟩ : ∃ r, r = r3 := ⟨_, rfl⟩
  rw [← hr] at hf ⊢
  clear hr
  refine cj_iload_n C dX9_person_0 rfl 1 rfl ?_
  refine cj_iconst C 0 dX9_person_1 rfl ?_
  refine cj_iconst C 3 dX9_person_2 rfl ?_
  obtain ⟨x2, h1, hf⟩ := cj_bd_s hf
  refine cj_cS3i C cw_X9_in (ct_X9_in hI h1) cjq_771 cjq_770 ⟨Nat.le_of_ble_eq_true rfl, Nat.le_of_ble_eq_true rfl⟩ (Nat.le_of_ble_eq_true rfl) dX9_person_3 ?_
  refine cj_if_eq C 18 dX9_person_6 rfl hf (fun hf => ?_) (fun hf => ?_)
  · refine cj_ldc C cjq_773 dX9_person_18 ?_
    cases hf
    exact cj_iret C rfl dX9_person_20
  · refine cj_iload_n C dX9_person_9 rfl 2 rfl ?_
    refine cj_iconst C 0 dX9_person_10 rfl ?_
    refine cj_iconst C 5 dX9_person_11 rfl ?_
    obtain ⟨x4, h3, hf⟩ := cj_bd_s hf
    refine cj_cS3i C cw_X9_in (ct_X9_in hI h3) cjq_771 cjq_770 ⟨Nat.le_of_ble_eq_true rfl, Nat.le_of_ble_eq_true rfl⟩ (Nat.le_of_ble_eq_true rfl) dX9_person_12 ?_
    refine cj_if_ne C 21 dX9_person_15 rfl hf (fun hf => ?_) (fun hf => ?_)
    · refine cj_iconst C 0 dX9_person_21 rfl ?_
      refine cj_istore_n (lv' := [(3, .int 0), (0, .ref (ad 0 0)), (1, .int a1), (2, .int a2)]) C dX9_person_22 rfl (by decide) rfl ?_
      refine cj_sub [1, 2, 3, 0] rfl ?_
      refine tl_X9_person_L23 hI C (fun u hf => ?_) cj_FU 0 hf
      refine cj_aload_n C dX9_person_62 rfl 0 rfl ?_
      refine cj_getS (v := .ref (ad 0 1)) (j := 0) C (eM_0 (z := z) (ad := ad)) rfl rfl cj_in9 (by decide) rfl cjq_720 rfl dX9_person_63 ?_
      refine cj_iconst C 0 dX9_person_66 rfl ?_
      refine cj_ialdKS (j := 0) C (eM_1 (z := z) (ad := ad)) rfl (by decide) dX9_person_67 ?_
      refine cj_istore_n (lv' := [(3, .int (s0 1 0)), (0, .ref (ad 0 0)), (1, .int a1), (2, .int a2)]) C dX9_person_68 rfl (by decide) rfl ?_
      refine cj_iload_n C dX9_person_69 rfl 0 rfl ?_
      refine cj_bipush C 6 dX9_person_70 rfl ?_
      refine cj_ic_ne C 78 dX9_person_72 rfl hf (fun hf => ?_) (fun hf => ?_)
      · refine cj_aload_n C dX9_person_78 rfl 1 rfl ?_
        obtain ⟨s14, h13, hf⟩ := cj_bd_s hf
        refine cj_cV0v C cw_X9_changes (ct_X9_changes hI h13) cjq_782 cjq_1 cjq_780 (eM_0 (z := z) (ad := ad)) rfl rfl ⟨Nat.le_of_ble_eq_true rfl, Nat.le_of_ble_eq_true rfl⟩ (Nat.le_of_ble_eq_true rfl) dX9_person_79 ?_
        refine cj_aload_n C dX9_person_82 rfl 1 rfl ?_
        refine cj_iload_n C dX9_person_83 rfl 0 rfl ?_
        refine cj_iconst C 0 dX9_person_84 rfl ?_
        refine cj_iload_n C dX9_person_85 rfl 2 rfl ?_
        obtain ⟨s16, h15, hf⟩ := cj_bd_s hf
        refine cj_cV3v C cw_X9_sets (ct_X9_sets hI h15) cjq_786 cjq_2 cjq_784 (eM_0 (z := z) (ad := ad)) rfl rfl ⟨Nat.le_of_ble_eq_true rfl, Nat.le_of_ble_eq_true rfl⟩ (Nat.le_of_ble_eq_true rfl) dX9_person_86 ?_
        refine cj_aload_n C dX9_person_89 rfl 1 rfl ?_
        refine cj_iload_n C dX9_person_90 rfl 0 rfl ?_
        refine cj_iconst C 1 dX9_person_91 rfl ?_
        refine cj_iload_n C dX9_person_92 rfl 3 rfl ?_
        obtain ⟨s18, h17, hf⟩ := cj_bd_s hf
        refine cj_cV3v C cw_X9_sets (ct_X9_sets hI h17) cjq_786 cjq_2 cjq_784 (eM_0 (z := z) (ad := ad)) rfl rfl ⟨Nat.le_of_ble_eq_true rfl, Nat.le_of_ble_eq_true rfl⟩ (Nat.le_of_ble_eq_true rfl) dX9_person_93 ?_
        refine cj_aload_n C dX9_person_96 rfl 1 rfl ?_
        refine cj_iload_n C dX9_person_97 rfl 0 rfl ?_
        refine cj_iconst C 4 dX9_person_98 rfl ?_
        refine cj_iconst C (-1) dX9_person_99 rfl ?_
        obtain ⟨s20, h19, hf⟩ := cj_bd_s hf
        refine cj_cV3v C cw_X9_sets (ct_X9_sets hI h19) cjq_786 cjq_2 cjq_784 (eM_0 (z := z) (ad := ad)) rfl rfl ⟨Nat.le_of_ble_eq_true rfl, Nat.le_of_ble_eq_true rfl⟩ (Nat.le_of_ble_eq_true rfl) dX9_person_100 ?_
        refine cj_iconst C 0 dX9_person_103 rfl ?_
        refine cj_istore (lv' := [(4, .int 0), (3, .int (s0 1 0)), (0, .ref (ad 0 0)), (1, .int a1), (2, .int a2)]) C dX9_person_104 (by decide) rfl ?_
        refine cj_sub [2, 1, 0] rfl ?_
        refine tl_X9_person_L106 hI C (fun s27 hf => ?_) cj_FU 0 s20 hf
        refine cj_aload_n C dX9_person_130 rfl 0 rfl ?_
        refine cj_getS (v := .ref (ad 0 1)) (j := 0) C (eM_0 (z := z) (ad := ad)) rfl rfl cj_in9 (by decide) rfl cjq_720 rfl dX9_person_131 ?_
        refine cj_iconst C 0 dX9_person_134 rfl ?_
        refine cj_dup2 C dX9_person_135 rfl rfl ?_
        refine cj_ialdKS (j := 0) C (eM_1 (z := z) (ad := ad)) rfl (by decide) dX9_person_136 ?_
        refine cj_iconst C 1 dX9_person_137 rfl ?_
        refine cj_iadd C dX9_person_138 ?_
        refine cj_iastKS (j := 0) C (eM_1 (z := z) (ad := ad)) rfl (by decide) dX9_person_139 ?_
        refine cj_ltS hf (fun s28 hf => ?_)
        refine cj_iload_n C dX9_person_140 rfl 1 rfl ?_
        cases hf
        exact cj_iret C rfl dX9_person_141
      · refine cj_ldc C cjq_779 dX9_person_75 ?_
        cases hf
        exact cj_iret C rfl dX9_person_77
    · refine cj_ldc C cjq_773 dX9_person_18 ?_
      cases hf
      exact cj_iret C rfl dX9_person_20
set_option maxHeartbeats 4000000 in
set_option maxRecDepth 100000 in
theorem ct_X9_turn {l : Launch} {D : va_G} {z : cj_Zc} {ad : cj_Ad} (hI : cj_Ij (cj_EM z) ad) {μ : cj_Mm} {s0 : cj_S} {a1 : Int32} {a2 : Int32} {a3 : Int32} {r : Int32} {r2 : cj_S} (hf : f_X9_turn s0 a1 a2 a3 = some (r, r2)) : cj_Ct l (cj_YM D z ad) yX9_turn cX9_turn 4 (some .int) 4 [.ref (ad 0 0), .int a1, .int a2, .int a3] (cj_upG μ 0 s0) (some (.int r)) (cj_upG μ 0 r2) := by
  refine cj_Ct.of (by decide +kernel) hI (Nat.le_of_ble_eq_true rfl) [(0, .ref (ad 0 0)), (1, .int a1), (2, .int a2), (3, .int a3)] rfl (fun X hX C => ?_)
  subst hX
  have C : cj_C (cj_YM D z ad) X cX9_turn 4 RX9 4 (some .int) := C
  unfold f_X9_turn at hf
  generalize hr2 : (r, r2) = r3 at hf
  obtain ⟨e1, e2⟩ : r = r3.1 ∧ r2 = r3.2 := by rw [← hr2]; exact ⟨rfl, rfl⟩
  rw [e1, e2]
  clear e1 e2 hr2
  obtain ⟨r, hr⟩ : ∃ r, r = r3 := ⟨_, rfl⟩
  rw [← hr] at hf ⊢
  clear hr
  refine cj_aload_n C dX9_turn_0 rfl 0 rfl ?_
  refine cj_iload_n C dX9_turn_1 rfl 1 rfl ?_
  obtain ⟨x2, h1, hf⟩ := cj_bd_s hf
  refine cj_cV1i C cw_X9_isPerson (ct_X9_isPerson hI h1) cjq_794 cjq_3 cjq_792 (eM_0 (z := z) (ad := ad)) rfl rfl ⟨Nat.le_of_ble_eq_true rfl, Nat.le_of_ble_eq_true rfl⟩ (Nat.le_of_ble_eq_true rfl) dX9_turn_2 ?_
  refine cj_if_eq C 28 dX9_turn_5 rfl hf (fun hf => ?_) (fun hf => ?_)
  · refine cj_ldc C cjq_773 dX9_turn_28 ?_
    cases hf
    exact cj_iret C rfl dX9_turn_30
  · refine cj_iload_n C dX9_turn_8 rfl 2 rfl ?_
    refine cj_iconst C 0 dX9_turn_9 rfl ?_
    refine cj_bipush C 11 dX9_turn_10 rfl ?_
    obtain ⟨x4, h3, hf⟩ := cj_bd_s hf
    refine cj_cS3i C cw_X9_in (ct_X9_in hI h3) cjq_771 cjq_770 ⟨Nat.le_of_ble_eq_true rfl, Nat.le_of_ble_eq_true rfl⟩ (Nat.le_of_ble_eq_true rfl) dX9_turn_12 ?_
    refine cj_if_eq C 28 dX9_turn_15 rfl hf (fun hf => ?_) (fun hf => ?_)
    · refine cj_ldc C cjq_773 dX9_turn_28 ?_
      cases hf
      exact cj_iret C rfl dX9_turn_30
    · refine cj_iload_n C dX9_turn_18 rfl 3 rfl ?_
      refine cj_iconst C 0 dX9_turn_19 rfl ?_
      refine cj_bipush C 11 dX9_turn_20 rfl ?_
      obtain ⟨x6, h5, hf⟩ := cj_bd_s hf
      refine cj_cS3i C cw_X9_in (ct_X9_in hI h5) cjq_771 cjq_770 ⟨Nat.le_of_ble_eq_true rfl, Nat.le_of_ble_eq_true rfl⟩ (Nat.le_of_ble_eq_true rfl) dX9_turn_22 ?_
      refine cj_if_ne C 31 dX9_turn_25 rfl hf (fun hf => ?_) (fun hf => ?_)
      · refine cj_aload_n C dX9_turn_31 rfl 0 rfl ?_
        obtain ⟨s8, h7, hf⟩ := cj_bd_s hf
        refine cj_cV0v C cw_X9_changes (ct_X9_changes hI h7) cjq_782 cjq_1 cjq_780 (eM_0 (z := z) (ad := ad)) rfl rfl ⟨Nat.le_of_ble_eq_true rfl, Nat.le_of_ble_eq_true rfl⟩ (Nat.le_of_ble_eq_true rfl) dX9_turn_32 ?_
        refine cj_aload_n C dX9_turn_35 rfl 0 rfl ?_
        refine cj_iload_n C dX9_turn_36 rfl 1 rfl ?_
        refine cj_iconst C 2 dX9_turn_37 rfl ?_
        refine cj_iload_n C dX9_turn_38 rfl 2 rfl ?_
        obtain ⟨s10, h9, hf⟩ := cj_bd_s hf
        refine cj_cV3v C cw_X9_sets (ct_X9_sets hI h9) cjq_786 cjq_2 cjq_784 (eM_0 (z := z) (ad := ad)) rfl rfl ⟨Nat.le_of_ble_eq_true rfl, Nat.le_of_ble_eq_true rfl⟩ (Nat.le_of_ble_eq_true rfl) dX9_turn_39 ?_
        refine cj_aload_n C dX9_turn_42 rfl 0 rfl ?_
        refine cj_iload_n C dX9_turn_43 rfl 1 rfl ?_
        refine cj_iconst C 3 dX9_turn_44 rfl ?_
        refine cj_iload_n C dX9_turn_45 rfl 3 rfl ?_
        obtain ⟨s12, h11, hf⟩ := cj_bd_s hf
        refine cj_cV3v C cw_X9_sets (ct_X9_sets hI h11) cjq_786 cjq_2 cjq_784 (eM_0 (z := z) (ad := ad)) rfl rfl ⟨Nat.le_of_ble_eq_true rfl, Nat.le_of_ble_eq_true rfl⟩ (Nat.le_of_ble_eq_true rfl) dX9_turn_46 ?_
        refine cj_aload_n C dX9_turn_49 rfl 0 rfl ?_
        refine cj_iload_n C dX9_turn_50 rfl 1 rfl ?_
        obtain ⟨x14, h13, hf⟩ := cj_bd_s hf
        refine cj_cV1i C cw_X9_seen (ct_X9_seen hI h13) cjq_798 cjq_4 cjq_796 (eM_0 (z := z) (ad := ad)) rfl rfl ⟨Nat.le_of_ble_eq_true rfl, Nat.le_of_ble_eq_true rfl⟩ (Nat.le_of_ble_eq_true rfl) dX9_turn_51 ?_
        cases hf
        exact cj_iret C rfl dX9_turn_54
      · refine cj_ldc C cjq_773 dX9_turn_28 ?_
        cases hf
        exact cj_iret C rfl dX9_turn_30
set_option maxHeartbeats 4000000 in
set_option maxRecDepth 100000 in
theorem ct_X9_paper {l : Launch} {D : va_G} {z : cj_Zc} {ad : cj_Ad} (hI : cj_Ij (cj_EM z) ad) {μ : cj_Mm} {s0 : cj_S} {a1 : Int32} {a2 : Int32} {r : Int32} {r2 : cj_S} (hf : f_X9_paper s0 a1 a2 = some (r, r2)) : cj_Ct l (cj_YM D z ad) yX9_paper cX9_paper 4 (some .int) 1 [.ref (ad 0 0), .int a1, .int a2] (cj_upG μ 0 s0) (some (.int r)) (cj_upG μ 0 r2) := by
  refine cj_Ct.of (by decide +kernel) hI (Nat.le_of_ble_eq_true rfl) [(0, .ref (ad 0 0)), (1, .int a1), (2, .int a2)] rfl (fun X hX C => ?_)
  subst hX
  have C : cj_C (cj_YM D z ad) X cX9_paper 4 RX9 1 (some .int) := C
  unfold f_X9_paper at hf
  generalize hr2 : (r, r2) = r3 at hf
  obtain ⟨e1, e2⟩ : r = r3.1 ∧ r2 = r3.2 := by rw [← hr2]; exact ⟨rfl, rfl⟩
  rw [e1, e2]
  clear e1 e2 hr2
  obtain ⟨r, hr⟩ : ∃ r, r = r3 := ⟨_, rfl⟩
  rw [← hr] at hf ⊢
  clear hr
  refine cj_iload_n C dX9_paper_0 rfl 1 rfl ?_
  refine cj_iconst C 1 dX9_paper_1 rfl ?_
  refine cj_bipush C 20 dX9_paper_2 rfl ?_
  obtain ⟨x2, h1, hf⟩ := cj_bd_s hf
  refine cj_cS3i C cw_X9_in (ct_X9_in hI h1) cjq_771 cjq_770 ⟨Nat.le_of_ble_eq_true rfl, Nat.le_of_ble_eq_true rfl⟩ (Nat.le_of_ble_eq_true rfl) dX9_paper_4 ?_
  refine cj_if_eq C 21 dX9_paper_7 rfl hf (fun hf => ?_) (fun hf => ?_)
  · refine cj_ldc C cjq_773 dX9_paper_21 ?_
    cases hf
    exact cj_iret C rfl dX9_paper_23
  · refine cj_iload_n C dX9_paper_10 rfl 2 rfl ?_
    refine cj_iconst C 1 dX9_paper_11 rfl ?_
    refine cj_sipush C 299 dX9_paper_12 rfl ?_
    obtain ⟨x4, h3, hf⟩ := cj_bd_s hf
    refine cj_cS3i C cw_X9_in (ct_X9_in hI h3) cjq_771 cjq_770 ⟨Nat.le_of_ble_eq_true rfl, Nat.le_of_ble_eq_true rfl⟩ (Nat.le_of_ble_eq_true rfl) dX9_paper_15 ?_
    refine cj_if_ne C 24 dX9_paper_18 rfl hf (fun hf => ?_) (fun hf => ?_)
    · refine cj_aload_n C dX9_paper_24 rfl 0 rfl ?_
      refine cj_getS (v := .ref (ad 0 1)) (j := 0) C (eM_0 (z := z) (ad := ad)) rfl rfl cj_in9 (by decide) rfl cjq_720 rfl dX9_paper_25 ?_
      refine cj_iconst C 1 dX9_paper_28 rfl ?_
      refine cj_ialdKS (j := 1) C (eM_1 (z := z) (ad := ad)) rfl (by decide) dX9_paper_29 ?_
      refine cj_istore_n (lv' := [(3, .int (s0 1 1)), (0, .ref (ad 0 0)), (1, .int a1), (2, .int a2)]) C dX9_paper_30 rfl (by decide) rfl ?_
      refine cj_iload_n C dX9_paper_31 rfl 0 rfl ?_
      refine cj_iconst C 4 dX9_paper_32 rfl ?_
      refine cj_ic_ne C 39 dX9_paper_33 rfl hf (fun hf => ?_) (fun hf => ?_)
      · refine cj_aload_n C dX9_paper_39 rfl 1 rfl ?_
        obtain ⟨s6, h5, hf⟩ := cj_bd_s hf
        refine cj_cV0v C cw_X9_changes (ct_X9_changes hI h5) cjq_782 cjq_1 cjq_780 (eM_0 (z := z) (ad := ad)) rfl rfl ⟨Nat.le_of_ble_eq_true rfl, Nat.le_of_ble_eq_true rfl⟩ (Nat.le_of_ble_eq_true rfl) dX9_paper_40 ?_
        refine cj_aload_n C dX9_paper_43 rfl 1 rfl ?_
        refine cj_getS (v := .ref (ad 0 1)) (j := 0) C (eM_0 (z := z) (ad := ad)) rfl rfl cj_in9 (by decide) rfl cjq_720 rfl dX9_paper_44 ?_
        refine cj_sipush C 159 dX9_paper_47 rfl ?_
        refine cj_bipush C 6 dX9_paper_50 rfl ?_
        refine cj_iload_n C dX9_paper_52 rfl 0 rfl ?_
        refine cj_imul C dX9_paper_53 ?_
        refine cj_iadd C dX9_paper_54 ?_
        refine cj_iconst C 0 dX9_paper_55 rfl ?_
        refine cj_iadd C dX9_paper_56 ?_
        refine cj_iload_n C dX9_paper_57 rfl 2 rfl ?_
        refine cj_iastS C (eM_1 (z := z) (ad := ad)) dX9_paper_58 hf (fun hf => ?_)
        refine cj_ltS hf (fun s7 hf => ?_)
        refine cj_aload_n C dX9_paper_59 rfl 1 rfl ?_
        refine cj_getS (v := .ref (ad 0 1)) (j := 0) C (eM_0 (z := z) (ad := ad)) rfl rfl cj_in9 (by decide) rfl cjq_720 rfl dX9_paper_60 ?_
        refine cj_sipush C 159 dX9_paper_63 rfl ?_
        refine cj_bipush C 6 dX9_paper_66 rfl ?_
        refine cj_iload_n C dX9_paper_68 rfl 0 rfl ?_
        refine cj_imul C dX9_paper_69 ?_
        refine cj_iadd C dX9_paper_70 ?_
        refine cj_iconst C 1 dX9_paper_71 rfl ?_
        refine cj_iadd C dX9_paper_72 ?_
        refine cj_iload_n C dX9_paper_73 rfl 3 rfl ?_
        refine cj_iastS C (eM_1 (z := z) (ad := ad)) dX9_paper_74 hf (fun hf => ?_)
        refine cj_ltS hf (fun s8 hf => ?_)
        refine cj_aload_n C dX9_paper_75 rfl 1 rfl ?_
        refine cj_getS (v := .ref (ad 0 1)) (j := 0) C (eM_0 (z := z) (ad := ad)) rfl rfl cj_in9 (by decide) rfl cjq_720 rfl dX9_paper_76 ?_
        refine cj_sipush C 159 dX9_paper_79 rfl ?_
        refine cj_bipush C 6 dX9_paper_82 rfl ?_
        refine cj_iload_n C dX9_paper_84 rfl 0 rfl ?_
        refine cj_imul C dX9_paper_85 ?_
        refine cj_iadd C dX9_paper_86 ?_
        refine cj_iconst C 4 dX9_paper_87 rfl ?_
        refine cj_iadd C dX9_paper_88 ?_
        refine cj_iconst C (-1) dX9_paper_89 rfl ?_
        refine cj_iastS C (eM_1 (z := z) (ad := ad)) dX9_paper_90 hf (fun hf => ?_)
        refine cj_ltS hf (fun s9 hf => ?_)
        refine cj_aload_n C dX9_paper_91 rfl 1 rfl ?_
        refine cj_getS (v := .ref (ad 0 1)) (j := 0) C (eM_0 (z := z) (ad := ad)) rfl rfl cj_in9 (by decide) rfl cjq_720 rfl dX9_paper_92 ?_
        refine cj_iconst C 1 dX9_paper_95 rfl ?_
        refine cj_dup2 C dX9_paper_96 rfl rfl ?_
        refine cj_ialdKS (j := 1) C (eM_1 (z := z) (ad := ad)) rfl (by decide) dX9_paper_97 ?_
        refine cj_iconst C 1 dX9_paper_98 rfl ?_
        refine cj_iadd C dX9_paper_99 ?_
        refine cj_iastKS (j := 1) C (eM_1 (z := z) (ad := ad)) rfl (by decide) dX9_paper_100 ?_
        refine cj_ltS hf (fun s10 hf => ?_)
        refine cj_iload_n C dX9_paper_101 rfl 0 rfl ?_
        cases hf
        exact cj_iret C rfl dX9_paper_102
      · refine cj_ldc C cjq_779 dX9_paper_36 ?_
        cases hf
        exact cj_iret C rfl dX9_paper_38
    · refine cj_ldc C cjq_773 dX9_paper_21 ?_
      cases hf
      exact cj_iret C rfl dX9_paper_23
set_option maxHeartbeats 4000000 in
set_option maxRecDepth 100000 in
theorem ct_X9_look {l : Launch} {D : va_G} {z : cj_Zc} {ad : cj_Ad} (hI : cj_Ij (cj_EM z) ad) {μ : cj_Mm} {s0 : cj_S} {a1 : Int32} {r : Int32} {r2 : cj_S} (hf : f_X9_look s0 a1 = some (r, r2)) : cj_Ct l (cj_YM D z ad) yX9_look cX9_look 2 (some .int) 4 [.ref (ad 0 0), .int a1] (cj_upG μ 0 s0) (some (.int r)) (cj_upG μ 0 r2) := by
  refine cj_Ct.of (by decide +kernel) hI (Nat.le_of_ble_eq_true rfl) [(0, .ref (ad 0 0)), (1, .int a1)] rfl (fun X hX C => ?_)
  subst hX
  have C : cj_C (cj_YM D z ad) X cX9_look 2 RX9 4 (some .int) := C
  unfold f_X9_look at hf
  generalize hr2 : (r, r2) = r3 at hf
  obtain ⟨e1, e2⟩ : r = r3.1 ∧ r2 = r3.2 := by rw [← hr2]; exact ⟨rfl, rfl⟩
  rw [e1, e2]
  clear e1 e2 hr2
  obtain ⟨r, hr⟩ : ∃ r, r = r3 := ⟨_, rfl⟩
  rw [← hr] at hf ⊢
  clear hr
  refine cj_iload_n C dX9_look_0 rfl 1 rfl ?_
  refine cj_iconst C (-1) dX9_look_1 rfl ?_
  refine cj_jn (Hyp := fun K1 => ∀ (u : Unit), K1 u = some r → cj_G (cj_YM D z ad) X (some (.int r.1), cj_upG μ 0 r.2) (cj_upG μ 0 s0) 16 [(0, .ref (ad 0 0)), (1, .int a1)] []) hf (fun u hf => ?_) (fun K1 hK1 hf => ?_)
  · refine cj_aload_n C dX9_look_16 rfl 0 rfl ?_
    obtain ⟨s3, h2, hf⟩ := cj_bd_s hf
    refine cj_cV0v C cw_X9_changes (ct_X9_changes hI h2) cjq_782 cjq_1 cjq_780 (eM_0 (z := z) (ad := ad)) rfl rfl ⟨Nat.le_of_ble_eq_true rfl, Nat.le_of_ble_eq_true rfl⟩ (Nat.le_of_ble_eq_true rfl) dX9_look_17 ?_
    refine cj_aload_n C dX9_look_20 rfl 0 rfl ?_
    refine cj_getS (v := .ref (ad 0 1)) (j := 0) C (eM_0 (z := z) (ad := ad)) rfl rfl cj_in9 (by decide) rfl cjq_720 rfl dX9_look_21 ?_
    refine cj_iconst C 5 dX9_look_24 rfl ?_
    refine cj_iload_n C dX9_look_25 rfl 1 rfl ?_
    refine cj_iastKS (j := 5) C (eM_1 (z := z) (ad := ad)) rfl (by decide) dX9_look_26 ?_
    refine cj_ltS hf (fun s4 hf => ?_)
    refine cj_iload_n C dX9_look_27 rfl 1 rfl ?_
    refine cj_iconst C (-1) dX9_look_28 rfl ?_
    refine cj_ic_ne C 36 dX9_look_29 rfl hf (fun hf => ?_) (fun hf => ?_)
    · refine cj_aload_n C dX9_look_36 rfl 0 rfl ?_
      refine cj_iload_n C dX9_look_37 rfl 1 rfl ?_
      obtain ⟨x6, h5, hf⟩ := cj_bd_s hf
      refine cj_cV1i C cw_X9_seen (ct_X9_seen hI h5) cjq_798 cjq_4 cjq_796 (eM_0 (z := z) (ad := ad)) rfl rfl ⟨Nat.le_of_ble_eq_true rfl, Nat.le_of_ble_eq_true rfl⟩ (Nat.le_of_ble_eq_true rfl) dX9_look_38 ?_
      cases hf
      exact cj_iret C rfl dX9_look_41
    · refine cj_iconst C 0 dX9_look_32 rfl ?_
      refine cj_goto C 41 dX9_look_33 rfl ?_
      cases hf
      exact cj_iret C rfl dX9_look_41
  · refine cj_ic_eq C 16 dX9_look_2 rfl hf (fun hf => ?_) (fun hf => ?_)
    · exact hK1 () hf
    · refine cj_aload_n C dX9_look_5 rfl 0 rfl ?_
      refine cj_iload_n C dX9_look_6 rfl 1 rfl ?_
      obtain ⟨x8, h7, hf⟩ := cj_bd_s hf
      refine cj_cV1i C cw_X9_isPerson (ct_X9_isPerson hI h7) cjq_794 cjq_3 cjq_792 (eM_0 (z := z) (ad := ad)) rfl rfl ⟨Nat.le_of_ble_eq_true rfl, Nat.le_of_ble_eq_true rfl⟩ (Nat.le_of_ble_eq_true rfl) dX9_look_7 ?_
      refine cj_if_ne C 16 dX9_look_10 rfl hf (fun hf => ?_) (fun hf => ?_)
      · exact hK1 () hf
      · refine cj_ldc C cjq_773 dX9_look_13 ?_
        cases hf
        exact cj_iret C rfl dX9_look_15
set_option maxHeartbeats 4000000 in
set_option maxRecDepth 100000 in
theorem tl_X9_slot_L2 {D : va_G} {z : cj_Zc} {ad : cj_Ad} (hI : cj_Ij (cj_EM z) ad) {μ : cj_Mm} {y1 : Int32} {s3 : cj_S} {X : cj_X} (C : cj_C (cj_YM D z ad) X cX9_slot 3 RX9 1 (some .int)) {r : Int32} : ∀ (n : Nat) (x2 : Int32), f_X9_slot_L2 y1 s3 n x2 = some r → cj_G (cj_YM D z ad) X (some (.int r), cj_upG μ 0 s3) (cj_upG μ 0 s3) 2 [(0, .ref (ad 0 0)), (1, .int y1), (2, .int x2)] [] := by
  intro n
  induction n with
  | zero =>
    intro x2 hf
    rw [f_X9_slot_L2] at hf
    cases hf
  | succ n ih =>
    intro x2 hf
    rw [f_X9_slot_L2] at hf
    refine cj_iload_n C dX9_slot_2 rfl 2 rfl ?_
    refine cj_aload_n C dX9_slot_3 rfl 0 rfl ?_
    refine cj_getS (v := .ref (ad 0 1)) (j := 0) C (eM_0 (z := z) (ad := ad)) rfl rfl cj_in9 (by decide) rfl cjq_720 rfl dX9_slot_4 ?_
    refine cj_iconst C 2 dX9_slot_7 rfl ?_
    refine cj_ialdKS (j := 2) C (eM_1 (z := z) (ad := ad)) rfl (by decide) dX9_slot_8 ?_
    refine cj_ic_ge C 30 dX9_slot_9 rfl hf (fun hf => ?_) (fun hf => ?_)
    · refine cj_ldc C cjq_832 dX9_slot_30 ?_
      cases hf
      exact cj_iret C rfl dX9_slot_32
    · refine cj_aload_n C dX9_slot_12 rfl 0 rfl ?_
      refine cj_iload_n C dX9_slot_13 rfl 2 rfl ?_
      refine cj_iconst C 0 dX9_slot_14 rfl ?_
      obtain ⟨x5, h4, hf⟩ := cj_bd_s hf
      refine cj_cV2i C cw_X9_ofSheet (ct_X9_ofSheet hI h4) cjq_830 cjq_8 cjq_828 (eM_0 (z := z) (ad := ad)) rfl rfl ⟨Nat.le_of_ble_eq_true rfl, Nat.le_of_ble_eq_true rfl⟩ (Nat.le_of_ble_eq_true rfl) dX9_slot_15 ?_
      refine cj_iload_n C dX9_slot_18 rfl 1 rfl ?_
      refine cj_ic_ne C 24 dX9_slot_19 rfl hf (fun hf => ?_) (fun hf => ?_)
      · refine cj_iinc (lv' := [(2, .int (x2 + 1)), (0, .ref (ad 0 0)), (1, .int y1)]) C dX9_slot_24 (j := 2) rfl rfl (by decide) rfl ?_
        refine cj_goto C 2 dX9_slot_27 rfl ?_
        refine cj_sub [1, 2, 0] rfl ?_
        exact ih (x2 + 1) hf
      · refine cj_iload_n C dX9_slot_22 rfl 2 rfl ?_
        cases hf
        exact cj_iret C rfl dX9_slot_23
set_option maxHeartbeats 4000000 in
set_option maxRecDepth 100000 in
theorem ct_X9_slot {l : Launch} {D : va_G} {z : cj_Zc} {ad : cj_Ad} (hI : cj_Ij (cj_EM z) ad) {μ : cj_Mm} {s0 : cj_S} {a1 : Int32} {r : Int32} (hf : f_X9_slot s0 a1 = some r) : cj_Ct l (cj_YM D z ad) yX9_slot cX9_slot 3 (some .int) 1 [.ref (ad 0 0), .int a1] (cj_upG μ 0 s0) (some (.int r)) (cj_upG μ 0 s0) := by
  refine cj_Ct.of (by decide +kernel) hI (Nat.le_of_ble_eq_true rfl) [(0, .ref (ad 0 0)), (1, .int a1)] rfl (fun X hX C => ?_)
  subst hX
  have C : cj_C (cj_YM D z ad) X cX9_slot 3 RX9 1 (some .int) := C
  unfold f_X9_slot at hf
  refine cj_iconst C 0 dX9_slot_0 rfl ?_
  refine cj_istore_n (lv' := [(2, .int 0), (0, .ref (ad 0 0)), (1, .int a1)]) C dX9_slot_1 rfl (by decide) rfl ?_
  refine cj_sub [1, 2, 0] rfl ?_
  exact tl_X9_slot_L2 hI C cj_FU 0 hf
set_option maxHeartbeats 4000000 in
set_option maxRecDepth 100000 in
theorem ct_X9_sheet {l : Launch} {D : va_G} {z : cj_Zc} {ad : cj_Ad} (hI : cj_Ij (cj_EM z) ad) {μ : cj_Mm} {s0 : cj_S} {a1 : Int32} {r : Int32} {r2 : cj_S} (hf : f_X9_sheet s0 a1 = some (r, r2)) : cj_Ct l (cj_YM D z ad) yX9_sheet cX9_sheet 3 (some .int) 1 [.ref (ad 0 0), .int a1] (cj_upG μ 0 s0) (some (.int r)) (cj_upG μ 0 r2) := by
  refine cj_Ct.of (by decide +kernel) hI (Nat.le_of_ble_eq_true rfl) [(0, .ref (ad 0 0)), (1, .int a1)] rfl (fun X hX C => ?_)
  subst hX
  have C : cj_C (cj_YM D z ad) X cX9_sheet 3 RX9 1 (some .int) := C
  unfold f_X9_sheet at hf
  generalize hr2 : (r, r2) = r3 at hf
  obtain ⟨e1, e2⟩ : r = r3.1 ∧ r2 = r3.2 := by rw [← hr2]; exact ⟨rfl, rfl⟩
  rw [e1, e2]
  clear e1 e2 hr2
  obtain ⟨r, hr⟩ : ∃ r, r = r3 := ⟨_, rfl⟩
  rw [← hr] at hf ⊢
  clear hr
  refine cj_aload_n C dX9_sheet_0 rfl 0 rfl ?_
  refine cj_iload_n C dX9_sheet_1 rfl 1 rfl ?_
  obtain ⟨x2, h1, hf⟩ := cj_bd_s hf
  refine cj_cV1i C cw_X9_isPerson (ct_X9_isPerson hI h1) cjq_794 cjq_3 cjq_792 (eM_0 (z := z) (ad := ad)) rfl rfl ⟨Nat.le_of_ble_eq_true rfl, Nat.le_of_ble_eq_true rfl⟩ (Nat.le_of_ble_eq_true rfl) dX9_sheet_2 ?_
  refine cj_if_ne C 11 dX9_sheet_5 rfl hf (fun hf => ?_) (fun hf => ?_)
  · refine cj_aload_n C dX9_sheet_11 rfl 0 rfl ?_
    refine cj_getS (v := .ref (ad 0 1)) (j := 0) C (eM_0 (z := z) (ad := ad)) rfl rfl cj_in9 (by decide) rfl cjq_720 rfl dX9_sheet_12 ?_
    refine cj_iconst C 2 dX9_sheet_15 rfl ?_
    refine cj_ialdKS (j := 2) C (eM_1 (z := z) (ad := ad)) rfl (by decide) dX9_sheet_16 ?_
    refine cj_istore_n (lv' := [(2, .int (s0 1 2)), (0, .ref (ad 0 0)), (1, .int a1)]) C dX9_sheet_17 rfl (by decide) rfl ?_
    refine cj_iload_n C dX9_sheet_18 rfl 0 rfl ?_
    refine cj_bipush C 10 dX9_sheet_19 rfl ?_
    refine cj_ic_ne C 27 dX9_sheet_21 rfl hf (fun hf => ?_) (fun hf => ?_)
    · refine cj_aload_n C dX9_sheet_27 rfl 1 rfl ?_
      obtain ⟨s4, h3, hf⟩ := cj_bd_s hf
      refine cj_cV0v C cw_X9_changes (ct_X9_changes hI h3) cjq_782 cjq_1 cjq_780 (eM_0 (z := z) (ad := ad)) rfl rfl ⟨Nat.le_of_ble_eq_true rfl, Nat.le_of_ble_eq_true rfl⟩ (Nat.le_of_ble_eq_true rfl) dX9_sheet_28 ?_
      refine cj_aload_n C dX9_sheet_31 rfl 1 rfl ?_
      refine cj_getS (v := .ref (ad 0 1)) (j := 0) C (eM_0 (z := z) (ad := ad)) rfl rfl cj_in9 (by decide) rfl cjq_720 rfl dX9_sheet_32 ?_
      refine cj_bipush C 119 dX9_sheet_35 rfl ?_
      refine cj_iconst C 4 dX9_sheet_37 rfl ?_
      refine cj_iload_n C dX9_sheet_38 rfl 0 rfl ?_
      refine cj_imul C dX9_sheet_39 ?_
      refine cj_iadd C dX9_sheet_40 ?_
      refine cj_iconst C 0 dX9_sheet_41 rfl ?_
      refine cj_iadd C dX9_sheet_42 ?_
      refine cj_aload_n C dX9_sheet_43 rfl 1 rfl ?_
      refine cj_getS (v := .ref (ad 0 1)) (j := 0) C (eM_0 (z := z) (ad := ad)) rfl rfl cj_in9 (by decide) rfl cjq_720 rfl dX9_sheet_44 ?_
      refine cj_iconst C 3 dX9_sheet_47 rfl ?_
      refine cj_ialdKS (j := 3) C (eM_1 (z := z) (ad := ad)) rfl (by decide) dX9_sheet_48 ?_
      refine cj_iastS C (eM_1 (z := z) (ad := ad)) dX9_sheet_49 hf (fun hf => ?_)
      refine cj_ltS hf (fun s5 hf => ?_)
      refine cj_aload_n C dX9_sheet_50 rfl 1 rfl ?_
      refine cj_getS (v := .ref (ad 0 1)) (j := 0) C (eM_0 (z := z) (ad := ad)) rfl rfl cj_in9 (by decide) rfl cjq_720 rfl dX9_sheet_51 ?_
      refine cj_bipush C 119 dX9_sheet_54 rfl ?_
      refine cj_iconst C 4 dX9_sheet_56 rfl ?_
      refine cj_iload_n C dX9_sheet_57 rfl 0 rfl ?_
      refine cj_imul C dX9_sheet_58 ?_
      refine cj_iadd C dX9_sheet_59 ?_
      refine cj_iconst C 1 dX9_sheet_60 rfl ?_
      refine cj_iadd C dX9_sheet_61 ?_
      refine cj_iload_n C dX9_sheet_62 rfl 2 rfl ?_
      refine cj_iastS C (eM_1 (z := z) (ad := ad)) dX9_sheet_63 hf (fun hf => ?_)
      refine cj_ltS hf (fun s6 hf => ?_)
      refine cj_aload_n C dX9_sheet_64 rfl 1 rfl ?_
      refine cj_getS (v := .ref (ad 0 1)) (j := 0) C (eM_0 (z := z) (ad := ad)) rfl rfl cj_in9 (by decide) rfl cjq_720 rfl dX9_sheet_65 ?_
      refine cj_bipush C 119 dX9_sheet_68 rfl ?_
      refine cj_iconst C 4 dX9_sheet_70 rfl ?_
      refine cj_iload_n C dX9_sheet_71 rfl 0 rfl ?_
      refine cj_imul C dX9_sheet_72 ?_
      refine cj_iadd C dX9_sheet_73 ?_
      refine cj_iconst C 2 dX9_sheet_74 rfl ?_
      refine cj_iadd C dX9_sheet_75 ?_
      refine cj_iconst C 0 dX9_sheet_76 rfl ?_
      refine cj_iastS C (eM_1 (z := z) (ad := ad)) dX9_sheet_77 hf (fun hf => ?_)
      refine cj_ltS hf (fun s7 hf => ?_)
      refine cj_aload_n C dX9_sheet_78 rfl 1 rfl ?_
      refine cj_getS (v := .ref (ad 0 1)) (j := 0) C (eM_0 (z := z) (ad := ad)) rfl rfl cj_in9 (by decide) rfl cjq_720 rfl dX9_sheet_79 ?_
      refine cj_bipush C 119 dX9_sheet_82 rfl ?_
      refine cj_iconst C 4 dX9_sheet_84 rfl ?_
      refine cj_iload_n C dX9_sheet_85 rfl 0 rfl ?_
      refine cj_imul C dX9_sheet_86 ?_
      refine cj_iadd C dX9_sheet_87 ?_
      refine cj_iconst C 3 dX9_sheet_88 rfl ?_
      refine cj_iadd C dX9_sheet_89 ?_
      refine cj_iconst C 0 dX9_sheet_90 rfl ?_
      refine cj_iastS C (eM_1 (z := z) (ad := ad)) dX9_sheet_91 hf (fun hf => ?_)
      refine cj_ltS hf (fun s8 hf => ?_)
      refine cj_aload_n C dX9_sheet_92 rfl 1 rfl ?_
      refine cj_getS (v := .ref (ad 0 1)) (j := 0) C (eM_0 (z := z) (ad := ad)) rfl rfl cj_in9 (by decide) rfl cjq_720 rfl dX9_sheet_93 ?_
      refine cj_iconst C 2 dX9_sheet_96 rfl ?_
      refine cj_dup2 C dX9_sheet_97 rfl rfl ?_
      refine cj_ialdKS (j := 2) C (eM_1 (z := z) (ad := ad)) rfl (by decide) dX9_sheet_98 ?_
      refine cj_iconst C 1 dX9_sheet_99 rfl ?_
      refine cj_iadd C dX9_sheet_100 ?_
      refine cj_iastKS (j := 2) C (eM_1 (z := z) (ad := ad)) rfl (by decide) dX9_sheet_101 ?_
      refine cj_ltS hf (fun s9 hf => ?_)
      refine cj_aload_n C dX9_sheet_102 rfl 1 rfl ?_
      refine cj_getS (v := .ref (ad 0 1)) (j := 0) C (eM_0 (z := z) (ad := ad)) rfl rfl cj_in9 (by decide) rfl cjq_720 rfl dX9_sheet_103 ?_
      refine cj_iconst C 3 dX9_sheet_106 rfl ?_
      refine cj_dup2 C dX9_sheet_107 rfl rfl ?_
      refine cj_ialdKS (j := 3) C (eM_1 (z := z) (ad := ad)) rfl (by decide) dX9_sheet_108 ?_
      refine cj_iconst C 1 dX9_sheet_109 rfl ?_
      refine cj_iadd C dX9_sheet_110 ?_
      refine cj_iastKS (j := 3) C (eM_1 (z := z) (ad := ad)) rfl (by decide) dX9_sheet_111 ?_
      refine cj_ltS hf (fun s10 hf => ?_)
      refine cj_aload_n C dX9_sheet_112 rfl 1 rfl ?_
      refine cj_getS (v := .ref (ad 0 1)) (j := 0) C (eM_0 (z := z) (ad := ad)) rfl rfl cj_in9 (by decide) rfl cjq_720 rfl dX9_sheet_113 ?_
      refine cj_iconst C 3 dX9_sheet_116 rfl ?_
      refine cj_ialdKS (j := 3) C (eM_1 (z := z) (ad := ad)) rfl (by decide) dX9_sheet_117 ?_
      refine cj_iconst C 1 dX9_sheet_118 rfl ?_
      refine cj_isub C dX9_sheet_119 ?_
      cases hf
      exact cj_iret C rfl dX9_sheet_120
    · refine cj_ldc C cjq_779 dX9_sheet_24 ?_
      cases hf
      exact cj_iret C rfl dX9_sheet_26
  · refine cj_ldc C cjq_773 dX9_sheet_8 ?_
    cases hf
    exact cj_iret C rfl dX9_sheet_10
set_option maxHeartbeats 4000000 in
set_option maxRecDepth 100000 in
theorem ct_X9_drawable {l : Launch} {D : va_G} {z : cj_Zc} {ad : cj_Ad} (hI : cj_Ij (cj_EM z) ad) {μ : cj_Mm} {s0 : cj_S} {a1 : Int32} {r : Int32} (hf : f_X9_drawable s0 a1 = some r) : cj_Ct l (cj_YM D z ad) yX9_drawable cX9_drawable 2 (some .int) 2 [.ref (ad 0 0), .int a1] (cj_upG μ 0 s0) (some (.int r)) (cj_upG μ 0 s0) := by
  refine cj_Ct.of (by decide +kernel) hI (Nat.le_of_ble_eq_true rfl) [(0, .ref (ad 0 0)), (1, .int a1)] rfl (fun X hX C => ?_)
  subst hX
  have C : cj_C (cj_YM D z ad) X cX9_drawable 2 RX9 2 (some .int) := C
  unfold f_X9_drawable at hf
  refine cj_aload_n C dX9_drawable_0 rfl 0 rfl ?_
  refine cj_aload_n C dX9_drawable_1 rfl 0 rfl ?_
  refine cj_iload_n C dX9_drawable_2 rfl 1 rfl ?_
  refine cj_iconst C 1 dX9_drawable_3 rfl ?_
  obtain ⟨x2, h1, hf⟩ := cj_bd_s hf
  refine cj_cV2i C cw_X9_ofSheet (ct_X9_ofSheet hI h1) cjq_830 cjq_8 cjq_828 (eM_0 (z := z) (ad := ad)) rfl rfl ⟨Nat.le_of_ble_eq_true rfl, Nat.le_of_ble_eq_true rfl⟩ (Nat.le_of_ble_eq_true rfl) dX9_drawable_4 ?_
  obtain ⟨x4, h3, hf⟩ := cj_bd_s hf
  refine cj_cV1i C cw_X9_remembered (ct_X9_remembered hI h3) cjq_839 cjq_10 cjq_837 (eM_0 (z := z) (ad := ad)) rfl rfl ⟨Nat.le_of_ble_eq_true rfl, Nat.le_of_ble_eq_true rfl⟩ (Nat.le_of_ble_eq_true rfl) dX9_drawable_7 ?_
  refine cj_aload_n C dX9_drawable_10 rfl 0 rfl ?_
  refine cj_iload_n C dX9_drawable_11 rfl 1 rfl ?_
  refine cj_iconst C 2 dX9_drawable_12 rfl ?_
  obtain ⟨x6, h5, hf⟩ := cj_bd_s hf
  refine cj_cV2i C cw_X9_ofSheet (ct_X9_ofSheet hI h5) cjq_830 cjq_8 cjq_828 (eM_0 (z := z) (ad := ad)) rfl rfl ⟨Nat.le_of_ble_eq_true rfl, Nat.le_of_ble_eq_true rfl⟩ (Nat.le_of_ble_eq_true rfl) dX9_drawable_13 ?_
  refine cj_iconst C (-1) dX9_drawable_16 rfl ?_
  refine cj_ixor C dX9_drawable_17 ?_
  refine cj_iand C dX9_drawable_18 ?_
  cases hf
  exact cj_iret C rfl dX9_drawable_19
set_option maxHeartbeats 4000000 in
set_option maxRecDepth 100000 in
theorem ct_X9_draw {l : Launch} {D : va_G} {z : cj_Zc} {ad : cj_Ad} (hI : cj_Ij (cj_EM z) ad) {μ : cj_Mm} {s0 : cj_S} {a1 : Int32} {a2 : Int32} {r : Int32} {r2 : cj_S} (hf : f_X9_draw s0 a1 a2 = some (r, r2)) : cj_Ct l (cj_YM D z ad) yX9_draw cX9_draw 5 (some .int) 3 [.ref (ad 0 0), .int a1, .int a2] (cj_upG μ 0 s0) (some (.int r)) (cj_upG μ 0 r2) := by
  refine cj_Ct.of (by decide +kernel) hI (Nat.le_of_ble_eq_true rfl) [(0, .ref (ad 0 0)), (1, .int a1), (2, .int a2)] rfl (fun X hX C => ?_)
  subst hX
  have C : cj_C (cj_YM D z ad) X cX9_draw 5 RX9 3 (some .int) := C
  unfold f_X9_draw at hf
  generalize hr2 : (r, r2) = r3 at hf
  obtain ⟨e1, e2⟩ : r = r3.1 ∧ r2 = r3.2 := by rw [← hr2]; exact ⟨rfl, rfl⟩
  rw [e1, e2]
  clear e1 e2 hr2
  obtain ⟨r, hr⟩ : ∃ r, r = r3 := ⟨_, rfl⟩
  rw [← hr] at hf ⊢
  clear hr
  refine cj_aload_n C dX9_draw_0 rfl 0 rfl ?_
  refine cj_iload_n C dX9_draw_1 rfl 1 rfl ?_
  obtain ⟨x2, h1, hf⟩ := cj_bd_s hf
  refine cj_cV1i C cw_X9_slot (ct_X9_slot hI h1) cjq_826 cjq_7 cjq_824 (eM_0 (z := z) (ad := ad)) rfl rfl ⟨Nat.le_of_ble_eq_true rfl, Nat.le_of_ble_eq_true rfl⟩ (Nat.le_of_ble_eq_true rfl) dX9_draw_2 ?_
  refine cj_istore_n (lv' := [(3, .int x2), (0, .ref (ad 0 0)), (1, .int a1), (2, .int a2)]) C dX9_draw_5 rfl (by decide) rfl ?_
  refine cj_iload_n C dX9_draw_6 rfl 0 rfl ?_
  refine cj_if_lt C 20 dX9_draw_7 rfl hf (fun hf => ?_) (fun hf => ?_)
  · refine cj_ldc C cjq_773 dX9_draw_20 ?_
    cases hf
    exact cj_iret C rfl dX9_draw_22
  · refine cj_iload_n C dX9_draw_10 rfl 3 rfl ?_
    refine cj_iconst C 0 dX9_draw_11 rfl ?_
    refine cj_bipush C 11 dX9_draw_12 rfl ?_
    obtain ⟨x4, h3, hf⟩ := cj_bd_s hf
    refine cj_cS3i C cw_X9_in (ct_X9_in hI h3) cjq_771 cjq_770 ⟨Nat.le_of_ble_eq_true rfl, Nat.le_of_ble_eq_true rfl⟩ (Nat.le_of_ble_eq_true rfl) dX9_draw_14 ?_
    refine cj_if_ne C 23 dX9_draw_17 rfl hf (fun hf => ?_) (fun hf => ?_)
    · refine cj_aload_n C dX9_draw_23 rfl 1 rfl ?_
      refine cj_iload_n C dX9_draw_24 rfl 0 rfl ?_
      obtain ⟨x6, h5, hf⟩ := cj_bd_s hf
      refine cj_cV1i C cw_X9_drawable (ct_X9_drawable hI h5) cjq_835 cjq_9 cjq_833 (eM_0 (z := z) (ad := ad)) rfl rfl ⟨Nat.le_of_ble_eq_true rfl, Nat.le_of_ble_eq_true rfl⟩ (Nat.le_of_ble_eq_true rfl) dX9_draw_25 ?_
      refine cj_iconst C 1 dX9_draw_28 rfl ?_
      refine cj_iload_n C dX9_draw_29 rfl 3 rfl ?_
      refine cj_ishl C dX9_draw_30 ?_
      refine cj_iand C dX9_draw_31 ?_
      refine cj_if_ne C 38 dX9_draw_32 rfl hf (fun hf => ?_) (fun hf => ?_)
      · refine cj_aload_n C dX9_draw_38 rfl 1 rfl ?_
        refine cj_getS (v := .ref (ad 0 1)) (j := 0) C (eM_0 (z := z) (ad := ad)) rfl rfl cj_in9 (by decide) rfl cjq_720 rfl dX9_draw_39 ?_
        refine cj_bipush C 6 dX9_draw_42 rfl ?_
        refine cj_ialdKS (j := 6) C (eM_1 (z := z) (ad := ad)) rfl (by decide) dX9_draw_44 ?_
        refine cj_iconst C 3 dX9_draw_45 rfl ?_
        refine cj_ic_ne C 52 dX9_draw_46 rfl hf (fun hf => ?_) (fun hf => ?_)
        · refine cj_aload_n C dX9_draw_52 rfl 1 rfl ?_
          obtain ⟨s8, h7, hf⟩ := cj_bd_s hf
          refine cj_cV0v C cw_X9_changes (ct_X9_changes hI h7) cjq_782 cjq_1 cjq_780 (eM_0 (z := z) (ad := ad)) rfl rfl ⟨Nat.le_of_ble_eq_true rfl, Nat.le_of_ble_eq_true rfl⟩ (Nat.le_of_ble_eq_true rfl) dX9_draw_53 ?_
          refine cj_aload_n C dX9_draw_56 rfl 1 rfl ?_
          refine cj_getS (v := .ref (ad 0 1)) (j := 0) C (eM_0 (z := z) (ad := ad)) rfl rfl cj_in9 (by decide) rfl cjq_720 rfl dX9_draw_57 ?_
          refine cj_iconst C 4 dX9_draw_60 rfl ?_
          refine cj_ialdKS (j := 4) C (eM_1 (z := z) (ad := ad)) rfl (by decide) dX9_draw_61 ?_
          refine cj_aload_n C dX9_draw_62 rfl 1 rfl ?_
          refine cj_getS (v := .ref (ad 0 1)) (j := 0) C (eM_0 (z := z) (ad := ad)) rfl rfl cj_in9 (by decide) rfl cjq_720 rfl dX9_draw_63 ?_
          refine cj_bipush C 10 dX9_draw_66 rfl ?_
          refine cj_ialdKS (j := 10) C (eM_1 (z := z) (ad := ad)) rfl (by decide) dX9_draw_68 ?_
          refine cj_iadd C dX9_draw_69 ?_
          refine cj_istore (lv' := [(4, .int ((s8 1 4) + (s8 1 10))), (3, .int x2), (0, .ref (ad 0 0)), (1, .int a1), (2, .int a2)]) C dX9_draw_70 (by decide) rfl ?_
          refine cj_aload_n C dX9_draw_72 rfl 2 rfl ?_
          refine cj_getS (v := .ref (ad 0 1)) (j := 0) C (eM_0 (z := z) (ad := ad)) rfl rfl cj_in9 (by decide) rfl cjq_720 rfl dX9_draw_73 ?_
          refine cj_bipush C 119 dX9_draw_76 rfl ?_
          refine cj_iconst C 4 dX9_draw_78 rfl ?_
          refine cj_iload_n C dX9_draw_79 rfl 1 rfl ?_
          refine cj_imul C dX9_draw_80 ?_
          refine cj_iadd C dX9_draw_81 ?_
          refine cj_iconst C 2 dX9_draw_82 rfl ?_
          refine cj_iadd C dX9_draw_83 ?_
          refine cj_dup2 C dX9_draw_84 rfl rfl ?_
          refine cj_ialdS C (eM_1 (z := z) (ad := ad)) dX9_draw_85 hf (fun hf => ?_)
          refine cj_iconst C 1 dX9_draw_86 rfl ?_
          refine cj_iload_n C dX9_draw_87 rfl 4 rfl ?_
          refine cj_ishl C dX9_draw_88 ?_
          refine cj_ior C dX9_draw_89 ?_
          refine cj_iastS C (eM_1 (z := z) (ad := ad)) dX9_draw_90 hf (fun hf => ?_)
          refine cj_ltS hf (fun s9 hf => ?_)
          refine cj_aload_n C dX9_draw_91 rfl 2 rfl ?_
          refine cj_getS (v := .ref (ad 0 1)) (j := 0) C (eM_0 (z := z) (ad := ad)) rfl rfl cj_in9 (by decide) rfl cjq_720 rfl dX9_draw_92 ?_
          refine cj_bipush C 119 dX9_draw_95 rfl ?_
          refine cj_iconst C 4 dX9_draw_97 rfl ?_
          refine cj_iload_n C dX9_draw_98 rfl 1 rfl ?_
          refine cj_imul C dX9_draw_99 ?_
          refine cj_iadd C dX9_draw_100 ?_
          refine cj_iconst C 3 dX9_draw_101 rfl ?_
          refine cj_iadd C dX9_draw_102 ?_
          refine cj_iload C dX9_draw_103 0 rfl ?_
          refine cj_aload_n C dX9_draw_105 rfl 2 rfl ?_
          refine cj_iload_n C dX9_draw_106 rfl 1 rfl ?_
          refine cj_iconst C 3 dX9_draw_107 rfl ?_
          obtain ⟨x11, h10, hf⟩ := cj_bd_s hf
          refine cj_cV2i C cw_X9_ofSheet (ct_X9_ofSheet hI h10) cjq_830 cjq_8 cjq_828 (eM_0 (z := z) (ad := ad)) rfl rfl ⟨Nat.le_of_ble_eq_true rfl, Nat.le_of_ble_eq_true rfl⟩ (Nat.le_of_ble_eq_true rfl) dX9_draw_108 ?_
          refine cj_jn (Hyp := fun K12 => ∀ (x13 : Int32), K12 x13 = some r → cj_G (cj_YM D z ad) X (some (.int r.1), cj_upG μ 0 r.2) (cj_upG μ 0 s9) 125 [(0, .ref (ad 0 0)), (3, .int x2)] [.int x13, .int ((119 + (4 * x2)) + 3), .ref (ad 0 1)]) hf (fun x13 hf => ?_) (fun K12 hK12 hf => ?_)
          · refine cj_iastS C (eM_1 (z := z) (ad := ad)) dX9_draw_125 hf (fun hf => ?_)
            refine cj_ltS hf (fun s14 hf => ?_)
            refine cj_aload_n C dX9_draw_126 rfl 0 rfl ?_
            refine cj_getS (v := .ref (ad 0 1)) (j := 0) C (eM_0 (z := z) (ad := ad)) rfl rfl cj_in9 (by decide) rfl cjq_720 rfl dX9_draw_127 ?_
            refine cj_bipush C 6 dX9_draw_130 rfl ?_
            refine cj_dup2 C dX9_draw_132 rfl rfl ?_
            refine cj_ialdKS (j := 6) C (eM_1 (z := z) (ad := ad)) rfl (by decide) dX9_draw_133 ?_
            refine cj_iconst C 1 dX9_draw_134 rfl ?_
            refine cj_iadd C dX9_draw_135 ?_
            refine cj_iastKS (j := 6) C (eM_1 (z := z) (ad := ad)) rfl (by decide) dX9_draw_136 ?_
            refine cj_ltS hf (fun s15 hf => ?_)
            refine cj_aload_n C dX9_draw_137 rfl 0 rfl ?_
            refine cj_iload_n C dX9_draw_138 rfl 1 rfl ?_
            refine cj_iconst C 2 dX9_draw_139 rfl ?_
            obtain ⟨x17, h16, hf⟩ := cj_bd_s hf
            refine cj_cV2i C cw_X9_ofSheet (ct_X9_ofSheet hI h16) cjq_830 cjq_8 cjq_828 (eM_0 (z := z) (ad := ad)) rfl rfl ⟨Nat.le_of_ble_eq_true rfl, Nat.le_of_ble_eq_true rfl⟩ (Nat.le_of_ble_eq_true rfl) dX9_draw_140 ?_
            obtain ⟨x19, h18, hf⟩ := cj_bd_s hf
            refine cj_cS1i C cw_X9_ones (ct_X9_ones hI h18) cjq_842 cjq_841 ⟨Nat.le_of_ble_eq_true rfl, Nat.le_of_ble_eq_true rfl⟩ (Nat.le_of_ble_eq_true rfl) dX9_draw_143 ?_
            cases hf
            exact cj_iret C rfl dX9_draw_146
          · refine cj_ic_le C 119 dX9_draw_111 rfl hf (fun hf => ?_) (fun hf => ?_)
            · refine cj_aload_n C dX9_draw_119 rfl 2 rfl ?_
              refine cj_iload_n C dX9_draw_120 rfl 1 rfl ?_
              refine cj_iconst C 3 dX9_draw_121 rfl ?_
              obtain ⟨x21, h20, hf⟩ := cj_bd_s hf
              refine cj_cV2i C cw_X9_ofSheet (ct_X9_ofSheet hI h20) cjq_830 cjq_8 cjq_828 (eM_0 (z := z) (ad := ad)) rfl rfl ⟨Nat.le_of_ble_eq_true rfl, Nat.le_of_ble_eq_true rfl⟩ (Nat.le_of_ble_eq_true rfl) dX9_draw_122 ?_
              refine cj_sub [2, 1] rfl ?_
              exact hK12 x21 hf
            · refine cj_iload C dX9_draw_114 0 rfl ?_
              refine cj_goto C 125 dX9_draw_116 rfl ?_
              refine cj_sub [2, 1] rfl ?_
              exact hK12 ((s8 1 4) + (s8 1 10)) hf
        · refine cj_ldc C cjq_779 dX9_draw_49 ?_
          cases hf
          exact cj_iret C rfl dX9_draw_51
      · refine cj_ldc C cjq_778 dX9_draw_35 ?_
        cases hf
        exact cj_iret C rfl dX9_draw_37
    · refine cj_ldc C cjq_773 dX9_draw_20 ?_
      cases hf
      exact cj_iret C rfl dX9_draw_22
