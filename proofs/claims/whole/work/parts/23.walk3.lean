set_option maxHeartbeats 4000000 in
set_option maxRecDepth 100000 in
theorem ct_X8_draw {l : Launch} {D : va_G} {z : cj_Zc} {ad : cj_Ad} (hI : cj_Ij (cj_EL z) ad) {m0 : cj_Mm} {a1 : Int32} {a2 : Int32} {r : Int32} {r2 : cj_Mm} (hf : f_X8_draw m0 a1 a2 = some (r, r2)) : cj_Ct l (cj_YL D z ad) yX8_draw cX8_draw 3 (some .int) 5 [.ref (ad 0 0), .int a1, .int a2] (m0) (some (.int r)) (r2) := by
  refine cj_Ct.of (by decide +kernel) hI (Nat.le_of_ble_eq_true rfl) [(0, .ref (ad 0 0)), (1, .int a1), (2, .int a2)] rfl (fun X hX C => ?_)
  subst hX
  have C : cj_C (cj_YL D z ad) X cX8_draw 3 RX8 5 (some .int) := C
  unfold f_X8_draw at hf
  generalize hr2 : (r, r2) = r3 at hf
  obtain ⟨e1, e2⟩ : r = r3.1 ∧ r2 = r3.2 := by rw [← hr2]; exact ⟨rfl, rfl⟩
  rw [e1, e2]
  clear e1 e2 hr2
  obtain ⟨r, hr⟩ : ∃ r, r = r3 := ⟨_, rfl⟩
  rw [← hr] at hf ⊢
  clear hr
  refine cj_aload_n C dX8_draw_0 rfl 0 rfl ?_
  refine cj_get (v := .ref (ad 1 0)) (j := 2) C (e0_0 (z := z) (ad := ad)) rfl rfl cj_in8 (by decide) rfl cjq_298 rfl dX8_draw_1 ?_
  refine cj_aload_n C dX8_draw_4 rfl 0 rfl ?_
  refine cj_get (v := .ref (ad 5 0)) (j := 0) C (e0_0 (z := z) (ad := ad)) rfl rfl cj_in8 (by decide) rfl cjq_296 rfl dX8_draw_5 ?_
  obtain ⟨s2, h1, hf⟩ := cj_bd_s hf
  refine cj_cV1v C cw_X1_prepare (ct_X1_prepare hI h1) cjq_320 cjq_321 cjq_319 (e1_0 (z := z) (ad := ad)) rfl rfl ⟨Nat.le_of_ble_eq_true rfl, Nat.le_of_ble_eq_true rfl⟩ (Nat.le_of_ble_eq_true rfl) dX8_draw_8 ?_
  refine cj_aload_n C dX8_draw_11 rfl 0 rfl ?_
  refine cj_get (v := .ref (ad 1 0)) (j := 2) C (e0_0 (z := z) (ad := ad)) rfl rfl cj_in8 (by decide) rfl cjq_298 rfl dX8_draw_12 ?_
  refine cj_aload_n C dX8_draw_15 rfl 0 rfl ?_
  refine cj_get (v := .ref (ad 5 0)) (j := 0) C (e0_0 (z := z) (ad := ad)) rfl rfl cj_in8 (by decide) rfl cjq_296 rfl dX8_draw_16 ?_
  refine cj_iload_n C dX8_draw_19 rfl 1 rfl ?_
  refine cj_iload_n C dX8_draw_20 rfl 2 rfl ?_
  obtain ⟨x4, s5, h3, hf⟩ := cj_bp_s hf
  refine cj_at 5 ?_
  refine cj_cV2i C cw_X0_drawFeature (ct_X0_drawFeature hI cj_isC_5 h3) cjq_428 cjq_429 cjq_427 (eC_0 (z := z) (ad := ad) cj_isC_5) rfl rfl ⟨Nat.le_of_ble_eq_true rfl, Nat.le_of_ble_eq_true rfl⟩ (Nat.le_of_ble_eq_true rfl) dX8_draw_21 ?_
  refine cj_ltM hf (fun s6 hf => ?_)
  obtain ⟨x8, s9, h7, hf⟩ := cj_bp_s hf
  refine cj_at 1 ?_
  refine cj_cV1i C cw_X1_settle (ct_X1_settle hI h7) cjq_365 cjq_366 cjq_364 (e1_0 (z := z) (ad := ad)) rfl rfl ⟨Nat.le_of_ble_eq_true rfl, Nat.le_of_ble_eq_true rfl⟩ (Nat.le_of_ble_eq_true rfl) dX8_draw_24 ?_
  refine cj_ltM hf (fun s10 hf => ?_)
  cases hf
  exact cj_iret C rfl dX8_draw_27
set_option maxHeartbeats 4000000 in
set_option maxRecDepth 100000 in
theorem ct_X8_tear {l : Launch} {D : va_G} {z : cj_Zc} {ad : cj_Ad} (hI : cj_Ij (cj_EL z) ad) {m0 : cj_Mm} {a1 : Int32} {r : Int32} {r2 : cj_Mm} (hf : f_X8_tear m0 a1 = some (r, r2)) : cj_Ct l (cj_YL D z ad) yX8_tear cX8_tear 2 (some .int) 5 [.ref (ad 0 0), .int a1] (m0) (some (.int r)) (r2) := by
  refine cj_Ct.of (by decide +kernel) hI (Nat.le_of_ble_eq_true rfl) [(0, .ref (ad 0 0)), (1, .int a1)] rfl (fun X hX C => ?_)
  subst hX
  have C : cj_C (cj_YL D z ad) X cX8_tear 2 RX8 5 (some .int) := C
  unfold f_X8_tear at hf
  generalize hr2 : (r, r2) = r3 at hf
  obtain ⟨e1, e2⟩ : r = r3.1 ∧ r2 = r3.2 := by rw [← hr2]; exact ⟨rfl, rfl⟩
  rw [e1, e2]
  clear e1 e2 hr2
  obtain ⟨r, hr⟩ : ∃ r, r = r3 := ⟨_, rfl⟩
  rw [← hr] at hf ⊢
  clear hr
  refine cj_aload_n C dX8_tear_0 rfl 0 rfl ?_
  refine cj_get (v := .ref (ad 1 0)) (j := 2) C (e0_0 (z := z) (ad := ad)) rfl rfl cj_in8 (by decide) rfl cjq_298 rfl dX8_tear_1 ?_
  refine cj_aload_n C dX8_tear_4 rfl 0 rfl ?_
  refine cj_get (v := .ref (ad 5 0)) (j := 0) C (e0_0 (z := z) (ad := ad)) rfl rfl cj_in8 (by decide) rfl cjq_296 rfl dX8_tear_5 ?_
  obtain ⟨s2, h1, hf⟩ := cj_bd_s hf
  refine cj_cV1v C cw_X1_prepare (ct_X1_prepare hI h1) cjq_320 cjq_321 cjq_319 (e1_0 (z := z) (ad := ad)) rfl rfl ⟨Nat.le_of_ble_eq_true rfl, Nat.le_of_ble_eq_true rfl⟩ (Nat.le_of_ble_eq_true rfl) dX8_tear_8 ?_
  refine cj_aload_n C dX8_tear_11 rfl 0 rfl ?_
  refine cj_get (v := .ref (ad 1 0)) (j := 2) C (e0_0 (z := z) (ad := ad)) rfl rfl cj_in8 (by decide) rfl cjq_298 rfl dX8_tear_12 ?_
  refine cj_aload_n C dX8_tear_15 rfl 0 rfl ?_
  refine cj_get (v := .ref (ad 5 0)) (j := 0) C (e0_0 (z := z) (ad := ad)) rfl rfl cj_in8 (by decide) rfl cjq_296 rfl dX8_tear_16 ?_
  refine cj_iload_n C dX8_tear_19 rfl 1 rfl ?_
  obtain ⟨x4, s5, h3, hf⟩ := cj_bp_s hf
  refine cj_at 5 ?_
  refine cj_cV1i C cw_X0_tearOut (ct_X0_tearOut hI cj_isC_5 h3) cjq_464 cjq_465 cjq_463 (eC_0 (z := z) (ad := ad) cj_isC_5) rfl rfl ⟨Nat.le_of_ble_eq_true rfl, Nat.le_of_ble_eq_true rfl⟩ (Nat.le_of_ble_eq_true rfl) dX8_tear_20 ?_
  refine cj_ltM hf (fun s6 hf => ?_)
  obtain ⟨x8, s9, h7, hf⟩ := cj_bp_s hf
  refine cj_at 1 ?_
  refine cj_cV1i C cw_X1_settle (ct_X1_settle hI h7) cjq_365 cjq_366 cjq_364 (e1_0 (z := z) (ad := ad)) rfl rfl ⟨Nat.le_of_ble_eq_true rfl, Nat.le_of_ble_eq_true rfl⟩ (Nat.le_of_ble_eq_true rfl) dX8_tear_23 ?_
  refine cj_ltM hf (fun s10 hf => ?_)
  cases hf
  exact cj_iret C rfl dX8_tear_26
set_option maxHeartbeats 4000000 in
set_option maxRecDepth 100000 in
theorem ct_X8_verdict {l : Launch} {D : va_G} {z : cj_Zc} {ad : cj_Ad} (hI : cj_Ij (cj_EL z) ad) {m0 : cj_Mm} {a1 : Int32} {r : Int32} {r2 : cj_Mm} (hf : f_X8_verdict m0 a1 = some (r, r2)) : cj_Ct l (cj_YL D z ad) yX8_verdict cX8_verdict 2 (some .int) 5 [.ref (ad 0 0), .int a1] (m0) (some (.int r)) (r2) := by
  refine cj_Ct.of (by decide +kernel) hI (Nat.le_of_ble_eq_true rfl) [(0, .ref (ad 0 0)), (1, .int a1)] rfl (fun X hX C => ?_)
  subst hX
  have C : cj_C (cj_YL D z ad) X cX8_verdict 2 RX8 5 (some .int) := C
  unfold f_X8_verdict at hf
  generalize hr2 : (r, r2) = r3 at hf
  obtain ⟨e1, e2⟩ : r = r3.1 ∧ r2 = r3.2 := by rw [← hr2]; exact ⟨rfl, rfl⟩
  rw [e1, e2]
  clear e1 e2 hr2
  obtain ⟨r, hr⟩ : ∃ r, r = r3 := ⟨_, rfl⟩
  rw [← hr] at hf ⊢
  clear hr
  refine cj_aload_n C dX8_verdict_0 rfl 0 rfl ?_
  refine cj_get (v := .ref (ad 1 0)) (j := 2) C (e0_0 (z := z) (ad := ad)) rfl rfl cj_in8 (by decide) rfl cjq_298 rfl dX8_verdict_1 ?_
  refine cj_aload_n C dX8_verdict_4 rfl 0 rfl ?_
  refine cj_get (v := .ref (ad 5 0)) (j := 0) C (e0_0 (z := z) (ad := ad)) rfl rfl cj_in8 (by decide) rfl cjq_296 rfl dX8_verdict_5 ?_
  obtain ⟨s2, h1, hf⟩ := cj_bd_s hf
  refine cj_cV1v C cw_X1_prepare (ct_X1_prepare hI h1) cjq_320 cjq_321 cjq_319 (e1_0 (z := z) (ad := ad)) rfl rfl ⟨Nat.le_of_ble_eq_true rfl, Nat.le_of_ble_eq_true rfl⟩ (Nat.le_of_ble_eq_true rfl) dX8_verdict_8 ?_
  refine cj_aload_n C dX8_verdict_11 rfl 0 rfl ?_
  refine cj_get (v := .ref (ad 1 0)) (j := 2) C (e0_0 (z := z) (ad := ad)) rfl rfl cj_in8 (by decide) rfl cjq_298 rfl dX8_verdict_12 ?_
  refine cj_aload_n C dX8_verdict_15 rfl 0 rfl ?_
  refine cj_get (v := .ref (ad 5 0)) (j := 0) C (e0_0 (z := z) (ad := ad)) rfl rfl cj_in8 (by decide) rfl cjq_296 rfl dX8_verdict_16 ?_
  refine cj_iload_n C dX8_verdict_19 rfl 1 rfl ?_
  obtain ⟨x4, s5, h3, hf⟩ := cj_bp_s hf
  refine cj_at 5 ?_
  refine cj_cV1i C cw_X0_tellVerdict (ct_X0_tellVerdict hI cj_isC_5 h3) cjq_476 cjq_477 cjq_475 (eC_0 (z := z) (ad := ad) cj_isC_5) rfl rfl ⟨Nat.le_of_ble_eq_true rfl, Nat.le_of_ble_eq_true rfl⟩ (Nat.le_of_ble_eq_true rfl) dX8_verdict_20 ?_
  refine cj_ltM hf (fun s6 hf => ?_)
  obtain ⟨x8, s9, h7, hf⟩ := cj_bp_s hf
  refine cj_at 1 ?_
  refine cj_cV1i C cw_X1_settle (ct_X1_settle hI h7) cjq_365 cjq_366 cjq_364 (e1_0 (z := z) (ad := ad)) rfl rfl ⟨Nat.le_of_ble_eq_true rfl, Nat.le_of_ble_eq_true rfl⟩ (Nat.le_of_ble_eq_true rfl) dX8_verdict_23 ?_
  refine cj_ltM hf (fun s10 hf => ?_)
  cases hf
  exact cj_iret C rfl dX8_verdict_26
set_option maxHeartbeats 4000000 in
set_option maxRecDepth 100000 in
theorem ct_X8_sell {l : Launch} {D : va_G} {z : cj_Zc} {ad : cj_Ad} (hI : cj_Ij (cj_EL z) ad) {m0 : cj_Mm} {a1 : Int32} {a2 : Int32} {r : Int32} {r2 : cj_Mm} (hf : f_X8_sell m0 a1 a2 = some (r, r2)) : cj_Ct l (cj_YL D z ad) yX8_sell cX8_sell 3 (some .int) 5 [.ref (ad 0 0), .int a1, .int a2] (m0) (some (.int r)) (r2) := by
  refine cj_Ct.of (by decide +kernel) hI (Nat.le_of_ble_eq_true rfl) [(0, .ref (ad 0 0)), (1, .int a1), (2, .int a2)] rfl (fun X hX C => ?_)
  subst hX
  have C : cj_C (cj_YL D z ad) X cX8_sell 3 RX8 5 (some .int) := C
  unfold f_X8_sell at hf
  generalize hr2 : (r, r2) = r3 at hf
  obtain ⟨e1, e2⟩ : r = r3.1 ∧ r2 = r3.2 := by rw [← hr2]; exact ⟨rfl, rfl⟩
  rw [e1, e2]
  clear e1 e2 hr2
  obtain ⟨r, hr⟩ : ∃ r, r = r3 := ⟨_, rfl⟩
  rw [← hr] at hf ⊢
  clear hr
  refine cj_aload_n C dX8_sell_0 rfl 0 rfl ?_
  refine cj_get (v := .ref (ad 1 0)) (j := 2) C (e0_0 (z := z) (ad := ad)) rfl rfl cj_in8 (by decide) rfl cjq_298 rfl dX8_sell_1 ?_
  refine cj_aload_n C dX8_sell_4 rfl 0 rfl ?_
  refine cj_get (v := .ref (ad 5 0)) (j := 0) C (e0_0 (z := z) (ad := ad)) rfl rfl cj_in8 (by decide) rfl cjq_296 rfl dX8_sell_5 ?_
  obtain ⟨s2, h1, hf⟩ := cj_bd_s hf
  refine cj_cV1v C cw_X1_prepare (ct_X1_prepare hI h1) cjq_320 cjq_321 cjq_319 (e1_0 (z := z) (ad := ad)) rfl rfl ⟨Nat.le_of_ble_eq_true rfl, Nat.le_of_ble_eq_true rfl⟩ (Nat.le_of_ble_eq_true rfl) dX8_sell_8 ?_
  refine cj_aload_n C dX8_sell_11 rfl 0 rfl ?_
  refine cj_get (v := .ref (ad 1 0)) (j := 2) C (e0_0 (z := z) (ad := ad)) rfl rfl cj_in8 (by decide) rfl cjq_298 rfl dX8_sell_12 ?_
  refine cj_aload_n C dX8_sell_15 rfl 0 rfl ?_
  refine cj_get (v := .ref (ad 5 0)) (j := 0) C (e0_0 (z := z) (ad := ad)) rfl rfl cj_in8 (by decide) rfl cjq_296 rfl dX8_sell_16 ?_
  refine cj_iload_n C dX8_sell_19 rfl 1 rfl ?_
  refine cj_iload_n C dX8_sell_20 rfl 2 rfl ?_
  obtain ⟨x4, s5, h3, hf⟩ := cj_bp_s hf
  refine cj_at 5 ?_
  refine cj_cV2i C cw_X0_sellSheet (ct_X0_sellSheet hI cj_isC_5 h3) cjq_496 cjq_497 cjq_495 (eC_0 (z := z) (ad := ad) cj_isC_5) rfl rfl ⟨Nat.le_of_ble_eq_true rfl, Nat.le_of_ble_eq_true rfl⟩ (Nat.le_of_ble_eq_true rfl) dX8_sell_21 ?_
  refine cj_ltM hf (fun s6 hf => ?_)
  obtain ⟨x8, s9, h7, hf⟩ := cj_bp_s hf
  refine cj_at 1 ?_
  refine cj_cV1i C cw_X1_settle (ct_X1_settle hI h7) cjq_365 cjq_366 cjq_364 (e1_0 (z := z) (ad := ad)) rfl rfl ⟨Nat.le_of_ble_eq_true rfl, Nat.le_of_ble_eq_true rfl⟩ (Nat.le_of_ble_eq_true rfl) dX8_sell_24 ?_
  refine cj_ltM hf (fun s10 hf => ?_)
  cases hf
  exact cj_iret C rfl dX8_sell_27
set_option maxHeartbeats 4000000 in
set_option maxRecDepth 100000 in
theorem ct_X8_pass {l : Launch} {D : va_G} {z : cj_Zc} {ad : cj_Ad} (hI : cj_Ij (cj_EL z) ad) {m0 : cj_Mm} {a1 : Int32} {r : Int32} {r2 : cj_Mm} (hf : f_X8_pass m0 a1 = some (r, r2)) : cj_Ct l (cj_YL D z ad) yX8_pass cX8_pass 2 (some .int) 5 [.ref (ad 0 0), .int a1] (m0) (some (.int r)) (r2) := by
  refine cj_Ct.of (by decide +kernel) hI (Nat.le_of_ble_eq_true rfl) [(0, .ref (ad 0 0)), (1, .int a1)] rfl (fun X hX C => ?_)
  subst hX
  have C : cj_C (cj_YL D z ad) X cX8_pass 2 RX8 5 (some .int) := C
  unfold f_X8_pass at hf
  generalize hr2 : (r, r2) = r3 at hf
  obtain ⟨e1, e2⟩ : r = r3.1 ∧ r2 = r3.2 := by rw [← hr2]; exact ⟨rfl, rfl⟩
  rw [e1, e2]
  clear e1 e2 hr2
  obtain ⟨r, hr⟩ : ∃ r, r = r3 := ⟨_, rfl⟩
  rw [← hr] at hf ⊢
  clear hr
  refine cj_aload_n C dX8_pass_0 rfl 0 rfl ?_
  refine cj_get (v := .ref (ad 1 0)) (j := 2) C (e0_0 (z := z) (ad := ad)) rfl rfl cj_in8 (by decide) rfl cjq_298 rfl dX8_pass_1 ?_
  refine cj_aload_n C dX8_pass_4 rfl 0 rfl ?_
  refine cj_get (v := .ref (ad 5 0)) (j := 0) C (e0_0 (z := z) (ad := ad)) rfl rfl cj_in8 (by decide) rfl cjq_296 rfl dX8_pass_5 ?_
  obtain ⟨s2, h1, hf⟩ := cj_bd_s hf
  refine cj_cV1v C cw_X1_prepare (ct_X1_prepare hI h1) cjq_320 cjq_321 cjq_319 (e1_0 (z := z) (ad := ad)) rfl rfl ⟨Nat.le_of_ble_eq_true rfl, Nat.le_of_ble_eq_true rfl⟩ (Nat.le_of_ble_eq_true rfl) dX8_pass_8 ?_
  refine cj_aload_n C dX8_pass_11 rfl 0 rfl ?_
  refine cj_get (v := .ref (ad 1 0)) (j := 2) C (e0_0 (z := z) (ad := ad)) rfl rfl cj_in8 (by decide) rfl cjq_298 rfl dX8_pass_12 ?_
  refine cj_aload_n C dX8_pass_15 rfl 0 rfl ?_
  refine cj_get (v := .ref (ad 5 0)) (j := 0) C (e0_0 (z := z) (ad := ad)) rfl rfl cj_in8 (by decide) rfl cjq_296 rfl dX8_pass_16 ?_
  refine cj_iload_n C dX8_pass_19 rfl 1 rfl ?_
  obtain ⟨x4, s5, h3, hf⟩ := cj_bp_s hf
  refine cj_at 5 ?_
  refine cj_cV1i C cw_X0_passMinutes (ct_X0_passMinutes hI cj_isC_5 h3) cjq_537 cjq_538 cjq_536 (eC_0 (z := z) (ad := ad) cj_isC_5) rfl rfl ⟨Nat.le_of_ble_eq_true rfl, Nat.le_of_ble_eq_true rfl⟩ (Nat.le_of_ble_eq_true rfl) dX8_pass_20 ?_
  refine cj_ltM hf (fun s6 hf => ?_)
  obtain ⟨x8, s9, h7, hf⟩ := cj_bp_s hf
  refine cj_at 1 ?_
  refine cj_cV1i C cw_X1_settle (ct_X1_settle hI h7) cjq_365 cjq_366 cjq_364 (e1_0 (z := z) (ad := ad)) rfl rfl ⟨Nat.le_of_ble_eq_true rfl, Nat.le_of_ble_eq_true rfl⟩ (Nat.le_of_ble_eq_true rfl) dX8_pass_23 ?_
  refine cj_ltM hf (fun s10 hf => ?_)
  cases hf
  exact cj_iret C rfl dX8_pass_26
set_option maxHeartbeats 4000000 in
set_option maxRecDepth 100000 in
theorem ct_X8_set {l : Launch} {D : va_G} {z : cj_Zc} {ad : cj_Ad} (hI : cj_Ij (cj_EL z) ad) {m0 : cj_Mm} {a1 : Int32} {a2 : Int32} {r : Int32} {r2 : cj_Mm} (hf : f_X8_set m0 a1 a2 = some (r, r2)) : cj_Ct l (cj_YL D z ad) yX8_set cX8_set 3 (some .int) 5 [.ref (ad 0 0), .int a1, .int a2] (m0) (some (.int r)) (r2) := by
  refine cj_Ct.of (by decide +kernel) hI (Nat.le_of_ble_eq_true rfl) [(0, .ref (ad 0 0)), (1, .int a1), (2, .int a2)] rfl (fun X hX C => ?_)
  subst hX
  have C : cj_C (cj_YL D z ad) X cX8_set 3 RX8 5 (some .int) := C
  unfold f_X8_set at hf
  generalize hr2 : (r, r2) = r3 at hf
  obtain ⟨e1, e2⟩ : r = r3.1 ∧ r2 = r3.2 := by rw [← hr2]; exact ⟨rfl, rfl⟩
  rw [e1, e2]
  clear e1 e2 hr2
  obtain ⟨r, hr⟩ : ∃ r, r = r3 := ⟨_, rfl⟩
  rw [← hr] at hf ⊢
  clear hr
  refine cj_aload_n C dX8_set_0 rfl 0 rfl ?_
  refine cj_get (v := .ref (ad 1 0)) (j := 2) C (e0_0 (z := z) (ad := ad)) rfl rfl cj_in8 (by decide) rfl cjq_298 rfl dX8_set_1 ?_
  refine cj_aload_n C dX8_set_4 rfl 0 rfl ?_
  refine cj_get (v := .ref (ad 5 0)) (j := 0) C (e0_0 (z := z) (ad := ad)) rfl rfl cj_in8 (by decide) rfl cjq_296 rfl dX8_set_5 ?_
  obtain ⟨s2, h1, hf⟩ := cj_bd_s hf
  refine cj_cV1v C cw_X1_prepare (ct_X1_prepare hI h1) cjq_320 cjq_321 cjq_319 (e1_0 (z := z) (ad := ad)) rfl rfl ⟨Nat.le_of_ble_eq_true rfl, Nat.le_of_ble_eq_true rfl⟩ (Nat.le_of_ble_eq_true rfl) dX8_set_8 ?_
  refine cj_aload_n C dX8_set_11 rfl 0 rfl ?_
  refine cj_get (v := .ref (ad 1 0)) (j := 2) C (e0_0 (z := z) (ad := ad)) rfl rfl cj_in8 (by decide) rfl cjq_298 rfl dX8_set_12 ?_
  refine cj_aload_n C dX8_set_15 rfl 0 rfl ?_
  refine cj_get (v := .ref (ad 5 0)) (j := 0) C (e0_0 (z := z) (ad := ad)) rfl rfl cj_in8 (by decide) rfl cjq_296 rfl dX8_set_16 ?_
  refine cj_iload_n C dX8_set_19 rfl 1 rfl ?_
  refine cj_iload_n C dX8_set_20 rfl 2 rfl ?_
  obtain ⟨x4, s5, h3, hf⟩ := cj_bp_s hf
  refine cj_at 5 ?_
  refine cj_cV2i C cw_X0_changeSetting (ct_X0_changeSetting hI cj_isC_5 h3) cjq_559 cjq_560 cjq_558 (eC_0 (z := z) (ad := ad) cj_isC_5) rfl rfl ⟨Nat.le_of_ble_eq_true rfl, Nat.le_of_ble_eq_true rfl⟩ (Nat.le_of_ble_eq_true rfl) dX8_set_21 ?_
  refine cj_ltM hf (fun s6 hf => ?_)
  obtain ⟨x8, s9, h7, hf⟩ := cj_bp_s hf
  refine cj_at 1 ?_
  refine cj_cV1i C cw_X1_settle (ct_X1_settle hI h7) cjq_365 cjq_366 cjq_364 (e1_0 (z := z) (ad := ad)) rfl rfl ⟨Nat.le_of_ble_eq_true rfl, Nat.le_of_ble_eq_true rfl⟩ (Nat.le_of_ble_eq_true rfl) dX8_set_24 ?_
  refine cj_ltM hf (fun s10 hf => ?_)
  cases hf
  exact cj_iret C rfl dX8_set_27
set_option maxHeartbeats 4000000 in
set_option maxRecDepth 100000 in
theorem ct_X8_personOf {l : Launch} {D : va_G} {z : cj_Zc} {ad : cj_Ad} (hI : cj_Ij (cj_EL z) ad) {m0 : cj_Mm} {a1 : Int32} {a2 : Int32} {r : Int32} (hf : f_X8_personOf m0 a1 a2 = some r) : cj_Ct l (cj_YL D z ad) yX8_personOf cX8_personOf 3 (some .int) 3 [.ref (ad 0 0), .int a1, .int a2] (m0) (some (.int r)) (m0) := by
  refine cj_Ct.of (by decide +kernel) hI (Nat.le_of_ble_eq_true rfl) [(0, .ref (ad 0 0)), (1, .int a1), (2, .int a2)] rfl (fun X hX C => ?_)
  subst hX
  have C : cj_C (cj_YL D z ad) X cX8_personOf 3 RX8 3 (some .int) := C
  unfold f_X8_personOf at hf
  refine cj_aload_n C dX8_personOf_0 rfl 0 rfl ?_
  refine cj_get (v := .ref (ad 5 0)) (j := 0) C (e0_0 (z := z) (ad := ad)) rfl rfl cj_in8 (by decide) rfl cjq_296 rfl dX8_personOf_1 ?_
  refine cj_iload_n C dX8_personOf_4 rfl 1 rfl ?_
  refine cj_iload_n C dX8_personOf_5 rfl 2 rfl ?_
  obtain ⟨x2, h1, hf⟩ := cj_bd_s hf
  refine cj_at 5 ?_
  refine cj_cV2i C cw_X0_tellOfPerson (ct_X0_tellOfPerson hI cj_isC_5 h1) cjq_567 cjq_568 cjq_566 (eC_0 (z := z) (ad := ad) cj_isC_5) rfl rfl ⟨Nat.le_of_ble_eq_true rfl, Nat.le_of_ble_eq_true rfl⟩ (Nat.le_of_ble_eq_true rfl) dX8_personOf_6 ?_
  refine cj_ta ?_
  cases hf
  exact cj_iret C rfl dX8_personOf_9
set_option maxHeartbeats 4000000 in
set_option maxRecDepth 100000 in
theorem ct_X8_sheetOf {l : Launch} {D : va_G} {z : cj_Zc} {ad : cj_Ad} (hI : cj_Ij (cj_EL z) ad) {m0 : cj_Mm} {a1 : Int32} {a2 : Int32} {r : Int32} (hf : f_X8_sheetOf m0 a1 a2 = some r) : cj_Ct l (cj_YL D z ad) yX8_sheetOf cX8_sheetOf 3 (some .int) 4 [.ref (ad 0 0), .int a1, .int a2] (m0) (some (.int r)) (m0) := by
  refine cj_Ct.of (by decide +kernel) hI (Nat.le_of_ble_eq_true rfl) [(0, .ref (ad 0 0)), (1, .int a1), (2, .int a2)] rfl (fun X hX C => ?_)
  subst hX
  have C : cj_C (cj_YL D z ad) X cX8_sheetOf 3 RX8 4 (some .int) := C
  unfold f_X8_sheetOf at hf
  refine cj_aload_n C dX8_sheetOf_0 rfl 0 rfl ?_
  refine cj_get (v := .ref (ad 5 0)) (j := 0) C (e0_0 (z := z) (ad := ad)) rfl rfl cj_in8 (by decide) rfl cjq_296 rfl dX8_sheetOf_1 ?_
  refine cj_iload_n C dX8_sheetOf_4 rfl 1 rfl ?_
  refine cj_iload_n C dX8_sheetOf_5 rfl 2 rfl ?_
  obtain ⟨x2, h1, hf⟩ := cj_bd_s hf
  refine cj_at 5 ?_
  refine cj_cV2i C cw_X0_tellOfSheet (ct_X0_tellOfSheet hI cj_isC_5 h1) cjq_575 cjq_576 cjq_574 (eC_0 (z := z) (ad := ad) cj_isC_5) rfl rfl ⟨Nat.le_of_ble_eq_true rfl, Nat.le_of_ble_eq_true rfl⟩ (Nat.le_of_ble_eq_true rfl) dX8_sheetOf_6 ?_
  refine cj_ta ?_
  cases hf
  exact cj_iret C rfl dX8_sheetOf_9
set_option maxHeartbeats 4000000 in
set_option maxRecDepth 100000 in
theorem ct_X8_paperOf {l : Launch} {D : va_G} {z : cj_Zc} {ad : cj_Ad} (hI : cj_Ij (cj_EL z) ad) {m0 : cj_Mm} {a1 : Int32} {a2 : Int32} {r : Int32} (hf : f_X8_paperOf m0 a1 a2 = some r) : cj_Ct l (cj_YL D z ad) yX8_paperOf cX8_paperOf 3 (some .int) 2 [.ref (ad 0 0), .int a1, .int a2] (m0) (some (.int r)) (m0) := by
  refine cj_Ct.of (by decide +kernel) hI (Nat.le_of_ble_eq_true rfl) [(0, .ref (ad 0 0)), (1, .int a1), (2, .int a2)] rfl (fun X hX C => ?_)
  subst hX
  have C : cj_C (cj_YL D z ad) X cX8_paperOf 3 RX8 2 (some .int) := C
  unfold f_X8_paperOf at hf
  refine cj_aload_n C dX8_paperOf_0 rfl 0 rfl ?_
  refine cj_get (v := .ref (ad 5 0)) (j := 0) C (e0_0 (z := z) (ad := ad)) rfl rfl cj_in8 (by decide) rfl cjq_296 rfl dX8_paperOf_1 ?_
  refine cj_iload_n C dX8_paperOf_4 rfl 1 rfl ?_
  refine cj_iload_n C dX8_paperOf_5 rfl 2 rfl ?_
  obtain ⟨x2, h1, hf⟩ := cj_bd_s hf
  refine cj_at 5 ?_
  refine cj_cV2i C cw_X0_tellOfPaper (ct_X0_tellOfPaper hI cj_isC_5 h1) cjq_583 cjq_584 cjq_582 (eC_0 (z := z) (ad := ad) cj_isC_5) rfl rfl ⟨Nat.le_of_ble_eq_true rfl, Nat.le_of_ble_eq_true rfl⟩ (Nat.le_of_ble_eq_true rfl) dX8_paperOf_6 ?_
  refine cj_ta ?_
  cases hf
  exact cj_iret C rfl dX8_paperOf_9
set_option maxHeartbeats 4000000 in
set_option maxRecDepth 100000 in
theorem ct_X8_price {l : Launch} {D : va_G} {z : cj_Zc} {ad : cj_Ad} (hI : cj_Ij (cj_EL z) ad) {m0 : cj_Mm} {a1 : Int32} {a2 : Int32} {r : Int32} (hf : f_X8_price m0 a1 a2 = some r) : cj_Ct l (cj_YL D z ad) yX8_price cX8_price 4 (some .int) 3 [.ref (ad 0 0), .int a1, .int a2] (m0) (some (.int r)) (m0) := by
  refine cj_Ct.of (by decide +kernel) hI (Nat.le_of_ble_eq_true rfl) [(0, .ref (ad 0 0)), (1, .int a1), (2, .int a2)] rfl (fun X hX C => ?_)
  subst hX
  have C : cj_C (cj_YL D z ad) X cX8_price 4 RX8 3 (some .int) := C
  unfold f_X8_price at hf
  refine cj_aload_n C dX8_price_0 rfl 0 rfl ?_
  refine cj_get (v := .ref (ad 5 0)) (j := 0) C (e0_0 (z := z) (ad := ad)) rfl rfl cj_in8 (by decide) rfl cjq_296 rfl dX8_price_1 ?_
  refine cj_get (v := .ref (ad 5 9)) (j := 1) C (eC_0 (z := z) (ad := ad) cj_isC_5) rfl rfl cj_in0 (by decide) rfl cjq_168 rfl dX8_price_4 ?_
  refine cj_iload_n C dX8_price_7 rfl 1 rfl ?_
  obtain ⟨x2, h1, hf⟩ := cj_bd_s hf
  refine cj_at 5 ?_
  refine cj_cV1i C cw_X6_placeOf (ct_X6_placeOf hI cj_isC_5 h1) cjq_432 cjq_433 cjq_590 (eC_9 (z := z) (ad := ad) cj_isC_5) rfl rfl ⟨Nat.le_of_ble_eq_true rfl, Nat.le_of_ble_eq_true rfl⟩ (Nat.le_of_ble_eq_true rfl) dX8_price_8 ?_
  refine cj_ta ?_
  refine cj_istore_n (lv' := [(3, .int x2), (0, .ref (ad 0 0)), (1, .int a1), (2, .int a2)]) C dX8_price_11 rfl (by decide) rfl ?_
  refine cj_iload_n C dX8_price_12 rfl 0 rfl ?_
  refine cj_iconst C (-1) dX8_price_13 rfl ?_
  refine cj_ic_eq C 31 dX8_price_14 rfl hf (fun hf => ?_) (fun hf => ?_)
  · refine cj_ldc C cjq_592 dX8_price_31 ?_
    cases hf
    exact cj_iret C rfl dX8_price_33
  · refine cj_aload_n C dX8_price_17 rfl 1 rfl ?_
    refine cj_get (v := .ref (ad 5 0)) (j := 0) C (e0_0 (z := z) (ad := ad)) rfl rfl cj_in8 (by decide) rfl cjq_296 rfl dX8_price_18 ?_
    refine cj_get (v := .ref (ad 5 14)) (j := 2) C (eC_0 (z := z) (ad := ad) cj_isC_5) rfl rfl cj_in0 (by decide) rfl cjq_170 rfl dX8_price_21 ?_
    refine cj_iload_n C dX8_price_24 rfl 3 rfl ?_
    obtain ⟨x4, h3, hf⟩ := cj_bd_s hf
    refine cj_at 5 ?_
    refine cj_cV1i C cw_X2_has (ct_X2_has hI cj_isC_5 h3) cjq_500 cjq_501 cjq_591 (eC_14 (z := z) (ad := ad) cj_isC_5) rfl rfl ⟨Nat.le_of_ble_eq_true rfl, Nat.le_of_ble_eq_true rfl⟩ (Nat.le_of_ble_eq_true rfl) dX8_price_25 ?_
    refine cj_ta ?_
    refine cj_if_ne C 34 dX8_price_28 rfl hf (fun hf => ?_) (fun hf => ?_)
    · refine cj_aload_n C dX8_price_34 rfl 1 rfl ?_
      refine cj_get (v := .ref (ad 5 0)) (j := 0) C (e0_0 (z := z) (ad := ad)) rfl rfl cj_in8 (by decide) rfl cjq_296 rfl dX8_price_35 ?_
      refine cj_iload_n C dX8_price_38 rfl 0 rfl ?_
      refine cj_iload_n C dX8_price_39 rfl 3 rfl ?_
      obtain ⟨x6, h5, hf⟩ := cj_bd_s hf
      refine cj_at 5 ?_
      refine cj_cV2i C cw_X0_priceAt (ct_X0_priceAt hI cj_isC_5 h5) cjq_520 cjq_521 cjq_593 (eC_0 (z := z) (ad := ad) cj_isC_5) rfl rfl ⟨Nat.le_of_ble_eq_true rfl, Nat.le_of_ble_eq_true rfl⟩ (Nat.le_of_ble_eq_true rfl) dX8_price_40 ?_
      refine cj_ta ?_
      cases hf
      exact cj_iret C rfl dX8_price_43
    · refine cj_ldc C cjq_592 dX8_price_31 ?_
      cases hf
      exact cj_iret C rfl dX8_price_33
set_option maxHeartbeats 4000000 in
set_option maxRecDepth 100000 in
theorem ct_X8_number {l : Launch} {D : va_G} {z : cj_Zc} {ad : cj_Ad} (hI : cj_Ij (cj_EL z) ad) {m0 : cj_Mm} {a1 : Int32} {r : Int32} (hf : f_X8_number m0 a1 = some r) : cj_Ct l (cj_YL D z ad) yX8_number cX8_number 2 (some .int) 0 [.ref (ad 0 0), .int a1] (m0) (some (.int r)) (m0) := by
  refine cj_Ct.of (by decide +kernel) hI (Nat.le_of_ble_eq_true rfl) [(0, .ref (ad 0 0)), (1, .int a1)] rfl (fun X hX C => ?_)
  subst hX
  have C : cj_C (cj_YL D z ad) X cX8_number 2 RX8 0 (some .int) := C
  unfold f_X8_number at hf
  refine cj_iload_n C dX8_number_0 rfl 1 rfl ?_
  refine cj_if_ge C 7 dX8_number_1 rfl hf (fun hf => ?_) (fun hf => ?_)
  · refine cj_iload_n C dX8_number_7 rfl 1 rfl ?_
    refine cj_aload_n C dX8_number_8 rfl 0 rfl ?_
    refine cj_get (v := .ref (ad 5 0)) (j := 0) C (e0_0 (z := z) (ad := ad)) rfl rfl cj_in8 (by decide) rfl cjq_296 rfl dX8_number_9 ?_
    refine cj_get (v := .ref (ad 5 9)) (j := 1) C (eC_0 (z := z) (ad := ad) cj_isC_5) rfl rfl cj_in0 (by decide) rfl cjq_168 rfl dX8_number_12 ?_
    refine cj_get (v := .int (m0 5 9 0)) (j := 0) C (eC_9 (z := z) (ad := ad) cj_isC_5) rfl rfl cj_in6 (by decide) rfl cjq_107 rfl dX8_number_15 ?_
    refine cj_ic_ge C 36 dX8_number_18 rfl hf (fun hf => ?_) (fun hf => ?_)
    · refine cj_ldc C cjq_598 dX8_number_36 ?_
      cases hf
      exact cj_iret C rfl dX8_number_38
    · refine cj_aload_n C dX8_number_21 rfl 0 rfl ?_
      refine cj_get (v := .ref (ad 5 0)) (j := 0) C (e0_0 (z := z) (ad := ad)) rfl rfl cj_in8 (by decide) rfl cjq_296 rfl dX8_number_22 ?_
      refine cj_get (v := .ref (ad 5 9)) (j := 1) C (eC_0 (z := z) (ad := ad) cj_isC_5) rfl rfl cj_in0 (by decide) rfl cjq_168 rfl dX8_number_25 ?_
      refine cj_get (v := .ref (ad 5 10)) (j := 2) C (eC_9 (z := z) (ad := ad) cj_isC_5) rfl rfl cj_in6 (by decide) rfl cjq_112 rfl dX8_number_28 ?_
      refine cj_iload_n C dX8_number_31 rfl 1 rfl ?_
      refine cj_iald C (eC_10 (z := z) (ad := ad) cj_isC_5) dX8_number_32 hf (fun hf => ?_)
      refine cj_goto C 38 dX8_number_33 rfl ?_
      cases hf
      exact cj_iret C rfl dX8_number_38
  · refine cj_ldc C cjq_592 dX8_number_4 ?_
    cases hf
    exact cj_iret C rfl dX8_number_6
set_option maxHeartbeats 4000000 in
set_option maxRecDepth 100000 in
theorem tl_X8_seenIn_L29 {D : va_G} {z : cj_Zc} {ad : cj_Ad} (hI : cj_Ij (cj_EL z) ad) {y5 : Int32} {y6 : Int32} {s8 : cj_Mm} {X : cj_X} (C : cj_C (cj_YL D z ad) X cX8_seenIn 4 RX8 2 (some .int)) {r : Int32} : ∀ (n : Nat) (x7 : Int32), f_X8_seenIn_L29 y5 y6 s8 n x7 = some r → cj_G (cj_YL D z ad) X (some (.int r), s8) (s8) 29 [(0, .ref (ad 0 0)), (1, .int y5), (2, .int y6), (3, .int x7)] [] := by
  intro n
  induction n with
  | zero =>
    intro x7 hf
    rw [f_X8_seenIn_L29] at hf
    cases hf
  | succ n ih =>
    intro x7 hf
    rw [f_X8_seenIn_L29] at hf
    refine cj_iload_n C dX8_seenIn_29 rfl 3 rfl ?_
    refine cj_bipush C 12 dX8_seenIn_30 rfl ?_
    refine cj_ic_ge C 62 dX8_seenIn_32 rfl hf (fun hf => ?_) (fun hf => ?_)
    · refine cj_ldc C cjq_598 dX8_seenIn_62 ?_
      cases hf
      exact cj_iret C rfl dX8_seenIn_64
    · refine cj_aload_n C dX8_seenIn_35 rfl 0 rfl ?_
      refine cj_get (v := .ref (ad 5 0)) (j := 0) C (e0_0 (z := z) (ad := ad)) rfl rfl cj_in8 (by decide) rfl cjq_296 rfl dX8_seenIn_36 ?_
      refine cj_get (v := .ref (ad 5 1)) (j := 0) C (eC_0 (z := z) (ad := ad) cj_isC_5) rfl rfl cj_in0 (by decide) rfl cjq_166 rfl dX8_seenIn_39 ?_
      refine cj_iload_n C dX8_seenIn_42 rfl 1 rfl ?_
      refine cj_iload_n C dX8_seenIn_43 rfl 3 rfl ?_
      obtain ⟨x10, h9, hf⟩ := cj_bd_s hf
      refine cj_at 5 ?_
      refine cj_cV2i C cw_X3_seenAfter (ct_X3_seenAfter hI cj_isC_5 h9) cjq_381 cjq_382 cjq_605 (eC_1 (z := z) (ad := ad) cj_isC_5) rfl rfl ⟨Nat.le_of_ble_eq_true rfl, Nat.le_of_ble_eq_true rfl⟩ (Nat.le_of_ble_eq_true rfl) dX8_seenIn_44 ?_
      refine cj_ta ?_
      refine cj_iload_n C dX8_seenIn_47 rfl 2 rfl ?_
      obtain ⟨x12, h11, hf⟩ := cj_bd_s hf
      refine cj_cS2i C cw_X8_hasBit (ct_X8_hasBit hI h11) cjq_448 cjq_606 ⟨Nat.le_of_ble_eq_true rfl, Nat.le_of_ble_eq_true rfl⟩ (Nat.le_of_ble_eq_true rfl) dX8_seenIn_48 ?_
      refine cj_if_eq C 56 dX8_seenIn_51 rfl hf (fun hf => ?_) (fun hf => ?_)
      · refine cj_iinc (lv' := [(3, .int (x7 + 1)), (0, .ref (ad 0 0)), (1, .int y5), (2, .int y6)]) C dX8_seenIn_56 (j := 3) rfl rfl (by decide) rfl ?_
        refine cj_goto C 29 dX8_seenIn_59 rfl ?_
        refine cj_sub [1, 2, 3, 0] rfl ?_
        exact ih (x7 + 1) hf
      · refine cj_iload_n C dX8_seenIn_54 rfl 3 rfl ?_
        cases hf
        exact cj_iret C rfl dX8_seenIn_55
set_option maxHeartbeats 4000000 in
set_option maxRecDepth 100000 in
theorem ct_X8_seenIn {l : Launch} {D : va_G} {z : cj_Zc} {ad : cj_Ad} (hI : cj_Ij (cj_EL z) ad) {m0 : cj_Mm} {a1 : Int32} {a2 : Int32} {r : Int32} (hf : f_X8_seenIn m0 a1 a2 = some r) : cj_Ct l (cj_YL D z ad) yX8_seenIn cX8_seenIn 4 (some .int) 2 [.ref (ad 0 0), .int a1, .int a2] (m0) (some (.int r)) (m0) := by
  refine cj_Ct.of (by decide +kernel) hI (Nat.le_of_ble_eq_true rfl) [(0, .ref (ad 0 0)), (1, .int a1), (2, .int a2)] rfl (fun X hX C => ?_)
  subst hX
  have C : cj_C (cj_YL D z ad) X cX8_seenIn 4 RX8 2 (some .int) := C
  unfold f_X8_seenIn at hf
  refine cj_aload_n C dX8_seenIn_0 rfl 0 rfl ?_
  refine cj_get (v := .ref (ad 5 0)) (j := 0) C (e0_0 (z := z) (ad := ad)) rfl rfl cj_in8 (by decide) rfl cjq_296 rfl dX8_seenIn_1 ?_
  refine cj_get (v := .ref (ad 5 1)) (j := 0) C (eC_0 (z := z) (ad := ad) cj_isC_5) rfl rfl cj_in0 (by decide) rfl cjq_166 rfl dX8_seenIn_4 ?_
  refine cj_iload_n C dX8_seenIn_7 rfl 1 rfl ?_
  obtain ⟨x2, h1, hf⟩ := cj_bd_s hf
  refine cj_at 5 ?_
  refine cj_cV1i C cw_X3_has (ct_X3_has hI cj_isC_5 h1) cjq_377 cjq_378 cjq_603 (eC_1 (z := z) (ad := ad) cj_isC_5) rfl rfl ⟨Nat.le_of_ble_eq_true rfl, Nat.le_of_ble_eq_true rfl⟩ (Nat.le_of_ble_eq_true rfl) dX8_seenIn_8 ?_
  refine cj_ta ?_
  refine cj_if_eq C 24 dX8_seenIn_11 rfl hf (fun hf => ?_) (fun hf => ?_)
  · refine cj_ldc C cjq_592 dX8_seenIn_24 ?_
    cases hf
    exact cj_iret C rfl dX8_seenIn_26
  · refine cj_iload_n C dX8_seenIn_14 rfl 2 rfl ?_
    refine cj_iconst C 0 dX8_seenIn_15 rfl ?_
    refine cj_bipush C 11 dX8_seenIn_16 rfl ?_
    obtain ⟨x4, h3, hf⟩ := cj_bd_s hf
    refine cj_cS3i C cw_X8_isWithin (ct_X8_isWithin hI h3) cjq_355 cjq_604 ⟨Nat.le_of_ble_eq_true rfl, Nat.le_of_ble_eq_true rfl⟩ (Nat.le_of_ble_eq_true rfl) dX8_seenIn_18 ?_
    refine cj_if_ne C 27 dX8_seenIn_21 rfl hf (fun hf => ?_) (fun hf => ?_)
    · refine cj_iconst C 0 dX8_seenIn_27 rfl ?_
      refine cj_istore_n (lv' := [(3, .int 0), (0, .ref (ad 0 0)), (1, .int a1), (2, .int a2)]) C dX8_seenIn_28 rfl (by decide) rfl ?_
      refine cj_sub [1, 2, 3, 0] rfl ?_
      exact tl_X8_seenIn_L29 hI C cj_FU 0 hf
    · refine cj_ldc C cjq_592 dX8_seenIn_24 ?_
      cases hf
      exact cj_iret C rfl dX8_seenIn_26
set_option maxHeartbeats 4000000 in
set_option maxRecDepth 100000 in
theorem ct_X8_would {l : Launch} {D : va_G} {z : cj_Zc} {ad : cj_Ad} (hI : cj_Ij (cj_EL z) ad) {m0 : cj_Mm} {a1 : Int32} {a2 : Int32} {r : Int32} {r2 : cj_Mm} (hf : f_X8_would m0 a1 a2 = some (r, r2)) : cj_Ct l (cj_YL D z ad) yX8_would cX8_would 3 (some .int) 4 [.ref (ad 0 0), .int a1, .int a2] (m0) (some (.int r)) (r2) := by
  refine cj_Ct.of (by decide +kernel) hI (Nat.le_of_ble_eq_true rfl) [(0, .ref (ad 0 0)), (1, .int a1), (2, .int a2)] rfl (fun X hX C => ?_)
  subst hX
  have C : cj_C (cj_YL D z ad) X cX8_would 3 RX8 4 (some .int) := C
  unfold f_X8_would at hf
  generalize hr2 : (r, r2) = r3 at hf
  obtain ⟨e1, e2⟩ : r = r3.1 ∧ r2 = r3.2 := by rw [← hr2]; exact ⟨rfl, rfl⟩
  rw [e1, e2]
  clear e1 e2 hr2
  obtain ⟨r, hr⟩ : ∃ r, r = r3 := ⟨_, rfl⟩
  rw [← hr] at hf ⊢
  clear hr
  refine cj_aload_n C dX8_would_0 rfl 0 rfl ?_
  refine cj_get (v := .ref (ad 5 0)) (j := 0) C (e0_0 (z := z) (ad := ad)) rfl rfl cj_in8 (by decide) rfl cjq_296 rfl dX8_would_1 ?_
  refine cj_get (v := .ref (ad 5 1)) (j := 0) C (eC_0 (z := z) (ad := ad) cj_isC_5) rfl rfl cj_in0 (by decide) rfl cjq_166 rfl dX8_would_4 ?_
  refine cj_iload_n C dX8_would_7 rfl 1 rfl ?_
  obtain ⟨x2, h1, hf⟩ := cj_bd_s hf
  refine cj_at 5 ?_
  refine cj_cV1i C cw_X3_has (ct_X3_has hI cj_isC_5 h1) cjq_377 cjq_378 cjq_603 (eC_1 (z := z) (ad := ad) cj_isC_5) rfl rfl ⟨Nat.le_of_ble_eq_true rfl, Nat.le_of_ble_eq_true rfl⟩ (Nat.le_of_ble_eq_true rfl) dX8_would_8 ?_
  refine cj_ta ?_
  refine cj_if_eq C 25 dX8_would_11 rfl hf (fun hf => ?_) (fun hf => ?_)
  · refine cj_ldc C cjq_592 dX8_would_25 ?_
    cases hf
    exact cj_iret C rfl dX8_would_27
  · refine cj_iload_n C dX8_would_14 rfl 2 rfl ?_
    refine cj_iconst C 0 dX8_would_15 rfl ?_
    refine cj_sipush C 300 dX8_would_16 rfl ?_
    obtain ⟨x4, h3, hf⟩ := cj_bd_s hf
    refine cj_cS3i C cw_X8_isWithin (ct_X8_isWithin hI h3) cjq_355 cjq_604 ⟨Nat.le_of_ble_eq_true rfl, Nat.le_of_ble_eq_true rfl⟩ (Nat.le_of_ble_eq_true rfl) dX8_would_19 ?_
    refine cj_if_ne C 28 dX8_would_22 rfl hf (fun hf => ?_) (fun hf => ?_)
    · refine cj_aload_n C dX8_would_28 rfl 0 rfl ?_
      refine cj_get (v := .ref (ad 6 0)) (j := 1) C (e0_0 (z := z) (ad := ad)) rfl rfl cj_in8 (by decide) rfl cjq_297 rfl dX8_would_29 ?_
      refine cj_aload_n C dX8_would_32 rfl 0 rfl ?_
      refine cj_get (v := .ref (ad 5 0)) (j := 0) C (e0_0 (z := z) (ad := ad)) rfl rfl cj_in8 (by decide) rfl cjq_296 rfl dX8_would_33 ?_
      obtain ⟨s6, h5, hf⟩ := cj_bd_s hf
      refine cj_cV1v C cw_X0_copyFrom (ct_X0_copyFrom hI cj_isC_6 cj_isC_5 (by omega) h5) cjq_324 cjq_325 cjq_611 (eC_0 (z := z) (ad := ad) cj_isC_6) rfl rfl ⟨Nat.le_of_ble_eq_true rfl, Nat.le_of_ble_eq_true rfl⟩ (Nat.le_of_ble_eq_true rfl) dX8_would_36 ?_
      refine cj_aload_n C dX8_would_39 rfl 0 rfl ?_
      refine cj_get (v := .ref (ad 6 0)) (j := 1) C (e0_0 (z := z) (ad := ad)) rfl rfl cj_in8 (by decide) rfl cjq_297 rfl dX8_would_40 ?_
      refine cj_iload_n C dX8_would_43 rfl 1 rfl ?_
      refine cj_put (j := 6) C (eC_0 (z := z) (ad := ad) cj_isC_6) rfl rfl rfl rfl cj_in0 tyX0_ok nmX0 (by decide) rfl cjq_175 rfl rfl rfl (Nat.le_of_ble_eq_true rfl) dX8_would_44 ?_
      refine cj_ltM hf (fun s7 hf => ?_)
      refine cj_aload_n C dX8_would_47 rfl 0 rfl ?_
      refine cj_get (v := .ref (ad 6 0)) (j := 1) C (e0_0 (z := z) (ad := ad)) rfl rfl cj_in8 (by decide) rfl cjq_297 rfl dX8_would_48 ?_
      refine cj_iload_n C dX8_would_51 rfl 2 rfl ?_
      obtain ⟨s9, h8, hf⟩ := cj_bd_s hf
      refine cj_at 6 ?_
      refine cj_cV1v C cw_X0_advance (ct_X0_advance hI cj_isC_6 h8) cjq_541 cjq_542 cjq_612 (eC_0 (z := z) (ad := ad) cj_isC_6) rfl rfl ⟨Nat.le_of_ble_eq_true rfl, Nat.le_of_ble_eq_true rfl⟩ (Nat.le_of_ble_eq_true rfl) dX8_would_52 ?_
      refine cj_ltM hf (fun s10 hf => ?_)
      refine cj_aload_n C dX8_would_55 rfl 0 rfl ?_
      refine cj_get (v := .ref (ad 6 0)) (j := 1) C (e0_0 (z := z) (ad := ad)) rfl rfl cj_in8 (by decide) rfl cjq_297 rfl dX8_would_56 ?_
      refine cj_iload_n C dX8_would_59 rfl 1 rfl ?_
      obtain ⟨x12, h11, hf⟩ := cj_bd_s hf
      refine cj_at 6 ?_
      refine cj_cV1i C cw_X0_remembered (ct_X0_remembered hI cj_isC_6 h11) cjq_440 cjq_441 cjq_613 (eC_0 (z := z) (ad := ad) cj_isC_6) rfl rfl ⟨Nat.le_of_ble_eq_true rfl, Nat.le_of_ble_eq_true rfl⟩ (Nat.le_of_ble_eq_true rfl) dX8_would_60 ?_
      refine cj_ta ?_
      obtain ⟨x14, h13, hf⟩ := cj_bd_s hf
      refine cj_cS1i C cw_J6_bitCount_0f7a4 (ct_J6_bitCount_0f7a4 hI h13) cjq_454 cjq_614 ⟨Nat.le_of_ble_eq_true rfl, Nat.le_of_ble_eq_true rfl⟩ (Nat.le_of_ble_eq_true rfl) dX8_would_63 ?_
      cases hf
      exact cj_iret C rfl dX8_would_66
    · refine cj_ldc C cjq_592 dX8_would_25 ?_
      cases hf
      exact cj_iret C rfl dX8_would_27
set_option maxHeartbeats 4000000 in
set_option maxRecDepth 100000 in
theorem ct_X8_best {l : Launch} {D : va_G} {z : cj_Zc} {ad : cj_Ad} (hI : cj_Ij (cj_EL z) ad) {m0 : cj_Mm} {a1 : Int32} {r : Int32} {r2 : cj_Mm} (hf : f_X8_best m0 a1 = some (r, r2)) : cj_Ct l (cj_YL D z ad) yX8_best cX8_best 2 (some .int) 4 [.ref (ad 0 0), .int a1] (m0) (some (.int r)) (r2) := by
  refine cj_Ct.of (by decide +kernel) hI (Nat.le_of_ble_eq_true rfl) [(0, .ref (ad 0 0)), (1, .int a1)] rfl (fun X hX C => ?_)
  subst hX
  have C : cj_C (cj_YL D z ad) X cX8_best 2 RX8 4 (some .int) := C
  unfold f_X8_best at hf
  generalize hr2 : (r, r2) = r3 at hf
  obtain ⟨e1, e2⟩ : r = r3.1 ∧ r2 = r3.2 := by rw [← hr2]; exact ⟨rfl, rfl⟩
  rw [e1, e2]
  clear e1 e2 hr2
  obtain ⟨r, hr⟩ : ∃ r, r = r3 := ⟨_, rfl⟩
  rw [← hr] at hf ⊢
  clear hr
  refine cj_iload_n C dX8_best_0 rfl 1 rfl ?_
  refine cj_iconst C 0 dX8_best_1 rfl ?_
  refine cj_iconst C 2 dX8_best_2 rfl ?_
  obtain ⟨x2, h1, hf⟩ := cj_bd_s hf
  refine cj_cS3i C cw_X8_isWithin (ct_X8_isWithin hI h1) cjq_355 cjq_604 ⟨Nat.le_of_ble_eq_true rfl, Nat.le_of_ble_eq_true rfl⟩ (Nat.le_of_ble_eq_true rfl) dX8_best_3 ?_
  refine cj_if_ne C 12 dX8_best_6 rfl hf (fun hf => ?_) (fun hf => ?_)
  · refine cj_aload_n C dX8_best_12 rfl 0 rfl ?_
    refine cj_get (v := .ref (ad 5 0)) (j := 0) C (e0_0 (z := z) (ad := ad)) rfl rfl cj_in8 (by decide) rfl cjq_296 rfl dX8_best_13 ?_
    refine cj_aload_n C dX8_best_16 rfl 0 rfl ?_
    refine cj_get (v := .ref (ad 4 0)) (j := 5) C (e0_0 (z := z) (ad := ad)) rfl rfl cj_in8 (by decide) rfl cjq_301 rfl dX8_best_17 ?_
    obtain ⟨x4, s5, h3, hf⟩ := cj_bp_s hf
    refine cj_cV1i C cw_X0_findBestSale (ct_X0_findBestSale hI cj_isC_5 h3) cjq_620 cjq_621 cjq_619 (eC_0 (z := z) (ad := ad) cj_isC_5) rfl rfl ⟨Nat.le_of_ble_eq_true rfl, Nat.le_of_ble_eq_true rfl⟩ (Nat.le_of_ble_eq_true rfl) dX8_best_20 ?_
    refine cj_if_ne C 29 dX8_best_23 rfl hf (fun hf => ?_) (fun hf => ?_)
    · refine cj_iload_n C dX8_best_29 rfl 1 rfl ?_
      refine cj_by hf (fun e6 hf => ?_) (fun e6 hf => ?_)
      · refine cj_lkI (off := 26) C 56 e6 dX8_best_30 (by decide +kernel) (by decide +kernel) rfl ?_
        refine cj_aload_n C dX8_best_56 rfl 0 rfl ?_
        refine cj_get (v := .ref (ad 4 0)) (j := 5) C (e0_0 (z := z) (ad := ad)) rfl rfl cj_in8 (by decide) rfl cjq_301 rfl dX8_best_57 ?_
        refine cj_get (v := .int (s5 4 0 0)) (j := 0) C (e4_0 (z := z) (ad := ad)) rfl rfl cj_in5 (by decide) rfl cjq_284 rfl dX8_best_60 ?_
        cases hf
        exact cj_iret C rfl dX8_best_63
      refine cj_by hf (fun e7 hf => ?_) (fun e7 hf => ?_)
      · refine cj_lkI (off := 34) C 64 e7 dX8_best_30 (by decide +kernel) (by decide +kernel) rfl ?_
        refine cj_aload_n C dX8_best_64 rfl 0 rfl ?_
        refine cj_get (v := .ref (ad 4 0)) (j := 5) C (e0_0 (z := z) (ad := ad)) rfl rfl cj_in8 (by decide) rfl cjq_301 rfl dX8_best_65 ?_
        refine cj_get (v := .int (s5 4 0 1)) (j := 1) C (e4_0 (z := z) (ad := ad)) rfl rfl cj_in5 (by decide) rfl cjq_286 rfl dX8_best_68 ?_
        cases hf
        exact cj_iret C rfl dX8_best_71
      refine cj_lkD C 72 [0, 1] (List.forall_mem_cons.mpr ⟨e6, List.forall_mem_cons.mpr ⟨e7, fun _ h => absurd h List.not_mem_nil⟩⟩) dX8_best_30 (by decide +kernel) (by decide +kernel) rfl ?_
      refine cj_aload_n C dX8_best_72 rfl 0 rfl ?_
      refine cj_get (v := .ref (ad 4 0)) (j := 5) C (e0_0 (z := z) (ad := ad)) rfl rfl cj_in8 (by decide) rfl cjq_301 rfl dX8_best_73 ?_
      refine cj_get (v := .int (s5 4 0 2)) (j := 2) C (e4_0 (z := z) (ad := ad)) rfl rfl cj_in5 (by decide) rfl cjq_288 rfl dX8_best_76 ?_
      cases hf
      exact cj_iret C rfl dX8_best_79
    · refine cj_ldc C cjq_598 dX8_best_26 ?_
      cases hf
      exact cj_iret C rfl dX8_best_28
  · refine cj_ldc C cjq_592 dX8_best_9 ?_
    cases hf
    exact cj_iret C rfl dX8_best_11
set_option maxHeartbeats 4000000 in
set_option maxRecDepth 100000 in
theorem tl_X8_sellAll_L15 {D : va_G} {z : cj_Zc} {ad : cj_Ad} (hI : cj_Ij (cj_EL z) ad)  {X : cj_X} (C : cj_C (cj_YL D z ad) X cX8_sellAll 3 RX8 4 (some .int)) {r : Int32 × cj_Mm} : ∀ (n : Nat) (x3 : Int32) (x4 : Int32) (s5 : cj_Mm), f_X8_sellAll_L15 n x3 x4 s5 = some r → cj_G (cj_YL D z ad) X (some (.int r.1), r.2) (s5) 15 [(0, .ref (ad 0 0)), (1, .int x3), (2, .int x4)] [] := by
  intro n
  induction n with
  | zero =>
    intro x3 x4 s5 hf
    rw [f_X8_sellAll_L15] at hf
    cases hf
  | succ n ih =>
    intro x3 x4 s5 hf
    rw [f_X8_sellAll_L15] at hf
    refine cj_iload_n C dX8_sellAll_15 rfl 2 rfl ?_
    refine cj_bipush C 10 dX8_sellAll_16 rfl ?_
    refine cj_ic_ge C 65 dX8_sellAll_18 rfl hf (fun hf => ?_) (fun hf => ?_)
    · refine cj_iload_n C dX8_sellAll_65 rfl 1 rfl ?_
      cases hf
      exact cj_iret C rfl dX8_sellAll_66
    · refine cj_aload_n C dX8_sellAll_21 rfl 0 rfl ?_
      refine cj_get (v := .ref (ad 6 0)) (j := 1) C (e0_0 (z := z) (ad := ad)) rfl rfl cj_in8 (by decide) rfl cjq_297 rfl dX8_sellAll_22 ?_
      refine cj_aload_n C dX8_sellAll_25 rfl 0 rfl ?_
      refine cj_get (v := .ref (ad 4 0)) (j := 5) C (e0_0 (z := z) (ad := ad)) rfl rfl cj_in8 (by decide) rfl cjq_301 rfl dX8_sellAll_26 ?_
      obtain ⟨x7, s8, h6, hf⟩ := cj_bp_s hf
      refine cj_cV1i C cw_X0_findBestSale (ct_X0_findBestSale hI cj_isC_6 h6) cjq_620 cjq_621 cjq_619 (eC_0 (z := z) (ad := ad) cj_isC_6) rfl rfl ⟨Nat.le_of_ble_eq_true rfl, Nat.le_of_ble_eq_true rfl⟩ (Nat.le_of_ble_eq_true rfl) dX8_sellAll_29 ?_
      refine cj_if_eq C 65 dX8_sellAll_32 rfl hf (fun hf => ?_) (fun hf => ?_)
      · refine cj_iload_n C dX8_sellAll_65 rfl 1 rfl ?_
        cases hf
        exact cj_iret C rfl dX8_sellAll_66
      · refine cj_iload_n C dX8_sellAll_35 rfl 1 rfl ?_
        refine cj_aload_n C dX8_sellAll_36 rfl 0 rfl ?_
        refine cj_get (v := .ref (ad 6 0)) (j := 1) C (e0_0 (z := z) (ad := ad)) rfl rfl cj_in8 (by decide) rfl cjq_297 rfl dX8_sellAll_37 ?_
        refine cj_aload_n C dX8_sellAll_40 rfl 0 rfl ?_
        refine cj_get (v := .ref (ad 4 0)) (j := 5) C (e0_0 (z := z) (ad := ad)) rfl rfl cj_in8 (by decide) rfl cjq_301 rfl dX8_sellAll_41 ?_
        refine cj_get (v := .int (s8 4 0 0)) (j := 0) C (e4_0 (z := z) (ad := ad)) rfl rfl cj_in5 (by decide) rfl cjq_284 rfl dX8_sellAll_44 ?_
        refine cj_aload_n C dX8_sellAll_47 rfl 0 rfl ?_
        refine cj_get (v := .ref (ad 4 0)) (j := 5) C (e0_0 (z := z) (ad := ad)) rfl rfl cj_in8 (by decide) rfl cjq_301 rfl dX8_sellAll_48 ?_
        refine cj_get (v := .int (s8 4 0 1)) (j := 1) C (e4_0 (z := z) (ad := ad)) rfl rfl cj_in5 (by decide) rfl cjq_286 rfl dX8_sellAll_51 ?_
        obtain ⟨x10, s11, h9, hf⟩ := cj_bp_s hf
        refine cj_at 6 ?_
        refine cj_cV2i C cw_X0_sellSheet (ct_X0_sellSheet hI cj_isC_6 h9) cjq_496 cjq_497 cjq_495 (eC_0 (z := z) (ad := ad) cj_isC_6) rfl rfl ⟨Nat.le_of_ble_eq_true rfl, Nat.le_of_ble_eq_true rfl⟩ (Nat.le_of_ble_eq_true rfl) dX8_sellAll_54 ?_
        refine cj_ltM hf (fun s12 hf => ?_)
        refine cj_iadd C dX8_sellAll_57 ?_
        refine cj_istore_n (lv' := [(1, .int (x3 + x10)), (0, .ref (ad 0 0)), (2, .int x4)]) C dX8_sellAll_58 rfl (by decide) rfl ?_
        refine cj_iinc (lv' := [(2, .int (x4 + 1)), (1, .int (x3 + x10)), (0, .ref (ad 0 0))]) C dX8_sellAll_59 (j := 2) rfl rfl (by decide) rfl ?_
        refine cj_goto C 15 dX8_sellAll_62 rfl ?_
        refine cj_sub [2, 1, 0] rfl ?_
        exact ih (x3 + x10) (x4 + 1) s12 hf
set_option maxHeartbeats 4000000 in
set_option maxRecDepth 100000 in
theorem ct_X8_sellAll {l : Launch} {D : va_G} {z : cj_Zc} {ad : cj_Ad} (hI : cj_Ij (cj_EL z) ad) {m0 : cj_Mm} {r : Int32} {r2 : cj_Mm} (hf : f_X8_sellAll m0 = some (r, r2)) : cj_Ct l (cj_YL D z ad) yX8_sellAll cX8_sellAll 3 (some .int) 4 [.ref (ad 0 0)] (m0) (some (.int r)) (r2) := by
  refine cj_Ct.of (by decide +kernel) hI (Nat.le_of_ble_eq_true rfl) [(0, .ref (ad 0 0))] rfl (fun X hX C => ?_)
  subst hX
  have C : cj_C (cj_YL D z ad) X cX8_sellAll 3 RX8 4 (some .int) := C
  unfold f_X8_sellAll at hf
  generalize hr2 : (r, r2) = r3 at hf
  obtain ⟨e1, e2⟩ : r = r3.1 ∧ r2 = r3.2 := by rw [← hr2]; exact ⟨rfl, rfl⟩
  rw [e1, e2]
  clear e1 e2 hr2
  obtain ⟨r, hr⟩ : ∃ r, r = r3 := ⟨_, rfl⟩
  rw [← hr] at hf ⊢
  clear hr
  refine cj_aload_n C dX8_sellAll_0 rfl 0 rfl ?_
  refine cj_get (v := .ref (ad 6 0)) (j := 1) C (e0_0 (z := z) (ad := ad)) rfl rfl cj_in8 (by decide) rfl cjq_297 rfl dX8_sellAll_1 ?_
  refine cj_aload_n C dX8_sellAll_4 rfl 0 rfl ?_
  refine cj_get (v := .ref (ad 5 0)) (j := 0) C (e0_0 (z := z) (ad := ad)) rfl rfl cj_in8 (by decide) rfl cjq_296 rfl dX8_sellAll_5 ?_
  obtain ⟨s2, h1, hf⟩ := cj_bd_s hf
  refine cj_cV1v C cw_X0_copyFrom (ct_X0_copyFrom hI cj_isC_6 cj_isC_5 (by omega) h1) cjq_324 cjq_325 cjq_611 (eC_0 (z := z) (ad := ad) cj_isC_6) rfl rfl ⟨Nat.le_of_ble_eq_true rfl, Nat.le_of_ble_eq_true rfl⟩ (Nat.le_of_ble_eq_true rfl) dX8_sellAll_8 ?_
  refine cj_iconst C 0 dX8_sellAll_11 rfl ?_
  refine cj_istore_n (lv' := [(1, .int 0), (0, .ref (ad 0 0))]) C dX8_sellAll_12 rfl (by decide) rfl ?_
  refine cj_iconst C 0 dX8_sellAll_13 rfl ?_
  refine cj_istore_n (lv' := [(2, .int 0), (1, .int 0), (0, .ref (ad 0 0))]) C dX8_sellAll_14 rfl (by decide) rfl ?_
  refine cj_sub [2, 1, 0] rfl ?_
  exact tl_X8_sellAll_L15 hI C cj_FU 0 0 s2 hf
set_option maxHeartbeats 4000000 in
set_option maxRecDepth 100000 in
theorem tl_X8_bitsOf_L15 {Y : cj_Y} (hI : cj_Ij Y.1 Y.2.2.2) {μ : cj_Mm}  {X : cj_X} (C : cj_C Y X cX8_bitsOf 4 RX8 0 (some .int)) {r : Int32} {K : UInt32 → Int32 → Option (Int32)} (hK : ∀ (x4 : UInt32) (x5 : Int32), K x4 x5 = some r → cj_G Y X (some (.int r), μ) (μ) 40 [(1, .float x4), (2, .int x5)] []) : ∀ (n : Nat) (x1 : UInt32) (x2 : Int32) (x3 : Int32), f_X8_bitsOf_L15 K n x1 x2 x3 = some r → cj_G Y X (some (.int r), μ) (μ) 15 [(1, .float x1), (2, .int x2), (3, .int x3)] [] := by
  intro n
  induction n with
  | zero =>
    intro x1 x2 x3 hf
    rw [f_X8_bitsOf_L15] at hf
    cases hf
  | succ n ih =>
    intro x1 x2 x3 hf
    rw [f_X8_bitsOf_L15] at hf
    refine cj_iload_n C dX8_bitsOf_15 rfl 2 rfl ?_
    refine cj_bipush C 127 dX8_bitsOf_16 rfl ?_
    refine cj_ic_ge C 40 dX8_bitsOf_18 rfl hf (fun hf => ?_) (fun hf => ?_)
    · refine cj_sub [0, 1] rfl ?_
      exact hK x1 x2 hf
    · refine cj_fload_n C dX8_bitsOf_21 rfl 0 rfl ?_
      refine cj_fconst2 C dX8_bitsOf_22 ?_
      refine cj_fcmp C dX8_bitsOf_23 ?_
      refine cj_if_lt C 40 dX8_bitsOf_24 rfl hf (fun hf => ?_) (fun hf => ?_)
      · refine cj_sub [0, 1] rfl ?_
        exact hK x1 x2 hf
      · refine cj_fload_n C dX8_bitsOf_27 rfl 0 rfl ?_
        refine cj_fconst2 C dX8_bitsOf_28 ?_
        refine cj_fdiv C dX8_bitsOf_29 hf (fun hf => ?_)
        refine cj_ltF hf (fun x6 hf => ?_)
        refine cj_fstore_n (lv' := [(1, .float x6), (2, .int x2), (3, .int x3)]) C dX8_bitsOf_30 rfl (by decide) rfl ?_
        refine cj_iinc (lv' := [(2, .int (x2 + 1)), (1, .float x6), (3, .int x3)]) C dX8_bitsOf_31 (j := 1) rfl rfl (by decide) rfl ?_
        refine cj_iinc (lv' := [(3, .int (x3 + 1)), (2, .int (x2 + 1)), (1, .float x6)]) C dX8_bitsOf_34 (j := 2) rfl rfl (by decide) rfl ?_
        refine cj_goto C 15 dX8_bitsOf_37 rfl ?_
        refine cj_sub [2, 1, 0] rfl ?_
        exact ih x6 (x2 + 1) (x3 + 1) hf
set_option maxHeartbeats 4000000 in
set_option maxRecDepth 100000 in
theorem tl_X8_bitsOf_L42 {Y : cj_Y} (hI : cj_Ij Y.1 Y.2.2.2) {μ : cj_Mm}  {X : cj_X} (C : cj_C Y X cX8_bitsOf 4 RX8 0 (some .int)) {r : Int32} {K : UInt32 → Int32 → Option (Int32)} (hK : ∀ (x12 : UInt32) (x13 : Int32), K x12 x13 = some r → cj_G Y X (some (.int r), μ) (μ) 67 [(1, .float x12), (2, .int x13)] []) : ∀ (n : Nat) (x9 : UInt32) (x10 : Int32) (x11 : Int32), f_X8_bitsOf_L42 K n x9 x10 x11 = some r → cj_G Y X (some (.int r), μ) (μ) 42 [(1, .float x9), (2, .int x10), (3, .int x11)] [] := by
  intro n
  induction n with
  | zero =>
    intro x9 x10 x11 hf
    rw [f_X8_bitsOf_L42] at hf
    cases hf
  | succ n ih =>
    intro x9 x10 x11 hf
    rw [f_X8_bitsOf_L42] at hf
    refine cj_iload_n C dX8_bitsOf_42 rfl 2 rfl ?_
    refine cj_bipush C 126 dX8_bitsOf_43 rfl ?_
    refine cj_ic_ge C 67 dX8_bitsOf_45 rfl hf (fun hf => ?_) (fun hf => ?_)
    · refine cj_sub [0, 1] rfl ?_
      exact hK x9 x10 hf
    · refine cj_fload_n C dX8_bitsOf_48 rfl 0 rfl ?_
      refine cj_fconst1 C dX8_bitsOf_49 ?_
      refine cj_fcmp C dX8_bitsOf_50 ?_
      refine cj_if_ge C 67 dX8_bitsOf_51 rfl hf (fun hf => ?_) (fun hf => ?_)
      · refine cj_sub [0, 1] rfl ?_
        exact hK x9 x10 hf
      · refine cj_fload_n C dX8_bitsOf_54 rfl 0 rfl ?_
        refine cj_fconst2 C dX8_bitsOf_55 ?_
        refine cj_fmul C dX8_bitsOf_56 hf (fun hf => ?_)
        refine cj_ltF hf (fun x14 hf => ?_)
        refine cj_fstore_n (lv' := [(1, .float x14), (2, .int x10), (3, .int x11)]) C dX8_bitsOf_57 rfl (by decide) rfl ?_
        refine cj_iinc (lv' := [(2, .int (x10 + (-1))), (1, .float x14), (3, .int x11)]) C dX8_bitsOf_58 (j := 1) rfl rfl (by decide) rfl ?_
        refine cj_iinc (lv' := [(3, .int (x11 + 1)), (2, .int (x10 + (-1))), (1, .float x14)]) C dX8_bitsOf_61 (j := 2) rfl rfl (by decide) rfl ?_
        refine cj_goto C 42 dX8_bitsOf_64 rfl ?_
        refine cj_sub [2, 1, 0] rfl ?_
        exact ih x14 (x10 + (-1)) (x11 + 1) hf
set_option maxHeartbeats 4000000 in
set_option maxRecDepth 100000 in
theorem ct_X8_bitsOf {l : Launch} {Y : cj_Y} (hI : cj_Ij Y.1 Y.2.2.2) {μ : cj_Mm} {a0 : UInt32} {r : Int32} (hf : f_X8_bitsOf a0 = some r) : cj_Ct l Y yX8_bitsOf cX8_bitsOf 4 (some .int) 0 [.float a0] (μ) (some (.int r)) (μ) := by
  refine cj_Ct.of (by decide +kernel) hI (Nat.le_of_ble_eq_true rfl) [(0, .float a0)] rfl (fun X hX C => ?_)
  subst hX
  have C : cj_C Y X cX8_bitsOf 4 RX8 0 (some .int) := C
  unfold f_X8_bitsOf at hf
  refine cj_fload_n C dX8_bitsOf_0 rfl 0 rfl ?_
  refine cj_fconst0 C dX8_bitsOf_1 ?_
  refine cj_fcmp C dX8_bitsOf_2 ?_
  refine cj_if_gt C 8 dX8_bitsOf_3 rfl hf (fun hf => ?_) (fun hf => ?_)
  · refine cj_fload_n C dX8_bitsOf_8 rfl 0 rfl ?_
    refine cj_fstore_n (lv' := [(1, .float a0), (0, .float a0)]) C dX8_bitsOf_9 rfl (by decide) rfl ?_
    refine cj_bipush C 127 dX8_bitsOf_10 rfl ?_
    refine cj_istore_n (lv' := [(2, .int 127), (1, .float a0), (0, .float a0)]) C dX8_bitsOf_12 rfl (by decide) rfl ?_
    refine cj_iconst C 0 dX8_bitsOf_13 rfl ?_
    refine cj_istore_n (lv' := [(3, .int 0), (2, .int 127), (1, .float a0), (0, .float a0)]) C dX8_bitsOf_14 rfl (by decide) rfl ?_
    refine cj_sub [2, 1, 0] rfl ?_
    refine tl_X8_bitsOf_L15 hI C (fun x7 x8 hf => ?_) cj_FU a0 127 0 hf
    refine cj_iconst C 0 dX8_bitsOf_40 rfl ?_
    refine cj_istore_n (lv' := [(3, .int 0), (1, .float x7), (2, .int x8)]) C dX8_bitsOf_41 rfl (by decide) rfl ?_
    refine cj_sub [1, 2, 0] rfl ?_
    refine tl_X8_bitsOf_L42 hI C (fun x15 x16 hf => ?_) cj_FU x7 x8 0 hf
    refine cj_iload_n C dX8_bitsOf_67 rfl 1 rfl ?_
    refine cj_bipush C 23 dX8_bitsOf_68 rfl ?_
    refine cj_ishl C dX8_bitsOf_70 ?_
    refine cj_fload_n C dX8_bitsOf_71 rfl 0 rfl ?_
    refine cj_fconst1 C dX8_bitsOf_72 ?_
    refine cj_fsub C dX8_bitsOf_73 hf (fun hf => ?_)
    refine cj_ldcf C cjq_634 dX8_bitsOf_74 ?_
    refine cj_fmul C dX8_bitsOf_76 hf (fun hf => ?_)
    refine cj_f2i C dX8_bitsOf_77 ?_
    refine cj_iadd C dX8_bitsOf_78 ?_
    cases hf
    exact cj_iret C rfl dX8_bitsOf_79
  · refine cj_iconst C 0 dX8_bitsOf_6 rfl ?_
    cases hf
    exact cj_iret C rfl dX8_bitsOf_7
set_option maxHeartbeats 4000000 in
set_option maxRecDepth 100000 in
theorem ct_X8_mean {l : Launch} {D : va_G} {z : cj_Zc} {ad : cj_Ad} (hI : cj_Ij (cj_EL z) ad) {m0 : cj_Mm} {r : Int32} (hf : f_X8_mean m0 = some r) : cj_Ct l (cj_YL D z ad) yX8_mean cX8_mean 1 (some .int) 1 [.ref (ad 0 0)] (m0) (some (.int r)) (m0) := by
  refine cj_Ct.of (by decide +kernel) hI (Nat.le_of_ble_eq_true rfl) [(0, .ref (ad 0 0))] rfl (fun X hX C => ?_)
  subst hX
  have C : cj_C (cj_YL D z ad) X cX8_mean 1 RX8 1 (some .int) := C
  unfold f_X8_mean at hf
  refine cj_aload_n C dX8_mean_0 rfl 0 rfl ?_
  refine cj_get (v := .ref (ad 5 0)) (j := 0) C (e0_0 (z := z) (ad := ad)) rfl rfl cj_in8 (by decide) rfl cjq_296 rfl dX8_mean_1 ?_
  refine cj_get (v := .int (m0 5 0 8)) (j := 8) C (eC_0 (z := z) (ad := ad) cj_isC_5) rfl rfl cj_in0 (by decide) rfl cjq_178 rfl dX8_mean_4 ?_
  refine cj_if_gt C 13 dX8_mean_7 rfl hf (fun hf => ?_) (fun hf => ?_)
  · refine cj_aload_n C dX8_mean_13 rfl 0 rfl ?_
    refine cj_get (v := .ref (ad 5 0)) (j := 0) C (e0_0 (z := z) (ad := ad)) rfl rfl cj_in8 (by decide) rfl cjq_296 rfl dX8_mean_14 ?_
    refine cj_get (v := .int (m0 5 0 9)) (j := 9) C (eC_0 (z := z) (ad := ad) cj_isC_5) rfl rfl cj_in0 (by decide) rfl cjq_180 rfl dX8_mean_17 ?_
    refine cj_i2f C dX8_mean_20 ?_
    refine cj_aload_n C dX8_mean_21 rfl 0 rfl ?_
    refine cj_get (v := .ref (ad 5 0)) (j := 0) C (e0_0 (z := z) (ad := ad)) rfl rfl cj_in8 (by decide) rfl cjq_296 rfl dX8_mean_22 ?_
    refine cj_get (v := .int (m0 5 0 8)) (j := 8) C (eC_0 (z := z) (ad := ad) cj_isC_5) rfl rfl cj_in0 (by decide) rfl cjq_178 rfl dX8_mean_25 ?_
    refine cj_i2f C dX8_mean_28 ?_
    refine cj_fdiv C dX8_mean_29 hf (fun hf => ?_)
    obtain ⟨x2, h1, hf⟩ := cj_bd_s hf
    refine cj_cS1i C cw_X8_bitsOf (ct_X8_bitsOf hI h1) cjq_632 cjq_631 ⟨Nat.le_of_ble_eq_true rfl, Nat.le_of_ble_eq_true rfl⟩ (Nat.le_of_ble_eq_true rfl) dX8_mean_30 ?_
    cases hf
    exact cj_iret C rfl dX8_mean_33
  · refine cj_ldc C cjq_598 dX8_mean_10 ?_
    cases hf
    exact cj_iret C rfl dX8_mean_12
set_option maxHeartbeats 4000000 in
set_option maxRecDepth 100000 in
theorem ct_X8_count {l : Launch} {D : va_G} {z : cj_Zc} {ad : cj_Ad} (hI : cj_Ij (cj_EL z) ad) {m0 : cj_Mm} {a1 : Int32} {r : Int32} (hf : f_X8_count m0 a1 = some r) : cj_Ct l (cj_YL D z ad) yX8_count cX8_count 2 (some .int) 2 [.ref (ad 0 0), .int a1] (m0) (some (.int r)) (m0) := by
  refine cj_Ct.of (by decide +kernel) hI (Nat.le_of_ble_eq_true rfl) [(0, .ref (ad 0 0)), (1, .int a1)] rfl (fun X hX C => ?_)
  subst hX
  have C : cj_C (cj_YL D z ad) X cX8_count 2 RX8 2 (some .int) := C
  unfold f_X8_count at hf
  refine cj_iload_n C dX8_count_0 rfl 1 rfl ?_
  refine cj_by hf (fun e1 hf => ?_) (fun e1 hf => ?_)
  · refine cj_lkI (off := 27) C 28 e1 dX8_count_1 (by decide +kernel) (by decide +kernel) rfl ?_
    refine cj_aload_n C dX8_count_28 rfl 0 rfl ?_
    refine cj_get (v := .ref (ad 1 0)) (j := 2) C (e0_0 (z := z) (ad := ad)) rfl rfl cj_in8 (by decide) rfl cjq_298 rfl dX8_count_29 ?_
    refine cj_get (v := .int (m0 1 0 2)) (j := 2) C (e1_0 (z := z) (ad := ad)) rfl rfl cj_in1 (by decide) rfl cjq_214 rfl dX8_count_32 ?_
    cases hf
    exact cj_iret C rfl dX8_count_35
  refine cj_by hf (fun e2 hf => ?_) (fun e2 hf => ?_)
  · refine cj_lkI (off := 35) C 36 e2 dX8_count_1 (by decide +kernel) (by decide +kernel) rfl ?_
    refine cj_aload_n C dX8_count_36 rfl 0 rfl ?_
    refine cj_get (v := .ref (ad 2 0)) (j := 3) C (e0_0 (z := z) (ad := ad)) rfl rfl cj_in8 (by decide) rfl cjq_299 rfl dX8_count_37 ?_
    refine cj_get (v := .int (m0 2 0 1)) (j := 1) C (e2_0 (z := z) (ad := ad)) rfl rfl cj_in7 (by decide) rfl cjq_231 rfl dX8_count_40 ?_
    cases hf
    exact cj_iret C rfl dX8_count_43
  refine cj_lkD C 44 [11, 12] (List.forall_mem_cons.mpr ⟨e1, List.forall_mem_cons.mpr ⟨e2, fun _ h => absurd h List.not_mem_nil⟩⟩) dX8_count_1 (by decide +kernel) (by decide +kernel) rfl ?_
  refine cj_aload_n C dX8_count_44 rfl 0 rfl ?_
  refine cj_get (v := .ref (ad 5 0)) (j := 0) C (e0_0 (z := z) (ad := ad)) rfl rfl cj_in8 (by decide) rfl cjq_296 rfl dX8_count_45 ?_
  refine cj_iload_n C dX8_count_48 rfl 1 rfl ?_
  obtain ⟨x4, h3, hf⟩ := cj_bd_s hf
  refine cj_at 5 ?_
  refine cj_cV1i C cw_X0_tellCount (ct_X0_tellCount hI cj_isC_5 h3) cjq_640 cjq_641 cjq_639 (eC_0 (z := z) (ad := ad) cj_isC_5) rfl rfl ⟨Nat.le_of_ble_eq_true rfl, Nat.le_of_ble_eq_true rfl⟩ (Nat.le_of_ble_eq_true rfl) dX8_count_49 ?_
  refine cj_ta ?_
  cases hf
  exact cj_iret C rfl dX8_count_52
set_option maxHeartbeats 4000000 in
set_option maxRecDepth 100000 in
theorem ct_X8_undo {l : Launch} {D : va_G} {z : cj_Zc} {ad : cj_Ad} (hI : cj_Ij (cj_EL z) ad) {m0 : cj_Mm} {r : Int32} {r2 : cj_Mm} (hf : f_X8_undo m0 = some (r, r2)) : cj_Ct l (cj_YL D z ad) yX8_undo cX8_undo 1 (some .int) 5 [.ref (ad 0 0)] (m0) (some (.int r)) (r2) := by
  refine cj_Ct.of (by decide +kernel) hI (Nat.le_of_ble_eq_true rfl) [(0, .ref (ad 0 0))] rfl (fun X hX C => ?_)
  subst hX
  have C : cj_C (cj_YL D z ad) X cX8_undo 1 RX8 5 (some .int) := C
  unfold f_X8_undo at hf
  generalize hr2 : (r, r2) = r3 at hf
  obtain ⟨e1, e2⟩ : r = r3.1 ∧ r2 = r3.2 := by rw [← hr2]; exact ⟨rfl, rfl⟩
  rw [e1, e2]
  clear e1 e2 hr2
  obtain ⟨r, hr⟩ : ∃ r, r = r3 := ⟨_, rfl⟩
  rw [← hr] at hf ⊢
  clear hr
  refine cj_aload_n C dX8_undo_0 rfl 0 rfl ?_
  refine cj_get (v := .ref (ad 1 0)) (j := 2) C (e0_0 (z := z) (ad := ad)) rfl rfl cj_in8 (by decide) rfl cjq_298 rfl dX8_undo_1 ?_
  refine cj_aload_n C dX8_undo_4 rfl 0 rfl ?_
  refine cj_get (v := .ref (ad 5 0)) (j := 0) C (e0_0 (z := z) (ad := ad)) rfl rfl cj_in8 (by decide) rfl cjq_296 rfl dX8_undo_5 ?_
  obtain ⟨x2, s3, h1, hf⟩ := cj_bp_s hf
  refine cj_cV1i C cw_X1_restore (ct_X1_restore hI h1) cjq_649 cjq_650 cjq_648 (e1_0 (z := z) (ad := ad)) rfl rfl ⟨Nat.le_of_ble_eq_true rfl, Nat.le_of_ble_eq_true rfl⟩ (Nat.le_of_ble_eq_true rfl) dX8_undo_8 ?_
  cases hf
  exact cj_iret C rfl dX8_undo_11
set_option maxHeartbeats 4000000 in
set_option maxRecDepth 100000 in
theorem ct_X8_type {l : Launch} {D : va_G} {z : cj_Zc} {ad : cj_Ad} (hI : cj_Ij (cj_EL z) ad) {m0 : cj_Mm} {a1 : Int32} {r : Int32} {r2 : cj_Mm} (hf : f_X8_type m0 a1 = some (r, r2)) : cj_Ct l (cj_YL D z ad) yX8_type cX8_type 2 (some .int) 2 [.ref (ad 0 0), .int a1] (m0) (some (.int r)) (r2) := by
  refine cj_Ct.of (by decide +kernel) hI (Nat.le_of_ble_eq_true rfl) [(0, .ref (ad 0 0)), (1, .int a1)] rfl (fun X hX C => ?_)
  subst hX
  have C : cj_C (cj_YL D z ad) X cX8_type 2 RX8 2 (some .int) := C
  unfold f_X8_type at hf
  generalize hr2 : (r, r2) = r3 at hf
  obtain ⟨e1, e2⟩ : r = r3.1 ∧ r2 = r3.2 := by rw [← hr2]; exact ⟨rfl, rfl⟩
  rw [e1, e2]
  clear e1 e2 hr2
  obtain ⟨r, hr⟩ : ∃ r, r = r3 := ⟨_, rfl⟩
  rw [← hr] at hf ⊢
  clear hr
  refine cj_aload_n C dX8_type_0 rfl 0 rfl ?_
  refine cj_get (v := .ref (ad 2 0)) (j := 3) C (e0_0 (z := z) (ad := ad)) rfl rfl cj_in8 (by decide) rfl cjq_299 rfl dX8_type_1 ?_
  refine cj_iload_n C dX8_type_4 rfl 1 rfl ?_
  obtain ⟨x2, s3, h1, hf⟩ := cj_bp_s hf
  refine cj_at 2 ?_
  refine cj_cV1i C cw_X7_append (ct_X7_append hI h1) cjq_658 cjq_659 cjq_657 (e2_0 (z := z) (ad := ad)) rfl rfl ⟨Nat.le_of_ble_eq_true rfl, Nat.le_of_ble_eq_true rfl⟩ (Nat.le_of_ble_eq_true rfl) dX8_type_5 ?_
  refine cj_ltM hf (fun s4 hf => ?_)
  cases hf
  exact cj_iret C rfl dX8_type_8
set_option maxHeartbeats 4000000 in
set_option maxRecDepth 100000 in
theorem ct_X8_clearText {l : Launch} {D : va_G} {z : cj_Zc} {ad : cj_Ad} (hI : cj_Ij (cj_EL z) ad) {m0 : cj_Mm} {r : Int32} {r2 : cj_Mm} (hf : f_X8_clearText m0 = some (r, r2)) : cj_Ct l (cj_YL D z ad) yX8_clearText cX8_clearText 2 (some .int) 0 [.ref (ad 0 0)] (m0) (some (.int r)) (r2) := by
  refine cj_Ct.of (by decide +kernel) hI (Nat.le_of_ble_eq_true rfl) [(0, .ref (ad 0 0))] rfl (fun X hX C => ?_)
  subst hX
  have C : cj_C (cj_YL D z ad) X cX8_clearText 2 RX8 0 (some .int) := C
  unfold f_X8_clearText at hf
  generalize hr2 : (r, r2) = r3 at hf
  obtain ⟨e1, e2⟩ : r = r3.1 ∧ r2 = r3.2 := by rw [← hr2]; exact ⟨rfl, rfl⟩
  rw [e1, e2]
  clear e1 e2 hr2
  obtain ⟨r, hr⟩ : ∃ r, r = r3 := ⟨_, rfl⟩
  rw [← hr] at hf ⊢
  clear hr
  refine cj_aload_n C dX8_clearText_0 rfl 0 rfl ?_
  refine cj_get (v := .ref (ad 2 0)) (j := 3) C (e0_0 (z := z) (ad := ad)) rfl rfl cj_in8 (by decide) rfl cjq_299 rfl dX8_clearText_1 ?_
  refine cj_get (v := .int (m0 2 0 1)) (j := 1) C (e2_0 (z := z) (ad := ad)) rfl rfl cj_in7 (by decide) rfl cjq_231 rfl dX8_clearText_4 ?_
  refine cj_istore_n (lv' := [(1, .int (m0 2 0 1)), (0, .ref (ad 0 0))]) C dX8_clearText_7 rfl (by decide) rfl ?_
  refine cj_aload_n C dX8_clearText_8 rfl 1 rfl ?_
  refine cj_get (v := .ref (ad 2 0)) (j := 3) C (e0_0 (z := z) (ad := ad)) rfl rfl cj_in8 (by decide) rfl cjq_299 rfl dX8_clearText_9 ?_
  refine cj_iconst C 0 dX8_clearText_12 rfl ?_
  refine cj_put (j := 1) C (e2_0 (z := z) (ad := ad)) rfl rfl rfl rfl cj_in7 tyX7_ok nmX7 (by decide) rfl cjq_231 rfl rfl rfl (Nat.le_of_ble_eq_true rfl) dX8_clearText_13 ?_
  refine cj_ltM hf (fun s1 hf => ?_)
  refine cj_iload_n C dX8_clearText_16 rfl 0 rfl ?_
  cases hf
  exact cj_iret C rfl dX8_clearText_17
set_option maxHeartbeats 4000000 in
set_option maxRecDepth 100000 in
theorem ct_X8_fault {l : Launch} {D : va_G} {z : cj_Zc} {ad : cj_Ad} (hI : cj_Ij (cj_EL z) ad) {m0 : cj_Mm} {a1 : Int32} {r : Int32} {r2 : cj_Mm} (hf : f_X8_fault m0 a1 = some (r, r2)) : cj_Ct l (cj_YL D z ad) yX8_fault cX8_fault 2 (some .int) 6 [.ref (ad 0 0), .int a1] (m0) (some (.int r)) (r2) := by
  refine cj_Ct.of (by decide +kernel) hI (Nat.le_of_ble_eq_true rfl) [(0, .ref (ad 0 0)), (1, .int a1)] rfl (fun X hX C => ?_)
  subst hX
  have C : cj_C (cj_YL D z ad) X cX8_fault 2 RX8 6 (some .int) := C
  unfold f_X8_fault at hf
  generalize hr2 : (r, r2) = r3 at hf
  obtain ⟨e1, e2⟩ : r = r3.1 ∧ r2 = r3.2 := by rw [← hr2]; exact ⟨rfl, rfl⟩
  rw [e1, e2]
  clear e1 e2 hr2
  obtain ⟨r, hr⟩ : ∃ r, r = r3 := ⟨_, rfl⟩
  rw [← hr] at hf ⊢
  clear hr
  refine cj_iload_n C dX8_fault_0 rfl 1 rfl ?_
  refine cj_iconst C 0 dX8_fault_1 rfl ?_
  refine cj_iconst C 2 dX8_fault_2 rfl ?_
  obtain ⟨x2, h1, hf⟩ := cj_bd_s hf
  refine cj_cS3i C cw_X8_isWithin (ct_X8_isWithin hI h1) cjq_355 cjq_604 ⟨Nat.le_of_ble_eq_true rfl, Nat.le_of_ble_eq_true rfl⟩ (Nat.le_of_ble_eq_true rfl) dX8_fault_3 ?_
  refine cj_if_ne C 12 dX8_fault_6 rfl hf (fun hf => ?_) (fun hf => ?_)
  · refine cj_aload_n C dX8_fault_12 rfl 0 rfl ?_
    refine cj_get (v := .ref (ad 6 0)) (j := 1) C (e0_0 (z := z) (ad := ad)) rfl rfl cj_in8 (by decide) rfl cjq_297 rfl dX8_fault_13 ?_
    refine cj_aload_n C dX8_fault_16 rfl 0 rfl ?_
    refine cj_get (v := .ref (ad 5 0)) (j := 0) C (e0_0 (z := z) (ad := ad)) rfl rfl cj_in8 (by decide) rfl cjq_296 rfl dX8_fault_17 ?_
    obtain ⟨s4, h3, hf⟩ := cj_bd_s hf
    refine cj_cV1v C cw_X0_copyFrom (ct_X0_copyFrom hI cj_isC_6 cj_isC_5 (by omega) h3) cjq_324 cjq_325 cjq_611 (eC_0 (z := z) (ad := ad) cj_isC_6) rfl rfl ⟨Nat.le_of_ble_eq_true rfl, Nat.le_of_ble_eq_true rfl⟩ (Nat.le_of_ble_eq_true rfl) dX8_fault_20 ?_
    refine cj_aload_n C dX8_fault_23 rfl 0 rfl ?_
    refine cj_get (v := .ref (ad 3 0)) (j := 4) C (e0_0 (z := z) (ad := ad)) rfl rfl cj_in8 (by decide) rfl cjq_300 rfl dX8_fault_24 ?_
    refine cj_aload_n C dX8_fault_27 rfl 0 rfl ?_
    refine cj_get (v := .ref (ad 2 0)) (j := 3) C (e0_0 (z := z) (ad := ad)) rfl rfl cj_in8 (by decide) rfl cjq_299 rfl dX8_fault_28 ?_
    refine cj_aload_n C dX8_fault_31 rfl 0 rfl ?_
    refine cj_get (v := .ref (ad 6 0)) (j := 1) C (e0_0 (z := z) (ad := ad)) rfl rfl cj_in8 (by decide) rfl cjq_297 rfl dX8_fault_32 ?_
    obtain ⟨s6, h5, hf⟩ := cj_bd_s hf
    refine cj_cV2v C cw_X4_run (ct_X4_run hI h5) cjq_673 cjq_674 cjq_672 (e3_0 (z := z) (ad := ad)) rfl rfl ⟨Nat.le_of_ble_eq_true rfl, Nat.le_of_ble_eq_true rfl⟩ (Nat.le_of_ble_eq_true rfl) dX8_fault_35 ?_
    refine cj_aload_n C dX8_fault_38 rfl 0 rfl ?_
    refine cj_get (v := .ref (ad 3 0)) (j := 4) C (e0_0 (z := z) (ad := ad)) rfl rfl cj_in8 (by decide) rfl cjq_300 rfl dX8_fault_39 ?_
    refine cj_get (v := .int (s6 3 0 1)) (j := 1) C (e3_0 (z := z) (ad := ad)) rfl rfl cj_in4 (by decide) rfl cjq_263 rfl dX8_fault_42 ?_
    refine cj_iconst C (-1) dX8_fault_45 rfl ?_
    refine cj_ic_ne C 52 dX8_fault_46 rfl hf (fun hf => ?_) (fun hf => ?_)
    · refine cj_iload_n C dX8_fault_52 rfl 1 rfl ?_
      refine cj_by hf (fun e7 hf => ?_) (fun e7 hf => ?_)
      · refine cj_lkI (off := 27) C 80 e7 dX8_fault_53 (by decide +kernel) (by decide +kernel) rfl ?_
        refine cj_aload_n C dX8_fault_80 rfl 0 rfl ?_
        refine cj_get (v := .ref (ad 3 0)) (j := 4) C (e0_0 (z := z) (ad := ad)) rfl rfl cj_in8 (by decide) rfl cjq_300 rfl dX8_fault_81 ?_
        refine cj_get (v := .int (s6 3 0 1)) (j := 1) C (e3_0 (z := z) (ad := ad)) rfl rfl cj_in4 (by decide) rfl cjq_263 rfl dX8_fault_84 ?_
        cases hf
        exact cj_iret C rfl dX8_fault_87
      refine cj_by hf (fun e8 hf => ?_) (fun e8 hf => ?_)
      · refine cj_lkI (off := 35) C 88 e8 dX8_fault_53 (by decide +kernel) (by decide +kernel) rfl ?_
        refine cj_aload_n C dX8_fault_88 rfl 0 rfl ?_
        refine cj_get (v := .ref (ad 3 0)) (j := 4) C (e0_0 (z := z) (ad := ad)) rfl rfl cj_in8 (by decide) rfl cjq_300 rfl dX8_fault_89 ?_
        refine cj_get (v := .int (s6 3 0 2)) (j := 2) C (e3_0 (z := z) (ad := ad)) rfl rfl cj_in4 (by decide) rfl cjq_265 rfl dX8_fault_92 ?_
        cases hf
        exact cj_iret C rfl dX8_fault_95
      refine cj_lkD C 96 [0, 1] (List.forall_mem_cons.mpr ⟨e7, List.forall_mem_cons.mpr ⟨e8, fun _ h => absurd h List.not_mem_nil⟩⟩) dX8_fault_53 (by decide +kernel) (by decide +kernel) rfl ?_
      refine cj_aload_n C dX8_fault_96 rfl 0 rfl ?_
      refine cj_get (v := .ref (ad 3 0)) (j := 4) C (e0_0 (z := z) (ad := ad)) rfl rfl cj_in8 (by decide) rfl cjq_300 rfl dX8_fault_97 ?_
      refine cj_get (v := .int (s6 3 0 3)) (j := 3) C (e3_0 (z := z) (ad := ad)) rfl rfl cj_in4 (by decide) rfl cjq_267 rfl dX8_fault_100 ?_
      cases hf
      exact cj_iret C rfl dX8_fault_103
    · refine cj_ldc C cjq_598 dX8_fault_49 ?_
      cases hf
      exact cj_iret C rfl dX8_fault_51
  · refine cj_ldc C cjq_592 dX8_fault_9 ?_
    cases hf
    exact cj_iret C rfl dX8_fault_11
set_option maxHeartbeats 4000000 in
set_option maxRecDepth 100000 in
theorem ct_X8_play {l : Launch} {D : va_G} {z : cj_Zc} {ad : cj_Ad} (hI : cj_Ij (cj_EL z) ad) {m0 : cj_Mm} {r : Int32} {r2 : cj_Mm} (hf : f_X8_play m0 = some (r, r2)) : cj_Ct l (cj_YL D z ad) yX8_play cX8_play 1 (some .int) 6 [.ref (ad 0 0)] (m0) (some (.int r)) (r2) := by
  refine cj_Ct.of (by decide +kernel) hI (Nat.le_of_ble_eq_true rfl) [(0, .ref (ad 0 0))] rfl (fun X hX C => ?_)
  subst hX
  have C : cj_C (cj_YL D z ad) X cX8_play 1 RX8 6 (some .int) := C
  unfold f_X8_play at hf
  generalize hr2 : (r, r2) = r3 at hf
  obtain ⟨e1, e2⟩ : r = r3.1 ∧ r2 = r3.2 := by rw [← hr2]; exact ⟨rfl, rfl⟩
  rw [e1, e2]
  clear e1 e2 hr2
  obtain ⟨r, hr⟩ : ∃ r, r = r3 := ⟨_, rfl⟩
  rw [← hr] at hf ⊢
  clear hr
  refine cj_aload_n C dX8_play_0 rfl 0 rfl ?_
  refine cj_get (v := .ref (ad 6 0)) (j := 1) C (e0_0 (z := z) (ad := ad)) rfl rfl cj_in8 (by decide) rfl cjq_297 rfl dX8_play_1 ?_
  refine cj_aload_n C dX8_play_4 rfl 0 rfl ?_
  refine cj_get (v := .ref (ad 5 0)) (j := 0) C (e0_0 (z := z) (ad := ad)) rfl rfl cj_in8 (by decide) rfl cjq_296 rfl dX8_play_5 ?_
  obtain ⟨s2, h1, hf⟩ := cj_bd_s hf
  refine cj_cV1v C cw_X0_copyFrom (ct_X0_copyFrom hI cj_isC_6 cj_isC_5 (by omega) h1) cjq_324 cjq_325 cjq_611 (eC_0 (z := z) (ad := ad) cj_isC_6) rfl rfl ⟨Nat.le_of_ble_eq_true rfl, Nat.le_of_ble_eq_true rfl⟩ (Nat.le_of_ble_eq_true rfl) dX8_play_8 ?_
  refine cj_aload_n C dX8_play_11 rfl 0 rfl ?_
  refine cj_get (v := .ref (ad 3 0)) (j := 4) C (e0_0 (z := z) (ad := ad)) rfl rfl cj_in8 (by decide) rfl cjq_300 rfl dX8_play_12 ?_
  refine cj_aload_n C dX8_play_15 rfl 0 rfl ?_
  refine cj_get (v := .ref (ad 2 0)) (j := 3) C (e0_0 (z := z) (ad := ad)) rfl rfl cj_in8 (by decide) rfl cjq_299 rfl dX8_play_16 ?_
  refine cj_aload_n C dX8_play_19 rfl 0 rfl ?_
  refine cj_get (v := .ref (ad 6 0)) (j := 1) C (e0_0 (z := z) (ad := ad)) rfl rfl cj_in8 (by decide) rfl cjq_297 rfl dX8_play_20 ?_
  obtain ⟨s4, h3, hf⟩ := cj_bd_s hf
  refine cj_cV2v C cw_X4_run (ct_X4_run hI h3) cjq_673 cjq_674 cjq_672 (e3_0 (z := z) (ad := ad)) rfl rfl ⟨Nat.le_of_ble_eq_true rfl, Nat.le_of_ble_eq_true rfl⟩ (Nat.le_of_ble_eq_true rfl) dX8_play_23 ?_
  refine cj_aload_n C dX8_play_26 rfl 0 rfl ?_
  refine cj_get (v := .ref (ad 3 0)) (j := 4) C (e0_0 (z := z) (ad := ad)) rfl rfl cj_in8 (by decide) rfl cjq_300 rfl dX8_play_27 ?_
  refine cj_get (v := .int (s4 3 0 1)) (j := 1) C (e3_0 (z := z) (ad := ad)) rfl rfl cj_in4 (by decide) rfl cjq_263 rfl dX8_play_30 ?_
  refine cj_iconst C (-1) dX8_play_33 rfl ?_
  refine cj_ic_eq C 40 dX8_play_34 rfl hf (fun hf => ?_) (fun hf => ?_)
  · refine cj_aload_n C dX8_play_40 rfl 0 rfl ?_
    refine cj_get (v := .ref (ad 1 0)) (j := 2) C (e0_0 (z := z) (ad := ad)) rfl rfl cj_in8 (by decide) rfl cjq_298 rfl dX8_play_41 ?_
    refine cj_aload_n C dX8_play_44 rfl 0 rfl ?_
    refine cj_get (v := .ref (ad 5 0)) (j := 0) C (e0_0 (z := z) (ad := ad)) rfl rfl cj_in8 (by decide) rfl cjq_296 rfl dX8_play_45 ?_
    obtain ⟨s6, h5, hf⟩ := cj_bd_s hf
    refine cj_cV1v C cw_X1_prepare (ct_X1_prepare hI h5) cjq_320 cjq_321 cjq_319 (e1_0 (z := z) (ad := ad)) rfl rfl ⟨Nat.le_of_ble_eq_true rfl, Nat.le_of_ble_eq_true rfl⟩ (Nat.le_of_ble_eq_true rfl) dX8_play_48 ?_
    refine cj_aload_n C dX8_play_51 rfl 0 rfl ?_
    refine cj_get (v := .ref (ad 5 0)) (j := 0) C (e0_0 (z := z) (ad := ad)) rfl rfl cj_in8 (by decide) rfl cjq_296 rfl dX8_play_52 ?_
    refine cj_aload_n C dX8_play_55 rfl 0 rfl ?_
    refine cj_get (v := .ref (ad 6 0)) (j := 1) C (e0_0 (z := z) (ad := ad)) rfl rfl cj_in8 (by decide) rfl cjq_297 rfl dX8_play_56 ?_
    obtain ⟨s8, h7, hf⟩ := cj_bd_s hf
    refine cj_cV1v C cw_X0_copyFrom (ct_X0_copyFrom hI cj_isC_5 cj_isC_6 (by omega) h7) cjq_324 cjq_325 cjq_611 (eC_0 (z := z) (ad := ad) cj_isC_5) rfl rfl ⟨Nat.le_of_ble_eq_true rfl, Nat.le_of_ble_eq_true rfl⟩ (Nat.le_of_ble_eq_true rfl) dX8_play_59 ?_
    refine cj_aload_n C dX8_play_62 rfl 0 rfl ?_
    refine cj_get (v := .ref (ad 1 0)) (j := 2) C (e0_0 (z := z) (ad := ad)) rfl rfl cj_in8 (by decide) rfl cjq_298 rfl dX8_play_63 ?_
    refine cj_aload_n C dX8_play_66 rfl 0 rfl ?_
    refine cj_get (v := .ref (ad 3 0)) (j := 4) C (e0_0 (z := z) (ad := ad)) rfl rfl cj_in8 (by decide) rfl cjq_300 rfl dX8_play_67 ?_
    refine cj_get (v := .int (s8 3 0 0)) (j := 0) C (e3_0 (z := z) (ad := ad)) rfl rfl cj_in4 (by decide) rfl cjq_261 rfl dX8_play_70 ?_
    obtain ⟨x10, s11, h9, hf⟩ := cj_bp_s hf
    refine cj_at 1 ?_
    refine cj_cV1i C cw_X1_settle (ct_X1_settle hI h9) cjq_365 cjq_366 cjq_364 (e1_0 (z := z) (ad := ad)) rfl rfl ⟨Nat.le_of_ble_eq_true rfl, Nat.le_of_ble_eq_true rfl⟩ (Nat.le_of_ble_eq_true rfl) dX8_play_73 ?_
    refine cj_ltM hf (fun s12 hf => ?_)
    cases hf
    exact cj_iret C rfl dX8_play_76
  · refine cj_ldc C cjq_713 dX8_play_37 ?_
    cases hf
    exact cj_iret C rfl dX8_play_39
set_option maxHeartbeats 4000000 in
set_option maxRecDepth 100000 in
theorem ct_X9_in {l : Launch} {Y : cj_Y} (hI : cj_Ij Y.1 Y.2.2.2) {μ : cj_Mm} {a0 : Int32} {a1 : Int32} {a2 : Int32} {r : Int32} (hf : f_X9_in a0 a1 a2 = some r) : cj_Ct l Y yX9_in cX9_in 3 (some .boolean) 0 [.int a0, .int a1, .int a2] (μ) (some (.int r)) (μ) := by
  refine cj_Ct.of (by decide +kernel) hI (Nat.le_of_ble_eq_true rfl) [(0, .int a0), (1, .int a1), (2, .int a2)] rfl (fun X hX C => ?_)
  subst hX
  have C : cj_C Y X cX9_in 3 RX9 0 (some .boolean) := C
  unfold f_X9_in at hf
  refine cj_iload_n C dX9_in_0 rfl 0 rfl ?_
  refine cj_iload_n C dX9_in_1 rfl 1 rfl ?_
  refine cj_ic_lt C 14 dX9_in_2 rfl hf (fun hf => ?_) (fun hf => ?_)
  · refine cj_iconst C 0 dX9_in_14 rfl ?_
    cases hf
    exact cj_zret C rfl rfl rfl dX9_in_15
  · refine cj_iload_n C dX9_in_5 rfl 0 rfl ?_
    refine cj_iload_n C dX9_in_6 rfl 2 rfl ?_
    refine cj_ic_gt C 14 dX9_in_7 rfl hf (fun hf => ?_) (fun hf => ?_)
    · refine cj_iconst C 0 dX9_in_14 rfl ?_
      cases hf
      exact cj_zret C rfl rfl rfl dX9_in_15
    · refine cj_iconst C 1 dX9_in_10 rfl ?_
      refine cj_goto C 15 dX9_in_11 rfl ?_
      cases hf
      exact cj_zret C rfl rfl rfl dX9_in_15
set_option maxHeartbeats 4000000 in
set_option maxRecDepth 100000 in
theorem tl_X9_copies_L2 {D : va_G} {z : cj_Zc} {ad : cj_Ad} (hI : cj_Ij (cj_EM z) ad) {μ : cj_Mm} {kf kt : Nat} (h_kf : cj_EM z ad 0 kf = some (fun f => .inl (z.1, 183, .inl f))) (h_kt : cj_EM z ad 0 kt = some (fun f => .inl (z.1, 183, .inl f)))  {X : cj_X} (C : cj_C (cj_YM D z ad) X cX9_copies 3 RX9 0 none) {r : cj_S} : ∀ (n : Nat) (x1 : Int32) (s2 : cj_S), f_X9_copies_L2 kf kt n x1 s2 = some r → cj_G (cj_YM D z ad) X (none, cj_upG μ 0 r) (cj_upG μ 0 s2) 2 [(0, .ref (ad 0 kf)), (1, .ref (ad 0 kt)), (2, .int x1)] [] := by
  intro n
  induction n with
  | zero =>
    intro x1 s2 hf
    rw [f_X9_copies_L2] at hf
    cases hf
  | succ n ih =>
    intro x1 s2 hf
    rw [f_X9_copies_L2] at hf
    refine cj_iload_n C dX9_copies_2 rfl 2 rfl ?_
    refine cj_sipush C 183 dX9_copies_3 rfl ?_
    refine cj_ic_ge C 21 dX9_copies_6 rfl hf (fun hf => ?_) (fun hf => ?_)
    · cases hf
      exact cj_vret C rfl dX9_copies_21
    · refine cj_aload_n C dX9_copies_9 rfl 1 rfl ?_
      refine cj_iload_n C dX9_copies_10 rfl 2 rfl ?_
      refine cj_aload_n C dX9_copies_11 rfl 0 rfl ?_
      refine cj_iload_n C dX9_copies_12 rfl 2 rfl ?_
      refine cj_ialdS C h_kf dX9_copies_13 hf (fun hf => ?_)
      refine cj_iastS C h_kt dX9_copies_14 hf (fun hf => ?_)
      refine cj_ltS hf (fun s3 hf => ?_)
      refine cj_iinc (lv' := [(2, .int (x1 + 1)), (0, .ref (ad 0 kf)), (1, .ref (ad 0 kt))]) C dX9_copies_15 (j := 2) rfl rfl (by decide) rfl ?_
      refine cj_goto C 2 dX9_copies_18 rfl ?_
      refine cj_sub [1, 2, 0] rfl ?_
      exact ih (x1 + 1) s3 hf
set_option maxHeartbeats 4000000 in
set_option maxRecDepth 100000 in
theorem ct_X9_copies {l : Launch} {D : va_G} {z : cj_Zc} {ad : cj_Ad} (hI : cj_Ij (cj_EM z) ad) {μ : cj_Mm} {kf kt : Nat} (h_kf : cj_EM z ad 0 kf = some (fun f => .inl (z.1, 183, .inl f))) (h_kt : cj_EM z ad 0 kt = some (fun f => .inl (z.1, 183, .inl f))) {s0 : cj_S} {r : cj_S} (hf : f_X9_copies kf kt s0 = some r) : cj_Ct l (cj_YM D z ad) yX9_copies cX9_copies 3 none 0 [.ref (ad 0 kf), .ref (ad 0 kt)] (cj_upG μ 0 s0) none (cj_upG μ 0 r) := by
  refine cj_Ct.of (by decide +kernel) hI (Nat.le_of_ble_eq_true rfl) [(0, .ref (ad 0 kf)), (1, .ref (ad 0 kt))] rfl (fun X hX C => ?_)
  subst hX
  have C : cj_C (cj_YM D z ad) X cX9_copies 3 RX9 0 none := C
  unfold f_X9_copies at hf
  refine cj_iconst C 0 dX9_copies_0 rfl ?_
  refine cj_istore_n (lv' := [(2, .int 0), (0, .ref (ad 0 kf)), (1, .ref (ad 0 kt))]) C dX9_copies_1 rfl (by decide) rfl ?_
  refine cj_sub [1, 2, 0] rfl ?_
  exact tl_X9_copies_L2 hI h_kf h_kt C cj_FU 0 s0 hf
set_option maxHeartbeats 4000000 in
set_option maxRecDepth 100000 in
theorem tl_X9_changes_L59 {D : va_G} {z : cj_Zc} {ad : cj_Ad} (hI : cj_Ij (cj_EM z) ad) {μ : cj_Mm}  {X : cj_X} (C : cj_C (cj_YM D z ad) X cX9_changes 2 RX9 0 none) {r : cj_S} {K : cj_S → Option (cj_S)} (hK : ∀ (s5 : cj_S), K s5 = some r → cj_G (cj_YM D z ad) X (none, cj_upG μ 0 r) (cj_upG μ 0 s5) 93 [(0, .ref (ad 0 0))] []) : ∀ (n : Nat) (x3 : Int32) (s4 : cj_S), f_X9_changes_L59 K n x3 s4 = some r → cj_G (cj_YM D z ad) X (none, cj_upG μ 0 r) (cj_upG μ 0 s4) 59 [(0, .ref (ad 0 0)), (1, .int x3)] [] := by
  intro n
  induction n with
  | zero =>
    intro x3 s4 hf
    rw [f_X9_changes_L59] at hf
    cases hf
  | succ n ih =>
    intro x3 s4 hf
    rw [f_X9_changes_L59] at hf
    refine cj_iload_n C dX9_changes_59 rfl 1 rfl ?_
    refine cj_sipush C 183 dX9_changes_60 rfl ?_
    refine cj_ic_ge C 93 dX9_changes_63 rfl hf (fun hf => ?_) (fun hf => ?_)
    · refine cj_sub [0] rfl ?_
      exact hK s4 hf
    · refine cj_aload_n C dX9_changes_66 rfl 0 rfl ?_
      refine cj_getS (v := .ref (ad 0 2)) (j := 1) C (eM_0 (z := z) (ad := ad)) rfl rfl cj_in9 (by decide) rfl cjq_721 rfl dX9_changes_67 ?_
      refine cj_sipush C 183 dX9_changes_70 rfl ?_
      refine cj_aload_n C dX9_changes_73 rfl 0 rfl ?_
      refine cj_getS (v := .int (s4 0 4)) (j := 4) C (eM_0 (z := z) (ad := ad)) rfl rfl cj_in9 (by decide) rfl cjq_724 rfl dX9_changes_74 ?_
      refine cj_imul C dX9_changes_77 ?_
      refine cj_iload_n C dX9_changes_78 rfl 1 rfl ?_
      refine cj_iadd C dX9_changes_79 ?_
      refine cj_aload_n C dX9_changes_80 rfl 0 rfl ?_
      refine cj_getS (v := .ref (ad 0 1)) (j := 0) C (eM_0 (z := z) (ad := ad)) rfl rfl cj_in9 (by decide) rfl cjq_720 rfl dX9_changes_81 ?_
      refine cj_iload_n C dX9_changes_84 rfl 1 rfl ?_
      refine cj_ialdS C (eM_1 (z := z) (ad := ad)) dX9_changes_85 hf (fun hf => ?_)
      refine cj_iastS C (eM_2 (z := z) (ad := ad)) dX9_changes_86 hf (fun hf => ?_)
      refine cj_ltS hf (fun s6 hf => ?_)
      refine cj_iinc (lv' := [(1, .int (x3 + 1)), (0, .ref (ad 0 0))]) C dX9_changes_87 (j := 1) rfl rfl (by decide) rfl ?_
      refine cj_goto C 59 dX9_changes_90 rfl ?_
      refine cj_sub [1, 0] rfl ?_
      exact ih (x3 + 1) s6 hf
set_option maxHeartbeats 4000000 in
set_option maxRecDepth 100000 in
theorem tl_X9_changes_L18 {D : va_G} {z : cj_Zc} {ad : cj_Ad} (hI : cj_Ij (cj_EM z) ad) {μ : cj_Mm}  {X : cj_X} (C : cj_C (cj_YM D z ad) X cX9_changes 2 RX9 0 none) {r : cj_S} {K : cj_S → Option (cj_S)} (hK : ∀ (s11 : cj_S), K s11 = some r → cj_G (cj_YM D z ad) X (none, cj_upG μ 0 r) (cj_upG μ 0 s11) 47 [(0, .ref (ad 0 0))] []) : ∀ (n : Nat) (x9 : Int32) (s10 : cj_S), f_X9_changes_L18 K n x9 s10 = some r → cj_G (cj_YM D z ad) X (none, cj_upG μ 0 r) (cj_upG μ 0 s10) 18 [(0, .ref (ad 0 0)), (1, .int x9)] [] := by
  intro n
  induction n with
  | zero =>
    intro x9 s10 hf
    rw [f_X9_changes_L18] at hf
    cases hf
  | succ n ih =>
    intro x9 s10 hf
    rw [f_X9_changes_L18] at hf
    refine cj_iload_n C dX9_changes_18 rfl 1 rfl ?_
    refine cj_sipush C 549 dX9_changes_19 rfl ?_
    refine cj_ic_ge C 47 dX9_changes_22 rfl hf (fun hf => ?_) (fun hf => ?_)
    · refine cj_sub [0] rfl ?_
      exact hK s10 hf
    · refine cj_aload_n C dX9_changes_25 rfl 0 rfl ?_
      refine cj_getS (v := .ref (ad 0 2)) (j := 1) C (eM_0 (z := z) (ad := ad)) rfl rfl cj_in9 (by decide) rfl cjq_721 rfl dX9_changes_26 ?_
      refine cj_iload_n C dX9_changes_29 rfl 1 rfl ?_
      refine cj_aload_n C dX9_changes_30 rfl 0 rfl ?_
      refine cj_getS (v := .ref (ad 0 2)) (j := 1) C (eM_0 (z := z) (ad := ad)) rfl rfl cj_in9 (by decide) rfl cjq_721 rfl dX9_changes_31 ?_
      refine cj_iload_n C dX9_changes_34 rfl 1 rfl ?_
      refine cj_sipush C 183 dX9_changes_35 rfl ?_
      refine cj_iadd C dX9_changes_38 ?_
      refine cj_ialdS C (eM_2 (z := z) (ad := ad)) dX9_changes_39 hf (fun hf => ?_)
      refine cj_iastS C (eM_2 (z := z) (ad := ad)) dX9_changes_40 hf (fun hf => ?_)
      refine cj_ltS hf (fun s12 hf => ?_)
      refine cj_iinc (lv' := [(1, .int (x9 + 1)), (0, .ref (ad 0 0))]) C dX9_changes_41 (j := 1) rfl rfl (by decide) rfl ?_
      refine cj_goto C 18 dX9_changes_44 rfl ?_
      refine cj_sub [1, 0] rfl ?_
      exact ih (x9 + 1) s12 hf
set_option maxHeartbeats 4000000 in
set_option maxRecDepth 100000 in
theorem ct_X9_changes {l : Launch} {D : va_G} {z : cj_Zc} {ad : cj_Ad} (hI : cj_Ij (cj_EM z) ad) {μ : cj_Mm} {s0 : cj_S} {r : cj_S} (hf : f_X9_changes s0 = some r) : cj_Ct l (cj_YM D z ad) yX9_changes cX9_changes 2 none 0 [.ref (ad 0 0)] (cj_upG μ 0 s0) none (cj_upG μ 0 r) := by
  refine cj_Ct.of (by decide +kernel) hI (Nat.le_of_ble_eq_true rfl) [(0, .ref (ad 0 0))] rfl (fun X hX C => ?_)
  subst hX
  have C : cj_C (cj_YM D z ad) X cX9_changes 2 RX9 0 none := C
  unfold f_X9_changes at hf
  refine cj_aload_n C dX9_changes_0 rfl 0 rfl ?_
  refine cj_getS (v := .int (s0 0 5)) (j := 5) C (eM_0 (z := z) (ad := ad)) rfl rfl cj_in9 (by decide) rfl cjq_725 rfl dX9_changes_1 ?_
  refine cj_if_eq C 8 dX9_changes_4 rfl hf (fun hf => ?_) (fun hf => ?_)
  · refine cj_aload_n C dX9_changes_8 rfl 0 rfl ?_
    refine cj_getS (v := .int (s0 0 4)) (j := 4) C (eM_0 (z := z) (ad := ad)) rfl rfl cj_in9 (by decide) rfl cjq_724 rfl dX9_changes_9 ?_
    refine cj_iconst C 4 dX9_changes_12 rfl ?_
    refine cj_jn (Hyp := fun K1 => ∀ (s2 : cj_S), K1 s2 = some r → cj_G (cj_YM D z ad) X (none, cj_upG μ 0 r) (cj_upG μ 0 s2) 57 [(0, .ref (ad 0 0))] []) hf (fun s2 hf => ?_) (fun K1 hK1 hf => ?_)
    · refine cj_iconst C 0 dX9_changes_57 rfl ?_
      refine cj_istore_n (lv' := [(1, .int 0), (0, .ref (ad 0 0))]) C dX9_changes_58 rfl (by decide) rfl ?_
      refine cj_sub [1, 0] rfl ?_
      refine tl_X9_changes_L59 hI C (fun s7 hf => ?_) cj_FU 0 s2 hf
      refine cj_aload_n C dX9_changes_93 rfl 0 rfl ?_
      refine cj_dup C dX9_changes_94 rfl ?_
      refine cj_getS (v := .int (s7 0 4)) (j := 4) C (eM_0 (z := z) (ad := ad)) rfl rfl cj_in9 (by decide) rfl cjq_724 rfl dX9_changes_95 ?_
      refine cj_iconst C 1 dX9_changes_98 rfl ?_
      refine cj_iadd C dX9_changes_99 ?_
      refine cj_putS (j := 4) C (eM_0 (z := z) (ad := ad)) rfl rfl rfl rfl cj_in9 tyX9_ok nmX9 (by decide) rfl cjq_724 rfl rfl rfl (Nat.le_of_ble_eq_true rfl) dX9_changes_100 ?_
      refine cj_ltS hf (fun s8 hf => ?_)
      cases hf
      exact cj_vret C rfl dX9_changes_103
    · refine cj_ic_ne C 57 dX9_changes_13 rfl hf (fun hf => ?_) (fun hf => ?_)
      · exact hK1 s0 hf
      · refine cj_iconst C 0 dX9_changes_16 rfl ?_
        refine cj_istore_n (lv' := [(1, .int 0), (0, .ref (ad 0 0))]) C dX9_changes_17 rfl (by decide) rfl ?_
        refine cj_sub [1, 0] rfl ?_
        refine tl_X9_changes_L18 hI C (fun s13 hf => ?_) cj_FU 0 s0 hf
        refine cj_aload_n C dX9_changes_47 rfl 0 rfl ?_
        refine cj_dup C dX9_changes_48 rfl ?_
        refine cj_getS (v := .int (s13 0 4)) (j := 4) C (eM_0 (z := z) (ad := ad)) rfl rfl cj_in9 (by decide) rfl cjq_724 rfl dX9_changes_49 ?_
        refine cj_iconst C 1 dX9_changes_52 rfl ?_
        refine cj_isub C dX9_changes_53 ?_
        refine cj_putS (j := 4) C (eM_0 (z := z) (ad := ad)) rfl rfl rfl rfl cj_in9 tyX9_ok nmX9 (by decide) rfl cjq_724 rfl rfl rfl (Nat.le_of_ble_eq_true rfl) dX9_changes_54 ?_
        refine cj_ltS hf (fun s14 hf => ?_)
        exact hK1 s14 hf
  · cases hf
    exact cj_vret C rfl dX9_changes_7
