set_option maxHeartbeats 4000000 in
set_option maxRecDepth 100000 in
theorem ct_J9_min_7cf53 {l : Launch} {Y : cj_Y} (hI : cj_Ij Y.1 Y.2.2.2) {μ : cj_Mm} {a0 : Int32} {a1 : Int32} {r : Int32} (hf : f_J9_min_7cf53 a0 a1 = some r) : cj_Ct l Y yJ9_min_7cf53 cJ9_min_7cf53 2 (some .int) 0 [.int a0, .int a1] (μ) (some (.int r)) (μ) := by
  refine cj_Ct.ofF (by decide +kernel) hI (Nat.le_of_ble_eq_true rfl) [(0, .int a0), (1, .int a1)] rfl (fun X hX C => ?_)
  subst hX
  have C : cj_C Y X cJ9_min_7cf53 2 RJ9 0 (some .int) := C
  unfold f_J9_min_7cf53 at hf
  refine cj_iload_n C dJ9_min_7cf53_0 rfl 0 rfl ?_
  refine cj_iload_n C dJ9_min_7cf53_1 rfl 1 rfl ?_
  refine cj_ic_gt C 9 dJ9_min_7cf53_2 rfl hf (fun hf => ?_) (fun hf => ?_)
  · refine cj_iload_n C dJ9_min_7cf53_9 rfl 1 rfl ?_
    cases hf
    exact cj_iret C rfl dJ9_min_7cf53_10
  · refine cj_iload_n C dJ9_min_7cf53_5 rfl 0 rfl ?_
    refine cj_goto C 10 dJ9_min_7cf53_6 rfl ?_
    cases hf
    exact cj_iret C rfl dJ9_min_7cf53_10
set_option maxHeartbeats 4000000 in
set_option maxRecDepth 100000 in
theorem ct_X8_copyRow {l : Launch} {D : va_G} {z : cj_Zc} {ad : cj_Ad} (hI : cj_Ij (cj_EL z) ad) {m0 : cj_Mm} {g1 k1 g2 k2 n : Nat} (h1 : cj_EL z ad g1 k1 = some (fun f => .inl (z.1, n, .inl f))) (h2 : cj_EL z ad g2 k2 = some (fun f => .inl (z.1, n, .inl f))) (hn : n ≤ 1000) : cj_Ct l (cj_YL D z ad) yX8_copyRow cX8_copyRow 2 none 1 [.ref (ad g1 k1), .ref (ad g2 k2)] m0 none (cj_upG m0 g2 (cj_upr (m0 g2) k2 (va_cpy (m0 g1 k1) (m0 g2 k2) 0 0 n))) := by
  refine cj_Ct.of (by decide +kernel) hI (Nat.le_of_ble_eq_true rfl) [(0, .ref (ad g1 k1)), (1, .ref (ad g2 k2))] rfl (fun X hX C => ?_)
  subst hX
  have C : cj_C (cj_YL D z ad) X cX8_copyRow 2 RX8 1 none := C
  refine cj_aload_n C dX8_copyRow_0 rfl 0 rfl ?_
  refine cj_iconst C 0 dX8_copyRow_1 rfl ?_
  refine cj_aload_n C dX8_copyRow_2 rfl 1 rfl ?_
  refine cj_iconst C 0 dX8_copyRow_3 rfl ?_
  refine cj_aload_n C dX8_copyRow_4 rfl 0 rfl ?_
  refine cj_alen C h1 rfl dX8_copyRow_5 ?_
  refine cj_aload_n C dX8_copyRow_6 rfl 1 rfl ?_
  refine cj_alen C h2 rfl dX8_copyRow_7 ?_
  have hm : f_J9_min_7cf53 (Int32.ofNat n) (Int32.ofNat n) = some (Int32.ofNat n) := by
    unfold f_J9_min_7cf53
    by_cases h : Int32.ofNat n < Int32.ofNat n
    · first | rw [if_pos h] | rfl
    · first | rw [if_neg h] | rfl
  refine cj_cS2i C cw_J9_min_7cf53 (ct_J9_min_7cf53 hI hm) cjq_335 cjq_334 ⟨Nat.le_of_ble_eq_true rfl, Nat.le_of_ble_eq_true rfl⟩ (Nat.le_of_ble_eq_true rfl) dX8_copyRow_8 ?_
  refine cj_acopy C (n := n) h1 h2 (nI_toInt (by omega)) cjq_337 cjq_339 cjq_338 cjq_43 (by decide) dX8_copyRow_11 ?_
  exact cj_vret C rfl dX8_copyRow_14
set_option maxHeartbeats 4000000 in
set_option maxRecDepth 100000 in
theorem ct_X3_copyFrom {l : Launch} {D : va_G} {z : cj_Zc} {ad : cj_Ad} (hI : cj_Ij (cj_EL z) ad) {gd gs : Nat} (hgd : cj_isC gd) (hgs : cj_isC gs) (hne : ¬ gd = gs) {m0 : cj_Mm} {r : cj_Mm} (hf : f_X3_copyFrom gd gs m0 = some r) : cj_Ct l (cj_YL D z ad) yX3_copyFrom cX3_copyFrom 2 none 2 [.ref (ad gd 1), .ref (ad gs 1)] (m0) none (r) := by
  refine cj_Ct.of (by decide +kernel) hI (Nat.le_of_ble_eq_true rfl) [(0, .ref (ad gd 1)), (1, .ref (ad gs 1))] rfl (fun X hX C => ?_)
  subst hX
  have C : cj_C (cj_YL D z ad) X cX3_copyFrom 2 RX3 2 none := C
  unfold f_X3_copyFrom at hf
  refine cj_aload_n C dX3_copyFrom_0 rfl 0 rfl ?_
  refine cj_aload_n C dX3_copyFrom_1 rfl 1 rfl ?_
  refine cj_get (v := .int (m0 gs 1 0)) (j := 0) C (eC_1 (z := z) (ad := ad) hgs) rfl rfl cj_in3 (by decide) rfl cjq_66 rfl dX3_copyFrom_2 ?_
  refine cj_put (j := 0) C (eC_1 (z := z) (ad := ad) hgd) rfl rfl rfl rfl cj_in3 tyX3_ok nmX3 (by decide) rfl cjq_66 rfl rfl rfl (Nat.le_of_ble_eq_true rfl) dX3_copyFrom_5 ?_
  refine cj_ltM hf (fun s1 hf => ?_)
  refine cj_aload_n C dX3_copyFrom_8 rfl 1 rfl ?_
  refine cj_get (v := .ref (ad gs 2)) (j := 1) C (eC_1 (z := z) (ad := ad) hgs) rfl rfl cj_in3 (by decide) rfl cjq_68 rfl dX3_copyFrom_9 ?_
  refine cj_aload_n C dX3_copyFrom_12 rfl 0 rfl ?_
  refine cj_get (v := .ref (ad gd 2)) (j := 1) C (eC_1 (z := z) (ad := ad) hgd) rfl rfl cj_in3 (by decide) rfl cjq_68 rfl dX3_copyFrom_13 ?_
  refine cj_cN2v C cw_X8_copyRow (ct_X8_copyRow hI (eC_2 (z := z) (ad := ad) hgs) (eC_2 (z := z) (ad := ad) hgd) (by decide)) cjq_332 cjn_X3_37 ⟨Nat.le_of_ble_eq_true rfl, Nat.le_of_ble_eq_true rfl⟩ (Nat.le_of_ble_eq_true rfl) dX3_copyFrom_16 ?_
  refine cj_ltM hf (fun s3 hf => ?_)
  refine cj_aload_n C dX3_copyFrom_19 rfl 1 rfl ?_
  refine cj_get (v := .ref (ad gs 3)) (j := 2) C (eC_1 (z := z) (ad := ad) hgs) rfl rfl cj_in3 (by decide) rfl cjq_70 rfl dX3_copyFrom_20 ?_
  refine cj_aload_n C dX3_copyFrom_23 rfl 0 rfl ?_
  refine cj_get (v := .ref (ad gd 3)) (j := 2) C (eC_1 (z := z) (ad := ad) hgd) rfl rfl cj_in3 (by decide) rfl cjq_70 rfl dX3_copyFrom_24 ?_
  refine cj_cN2v C cw_X8_copyRow (ct_X8_copyRow hI (eC_3 (z := z) (ad := ad) hgs) (eC_3 (z := z) (ad := ad) hgd) (by decide)) cjq_332 cjn_X3_37 ⟨Nat.le_of_ble_eq_true rfl, Nat.le_of_ble_eq_true rfl⟩ (Nat.le_of_ble_eq_true rfl) dX3_copyFrom_27 ?_
  refine cj_ltM hf (fun s5 hf => ?_)
  refine cj_aload_n C dX3_copyFrom_30 rfl 1 rfl ?_
  refine cj_get (v := .ref (ad gs 4)) (j := 3) C (eC_1 (z := z) (ad := ad) hgs) rfl rfl cj_in3 (by decide) rfl cjq_72 rfl dX3_copyFrom_31 ?_
  refine cj_aload_n C dX3_copyFrom_34 rfl 0 rfl ?_
  refine cj_get (v := .ref (ad gd 4)) (j := 3) C (eC_1 (z := z) (ad := ad) hgd) rfl rfl cj_in3 (by decide) rfl cjq_72 rfl dX3_copyFrom_35 ?_
  refine cj_cN2v C cw_X8_copyRow (ct_X8_copyRow hI (eC_4 (z := z) (ad := ad) hgs) (eC_4 (z := z) (ad := ad) hgd) (by decide)) cjq_332 cjn_X3_37 ⟨Nat.le_of_ble_eq_true rfl, Nat.le_of_ble_eq_true rfl⟩ (Nat.le_of_ble_eq_true rfl) dX3_copyFrom_38 ?_
  refine cj_ltM hf (fun s7 hf => ?_)
  refine cj_aload_n C dX3_copyFrom_41 rfl 1 rfl ?_
  refine cj_get (v := .ref (ad gs 5)) (j := 4) C (eC_1 (z := z) (ad := ad) hgs) rfl rfl cj_in3 (by decide) rfl cjq_74 rfl dX3_copyFrom_42 ?_
  refine cj_aload_n C dX3_copyFrom_45 rfl 0 rfl ?_
  refine cj_get (v := .ref (ad gd 5)) (j := 4) C (eC_1 (z := z) (ad := ad) hgd) rfl rfl cj_in3 (by decide) rfl cjq_74 rfl dX3_copyFrom_46 ?_
  refine cj_cN2v C cw_X8_copyRow (ct_X8_copyRow hI (eC_5 (z := z) (ad := ad) hgs) (eC_5 (z := z) (ad := ad) hgd) (by decide)) cjq_332 cjn_X3_37 ⟨Nat.le_of_ble_eq_true rfl, Nat.le_of_ble_eq_true rfl⟩ (Nat.le_of_ble_eq_true rfl) dX3_copyFrom_49 ?_
  refine cj_ltM hf (fun s9 hf => ?_)
  refine cj_aload_n C dX3_copyFrom_52 rfl 1 rfl ?_
  refine cj_get (v := .ref (ad gs 6)) (j := 5) C (eC_1 (z := z) (ad := ad) hgs) rfl rfl cj_in3 (by decide) rfl cjq_76 rfl dX3_copyFrom_53 ?_
  refine cj_aload_n C dX3_copyFrom_56 rfl 0 rfl ?_
  refine cj_get (v := .ref (ad gd 6)) (j := 5) C (eC_1 (z := z) (ad := ad) hgd) rfl rfl cj_in3 (by decide) rfl cjq_76 rfl dX3_copyFrom_57 ?_
  refine cj_cN2v C cw_X8_copyRow (ct_X8_copyRow hI (eC_6 (z := z) (ad := ad) hgs) (eC_6 (z := z) (ad := ad) hgd) (by decide)) cjq_332 cjn_X3_37 ⟨Nat.le_of_ble_eq_true rfl, Nat.le_of_ble_eq_true rfl⟩ (Nat.le_of_ble_eq_true rfl) dX3_copyFrom_60 ?_
  refine cj_ltM hf (fun s11 hf => ?_)
  refine cj_aload_n C dX3_copyFrom_63 rfl 1 rfl ?_
  refine cj_get (v := .ref (ad gs 7)) (j := 6) C (eC_1 (z := z) (ad := ad) hgs) rfl rfl cj_in3 (by decide) rfl cjq_78 rfl dX3_copyFrom_64 ?_
  refine cj_aload_n C dX3_copyFrom_67 rfl 0 rfl ?_
  refine cj_get (v := .ref (ad gd 7)) (j := 6) C (eC_1 (z := z) (ad := ad) hgd) rfl rfl cj_in3 (by decide) rfl cjq_78 rfl dX3_copyFrom_68 ?_
  refine cj_cN2v C cw_X8_copyRow (ct_X8_copyRow hI (eC_7 (z := z) (ad := ad) hgs) (eC_7 (z := z) (ad := ad) hgd) (by decide)) cjq_332 cjn_X3_37 ⟨Nat.le_of_ble_eq_true rfl, Nat.le_of_ble_eq_true rfl⟩ (Nat.le_of_ble_eq_true rfl) dX3_copyFrom_71 ?_
  refine cj_ltM hf (fun s13 hf => ?_)
  refine cj_aload_n C dX3_copyFrom_74 rfl 1 rfl ?_
  refine cj_get (v := .ref (ad gs 8)) (j := 7) C (eC_1 (z := z) (ad := ad) hgs) rfl rfl cj_in3 (by decide) rfl cjq_80 rfl dX3_copyFrom_75 ?_
  refine cj_aload_n C dX3_copyFrom_78 rfl 0 rfl ?_
  refine cj_get (v := .ref (ad gd 8)) (j := 7) C (eC_1 (z := z) (ad := ad) hgd) rfl rfl cj_in3 (by decide) rfl cjq_80 rfl dX3_copyFrom_79 ?_
  refine cj_cN2v C cw_X8_copyRow (ct_X8_copyRow hI (eC_8 (z := z) (ad := ad) hgs) (eC_8 (z := z) (ad := ad) hgd) (by decide)) cjq_332 cjn_X3_37 ⟨Nat.le_of_ble_eq_true rfl, Nat.le_of_ble_eq_true rfl⟩ (Nat.le_of_ble_eq_true rfl) dX3_copyFrom_82 ?_
  refine cj_ltM hf (fun s15 hf => ?_)
  cases hf
  exact cj_vret C rfl dX3_copyFrom_85
set_option maxHeartbeats 4000000 in
set_option maxRecDepth 100000 in
theorem ct_X6_copyFrom {l : Launch} {D : va_G} {z : cj_Zc} {ad : cj_Ad} (hI : cj_Ij (cj_EL z) ad) {gd gs : Nat} (hgd : cj_isC gd) (hgs : cj_isC gs) (hne : ¬ gd = gs) {m0 : cj_Mm} {r : cj_Mm} (hf : f_X6_copyFrom gd gs m0 = some r) : cj_Ct l (cj_YL D z ad) yX6_copyFrom cX6_copyFrom 2 none 2 [.ref (ad gd 9), .ref (ad gs 9)] (m0) none (r) := by
  refine cj_Ct.of (by decide +kernel) hI (Nat.le_of_ble_eq_true rfl) [(0, .ref (ad gd 9)), (1, .ref (ad gs 9))] rfl (fun X hX C => ?_)
  subst hX
  have C : cj_C (cj_YL D z ad) X cX6_copyFrom 2 RX6 2 none := C
  unfold f_X6_copyFrom at hf
  refine cj_aload_n C dX6_copyFrom_0 rfl 0 rfl ?_
  refine cj_aload_n C dX6_copyFrom_1 rfl 1 rfl ?_
  refine cj_get (v := .int (m0 gs 9 0)) (j := 0) C (eC_9 (z := z) (ad := ad) hgs) rfl rfl cj_in6 (by decide) rfl cjq_105 rfl dX6_copyFrom_2 ?_
  refine cj_put (j := 0) C (eC_9 (z := z) (ad := ad) hgd) rfl rfl rfl rfl cj_in6 tyX6_ok nmX6 (by decide) rfl cjq_105 rfl rfl rfl (Nat.le_of_ble_eq_true rfl) dX6_copyFrom_5 ?_
  refine cj_ltM hf (fun s1 hf => ?_)
  refine cj_aload_n C dX6_copyFrom_8 rfl 0 rfl ?_
  refine cj_aload_n C dX6_copyFrom_9 rfl 1 rfl ?_
  refine cj_get (v := .int (s1 gs 9 1)) (j := 1) C (eC_9 (z := z) (ad := ad) hgs) rfl rfl cj_in6 (by decide) rfl cjq_108 rfl dX6_copyFrom_10 ?_
  refine cj_put (j := 1) C (eC_9 (z := z) (ad := ad) hgd) rfl rfl rfl rfl cj_in6 tyX6_ok nmX6 (by decide) rfl cjq_108 rfl rfl rfl (Nat.le_of_ble_eq_true rfl) dX6_copyFrom_13 ?_
  refine cj_ltM hf (fun s2 hf => ?_)
  refine cj_aload_n C dX6_copyFrom_16 rfl 1 rfl ?_
  refine cj_get (v := .ref (ad gs 10)) (j := 2) C (eC_9 (z := z) (ad := ad) hgs) rfl rfl cj_in6 (by decide) rfl cjq_110 rfl dX6_copyFrom_17 ?_
  refine cj_aload_n C dX6_copyFrom_20 rfl 0 rfl ?_
  refine cj_get (v := .ref (ad gd 10)) (j := 2) C (eC_9 (z := z) (ad := ad) hgd) rfl rfl cj_in6 (by decide) rfl cjq_110 rfl dX6_copyFrom_21 ?_
  refine cj_cN2v C cw_X8_copyRow (ct_X8_copyRow hI (eC_10 (z := z) (ad := ad) hgs) (eC_10 (z := z) (ad := ad) hgd) (by decide)) cjq_332 cjn_X6_31 ⟨Nat.le_of_ble_eq_true rfl, Nat.le_of_ble_eq_true rfl⟩ (Nat.le_of_ble_eq_true rfl) dX6_copyFrom_24 ?_
  refine cj_ltM hf (fun s4 hf => ?_)
  refine cj_aload_n C dX6_copyFrom_27 rfl 1 rfl ?_
  refine cj_get (v := .ref (ad gs 11)) (j := 3) C (eC_9 (z := z) (ad := ad) hgs) rfl rfl cj_in6 (by decide) rfl cjq_113 rfl dX6_copyFrom_28 ?_
  refine cj_aload_n C dX6_copyFrom_31 rfl 0 rfl ?_
  refine cj_get (v := .ref (ad gd 11)) (j := 3) C (eC_9 (z := z) (ad := ad) hgd) rfl rfl cj_in6 (by decide) rfl cjq_113 rfl dX6_copyFrom_32 ?_
  refine cj_cN2v C cw_X8_copyRow (ct_X8_copyRow hI (eC_11 (z := z) (ad := ad) hgs) (eC_11 (z := z) (ad := ad) hgd) (by decide)) cjq_332 cjn_X6_31 ⟨Nat.le_of_ble_eq_true rfl, Nat.le_of_ble_eq_true rfl⟩ (Nat.le_of_ble_eq_true rfl) dX6_copyFrom_35 ?_
  refine cj_ltM hf (fun s6 hf => ?_)
  refine cj_aload_n C dX6_copyFrom_38 rfl 1 rfl ?_
  refine cj_get (v := .ref (ad gs 12)) (j := 4) C (eC_9 (z := z) (ad := ad) hgs) rfl rfl cj_in6 (by decide) rfl cjq_115 rfl dX6_copyFrom_39 ?_
  refine cj_aload_n C dX6_copyFrom_42 rfl 0 rfl ?_
  refine cj_get (v := .ref (ad gd 12)) (j := 4) C (eC_9 (z := z) (ad := ad) hgd) rfl rfl cj_in6 (by decide) rfl cjq_115 rfl dX6_copyFrom_43 ?_
  refine cj_cN2v C cw_X8_copyRow (ct_X8_copyRow hI (eC_12 (z := z) (ad := ad) hgs) (eC_12 (z := z) (ad := ad) hgd) (by decide)) cjq_332 cjn_X6_31 ⟨Nat.le_of_ble_eq_true rfl, Nat.le_of_ble_eq_true rfl⟩ (Nat.le_of_ble_eq_true rfl) dX6_copyFrom_46 ?_
  refine cj_ltM hf (fun s8 hf => ?_)
  refine cj_aload_n C dX6_copyFrom_49 rfl 1 rfl ?_
  refine cj_get (v := .ref (ad gs 13)) (j := 5) C (eC_9 (z := z) (ad := ad) hgs) rfl rfl cj_in6 (by decide) rfl cjq_117 rfl dX6_copyFrom_50 ?_
  refine cj_aload_n C dX6_copyFrom_53 rfl 0 rfl ?_
  refine cj_get (v := .ref (ad gd 13)) (j := 5) C (eC_9 (z := z) (ad := ad) hgd) rfl rfl cj_in6 (by decide) rfl cjq_117 rfl dX6_copyFrom_54 ?_
  refine cj_cN2v C cw_X8_copyRow (ct_X8_copyRow hI (eC_13 (z := z) (ad := ad) hgs) (eC_13 (z := z) (ad := ad) hgd) (by decide)) cjq_332 cjn_X6_31 ⟨Nat.le_of_ble_eq_true rfl, Nat.le_of_ble_eq_true rfl⟩ (Nat.le_of_ble_eq_true rfl) dX6_copyFrom_57 ?_
  refine cj_ltM hf (fun s10 hf => ?_)
  cases hf
  exact cj_vret C rfl dX6_copyFrom_60
set_option maxHeartbeats 4000000 in
set_option maxRecDepth 100000 in
theorem ct_X2_copyFrom {l : Launch} {D : va_G} {z : cj_Zc} {ad : cj_Ad} (hI : cj_Ij (cj_EL z) ad) {gd gs : Nat} (hgd : cj_isC gd) (hgs : cj_isC gs) (hne : ¬ gd = gs) {m0 : cj_Mm} {r : cj_Mm} (hf : f_X2_copyFrom gd gs m0 = some r) : cj_Ct l (cj_YL D z ad) yX2_copyFrom cX2_copyFrom 2 none 2 [.ref (ad gd 14), .ref (ad gs 14)] (m0) none (r) := by
  refine cj_Ct.of (by decide +kernel) hI (Nat.le_of_ble_eq_true rfl) [(0, .ref (ad gd 14)), (1, .ref (ad gs 14))] rfl (fun X hX C => ?_)
  subst hX
  have C : cj_C (cj_YL D z ad) X cX2_copyFrom 2 RX2 2 none := C
  unfold f_X2_copyFrom at hf
  refine cj_aload_n C dX2_copyFrom_0 rfl 0 rfl ?_
  refine cj_aload_n C dX2_copyFrom_1 rfl 1 rfl ?_
  refine cj_get (v := .int (m0 gs 14 0)) (j := 0) C (eC_14 (z := z) (ad := ad) hgs) rfl rfl cj_in2 (by decide) rfl cjq_138 rfl dX2_copyFrom_2 ?_
  refine cj_put (j := 0) C (eC_14 (z := z) (ad := ad) hgd) rfl rfl rfl rfl cj_in2 tyX2_ok nmX2 (by decide) rfl cjq_138 rfl rfl rfl (Nat.le_of_ble_eq_true rfl) dX2_copyFrom_5 ?_
  refine cj_ltM hf (fun s1 hf => ?_)
  refine cj_aload_n C dX2_copyFrom_8 rfl 1 rfl ?_
  refine cj_get (v := .ref (ad gs 15)) (j := 1) C (eC_14 (z := z) (ad := ad) hgs) rfl rfl cj_in2 (by decide) rfl cjq_140 rfl dX2_copyFrom_9 ?_
  refine cj_aload_n C dX2_copyFrom_12 rfl 0 rfl ?_
  refine cj_get (v := .ref (ad gd 15)) (j := 1) C (eC_14 (z := z) (ad := ad) hgd) rfl rfl cj_in2 (by decide) rfl cjq_140 rfl dX2_copyFrom_13 ?_
  refine cj_cN2v C cw_X8_copyRow (ct_X8_copyRow hI (eC_15 (z := z) (ad := ad) hgs) (eC_15 (z := z) (ad := ad) hgd) (by decide)) cjq_332 cjn_X2_34 ⟨Nat.le_of_ble_eq_true rfl, Nat.le_of_ble_eq_true rfl⟩ (Nat.le_of_ble_eq_true rfl) dX2_copyFrom_16 ?_
  refine cj_ltM hf (fun s3 hf => ?_)
  refine cj_aload_n C dX2_copyFrom_19 rfl 1 rfl ?_
  refine cj_get (v := .ref (ad gs 16)) (j := 2) C (eC_14 (z := z) (ad := ad) hgs) rfl rfl cj_in2 (by decide) rfl cjq_142 rfl dX2_copyFrom_20 ?_
  refine cj_aload_n C dX2_copyFrom_23 rfl 0 rfl ?_
  refine cj_get (v := .ref (ad gd 16)) (j := 2) C (eC_14 (z := z) (ad := ad) hgd) rfl rfl cj_in2 (by decide) rfl cjq_142 rfl dX2_copyFrom_24 ?_
  refine cj_cN2v C cw_X8_copyRow (ct_X8_copyRow hI (eC_16 (z := z) (ad := ad) hgs) (eC_16 (z := z) (ad := ad) hgd) (by decide)) cjq_332 cjn_X2_34 ⟨Nat.le_of_ble_eq_true rfl, Nat.le_of_ble_eq_true rfl⟩ (Nat.le_of_ble_eq_true rfl) dX2_copyFrom_27 ?_
  refine cj_ltM hf (fun s5 hf => ?_)
  refine cj_aload_n C dX2_copyFrom_30 rfl 1 rfl ?_
  refine cj_get (v := .ref (ad gs 17)) (j := 3) C (eC_14 (z := z) (ad := ad) hgs) rfl rfl cj_in2 (by decide) rfl cjq_144 rfl dX2_copyFrom_31 ?_
  refine cj_aload_n C dX2_copyFrom_34 rfl 0 rfl ?_
  refine cj_get (v := .ref (ad gd 17)) (j := 3) C (eC_14 (z := z) (ad := ad) hgd) rfl rfl cj_in2 (by decide) rfl cjq_144 rfl dX2_copyFrom_35 ?_
  refine cj_cN2v C cw_X8_copyRow (ct_X8_copyRow hI (eC_17 (z := z) (ad := ad) hgs) (eC_17 (z := z) (ad := ad) hgd) (by decide)) cjq_332 cjn_X2_34 ⟨Nat.le_of_ble_eq_true rfl, Nat.le_of_ble_eq_true rfl⟩ (Nat.le_of_ble_eq_true rfl) dX2_copyFrom_38 ?_
  refine cj_ltM hf (fun s7 hf => ?_)
  refine cj_aload_n C dX2_copyFrom_41 rfl 1 rfl ?_
  refine cj_get (v := .ref (ad gs 18)) (j := 4) C (eC_14 (z := z) (ad := ad) hgs) rfl rfl cj_in2 (by decide) rfl cjq_146 rfl dX2_copyFrom_42 ?_
  refine cj_aload_n C dX2_copyFrom_45 rfl 0 rfl ?_
  refine cj_get (v := .ref (ad gd 18)) (j := 4) C (eC_14 (z := z) (ad := ad) hgd) rfl rfl cj_in2 (by decide) rfl cjq_146 rfl dX2_copyFrom_46 ?_
  refine cj_cN2v C cw_X8_copyRow (ct_X8_copyRow hI (eC_18 (z := z) (ad := ad) hgs) (eC_18 (z := z) (ad := ad) hgd) (by decide)) cjq_332 cjn_X2_34 ⟨Nat.le_of_ble_eq_true rfl, Nat.le_of_ble_eq_true rfl⟩ (Nat.le_of_ble_eq_true rfl) dX2_copyFrom_49 ?_
  refine cj_ltM hf (fun s9 hf => ?_)
  refine cj_aload_n C dX2_copyFrom_52 rfl 1 rfl ?_
  refine cj_get (v := .ref (ad gs 19)) (j := 5) C (eC_14 (z := z) (ad := ad) hgs) rfl rfl cj_in2 (by decide) rfl cjq_148 rfl dX2_copyFrom_53 ?_
  refine cj_aload_n C dX2_copyFrom_56 rfl 0 rfl ?_
  refine cj_get (v := .ref (ad gd 19)) (j := 5) C (eC_14 (z := z) (ad := ad) hgd) rfl rfl cj_in2 (by decide) rfl cjq_148 rfl dX2_copyFrom_57 ?_
  refine cj_cN2v C cw_X8_copyRow (ct_X8_copyRow hI (eC_19 (z := z) (ad := ad) hgs) (eC_19 (z := z) (ad := ad) hgd) (by decide)) cjq_332 cjn_X2_34 ⟨Nat.le_of_ble_eq_true rfl, Nat.le_of_ble_eq_true rfl⟩ (Nat.le_of_ble_eq_true rfl) dX2_copyFrom_60 ?_
  refine cj_ltM hf (fun s11 hf => ?_)
  refine cj_aload_n C dX2_copyFrom_63 rfl 1 rfl ?_
  refine cj_get (v := .ref (ad gs 20)) (j := 6) C (eC_14 (z := z) (ad := ad) hgs) rfl rfl cj_in2 (by decide) rfl cjq_149 rfl dX2_copyFrom_64 ?_
  refine cj_aload_n C dX2_copyFrom_67 rfl 0 rfl ?_
  refine cj_get (v := .ref (ad gd 20)) (j := 6) C (eC_14 (z := z) (ad := ad) hgd) rfl rfl cj_in2 (by decide) rfl cjq_149 rfl dX2_copyFrom_68 ?_
  refine cj_cN2v C cw_X8_copyRow (ct_X8_copyRow hI (eC_20 (z := z) (ad := ad) hgs) (eC_20 (z := z) (ad := ad) hgd) (by decide)) cjq_332 cjn_X2_34 ⟨Nat.le_of_ble_eq_true rfl, Nat.le_of_ble_eq_true rfl⟩ (Nat.le_of_ble_eq_true rfl) dX2_copyFrom_71 ?_
  refine cj_ltM hf (fun s13 hf => ?_)
  cases hf
  exact cj_vret C rfl dX2_copyFrom_74
set_option maxHeartbeats 4000000 in
set_option maxRecDepth 100000 in
theorem ct_X0_copyFrom {l : Launch} {D : va_G} {z : cj_Zc} {ad : cj_Ad} (hI : cj_Ij (cj_EL z) ad) {gd gs : Nat} (hgd : cj_isC gd) (hgs : cj_isC gs) (hne : ¬ gd = gs) {m0 : cj_Mm} {r : cj_Mm} (hf : f_X0_copyFrom gd gs m0 = some r) : cj_Ct l (cj_YL D z ad) yX0_copyFrom cX0_copyFrom 2 none 3 [.ref (ad gd 0), .ref (ad gs 0)] (m0) none (r) := by
  refine cj_Ct.of (by decide +kernel) hI (Nat.le_of_ble_eq_true rfl) [(0, .ref (ad gd 0)), (1, .ref (ad gs 0))] rfl (fun X hX C => ?_)
  subst hX
  have C : cj_C (cj_YL D z ad) X cX0_copyFrom 2 RX0 3 none := C
  unfold f_X0_copyFrom at hf
  refine cj_aload_n C dX0_copyFrom_0 rfl 0 rfl ?_
  refine cj_get (v := .ref (ad gd 1)) (j := 0) C (eC_0 (z := z) (ad := ad) hgd) rfl rfl cj_in0 (by decide) rfl cjq_165 rfl dX0_copyFrom_1 ?_
  refine cj_aload_n C dX0_copyFrom_4 rfl 1 rfl ?_
  refine cj_get (v := .ref (ad gs 1)) (j := 0) C (eC_0 (z := z) (ad := ad) hgs) rfl rfl cj_in0 (by decide) rfl cjq_165 rfl dX0_copyFrom_5 ?_
  obtain ⟨s2, h1, hf⟩ := cj_bd_s hf
  refine cj_cV1v C cw_X3_copyFrom (ct_X3_copyFrom hI hgd hgs hne h1) cjq_328 cjq_329 cjq_327 (eC_1 (z := z) (ad := ad) hgd) rfl rfl ⟨Nat.le_of_ble_eq_true rfl, Nat.le_of_ble_eq_true rfl⟩ (Nat.le_of_ble_eq_true rfl) dX0_copyFrom_8 ?_
  refine cj_aload_n C dX0_copyFrom_11 rfl 0 rfl ?_
  refine cj_get (v := .ref (ad gd 9)) (j := 1) C (eC_0 (z := z) (ad := ad) hgd) rfl rfl cj_in0 (by decide) rfl cjq_167 rfl dX0_copyFrom_12 ?_
  refine cj_aload_n C dX0_copyFrom_15 rfl 1 rfl ?_
  refine cj_get (v := .ref (ad gs 9)) (j := 1) C (eC_0 (z := z) (ad := ad) hgs) rfl rfl cj_in0 (by decide) rfl cjq_167 rfl dX0_copyFrom_16 ?_
  obtain ⟨s4, h3, hf⟩ := cj_bd_s hf
  refine cj_cV1v C cw_X6_copyFrom (ct_X6_copyFrom hI hgd hgs hne h3) cjq_341 cjq_342 cjq_340 (eC_9 (z := z) (ad := ad) hgd) rfl rfl ⟨Nat.le_of_ble_eq_true rfl, Nat.le_of_ble_eq_true rfl⟩ (Nat.le_of_ble_eq_true rfl) dX0_copyFrom_19 ?_
  refine cj_aload_n C dX0_copyFrom_22 rfl 0 rfl ?_
  refine cj_get (v := .ref (ad gd 14)) (j := 2) C (eC_0 (z := z) (ad := ad) hgd) rfl rfl cj_in0 (by decide) rfl cjq_169 rfl dX0_copyFrom_23 ?_
  refine cj_aload_n C dX0_copyFrom_26 rfl 1 rfl ?_
  refine cj_get (v := .ref (ad gs 14)) (j := 2) C (eC_0 (z := z) (ad := ad) hgs) rfl rfl cj_in0 (by decide) rfl cjq_169 rfl dX0_copyFrom_27 ?_
  obtain ⟨s6, h5, hf⟩ := cj_bd_s hf
  refine cj_cV1v C cw_X2_copyFrom (ct_X2_copyFrom hI hgd hgs hne h5) cjq_346 cjq_347 cjq_345 (eC_14 (z := z) (ad := ad) hgd) rfl rfl ⟨Nat.le_of_ble_eq_true rfl, Nat.le_of_ble_eq_true rfl⟩ (Nat.le_of_ble_eq_true rfl) dX0_copyFrom_30 ?_
  refine cj_aload_n C dX0_copyFrom_33 rfl 0 rfl ?_
  refine cj_aload_n C dX0_copyFrom_34 rfl 1 rfl ?_
  refine cj_get (v := .int (s6 gs 0 3)) (j := 3) C (eC_0 (z := z) (ad := ad) hgs) rfl rfl cj_in0 (by decide) rfl cjq_171 rfl dX0_copyFrom_35 ?_
  refine cj_put (j := 3) C (eC_0 (z := z) (ad := ad) hgd) rfl rfl rfl rfl cj_in0 tyX0_ok nmX0 (by decide) rfl cjq_171 rfl rfl rfl (Nat.le_of_ble_eq_true rfl) dX0_copyFrom_38 ?_
  refine cj_ltM hf (fun s7 hf => ?_)
  refine cj_aload_n C dX0_copyFrom_41 rfl 0 rfl ?_
  refine cj_aload_n C dX0_copyFrom_42 rfl 1 rfl ?_
  refine cj_get (v := .int (s7 gs 0 4)) (j := 4) C (eC_0 (z := z) (ad := ad) hgs) rfl rfl cj_in0 (by decide) rfl cjq_172 rfl dX0_copyFrom_43 ?_
  refine cj_put (j := 4) C (eC_0 (z := z) (ad := ad) hgd) rfl rfl rfl rfl cj_in0 tyX0_ok nmX0 (by decide) rfl cjq_172 rfl rfl rfl (Nat.le_of_ble_eq_true rfl) dX0_copyFrom_46 ?_
  refine cj_ltM hf (fun s8 hf => ?_)
  refine cj_aload_n C dX0_copyFrom_49 rfl 0 rfl ?_
  refine cj_aload_n C dX0_copyFrom_50 rfl 1 rfl ?_
  refine cj_get (v := .int (s8 gs 0 5)) (j := 5) C (eC_0 (z := z) (ad := ad) hgs) rfl rfl cj_in0 (by decide) rfl cjq_173 rfl dX0_copyFrom_51 ?_
  refine cj_put (j := 5) C (eC_0 (z := z) (ad := ad) hgd) rfl rfl rfl rfl cj_in0 tyX0_ok nmX0 (by decide) rfl cjq_173 rfl rfl rfl (Nat.le_of_ble_eq_true rfl) dX0_copyFrom_54 ?_
  refine cj_ltM hf (fun s9 hf => ?_)
  refine cj_aload_n C dX0_copyFrom_57 rfl 0 rfl ?_
  refine cj_aload_n C dX0_copyFrom_58 rfl 1 rfl ?_
  refine cj_get (v := .int (s9 gs 0 6)) (j := 6) C (eC_0 (z := z) (ad := ad) hgs) rfl rfl cj_in0 (by decide) rfl cjq_174 rfl dX0_copyFrom_59 ?_
  refine cj_put (j := 6) C (eC_0 (z := z) (ad := ad) hgd) rfl rfl rfl rfl cj_in0 tyX0_ok nmX0 (by decide) rfl cjq_174 rfl rfl rfl (Nat.le_of_ble_eq_true rfl) dX0_copyFrom_62 ?_
  refine cj_ltM hf (fun s10 hf => ?_)
  refine cj_aload_n C dX0_copyFrom_65 rfl 0 rfl ?_
  refine cj_aload_n C dX0_copyFrom_66 rfl 1 rfl ?_
  refine cj_get (v := .int (s10 gs 0 7)) (j := 7) C (eC_0 (z := z) (ad := ad) hgs) rfl rfl cj_in0 (by decide) rfl cjq_176 rfl dX0_copyFrom_67 ?_
  refine cj_put (j := 7) C (eC_0 (z := z) (ad := ad) hgd) rfl rfl rfl rfl cj_in0 tyX0_ok nmX0 (by decide) rfl cjq_176 rfl rfl rfl (Nat.le_of_ble_eq_true rfl) dX0_copyFrom_70 ?_
  refine cj_ltM hf (fun s11 hf => ?_)
  refine cj_aload_n C dX0_copyFrom_73 rfl 0 rfl ?_
  refine cj_aload_n C dX0_copyFrom_74 rfl 1 rfl ?_
  refine cj_get (v := .int (s11 gs 0 8)) (j := 8) C (eC_0 (z := z) (ad := ad) hgs) rfl rfl cj_in0 (by decide) rfl cjq_177 rfl dX0_copyFrom_75 ?_
  refine cj_put (j := 8) C (eC_0 (z := z) (ad := ad) hgd) rfl rfl rfl rfl cj_in0 tyX0_ok nmX0 (by decide) rfl cjq_177 rfl rfl rfl (Nat.le_of_ble_eq_true rfl) dX0_copyFrom_78 ?_
  refine cj_ltM hf (fun s12 hf => ?_)
  refine cj_aload_n C dX0_copyFrom_81 rfl 0 rfl ?_
  refine cj_aload_n C dX0_copyFrom_82 rfl 1 rfl ?_
  refine cj_get (v := .int (s12 gs 0 9)) (j := 9) C (eC_0 (z := z) (ad := ad) hgs) rfl rfl cj_in0 (by decide) rfl cjq_179 rfl dX0_copyFrom_83 ?_
  refine cj_put (j := 9) C (eC_0 (z := z) (ad := ad) hgd) rfl rfl rfl rfl cj_in0 tyX0_ok nmX0 (by decide) rfl cjq_179 rfl rfl rfl (Nat.le_of_ble_eq_true rfl) dX0_copyFrom_86 ?_
  refine cj_ltM hf (fun s13 hf => ?_)
  cases hf
  exact cj_vret C rfl dX0_copyFrom_89
set_option maxHeartbeats 4000000 in
set_option maxRecDepth 100000 in
theorem ct_X8_isWithin {l : Launch} {Y : cj_Y} (hI : cj_Ij Y.1 Y.2.2.2) {μ : cj_Mm} {a0 : Int32} {a1 : Int32} {a2 : Int32} {r : Int32} (hf : f_X8_isWithin a0 a1 a2 = some r) : cj_Ct l Y yX8_isWithin cX8_isWithin 3 (some .boolean) 0 [.int a0, .int a1, .int a2] (μ) (some (.int r)) (μ) := by
  refine cj_Ct.of (by decide +kernel) hI (Nat.le_of_ble_eq_true rfl) [(0, .int a0), (1, .int a1), (2, .int a2)] rfl (fun X hX C => ?_)
  subst hX
  have C : cj_C Y X cX8_isWithin 3 RX8 0 (some .boolean) := C
  unfold f_X8_isWithin at hf
  refine cj_iload_n C dX8_isWithin_0 rfl 0 rfl ?_
  refine cj_iload_n C dX8_isWithin_1 rfl 1 rfl ?_
  refine cj_ic_lt C 14 dX8_isWithin_2 rfl hf (fun hf => ?_) (fun hf => ?_)
  · refine cj_iconst C 0 dX8_isWithin_14 rfl ?_
    cases hf
    exact cj_zret C rfl rfl rfl dX8_isWithin_15
  · refine cj_iload_n C dX8_isWithin_5 rfl 0 rfl ?_
    refine cj_iload_n C dX8_isWithin_6 rfl 2 rfl ?_
    refine cj_ic_gt C 14 dX8_isWithin_7 rfl hf (fun hf => ?_) (fun hf => ?_)
    · refine cj_iconst C 0 dX8_isWithin_14 rfl ?_
      cases hf
      exact cj_zret C rfl rfl rfl dX8_isWithin_15
    · refine cj_iconst C 1 dX8_isWithin_10 rfl ?_
      refine cj_goto C 15 dX8_isWithin_11 rfl ?_
      cases hf
      exact cj_zret C rfl rfl rfl dX8_isWithin_15
set_option maxHeartbeats 4000000 in
set_option maxRecDepth 100000 in
theorem tl_X3_isTaken_L2 {D : va_G} {z : cj_Zc} {ad : cj_Ad} (hI : cj_Ij (cj_EL z) ad) {μ : cj_Mm} {g : Nat} (hg : cj_isC g) {y1 : Int32} {y2 : Int32} {s4 : cj_S} {X : cj_X} (C : cj_C (cj_YL D z ad) X cX3_isTaken 4 RX3 0 (some .boolean)) {r : Int32} : ∀ (n : Nat) (x3 : Int32), f_X3_isTaken_L2 y1 y2 s4 n x3 = some r → cj_G (cj_YL D z ad) X (some (.int r), cj_upG μ g s4) (cj_upG μ g s4) 2 [(0, .ref (ad g 1)), (1, .int y1), (2, .int y2), (3, .int x3)] [] := by
  intro n
  induction n with
  | zero =>
    intro x3 hf
    rw [f_X3_isTaken_L2] at hf
    cases hf
  | succ n ih =>
    intro x3 hf
    rw [f_X3_isTaken_L2] at hf
    refine cj_iload_n C dX3_isTaken_2 rfl 3 rfl ?_
    refine cj_aload_n C dX3_isTaken_3 rfl 0 rfl ?_
    refine cj_getS (v := .int (s4 1 0)) (j := 0) C (eC_1 (z := z) (ad := ad) hg) rfl rfl cj_in3 (by decide) rfl cjq_66 rfl dX3_isTaken_4 ?_
    refine cj_ic_ge C 38 dX3_isTaken_7 rfl hf (fun hf => ?_) (fun hf => ?_)
    · refine cj_iconst C 0 dX3_isTaken_38 rfl ?_
      cases hf
      exact cj_zret C rfl rfl rfl dX3_isTaken_39
    · refine cj_aload_n C dX3_isTaken_10 rfl 0 rfl ?_
      refine cj_getS (v := .ref (ad g 2)) (j := 1) C (eC_1 (z := z) (ad := ad) hg) rfl rfl cj_in3 (by decide) rfl cjq_68 rfl dX3_isTaken_11 ?_
      refine cj_iload_n C dX3_isTaken_14 rfl 3 rfl ?_
      refine cj_ialdS C (eC_2 (z := z) (ad := ad) hg) dX3_isTaken_15 hf (fun hf => ?_)
      refine cj_iload_n C dX3_isTaken_16 rfl 1 rfl ?_
      refine cj_ic_ne C 32 dX3_isTaken_17 rfl hf (fun hf => ?_) (fun hf => ?_)
      · refine cj_iinc (lv' := [(3, .int (x3 + 1)), (0, .ref (ad g 1)), (1, .int y1), (2, .int y2)]) C dX3_isTaken_32 (j := 3) rfl rfl (by decide) rfl ?_
        refine cj_goto C 2 dX3_isTaken_35 rfl ?_
        refine cj_sub [1, 2, 3, 0] rfl ?_
        exact ih (x3 + 1) hf
      · refine cj_aload_n C dX3_isTaken_20 rfl 0 rfl ?_
        refine cj_getS (v := .ref (ad g 3)) (j := 2) C (eC_1 (z := z) (ad := ad) hg) rfl rfl cj_in3 (by decide) rfl cjq_70 rfl dX3_isTaken_21 ?_
        refine cj_iload_n C dX3_isTaken_24 rfl 3 rfl ?_
        refine cj_ialdS C (eC_3 (z := z) (ad := ad) hg) dX3_isTaken_25 hf (fun hf => ?_)
        refine cj_iload_n C dX3_isTaken_26 rfl 2 rfl ?_
        refine cj_ic_ne C 32 dX3_isTaken_27 rfl hf (fun hf => ?_) (fun hf => ?_)
        · refine cj_iinc (lv' := [(3, .int (x3 + 1)), (0, .ref (ad g 1)), (1, .int y1), (2, .int y2)]) C dX3_isTaken_32 (j := 3) rfl rfl (by decide) rfl ?_
          refine cj_goto C 2 dX3_isTaken_35 rfl ?_
          refine cj_sub [1, 2, 3, 0] rfl ?_
          exact ih (x3 + 1) hf
        · refine cj_iconst C 1 dX3_isTaken_30 rfl ?_
          cases hf
          exact cj_zret C rfl rfl rfl dX3_isTaken_31
set_option maxHeartbeats 4000000 in
set_option maxRecDepth 100000 in
theorem ct_X3_isTaken {l : Launch} {D : va_G} {z : cj_Zc} {ad : cj_Ad} (hI : cj_Ij (cj_EL z) ad) {μ : cj_Mm} {g : Nat} (hg : cj_isC g) {s0 : cj_S} {a1 : Int32} {a2 : Int32} {r : Int32} (hf : f_X3_isTaken s0 a1 a2 = some r) : cj_Ct l (cj_YL D z ad) yX3_isTaken cX3_isTaken 4 (some .boolean) 0 [.ref (ad g 1), .int a1, .int a2] (cj_upG μ g s0) (some (.int r)) (cj_upG μ g s0) := by
  refine cj_Ct.of (by decide +kernel) hI (Nat.le_of_ble_eq_true rfl) [(0, .ref (ad g 1)), (1, .int a1), (2, .int a2)] rfl (fun X hX C => ?_)
  subst hX
  have C : cj_C (cj_YL D z ad) X cX3_isTaken 4 RX3 0 (some .boolean) := C
  unfold f_X3_isTaken at hf
  refine cj_iconst C 0 dX3_isTaken_0 rfl ?_
  refine cj_istore_n (lv' := [(3, .int 0), (0, .ref (ad g 1)), (1, .int a1), (2, .int a2)]) C dX3_isTaken_1 rfl (by decide) rfl ?_
  refine cj_sub [1, 2, 3, 0] rfl ?_
  exact tl_X3_isTaken_L2 hI hg C cj_FU 0 hf
set_option maxHeartbeats 4000000 in
set_option maxRecDepth 100000 in
theorem ct_X0_addPerson {l : Launch} {D : va_G} {z : cj_Zc} {ad : cj_Ad} (hI : cj_Ij (cj_EL z) ad) {μ : cj_Mm} {g : Nat} (hg : cj_isC g) {s0 : cj_S} {a1 : Int32} {a2 : Int32} {r : Int32} {r2 : cj_S} (hf : f_X0_addPerson s0 a1 a2 = some (r, r2)) : cj_Ct l (cj_YL D z ad) yX0_addPerson cX0_addPerson 3 (some .int) 1 [.ref (ad g 0), .int a1, .int a2] (cj_upG μ g s0) (some (.int r)) (cj_upG μ g r2) := by
  refine cj_Ct.of (by decide +kernel) hI (Nat.le_of_ble_eq_true rfl) [(0, .ref (ad g 0)), (1, .int a1), (2, .int a2)] rfl (fun X hX C => ?_)
  subst hX
  have C : cj_C (cj_YL D z ad) X cX0_addPerson 3 RX0 1 (some .int) := C
  unfold f_X0_addPerson at hf
  generalize hr2 : (r, r2) = r3 at hf
  obtain ⟨e1, e2⟩ : r = r3.1 ∧ r2 = r3.2 := by rw [← hr2]; exact ⟨rfl, rfl⟩
  rw [e1, e2]
  clear e1 e2 hr2
  obtain ⟨r, hr⟩ : ∃ r, r = r3 := ⟨_, rfl⟩
  rw [← hr] at hf ⊢
  clear hr
  refine cj_iload_n C dX0_addPerson_0 rfl 1 rfl ?_
  refine cj_iconst C 0 dX0_addPerson_1 rfl ?_
  refine cj_iconst C 3 dX0_addPerson_2 rfl ?_
  obtain ⟨x2, h1, hf⟩ := cj_bd_s hf
  refine cj_cN3i C cw_X8_isWithin (ct_X8_isWithin hI h1) cjq_355 cjn_X0_64 ⟨Nat.le_of_ble_eq_true rfl, Nat.le_of_ble_eq_true rfl⟩ (Nat.le_of_ble_eq_true rfl) dX0_addPerson_3 ?_
  refine cj_if_eq C 18 dX0_addPerson_6 rfl hf (fun hf => ?_) (fun hf => ?_)
  · refine cj_ldc C cjq_357 dX0_addPerson_18 ?_
    cases hf
    exact cj_iret C rfl dX0_addPerson_20
  · refine cj_iload_n C dX0_addPerson_9 rfl 2 rfl ?_
    refine cj_iconst C 0 dX0_addPerson_10 rfl ?_
    refine cj_iconst C 5 dX0_addPerson_11 rfl ?_
    obtain ⟨x4, h3, hf⟩ := cj_bd_s hf
    refine cj_cN3i C cw_X8_isWithin (ct_X8_isWithin hI h3) cjq_355 cjn_X0_64 ⟨Nat.le_of_ble_eq_true rfl, Nat.le_of_ble_eq_true rfl⟩ (Nat.le_of_ble_eq_true rfl) dX0_addPerson_12 ?_
    refine cj_if_ne C 21 dX0_addPerson_15 rfl hf (fun hf => ?_) (fun hf => ?_)
    · refine cj_aload_n C dX0_addPerson_21 rfl 0 rfl ?_
      refine cj_getS (v := .ref (ad g 1)) (j := 0) C (eC_0 (z := z) (ad := ad) hg) rfl rfl cj_in0 (by decide) rfl cjq_165 rfl dX0_addPerson_22 ?_
      refine cj_iload_n C dX0_addPerson_25 rfl 1 rfl ?_
      refine cj_iload_n C dX0_addPerson_26 rfl 2 rfl ?_
      obtain ⟨x6, h5, hf⟩ := cj_bd_s hf
      refine cj_cV2i C cw_X3_isTaken (ct_X3_isTaken hI hg h5) cjq_359 cjq_360 cjq_358 (eC_1 (z := z) (ad := ad) hg) rfl rfl ⟨Nat.le_of_ble_eq_true rfl, Nat.le_of_ble_eq_true rfl⟩ (Nat.le_of_ble_eq_true rfl) dX0_addPerson_27 ?_
      refine cj_if_eq C 36 dX0_addPerson_30 rfl hf (fun hf => ?_) (fun hf => ?_)
      · refine cj_aload_n C dX0_addPerson_36 rfl 0 rfl ?_
        refine cj_getS (v := .ref (ad g 1)) (j := 0) C (eC_0 (z := z) (ad := ad) hg) rfl rfl cj_in0 (by decide) rfl cjq_165 rfl dX0_addPerson_37 ?_
        refine cj_getS (v := .int (s0 1 0)) (j := 0) C (eC_1 (z := z) (ad := ad) hg) rfl rfl cj_in3 (by decide) rfl cjq_67 rfl dX0_addPerson_40 ?_
        refine cj_bipush C 6 dX0_addPerson_43 rfl ?_
        refine cj_ic_lt C 51 dX0_addPerson_45 rfl hf (fun hf => ?_) (fun hf => ?_)
        · refine cj_aload_n C dX0_addPerson_51 rfl 0 rfl ?_
          refine cj_getS (v := .ref (ad g 1)) (j := 0) C (eC_0 (z := z) (ad := ad) hg) rfl rfl cj_in0 (by decide) rfl cjq_165 rfl dX0_addPerson_52 ?_
          refine cj_getS (v := .ref (ad g 2)) (j := 1) C (eC_1 (z := z) (ad := ad) hg) rfl rfl cj_in3 (by decide) rfl cjq_69 rfl dX0_addPerson_55 ?_
          refine cj_aload_n C dX0_addPerson_58 rfl 0 rfl ?_
          refine cj_getS (v := .ref (ad g 1)) (j := 0) C (eC_0 (z := z) (ad := ad) hg) rfl rfl cj_in0 (by decide) rfl cjq_165 rfl dX0_addPerson_59 ?_
          refine cj_getS (v := .int (s0 1 0)) (j := 0) C (eC_1 (z := z) (ad := ad) hg) rfl rfl cj_in3 (by decide) rfl cjq_67 rfl dX0_addPerson_62 ?_
          refine cj_iload_n C dX0_addPerson_65 rfl 1 rfl ?_
          refine cj_iastS C (eC_2 (z := z) (ad := ad) hg) dX0_addPerson_66 hf (fun hf => ?_)
          refine cj_ltS hf (fun s7 hf => ?_)
          refine cj_aload_n C dX0_addPerson_67 rfl 0 rfl ?_
          refine cj_getS (v := .ref (ad g 1)) (j := 0) C (eC_0 (z := z) (ad := ad) hg) rfl rfl cj_in0 (by decide) rfl cjq_165 rfl dX0_addPerson_68 ?_
          refine cj_getS (v := .ref (ad g 3)) (j := 2) C (eC_1 (z := z) (ad := ad) hg) rfl rfl cj_in3 (by decide) rfl cjq_71 rfl dX0_addPerson_71 ?_
          refine cj_aload_n C dX0_addPerson_74 rfl 0 rfl ?_
          refine cj_getS (v := .ref (ad g 1)) (j := 0) C (eC_0 (z := z) (ad := ad) hg) rfl rfl cj_in0 (by decide) rfl cjq_165 rfl dX0_addPerson_75 ?_
          refine cj_getS (v := .int (s7 1 0)) (j := 0) C (eC_1 (z := z) (ad := ad) hg) rfl rfl cj_in3 (by decide) rfl cjq_67 rfl dX0_addPerson_78 ?_
          refine cj_iload_n C dX0_addPerson_81 rfl 2 rfl ?_
          refine cj_iastS C (eC_3 (z := z) (ad := ad) hg) dX0_addPerson_82 hf (fun hf => ?_)
          refine cj_ltS hf (fun s8 hf => ?_)
          refine cj_aload_n C dX0_addPerson_83 rfl 0 rfl ?_
          refine cj_getS (v := .ref (ad g 1)) (j := 0) C (eC_0 (z := z) (ad := ad) hg) rfl rfl cj_in0 (by decide) rfl cjq_165 rfl dX0_addPerson_84 ?_
          refine cj_dup C dX0_addPerson_87 rfl ?_
          refine cj_getS (v := .int (s8 1 0)) (j := 0) C (eC_1 (z := z) (ad := ad) hg) rfl rfl cj_in3 (by decide) rfl cjq_67 rfl dX0_addPerson_88 ?_
          refine cj_iconst C 1 dX0_addPerson_91 rfl ?_
          refine cj_iadd C dX0_addPerson_92 ?_
          refine cj_putS (j := 0) C (eC_1 (z := z) (ad := ad) hg) rfl rfl rfl rfl cj_in3 tyX3_ok nmX3 (by decide) rfl cjq_67 rfl rfl rfl (Nat.le_of_ble_eq_true rfl) dX0_addPerson_93 ?_
          refine cj_ltS hf (fun s9 hf => ?_)
          refine cj_aload_n C dX0_addPerson_96 rfl 0 rfl ?_
          refine cj_getS (v := .ref (ad g 1)) (j := 0) C (eC_0 (z := z) (ad := ad) hg) rfl rfl cj_in0 (by decide) rfl cjq_165 rfl dX0_addPerson_97 ?_
          refine cj_getS (v := .int (s9 1 0)) (j := 0) C (eC_1 (z := z) (ad := ad) hg) rfl rfl cj_in3 (by decide) rfl cjq_67 rfl dX0_addPerson_100 ?_
          refine cj_iconst C 1 dX0_addPerson_103 rfl ?_
          refine cj_isub C dX0_addPerson_104 ?_
          cases hf
          exact cj_iret C rfl dX0_addPerson_105
        · refine cj_ldc C cjq_363 dX0_addPerson_48 ?_
          cases hf
          exact cj_iret C rfl dX0_addPerson_50
      · refine cj_ldc C cjq_362 dX0_addPerson_33 ?_
        cases hf
        exact cj_iret C rfl dX0_addPerson_35
    · refine cj_ldc C cjq_357 dX0_addPerson_18 ?_
      cases hf
      exact cj_iret C rfl dX0_addPerson_20
set_option maxHeartbeats 4000000 in
set_option maxRecDepth 100000 in
theorem ct_X3_has {l : Launch} {D : va_G} {z : cj_Zc} {ad : cj_Ad} (hI : cj_Ij (cj_EL z) ad) {μ : cj_Mm} {g : Nat} (hg : cj_isC g) {s0 : cj_S} {a1 : Int32} {r : Int32} (hf : f_X3_has s0 a1 = some r) : cj_Ct l (cj_YL D z ad) yX3_has cX3_has 2 (some .boolean) 0 [.ref (ad g 1), .int a1] (cj_upG μ g s0) (some (.int r)) (cj_upG μ g s0) := by
  refine cj_Ct.of (by decide +kernel) hI (Nat.le_of_ble_eq_true rfl) [(0, .ref (ad g 1)), (1, .int a1)] rfl (fun X hX C => ?_)
  subst hX
  have C : cj_C (cj_YL D z ad) X cX3_has 2 RX3 0 (some .boolean) := C
  unfold f_X3_has at hf
  refine cj_iload_n C dX3_has_0 rfl 1 rfl ?_
  refine cj_if_lt C 16 dX3_has_1 rfl hf (fun hf => ?_) (fun hf => ?_)
  · refine cj_iconst C 0 dX3_has_16 rfl ?_
    cases hf
    exact cj_zret C rfl rfl rfl dX3_has_17
  · refine cj_iload_n C dX3_has_4 rfl 1 rfl ?_
    refine cj_aload_n C dX3_has_5 rfl 0 rfl ?_
    refine cj_getS (v := .int (s0 1 0)) (j := 0) C (eC_1 (z := z) (ad := ad) hg) rfl rfl cj_in3 (by decide) rfl cjq_66 rfl dX3_has_6 ?_
    refine cj_ic_ge C 16 dX3_has_9 rfl hf (fun hf => ?_) (fun hf => ?_)
    · refine cj_iconst C 0 dX3_has_16 rfl ?_
      cases hf
      exact cj_zret C rfl rfl rfl dX3_has_17
    · refine cj_iconst C 1 dX3_has_12 rfl ?_
      refine cj_goto C 17 dX3_has_13 rfl ?_
      cases hf
      exact cj_zret C rfl rfl rfl dX3_has_17
set_option maxHeartbeats 4000000 in
set_option maxRecDepth 100000 in
theorem ct_X3_angleAfter {l : Launch} {D : va_G} {z : cj_Zc} {ad : cj_Ad} (hI : cj_Ij (cj_EL z) ad) {μ : cj_Mm} {g : Nat} (hg : cj_isC g) {s0 : cj_S} {a1 : Int32} {a2 : Int32} {r : Int32} (hf : f_X3_angleAfter s0 a1 a2 = some r) : cj_Ct l (cj_YL D z ad) yX3_angleAfter cX3_angleAfter 3 (some .int) 0 [.ref (ad g 1), .int a1, .int a2] (cj_upG μ g s0) (some (.int r)) (cj_upG μ g s0) := by
  refine cj_Ct.of (by decide +kernel) hI (Nat.le_of_ble_eq_true rfl) [(0, .ref (ad g 1)), (1, .int a1), (2, .int a2)] rfl (fun X hX C => ?_)
  subst hX
  have C : cj_C (cj_YL D z ad) X cX3_angleAfter 3 RX3 0 (some .int) := C
  unfold f_X3_angleAfter at hf
  refine cj_aload_n C dX3_angleAfter_0 rfl 0 rfl ?_
  refine cj_getS (v := .ref (ad g 4)) (j := 3) C (eC_1 (z := z) (ad := ad) hg) rfl rfl cj_in3 (by decide) rfl cjq_72 rfl dX3_angleAfter_1 ?_
  refine cj_iload_n C dX3_angleAfter_4 rfl 1 rfl ?_
  refine cj_ialdS C (eC_4 (z := z) (ad := ad) hg) dX3_angleAfter_5 hf (fun hf => ?_)
  refine cj_aload_n C dX3_angleAfter_6 rfl 0 rfl ?_
  refine cj_getS (v := .ref (ad g 5)) (j := 4) C (eC_1 (z := z) (ad := ad) hg) rfl rfl cj_in3 (by decide) rfl cjq_74 rfl dX3_angleAfter_7 ?_
  refine cj_iload_n C dX3_angleAfter_10 rfl 1 rfl ?_
  refine cj_ialdS C (eC_5 (z := z) (ad := ad) hg) dX3_angleAfter_11 hf (fun hf => ?_)
  refine cj_iload_n C dX3_angleAfter_12 rfl 2 rfl ?_
  refine cj_imul C dX3_angleAfter_13 ?_
  refine cj_iadd C dX3_angleAfter_14 ?_
  refine cj_ltI hf (fun x1 hf => ?_)
  refine cj_bipush C 12 dX3_angleAfter_15 rfl ?_
  refine cj_irem C dX3_angleAfter_17 (by decide) ?_
  cases hf
  exact cj_iret C rfl dX3_angleAfter_18
set_option maxHeartbeats 4000000 in
set_option maxRecDepth 100000 in
theorem tl_X3_seenAside_L2 {D : va_G} {z : cj_Zc} {ad : cj_Ad} (hI : cj_Ij (cj_EL z) ad) {μ : cj_Mm} {g : Nat} (hg : cj_isC g) {y1 : Int32} {s3 : cj_S} {X : cj_X} (C : cj_C (cj_YL D z ad) X cX3_seenAside 3 RX3 0 (some .int)) {r : Int32} : ∀ (n : Nat) (x2 : Int32), f_X3_seenAside_L2 y1 s3 n x2 = some r → cj_G (cj_YL D z ad) X (some (.int r), cj_upG μ g s3) (cj_upG μ g s3) 2 [(0, .ref (ad g 1)), (1, .int y1), (2, .int x2)] [] := by
  intro n
  induction n with
  | zero =>
    intro x2 hf
    rw [f_X3_seenAside_L2] at hf
    cases hf
  | succ n ih =>
    intro x2 hf
    rw [f_X3_seenAside_L2] at hf
    refine cj_iload_n C dX3_seenAside_2 rfl 2 rfl ?_
    refine cj_aload_n C dX3_seenAside_3 rfl 0 rfl ?_
    refine cj_getS (v := .int (s3 1 0)) (j := 0) C (eC_1 (z := z) (ad := ad) hg) rfl rfl cj_in3 (by decide) rfl cjq_66 rfl dX3_seenAside_4 ?_
    refine cj_ic_ge C 48 dX3_seenAside_7 rfl hf (fun hf => ?_) (fun hf => ?_)
    · refine cj_iconst C 2 dX3_seenAside_48 rfl ?_
      cases hf
      exact cj_iret C rfl dX3_seenAside_49
    · refine cj_aload_n C dX3_seenAside_10 rfl 0 rfl ?_
      refine cj_getS (v := .ref (ad g 3)) (j := 2) C (eC_1 (z := z) (ad := ad) hg) rfl rfl cj_in3 (by decide) rfl cjq_70 rfl dX3_seenAside_11 ?_
      refine cj_iload_n C dX3_seenAside_14 rfl 2 rfl ?_
      refine cj_ialdS C (eC_3 (z := z) (ad := ad) hg) dX3_seenAside_15 hf (fun hf => ?_)
      refine cj_aload_n C dX3_seenAside_16 rfl 0 rfl ?_
      refine cj_getS (v := .ref (ad g 3)) (j := 2) C (eC_1 (z := z) (ad := ad) hg) rfl rfl cj_in3 (by decide) rfl cjq_70 rfl dX3_seenAside_17 ?_
      refine cj_iload_n C dX3_seenAside_20 rfl 1 rfl ?_
      refine cj_ialdS C (eC_3 (z := z) (ad := ad) hg) dX3_seenAside_21 hf (fun hf => ?_)
      refine cj_ic_ne C 42 dX3_seenAside_22 rfl hf (fun hf => ?_) (fun hf => ?_)
      · refine cj_iinc (lv' := [(2, .int (x2 + 1)), (0, .ref (ad g 1)), (1, .int y1)]) C dX3_seenAside_42 (j := 2) rfl rfl (by decide) rfl ?_
        refine cj_goto C 2 dX3_seenAside_45 rfl ?_
        refine cj_sub [1, 2, 0] rfl ?_
        exact ih (x2 + 1) hf
      · refine cj_aload_n C dX3_seenAside_25 rfl 0 rfl ?_
        refine cj_getS (v := .ref (ad g 2)) (j := 1) C (eC_1 (z := z) (ad := ad) hg) rfl rfl cj_in3 (by decide) rfl cjq_68 rfl dX3_seenAside_26 ?_
        refine cj_iload_n C dX3_seenAside_29 rfl 2 rfl ?_
        refine cj_ialdS C (eC_2 (z := z) (ad := ad) hg) dX3_seenAside_30 hf (fun hf => ?_)
        refine cj_aload_n C dX3_seenAside_31 rfl 0 rfl ?_
        refine cj_getS (v := .ref (ad g 2)) (j := 1) C (eC_1 (z := z) (ad := ad) hg) rfl rfl cj_in3 (by decide) rfl cjq_68 rfl dX3_seenAside_32 ?_
        refine cj_iload_n C dX3_seenAside_35 rfl 1 rfl ?_
        refine cj_ialdS C (eC_2 (z := z) (ad := ad) hg) dX3_seenAside_36 hf (fun hf => ?_)
        refine cj_ic_ge C 42 dX3_seenAside_37 rfl hf (fun hf => ?_) (fun hf => ?_)
        · refine cj_iinc (lv' := [(2, .int (x2 + 1)), (0, .ref (ad g 1)), (1, .int y1)]) C dX3_seenAside_42 (j := 2) rfl rfl (by decide) rfl ?_
          refine cj_goto C 2 dX3_seenAside_45 rfl ?_
          refine cj_sub [1, 2, 0] rfl ?_
          exact ih (x2 + 1) hf
        · refine cj_iconst C 0 dX3_seenAside_40 rfl ?_
          cases hf
          exact cj_iret C rfl dX3_seenAside_41
set_option maxHeartbeats 4000000 in
set_option maxRecDepth 100000 in
theorem ct_X3_seenAside {l : Launch} {D : va_G} {z : cj_Zc} {ad : cj_Ad} (hI : cj_Ij (cj_EL z) ad) {μ : cj_Mm} {g : Nat} (hg : cj_isC g) {s0 : cj_S} {a1 : Int32} {r : Int32} (hf : f_X3_seenAside s0 a1 = some r) : cj_Ct l (cj_YL D z ad) yX3_seenAside cX3_seenAside 3 (some .int) 0 [.ref (ad g 1), .int a1] (cj_upG μ g s0) (some (.int r)) (cj_upG μ g s0) := by
  refine cj_Ct.of (by decide +kernel) hI (Nat.le_of_ble_eq_true rfl) [(0, .ref (ad g 1)), (1, .int a1)] rfl (fun X hX C => ?_)
  subst hX
  have C : cj_C (cj_YL D z ad) X cX3_seenAside 3 RX3 0 (some .int) := C
  unfold f_X3_seenAside at hf
  refine cj_iconst C 0 dX3_seenAside_0 rfl ?_
  refine cj_istore_n (lv' := [(2, .int 0), (0, .ref (ad g 1)), (1, .int a1)]) C dX3_seenAside_1 rfl (by decide) rfl ?_
  refine cj_sub [1, 2, 0] rfl ?_
  exact tl_X3_seenAside_L2 hI hg C cj_FU 0 hf
set_option maxHeartbeats 4000000 in
set_option maxRecDepth 100000 in
theorem tl_X3_features_L5 {Y : cj_Y} (hI : cj_Ij Y.1 Y.2.2.2) {μ : cj_Mm} {y1 : Int32} {y2 : Int32} {X : cj_X} (C : cj_C Y X cX3_features 4 RX3 0 (some .int)) {r : Int32} : ∀ (n : Nat) (x3 : Int32) (x4 : Int32), f_X3_features_L5 y1 y2 n x3 x4 = some r → cj_G Y X (some (.int r), μ) (μ) 5 [(0, .int y1), (1, .int y2), (2, .int x3), (3, .int x4)] [] := by
  intro n
  induction n with
  | zero =>
    intro x3 x4 hf
    rw [f_X3_features_L5] at hf
    cases hf
  | succ n ih =>
    intro x3 x4 hf
    rw [f_X3_features_L5] at hf
    refine cj_iload_n C dX3_features_5 rfl 3 rfl ?_
    refine cj_iload_n C dX3_features_6 rfl 1 rfl ?_
    refine cj_ic_gt C 30 dX3_features_7 rfl hf (fun hf => ?_) (fun hf => ?_)
    · refine cj_iload_n C dX3_features_30 rfl 2 rfl ?_
      cases hf
      exact cj_iret C rfl dX3_features_31
    · refine cj_iload_n C dX3_features_10 rfl 2 rfl ?_
      refine cj_iconst C 1 dX3_features_11 rfl ?_
      refine cj_iload_n C dX3_features_12 rfl 0 rfl ?_
      refine cj_iload_n C dX3_features_13 rfl 3 rfl ?_
      refine cj_iadd C dX3_features_14 ?_
      refine cj_bipush C 12 dX3_features_15 rfl ?_
      refine cj_iadd C dX3_features_17 ?_
      refine cj_ltI hf (fun x5 hf => ?_)
      refine cj_bipush C 12 dX3_features_18 rfl ?_
      refine cj_irem C dX3_features_20 (by decide) ?_
      refine cj_ishl C dX3_features_21 ?_
      refine cj_ior C dX3_features_22 ?_
      refine cj_ltI hf (fun x6 hf => ?_)
      refine cj_istore_n (lv' := [(2, .int x6), (0, .int y1), (1, .int y2), (3, .int x4)]) C dX3_features_23 rfl (by decide) rfl ?_
      refine cj_iinc (lv' := [(3, .int (x4 + 1)), (2, .int x6), (0, .int y1), (1, .int y2)]) C dX3_features_24 (j := 3) rfl rfl (by decide) rfl ?_
      refine cj_goto C 5 dX3_features_27 rfl ?_
      refine cj_sub [2, 3, 1, 0] rfl ?_
      exact ih x6 (x4 + 1) hf
set_option maxHeartbeats 4000000 in
set_option maxRecDepth 100000 in
theorem ct_X3_features {l : Launch} {Y : cj_Y} (hI : cj_Ij Y.1 Y.2.2.2) {μ : cj_Mm} {a0 : Int32} {a1 : Int32} {r : Int32} (hf : f_X3_features a0 a1 = some r) : cj_Ct l Y yX3_features cX3_features 4 (some .int) 0 [.int a0, .int a1] (μ) (some (.int r)) (μ) := by
  refine cj_Ct.of (by decide +kernel) hI (Nat.le_of_ble_eq_true rfl) [(0, .int a0), (1, .int a1)] rfl (fun X hX C => ?_)
  subst hX
  have C : cj_C Y X cX3_features 4 RX3 0 (some .int) := C
  unfold f_X3_features at hf
  refine cj_iconst C 0 dX3_features_0 rfl ?_
  refine cj_istore_n (lv' := [(2, .int 0), (0, .int a0), (1, .int a1)]) C dX3_features_1 rfl (by decide) rfl ?_
  refine cj_iload_n C dX3_features_2 rfl 2 rfl ?_
  refine cj_ineg C dX3_features_3 ?_
  refine cj_istore_n (lv' := [(3, .int (-a1)), (2, .int 0), (0, .int a0), (1, .int a1)]) C dX3_features_4 rfl (by decide) rfl ?_
  refine cj_sub [2, 3, 1, 0] rfl ?_
  exact tl_X3_features_L5 hI C cj_FU 0 (-a1) hf
set_option maxHeartbeats 4000000 in
set_option maxRecDepth 100000 in
theorem ct_X3_seenAfter {l : Launch} {D : va_G} {z : cj_Zc} {ad : cj_Ad} (hI : cj_Ij (cj_EL z) ad) {μ : cj_Mm} {g : Nat} (hg : cj_isC g) {s0 : cj_S} {a1 : Int32} {a2 : Int32} {r : Int32} (hf : f_X3_seenAfter s0 a1 a2 = some r) : cj_Ct l (cj_YL D z ad) yX3_seenAfter cX3_seenAfter 3 (some .int) 1 [.ref (ad g 1), .int a1, .int a2] (cj_upG μ g s0) (some (.int r)) (cj_upG μ g s0) := by
  refine cj_Ct.of (by decide +kernel) hI (Nat.le_of_ble_eq_true rfl) [(0, .ref (ad g 1)), (1, .int a1), (2, .int a2)] rfl (fun X hX C => ?_)
  subst hX
  have C : cj_C (cj_YL D z ad) X cX3_seenAfter 3 RX3 1 (some .int) := C
  unfold f_X3_seenAfter at hf
  refine cj_aload_n C dX3_seenAfter_0 rfl 0 rfl ?_
  refine cj_iload_n C dX3_seenAfter_1 rfl 1 rfl ?_
  refine cj_iload_n C dX3_seenAfter_2 rfl 2 rfl ?_
  obtain ⟨x2, h1, hf⟩ := cj_bd_s hf
  refine cj_cV2i C cw_X3_angleAfter (ct_X3_angleAfter hI hg h1) cjq_385 cjq_386 cjq_384 (eC_1 (z := z) (ad := ad) hg) rfl rfl ⟨Nat.le_of_ble_eq_true rfl, Nat.le_of_ble_eq_true rfl⟩ (Nat.le_of_ble_eq_true rfl) dX3_seenAfter_3 ?_
  refine cj_aload_n C dX3_seenAfter_6 rfl 0 rfl ?_
  refine cj_iload_n C dX3_seenAfter_7 rfl 1 rfl ?_
  obtain ⟨x4, h3, hf⟩ := cj_bd_s hf
  refine cj_cV1i C cw_X3_seenAside (ct_X3_seenAside hI hg h3) cjq_389 cjq_390 cjq_388 (eC_1 (z := z) (ad := ad) hg) rfl rfl ⟨Nat.le_of_ble_eq_true rfl, Nat.le_of_ble_eq_true rfl⟩ (Nat.le_of_ble_eq_true rfl) dX3_seenAfter_8 ?_
  obtain ⟨x6, h5, hf⟩ := cj_bd_s hf
  refine cj_cS2i C cw_X3_features (ct_X3_features hI h5) cjq_393 cjq_392 ⟨Nat.le_of_ble_eq_true rfl, Nat.le_of_ble_eq_true rfl⟩ (Nat.le_of_ble_eq_true rfl) dX3_seenAfter_11 ?_
  cases hf
  exact cj_iret C rfl dX3_seenAfter_14
set_option maxHeartbeats 4000000 in
set_option maxRecDepth 100000 in
theorem ct_X0_turnPerson {l : Launch} {D : va_G} {z : cj_Zc} {ad : cj_Ad} (hI : cj_Ij (cj_EL z) ad) {μ : cj_Mm} {g : Nat} (hg : cj_isC g) {s0 : cj_S} {a1 : Int32} {a2 : Int32} {a3 : Int32} {r : Int32} {r2 : cj_S} (hf : f_X0_turnPerson s0 a1 a2 a3 = some (r, r2)) : cj_Ct l (cj_YL D z ad) yX0_turnPerson cX0_turnPerson 4 (some .int) 2 [.ref (ad g 0), .int a1, .int a2, .int a3] (cj_upG μ g s0) (some (.int r)) (cj_upG μ g r2) := by
  refine cj_Ct.of (by decide +kernel) hI (Nat.le_of_ble_eq_true rfl) [(0, .ref (ad g 0)), (1, .int a1), (2, .int a2), (3, .int a3)] rfl (fun X hX C => ?_)
  subst hX
  have C : cj_C (cj_YL D z ad) X cX0_turnPerson 4 RX0 2 (some .int) := C
  unfold f_X0_turnPerson at hf
  generalize hr2 : (r, r2) = r3 at hf
  obtain ⟨e1, e2⟩ : r = r3.1 ∧ r2 = r3.2 := by rw [← hr2]; exact ⟨rfl, rfl⟩
  rw [e1, e2]
  clear e1 e2 hr2
  obtain ⟨r, hr⟩ : ∃ r, r = r3 := ⟨_, rfl⟩
  rw [← hr] at hf ⊢
  clear hr
  refine cj_aload_n C dX0_turnPerson_0 rfl 0 rfl ?_
  refine cj_getS (v := .ref (ad g 1)) (j := 0) C (eC_0 (z := z) (ad := ad) hg) rfl rfl cj_in0 (by decide) rfl cjq_165 rfl dX0_turnPerson_1 ?_
  refine cj_iload_n C dX0_turnPerson_4 rfl 1 rfl ?_
  obtain ⟨x2, h1, hf⟩ := cj_bd_s hf
  refine cj_cV1i C cw_X3_has (ct_X3_has hI hg h1) cjq_377 cjq_378 cjq_376 (eC_1 (z := z) (ad := ad) hg) rfl rfl ⟨Nat.le_of_ble_eq_true rfl, Nat.le_of_ble_eq_true rfl⟩ (Nat.le_of_ble_eq_true rfl) dX0_turnPerson_5 ?_
  refine cj_if_eq C 31 dX0_turnPerson_8 rfl hf (fun hf => ?_) (fun hf => ?_)
  · refine cj_ldc C cjq_357 dX0_turnPerson_31 ?_
    cases hf
    exact cj_iret C rfl dX0_turnPerson_33
  · refine cj_iload_n C dX0_turnPerson_11 rfl 2 rfl ?_
    refine cj_iconst C 0 dX0_turnPerson_12 rfl ?_
    refine cj_bipush C 11 dX0_turnPerson_13 rfl ?_
    obtain ⟨x4, h3, hf⟩ := cj_bd_s hf
    refine cj_cN3i C cw_X8_isWithin (ct_X8_isWithin hI h3) cjq_355 cjn_X0_64 ⟨Nat.le_of_ble_eq_true rfl, Nat.le_of_ble_eq_true rfl⟩ (Nat.le_of_ble_eq_true rfl) dX0_turnPerson_15 ?_
    refine cj_if_eq C 31 dX0_turnPerson_18 rfl hf (fun hf => ?_) (fun hf => ?_)
    · refine cj_ldc C cjq_357 dX0_turnPerson_31 ?_
      cases hf
      exact cj_iret C rfl dX0_turnPerson_33
    · refine cj_iload_n C dX0_turnPerson_21 rfl 3 rfl ?_
      refine cj_iconst C 0 dX0_turnPerson_22 rfl ?_
      refine cj_bipush C 11 dX0_turnPerson_23 rfl ?_
      obtain ⟨x6, h5, hf⟩ := cj_bd_s hf
      refine cj_cN3i C cw_X8_isWithin (ct_X8_isWithin hI h5) cjq_355 cjn_X0_64 ⟨Nat.le_of_ble_eq_true rfl, Nat.le_of_ble_eq_true rfl⟩ (Nat.le_of_ble_eq_true rfl) dX0_turnPerson_25 ?_
      refine cj_if_ne C 34 dX0_turnPerson_28 rfl hf (fun hf => ?_) (fun hf => ?_)
      · refine cj_aload_n C dX0_turnPerson_34 rfl 0 rfl ?_
        refine cj_getS (v := .ref (ad g 1)) (j := 0) C (eC_0 (z := z) (ad := ad) hg) rfl rfl cj_in0 (by decide) rfl cjq_165 rfl dX0_turnPerson_35 ?_
        refine cj_getS (v := .ref (ad g 4)) (j := 3) C (eC_1 (z := z) (ad := ad) hg) rfl rfl cj_in3 (by decide) rfl cjq_73 rfl dX0_turnPerson_38 ?_
        refine cj_iload_n C dX0_turnPerson_41 rfl 1 rfl ?_
        refine cj_iload_n C dX0_turnPerson_42 rfl 2 rfl ?_
        refine cj_iastS C (eC_4 (z := z) (ad := ad) hg) dX0_turnPerson_43 hf (fun hf => ?_)
        refine cj_ltS hf (fun s7 hf => ?_)
        refine cj_aload_n C dX0_turnPerson_44 rfl 0 rfl ?_
        refine cj_getS (v := .ref (ad g 1)) (j := 0) C (eC_0 (z := z) (ad := ad) hg) rfl rfl cj_in0 (by decide) rfl cjq_165 rfl dX0_turnPerson_45 ?_
        refine cj_getS (v := .ref (ad g 5)) (j := 4) C (eC_1 (z := z) (ad := ad) hg) rfl rfl cj_in3 (by decide) rfl cjq_75 rfl dX0_turnPerson_48 ?_
        refine cj_iload_n C dX0_turnPerson_51 rfl 1 rfl ?_
        refine cj_iload_n C dX0_turnPerson_52 rfl 3 rfl ?_
        refine cj_iastS C (eC_5 (z := z) (ad := ad) hg) dX0_turnPerson_53 hf (fun hf => ?_)
        refine cj_ltS hf (fun s8 hf => ?_)
        refine cj_aload_n C dX0_turnPerson_54 rfl 0 rfl ?_
        refine cj_getS (v := .ref (ad g 1)) (j := 0) C (eC_0 (z := z) (ad := ad) hg) rfl rfl cj_in0 (by decide) rfl cjq_165 rfl dX0_turnPerson_55 ?_
        refine cj_iload_n C dX0_turnPerson_58 rfl 1 rfl ?_
        refine cj_iconst C 0 dX0_turnPerson_59 rfl ?_
        obtain ⟨x10, h9, hf⟩ := cj_bd_s hf
        refine cj_cV2i C cw_X3_seenAfter (ct_X3_seenAfter hI hg h9) cjq_381 cjq_382 cjq_380 (eC_1 (z := z) (ad := ad) hg) rfl rfl ⟨Nat.le_of_ble_eq_true rfl, Nat.le_of_ble_eq_true rfl⟩ (Nat.le_of_ble_eq_true rfl) dX0_turnPerson_60 ?_
        cases hf
        exact cj_iret C rfl dX0_turnPerson_63
      · refine cj_ldc C cjq_357 dX0_turnPerson_31 ?_
        cases hf
        exact cj_iret C rfl dX0_turnPerson_33
set_option maxHeartbeats 4000000 in
set_option maxRecDepth 100000 in
theorem ct_X0_addPaper {l : Launch} {D : va_G} {z : cj_Zc} {ad : cj_Ad} (hI : cj_Ij (cj_EL z) ad) {μ : cj_Mm} {g : Nat} (hg : cj_isC g) {s0 : cj_S} {a1 : Int32} {a2 : Int32} {r : Int32} {r2 : cj_S} (hf : f_X0_addPaper s0 a1 a2 = some (r, r2)) : cj_Ct l (cj_YL D z ad) yX0_addPaper cX0_addPaper 3 (some .int) 1 [.ref (ad g 0), .int a1, .int a2] (cj_upG μ g s0) (some (.int r)) (cj_upG μ g r2) := by
  refine cj_Ct.of (by decide +kernel) hI (Nat.le_of_ble_eq_true rfl) [(0, .ref (ad g 0)), (1, .int a1), (2, .int a2)] rfl (fun X hX C => ?_)
  subst hX
  have C : cj_C (cj_YL D z ad) X cX0_addPaper 3 RX0 1 (some .int) := C
  unfold f_X0_addPaper at hf
  generalize hr2 : (r, r2) = r3 at hf
  obtain ⟨e1, e2⟩ : r = r3.1 ∧ r2 = r3.2 := by rw [← hr2]; exact ⟨rfl, rfl⟩
  rw [e1, e2]
  clear e1 e2 hr2
  obtain ⟨r, hr⟩ : ∃ r, r = r3 := ⟨_, rfl⟩
  rw [← hr] at hf ⊢
  clear hr
  refine cj_iload_n C dX0_addPaper_0 rfl 1 rfl ?_
  refine cj_iconst C 1 dX0_addPaper_1 rfl ?_
  refine cj_bipush C 20 dX0_addPaper_2 rfl ?_
  obtain ⟨x2, h1, hf⟩ := cj_bd_s hf
  refine cj_cN3i C cw_X8_isWithin (ct_X8_isWithin hI h1) cjq_355 cjn_X0_64 ⟨Nat.le_of_ble_eq_true rfl, Nat.le_of_ble_eq_true rfl⟩ (Nat.le_of_ble_eq_true rfl) dX0_addPaper_4 ?_
  refine cj_if_eq C 21 dX0_addPaper_7 rfl hf (fun hf => ?_) (fun hf => ?_)
  · refine cj_ldc C cjq_357 dX0_addPaper_21 ?_
    cases hf
    exact cj_iret C rfl dX0_addPaper_23
  · refine cj_iload_n C dX0_addPaper_10 rfl 2 rfl ?_
    refine cj_iconst C 1 dX0_addPaper_11 rfl ?_
    refine cj_sipush C 299 dX0_addPaper_12 rfl ?_
    obtain ⟨x4, h3, hf⟩ := cj_bd_s hf
    refine cj_cN3i C cw_X8_isWithin (ct_X8_isWithin hI h3) cjq_355 cjn_X0_64 ⟨Nat.le_of_ble_eq_true rfl, Nat.le_of_ble_eq_true rfl⟩ (Nat.le_of_ble_eq_true rfl) dX0_addPaper_15 ?_
    refine cj_if_ne C 24 dX0_addPaper_18 rfl hf (fun hf => ?_) (fun hf => ?_)
    · refine cj_aload_n C dX0_addPaper_24 rfl 0 rfl ?_
      refine cj_getS (v := .ref (ad g 14)) (j := 2) C (eC_0 (z := z) (ad := ad) hg) rfl rfl cj_in0 (by decide) rfl cjq_169 rfl dX0_addPaper_25 ?_
      refine cj_getS (v := .int (s0 14 0)) (j := 0) C (eC_14 (z := z) (ad := ad) hg) rfl rfl cj_in2 (by decide) rfl cjq_139 rfl dX0_addPaper_28 ?_
      refine cj_iconst C 4 dX0_addPaper_31 rfl ?_
      refine cj_ic_lt C 38 dX0_addPaper_32 rfl hf (fun hf => ?_) (fun hf => ?_)
      · refine cj_aload_n C dX0_addPaper_38 rfl 0 rfl ?_
        refine cj_getS (v := .ref (ad g 14)) (j := 2) C (eC_0 (z := z) (ad := ad) hg) rfl rfl cj_in0 (by decide) rfl cjq_169 rfl dX0_addPaper_39 ?_
        refine cj_getS (v := .ref (ad g 15)) (j := 1) C (eC_14 (z := z) (ad := ad) hg) rfl rfl cj_in2 (by decide) rfl cjq_141 rfl dX0_addPaper_42 ?_
        refine cj_aload_n C dX0_addPaper_45 rfl 0 rfl ?_
        refine cj_getS (v := .ref (ad g 14)) (j := 2) C (eC_0 (z := z) (ad := ad) hg) rfl rfl cj_in0 (by decide) rfl cjq_169 rfl dX0_addPaper_46 ?_
        refine cj_getS (v := .int (s0 14 0)) (j := 0) C (eC_14 (z := z) (ad := ad) hg) rfl rfl cj_in2 (by decide) rfl cjq_139 rfl dX0_addPaper_49 ?_
        refine cj_iload_n C dX0_addPaper_52 rfl 1 rfl ?_
        refine cj_iastS C (eC_15 (z := z) (ad := ad) hg) dX0_addPaper_53 hf (fun hf => ?_)
        refine cj_ltS hf (fun s5 hf => ?_)
        refine cj_aload_n C dX0_addPaper_54 rfl 0 rfl ?_
        refine cj_getS (v := .ref (ad g 14)) (j := 2) C (eC_0 (z := z) (ad := ad) hg) rfl rfl cj_in0 (by decide) rfl cjq_169 rfl dX0_addPaper_55 ?_
        refine cj_getS (v := .ref (ad g 16)) (j := 2) C (eC_14 (z := z) (ad := ad) hg) rfl rfl cj_in2 (by decide) rfl cjq_143 rfl dX0_addPaper_58 ?_
        refine cj_aload_n C dX0_addPaper_61 rfl 0 rfl ?_
        refine cj_getS (v := .ref (ad g 14)) (j := 2) C (eC_0 (z := z) (ad := ad) hg) rfl rfl cj_in0 (by decide) rfl cjq_169 rfl dX0_addPaper_62 ?_
        refine cj_getS (v := .int (s5 14 0)) (j := 0) C (eC_14 (z := z) (ad := ad) hg) rfl rfl cj_in2 (by decide) rfl cjq_139 rfl dX0_addPaper_65 ?_
        refine cj_iload_n C dX0_addPaper_68 rfl 2 rfl ?_
        refine cj_iastS C (eC_16 (z := z) (ad := ad) hg) dX0_addPaper_69 hf (fun hf => ?_)
        refine cj_ltS hf (fun s6 hf => ?_)
        refine cj_aload_n C dX0_addPaper_70 rfl 0 rfl ?_
        refine cj_getS (v := .ref (ad g 14)) (j := 2) C (eC_0 (z := z) (ad := ad) hg) rfl rfl cj_in0 (by decide) rfl cjq_169 rfl dX0_addPaper_71 ?_
        refine cj_dup C dX0_addPaper_74 rfl ?_
        refine cj_getS (v := .int (s6 14 0)) (j := 0) C (eC_14 (z := z) (ad := ad) hg) rfl rfl cj_in2 (by decide) rfl cjq_139 rfl dX0_addPaper_75 ?_
        refine cj_iconst C 1 dX0_addPaper_78 rfl ?_
        refine cj_iadd C dX0_addPaper_79 ?_
        refine cj_putS (j := 0) C (eC_14 (z := z) (ad := ad) hg) rfl rfl rfl rfl cj_in2 tyX2_ok nmX2 (by decide) rfl cjq_139 rfl rfl rfl (Nat.le_of_ble_eq_true rfl) dX0_addPaper_80 ?_
        refine cj_ltS hf (fun s7 hf => ?_)
        refine cj_aload_n C dX0_addPaper_83 rfl 0 rfl ?_
        refine cj_getS (v := .ref (ad g 14)) (j := 2) C (eC_0 (z := z) (ad := ad) hg) rfl rfl cj_in0 (by decide) rfl cjq_169 rfl dX0_addPaper_84 ?_
        refine cj_getS (v := .int (s7 14 0)) (j := 0) C (eC_14 (z := z) (ad := ad) hg) rfl rfl cj_in2 (by decide) rfl cjq_139 rfl dX0_addPaper_87 ?_
        refine cj_iconst C 1 dX0_addPaper_90 rfl ?_
        refine cj_isub C dX0_addPaper_91 ?_
        cases hf
        exact cj_iret C rfl dX0_addPaper_92
      · refine cj_ldc C cjq_363 dX0_addPaper_35 ?_
        cases hf
        exact cj_iret C rfl dX0_addPaper_37
    · refine cj_ldc C cjq_357 dX0_addPaper_21 ?_
      cases hf
      exact cj_iret C rfl dX0_addPaper_23
set_option maxHeartbeats 4000000 in
set_option maxRecDepth 100000 in
theorem ct_X0_lookAt {l : Launch} {D : va_G} {z : cj_Zc} {ad : cj_Ad} (hI : cj_Ij (cj_EL z) ad) {μ : cj_Mm} {g : Nat} (hg : cj_isC g) {s0 : cj_S} {a1 : Int32} {r : Int32} {r2 : cj_S} (hf : f_X0_lookAt s0 a1 = some (r, r2)) : cj_Ct l (cj_YL D z ad) yX0_lookAt cX0_lookAt 2 (some .int) 2 [.ref (ad g 0), .int a1] (cj_upG μ g s0) (some (.int r)) (cj_upG μ g r2) := by
  refine cj_Ct.of (by decide +kernel) hI (Nat.le_of_ble_eq_true rfl) [(0, .ref (ad g 0)), (1, .int a1)] rfl (fun X hX C => ?_)
  subst hX
  have C : cj_C (cj_YL D z ad) X cX0_lookAt 2 RX0 2 (some .int) := C
  unfold f_X0_lookAt at hf
  generalize hr2 : (r, r2) = r3 at hf
  obtain ⟨e1, e2⟩ : r = r3.1 ∧ r2 = r3.2 := by rw [← hr2]; exact ⟨rfl, rfl⟩
  rw [e1, e2]
  clear e1 e2 hr2
  obtain ⟨r, hr⟩ : ∃ r, r = r3 := ⟨_, rfl⟩
  rw [← hr] at hf ⊢
  clear hr
  refine cj_iload_n C dX0_lookAt_0 rfl 1 rfl ?_
  refine cj_iconst C (-1) dX0_lookAt_1 rfl ?_
  refine cj_jn (Hyp := fun K1 => ∀ (u : Unit), K1 u = some r → cj_G (cj_YL D z ad) X (some (.int r.1), cj_upG μ g r.2) (cj_upG μ g s0) 19 [(0, .ref (ad g 0)), (1, .int a1)] []) hf (fun u hf => ?_) (fun K1 hK1 hf => ?_)
  · refine cj_aload_n C dX0_lookAt_19 rfl 0 rfl ?_
    refine cj_iload_n C dX0_lookAt_20 rfl 1 rfl ?_
    refine cj_putS (j := 6) C (eC_0 (z := z) (ad := ad) hg) rfl rfl rfl rfl cj_in0 tyX0_ok nmX0 (by decide) rfl cjq_174 rfl rfl rfl (Nat.le_of_ble_eq_true rfl) dX0_lookAt_21 ?_
    refine cj_ltS hf (fun s2 hf => ?_)
    refine cj_iload_n C dX0_lookAt_24 rfl 1 rfl ?_
    refine cj_iconst C (-1) dX0_lookAt_25 rfl ?_
    refine cj_ic_ne C 33 dX0_lookAt_26 rfl hf (fun hf => ?_) (fun hf => ?_)
    · refine cj_aload_n C dX0_lookAt_33 rfl 0 rfl ?_
      refine cj_getS (v := .ref (ad g 1)) (j := 0) C (eC_0 (z := z) (ad := ad) hg) rfl rfl cj_in0 (by decide) rfl cjq_165 rfl dX0_lookAt_34 ?_
      refine cj_iload_n C dX0_lookAt_37 rfl 1 rfl ?_
      refine cj_iconst C 0 dX0_lookAt_38 rfl ?_
      obtain ⟨x4, h3, hf⟩ := cj_bd_s hf
      refine cj_cV2i C cw_X3_seenAfter (ct_X3_seenAfter hI hg h3) cjq_381 cjq_382 cjq_380 (eC_1 (z := z) (ad := ad) hg) rfl rfl ⟨Nat.le_of_ble_eq_true rfl, Nat.le_of_ble_eq_true rfl⟩ (Nat.le_of_ble_eq_true rfl) dX0_lookAt_39 ?_
      cases hf
      exact cj_iret C rfl dX0_lookAt_42
    · refine cj_iconst C 0 dX0_lookAt_29 rfl ?_
      refine cj_goto C 42 dX0_lookAt_30 rfl ?_
      cases hf
      exact cj_iret C rfl dX0_lookAt_42
  · refine cj_ic_eq C 19 dX0_lookAt_2 rfl hf (fun hf => ?_) (fun hf => ?_)
    · exact hK1 () hf
    · refine cj_aload_n C dX0_lookAt_5 rfl 0 rfl ?_
      refine cj_getS (v := .ref (ad g 1)) (j := 0) C (eC_0 (z := z) (ad := ad) hg) rfl rfl cj_in0 (by decide) rfl cjq_165 rfl dX0_lookAt_6 ?_
      refine cj_iload_n C dX0_lookAt_9 rfl 1 rfl ?_
      obtain ⟨x6, h5, hf⟩ := cj_bd_s hf
      refine cj_cV1i C cw_X3_has (ct_X3_has hI hg h5) cjq_377 cjq_378 cjq_376 (eC_1 (z := z) (ad := ad) hg) rfl rfl ⟨Nat.le_of_ble_eq_true rfl, Nat.le_of_ble_eq_true rfl⟩ (Nat.le_of_ble_eq_true rfl) dX0_lookAt_10 ?_
      refine cj_if_ne C 19 dX0_lookAt_13 rfl hf (fun hf => ?_) (fun hf => ?_)
      · exact hK1 () hf
      · refine cj_ldc C cjq_357 dX0_lookAt_16 ?_
        cases hf
        exact cj_iret C rfl dX0_lookAt_18
set_option maxHeartbeats 4000000 in
set_option maxRecDepth 100000 in
theorem ct_X6_add {l : Launch} {D : va_G} {z : cj_Zc} {ad : cj_Ad} (hI : cj_Ij (cj_EL z) ad) {μ : cj_Mm} {g : Nat} (hg : cj_isC g) {s0 : cj_S} {a1 : Int32} {r : Int32} {r2 : cj_S} (hf : f_X6_add s0 a1 = some (r, r2)) : cj_Ct l (cj_YL D z ad) yX6_add cX6_add 2 (some .int) 0 [.ref (ad g 9), .int a1] (cj_upG μ g s0) (some (.int r)) (cj_upG μ g r2) := by
  refine cj_Ct.of (by decide +kernel) hI (Nat.le_of_ble_eq_true rfl) [(0, .ref (ad g 9)), (1, .int a1)] rfl (fun X hX C => ?_)
  subst hX
  have C : cj_C (cj_YL D z ad) X cX6_add 2 RX6 0 (some .int) := C
  unfold f_X6_add at hf
  generalize hr2 : (r, r2) = r3 at hf
  obtain ⟨e1, e2⟩ : r = r3.1 ∧ r2 = r3.2 := by rw [← hr2]; exact ⟨rfl, rfl⟩
  rw [e1, e2]
  clear e1 e2 hr2
  obtain ⟨r, hr⟩ : ∃ r, r = r3 := ⟨_, rfl⟩
  rw [← hr] at hf ⊢
  clear hr
  refine cj_aload_n C dX6_add_0 rfl 0 rfl ?_
  refine cj_getS (v := .ref (ad g 10)) (j := 2) C (eC_9 (z := z) (ad := ad) hg) rfl rfl cj_in6 (by decide) rfl cjq_110 rfl dX6_add_1 ?_
  refine cj_aload_n C dX6_add_4 rfl 0 rfl ?_
  refine cj_getS (v := .int (s0 9 0)) (j := 0) C (eC_9 (z := z) (ad := ad) hg) rfl rfl cj_in6 (by decide) rfl cjq_105 rfl dX6_add_5 ?_
  refine cj_aload_n C dX6_add_8 rfl 0 rfl ?_
  refine cj_getS (v := .int (s0 9 1)) (j := 1) C (eC_9 (z := z) (ad := ad) hg) rfl rfl cj_in6 (by decide) rfl cjq_108 rfl dX6_add_9 ?_
  refine cj_iastS C (eC_10 (z := z) (ad := ad) hg) dX6_add_12 hf (fun hf => ?_)
  refine cj_ltS hf (fun s1 hf => ?_)
  refine cj_aload_n C dX6_add_13 rfl 0 rfl ?_
  refine cj_getS (v := .ref (ad g 11)) (j := 3) C (eC_9 (z := z) (ad := ad) hg) rfl rfl cj_in6 (by decide) rfl cjq_113 rfl dX6_add_14 ?_
  refine cj_aload_n C dX6_add_17 rfl 0 rfl ?_
  refine cj_getS (v := .int (s1 9 0)) (j := 0) C (eC_9 (z := z) (ad := ad) hg) rfl rfl cj_in6 (by decide) rfl cjq_105 rfl dX6_add_18 ?_
  refine cj_iload_n C dX6_add_21 rfl 1 rfl ?_
  refine cj_iastS C (eC_11 (z := z) (ad := ad) hg) dX6_add_22 hf (fun hf => ?_)
  refine cj_ltS hf (fun s2 hf => ?_)
  refine cj_aload_n C dX6_add_23 rfl 0 rfl ?_
  refine cj_getS (v := .ref (ad g 12)) (j := 4) C (eC_9 (z := z) (ad := ad) hg) rfl rfl cj_in6 (by decide) rfl cjq_115 rfl dX6_add_24 ?_
  refine cj_aload_n C dX6_add_27 rfl 0 rfl ?_
  refine cj_getS (v := .int (s2 9 0)) (j := 0) C (eC_9 (z := z) (ad := ad) hg) rfl rfl cj_in6 (by decide) rfl cjq_105 rfl dX6_add_28 ?_
  refine cj_iconst C 0 dX6_add_31 rfl ?_
  refine cj_iastS C (eC_12 (z := z) (ad := ad) hg) dX6_add_32 hf (fun hf => ?_)
  refine cj_ltS hf (fun s3 hf => ?_)
  refine cj_aload_n C dX6_add_33 rfl 0 rfl ?_
  refine cj_getS (v := .ref (ad g 13)) (j := 5) C (eC_9 (z := z) (ad := ad) hg) rfl rfl cj_in6 (by decide) rfl cjq_117 rfl dX6_add_34 ?_
  refine cj_aload_n C dX6_add_37 rfl 0 rfl ?_
  refine cj_getS (v := .int (s3 9 0)) (j := 0) C (eC_9 (z := z) (ad := ad) hg) rfl rfl cj_in6 (by decide) rfl cjq_105 rfl dX6_add_38 ?_
  refine cj_iconst C 0 dX6_add_41 rfl ?_
  refine cj_iastS C (eC_13 (z := z) (ad := ad) hg) dX6_add_42 hf (fun hf => ?_)
  refine cj_ltS hf (fun s4 hf => ?_)
  refine cj_aload_n C dX6_add_43 rfl 0 rfl ?_
  refine cj_dup C dX6_add_44 rfl ?_
  refine cj_getS (v := .int (s4 9 0)) (j := 0) C (eC_9 (z := z) (ad := ad) hg) rfl rfl cj_in6 (by decide) rfl cjq_105 rfl dX6_add_45 ?_
  refine cj_iconst C 1 dX6_add_48 rfl ?_
  refine cj_iadd C dX6_add_49 ?_
  refine cj_putS (j := 0) C (eC_9 (z := z) (ad := ad) hg) rfl rfl rfl rfl cj_in6 tyX6_ok nmX6 (by decide) rfl cjq_105 rfl rfl rfl (Nat.le_of_ble_eq_true rfl) dX6_add_50 ?_
  refine cj_ltS hf (fun s5 hf => ?_)
  refine cj_aload_n C dX6_add_53 rfl 0 rfl ?_
  refine cj_dup C dX6_add_54 rfl ?_
  refine cj_getS (v := .int (s5 9 1)) (j := 1) C (eC_9 (z := z) (ad := ad) hg) rfl rfl cj_in6 (by decide) rfl cjq_108 rfl dX6_add_55 ?_
  refine cj_iconst C 1 dX6_add_58 rfl ?_
  refine cj_iadd C dX6_add_59 ?_
  refine cj_putS (j := 1) C (eC_9 (z := z) (ad := ad) hg) rfl rfl rfl rfl cj_in6 tyX6_ok nmX6 (by decide) rfl cjq_108 rfl rfl rfl (Nat.le_of_ble_eq_true rfl) dX6_add_60 ?_
  refine cj_ltS hf (fun s6 hf => ?_)
  refine cj_aload_n C dX6_add_63 rfl 0 rfl ?_
  refine cj_getS (v := .int (s6 9 1)) (j := 1) C (eC_9 (z := z) (ad := ad) hg) rfl rfl cj_in6 (by decide) rfl cjq_108 rfl dX6_add_64 ?_
  refine cj_iconst C 1 dX6_add_67 rfl ?_
  refine cj_isub C dX6_add_68 ?_
  cases hf
  exact cj_iret C rfl dX6_add_69
set_option maxHeartbeats 4000000 in
set_option maxRecDepth 100000 in
theorem ct_X0_beginSheet {l : Launch} {D : va_G} {z : cj_Zc} {ad : cj_Ad} (hI : cj_Ij (cj_EL z) ad) {μ : cj_Mm} {g : Nat} (hg : cj_isC g) {s0 : cj_S} {a1 : Int32} {r : Int32} {r2 : cj_S} (hf : f_X0_beginSheet s0 a1 = some (r, r2)) : cj_Ct l (cj_YL D z ad) yX0_beginSheet cX0_beginSheet 2 (some .int) 1 [.ref (ad g 0), .int a1] (cj_upG μ g s0) (some (.int r)) (cj_upG μ g r2) := by
  refine cj_Ct.of (by decide +kernel) hI (Nat.le_of_ble_eq_true rfl) [(0, .ref (ad g 0)), (1, .int a1)] rfl (fun X hX C => ?_)
  subst hX
  have C : cj_C (cj_YL D z ad) X cX0_beginSheet 2 RX0 1 (some .int) := C
  unfold f_X0_beginSheet at hf
  generalize hr2 : (r, r2) = r3 at hf
  obtain ⟨e1, e2⟩ : r = r3.1 ∧ r2 = r3.2 := by rw [← hr2]; exact ⟨rfl, rfl⟩
  rw [e1, e2]
  clear e1 e2 hr2
  obtain ⟨r, hr⟩ : ∃ r, r = r3 := ⟨_, rfl⟩
  rw [← hr] at hf ⊢
  clear hr
  refine cj_aload_n C dX0_beginSheet_0 rfl 0 rfl ?_
  refine cj_getS (v := .ref (ad g 1)) (j := 0) C (eC_0 (z := z) (ad := ad) hg) rfl rfl cj_in0 (by decide) rfl cjq_165 rfl dX0_beginSheet_1 ?_
  refine cj_iload_n C dX0_beginSheet_4 rfl 1 rfl ?_
  obtain ⟨x2, h1, hf⟩ := cj_bd_s hf
  refine cj_cV1i C cw_X3_has (ct_X3_has hI hg h1) cjq_377 cjq_378 cjq_376 (eC_1 (z := z) (ad := ad) hg) rfl rfl ⟨Nat.le_of_ble_eq_true rfl, Nat.le_of_ble_eq_true rfl⟩ (Nat.le_of_ble_eq_true rfl) dX0_beginSheet_5 ?_
  refine cj_if_ne C 14 dX0_beginSheet_8 rfl hf (fun hf => ?_) (fun hf => ?_)
  · refine cj_aload_n C dX0_beginSheet_14 rfl 0 rfl ?_
    refine cj_getS (v := .ref (ad g 9)) (j := 1) C (eC_0 (z := z) (ad := ad) hg) rfl rfl cj_in0 (by decide) rfl cjq_167 rfl dX0_beginSheet_15 ?_
    refine cj_getS (v := .int (s0 9 0)) (j := 0) C (eC_9 (z := z) (ad := ad) hg) rfl rfl cj_in6 (by decide) rfl cjq_106 rfl dX0_beginSheet_18 ?_
    refine cj_bipush C 10 dX0_beginSheet_21 rfl ?_
    refine cj_ic_lt C 29 dX0_beginSheet_23 rfl hf (fun hf => ?_) (fun hf => ?_)
    · refine cj_aload_n C dX0_beginSheet_29 rfl 0 rfl ?_
      refine cj_getS (v := .ref (ad g 9)) (j := 1) C (eC_0 (z := z) (ad := ad) hg) rfl rfl cj_in0 (by decide) rfl cjq_167 rfl dX0_beginSheet_30 ?_
      refine cj_iload_n C dX0_beginSheet_33 rfl 1 rfl ?_
      obtain ⟨x4, s5, h3, hf⟩ := cj_bp_s hf
      refine cj_cV1i C cw_X6_add (ct_X6_add hI hg h3) cjq_420 cjq_421 cjq_419 (eC_9 (z := z) (ad := ad) hg) rfl rfl ⟨Nat.le_of_ble_eq_true rfl, Nat.le_of_ble_eq_true rfl⟩ (Nat.le_of_ble_eq_true rfl) dX0_beginSheet_34 ?_
      cases hf
      exact cj_iret C rfl dX0_beginSheet_37
    · refine cj_ldc C cjq_363 dX0_beginSheet_26 ?_
      cases hf
      exact cj_iret C rfl dX0_beginSheet_28
  · refine cj_ldc C cjq_357 dX0_beginSheet_11 ?_
    cases hf
    exact cj_iret C rfl dX0_beginSheet_13
set_option maxHeartbeats 4000000 in
set_option maxRecDepth 100000 in
theorem tl_X6_placeOf_L2 {D : va_G} {z : cj_Zc} {ad : cj_Ad} (hI : cj_Ij (cj_EL z) ad) {μ : cj_Mm} {g : Nat} (hg : cj_isC g) {y1 : Int32} {s3 : cj_S} {X : cj_X} (C : cj_C (cj_YL D z ad) X cX6_placeOf 3 RX6 0 (some .int)) {r : Int32} : ∀ (n : Nat) (x2 : Int32), f_X6_placeOf_L2 y1 s3 n x2 = some r → cj_G (cj_YL D z ad) X (some (.int r), cj_upG μ g s3) (cj_upG μ g s3) 2 [(0, .ref (ad g 9)), (1, .int y1), (2, .int x2)] [] := by
  intro n
  induction n with
  | zero =>
    intro x2 hf
    rw [f_X6_placeOf_L2] at hf
    cases hf
  | succ n ih =>
    intro x2 hf
    rw [f_X6_placeOf_L2] at hf
    refine cj_iload_n C dX6_placeOf_2 rfl 2 rfl ?_
    refine cj_aload_n C dX6_placeOf_3 rfl 0 rfl ?_
    refine cj_getS (v := .int (s3 9 0)) (j := 0) C (eC_9 (z := z) (ad := ad) hg) rfl rfl cj_in6 (by decide) rfl cjq_105 rfl dX6_placeOf_4 ?_
    refine cj_ic_ge C 28 dX6_placeOf_7 rfl hf (fun hf => ?_) (fun hf => ?_)
    · refine cj_iconst C (-1) dX6_placeOf_28 rfl ?_
      cases hf
      exact cj_iret C rfl dX6_placeOf_29
    · refine cj_aload_n C dX6_placeOf_10 rfl 0 rfl ?_
      refine cj_getS (v := .ref (ad g 10)) (j := 2) C (eC_9 (z := z) (ad := ad) hg) rfl rfl cj_in6 (by decide) rfl cjq_110 rfl dX6_placeOf_11 ?_
      refine cj_iload_n C dX6_placeOf_14 rfl 2 rfl ?_
      refine cj_ialdS C (eC_10 (z := z) (ad := ad) hg) dX6_placeOf_15 hf (fun hf => ?_)
      refine cj_iload_n C dX6_placeOf_16 rfl 1 rfl ?_
      refine cj_ic_ne C 22 dX6_placeOf_17 rfl hf (fun hf => ?_) (fun hf => ?_)
      · refine cj_iinc (lv' := [(2, .int (x2 + 1)), (0, .ref (ad g 9)), (1, .int y1)]) C dX6_placeOf_22 (j := 2) rfl rfl (by decide) rfl ?_
        refine cj_goto C 2 dX6_placeOf_25 rfl ?_
        refine cj_sub [1, 2, 0] rfl ?_
        exact ih (x2 + 1) hf
      · refine cj_iload_n C dX6_placeOf_20 rfl 2 rfl ?_
        cases hf
        exact cj_iret C rfl dX6_placeOf_21
set_option maxHeartbeats 4000000 in
set_option maxRecDepth 100000 in
theorem ct_X6_placeOf {l : Launch} {D : va_G} {z : cj_Zc} {ad : cj_Ad} (hI : cj_Ij (cj_EL z) ad) {μ : cj_Mm} {g : Nat} (hg : cj_isC g) {s0 : cj_S} {a1 : Int32} {r : Int32} (hf : f_X6_placeOf s0 a1 = some r) : cj_Ct l (cj_YL D z ad) yX6_placeOf cX6_placeOf 3 (some .int) 0 [.ref (ad g 9), .int a1] (cj_upG μ g s0) (some (.int r)) (cj_upG μ g s0) := by
  refine cj_Ct.of (by decide +kernel) hI (Nat.le_of_ble_eq_true rfl) [(0, .ref (ad g 9)), (1, .int a1)] rfl (fun X hX C => ?_)
  subst hX
  have C : cj_C (cj_YL D z ad) X cX6_placeOf 3 RX6 0 (some .int) := C
  unfold f_X6_placeOf at hf
  refine cj_iconst C 0 dX6_placeOf_0 rfl ?_
  refine cj_istore_n (lv' := [(2, .int 0), (0, .ref (ad g 9)), (1, .int a1)]) C dX6_placeOf_1 rfl (by decide) rfl ?_
  refine cj_sub [1, 2, 0] rfl ?_
  exact tl_X6_placeOf_L2 hI hg C cj_FU 0 hf
set_option maxHeartbeats 4000000 in
set_option maxRecDepth 100000 in
theorem tl_X3_rememberedSince_L5 {D : va_G} {z : cj_Zc} {ad : cj_Ad} (hI : cj_Ij (cj_EL z) ad) {μ : cj_Mm} {g : Nat} (hg : cj_isC g) {y1 : Int32} {y2 : Int32} {s5 : cj_S} {X : cj_X} (C : cj_C (cj_YL D z ad) X cX3_rememberedSince 6 RX3 0 (some .int)) {r : Int32} : ∀ (n : Nat) (x3 : Int32) (x4 : Int32), f_X3_rememberedSince_L5 y1 y2 s5 n x3 x4 = some r → cj_G (cj_YL D z ad) X (some (.int r), cj_upG μ g s5) (cj_upG μ g s5) 5 [(0, .ref (ad g 1)), (1, .int y1), (2, .int y2), (3, .int x3), (4, .int x4)] [] := by
  intro n
  induction n with
  | zero =>
    intro x3 x4 hf
    rw [f_X3_rememberedSince_L5] at hf
    cases hf
  | succ n ih =>
    intro x3 x4 hf
    rw [f_X3_rememberedSince_L5] at hf
    refine cj_iload C dX3_rememberedSince_5 4 rfl ?_
    refine cj_bipush C 12 dX3_rememberedSince_7 rfl ?_
    refine cj_ic_ge C 51 dX3_rememberedSince_9 rfl hf (fun hf => ?_) (fun hf => ?_)
    · refine cj_iload_n C dX3_rememberedSince_51 rfl 3 rfl ?_
      cases hf
      exact cj_iret C rfl dX3_rememberedSince_52
    · refine cj_aload_n C dX3_rememberedSince_12 rfl 0 rfl ?_
      refine cj_getS (v := .ref (ad g 8)) (j := 7) C (eC_1 (z := z) (ad := ad) hg) rfl rfl cj_in3 (by decide) rfl cjq_80 rfl dX3_rememberedSince_13 ?_
      refine cj_iload_n C dX3_rememberedSince_16 rfl 1 rfl ?_
      refine cj_bipush C 12 dX3_rememberedSince_17 rfl ?_
      refine cj_imul C dX3_rememberedSince_19 ?_
      refine cj_iload C dX3_rememberedSince_20 4 rfl ?_
      refine cj_iadd C dX3_rememberedSince_22 ?_
      refine cj_ialdS C (eC_8 (z := z) (ad := ad) hg) dX3_rememberedSince_23 hf (fun hf => ?_)
      refine cj_ltI hf (fun x6 hf => ?_)
      refine cj_istore (lv' := [(5, .int x6), (0, .ref (ad g 1)), (1, .int y1), (2, .int y2), (3, .int x3), (4, .int x4)]) C dX3_rememberedSince_24 (by decide) rfl ?_
      refine cj_iload C dX3_rememberedSince_26 0 rfl ?_
      refine cj_iconst C (-1) dX3_rememberedSince_28 rfl ?_
      refine cj_ic_eq C 45 dX3_rememberedSince_29 rfl hf (fun hf => ?_) (fun hf => ?_)
      · refine cj_iinc (lv' := [(4, .int (x4 + 1)), (5, .int x6), (0, .ref (ad g 1)), (1, .int y1), (2, .int y2), (3, .int x3)]) C dX3_rememberedSince_45 (j := 5) rfl rfl (by decide) rfl ?_
        refine cj_goto C 5 dX3_rememberedSince_48 rfl ?_
        refine cj_sub [2, 3, 4, 5, 0] rfl ?_
        exact ih x3 (x4 + 1) hf
      · refine cj_iload C dX3_rememberedSince_32 0 rfl ?_
        refine cj_iload_n C dX3_rememberedSince_34 rfl 3 rfl ?_
        refine cj_ic_lt C 45 dX3_rememberedSince_35 rfl hf (fun hf => ?_) (fun hf => ?_)
        · refine cj_iinc (lv' := [(4, .int (x4 + 1)), (5, .int x6), (0, .ref (ad g 1)), (1, .int y1), (2, .int y2), (3, .int x3)]) C dX3_rememberedSince_45 (j := 5) rfl rfl (by decide) rfl ?_
          refine cj_goto C 5 dX3_rememberedSince_48 rfl ?_
          refine cj_sub [2, 3, 4, 5, 0] rfl ?_
          exact ih x3 (x4 + 1) hf
        · refine cj_iload_n C dX3_rememberedSince_38 rfl 4 rfl ?_
          refine cj_iconst C 1 dX3_rememberedSince_39 rfl ?_
          refine cj_iload C dX3_rememberedSince_40 5 rfl ?_
          refine cj_ishl C dX3_rememberedSince_42 ?_
          refine cj_ior C dX3_rememberedSince_43 ?_
          refine cj_ltI hf (fun x7 hf => ?_)
          refine cj_istore_n (lv' := [(3, .int x7), (5, .int x6), (0, .ref (ad g 1)), (1, .int y1), (2, .int y2), (4, .int x4)]) C dX3_rememberedSince_44 rfl (by decide) rfl ?_
          refine cj_iinc (lv' := [(4, .int (x4 + 1)), (3, .int x7), (5, .int x6), (0, .ref (ad g 1)), (1, .int y1), (2, .int y2)]) C dX3_rememberedSince_45 (j := 5) rfl rfl (by decide) rfl ?_
          refine cj_goto C 5 dX3_rememberedSince_48 rfl ?_
          refine cj_sub [3, 4, 5, 1, 0] rfl ?_
          exact ih x7 (x4 + 1) hf
set_option maxHeartbeats 4000000 in
set_option maxRecDepth 100000 in
theorem ct_X3_rememberedSince {l : Launch} {D : va_G} {z : cj_Zc} {ad : cj_Ad} (hI : cj_Ij (cj_EL z) ad) {μ : cj_Mm} {g : Nat} (hg : cj_isC g) {s0 : cj_S} {a1 : Int32} {a2 : Int32} {r : Int32} (hf : f_X3_rememberedSince s0 a1 a2 = some r) : cj_Ct l (cj_YL D z ad) yX3_rememberedSince cX3_rememberedSince 6 (some .int) 0 [.ref (ad g 1), .int a1, .int a2] (cj_upG μ g s0) (some (.int r)) (cj_upG μ g s0) := by
  refine cj_Ct.of (by decide +kernel) hI (Nat.le_of_ble_eq_true rfl) [(0, .ref (ad g 1)), (1, .int a1), (2, .int a2)] rfl (fun X hX C => ?_)
  subst hX
  have C : cj_C (cj_YL D z ad) X cX3_rememberedSince 6 RX3 0 (some .int) := C
  unfold f_X3_rememberedSince at hf
  refine cj_iconst C 0 dX3_rememberedSince_0 rfl ?_
  refine cj_istore_n (lv' := [(3, .int 0), (0, .ref (ad g 1)), (1, .int a1), (2, .int a2)]) C dX3_rememberedSince_1 rfl (by decide) rfl ?_
  refine cj_iconst C 0 dX3_rememberedSince_2 rfl ?_
  refine cj_istore (lv' := [(4, .int 0), (3, .int 0), (0, .ref (ad g 1)), (1, .int a1), (2, .int a2)]) C dX3_rememberedSince_3 (by decide) rfl ?_
  refine cj_sub [2, 3, 4, 1, 0] rfl ?_
  exact tl_X3_rememberedSince_L5 hI hg C cj_FU 0 0 hf
set_option maxHeartbeats 4000000 in
set_option maxRecDepth 100000 in
theorem ct_X0_remembered {l : Launch} {D : va_G} {z : cj_Zc} {ad : cj_Ad} (hI : cj_Ij (cj_EL z) ad) {μ : cj_Mm} {g : Nat} (hg : cj_isC g) {s0 : cj_S} {a1 : Int32} {r : Int32} (hf : f_X0_remembered s0 a1 = some r) : cj_Ct l (cj_YL D z ad) yX0_remembered cX0_remembered 2 (some .int) 1 [.ref (ad g 0), .int a1] (cj_upG μ g s0) (some (.int r)) (cj_upG μ g s0) := by
  refine cj_Ct.of (by decide +kernel) hI (Nat.le_of_ble_eq_true rfl) [(0, .ref (ad g 0)), (1, .int a1)] rfl (fun X hX C => ?_)
  subst hX
  have C : cj_C (cj_YL D z ad) X cX0_remembered 2 RX0 1 (some .int) := C
  unfold f_X0_remembered at hf
  refine cj_aload_n C dX0_remembered_0 rfl 0 rfl ?_
  refine cj_getS (v := .ref (ad g 1)) (j := 0) C (eC_0 (z := z) (ad := ad) hg) rfl rfl cj_in0 (by decide) rfl cjq_165 rfl dX0_remembered_1 ?_
  refine cj_iload_n C dX0_remembered_4 rfl 1 rfl ?_
  refine cj_aload_n C dX0_remembered_5 rfl 0 rfl ?_
  refine cj_getS (v := .int (s0 0 5)) (j := 5) C (eC_0 (z := z) (ad := ad) hg) rfl rfl cj_in0 (by decide) rfl cjq_173 rfl dX0_remembered_6 ?_
  refine cj_aload_n C dX0_remembered_9 rfl 0 rfl ?_
  refine cj_getS (v := .int (s0 0 3)) (j := 3) C (eC_0 (z := z) (ad := ad) hg) rfl rfl cj_in0 (by decide) rfl cjq_171 rfl dX0_remembered_10 ?_
  refine cj_isub C dX0_remembered_13 ?_
  obtain ⟨x2, h1, hf⟩ := cj_bd_s hf
  refine cj_cV2i C cw_X3_rememberedSince (ct_X3_rememberedSince hI hg h1) cjq_444 cjq_445 cjq_443 (eC_1 (z := z) (ad := ad) hg) rfl rfl ⟨Nat.le_of_ble_eq_true rfl, Nat.le_of_ble_eq_true rfl⟩ (Nat.le_of_ble_eq_true rfl) dX0_remembered_14 ?_
  cases hf
  exact cj_iret C rfl dX0_remembered_17
set_option maxHeartbeats 4000000 in
set_option maxRecDepth 100000 in
theorem ct_X0_drawable {l : Launch} {D : va_G} {z : cj_Zc} {ad : cj_Ad} (hI : cj_Ij (cj_EL z) ad) {μ : cj_Mm} {g : Nat} (hg : cj_isC g) {s0 : cj_S} {a1 : Int32} {r : Int32} (hf : f_X0_drawable s0 a1 = some r) : cj_Ct l (cj_YL D z ad) yX0_drawable cX0_drawable 2 (some .int) 2 [.ref (ad g 0), .int a1] (cj_upG μ g s0) (some (.int r)) (cj_upG μ g s0) := by
  refine cj_Ct.of (by decide +kernel) hI (Nat.le_of_ble_eq_true rfl) [(0, .ref (ad g 0)), (1, .int a1)] rfl (fun X hX C => ?_)
  subst hX
  have C : cj_C (cj_YL D z ad) X cX0_drawable 2 RX0 2 (some .int) := C
  unfold f_X0_drawable at hf
  refine cj_aload_n C dX0_drawable_0 rfl 0 rfl ?_
  refine cj_aload_n C dX0_drawable_1 rfl 0 rfl ?_
  refine cj_getS (v := .ref (ad g 9)) (j := 1) C (eC_0 (z := z) (ad := ad) hg) rfl rfl cj_in0 (by decide) rfl cjq_167 rfl dX0_drawable_2 ?_
  refine cj_getS (v := .ref (ad g 11)) (j := 3) C (eC_9 (z := z) (ad := ad) hg) rfl rfl cj_in6 (by decide) rfl cjq_114 rfl dX0_drawable_5 ?_
  refine cj_iload_n C dX0_drawable_8 rfl 1 rfl ?_
  refine cj_ialdS C (eC_11 (z := z) (ad := ad) hg) dX0_drawable_9 hf (fun hf => ?_)
  obtain ⟨x2, h1, hf⟩ := cj_bd_s hf
  refine cj_cV1i C cw_X0_remembered (ct_X0_remembered hI hg h1) cjq_440 cjq_441 cjq_439 (eC_0 (z := z) (ad := ad) hg) rfl rfl ⟨Nat.le_of_ble_eq_true rfl, Nat.le_of_ble_eq_true rfl⟩ (Nat.le_of_ble_eq_true rfl) dX0_drawable_10 ?_
  refine cj_aload_n C dX0_drawable_13 rfl 0 rfl ?_
  refine cj_getS (v := .ref (ad g 9)) (j := 1) C (eC_0 (z := z) (ad := ad) hg) rfl rfl cj_in0 (by decide) rfl cjq_167 rfl dX0_drawable_14 ?_
  refine cj_getS (v := .ref (ad g 12)) (j := 4) C (eC_9 (z := z) (ad := ad) hg) rfl rfl cj_in6 (by decide) rfl cjq_116 rfl dX0_drawable_17 ?_
  refine cj_iload_n C dX0_drawable_20 rfl 1 rfl ?_
  refine cj_ialdS C (eC_12 (z := z) (ad := ad) hg) dX0_drawable_21 hf (fun hf => ?_)
  refine cj_iconst C (-1) dX0_drawable_22 rfl ?_
  refine cj_ixor C dX0_drawable_23 ?_
  refine cj_iand C dX0_drawable_24 ?_
  cases hf
  exact cj_iret C rfl dX0_drawable_25
set_option maxHeartbeats 4000000 in
set_option maxRecDepth 100000 in
theorem ct_X8_hasBit {l : Launch} {Y : cj_Y} (hI : cj_Ij Y.1 Y.2.2.2) {μ : cj_Mm} {a0 : Int32} {a1 : Int32} {r : Int32} (hf : f_X8_hasBit a0 a1 = some r) : cj_Ct l Y yX8_hasBit cX8_hasBit 2 (some .boolean) 0 [.int a0, .int a1] (μ) (some (.int r)) (μ) := by
  refine cj_Ct.of (by decide +kernel) hI (Nat.le_of_ble_eq_true rfl) [(0, .int a0), (1, .int a1)] rfl (fun X hX C => ?_)
  subst hX
  have C : cj_C Y X cX8_hasBit 2 RX8 0 (some .boolean) := C
  unfold f_X8_hasBit at hf
  refine cj_iload_n C dX8_hasBit_0 rfl 0 rfl ?_
  refine cj_iload_n C dX8_hasBit_1 rfl 1 rfl ?_
  refine cj_ishr C dX8_hasBit_2 ?_
  refine cj_iconst C 1 dX8_hasBit_3 rfl ?_
  refine cj_iand C dX8_hasBit_4 ?_
  refine cj_if_eq C 12 dX8_hasBit_5 rfl hf (fun hf => ?_) (fun hf => ?_)
  · refine cj_iconst C 0 dX8_hasBit_12 rfl ?_
    cases hf
    exact cj_zret C rfl rfl rfl dX8_hasBit_13
  · refine cj_iconst C 1 dX8_hasBit_8 rfl ?_
    refine cj_goto C 13 dX8_hasBit_9 rfl ?_
    cases hf
    exact cj_zret C rfl rfl rfl dX8_hasBit_13
set_option maxHeartbeats 4000000 in
set_option maxRecDepth 100000 in
theorem ct_J9_max_7cf53 {l : Launch} {Y : cj_Y} (hI : cj_Ij Y.1 Y.2.2.2) {μ : cj_Mm} {a0 : Int32} {a1 : Int32} {r : Int32} (hf : f_J9_max_7cf53 a0 a1 = some r) : cj_Ct l Y yJ9_max_7cf53 cJ9_max_7cf53 2 (some .int) 0 [.int a0, .int a1] (μ) (some (.int r)) (μ) := by
  refine cj_Ct.ofF (by decide +kernel) hI (Nat.le_of_ble_eq_true rfl) [(0, .int a0), (1, .int a1)] rfl (fun X hX C => ?_)
  subst hX
  have C : cj_C Y X cJ9_max_7cf53 2 RJ9 0 (some .int) := C
  unfold f_J9_max_7cf53 at hf
  refine cj_iload_n C dJ9_max_7cf53_0 rfl 0 rfl ?_
  refine cj_iload_n C dJ9_max_7cf53_1 rfl 1 rfl ?_
  refine cj_ic_lt C 9 dJ9_max_7cf53_2 rfl hf (fun hf => ?_) (fun hf => ?_)
  · refine cj_iload_n C dJ9_max_7cf53_9 rfl 1 rfl ?_
    cases hf
    exact cj_iret C rfl dJ9_max_7cf53_10
  · refine cj_iload_n C dJ9_max_7cf53_5 rfl 0 rfl ?_
    refine cj_goto C 10 dJ9_max_7cf53_6 rfl ?_
    cases hf
    exact cj_iret C rfl dJ9_max_7cf53_10
set_option maxHeartbeats 4000000 in
set_option maxRecDepth 100000 in
theorem ct_J6_bitCount_0f7a4 {l : Launch} {Y : cj_Y} (hI : cj_Ij Y.1 Y.2.2.2) {μ : cj_Mm} {a0 : Int32} {r : Int32} (hf : f_J6_bitCount_0f7a4 a0 = some r) : cj_Ct l Y yJ6_bitCount_0f7a4 cJ6_bitCount_0f7a4 1 (some .int) 0 [.int a0] (μ) (some (.int r)) (μ) := by
  refine cj_Ct.ofF (by decide +kernel) hI (Nat.le_of_ble_eq_true rfl) [(0, .int a0)] rfl (fun X hX C => ?_)
  subst hX
  have C : cj_C Y X cJ6_bitCount_0f7a4 1 RJ6 0 (some .int) := C
  unfold f_J6_bitCount_0f7a4 at hf
  refine cj_iload_n C dJ6_bitCount_0f7a4_0 rfl 0 rfl ?_
  refine cj_iload_n C dJ6_bitCount_0f7a4_1 rfl 0 rfl ?_
  refine cj_iconst C 1 dJ6_bitCount_0f7a4_2 rfl ?_
  refine cj_iushr C dJ6_bitCount_0f7a4_3 ?_
  refine cj_ldcw C cjq_456 dJ6_bitCount_0f7a4_4 ?_
  refine cj_iand C dJ6_bitCount_0f7a4_7 ?_
  refine cj_isub C dJ6_bitCount_0f7a4_8 ?_
  refine cj_ltI hf (fun x1 hf => ?_)
  refine cj_istore_n (lv' := [(0, .int x1)]) C dJ6_bitCount_0f7a4_9 rfl (by decide) rfl ?_
  refine cj_iload_n C dJ6_bitCount_0f7a4_10 rfl 0 rfl ?_
  refine cj_ldcw C cjq_457 dJ6_bitCount_0f7a4_11 ?_
  refine cj_iand C dJ6_bitCount_0f7a4_14 ?_
  refine cj_iload_n C dJ6_bitCount_0f7a4_15 rfl 0 rfl ?_
  refine cj_iconst C 2 dJ6_bitCount_0f7a4_16 rfl ?_
  refine cj_iushr C dJ6_bitCount_0f7a4_17 ?_
  refine cj_ldcw C cjq_457 dJ6_bitCount_0f7a4_18 ?_
  refine cj_iand C dJ6_bitCount_0f7a4_21 ?_
  refine cj_iadd C dJ6_bitCount_0f7a4_22 ?_
  refine cj_ltI hf (fun x2 hf => ?_)
  refine cj_istore_n (lv' := [(0, .int x2)]) C dJ6_bitCount_0f7a4_23 rfl (by decide) rfl ?_
  refine cj_iload_n C dJ6_bitCount_0f7a4_24 rfl 0 rfl ?_
  refine cj_iload_n C dJ6_bitCount_0f7a4_25 rfl 0 rfl ?_
  refine cj_iconst C 4 dJ6_bitCount_0f7a4_26 rfl ?_
  refine cj_iushr C dJ6_bitCount_0f7a4_27 ?_
  refine cj_iadd C dJ6_bitCount_0f7a4_28 ?_
  refine cj_ldcw C cjq_458 dJ6_bitCount_0f7a4_29 ?_
  refine cj_iand C dJ6_bitCount_0f7a4_32 ?_
  refine cj_ltI hf (fun x3 hf => ?_)
  refine cj_istore_n (lv' := [(0, .int x3)]) C dJ6_bitCount_0f7a4_33 rfl (by decide) rfl ?_
  refine cj_iload_n C dJ6_bitCount_0f7a4_34 rfl 0 rfl ?_
  refine cj_iload_n C dJ6_bitCount_0f7a4_35 rfl 0 rfl ?_
  refine cj_bipush C 8 dJ6_bitCount_0f7a4_36 rfl ?_
  refine cj_iushr C dJ6_bitCount_0f7a4_38 ?_
  refine cj_iadd C dJ6_bitCount_0f7a4_39 ?_
  refine cj_istore_n (lv' := [(0, .int (x3 + (cj_us x3 8)))]) C dJ6_bitCount_0f7a4_40 rfl (by decide) rfl ?_
  refine cj_iload_n C dJ6_bitCount_0f7a4_41 rfl 0 rfl ?_
  refine cj_iload_n C dJ6_bitCount_0f7a4_42 rfl 0 rfl ?_
  refine cj_bipush C 16 dJ6_bitCount_0f7a4_43 rfl ?_
  refine cj_iushr C dJ6_bitCount_0f7a4_45 ?_
  refine cj_iadd C dJ6_bitCount_0f7a4_46 ?_
  refine cj_ltI hf (fun x4 hf => ?_)
  refine cj_istore_n (lv' := [(0, .int x4)]) C dJ6_bitCount_0f7a4_47 rfl (by decide) rfl ?_
  refine cj_iload_n C dJ6_bitCount_0f7a4_48 rfl 0 rfl ?_
  refine cj_bipush C 63 dJ6_bitCount_0f7a4_49 rfl ?_
  refine cj_iand C dJ6_bitCount_0f7a4_51 ?_
  cases hf
  exact cj_iret C rfl dJ6_bitCount_0f7a4_52
set_option maxHeartbeats 4000000 in
set_option maxRecDepth 100000 in
theorem ct_X0_drawFeature {l : Launch} {D : va_G} {z : cj_Zc} {ad : cj_Ad} (hI : cj_Ij (cj_EL z) ad) {μ : cj_Mm} {g : Nat} (hg : cj_isC g) {s0 : cj_S} {a1 : Int32} {a2 : Int32} {r : Int32} {r2 : cj_S} (hf : f_X0_drawFeature s0 a1 a2 = some (r, r2)) : cj_Ct l (cj_YL D z ad) yX0_drawFeature cX0_drawFeature 4 (some .int) 3 [.ref (ad g 0), .int a1, .int a2] (cj_upG μ g s0) (some (.int r)) (cj_upG μ g r2) := by
  refine cj_Ct.of (by decide +kernel) hI (Nat.le_of_ble_eq_true rfl) [(0, .ref (ad g 0)), (1, .int a1), (2, .int a2)] rfl (fun X hX C => ?_)
  subst hX
  have C : cj_C (cj_YL D z ad) X cX0_drawFeature 4 RX0 3 (some .int) := C
  unfold f_X0_drawFeature at hf
  generalize hr2 : (r, r2) = r3 at hf
  obtain ⟨e1, e2⟩ : r = r3.1 ∧ r2 = r3.2 := by rw [← hr2]; exact ⟨rfl, rfl⟩
  rw [e1, e2]
  clear e1 e2 hr2
  obtain ⟨r, hr⟩ : ∃ r, r = r3 := ⟨_, rfl⟩
  rw [← hr] at hf ⊢
  clear hr
  refine cj_aload_n C dX0_drawFeature_0 rfl 0 rfl ?_
  refine cj_getS (v := .ref (ad g 9)) (j := 1) C (eC_0 (z := z) (ad := ad) hg) rfl rfl cj_in0 (by decide) rfl cjq_167 rfl dX0_drawFeature_1 ?_
  refine cj_iload_n C dX0_drawFeature_4 rfl 1 rfl ?_
  obtain ⟨x2, h1, hf⟩ := cj_bd_s hf
  refine cj_cV1i C cw_X6_placeOf (ct_X6_placeOf hI hg h1) cjq_432 cjq_433 cjq_431 (eC_9 (z := z) (ad := ad) hg) rfl rfl ⟨Nat.le_of_ble_eq_true rfl, Nat.le_of_ble_eq_true rfl⟩ (Nat.le_of_ble_eq_true rfl) dX0_drawFeature_5 ?_
  refine cj_istore_n (lv' := [(3, .int x2), (0, .ref (ad g 0)), (1, .int a1), (2, .int a2)]) C dX0_drawFeature_8 rfl (by decide) rfl ?_
  refine cj_iload_n C dX0_drawFeature_9 rfl 0 rfl ?_
  refine cj_iconst C (-1) dX0_drawFeature_10 rfl ?_
  refine cj_ic_eq C 24 dX0_drawFeature_11 rfl hf (fun hf => ?_) (fun hf => ?_)
  · refine cj_ldc C cjq_357 dX0_drawFeature_24 ?_
    cases hf
    exact cj_iret C rfl dX0_drawFeature_26
  · refine cj_iload_n C dX0_drawFeature_14 rfl 3 rfl ?_
    refine cj_iconst C 0 dX0_drawFeature_15 rfl ?_
    refine cj_bipush C 11 dX0_drawFeature_16 rfl ?_
    obtain ⟨x4, h3, hf⟩ := cj_bd_s hf
    refine cj_cN3i C cw_X8_isWithin (ct_X8_isWithin hI h3) cjq_355 cjn_X0_64 ⟨Nat.le_of_ble_eq_true rfl, Nat.le_of_ble_eq_true rfl⟩ (Nat.le_of_ble_eq_true rfl) dX0_drawFeature_18 ?_
    refine cj_if_ne C 27 dX0_drawFeature_21 rfl hf (fun hf => ?_) (fun hf => ?_)
    · refine cj_aload_n C dX0_drawFeature_27 rfl 1 rfl ?_
      refine cj_iload_n C dX0_drawFeature_28 rfl 0 rfl ?_
      obtain ⟨x6, h5, hf⟩ := cj_bd_s hf
      refine cj_cV1i C cw_X0_drawable (ct_X0_drawable hI hg h5) cjq_436 cjq_437 cjq_435 (eC_0 (z := z) (ad := ad) hg) rfl rfl ⟨Nat.le_of_ble_eq_true rfl, Nat.le_of_ble_eq_true rfl⟩ (Nat.le_of_ble_eq_true rfl) dX0_drawFeature_29 ?_
      refine cj_iload_n C dX0_drawFeature_32 rfl 3 rfl ?_
      obtain ⟨x8, h7, hf⟩ := cj_bd_s hf
      refine cj_cN2i C cw_X8_hasBit (ct_X8_hasBit hI h7) cjq_448 cjn_X0_117 ⟨Nat.le_of_ble_eq_true rfl, Nat.le_of_ble_eq_true rfl⟩ (Nat.le_of_ble_eq_true rfl) dX0_drawFeature_33 ?_
      refine cj_if_ne C 42 dX0_drawFeature_36 rfl hf (fun hf => ?_) (fun hf => ?_)
      · refine cj_aload_n C dX0_drawFeature_42 rfl 1 rfl ?_
        refine cj_getS (v := .int (s0 0 7)) (j := 7) C (eC_0 (z := z) (ad := ad) hg) rfl rfl cj_in0 (by decide) rfl cjq_176 rfl dX0_drawFeature_43 ?_
        refine cj_iconst C 3 dX0_drawFeature_46 rfl ?_
        refine cj_ic_lt C 53 dX0_drawFeature_47 rfl hf (fun hf => ?_) (fun hf => ?_)
        · refine cj_aload_n C dX0_drawFeature_53 rfl 1 rfl ?_
          refine cj_dup C dX0_drawFeature_54 rfl ?_
          refine cj_getS (v := .int (s0 0 7)) (j := 7) C (eC_0 (z := z) (ad := ad) hg) rfl rfl cj_in0 (by decide) rfl cjq_176 rfl dX0_drawFeature_55 ?_
          refine cj_iconst C 1 dX0_drawFeature_58 rfl ?_
          refine cj_iadd C dX0_drawFeature_59 ?_
          refine cj_putS (j := 7) C (eC_0 (z := z) (ad := ad) hg) rfl rfl rfl rfl cj_in0 tyX0_ok nmX0 (by decide) rfl cjq_176 rfl rfl rfl (Nat.le_of_ble_eq_true rfl) dX0_drawFeature_60 ?_
          refine cj_ltS hf (fun s9 hf => ?_)
          refine cj_aload_n C dX0_drawFeature_63 rfl 1 rfl ?_
          refine cj_getS (v := .ref (ad g 9)) (j := 1) C (eC_0 (z := z) (ad := ad) hg) rfl rfl cj_in0 (by decide) rfl cjq_167 rfl dX0_drawFeature_64 ?_
          refine cj_getS (v := .ref (ad g 12)) (j := 4) C (eC_9 (z := z) (ad := ad) hg) rfl rfl cj_in6 (by decide) rfl cjq_116 rfl dX0_drawFeature_67 ?_
          refine cj_iload_n C dX0_drawFeature_70 rfl 0 rfl ?_
          refine cj_dup2 C dX0_drawFeature_71 rfl rfl ?_
          refine cj_ialdS C (eC_12 (z := z) (ad := ad) hg) dX0_drawFeature_72 hf (fun hf => ?_)
          refine cj_iconst C 1 dX0_drawFeature_73 rfl ?_
          refine cj_iload_n C dX0_drawFeature_74 rfl 3 rfl ?_
          refine cj_ishl C dX0_drawFeature_75 ?_
          refine cj_ior C dX0_drawFeature_76 ?_
          refine cj_iastS C (eC_12 (z := z) (ad := ad) hg) dX0_drawFeature_77 hf (fun hf => ?_)
          refine cj_ltS hf (fun s10 hf => ?_)
          refine cj_aload_n C dX0_drawFeature_78 rfl 1 rfl ?_
          refine cj_getS (v := .ref (ad g 9)) (j := 1) C (eC_0 (z := z) (ad := ad) hg) rfl rfl cj_in0 (by decide) rfl cjq_167 rfl dX0_drawFeature_79 ?_
          refine cj_getS (v := .ref (ad g 13)) (j := 5) C (eC_9 (z := z) (ad := ad) hg) rfl rfl cj_in6 (by decide) rfl cjq_118 rfl dX0_drawFeature_82 ?_
          refine cj_iload_n C dX0_drawFeature_85 rfl 0 rfl ?_
          refine cj_aload_n C dX0_drawFeature_86 rfl 1 rfl ?_
          refine cj_getS (v := .ref (ad g 9)) (j := 1) C (eC_0 (z := z) (ad := ad) hg) rfl rfl cj_in0 (by decide) rfl cjq_167 rfl dX0_drawFeature_87 ?_
          refine cj_getS (v := .ref (ad g 13)) (j := 5) C (eC_9 (z := z) (ad := ad) hg) rfl rfl cj_in6 (by decide) rfl cjq_118 rfl dX0_drawFeature_90 ?_
          refine cj_iload_n C dX0_drawFeature_93 rfl 0 rfl ?_
          refine cj_ialdS C (eC_13 (z := z) (ad := ad) hg) dX0_drawFeature_94 hf (fun hf => ?_)
          refine cj_aload_n C dX0_drawFeature_95 rfl 1 rfl ?_
          refine cj_getS (v := .int (s10 0 5)) (j := 5) C (eC_0 (z := z) (ad := ad) hg) rfl rfl cj_in0 (by decide) rfl cjq_173 rfl dX0_drawFeature_96 ?_
          refine cj_aload_n C dX0_drawFeature_99 rfl 1 rfl ?_
          refine cj_getS (v := .int (s10 0 4)) (j := 4) C (eC_0 (z := z) (ad := ad) hg) rfl rfl cj_in0 (by decide) rfl cjq_172 rfl dX0_drawFeature_100 ?_
          refine cj_iadd C dX0_drawFeature_103 ?_
          obtain ⟨x12, h11, hf⟩ := cj_bd_s hf
          refine cj_cS2i C cw_J9_max_7cf53 (ct_J9_max_7cf53 hI h11) cjq_451 cjq_450 ⟨Nat.le_of_ble_eq_true rfl, Nat.le_of_ble_eq_true rfl⟩ (Nat.le_of_ble_eq_true rfl) dX0_drawFeature_104 ?_
          refine cj_iastS C (eC_13 (z := z) (ad := ad) hg) dX0_drawFeature_107 hf (fun hf => ?_)
          refine cj_ltS hf (fun s13 hf => ?_)
          refine cj_aload_n C dX0_drawFeature_108 rfl 1 rfl ?_
          refine cj_getS (v := .ref (ad g 9)) (j := 1) C (eC_0 (z := z) (ad := ad) hg) rfl rfl cj_in0 (by decide) rfl cjq_167 rfl dX0_drawFeature_109 ?_
          refine cj_getS (v := .ref (ad g 12)) (j := 4) C (eC_9 (z := z) (ad := ad) hg) rfl rfl cj_in6 (by decide) rfl cjq_116 rfl dX0_drawFeature_112 ?_
          refine cj_iload_n C dX0_drawFeature_115 rfl 0 rfl ?_
          refine cj_ialdS C (eC_12 (z := z) (ad := ad) hg) dX0_drawFeature_116 hf (fun hf => ?_)
          obtain ⟨x15, h14, hf⟩ := cj_bd_s hf
          refine cj_cS1i C cw_J6_bitCount_0f7a4 (ct_J6_bitCount_0f7a4 hI h14) cjq_454 cjq_453 ⟨Nat.le_of_ble_eq_true rfl, Nat.le_of_ble_eq_true rfl⟩ (Nat.le_of_ble_eq_true rfl) dX0_drawFeature_117 ?_
          cases hf
          exact cj_iret C rfl dX0_drawFeature_120
        · refine cj_ldc C cjq_363 dX0_drawFeature_50 ?_
          cases hf
          exact cj_iret C rfl dX0_drawFeature_52
      · refine cj_ldc C cjq_362 dX0_drawFeature_39 ?_
        cases hf
        exact cj_iret C rfl dX0_drawFeature_41
    · refine cj_ldc C cjq_357 dX0_drawFeature_24 ?_
      cases hf
      exact cj_iret C rfl dX0_drawFeature_26
