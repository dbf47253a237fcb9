set_option maxHeartbeats 4000000 in
set_option maxRecDepth 100000 in
theorem ct_X9_calls {l : Launch} {D : va_G} {z : cj_Zc} {ad : cj_Ad} (hI : cj_Ij (cj_EM z) ad) {μ : cj_Mm} {s0 : cj_S} {r : Int32} {r2 : cj_S} (hf : f_X9_calls s0 = some (r, r2)) : cj_Ct l (cj_YM D z ad) yX9_calls cX9_calls 1 (some .int) 7 [.ref (ad 0 0)] (cj_upG μ 0 s0) (some (.int r)) (cj_upG μ 0 r2) := by
  refine cj_Ct.of (by decide +kernel) hI (Nat.le_of_ble_eq_true rfl) [(0, .ref (ad 0 0))] rfl (fun X hX C => ?_)
  subst hX
  have C : cj_C (cj_YM D z ad) X cX9_calls 1 RX9 7 (some .int) := C
  unfold f_X9_calls at hf
  generalize hr2 : (r, r2) = r3 at hf
  obtain ⟨e1, e2⟩ : r = r3.1 ∧ r2 = r3.2 := by rw [← hr2]; exact ⟨rfl, rfl⟩
  rw [e1, e2]
  clear e1 e2 hr2
  obtain ⟨r, hr⟩ : ∃ r, r = r3 := ⟨_, rfl⟩
  rw [← hr] at hf ⊢
  clear hr
  refine cj_aload_n C dX9_calls_0 rfl 0 rfl ?_
  refine cj_getS (v := .int (s0 0 13)) (j := 13) C (eM_0 (z := z) (ad := ad)) rfl rfl cj_in9 (by decide) rfl cjq_733 rfl dX9_calls_1 ?_
  refine cj_by hf (fun e4 hf => ?_) (fun e4 hf => ?_)
  · refine cj_lkI (off := 63) C 67 e4 dX9_calls_4 (by decide +kernel) (by decide +kernel) rfl ?_
    refine cj_aload_n C dX9_calls_67 rfl 0 rfl ?_
    refine cj_aload_n C dX9_calls_68 rfl 0 rfl ?_
    refine cj_getS (v := .ref (ad 0 6)) (j := 14) C (eM_0 (z := z) (ad := ad)) rfl rfl cj_in9 (by decide) rfl cjq_734 rfl dX9_calls_69 ?_
    refine cj_iconst C 0 dX9_calls_72 rfl ?_
    refine cj_ialdKS (j := 0) C (eM_6 (z := z) (ad := ad)) rfl (by decide) dX9_calls_73 ?_
    obtain ⟨x2, s3, h1, hf⟩ := cj_bp_s hf
    refine cj_cV1i C cw_X9_sheet (ct_X9_sheet hI h1) cjq_817 cjq_818 cjq_1021 (eM_0 (z := z) (ad := ad)) rfl rfl ⟨Nat.le_of_ble_eq_true rfl, Nat.le_of_ble_eq_true rfl⟩ (Nat.le_of_ble_eq_true rfl) dX9_calls_74 ?_
    cases hf
    exact cj_iret C rfl dX9_calls_77
  refine cj_by hf (fun e8 hf => ?_) (fun e8 hf => ?_)
  · refine cj_lkI (off := 74) C 78 e8 dX9_calls_4 (by decide +kernel) (by decide +kernel) rfl ?_
    refine cj_aload_n C dX9_calls_78 rfl 0 rfl ?_
    refine cj_aload_n C dX9_calls_79 rfl 0 rfl ?_
    refine cj_getS (v := .ref (ad 0 6)) (j := 14) C (eM_0 (z := z) (ad := ad)) rfl rfl cj_in9 (by decide) rfl cjq_734 rfl dX9_calls_80 ?_
    refine cj_iconst C 0 dX9_calls_83 rfl ?_
    refine cj_ialdKS (j := 0) C (eM_6 (z := z) (ad := ad)) rfl (by decide) dX9_calls_84 ?_
    refine cj_aload_n C dX9_calls_85 rfl 0 rfl ?_
    refine cj_getS (v := .ref (ad 0 6)) (j := 14) C (eM_0 (z := z) (ad := ad)) rfl rfl cj_in9 (by decide) rfl cjq_734 rfl dX9_calls_86 ?_
    refine cj_iconst C 1 dX9_calls_89 rfl ?_
    refine cj_ialdKS (j := 1) C (eM_6 (z := z) (ad := ad)) rfl (by decide) dX9_calls_90 ?_
    obtain ⟨x6, s7, h5, hf⟩ := cj_bp_s hf
    refine cj_cV2i C cw_X9_draw (ct_X9_draw hI h5) cjq_821 cjq_822 cjq_1022 (eM_0 (z := z) (ad := ad)) rfl rfl ⟨Nat.le_of_ble_eq_true rfl, Nat.le_of_ble_eq_true rfl⟩ (Nat.le_of_ble_eq_true rfl) dX9_calls_91 ?_
    cases hf
    exact cj_iret C rfl dX9_calls_94
  refine cj_by hf (fun e12 hf => ?_) (fun e12 hf => ?_)
  · refine cj_lkI (off := 52) C 56 e12 dX9_calls_4 (by decide +kernel) (by decide +kernel) rfl ?_
    refine cj_aload_n C dX9_calls_56 rfl 0 rfl ?_
    refine cj_aload_n C dX9_calls_57 rfl 0 rfl ?_
    refine cj_getS (v := .ref (ad 0 6)) (j := 14) C (eM_0 (z := z) (ad := ad)) rfl rfl cj_in9 (by decide) rfl cjq_734 rfl dX9_calls_58 ?_
    refine cj_iconst C 0 dX9_calls_61 rfl ?_
    refine cj_ialdKS (j := 0) C (eM_6 (z := z) (ad := ad)) rfl (by decide) dX9_calls_62 ?_
    obtain ⟨x10, s11, h9, hf⟩ := cj_bp_s hf
    refine cj_cV1i C cw_X9_look (ct_X9_look hI h9) cjq_813 cjq_814 cjq_1020 (eM_0 (z := z) (ad := ad)) rfl rfl ⟨Nat.le_of_ble_eq_true rfl, Nat.le_of_ble_eq_true rfl⟩ (Nat.le_of_ble_eq_true rfl) dX9_calls_63 ?_
    cases hf
    exact cj_iret C rfl dX9_calls_66
  refine cj_by hf (fun e16 hf => ?_) (fun e16 hf => ?_)
  · refine cj_lkI (off := 102) C 106 e16 dX9_calls_4 (by decide +kernel) (by decide +kernel) rfl ?_
    refine cj_aload_n C dX9_calls_106 rfl 0 rfl ?_
    refine cj_aload_n C dX9_calls_107 rfl 0 rfl ?_
    refine cj_getS (v := .ref (ad 0 6)) (j := 14) C (eM_0 (z := z) (ad := ad)) rfl rfl cj_in9 (by decide) rfl cjq_734 rfl dX9_calls_108 ?_
    refine cj_iconst C 0 dX9_calls_111 rfl ?_
    refine cj_ialdKS (j := 0) C (eM_6 (z := z) (ad := ad)) rfl (by decide) dX9_calls_112 ?_
    refine cj_aload_n C dX9_calls_113 rfl 0 rfl ?_
    refine cj_getS (v := .ref (ad 0 6)) (j := 14) C (eM_0 (z := z) (ad := ad)) rfl rfl cj_in9 (by decide) rfl cjq_734 rfl dX9_calls_114 ?_
    refine cj_iconst C 1 dX9_calls_117 rfl ?_
    refine cj_ialdKS (j := 1) C (eM_6 (z := z) (ad := ad)) rfl (by decide) dX9_calls_118 ?_
    obtain ⟨x14, s15, h13, hf⟩ := cj_bp_s hf
    refine cj_cV2i C cw_X9_sell (ct_X9_sell hI h13) cjq_869 cjq_870 cjq_1024 (eM_0 (z := z) (ad := ad)) rfl rfl ⟨Nat.le_of_ble_eq_true rfl, Nat.le_of_ble_eq_true rfl⟩ (Nat.le_of_ble_eq_true rfl) dX9_calls_119 ?_
    cases hf
    exact cj_iret C rfl dX9_calls_122
  refine cj_by hf (fun e20 hf => ?_) (fun e20 hf => ?_)
  · refine cj_lkI (off := 91) C 95 e20 dX9_calls_4 (by decide +kernel) (by decide +kernel) rfl ?_
    refine cj_aload_n C dX9_calls_95 rfl 0 rfl ?_
    refine cj_aload_n C dX9_calls_96 rfl 0 rfl ?_
    refine cj_getS (v := .ref (ad 0 6)) (j := 14) C (eM_0 (z := z) (ad := ad)) rfl rfl cj_in9 (by decide) rfl cjq_734 rfl dX9_calls_97 ?_
    refine cj_iconst C 0 dX9_calls_100 rfl ?_
    refine cj_ialdKS (j := 0) C (eM_6 (z := z) (ad := ad)) rfl (by decide) dX9_calls_101 ?_
    obtain ⟨x18, s19, h17, hf⟩ := cj_bp_s hf
    refine cj_cV1i C cw_X9_verdict (ct_X9_verdict hI h17) cjq_853 cjq_854 cjq_1023 (eM_0 (z := z) (ad := ad)) rfl rfl ⟨Nat.le_of_ble_eq_true rfl, Nat.le_of_ble_eq_true rfl⟩ (Nat.le_of_ble_eq_true rfl) dX9_calls_102 ?_
    cases hf
    exact cj_iret C rfl dX9_calls_105
  refine cj_lkD C 123 [98, 100, 108, 115, 118] (List.forall_mem_cons.mpr ⟨e4, List.forall_mem_cons.mpr ⟨e8, List.forall_mem_cons.mpr ⟨e12, List.forall_mem_cons.mpr ⟨e16, List.forall_mem_cons.mpr ⟨e20, fun _ h => absurd h List.not_mem_nil⟩⟩⟩⟩⟩) dX9_calls_4 (by decide +kernel) (by decide +kernel) rfl ?_
  refine cj_aload_n C dX9_calls_123 rfl 0 rfl ?_
  refine cj_aload_n C dX9_calls_124 rfl 0 rfl ?_
  refine cj_getS (v := .ref (ad 0 6)) (j := 14) C (eM_0 (z := z) (ad := ad)) rfl rfl cj_in9 (by decide) rfl cjq_734 rfl dX9_calls_125 ?_
  refine cj_iconst C 0 dX9_calls_128 rfl ?_
  refine cj_ialdKS (j := 0) C (eM_6 (z := z) (ad := ad)) rfl (by decide) dX9_calls_129 ?_
  obtain ⟨x22, s23, h21, hf⟩ := cj_bp_s hf
  refine cj_cV1i C cw_X9_pass (ct_X9_pass hI h21) cjq_901 cjq_902 cjq_1025 (eM_0 (z := z) (ad := ad)) rfl rfl ⟨Nat.le_of_ble_eq_true rfl, Nat.le_of_ble_eq_true rfl⟩ (Nat.le_of_ble_eq_true rfl) dX9_calls_130 ?_
  cases hf
  exact cj_iret C rfl dX9_calls_133
set_option maxHeartbeats 4000000 in
set_option maxRecDepth 100000 in
theorem tl_X9_plays_L22 {D : va_G} {z : cj_Zc} {ad : cj_Ad} (hI : cj_Ij (cj_EM z) ad) {μ : cj_Mm}  {X : cj_X} (C : cj_C (cj_YM D z ad) X cX9_plays 4 RX9 8 (some .boolean)) {r : Int32 × cj_S} {K : Int32 → cj_S → Option (Int32 × cj_S)} (hK : ∀ (x7 : Int32) (s8 : cj_S), K x7 s8 = some r → cj_G (cj_YM D z ad) X (some (.int r.1), cj_upG μ 0 r.2) (cj_upG μ 0 s8) 124 [(0, .ref (ad 0 0)), (1, .int x7)] []) : ∀ (n : Nat) (x5 : Int32) (s6 : cj_S), f_X9_plays_L22 K n x5 s6 = some r → cj_G (cj_YM D z ad) X (some (.int r.1), cj_upG μ 0 r.2) (cj_upG μ 0 s6) 22 [(0, .ref (ad 0 0)), (1, .int x5)] [] := by
  intro n
  induction n with
  | zero =>
    intro x5 s6 hf
    rw [f_X9_plays_L22] at hf
    cases hf
  | succ n ih =>
    intro x5 s6 hf
    rw [f_X9_plays_L22] at hf
    refine cj_aload_n C dX9_plays_22 rfl 0 rfl ?_
    refine cj_getS (v := .int (s6 0 8)) (j := 8) C (eM_0 (z := z) (ad := ad)) rfl rfl cj_in9 (by decide) rfl cjq_728 rfl dX9_plays_23 ?_
    refine cj_aload_n C dX9_plays_26 rfl 0 rfl ?_
    refine cj_getS (v := .int (s6 0 7)) (j := 7) C (eM_0 (z := z) (ad := ad)) rfl rfl cj_in9 (by decide) rfl cjq_727 rfl dX9_plays_27 ?_
    refine cj_ic_ge C 124 dX9_plays_30 rfl hf (fun hf => ?_) (fun hf => ?_)
    · exact hK x5 s6 hf
    · refine cj_iload_n C dX9_plays_33 rfl 1 rfl ?_
      refine cj_if_eq C 124 dX9_plays_34 rfl hf (fun hf => ?_) (fun hf => ?_)
      · exact hK x5 s6 hf
      · refine cj_aload_n C dX9_plays_37 rfl 0 rfl ?_
        refine cj_aload_n C dX9_plays_38 rfl 0 rfl ?_
        refine cj_getS (v := .int (s6 0 8)) (j := 8) C (eM_0 (z := z) (ad := ad)) rfl rfl cj_in9 (by decide) rfl cjq_728 rfl dX9_plays_39 ?_
        refine cj_putS (j := 9) C (eM_0 (z := z) (ad := ad)) rfl rfl rfl rfl cj_in9 tyX9_ok nmX9 (by decide) rfl cjq_729 rfl rfl rfl (Nat.le_of_ble_eq_true rfl) dX9_plays_42 ?_
        refine cj_ltS hf (fun s9 hf => ?_)
        refine cj_aload_n C dX9_plays_45 rfl 0 rfl ?_
        obtain ⟨x11, s12, h10, hf⟩ := cj_bp_s hf
        refine cj_cV0i C cw_X9_reads (ct_X9_reads hI h10) cjq_999 cjq_26 cjq_997 (eM_0 (z := z) (ad := ad)) rfl rfl ⟨Nat.le_of_ble_eq_true rfl, Nat.le_of_ble_eq_true rfl⟩ (Nat.le_of_ble_eq_true rfl) dX9_plays_46 ?_
        refine cj_istore_n (lv' := [(2, .int x11), (0, .ref (ad 0 0)), (1, .int x5)]) C dX9_plays_49 rfl (by decide) rfl ?_
        refine cj_iload_n C dX9_plays_50 rfl 0 rfl ?_
        refine cj_jn (Hyp := fun K13 => ∀ (x14 : Int32) (s15 : cj_S), K13 x14 s15 = some r → cj_G (cj_YM D z ad) X (some (.int r.1), cj_upG μ 0 r.2) (cj_upG μ 0 s15) 62 [(0, .ref (ad 0 0)), (2, .int x11)] [.int x14]) hf (fun x14 s15 hf => ?_) (fun K13 hK13 hf => ?_)
        · refine cj_istore_n (lv' := [(3, .int x14), (0, .ref (ad 0 0)), (2, .int x11)]) C dX9_plays_62 rfl (by decide) rfl ?_
          refine cj_iload_n C dX9_plays_63 rfl 2 rfl ?_
          refine cj_jn (Hyp := fun K16 => ∀ (x17 : Int32), K16 x17 = some r → cj_G (cj_YM D z ad) X (some (.int r.1), cj_upG μ 0 r.2) (cj_upG μ 0 s15) 76 [(0, .ref (ad 0 0)), (2, .int x11), (3, .int x14)] [.int x17]) hf (fun x17 hf => ?_) (fun K16 hK16 hf => ?_)
          · refine cj_istore_n (lv' := [(1, .int x17), (0, .ref (ad 0 0)), (2, .int x11), (3, .int x14)]) C dX9_plays_76 rfl (by decide) rfl ?_
            refine cj_aload_n C dX9_plays_77 rfl 1 rfl ?_
            refine cj_iload_n C dX9_plays_78 rfl 2 rfl ?_
            refine cj_jn (Hyp := fun K18 => ∀ (x19 : Int32), K18 x19 = some r → cj_G (cj_YM D z ad) X (some (.int r.1), cj_upG μ 0 r.2) (cj_upG μ 0 s15) 87 [(0, .ref (ad 0 0)), (1, .int x17), (2, .int x11), (3, .int x14)] [.int x19, .ref (ad 0 0)]) hf (fun x19 hf => ?_) (fun K18 hK18 hf => ?_)
            · refine cj_putS (j := 10) C (eM_0 (z := z) (ad := ad)) rfl rfl rfl rfl cj_in9 tyX9_ok nmX9 (by decide) rfl cjq_730 rfl rfl rfl (Nat.le_of_ble_eq_true rfl) dX9_plays_87 ?_
              refine cj_ltS hf (fun s20 hf => ?_)
              refine cj_aload_n C dX9_plays_90 rfl 0 rfl ?_
              refine cj_iload_n C dX9_plays_91 rfl 2 rfl ?_
              refine cj_jn (Hyp := fun K21 => ∀ (x22 : Int32), K21 x22 = some r → cj_G (cj_YM D z ad) X (some (.int r.1), cj_upG μ 0 r.2) (cj_upG μ 0 s20) 108 [(0, .ref (ad 0 0)), (1, .int x17)] [.int x22, .ref (ad 0 0)]) hf (fun x22 hf => ?_) (fun K21 hK21 hf => ?_)
              · refine cj_putS (j := 11) C (eM_0 (z := z) (ad := ad)) rfl rfl rfl rfl cj_in9 tyX9_ok nmX9 (by decide) rfl cjq_731 rfl rfl rfl (Nat.le_of_ble_eq_true rfl) dX9_plays_108 ?_
                refine cj_ltS hf (fun s23 hf => ?_)
                refine cj_aload_n C dX9_plays_111 rfl 0 rfl ?_
                refine cj_dup C dX9_plays_112 rfl ?_
                refine cj_getS (v := .int (s23 0 12)) (j := 12) C (eM_0 (z := z) (ad := ad)) rfl rfl cj_in9 (by decide) rfl cjq_732 rfl dX9_plays_113 ?_
                refine cj_iconst C 1 dX9_plays_116 rfl ?_
                refine cj_iadd C dX9_plays_117 ?_
                refine cj_putS (j := 12) C (eM_0 (z := z) (ad := ad)) rfl rfl rfl rfl cj_in9 tyX9_ok nmX9 (by decide) rfl cjq_732 rfl rfl rfl (Nat.le_of_ble_eq_true rfl) dX9_plays_118 ?_
                refine cj_ltS hf (fun s24 hf => ?_)
                refine cj_goto C 22 dX9_plays_121 rfl ?_
                exact ih x17 s24 hf
              · refine cj_if_eq C 99 dX9_plays_92 rfl hf (fun hf => ?_) (fun hf => ?_)
                · refine cj_aload_n C dX9_plays_99 rfl 0 rfl ?_
                  refine cj_getS (v := .int (s20 0 8)) (j := 8) C (eM_0 (z := z) (ad := ad)) rfl rfl cj_in9 (by decide) rfl cjq_728 rfl dX9_plays_100 ?_
                  refine cj_aload_n C dX9_plays_103 rfl 0 rfl ?_
                  refine cj_getS (v := .int (s20 0 9)) (j := 9) C (eM_0 (z := z) (ad := ad)) rfl rfl cj_in9 (by decide) rfl cjq_729 rfl dX9_plays_104 ?_
                  refine cj_isub C dX9_plays_107 ?_
                  refine cj_sub [0, 1] rfl ?_
                  exact hK21 ((s20 0 8) - (s20 0 9)) hf
                · refine cj_iload_n C dX9_plays_95 rfl 3 rfl ?_
                  refine cj_goto C 108 dX9_plays_96 rfl ?_
                  refine cj_sub [0, 1] rfl ?_
                  exact hK21 x14 hf
            · refine cj_if_eq C 86 dX9_plays_79 rfl hf (fun hf => ?_) (fun hf => ?_)
              · refine cj_iconst C 1 dX9_plays_86 rfl ?_
                refine cj_sub [1, 0, 2, 3] rfl ?_
                exact hK18 1 hf
              · refine cj_iconst C 2 dX9_plays_82 rfl ?_
                refine cj_goto C 87 dX9_plays_83 rfl ?_
                refine cj_sub [1, 0, 2, 3] rfl ?_
                exact hK18 2 hf
          · refine cj_jn (Hyp := fun K25 => ∀ (u : Unit), K25 u = some r → cj_G (cj_YM D z ad) X (some (.int r.1), cj_upG μ 0 r.2) (cj_upG μ 0 s15) 75 [(0, .ref (ad 0 0)), (2, .int x11), (3, .int x14)] []) hf (fun u hf => ?_) (fun K25 hK25 hf => ?_)
            · refine cj_iconst C 0 dX9_plays_75 rfl ?_
              exact hK16 0 hf
            · refine cj_if_eq C 75 dX9_plays_64 rfl hf (fun hf => ?_) (fun hf => ?_)
              · refine cj_sub [1, 2, 0] rfl ?_
                exact hK25 () hf
              · refine cj_iload_n C dX9_plays_67 rfl 0 rfl ?_
                refine cj_if_lt C 75 dX9_plays_68 rfl hf (fun hf => ?_) (fun hf => ?_)
                · refine cj_sub [1, 2, 0] rfl ?_
                  exact hK25 () hf
                · refine cj_iconst C 1 dX9_plays_71 rfl ?_
                  refine cj_goto C 76 dX9_plays_72 rfl ?_
                  refine cj_sub [1, 2, 0] rfl ?_
                  exact hK16 1 hf
        · refine cj_if_eq C 61 dX9_plays_51 rfl hf (fun hf => ?_) (fun hf => ?_)
          · refine cj_iconst C 0 dX9_plays_61 rfl ?_
            refine cj_sub [1, 0] rfl ?_
            exact hK13 0 s12 hf
          · refine cj_aload_n C dX9_plays_54 rfl 1 rfl ?_
            obtain ⟨x27, s28, h26, hf⟩ := cj_bp_s hf
            refine cj_cV0i C cw_X9_calls (ct_X9_calls hI h26) cjq_1018 cjq_30 cjq_1016 (eM_0 (z := z) (ad := ad)) rfl rfl ⟨Nat.le_of_ble_eq_true rfl, Nat.le_of_ble_eq_true rfl⟩ (Nat.le_of_ble_eq_true rfl) dX9_plays_55 ?_
            refine cj_goto C 62 dX9_plays_58 rfl ?_
            refine cj_sub [1, 0] rfl ?_
            exact hK13 x27 s28 hf
set_option maxHeartbeats 4000000 in
set_option maxRecDepth 100000 in
theorem ct_X9_plays {l : Launch} {D : va_G} {z : cj_Zc} {ad : cj_Ad} (hI : cj_Ij (cj_EM z) ad) {μ : cj_Mm} {s0 : cj_S} {r : Int32} {r2 : cj_S} (hf : f_X9_plays s0 = some (r, r2)) : cj_Ct l (cj_YM D z ad) yX9_plays cX9_plays 4 (some .boolean) 8 [.ref (ad 0 0)] (cj_upG μ 0 s0) (some (.int r)) (cj_upG μ 0 r2) := by
  refine cj_Ct.of (by decide +kernel) hI (Nat.le_of_ble_eq_true rfl) [(0, .ref (ad 0 0))] rfl (fun X hX C => ?_)
  subst hX
  have C : cj_C (cj_YM D z ad) X cX9_plays 4 RX9 8 (some .boolean) := C
  unfold f_X9_plays at hf
  generalize hr2 : (r, r2) = r3 at hf
  obtain ⟨e1, e2⟩ : r = r3.1 ∧ r2 = r3.2 := by rw [← hr2]; exact ⟨rfl, rfl⟩
  rw [e1, e2]
  clear e1 e2 hr2
  obtain ⟨r, hr⟩ : ∃ r, r = r3 := ⟨_, rfl⟩
  rw [← hr] at hf ⊢
  clear hr
  refine cj_aload_n C dX9_plays_0 rfl 0 rfl ?_
  refine cj_iconst C 1 dX9_plays_1 rfl ?_
  refine cj_putS (j := 5) C (eM_0 (z := z) (ad := ad)) rfl rfl rfl rfl cj_in9 tyX9_ok nmX9 (by decide) rfl cjq_725 rfl rfl rfl (Nat.le_of_ble_eq_true rfl) dX9_plays_2 ?_
  refine cj_ltS hf (fun s1 hf => ?_)
  refine cj_aload_n C dX9_plays_5 rfl 0 rfl ?_
  refine cj_iconst C 0 dX9_plays_6 rfl ?_
  refine cj_putS (j := 8) C (eM_0 (z := z) (ad := ad)) rfl rfl rfl rfl cj_in9 tyX9_ok nmX9 (by decide) rfl cjq_728 rfl rfl rfl (Nat.le_of_ble_eq_true rfl) dX9_plays_7 ?_
  refine cj_ltS hf (fun s2 hf => ?_)
  refine cj_aload_n C dX9_plays_10 rfl 0 rfl ?_
  refine cj_iconst C 0 dX9_plays_11 rfl ?_
  refine cj_putS (j := 9) C (eM_0 (z := z) (ad := ad)) rfl rfl rfl rfl cj_in9 tyX9_ok nmX9 (by decide) rfl cjq_729 rfl rfl rfl (Nat.le_of_ble_eq_true rfl) dX9_plays_12 ?_
  refine cj_ltS hf (fun s3 hf => ?_)
  refine cj_aload_n C dX9_plays_15 rfl 0 rfl ?_
  refine cj_iconst C 0 dX9_plays_16 rfl ?_
  refine cj_putS (j := 12) C (eM_0 (z := z) (ad := ad)) rfl rfl rfl rfl cj_in9 tyX9_ok nmX9 (by decide) rfl cjq_732 rfl rfl rfl (Nat.le_of_ble_eq_true rfl) dX9_plays_17 ?_
  refine cj_ltS hf (fun s4 hf => ?_)
  refine cj_iconst C 1 dX9_plays_20 rfl ?_
  refine cj_istore_n (lv' := [(1, .int 1), (0, .ref (ad 0 0))]) C dX9_plays_21 rfl (by decide) rfl ?_
  refine cj_sub [1, 0] rfl ?_
  refine tl_X9_plays_L22 hI C (fun x29 s30 hf => ?_) cj_FU 1 s4 hf
  refine cj_aload_n C dX9_plays_124 rfl 0 rfl ?_
  refine cj_iconst C 0 dX9_plays_125 rfl ?_
  refine cj_putS (j := 5) C (eM_0 (z := z) (ad := ad)) rfl rfl rfl rfl cj_in9 tyX9_ok nmX9 (by decide) rfl cjq_725 rfl rfl rfl (Nat.le_of_ble_eq_true rfl) dX9_plays_126 ?_
  refine cj_ltS hf (fun s31 hf => ?_)
  refine cj_iload_n C dX9_plays_129 rfl 1 rfl ?_
  obtain ⟨hp, hf⟩ := cj_gp_s hf
  cases hf
  exact cj_zret C rfl (cj_boo hp).1 rfl dX9_plays_130
set_option maxHeartbeats 4000000 in
set_option maxRecDepth 100000 in
theorem ct_X9_fault {l : Launch} {D : va_G} {z : cj_Zc} {ad : cj_Ad} (hI : cj_Ij (cj_EM z) ad) {μ : cj_Mm} {s0 : cj_S} {a1 : Int32} {r : Int32} {r2 : cj_S} (hf : f_X9_fault s0 a1 = some (r, r2)) : cj_Ct l (cj_YM D z ad) yX9_fault cX9_fault 3 (some .int) 9 [.ref (ad 0 0), .int a1] (cj_upG μ 0 s0) (some (.int r)) (cj_upG μ 0 r2) := by
  refine cj_Ct.of (by decide +kernel) hI (Nat.le_of_ble_eq_true rfl) [(0, .ref (ad 0 0)), (1, .int a1)] rfl (fun X hX C => ?_)
  subst hX
  have C : cj_C (cj_YM D z ad) X cX9_fault 3 RX9 9 (some .int) := C
  unfold f_X9_fault at hf
  generalize hr2 : (r, r2) = r3 at hf
  obtain ⟨e1, e2⟩ : r = r3.1 ∧ r2 = r3.2 := by rw [← hr2]; exact ⟨rfl, rfl⟩
  rw [e1, e2]
  clear e1 e2 hr2
  obtain ⟨r, hr⟩ : ∃ r, r = r3 := ⟨_, rfl⟩
  rw [← hr] at hf ⊢
  clear hr
  refine cj_iload_n C dX9_fault_0 rfl 1 rfl ?_
  refine cj_iconst C 0 dX9_fault_1 rfl ?_
  refine cj_iconst C 2 dX9_fault_2 rfl ?_
  obtain ⟨x2, h1, hf⟩ := cj_bd_s hf
  refine cj_cS3i C cw_X9_in (ct_X9_in hI h1) cjq_771 cjq_770 ⟨Nat.le_of_ble_eq_true rfl, Nat.le_of_ble_eq_true rfl⟩ (Nat.le_of_ble_eq_true rfl) dX9_fault_3 ?_
  refine cj_if_ne C 12 dX9_fault_6 rfl hf (fun hf => ?_) (fun hf => ?_)
  · refine cj_aload_n C dX9_fault_12 rfl 0 rfl ?_
    refine cj_getS (v := .ref (ad 0 1)) (j := 0) C (eM_0 (z := z) (ad := ad)) rfl rfl cj_in9 (by decide) rfl cjq_720 rfl dX9_fault_13 ?_
    refine cj_aload_n C dX9_fault_16 rfl 0 rfl ?_
    refine cj_getS (v := .ref (ad 0 3)) (j := 2) C (eM_0 (z := z) (ad := ad)) rfl rfl cj_in9 (by decide) rfl cjq_722 rfl dX9_fault_17 ?_
    obtain ⟨s4, h3, hf⟩ := cj_bd_s hf
    refine cj_cS2v C cw_X9_copies (ct_X9_copies hI eM_1 eM_3 h3) cjq_945 cjq_944 ⟨Nat.le_of_ble_eq_true rfl, Nat.le_of_ble_eq_true rfl⟩ (Nat.le_of_ble_eq_true rfl) dX9_fault_20 ?_
    refine cj_aload_n C dX9_fault_23 rfl 0 rfl ?_
    obtain ⟨x6, s7, h5, hf⟩ := cj_bp_s hf
    refine cj_cV0i C cw_X9_plays (ct_X9_plays hI h5) cjq_995 cjq_25 cjq_993 (eM_0 (z := z) (ad := ad)) rfl rfl ⟨Nat.le_of_ble_eq_true rfl, Nat.le_of_ble_eq_true rfl⟩ (Nat.le_of_ble_eq_true rfl) dX9_fault_24 ?_
    refine cj_istore_n (lv' := [(2, .int x6), (0, .ref (ad 0 0)), (1, .int a1)]) C dX9_fault_27 rfl (by decide) rfl ?_
    refine cj_aload_n C dX9_fault_28 rfl 1 rfl ?_
    refine cj_getS (v := .ref (ad 0 3)) (j := 2) C (eM_0 (z := z) (ad := ad)) rfl rfl cj_in9 (by decide) rfl cjq_722 rfl dX9_fault_29 ?_
    refine cj_aload_n C dX9_fault_32 rfl 1 rfl ?_
    refine cj_getS (v := .ref (ad 0 1)) (j := 0) C (eM_0 (z := z) (ad := ad)) rfl rfl cj_in9 (by decide) rfl cjq_720 rfl dX9_fault_33 ?_
    obtain ⟨s9, h8, hf⟩ := cj_bd_s hf
    refine cj_cS2v C cw_X9_copies (ct_X9_copies hI eM_3 eM_1 h8) cjq_945 cjq_944 ⟨Nat.le_of_ble_eq_true rfl, Nat.le_of_ble_eq_true rfl⟩ (Nat.le_of_ble_eq_true rfl) dX9_fault_36 ?_
    refine cj_iload_n C dX9_fault_39 rfl 0 rfl ?_
    refine cj_if_eq C 48 dX9_fault_40 rfl hf (fun hf => ?_) (fun hf => ?_)
    · refine cj_iload_n C dX9_fault_48 rfl 2 rfl ?_
      refine cj_if_ne C 59 dX9_fault_49 rfl hf (fun hf => ?_) (fun hf => ?_)
      · refine cj_iload_n C dX9_fault_59 rfl 2 rfl ?_
        refine cj_iconst C 1 dX9_fault_60 rfl ?_
        refine cj_ic_ne C 71 dX9_fault_61 rfl hf (fun hf => ?_) (fun hf => ?_)
        · refine cj_aload_n C dX9_fault_71 rfl 1 rfl ?_
          refine cj_getS (v := .int (s9 0 11)) (j := 11) C (eM_0 (z := z) (ad := ad)) rfl rfl cj_in9 (by decide) rfl cjq_731 rfl dX9_fault_72 ?_
          cases hf
          exact cj_iret C rfl dX9_fault_75
        · refine cj_aload_n C dX9_fault_64 rfl 1 rfl ?_
          refine cj_getS (v := .int (s9 0 10)) (j := 10) C (eM_0 (z := z) (ad := ad)) rfl rfl cj_in9 (by decide) rfl cjq_730 rfl dX9_fault_65 ?_
          refine cj_goto C 75 dX9_fault_68 rfl ?_
          cases hf
          exact cj_iret C rfl dX9_fault_75
      · refine cj_aload_n C dX9_fault_52 rfl 1 rfl ?_
        refine cj_getS (v := .int (s9 0 9)) (j := 9) C (eM_0 (z := z) (ad := ad)) rfl rfl cj_in9 (by decide) rfl cjq_729 rfl dX9_fault_53 ?_
        refine cj_goto C 75 dX9_fault_56 rfl ?_
        cases hf
        exact cj_iret C rfl dX9_fault_75
    · refine cj_ldc C cjq_832 dX9_fault_43 ?_
      refine cj_goto C 75 dX9_fault_45 rfl ?_
      cases hf
      exact cj_iret C rfl dX9_fault_75
  · refine cj_ldc C cjq_773 dX9_fault_9 ?_
    cases hf
    exact cj_iret C rfl dX9_fault_11
set_option maxHeartbeats 4000000 in
set_option maxRecDepth 100000 in
theorem ct_X9_play {l : Launch} {D : va_G} {z : cj_Zc} {ad : cj_Ad} (hI : cj_Ij (cj_EM z) ad) {μ : cj_Mm} {s0 : cj_S} {r : Int32} {r2 : cj_S} (hf : f_X9_play s0 = some (r, r2)) : cj_Ct l (cj_YM D z ad) yX9_play cX9_play 2 (some .int) 9 [.ref (ad 0 0)] (cj_upG μ 0 s0) (some (.int r)) (cj_upG μ 0 r2) := by
  refine cj_Ct.of (by decide +kernel) hI (Nat.le_of_ble_eq_true rfl) [(0, .ref (ad 0 0))] rfl (fun X hX C => ?_)
  subst hX
  have C : cj_C (cj_YM D z ad) X cX9_play 2 RX9 9 (some .int) := C
  unfold f_X9_play at hf
  generalize hr2 : (r, r2) = r3 at hf
  obtain ⟨e1, e2⟩ : r = r3.1 ∧ r2 = r3.2 := by rw [← hr2]; exact ⟨rfl, rfl⟩
  rw [e1, e2]
  clear e1 e2 hr2
  obtain ⟨r, hr⟩ : ∃ r, r = r3 := ⟨_, rfl⟩
  rw [← hr] at hf ⊢
  clear hr
  refine cj_aload_n C dX9_play_0 rfl 0 rfl ?_
  refine cj_getS (v := .ref (ad 0 1)) (j := 0) C (eM_0 (z := z) (ad := ad)) rfl rfl cj_in9 (by decide) rfl cjq_720 rfl dX9_play_1 ?_
  refine cj_aload_n C dX9_play_4 rfl 0 rfl ?_
  refine cj_getS (v := .ref (ad 0 3)) (j := 2) C (eM_0 (z := z) (ad := ad)) rfl rfl cj_in9 (by decide) rfl cjq_722 rfl dX9_play_5 ?_
  obtain ⟨s2, h1, hf⟩ := cj_bd_s hf
  refine cj_cS2v C cw_X9_copies (ct_X9_copies hI eM_1 eM_3 h1) cjq_945 cjq_944 ⟨Nat.le_of_ble_eq_true rfl, Nat.le_of_ble_eq_true rfl⟩ (Nat.le_of_ble_eq_true rfl) dX9_play_8 ?_
  refine cj_aload_n C dX9_play_11 rfl 0 rfl ?_
  obtain ⟨x4, s5, h3, hf⟩ := cj_bp_s hf
  refine cj_cV0i C cw_X9_plays (ct_X9_plays hI h3) cjq_995 cjq_25 cjq_993 (eM_0 (z := z) (ad := ad)) rfl rfl ⟨Nat.le_of_ble_eq_true rfl, Nat.le_of_ble_eq_true rfl⟩ (Nat.le_of_ble_eq_true rfl) dX9_play_12 ?_
  refine cj_istore_n (lv' := [(1, .int x4), (0, .ref (ad 0 0))]) C dX9_play_15 rfl (by decide) rfl ?_
  refine cj_aload_n C dX9_play_16 rfl 1 rfl ?_
  refine cj_getS (v := .ref (ad 0 3)) (j := 2) C (eM_0 (z := z) (ad := ad)) rfl rfl cj_in9 (by decide) rfl cjq_722 rfl dX9_play_17 ?_
  refine cj_aload_n C dX9_play_20 rfl 1 rfl ?_
  refine cj_getS (v := .ref (ad 0 1)) (j := 0) C (eM_0 (z := z) (ad := ad)) rfl rfl cj_in9 (by decide) rfl cjq_720 rfl dX9_play_21 ?_
  obtain ⟨s7, h6, hf⟩ := cj_bd_s hf
  refine cj_cS2v C cw_X9_copies (ct_X9_copies hI eM_3 eM_1 h6) cjq_945 cjq_944 ⟨Nat.le_of_ble_eq_true rfl, Nat.le_of_ble_eq_true rfl⟩ (Nat.le_of_ble_eq_true rfl) dX9_play_24 ?_
  refine cj_iload_n C dX9_play_27 rfl 0 rfl ?_
  refine cj_if_ne C 34 dX9_play_28 rfl hf (fun hf => ?_) (fun hf => ?_)
  · refine cj_aload_n C dX9_play_34 rfl 1 rfl ?_
    obtain ⟨s9, h8, hf⟩ := cj_bd_s hf
    refine cj_cV0v C cw_X9_changes (ct_X9_changes hI h8) cjq_782 cjq_1 cjq_780 (eM_0 (z := z) (ad := ad)) rfl rfl ⟨Nat.le_of_ble_eq_true rfl, Nat.le_of_ble_eq_true rfl⟩ (Nat.le_of_ble_eq_true rfl) dX9_play_35 ?_
    refine cj_aload_n C dX9_play_38 rfl 1 rfl ?_
    obtain ⟨x11, s12, h10, hf⟩ := cj_bp_s hf
    refine cj_cV0i C cw_X9_plays (ct_X9_plays hI h10) cjq_995 cjq_25 cjq_993 (eM_0 (z := z) (ad := ad)) rfl rfl ⟨Nat.le_of_ble_eq_true rfl, Nat.le_of_ble_eq_true rfl⟩ (Nat.le_of_ble_eq_true rfl) dX9_play_39 ?_
    refine cj_if_eq C 52 dX9_play_42 rfl hf (fun hf => ?_) (fun hf => ?_)
    · refine cj_ldc C cjq_832 dX9_play_52 ?_
      cases hf
      exact cj_iret C rfl dX9_play_54
    · refine cj_aload_n C dX9_play_45 rfl 1 rfl ?_
      refine cj_getS (v := .int (s12 0 12)) (j := 12) C (eM_0 (z := z) (ad := ad)) rfl rfl cj_in9 (by decide) rfl cjq_732 rfl dX9_play_46 ?_
      refine cj_goto C 54 dX9_play_49 rfl ?_
      cases hf
      exact cj_iret C rfl dX9_play_54
  · refine cj_ldc C cjq_778 dX9_play_31 ?_
    cases hf
    exact cj_iret C rfl dX9_play_33
