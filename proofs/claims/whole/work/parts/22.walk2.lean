set_option maxHeartbeats 4000000 in
set_option maxRecDepth 100000 in
theorem ct_X0_tellOfPerson {l : Launch} {D : va_G} {z : cj_Zc} {ad : cj_Ad} (hI : cj_Ij (cj_EL z) ad) {μ : cj_Mm} {g : Nat} (hg : cj_isC g) {s0 : cj_S} {a1 : Int32} {a2 : Int32} {r : Int32} (hf : f_X0_tellOfPerson s0 a1 a2 = some r) : cj_Ct l (cj_YL D z ad) yX0_tellOfPerson cX0_tellOfPerson 3 (some .int) 2 [.ref (ad g 0), .int a1, .int a2] (cj_upG μ g s0) (some (.int r)) (cj_upG μ g s0) := by
  refine cj_Ct.of (by decide +kernel) hI (Nat.le_of_ble_eq_true rfl) [(0, .ref (ad g 0)), (1, .int a1), (2, .int a2)] rfl (fun X hX C => ?_)
  subst hX
  have C : cj_C (cj_YL D z ad) X cX0_tellOfPerson 3 RX0 2 (some .int) := C
  unfold f_X0_tellOfPerson at hf
  refine cj_aload_n C dX0_tellOfPerson_0 rfl 0 rfl ?_
  refine cj_getS (v := .ref (ad g 1)) (j := 0) C (eC_0 (z := z) (ad := ad) hg) rfl rfl cj_in0 (by decide) rfl cjq_165 rfl dX0_tellOfPerson_1 ?_
  refine cj_iload_n C dX0_tellOfPerson_4 rfl 1 rfl ?_
  obtain ⟨x2, h1, hf⟩ := cj_bd_s hf
  refine cj_cV1i C cw_X3_has (ct_X3_has hI hg h1) cjq_377 cjq_378 cjq_376 (eC_1 (z := z) (ad := ad) hg) rfl rfl ⟨Nat.le_of_ble_eq_true rfl, Nat.le_of_ble_eq_true rfl⟩ (Nat.le_of_ble_eq_true rfl) dX0_tellOfPerson_5 ?_
  refine cj_if_ne C 14 dX0_tellOfPerson_8 rfl hf (fun hf => ?_) (fun hf => ?_)
  · refine cj_iload_n C dX0_tellOfPerson_14 rfl 2 rfl ?_
    refine cj_by hf (fun e3 hf => ?_) (fun e3 hf => ?_)
    · refine cj_tabI C 64 e3 dX0_tellOfPerson_15 (by decide) (by decide) rfl rfl ?_
      refine cj_aload_n C dX0_tellOfPerson_64 rfl 0 rfl ?_
      refine cj_getS (v := .ref (ad g 1)) (j := 0) C (eC_0 (z := z) (ad := ad) hg) rfl rfl cj_in0 (by decide) rfl cjq_165 rfl dX0_tellOfPerson_65 ?_
      refine cj_getS (v := .ref (ad g 2)) (j := 1) C (eC_1 (z := z) (ad := ad) hg) rfl rfl cj_in3 (by decide) rfl cjq_69 rfl dX0_tellOfPerson_68 ?_
      refine cj_iload_n C dX0_tellOfPerson_71 rfl 1 rfl ?_
      refine cj_ialdS C (eC_2 (z := z) (ad := ad) hg) dX0_tellOfPerson_72 hf (fun hf => ?_)
      cases hf
      exact cj_iret C rfl dX0_tellOfPerson_73
    refine cj_by hf (fun e4 hf => ?_) (fun e4 hf => ?_)
    · refine cj_tabI C 74 e4 dX0_tellOfPerson_15 (by decide) (by decide) rfl rfl ?_
      refine cj_aload_n C dX0_tellOfPerson_74 rfl 0 rfl ?_
      refine cj_getS (v := .ref (ad g 1)) (j := 0) C (eC_0 (z := z) (ad := ad) hg) rfl rfl cj_in0 (by decide) rfl cjq_165 rfl dX0_tellOfPerson_75 ?_
      refine cj_getS (v := .ref (ad g 3)) (j := 2) C (eC_1 (z := z) (ad := ad) hg) rfl rfl cj_in3 (by decide) rfl cjq_71 rfl dX0_tellOfPerson_78 ?_
      refine cj_iload_n C dX0_tellOfPerson_81 rfl 1 rfl ?_
      refine cj_ialdS C (eC_3 (z := z) (ad := ad) hg) dX0_tellOfPerson_82 hf (fun hf => ?_)
      cases hf
      exact cj_iret C rfl dX0_tellOfPerson_83
    refine cj_by hf (fun e5 hf => ?_) (fun e5 hf => ?_)
    · refine cj_tabI C 84 e5 dX0_tellOfPerson_15 (by decide) (by decide) rfl rfl ?_
      refine cj_aload_n C dX0_tellOfPerson_84 rfl 0 rfl ?_
      refine cj_getS (v := .ref (ad g 1)) (j := 0) C (eC_0 (z := z) (ad := ad) hg) rfl rfl cj_in0 (by decide) rfl cjq_165 rfl dX0_tellOfPerson_85 ?_
      refine cj_getS (v := .ref (ad g 4)) (j := 3) C (eC_1 (z := z) (ad := ad) hg) rfl rfl cj_in3 (by decide) rfl cjq_73 rfl dX0_tellOfPerson_88 ?_
      refine cj_iload_n C dX0_tellOfPerson_91 rfl 1 rfl ?_
      refine cj_ialdS C (eC_4 (z := z) (ad := ad) hg) dX0_tellOfPerson_92 hf (fun hf => ?_)
      cases hf
      exact cj_iret C rfl dX0_tellOfPerson_93
    refine cj_by hf (fun e6 hf => ?_) (fun e6 hf => ?_)
    · refine cj_tabI C 94 e6 dX0_tellOfPerson_15 (by decide) (by decide) rfl rfl ?_
      refine cj_aload_n C dX0_tellOfPerson_94 rfl 0 rfl ?_
      refine cj_getS (v := .ref (ad g 1)) (j := 0) C (eC_0 (z := z) (ad := ad) hg) rfl rfl cj_in0 (by decide) rfl cjq_165 rfl dX0_tellOfPerson_95 ?_
      refine cj_getS (v := .ref (ad g 5)) (j := 4) C (eC_1 (z := z) (ad := ad) hg) rfl rfl cj_in3 (by decide) rfl cjq_75 rfl dX0_tellOfPerson_98 ?_
      refine cj_iload_n C dX0_tellOfPerson_101 rfl 1 rfl ?_
      refine cj_ialdS C (eC_5 (z := z) (ad := ad) hg) dX0_tellOfPerson_102 hf (fun hf => ?_)
      cases hf
      exact cj_iret C rfl dX0_tellOfPerson_103
    refine cj_by hf (fun e9 hf => ?_) (fun e9 hf => ?_)
    · refine cj_tabI C 104 e9 dX0_tellOfPerson_15 (by decide) (by decide) rfl rfl ?_
      refine cj_aload_n C dX0_tellOfPerson_104 rfl 0 rfl ?_
      refine cj_getS (v := .ref (ad g 1)) (j := 0) C (eC_0 (z := z) (ad := ad) hg) rfl rfl cj_in0 (by decide) rfl cjq_165 rfl dX0_tellOfPerson_105 ?_
      refine cj_iload_n C dX0_tellOfPerson_108 rfl 1 rfl ?_
      refine cj_iconst C 0 dX0_tellOfPerson_109 rfl ?_
      obtain ⟨x8, h7, hf⟩ := cj_bd_s hf
      refine cj_cV2i C cw_X3_seenAfter (ct_X3_seenAfter hI hg h7) cjq_381 cjq_382 cjq_380 (eC_1 (z := z) (ad := ad) hg) rfl rfl ⟨Nat.le_of_ble_eq_true rfl, Nat.le_of_ble_eq_true rfl⟩ (Nat.le_of_ble_eq_true rfl) dX0_tellOfPerson_110 ?_
      cases hf
      exact cj_iret C rfl dX0_tellOfPerson_113
    refine cj_by hf (fun e12 hf => ?_) (fun e12 hf => ?_)
    · refine cj_tabI C 114 e12 dX0_tellOfPerson_15 (by decide) (by decide) rfl rfl ?_
      refine cj_aload_n C dX0_tellOfPerson_114 rfl 0 rfl ?_
      refine cj_iload_n C dX0_tellOfPerson_115 rfl 1 rfl ?_
      obtain ⟨x11, h10, hf⟩ := cj_bd_s hf
      refine cj_cV1i C cw_X0_remembered (ct_X0_remembered hI hg h10) cjq_440 cjq_441 cjq_439 (eC_0 (z := z) (ad := ad) hg) rfl rfl ⟨Nat.le_of_ble_eq_true rfl, Nat.le_of_ble_eq_true rfl⟩ (Nat.le_of_ble_eq_true rfl) dX0_tellOfPerson_116 ?_
      cases hf
      exact cj_iret C rfl dX0_tellOfPerson_119
    refine cj_by hf (fun e15 hf => ?_) (fun e15 hf => ?_)
    · refine cj_tabI C 120 e15 dX0_tellOfPerson_15 (by decide) (by decide) rfl rfl ?_
      refine cj_aload_n C dX0_tellOfPerson_120 rfl 0 rfl ?_
      refine cj_iload_n C dX0_tellOfPerson_121 rfl 1 rfl ?_
      obtain ⟨x14, h13, hf⟩ := cj_bd_s hf
      refine cj_cV1i C cw_X0_hasVerdict (ct_X0_hasVerdict hI hg h13) cjq_480 cjq_481 cjq_479 (eC_0 (z := z) (ad := ad) hg) rfl rfl ⟨Nat.le_of_ble_eq_true rfl, Nat.le_of_ble_eq_true rfl⟩ (Nat.le_of_ble_eq_true rfl) dX0_tellOfPerson_122 ?_
      refine cj_if_eq C 132 dX0_tellOfPerson_125 rfl hf (fun hf => ?_) (fun hf => ?_)
      · refine cj_iconst C 0 dX0_tellOfPerson_132 rfl ?_
        cases hf
        exact cj_iret C rfl dX0_tellOfPerson_133
      · refine cj_iconst C 1 dX0_tellOfPerson_128 rfl ?_
        refine cj_goto C 133 dX0_tellOfPerson_129 rfl ?_
        cases hf
        exact cj_iret C rfl dX0_tellOfPerson_133
    refine cj_by hf (fun e18 hf => ?_) (fun e18 hf => ?_)
    · refine cj_tabI C 134 e18 dX0_tellOfPerson_15 (by decide) (by decide) rfl rfl ?_
      refine cj_aload_n C dX0_tellOfPerson_134 rfl 0 rfl ?_
      refine cj_getS (v := .ref (ad g 9)) (j := 1) C (eC_0 (z := z) (ad := ad) hg) rfl rfl cj_in0 (by decide) rfl cjq_167 rfl dX0_tellOfPerson_135 ?_
      refine cj_iload_n C dX0_tellOfPerson_138 rfl 1 rfl ?_
      obtain ⟨x17, h16, hf⟩ := cj_bd_s hf
      refine cj_cV1i C cw_X6_ofPerson (ct_X6_ofPerson hI hg h16) cjq_488 cjq_489 cjq_487 (eC_9 (z := z) (ad := ad) hg) rfl rfl ⟨Nat.le_of_ble_eq_true rfl, Nat.le_of_ble_eq_true rfl⟩ (Nat.le_of_ble_eq_true rfl) dX0_tellOfPerson_139 ?_
      cases hf
      exact cj_iret C rfl dX0_tellOfPerson_142
    refine cj_by hf (fun e19 hf => ?_) (fun e19 hf => ?_)
    · refine cj_tabI C 143 e19 dX0_tellOfPerson_15 (by decide) (by decide) rfl rfl ?_
      refine cj_aload_n C dX0_tellOfPerson_143 rfl 0 rfl ?_
      refine cj_getS (v := .ref (ad g 1)) (j := 0) C (eC_0 (z := z) (ad := ad) hg) rfl rfl cj_in0 (by decide) rfl cjq_165 rfl dX0_tellOfPerson_144 ?_
      refine cj_getS (v := .ref (ad g 7)) (j := 6) C (eC_1 (z := z) (ad := ad) hg) rfl rfl cj_in3 (by decide) rfl cjq_79 rfl dX0_tellOfPerson_147 ?_
      refine cj_iload_n C dX0_tellOfPerson_150 rfl 1 rfl ?_
      refine cj_ialdS C (eC_7 (z := z) (ad := ad) hg) dX0_tellOfPerson_151 hf (fun hf => ?_)
      cases hf
      exact cj_iret C rfl dX0_tellOfPerson_152
    refine cj_tabD C 153 [0, 1, 2, 3, 4, 5, 6, 7, 8] (List.forall_mem_cons.mpr ⟨e3, List.forall_mem_cons.mpr ⟨e4, List.forall_mem_cons.mpr ⟨e5, List.forall_mem_cons.mpr ⟨e6, List.forall_mem_cons.mpr ⟨e9, List.forall_mem_cons.mpr ⟨e12, List.forall_mem_cons.mpr ⟨e15, List.forall_mem_cons.mpr ⟨e18, List.forall_mem_cons.mpr ⟨e19, fun _ h => absurd h List.not_mem_nil⟩⟩⟩⟩⟩⟩⟩⟩⟩) dX0_tellOfPerson_15 (by decide +kernel) rfl ?_
    refine cj_ldc C cjq_357 dX0_tellOfPerson_153 ?_
    cases hf
    exact cj_iret C rfl dX0_tellOfPerson_155
  · refine cj_ldc C cjq_357 dX0_tellOfPerson_11 ?_
    cases hf
    exact cj_iret C rfl dX0_tellOfPerson_13
set_option maxHeartbeats 4000000 in
set_option maxRecDepth 100000 in
theorem ct_X0_tellOfSheet {l : Launch} {D : va_G} {z : cj_Zc} {ad : cj_Ad} (hI : cj_Ij (cj_EL z) ad) {μ : cj_Mm} {g : Nat} (hg : cj_isC g) {s0 : cj_S} {a1 : Int32} {a2 : Int32} {r : Int32} (hf : f_X0_tellOfSheet s0 a1 a2 = some r) : cj_Ct l (cj_YL D z ad) yX0_tellOfSheet cX0_tellOfSheet 4 (some .int) 3 [.ref (ad g 0), .int a1, .int a2] (cj_upG μ g s0) (some (.int r)) (cj_upG μ g s0) := by
  refine cj_Ct.of (by decide +kernel) hI (Nat.le_of_ble_eq_true rfl) [(0, .ref (ad g 0)), (1, .int a1), (2, .int a2)] rfl (fun X hX C => ?_)
  subst hX
  have C : cj_C (cj_YL D z ad) X cX0_tellOfSheet 4 RX0 3 (some .int) := C
  unfold f_X0_tellOfSheet at hf
  refine cj_aload_n C dX0_tellOfSheet_0 rfl 0 rfl ?_
  refine cj_getS (v := .ref (ad g 9)) (j := 1) C (eC_0 (z := z) (ad := ad) hg) rfl rfl cj_in0 (by decide) rfl cjq_167 rfl dX0_tellOfSheet_1 ?_
  refine cj_iload_n C dX0_tellOfSheet_4 rfl 1 rfl ?_
  obtain ⟨x2, h1, hf⟩ := cj_bd_s hf
  refine cj_cV1i C cw_X6_placeOf (ct_X6_placeOf hI hg h1) cjq_432 cjq_433 cjq_431 (eC_9 (z := z) (ad := ad) hg) rfl rfl ⟨Nat.le_of_ble_eq_true rfl, Nat.le_of_ble_eq_true rfl⟩ (Nat.le_of_ble_eq_true rfl) dX0_tellOfSheet_5 ?_
  refine cj_istore_n (lv' := [(3, .int x2), (0, .ref (ad g 0)), (1, .int a1), (2, .int a2)]) C dX0_tellOfSheet_8 rfl (by decide) rfl ?_
  refine cj_iload_n C dX0_tellOfSheet_9 rfl 0 rfl ?_
  refine cj_iconst C (-1) dX0_tellOfSheet_10 rfl ?_
  refine cj_ic_ne C 17 dX0_tellOfSheet_11 rfl hf (fun hf => ?_) (fun hf => ?_)
  · refine cj_iload_n C dX0_tellOfSheet_17 rfl 3 rfl ?_
    refine cj_by hf (fun e3 hf => ?_) (fun e3 hf => ?_)
    · refine cj_tabI C 56 e3 dX0_tellOfSheet_18 (by decide) (by decide) rfl rfl ?_
      refine cj_aload_n C dX0_tellOfSheet_56 rfl 1 rfl ?_
      refine cj_getS (v := .ref (ad g 9)) (j := 1) C (eC_0 (z := z) (ad := ad) hg) rfl rfl cj_in0 (by decide) rfl cjq_167 rfl dX0_tellOfSheet_57 ?_
      refine cj_getS (v := .ref (ad g 11)) (j := 3) C (eC_9 (z := z) (ad := ad) hg) rfl rfl cj_in6 (by decide) rfl cjq_114 rfl dX0_tellOfSheet_60 ?_
      refine cj_iload_n C dX0_tellOfSheet_63 rfl 0 rfl ?_
      refine cj_ialdS C (eC_11 (z := z) (ad := ad) hg) dX0_tellOfSheet_64 hf (fun hf => ?_)
      cases hf
      exact cj_iret C rfl dX0_tellOfSheet_65
    refine cj_by hf (fun e4 hf => ?_) (fun e4 hf => ?_)
    · refine cj_tabI C 66 e4 dX0_tellOfSheet_18 (by decide) (by decide) rfl rfl ?_
      refine cj_aload_n C dX0_tellOfSheet_66 rfl 1 rfl ?_
      refine cj_getS (v := .ref (ad g 9)) (j := 1) C (eC_0 (z := z) (ad := ad) hg) rfl rfl cj_in0 (by decide) rfl cjq_167 rfl dX0_tellOfSheet_67 ?_
      refine cj_getS (v := .ref (ad g 12)) (j := 4) C (eC_9 (z := z) (ad := ad) hg) rfl rfl cj_in6 (by decide) rfl cjq_116 rfl dX0_tellOfSheet_70 ?_
      refine cj_iload_n C dX0_tellOfSheet_73 rfl 0 rfl ?_
      refine cj_ialdS C (eC_12 (z := z) (ad := ad) hg) dX0_tellOfSheet_74 hf (fun hf => ?_)
      cases hf
      exact cj_iret C rfl dX0_tellOfSheet_75
    refine cj_by hf (fun e7 hf => ?_) (fun e7 hf => ?_)
    · refine cj_tabI C 76 e7 dX0_tellOfSheet_18 (by decide) (by decide) rfl rfl ?_
      refine cj_aload_n C dX0_tellOfSheet_76 rfl 1 rfl ?_
      refine cj_getS (v := .ref (ad g 9)) (j := 1) C (eC_0 (z := z) (ad := ad) hg) rfl rfl cj_in0 (by decide) rfl cjq_167 rfl dX0_tellOfSheet_77 ?_
      refine cj_getS (v := .ref (ad g 12)) (j := 4) C (eC_9 (z := z) (ad := ad) hg) rfl rfl cj_in6 (by decide) rfl cjq_116 rfl dX0_tellOfSheet_80 ?_
      refine cj_iload_n C dX0_tellOfSheet_83 rfl 0 rfl ?_
      refine cj_ialdS C (eC_12 (z := z) (ad := ad) hg) dX0_tellOfSheet_84 hf (fun hf => ?_)
      obtain ⟨x6, h5, hf⟩ := cj_bd_s hf
      refine cj_cS1i C cw_J6_bitCount_0f7a4 (ct_J6_bitCount_0f7a4 hI h5) cjq_454 cjq_453 ⟨Nat.le_of_ble_eq_true rfl, Nat.le_of_ble_eq_true rfl⟩ (Nat.le_of_ble_eq_true rfl) dX0_tellOfSheet_85 ?_
      cases hf
      exact cj_iret C rfl dX0_tellOfSheet_88
    refine cj_by hf (fun e10 hf => ?_) (fun e10 hf => ?_)
    · refine cj_tabI C 89 e10 dX0_tellOfSheet_18 (by decide) (by decide) rfl rfl ?_
      refine cj_aload_n C dX0_tellOfSheet_89 rfl 1 rfl ?_
      refine cj_iload_n C dX0_tellOfSheet_90 rfl 0 rfl ?_
      obtain ⟨x9, h8, hf⟩ := cj_bd_s hf
      refine cj_cV1i C cw_X0_isDry (ct_X0_isDry hI hg h8) cjq_508 cjq_509 cjq_507 (eC_0 (z := z) (ad := ad) hg) rfl rfl ⟨Nat.le_of_ble_eq_true rfl, Nat.le_of_ble_eq_true rfl⟩ (Nat.le_of_ble_eq_true rfl) dX0_tellOfSheet_91 ?_
      refine cj_if_eq C 101 dX0_tellOfSheet_94 rfl hf (fun hf => ?_) (fun hf => ?_)
      · refine cj_iconst C 0 dX0_tellOfSheet_101 rfl ?_
        cases hf
        exact cj_iret C rfl dX0_tellOfSheet_102
      · refine cj_iconst C 1 dX0_tellOfSheet_97 rfl ?_
        refine cj_goto C 102 dX0_tellOfSheet_98 rfl ?_
        cases hf
        exact cj_iret C rfl dX0_tellOfSheet_102
    refine cj_by hf (fun e13 hf => ?_) (fun e13 hf => ?_)
    · refine cj_tabI C 103 e13 dX0_tellOfSheet_18 (by decide) (by decide) rfl rfl ?_
      refine cj_aload_n C dX0_tellOfSheet_103 rfl 1 rfl ?_
      refine cj_iload_n C dX0_tellOfSheet_104 rfl 0 rfl ?_
      obtain ⟨x12, h11, hf⟩ := cj_bd_s hf
      refine cj_cV1i C cw_X0_wetFor (ct_X0_wetFor hI hg h11) cjq_512 cjq_513 cjq_511 (eC_0 (z := z) (ad := ad) hg) rfl rfl ⟨Nat.le_of_ble_eq_true rfl, Nat.le_of_ble_eq_true rfl⟩ (Nat.le_of_ble_eq_true rfl) dX0_tellOfSheet_105 ?_
      cases hf
      exact cj_iret C rfl dX0_tellOfSheet_108
    refine cj_by hf (fun e16 hf => ?_) (fun e16 hf => ?_)
    · refine cj_tabI C 109 e16 dX0_tellOfSheet_18 (by decide) (by decide) rfl rfl ?_
      refine cj_aload_n C dX0_tellOfSheet_109 rfl 1 rfl ?_
      refine cj_iload_n C dX0_tellOfSheet_110 rfl 0 rfl ?_
      obtain ⟨x15, h14, hf⟩ := cj_bd_s hf
      refine cj_cV1i C cw_X0_drawable (ct_X0_drawable hI hg h14) cjq_436 cjq_437 cjq_435 (eC_0 (z := z) (ad := ad) hg) rfl rfl ⟨Nat.le_of_ble_eq_true rfl, Nat.le_of_ble_eq_true rfl⟩ (Nat.le_of_ble_eq_true rfl) dX0_tellOfSheet_111 ?_
      cases hf
      exact cj_iret C rfl dX0_tellOfSheet_114
    refine cj_tabD C 115 [0, 1, 2, 3, 4, 5] (List.forall_mem_cons.mpr ⟨e3, List.forall_mem_cons.mpr ⟨e4, List.forall_mem_cons.mpr ⟨e7, List.forall_mem_cons.mpr ⟨e10, List.forall_mem_cons.mpr ⟨e13, List.forall_mem_cons.mpr ⟨e16, fun _ h => absurd h List.not_mem_nil⟩⟩⟩⟩⟩⟩) dX0_tellOfSheet_18 (by decide +kernel) rfl ?_
    refine cj_ldc C cjq_357 dX0_tellOfSheet_115 ?_
    cases hf
    exact cj_iret C rfl dX0_tellOfSheet_117
  · refine cj_ldc C cjq_357 dX0_tellOfSheet_14 ?_
    cases hf
    exact cj_iret C rfl dX0_tellOfSheet_16
set_option maxHeartbeats 4000000 in
set_option maxRecDepth 100000 in
theorem ct_X0_tellOfPaper {l : Launch} {D : va_G} {z : cj_Zc} {ad : cj_Ad} (hI : cj_Ij (cj_EL z) ad) {μ : cj_Mm} {g : Nat} (hg : cj_isC g) {s0 : cj_S} {a1 : Int32} {a2 : Int32} {r : Int32} (hf : f_X0_tellOfPaper s0 a1 a2 = some r) : cj_Ct l (cj_YL D z ad) yX0_tellOfPaper cX0_tellOfPaper 3 (some .int) 1 [.ref (ad g 0), .int a1, .int a2] (cj_upG μ g s0) (some (.int r)) (cj_upG μ g s0) := by
  refine cj_Ct.of (by decide +kernel) hI (Nat.le_of_ble_eq_true rfl) [(0, .ref (ad g 0)), (1, .int a1), (2, .int a2)] rfl (fun X hX C => ?_)
  subst hX
  have C : cj_C (cj_YL D z ad) X cX0_tellOfPaper 3 RX0 1 (some .int) := C
  unfold f_X0_tellOfPaper at hf
  refine cj_aload_n C dX0_tellOfPaper_0 rfl 0 rfl ?_
  refine cj_getS (v := .ref (ad g 14)) (j := 2) C (eC_0 (z := z) (ad := ad) hg) rfl rfl cj_in0 (by decide) rfl cjq_169 rfl dX0_tellOfPaper_1 ?_
  refine cj_iload_n C dX0_tellOfPaper_4 rfl 1 rfl ?_
  obtain ⟨x2, h1, hf⟩ := cj_bd_s hf
  refine cj_cV1i C cw_X2_has (ct_X2_has hI hg h1) cjq_500 cjq_501 cjq_499 (eC_14 (z := z) (ad := ad) hg) rfl rfl ⟨Nat.le_of_ble_eq_true rfl, Nat.le_of_ble_eq_true rfl⟩ (Nat.le_of_ble_eq_true rfl) dX0_tellOfPaper_5 ?_
  refine cj_if_ne C 14 dX0_tellOfPaper_8 rfl hf (fun hf => ?_) (fun hf => ?_)
  · refine cj_iload_n C dX0_tellOfPaper_14 rfl 2 rfl ?_
    refine cj_by hf (fun e3 hf => ?_) (fun e3 hf => ?_)
    · refine cj_tabI C 48 e3 dX0_tellOfPaper_15 (by decide) (by decide) rfl rfl ?_
      refine cj_aload_n C dX0_tellOfPaper_48 rfl 0 rfl ?_
      refine cj_getS (v := .ref (ad g 14)) (j := 2) C (eC_0 (z := z) (ad := ad) hg) rfl rfl cj_in0 (by decide) rfl cjq_169 rfl dX0_tellOfPaper_49 ?_
      refine cj_getS (v := .ref (ad g 15)) (j := 1) C (eC_14 (z := z) (ad := ad) hg) rfl rfl cj_in2 (by decide) rfl cjq_141 rfl dX0_tellOfPaper_52 ?_
      refine cj_iload_n C dX0_tellOfPaper_55 rfl 1 rfl ?_
      refine cj_ialdS C (eC_15 (z := z) (ad := ad) hg) dX0_tellOfPaper_56 hf (fun hf => ?_)
      cases hf
      exact cj_iret C rfl dX0_tellOfPaper_57
    refine cj_by hf (fun e4 hf => ?_) (fun e4 hf => ?_)
    · refine cj_tabI C 58 e4 dX0_tellOfPaper_15 (by decide) (by decide) rfl rfl ?_
      refine cj_aload_n C dX0_tellOfPaper_58 rfl 0 rfl ?_
      refine cj_getS (v := .ref (ad g 14)) (j := 2) C (eC_0 (z := z) (ad := ad) hg) rfl rfl cj_in0 (by decide) rfl cjq_169 rfl dX0_tellOfPaper_59 ?_
      refine cj_getS (v := .ref (ad g 16)) (j := 2) C (eC_14 (z := z) (ad := ad) hg) rfl rfl cj_in2 (by decide) rfl cjq_143 rfl dX0_tellOfPaper_62 ?_
      refine cj_iload_n C dX0_tellOfPaper_65 rfl 1 rfl ?_
      refine cj_ialdS C (eC_16 (z := z) (ad := ad) hg) dX0_tellOfPaper_66 hf (fun hf => ?_)
      cases hf
      exact cj_iret C rfl dX0_tellOfPaper_67
    refine cj_by hf (fun e5 hf => ?_) (fun e5 hf => ?_)
    · refine cj_tabI C 68 e5 dX0_tellOfPaper_15 (by decide) (by decide) rfl rfl ?_
      refine cj_aload_n C dX0_tellOfPaper_68 rfl 0 rfl ?_
      refine cj_getS (v := .ref (ad g 14)) (j := 2) C (eC_0 (z := z) (ad := ad) hg) rfl rfl cj_in0 (by decide) rfl cjq_169 rfl dX0_tellOfPaper_69 ?_
      refine cj_getS (v := .ref (ad g 17)) (j := 3) C (eC_14 (z := z) (ad := ad) hg) rfl rfl cj_in2 (by decide) rfl cjq_145 rfl dX0_tellOfPaper_72 ?_
      refine cj_iload_n C dX0_tellOfPaper_75 rfl 1 rfl ?_
      refine cj_ialdS C (eC_17 (z := z) (ad := ad) hg) dX0_tellOfPaper_76 hf (fun hf => ?_)
      cases hf
      exact cj_iret C rfl dX0_tellOfPaper_77
    refine cj_by hf (fun e6 hf => ?_) (fun e6 hf => ?_)
    · refine cj_tabI C 78 e6 dX0_tellOfPaper_15 (by decide) (by decide) rfl rfl ?_
      refine cj_aload_n C dX0_tellOfPaper_78 rfl 0 rfl ?_
      refine cj_getS (v := .ref (ad g 14)) (j := 2) C (eC_0 (z := z) (ad := ad) hg) rfl rfl cj_in0 (by decide) rfl cjq_169 rfl dX0_tellOfPaper_79 ?_
      refine cj_getS (v := .ref (ad g 18)) (j := 4) C (eC_14 (z := z) (ad := ad) hg) rfl rfl cj_in2 (by decide) rfl cjq_147 rfl dX0_tellOfPaper_82 ?_
      refine cj_iload_n C dX0_tellOfPaper_85 rfl 1 rfl ?_
      refine cj_ialdS C (eC_18 (z := z) (ad := ad) hg) dX0_tellOfPaper_86 hf (fun hf => ?_)
      cases hf
      exact cj_iret C rfl dX0_tellOfPaper_87
    refine cj_by hf (fun e11 hf => ?_) (fun e11 hf => ?_)
    · refine cj_tabI C 88 e11 dX0_tellOfPaper_15 (by decide) (by decide) rfl rfl ?_
      refine cj_aload_n C dX0_tellOfPaper_88 rfl 0 rfl ?_
      refine cj_getS (v := .ref (ad g 14)) (j := 2) C (eC_0 (z := z) (ad := ad) hg) rfl rfl cj_in0 (by decide) rfl cjq_169 rfl dX0_tellOfPaper_89 ?_
      refine cj_iload_n C dX0_tellOfPaper_92 rfl 1 rfl ?_
      refine cj_aload_n C dX0_tellOfPaper_93 rfl 0 rfl ?_
      obtain ⟨x8, h7, hf⟩ := cj_bd_s hf
      refine cj_cV0i C cw_X0_day (ct_X0_day hI hg h7) cjq_484 cjq_485 cjq_483 (eC_0 (z := z) (ad := ad) hg) rfl rfl ⟨Nat.le_of_ble_eq_true rfl, Nat.le_of_ble_eq_true rfl⟩ (Nat.le_of_ble_eq_true rfl) dX0_tellOfPaper_94 ?_
      obtain ⟨x10, h9, hf⟩ := cj_bd_s hf
      refine cj_cV2i C cw_X2_peopleBoughtOn (ct_X2_peopleBoughtOn hI hg h9) cjq_516 cjq_517 cjq_515 (eC_14 (z := z) (ad := ad) hg) rfl rfl ⟨Nat.le_of_ble_eq_true rfl, Nat.le_of_ble_eq_true rfl⟩ (Nat.le_of_ble_eq_true rfl) dX0_tellOfPaper_97 ?_
      cases hf
      exact cj_iret C rfl dX0_tellOfPaper_100
    refine cj_tabD C 101 [0, 1, 2, 3, 4] (List.forall_mem_cons.mpr ⟨e3, List.forall_mem_cons.mpr ⟨e4, List.forall_mem_cons.mpr ⟨e5, List.forall_mem_cons.mpr ⟨e6, List.forall_mem_cons.mpr ⟨e11, fun _ h => absurd h List.not_mem_nil⟩⟩⟩⟩⟩) dX0_tellOfPaper_15 (by decide +kernel) rfl ?_
    refine cj_ldc C cjq_357 dX0_tellOfPaper_101 ?_
    cases hf
    exact cj_iret C rfl dX0_tellOfPaper_103
  · refine cj_ldc C cjq_357 dX0_tellOfPaper_11 ?_
    cases hf
    exact cj_iret C rfl dX0_tellOfPaper_13
set_option maxHeartbeats 4000000 in
set_option maxRecDepth 100000 in
theorem ct_X0_tellCount {l : Launch} {D : va_G} {z : cj_Zc} {ad : cj_Ad} (hI : cj_Ij (cj_EL z) ad) {μ : cj_Mm} {g : Nat} (hg : cj_isC g) {s0 : cj_S} {a1 : Int32} {r : Int32} (hf : f_X0_tellCount s0 a1 = some r) : cj_Ct l (cj_YL D z ad) yX0_tellCount cX0_tellCount 2 (some .int) 1 [.ref (ad g 0), .int a1] (cj_upG μ g s0) (some (.int r)) (cj_upG μ g s0) := by
  refine cj_Ct.of (by decide +kernel) hI (Nat.le_of_ble_eq_true rfl) [(0, .ref (ad g 0)), (1, .int a1)] rfl (fun X hX C => ?_)
  subst hX
  have C : cj_C (cj_YL D z ad) X cX0_tellCount 2 RX0 1 (some .int) := C
  unfold f_X0_tellCount at hf
  refine cj_iload_n C dX0_tellCount_0 rfl 1 rfl ?_
  refine cj_by hf (fun e1 hf => ?_) (fun e1 hf => ?_)
  · refine cj_tabI C 104 e1 dX0_tellCount_1 (by decide) (by decide) rfl rfl ?_
    refine cj_aload_n C dX0_tellCount_104 rfl 0 rfl ?_
    refine cj_getS (v := .ref (ad g 1)) (j := 0) C (eC_0 (z := z) (ad := ad) hg) rfl rfl cj_in0 (by decide) rfl cjq_165 rfl dX0_tellCount_105 ?_
    refine cj_getS (v := .int (s0 1 0)) (j := 0) C (eC_1 (z := z) (ad := ad) hg) rfl rfl cj_in3 (by decide) rfl cjq_67 rfl dX0_tellCount_108 ?_
    cases hf
    exact cj_iret C rfl dX0_tellCount_111
  refine cj_by hf (fun e2 hf => ?_) (fun e2 hf => ?_)
  · refine cj_tabI C 112 e2 dX0_tellCount_1 (by decide) (by decide) rfl rfl ?_
    refine cj_aload_n C dX0_tellCount_112 rfl 0 rfl ?_
    refine cj_getS (v := .ref (ad g 14)) (j := 2) C (eC_0 (z := z) (ad := ad) hg) rfl rfl cj_in0 (by decide) rfl cjq_169 rfl dX0_tellCount_113 ?_
    refine cj_getS (v := .int (s0 14 0)) (j := 0) C (eC_14 (z := z) (ad := ad) hg) rfl rfl cj_in2 (by decide) rfl cjq_139 rfl dX0_tellCount_116 ?_
    cases hf
    exact cj_iret C rfl dX0_tellCount_119
  refine cj_by hf (fun e3 hf => ?_) (fun e3 hf => ?_)
  · refine cj_tabI C 120 e3 dX0_tellCount_1 (by decide) (by decide) rfl rfl ?_
    refine cj_aload_n C dX0_tellCount_120 rfl 0 rfl ?_
    refine cj_getS (v := .ref (ad g 9)) (j := 1) C (eC_0 (z := z) (ad := ad) hg) rfl rfl cj_in0 (by decide) rfl cjq_167 rfl dX0_tellCount_121 ?_
    refine cj_getS (v := .int (s0 9 0)) (j := 0) C (eC_9 (z := z) (ad := ad) hg) rfl rfl cj_in6 (by decide) rfl cjq_106 rfl dX0_tellCount_124 ?_
    cases hf
    exact cj_iret C rfl dX0_tellCount_127
  refine cj_by hf (fun e4 hf => ?_) (fun e4 hf => ?_)
  · refine cj_tabI C 128 e4 dX0_tellCount_1 (by decide) (by decide) rfl rfl ?_
    refine cj_aload_n C dX0_tellCount_128 rfl 0 rfl ?_
    refine cj_getS (v := .ref (ad g 9)) (j := 1) C (eC_0 (z := z) (ad := ad) hg) rfl rfl cj_in0 (by decide) rfl cjq_167 rfl dX0_tellCount_129 ?_
    refine cj_getS (v := .int (s0 9 1)) (j := 1) C (eC_9 (z := z) (ad := ad) hg) rfl rfl cj_in6 (by decide) rfl cjq_109 rfl dX0_tellCount_132 ?_
    cases hf
    exact cj_iret C rfl dX0_tellCount_135
  refine cj_by hf (fun e5 hf => ?_) (fun e5 hf => ?_)
  · refine cj_tabI C 136 e5 dX0_tellCount_1 (by decide) (by decide) rfl rfl ?_
    refine cj_aload_n C dX0_tellCount_136 rfl 0 rfl ?_
    refine cj_getS (v := .int (s0 0 5)) (j := 5) C (eC_0 (z := z) (ad := ad) hg) rfl rfl cj_in0 (by decide) rfl cjq_173 rfl dX0_tellCount_137 ?_
    cases hf
    exact cj_iret C rfl dX0_tellCount_140
  refine cj_by hf (fun e8 hf => ?_) (fun e8 hf => ?_)
  · refine cj_tabI C 141 e8 dX0_tellCount_1 (by decide) (by decide) rfl rfl ?_
    refine cj_aload_n C dX0_tellCount_141 rfl 0 rfl ?_
    obtain ⟨x7, h6, hf⟩ := cj_bd_s hf
    refine cj_cV0i C cw_X0_day (ct_X0_day hI hg h6) cjq_484 cjq_485 cjq_483 (eC_0 (z := z) (ad := ad) hg) rfl rfl ⟨Nat.le_of_ble_eq_true rfl, Nat.le_of_ble_eq_true rfl⟩ (Nat.le_of_ble_eq_true rfl) dX0_tellCount_142 ?_
    cases hf
    exact cj_iret C rfl dX0_tellCount_145
  refine cj_by hf (fun e11 hf => ?_) (fun e11 hf => ?_)
  · refine cj_tabI C 146 e11 dX0_tellCount_1 (by decide) (by decide) rfl rfl ?_
    refine cj_aload_n C dX0_tellCount_146 rfl 0 rfl ?_
    obtain ⟨x10, h9, hf⟩ := cj_bd_s hf
    refine cj_cV0i C cw_X0_hour (ct_X0_hour hI hg h9) cjq_524 cjq_525 cjq_523 (eC_0 (z := z) (ad := ad) hg) rfl rfl ⟨Nat.le_of_ble_eq_true rfl, Nat.le_of_ble_eq_true rfl⟩ (Nat.le_of_ble_eq_true rfl) dX0_tellCount_147 ?_
    cases hf
    exact cj_iret C rfl dX0_tellCount_150
  refine cj_by hf (fun e12 hf => ?_) (fun e12 hf => ?_)
  · refine cj_tabI C 151 e12 dX0_tellCount_1 (by decide) (by decide) rfl rfl ?_
    refine cj_aload_n C dX0_tellCount_151 rfl 0 rfl ?_
    refine cj_getS (v := .int (s0 0 6)) (j := 6) C (eC_0 (z := z) (ad := ad) hg) rfl rfl cj_in0 (by decide) rfl cjq_174 rfl dX0_tellCount_152 ?_
    refine cj_iconst C (-1) dX0_tellCount_155 rfl ?_
    refine cj_ic_ne C 164 dX0_tellCount_156 rfl hf (fun hf => ?_) (fun hf => ?_)
    · refine cj_aload_n C dX0_tellCount_164 rfl 0 rfl ?_
      refine cj_getS (v := .int (s0 0 6)) (j := 6) C (eC_0 (z := z) (ad := ad) hg) rfl rfl cj_in0 (by decide) rfl cjq_174 rfl dX0_tellCount_165 ?_
      cases hf
      exact cj_iret C rfl dX0_tellCount_168
    · refine cj_ldc C cjq_643 dX0_tellCount_159 ?_
      refine cj_goto C 168 dX0_tellCount_161 rfl ?_
      cases hf
      exact cj_iret C rfl dX0_tellCount_168
  refine cj_by hf (fun e13 hf => ?_) (fun e13 hf => ?_)
  · refine cj_tabI C 169 e13 dX0_tellCount_1 (by decide) (by decide) rfl rfl ?_
    refine cj_iconst C 3 dX0_tellCount_169 rfl ?_
    refine cj_aload_n C dX0_tellCount_170 rfl 0 rfl ?_
    refine cj_getS (v := .int (s0 0 7)) (j := 7) C (eC_0 (z := z) (ad := ad) hg) rfl rfl cj_in0 (by decide) rfl cjq_176 rfl dX0_tellCount_171 ?_
    refine cj_isub C dX0_tellCount_174 ?_
    cases hf
    exact cj_iret C rfl dX0_tellCount_175
  refine cj_by hf (fun e14 hf => ?_) (fun e14 hf => ?_)
  · refine cj_tabI C 176 e14 dX0_tellCount_1 (by decide) (by decide) rfl rfl ?_
    refine cj_aload_n C dX0_tellCount_176 rfl 0 rfl ?_
    refine cj_getS (v := .int (s0 0 8)) (j := 8) C (eC_0 (z := z) (ad := ad) hg) rfl rfl cj_in0 (by decide) rfl cjq_177 rfl dX0_tellCount_177 ?_
    cases hf
    exact cj_iret C rfl dX0_tellCount_180
  refine cj_by hf (fun e15 hf => ?_) (fun e15 hf => ?_)
  · refine cj_tabI C 181 e15 dX0_tellCount_1 (by decide) (by decide) rfl rfl ?_
    refine cj_aload_n C dX0_tellCount_181 rfl 0 rfl ?_
    refine cj_getS (v := .int (s0 0 9)) (j := 9) C (eC_0 (z := z) (ad := ad) hg) rfl rfl cj_in0 (by decide) rfl cjq_179 rfl dX0_tellCount_182 ?_
    cases hf
    exact cj_iret C rfl dX0_tellCount_185
  refine cj_by hf (fun e16 hf => ?_) (fun e16 hf => ?_)
  · refine cj_tabI C 186 e16 dX0_tellCount_1 (by decide) (by decide) rfl rfl ?_
    refine cj_aload_n C dX0_tellCount_186 rfl 0 rfl ?_
    refine cj_getS (v := .int (s0 0 3)) (j := 3) C (eC_0 (z := z) (ad := ad) hg) rfl rfl cj_in0 (by decide) rfl cjq_171 rfl dX0_tellCount_187 ?_
    cases hf
    exact cj_iret C rfl dX0_tellCount_190
  refine cj_by hf (fun e17 hf => ?_) (fun e17 hf => ?_)
  · refine cj_tabI C 191 e17 dX0_tellCount_1 (by decide) (by decide) rfl rfl ?_
    refine cj_aload_n C dX0_tellCount_191 rfl 0 rfl ?_
    refine cj_getS (v := .int (s0 0 4)) (j := 4) C (eC_0 (z := z) (ad := ad) hg) rfl rfl cj_in0 (by decide) rfl cjq_172 rfl dX0_tellCount_192 ?_
    cases hf
    exact cj_iret C rfl dX0_tellCount_195
  refine cj_tabD C 196 [0, 1, 2, 3, 4, 5, 6, 7, 8, 9, 10, 20, 21] (List.forall_mem_cons.mpr ⟨e1, List.forall_mem_cons.mpr ⟨e2, List.forall_mem_cons.mpr ⟨e3, List.forall_mem_cons.mpr ⟨e4, List.forall_mem_cons.mpr ⟨e5, List.forall_mem_cons.mpr ⟨e8, List.forall_mem_cons.mpr ⟨e11, List.forall_mem_cons.mpr ⟨e12, List.forall_mem_cons.mpr ⟨e13, List.forall_mem_cons.mpr ⟨e14, List.forall_mem_cons.mpr ⟨e15, List.forall_mem_cons.mpr ⟨e16, List.forall_mem_cons.mpr ⟨e17, fun _ h => absurd h List.not_mem_nil⟩⟩⟩⟩⟩⟩⟩⟩⟩⟩⟩⟩⟩) dX0_tellCount_1 (by decide +kernel) rfl ?_
  refine cj_ldc C cjq_357 dX0_tellCount_196 ?_
  cases hf
  exact cj_iret C rfl dX0_tellCount_198
set_option maxHeartbeats 4000000 in
set_option maxRecDepth 100000 in
theorem ct_X1_prepare {l : Launch} {D : va_G} {z : cj_Zc} {ad : cj_Ad} (hI : cj_Ij (cj_EL z) ad) {m0 : cj_Mm} {r : cj_Mm} (hf : f_X1_prepare m0 = some r) : cj_Ct l (cj_YL D z ad) yX1_prepare cX1_prepare 3 none 4 [.ref (ad 1 0), .ref (ad 5 0)] (m0) none (r) := by
  refine cj_Ct.of (by decide +kernel) hI (Nat.le_of_ble_eq_true rfl) [(0, .ref (ad 1 0)), (1, .ref (ad 5 0))] rfl (fun X hX C => ?_)
  subst hX
  have C : cj_C (cj_YL D z ad) X cX1_prepare 3 RX1 4 none := C
  unfold f_X1_prepare at hf
  refine cj_aload_n C dX1_prepare_0 rfl 0 rfl ?_
  refine cj_get (v := .ref (ad 1 1)) (j := 0) C (e1_0 (z := z) (ad := ad)) rfl rfl cj_in1 (by decide) rfl cjq_211 rfl dX1_prepare_1 ?_
  refine cj_aload_n C dX1_prepare_4 rfl 0 rfl ?_
  refine cj_get (v := .int (m0 1 0 1)) (j := 1) C (e1_0 (z := z) (ad := ad)) rfl rfl cj_in1 (by decide) rfl cjq_212 rfl dX1_prepare_5 ?_
  refine cj_aload_n C dX1_prepare_8 rfl 0 rfl ?_
  refine cj_get (v := .int (m0 1 0 2)) (j := 2) C (e1_0 (z := z) (ad := ad)) rfl rfl cj_in1 (by decide) rfl cjq_213 rfl dX1_prepare_9 ?_
  refine cj_iadd C dX1_prepare_12 ?_
  refine cj_ltI hf (fun x1 hf => ?_)
  refine cj_iconst C 5 dX1_prepare_13 rfl ?_
  refine cj_irem C dX1_prepare_14 (by decide) ?_
  refine cj_ltI hf (fun x2 hf => ?_)
  have hb1 := cj_vin (cj_gd_s hf).1
  refine cj_qald (q := fun j => ad (7 + j) 0) C (e1_1 (z := z) (ad := ad)) dX1_prepare_15 hf (fun hf => ?_)
  refine cj_astore_n (lv' := [(2, .ref (ad (7 + x2.toNatClampNeg) 0)), (0, .ref (ad 1 0)), (1, .ref (ad 5 0))]) C dX1_prepare_16 rfl (by decide) rfl ?_
  refine cj_aload_n C dX1_prepare_17 rfl 0 rfl ?_
  refine cj_ifnull C dX1_prepare_18 ?_
  refine cj_aload_n C dX1_prepare_21 rfl 0 rfl ?_
  refine cj_aload_n C dX1_prepare_22 rfl 2 rfl ?_
  obtain ⟨s4, h3, hf⟩ := cj_bd_s hf
  refine cj_cV1v C cw_X0_copyFrom (ct_X0_copyFrom hI (cj_isC_7 hb1) cj_isC_5 (by omega) h3) cjq_324 cjq_325 cjq_323 (eC_0 (z := z) (ad := ad) (cj_isC_7 hb1)) rfl rfl ⟨Nat.le_of_ble_eq_true rfl, Nat.le_of_ble_eq_true rfl⟩ (Nat.le_of_ble_eq_true rfl) dX1_prepare_23 ?_
  cases hf
  exact cj_vret C rfl dX1_prepare_26
set_option maxHeartbeats 4000000 in
set_option maxRecDepth 100000 in
theorem ct_X1_settle {l : Launch} {D : va_G} {z : cj_Zc} {ad : cj_Ad} (hI : cj_Ij (cj_EL z) ad) {μ : cj_Mm} {s0 : cj_S} {a1 : Int32} {r : Int32} {r2 : cj_S} (hf : f_X1_settle s0 a1 = some (r, r2)) : cj_Ct l (cj_YL D z ad) yX1_settle cX1_settle 2 (some .int) 0 [.ref (ad 1 0), .int a1] (cj_upG μ 1 s0) (some (.int r)) (cj_upG μ 1 r2) := by
  refine cj_Ct.of (by decide +kernel) hI (Nat.le_of_ble_eq_true rfl) [(0, .ref (ad 1 0)), (1, .int a1)] rfl (fun X hX C => ?_)
  subst hX
  have C : cj_C (cj_YL D z ad) X cX1_settle 2 RX1 0 (some .int) := C
  unfold f_X1_settle at hf
  generalize hr2 : (r, r2) = r3 at hf
  obtain ⟨e1, e2⟩ : r = r3.1 ∧ r2 = r3.2 := by rw [← hr2]; exact ⟨rfl, rfl⟩
  rw [e1, e2]
  clear e1 e2 hr2
  obtain ⟨r, hr⟩ : ∃ r, r = r3 := ⟨_, rfl⟩
  rw [← hr] at hf ⊢
  clear hr
  refine cj_iload_n C dX1_settle_0 rfl 1 rfl ?_
  refine cj_jn (Hyp := fun K1 => ∀ (u : Unit), K1 u = some r → cj_G (cj_YL D z ad) X (some (.int r.1), cj_upG μ 1 r.2) (cj_upG μ 1 s0) 25 [(0, .ref (ad 1 0)), (1, .int a1)] []) hf (fun u hf => ?_) (fun K1 hK1 hf => ?_)
  · refine cj_iload_n C dX1_settle_25 rfl 1 rfl ?_
    refine cj_if_lt C 41 dX1_settle_26 rfl hf (fun hf => ?_) (fun hf => ?_)
    · refine cj_iload_n C dX1_settle_41 rfl 1 rfl ?_
      cases hf
      exact cj_iret C rfl dX1_settle_42
    · refine cj_aload_n C dX1_settle_29 rfl 0 rfl ?_
      refine cj_aload_n C dX1_settle_30 rfl 0 rfl ?_
      refine cj_getS (v := .int (s0 0 1)) (j := 1) C (e1_0 (z := z) (ad := ad)) rfl rfl cj_in1 (by decide) rfl cjq_212 rfl dX1_settle_31 ?_
      refine cj_iconst C 1 dX1_settle_34 rfl ?_
      refine cj_iadd C dX1_settle_35 ?_
      refine cj_ltI hf (fun x2 hf => ?_)
      refine cj_iconst C 5 dX1_settle_36 rfl ?_
      refine cj_irem C dX1_settle_37 (by decide) ?_
      refine cj_putS (j := 1) C (e1_0 (z := z) (ad := ad)) rfl rfl rfl rfl cj_in1 tyX1_ok nmX1 (by decide) rfl cjq_212 rfl rfl rfl (Nat.le_of_ble_eq_true rfl) dX1_settle_38 ?_
      refine cj_ltS hf (fun s3 hf => ?_)
      refine cj_iload_n C dX1_settle_41 rfl 1 rfl ?_
      cases hf
      exact cj_iret C rfl dX1_settle_42
  · refine cj_if_lt C 25 dX1_settle_1 rfl hf (fun hf => ?_) (fun hf => ?_)
    · exact hK1 () hf
    · refine cj_aload_n C dX1_settle_4 rfl 0 rfl ?_
      refine cj_getS (v := .int (s0 0 2)) (j := 2) C (e1_0 (z := z) (ad := ad)) rfl rfl cj_in1 (by decide) rfl cjq_213 rfl dX1_settle_5 ?_
      refine cj_iconst C 4 dX1_settle_8 rfl ?_
      refine cj_ic_ge C 25 dX1_settle_9 rfl hf (fun hf => ?_) (fun hf => ?_)
      · exact hK1 () hf
      · refine cj_aload_n C dX1_settle_12 rfl 0 rfl ?_
        refine cj_dup C dX1_settle_13 rfl ?_
        refine cj_getS (v := .int (s0 0 2)) (j := 2) C (e1_0 (z := z) (ad := ad)) rfl rfl cj_in1 (by decide) rfl cjq_213 rfl dX1_settle_14 ?_
        refine cj_iconst C 1 dX1_settle_17 rfl ?_
        refine cj_iadd C dX1_settle_18 ?_
        refine cj_putS (j := 2) C (e1_0 (z := z) (ad := ad)) rfl rfl rfl rfl cj_in1 tyX1_ok nmX1 (by decide) rfl cjq_213 rfl rfl rfl (Nat.le_of_ble_eq_true rfl) dX1_settle_19 ?_
        refine cj_ltS hf (fun s4 hf => ?_)
        refine cj_goto C 41 dX1_settle_22 rfl ?_
        refine cj_iload_n C dX1_settle_41 rfl 1 rfl ?_
        cases hf
        exact cj_iret C rfl dX1_settle_42
set_option maxHeartbeats 4000000 in
set_option maxRecDepth 100000 in
theorem ct_X1_restore {l : Launch} {D : va_G} {z : cj_Zc} {ad : cj_Ad} (hI : cj_Ij (cj_EL z) ad) {m0 : cj_Mm} {r : Int32} {r2 : cj_Mm} (hf : f_X1_restore m0 = some (r, r2)) : cj_Ct l (cj_YL D z ad) yX1_restore cX1_restore 3 (some .int) 4 [.ref (ad 1 0), .ref (ad 5 0)] (m0) (some (.int r)) (r2) := by
  refine cj_Ct.of (by decide +kernel) hI (Nat.le_of_ble_eq_true rfl) [(0, .ref (ad 1 0)), (1, .ref (ad 5 0))] rfl (fun X hX C => ?_)
  subst hX
  have C : cj_C (cj_YL D z ad) X cX1_restore 3 RX1 4 (some .int) := C
  unfold f_X1_restore at hf
  generalize hr2 : (r, r2) = r3 at hf
  obtain ⟨e1, e2⟩ : r = r3.1 ∧ r2 = r3.2 := by rw [← hr2]; exact ⟨rfl, rfl⟩
  rw [e1, e2]
  clear e1 e2 hr2
  obtain ⟨r, hr⟩ : ∃ r, r = r3 := ⟨_, rfl⟩
  rw [← hr] at hf ⊢
  clear hr
  refine cj_aload_n C dX1_restore_0 rfl 0 rfl ?_
  refine cj_get (v := .int (m0 1 0 2)) (j := 2) C (e1_0 (z := z) (ad := ad)) rfl rfl cj_in1 (by decide) rfl cjq_213 rfl dX1_restore_1 ?_
  refine cj_if_gt C 10 dX1_restore_4 rfl hf (fun hf => ?_) (fun hf => ?_)
  · refine cj_aload_n C dX1_restore_10 rfl 0 rfl ?_
    refine cj_dup C dX1_restore_11 rfl ?_
    refine cj_get (v := .int (m0 1 0 2)) (j := 2) C (e1_0 (z := z) (ad := ad)) rfl rfl cj_in1 (by decide) rfl cjq_213 rfl dX1_restore_12 ?_
    refine cj_iconst C 1 dX1_restore_15 rfl ?_
    refine cj_isub C dX1_restore_16 ?_
    refine cj_put (j := 2) C (e1_0 (z := z) (ad := ad)) rfl rfl rfl rfl cj_in1 tyX1_ok nmX1 (by decide) rfl cjq_213 rfl rfl rfl (Nat.le_of_ble_eq_true rfl) dX1_restore_17 ?_
    refine cj_ltM hf (fun s1 hf => ?_)
    refine cj_aload_n C dX1_restore_20 rfl 0 rfl ?_
    refine cj_get (v := .ref (ad 1 1)) (j := 0) C (e1_0 (z := z) (ad := ad)) rfl rfl cj_in1 (by decide) rfl cjq_211 rfl dX1_restore_21 ?_
    refine cj_aload_n C dX1_restore_24 rfl 0 rfl ?_
    refine cj_get (v := .int (s1 1 0 1)) (j := 1) C (e1_0 (z := z) (ad := ad)) rfl rfl cj_in1 (by decide) rfl cjq_212 rfl dX1_restore_25 ?_
    refine cj_aload_n C dX1_restore_28 rfl 0 rfl ?_
    refine cj_get (v := .int (s1 1 0 2)) (j := 2) C (e1_0 (z := z) (ad := ad)) rfl rfl cj_in1 (by decide) rfl cjq_213 rfl dX1_restore_29 ?_
    refine cj_iadd C dX1_restore_32 ?_
    refine cj_ltI hf (fun x2 hf => ?_)
    refine cj_iconst C 5 dX1_restore_33 rfl ?_
    refine cj_irem C dX1_restore_34 (by decide) ?_
    refine cj_ltI hf (fun x3 hf => ?_)
    have hb1 := cj_vin (cj_gd_s hf).1
    refine cj_qald (q := fun j => ad (7 + j) 0) C (e1_1 (z := z) (ad := ad)) dX1_restore_35 hf (fun hf => ?_)
    refine cj_astore_n (lv' := [(2, .ref (ad (7 + x3.toNatClampNeg) 0)), (0, .ref (ad 1 0)), (1, .ref (ad 5 0))]) C dX1_restore_36 rfl (by decide) rfl ?_
    refine cj_aload_n C dX1_restore_37 rfl 0 rfl ?_
    refine cj_ifnull C dX1_restore_38 ?_
    refine cj_aload_n C dX1_restore_41 rfl 2 rfl ?_
    refine cj_aload_n C dX1_restore_42 rfl 0 rfl ?_
    obtain ⟨s5, h4, hf⟩ := cj_bd_s hf
    refine cj_cV1v C cw_X0_copyFrom (ct_X0_copyFrom hI cj_isC_5 (cj_isC_7 hb1) (by omega) h4) cjq_324 cjq_325 cjq_323 (eC_0 (z := z) (ad := ad) cj_isC_5) rfl rfl ⟨Nat.le_of_ble_eq_true rfl, Nat.le_of_ble_eq_true rfl⟩ (Nat.le_of_ble_eq_true rfl) dX1_restore_43 ?_
    refine cj_aload_n C dX1_restore_46 rfl 1 rfl ?_
    refine cj_get (v := .int (s5 1 0 2)) (j := 2) C (e1_0 (z := z) (ad := ad)) rfl rfl cj_in1 (by decide) rfl cjq_213 rfl dX1_restore_47 ?_
    cases hf
    exact cj_iret C rfl dX1_restore_50
  · refine cj_ldc C cjq_652 dX1_restore_7 ?_
    cases hf
    exact cj_iret C rfl dX1_restore_9
set_option maxHeartbeats 4000000 in
set_option maxRecDepth 100000 in
theorem ct_X7_next {l : Launch} {D : va_G} {z : cj_Zc} {ad : cj_Ad} (hI : cj_Ij (cj_EL z) ad) {μ : cj_Mm} {s0 : cj_S} {r : Int32} (hf : f_X7_next s0 = some r) : cj_Ct l (cj_YL D z ad) yX7_next cX7_next 1 (some .char) 0 [.ref (ad 2 0)] (cj_upG μ 2 s0) (some (.int r)) (cj_upG μ 2 s0) := by
  refine cj_Ct.of (by decide +kernel) hI (Nat.le_of_ble_eq_true rfl) [(0, .ref (ad 2 0))] rfl (fun X hX C => ?_)
  subst hX
  have C : cj_C (cj_YL D z ad) X cX7_next 1 RX7 0 (some .char) := C
  unfold f_X7_next at hf
  refine cj_aload_n C dX7_next_0 rfl 0 rfl ?_
  refine cj_getS (v := .int (s0 0 2)) (j := 2) C (e2_0 (z := z) (ad := ad)) rfl rfl cj_in7 (by decide) rfl cjq_233 rfl dX7_next_1 ?_
  refine cj_if_lt C 30 dX7_next_4 rfl hf (fun hf => ?_) (fun hf => ?_)
  · refine cj_bipush C 32 dX7_next_30 rfl ?_
    cases hf
    exact cj_zret C rfl rfl rfl dX7_next_32
  · refine cj_aload_n C dX7_next_7 rfl 0 rfl ?_
    refine cj_getS (v := .int (s0 0 2)) (j := 2) C (e2_0 (z := z) (ad := ad)) rfl rfl cj_in7 (by decide) rfl cjq_233 rfl dX7_next_8 ?_
    refine cj_aload_n C dX7_next_11 rfl 0 rfl ?_
    refine cj_getS (v := .int (s0 0 1)) (j := 1) C (e2_0 (z := z) (ad := ad)) rfl rfl cj_in7 (by decide) rfl cjq_229 rfl dX7_next_12 ?_
    refine cj_ic_ge C 30 dX7_next_15 rfl hf (fun hf => ?_) (fun hf => ?_)
    · refine cj_bipush C 32 dX7_next_30 rfl ?_
      cases hf
      exact cj_zret C rfl rfl rfl dX7_next_32
    · refine cj_aload_n C dX7_next_18 rfl 0 rfl ?_
      refine cj_getS (v := .ref (ad 2 1)) (j := 0) C (e2_0 (z := z) (ad := ad)) rfl rfl cj_in7 (by decide) rfl cjq_228 rfl dX7_next_19 ?_
      refine cj_aload_n C dX7_next_22 rfl 0 rfl ?_
      refine cj_getS (v := .int (s0 0 2)) (j := 2) C (e2_0 (z := z) (ad := ad)) rfl rfl cj_in7 (by decide) rfl cjq_233 rfl dX7_next_23 ?_
      refine cj_caldS C (e2_1 (z := z) (ad := ad)) dX7_next_26 hf (fun hf => ?_)
      refine cj_goto C 32 dX7_next_27 rfl ?_
      obtain ⟨hp, hf⟩ := cj_gp_s hf
      cases hf
      exact cj_zret C rfl (cj_chr hp).1 rfl dX7_next_32
set_option maxHeartbeats 4000000 in
set_option maxRecDepth 100000 in
theorem ct_X7_isOneNumber {l : Launch} {Y : cj_Y} (hI : cj_Ij Y.1 Y.2.2.2) {μ : cj_Mm} {a0 : Int32} {r : Int32} (hf : f_X7_isOneNumber a0 = some r) : cj_Ct l Y yX7_isOneNumber cX7_isOneNumber 1 (some .boolean) 0 [.int a0] (μ) (some (.int r)) (μ) := by
  refine cj_Ct.of (by decide +kernel) hI (Nat.le_of_ble_eq_true rfl) [(0, .int a0)] rfl (fun X hX C => ?_)
  subst hX
  have C : cj_C Y X cX7_isOneNumber 1 RX7 0 (some .boolean) := C
  unfold f_X7_isOneNumber at hf
  refine cj_iload_n C dX7_isOneNumber_0 rfl 0 rfl ?_
  refine cj_bipush C 108 dX7_isOneNumber_1 rfl ?_
  refine cj_ic_eq C 24 dX7_isOneNumber_3 rfl hf (fun hf => ?_) (fun hf => ?_)
  · refine cj_iconst C 1 dX7_isOneNumber_24 rfl ?_
    refine cj_goto C 29 dX7_isOneNumber_25 rfl ?_
    cases hf
    exact cj_zret C rfl rfl rfl dX7_isOneNumber_29
  · refine cj_iload_n C dX7_isOneNumber_6 rfl 0 rfl ?_
    refine cj_bipush C 98 dX7_isOneNumber_7 rfl ?_
    refine cj_ic_eq C 24 dX7_isOneNumber_9 rfl hf (fun hf => ?_) (fun hf => ?_)
    · refine cj_iconst C 1 dX7_isOneNumber_24 rfl ?_
      refine cj_goto C 29 dX7_isOneNumber_25 rfl ?_
      cases hf
      exact cj_zret C rfl rfl rfl dX7_isOneNumber_29
    · refine cj_iload_n C dX7_isOneNumber_12 rfl 0 rfl ?_
      refine cj_bipush C 118 dX7_isOneNumber_13 rfl ?_
      refine cj_ic_eq C 24 dX7_isOneNumber_15 rfl hf (fun hf => ?_) (fun hf => ?_)
      · refine cj_iconst C 1 dX7_isOneNumber_24 rfl ?_
        refine cj_goto C 29 dX7_isOneNumber_25 rfl ?_
        cases hf
        exact cj_zret C rfl rfl rfl dX7_isOneNumber_29
      · refine cj_iload_n C dX7_isOneNumber_18 rfl 0 rfl ?_
        refine cj_bipush C 109 dX7_isOneNumber_19 rfl ?_
        refine cj_ic_ne C 28 dX7_isOneNumber_21 rfl hf (fun hf => ?_) (fun hf => ?_)
        · refine cj_iconst C 0 dX7_isOneNumber_28 rfl ?_
          cases hf
          exact cj_zret C rfl rfl rfl dX7_isOneNumber_29
        · refine cj_iconst C 1 dX7_isOneNumber_24 rfl ?_
          refine cj_goto C 29 dX7_isOneNumber_25 rfl ?_
          cases hf
          exact cj_zret C rfl rfl rfl dX7_isOneNumber_29
set_option maxHeartbeats 4000000 in
set_option maxRecDepth 100000 in
theorem ct_X7_isTwoNumbers {l : Launch} {Y : cj_Y} (hI : cj_Ij Y.1 Y.2.2.2) {μ : cj_Mm} {a0 : Int32} {r : Int32} (hf : f_X7_isTwoNumbers a0 = some r) : cj_Ct l Y yX7_isTwoNumbers cX7_isTwoNumbers 1 (some .boolean) 0 [.int a0] (μ) (some (.int r)) (μ) := by
  refine cj_Ct.of (by decide +kernel) hI (Nat.le_of_ble_eq_true rfl) [(0, .int a0)] rfl (fun X hX C => ?_)
  subst hX
  have C : cj_C Y X cX7_isTwoNumbers 1 RX7 0 (some .boolean) := C
  unfold f_X7_isTwoNumbers at hf
  refine cj_iload_n C dX7_isTwoNumbers_0 rfl 0 rfl ?_
  refine cj_bipush C 100 dX7_isTwoNumbers_1 rfl ?_
  refine cj_ic_eq C 12 dX7_isTwoNumbers_3 rfl hf (fun hf => ?_) (fun hf => ?_)
  · refine cj_iconst C 1 dX7_isTwoNumbers_12 rfl ?_
    refine cj_goto C 17 dX7_isTwoNumbers_13 rfl ?_
    cases hf
    exact cj_zret C rfl rfl rfl dX7_isTwoNumbers_17
  · refine cj_iload_n C dX7_isTwoNumbers_6 rfl 0 rfl ?_
    refine cj_bipush C 115 dX7_isTwoNumbers_7 rfl ?_
    refine cj_ic_ne C 16 dX7_isTwoNumbers_9 rfl hf (fun hf => ?_) (fun hf => ?_)
    · refine cj_iconst C 0 dX7_isTwoNumbers_16 rfl ?_
      cases hf
      exact cj_zret C rfl rfl rfl dX7_isTwoNumbers_17
    · refine cj_iconst C 1 dX7_isTwoNumbers_12 rfl ?_
      refine cj_goto C 17 dX7_isTwoNumbers_13 rfl ?_
      cases hf
      exact cj_zret C rfl rfl rfl dX7_isTwoNumbers_17
set_option maxHeartbeats 4000000 in
set_option maxRecDepth 100000 in
theorem tl_X7_readNumber_L4 {D : va_G} {z : cj_Zc} {ad : cj_Ad} (hI : cj_Ij (cj_EL z) ad) {μ : cj_Mm}  {X : cj_X} (C : cj_C (cj_YL D z ad) X cX7_readNumber 3 RX7 1 (some .int)) {r : Int32 × cj_S} : ∀ (n : Nat) (x1 : Int32) (x2 : Int32) (s3 : cj_S), f_X7_readNumber_L4 n x1 x2 s3 = some r → cj_G (cj_YL D z ad) X (some (.int r.1), cj_upG μ 2 r.2) (cj_upG μ 2 s3) 4 [(0, .ref (ad 2 0)), (1, .int x1), (2, .int x2)] [] := by
  intro n
  induction n with
  | zero =>
    intro x1 x2 s3 hf
    rw [f_X7_readNumber_L4] at hf
    cases hf
  | succ n ih =>
    intro x1 x2 s3 hf
    rw [f_X7_readNumber_L4] at hf
    refine cj_iload_n C dX7_readNumber_4 rfl 2 rfl ?_
    refine cj_iconst C 3 dX7_readNumber_5 rfl ?_
    refine cj_ic_ge C 56 dX7_readNumber_6 rfl hf (fun hf => ?_) (fun hf => ?_)
    · refine cj_iload_n C dX7_readNumber_56 rfl 1 rfl ?_
      cases hf
      exact cj_iret C rfl dX7_readNumber_57
    · refine cj_aload_n C dX7_readNumber_9 rfl 0 rfl ?_
      obtain ⟨x5, h4, hf⟩ := cj_bd_s hf
      refine cj_cV0i C cw_X7_next (ct_X7_next hI h4) cjq_681 cjq_682 cjq_680 (e2_0 (z := z) (ad := ad)) rfl rfl ⟨Nat.le_of_ble_eq_true rfl, Nat.le_of_ble_eq_true rfl⟩ (Nat.le_of_ble_eq_true rfl) dX7_readNumber_10 ?_
      refine cj_bipush C 48 dX7_readNumber_13 rfl ?_
      refine cj_bipush C 57 dX7_readNumber_15 rfl ?_
      obtain ⟨x7, h6, hf⟩ := cj_bd_s hf
      refine cj_cN3i C cw_X8_isWithin (ct_X8_isWithin hI h6) cjq_355 cjn_X7_15 ⟨Nat.le_of_ble_eq_true rfl, Nat.le_of_ble_eq_true rfl⟩ (Nat.le_of_ble_eq_true rfl) dX7_readNumber_17 ?_
      refine cj_if_eq C 56 dX7_readNumber_20 rfl hf (fun hf => ?_) (fun hf => ?_)
      · refine cj_iload_n C dX7_readNumber_56 rfl 1 rfl ?_
        cases hf
        exact cj_iret C rfl dX7_readNumber_57
      · refine cj_iload_n C dX7_readNumber_23 rfl 1 rfl ?_
        refine cj_iconst C 0 dX7_readNumber_24 rfl ?_
        obtain ⟨x9, h8, hf⟩ := cj_bd_s hf
        refine cj_cS2i C cw_J9_max_7cf53 (ct_J9_max_7cf53 hI h8) cjq_451 cjq_694 ⟨Nat.le_of_ble_eq_true rfl, Nat.le_of_ble_eq_true rfl⟩ (Nat.le_of_ble_eq_true rfl) dX7_readNumber_25 ?_
        refine cj_bipush C 10 dX7_readNumber_28 rfl ?_
        refine cj_imul C dX7_readNumber_30 ?_
        refine cj_aload_n C dX7_readNumber_31 rfl 0 rfl ?_
        obtain ⟨x11, h10, hf⟩ := cj_bd_s hf
        refine cj_cV0i C cw_X7_next (ct_X7_next hI h10) cjq_681 cjq_682 cjq_680 (e2_0 (z := z) (ad := ad)) rfl rfl ⟨Nat.le_of_ble_eq_true rfl, Nat.le_of_ble_eq_true rfl⟩ (Nat.le_of_ble_eq_true rfl) dX7_readNumber_32 ?_
        refine cj_bipush C 48 dX7_readNumber_35 rfl ?_
        refine cj_isub C dX7_readNumber_37 ?_
        refine cj_iadd C dX7_readNumber_38 ?_
        refine cj_ltI hf (fun x12 hf => ?_)
        refine cj_istore_n (lv' := [(1, .int x12), (0, .ref (ad 2 0)), (2, .int x2)]) C dX7_readNumber_39 rfl (by decide) rfl ?_
        refine cj_aload_n C dX7_readNumber_40 rfl 1 rfl ?_
        refine cj_dup C dX7_readNumber_41 rfl ?_
        refine cj_getS (v := .int (s3 0 2)) (j := 2) C (e2_0 (z := z) (ad := ad)) rfl rfl cj_in7 (by decide) rfl cjq_233 rfl dX7_readNumber_42 ?_
        refine cj_iconst C 1 dX7_readNumber_45 rfl ?_
        refine cj_iadd C dX7_readNumber_46 ?_
        refine cj_putS (j := 2) C (e2_0 (z := z) (ad := ad)) rfl rfl rfl rfl cj_in7 tyX7_ok nmX7 (by decide) rfl cjq_233 rfl rfl rfl (Nat.le_of_ble_eq_true rfl) dX7_readNumber_47 ?_
        refine cj_ltS hf (fun s13 hf => ?_)
        refine cj_iinc (lv' := [(2, .int (x2 + 1)), (1, .int x12), (0, .ref (ad 2 0))]) C dX7_readNumber_50 (j := 2) rfl rfl (by decide) rfl ?_
        refine cj_goto C 4 dX7_readNumber_53 rfl ?_
        refine cj_sub [2, 1, 0] rfl ?_
        exact ih x12 (x2 + 1) s13 hf
set_option maxHeartbeats 4000000 in
set_option maxRecDepth 100000 in
theorem ct_X7_readNumber {l : Launch} {D : va_G} {z : cj_Zc} {ad : cj_Ad} (hI : cj_Ij (cj_EL z) ad) {μ : cj_Mm} {s0 : cj_S} {r : Int32} {r2 : cj_S} (hf : f_X7_readNumber s0 = some (r, r2)) : cj_Ct l (cj_YL D z ad) yX7_readNumber cX7_readNumber 3 (some .int) 1 [.ref (ad 2 0)] (cj_upG μ 2 s0) (some (.int r)) (cj_upG μ 2 r2) := by
  refine cj_Ct.of (by decide +kernel) hI (Nat.le_of_ble_eq_true rfl) [(0, .ref (ad 2 0))] rfl (fun X hX C => ?_)
  subst hX
  have C : cj_C (cj_YL D z ad) X cX7_readNumber 3 RX7 1 (some .int) := C
  unfold f_X7_readNumber at hf
  generalize hr2 : (r, r2) = r3 at hf
  obtain ⟨e1, e2⟩ : r = r3.1 ∧ r2 = r3.2 := by rw [← hr2]; exact ⟨rfl, rfl⟩
  rw [e1, e2]
  clear e1 e2 hr2
  obtain ⟨r, hr⟩ : ∃ r, r = r3 := ⟨_, rfl⟩
  rw [← hr] at hf ⊢
  clear hr
  refine cj_iconst C (-1) dX7_readNumber_0 rfl ?_
  refine cj_istore_n (lv' := [(1, .int ((-1))), (0, .ref (ad 2 0))]) C dX7_readNumber_1 rfl (by decide) rfl ?_
  refine cj_iconst C 0 dX7_readNumber_2 rfl ?_
  refine cj_istore_n (lv' := [(2, .int 0), (1, .int ((-1))), (0, .ref (ad 2 0))]) C dX7_readNumber_3 rfl (by decide) rfl ?_
  refine cj_sub [2, 1, 0] rfl ?_
  exact tl_X7_readNumber_L4 hI C cj_FU ((-1)) 0 s0 hf
set_option maxHeartbeats 4000000 in
set_option maxRecDepth 100000 in
theorem ct_X7_readOrder {l : Launch} {D : va_G} {z : cj_Zc} {ad : cj_Ad} (hI : cj_Ij (cj_EL z) ad) {μ : cj_Mm} {s0 : cj_S} {a1 : Int32} {r : Int32} {r2 : cj_S} (hf : f_X7_readOrder s0 a1 = some (r, r2)) : cj_Ct l (cj_YL D z ad) yX7_readOrder cX7_readOrder 2 (some .boolean) 2 [.ref (ad 2 0), .int a1] (cj_upG μ 2 s0) (some (.int r)) (cj_upG μ 2 r2) := by
  refine cj_Ct.of (by decide +kernel) hI (Nat.le_of_ble_eq_true rfl) [(0, .ref (ad 2 0)), (1, .int a1)] rfl (fun X hX C => ?_)
  subst hX
  have C : cj_C (cj_YL D z ad) X cX7_readOrder 2 RX7 2 (some .boolean) := C
  unfold f_X7_readOrder at hf
  generalize hr2 : (r, r2) = r3 at hf
  obtain ⟨e1, e2⟩ : r = r3.1 ∧ r2 = r3.2 := by rw [← hr2]; exact ⟨rfl, rfl⟩
  rw [e1, e2]
  clear e1 e2 hr2
  obtain ⟨r, hr⟩ : ∃ r, r = r3 := ⟨_, rfl⟩
  rw [← hr] at hf ⊢
  clear hr
  refine cj_aload_n C dX7_readOrder_0 rfl 0 rfl ?_
  refine cj_iload_n C dX7_readOrder_1 rfl 1 rfl ?_
  refine cj_putS (j := 2) C (e2_0 (z := z) (ad := ad)) rfl rfl rfl rfl cj_in7 tyX7_ok nmX7 (by decide) rfl cjq_233 rfl rfl rfl (Nat.le_of_ble_eq_true rfl) dX7_readOrder_2 ?_
  refine cj_ltS hf (fun s1 hf => ?_)
  refine cj_aload_n C dX7_readOrder_5 rfl 0 rfl ?_
  refine cj_aload_n C dX7_readOrder_6 rfl 0 rfl ?_
  obtain ⟨x3, h2, hf⟩ := cj_bd_s hf
  refine cj_cV0i C cw_X7_next (ct_X7_next hI h2) cjq_681 cjq_682 cjq_680 (e2_0 (z := z) (ad := ad)) rfl rfl ⟨Nat.le_of_ble_eq_true rfl, Nat.le_of_ble_eq_true rfl⟩ (Nat.le_of_ble_eq_true rfl) dX7_readOrder_7 ?_
  obtain ⟨hp, hf⟩ := cj_gp_s hf
  refine cj_putS (j := 3) C (e2_0 (z := z) (ad := ad)) rfl rfl rfl rfl cj_in7 tyX7_ok nmX7 (by decide) rfl cjq_235 rfl (cj_chr hp).1 (cj_chr hp).2 (Nat.le_of_ble_eq_true rfl) dX7_readOrder_10 ?_
  refine cj_ltS hf (fun s4 hf => ?_)
  refine cj_aload_n C dX7_readOrder_13 rfl 0 rfl ?_
  refine cj_getS (v := .int (s4 0 3)) (j := 3) C (e2_0 (z := z) (ad := ad)) rfl rfl cj_in7 (by decide) rfl cjq_235 rfl dX7_readOrder_14 ?_
  obtain ⟨x6, h5, hf⟩ := cj_bd_s hf
  refine cj_cS1i C cw_X7_isOneNumber (ct_X7_isOneNumber hI h5) cjq_685 cjq_684 ⟨Nat.le_of_ble_eq_true rfl, Nat.le_of_ble_eq_true rfl⟩ (Nat.le_of_ble_eq_true rfl) dX7_readOrder_17 ?_
  refine cj_jn (Hyp := fun K7 => ∀ (u : Unit), K7 u = some r → cj_G (cj_YL D z ad) X (some (.int r.1), cj_upG μ 2 r.2) (cj_upG μ 2 s4) 35 [(0, .ref (ad 2 0))] []) hf (fun u hf => ?_) (fun K7 hK7 hf => ?_)
  · refine cj_aload_n C dX7_readOrder_35 rfl 0 rfl ?_
    refine cj_dup C dX7_readOrder_36 rfl ?_
    refine cj_getS (v := .int (s4 0 2)) (j := 2) C (e2_0 (z := z) (ad := ad)) rfl rfl cj_in7 (by decide) rfl cjq_233 rfl dX7_readOrder_37 ?_
    refine cj_iconst C 1 dX7_readOrder_40 rfl ?_
    refine cj_iadd C dX7_readOrder_41 ?_
    refine cj_putS (j := 2) C (e2_0 (z := z) (ad := ad)) rfl rfl rfl rfl cj_in7 tyX7_ok nmX7 (by decide) rfl cjq_233 rfl rfl rfl (Nat.le_of_ble_eq_true rfl) dX7_readOrder_42 ?_
    refine cj_ltS hf (fun s8 hf => ?_)
    refine cj_aload_n C dX7_readOrder_45 rfl 0 rfl ?_
    refine cj_aload_n C dX7_readOrder_46 rfl 0 rfl ?_
    obtain ⟨x10, s11, h9, hf⟩ := cj_bp_s hf
    refine cj_cV0i C cw_X7_readNumber (ct_X7_readNumber hI h9) cjq_691 cjq_692 cjq_690 (e2_0 (z := z) (ad := ad)) rfl rfl ⟨Nat.le_of_ble_eq_true rfl, Nat.le_of_ble_eq_true rfl⟩ (Nat.le_of_ble_eq_true rfl) dX7_readOrder_47 ?_
    refine cj_putS (j := 4) C (e2_0 (z := z) (ad := ad)) rfl rfl rfl rfl cj_in7 tyX7_ok nmX7 (by decide) rfl cjq_237 rfl rfl rfl (Nat.le_of_ble_eq_true rfl) dX7_readOrder_50 ?_
    refine cj_ltS hf (fun s12 hf => ?_)
    refine cj_aload_n C dX7_readOrder_53 rfl 0 rfl ?_
    refine cj_iconst C (-1) dX7_readOrder_54 rfl ?_
    refine cj_putS (j := 5) C (e2_0 (z := z) (ad := ad)) rfl rfl rfl rfl cj_in7 tyX7_ok nmX7 (by decide) rfl cjq_239 rfl rfl rfl (Nat.le_of_ble_eq_true rfl) dX7_readOrder_55 ?_
    refine cj_ltS hf (fun s13 hf => ?_)
    refine cj_aload_n C dX7_readOrder_58 rfl 0 rfl ?_
    refine cj_getS (v := .int (s13 0 4)) (j := 4) C (e2_0 (z := z) (ad := ad)) rfl rfl cj_in7 (by decide) rfl cjq_237 rfl dX7_readOrder_59 ?_
    refine cj_iconst C (-1) dX7_readOrder_62 rfl ?_
    refine cj_ic_ne C 68 dX7_readOrder_63 rfl hf (fun hf => ?_) (fun hf => ?_)
    · refine cj_aload_n C dX7_readOrder_68 rfl 0 rfl ?_
      refine cj_getS (v := .int (s13 0 3)) (j := 3) C (e2_0 (z := z) (ad := ad)) rfl rfl cj_in7 (by decide) rfl cjq_235 rfl dX7_readOrder_69 ?_
      obtain ⟨x15, h14, hf⟩ := cj_bd_s hf
      refine cj_cS1i C cw_X7_isTwoNumbers (ct_X7_isTwoNumbers hI h14) cjq_688 cjq_687 ⟨Nat.le_of_ble_eq_true rfl, Nat.le_of_ble_eq_true rfl⟩ (Nat.le_of_ble_eq_true rfl) dX7_readOrder_72 ?_
      refine cj_jn (Hyp := fun K16 => ∀ (s17 : cj_S), K16 s17 = some r → cj_G (cj_YL D z ad) X (some (.int r.1), cj_upG μ 2 r.2) (cj_upG μ 2 s17) 117 [(0, .ref (ad 2 0))] []) hf (fun s17 hf => ?_) (fun K16 hK16 hf => ?_)
      · refine cj_aload_n C dX7_readOrder_117 rfl 0 rfl ?_
        obtain ⟨x19, h18, hf⟩ := cj_bd_s hf
        refine cj_cV0i C cw_X7_next (ct_X7_next hI h18) cjq_681 cjq_682 cjq_680 (e2_0 (z := z) (ad := ad)) rfl rfl ⟨Nat.le_of_ble_eq_true rfl, Nat.le_of_ble_eq_true rfl⟩ (Nat.le_of_ble_eq_true rfl) dX7_readOrder_118 ?_
        refine cj_bipush C 59 dX7_readOrder_121 rfl ?_
        refine cj_ic_eq C 128 dX7_readOrder_123 rfl hf (fun hf => ?_) (fun hf => ?_)
        · refine cj_aload_n C dX7_readOrder_128 rfl 0 rfl ?_
          refine cj_dup C dX7_readOrder_129 rfl ?_
          refine cj_getS (v := .int (s17 0 2)) (j := 2) C (e2_0 (z := z) (ad := ad)) rfl rfl cj_in7 (by decide) rfl cjq_233 rfl dX7_readOrder_130 ?_
          refine cj_iconst C 1 dX7_readOrder_133 rfl ?_
          refine cj_iadd C dX7_readOrder_134 ?_
          refine cj_putS (j := 2) C (e2_0 (z := z) (ad := ad)) rfl rfl rfl rfl cj_in7 tyX7_ok nmX7 (by decide) rfl cjq_233 rfl rfl rfl (Nat.le_of_ble_eq_true rfl) dX7_readOrder_135 ?_
          refine cj_ltS hf (fun s20 hf => ?_)
          refine cj_iconst C 1 dX7_readOrder_138 rfl ?_
          cases hf
          exact cj_zret C rfl rfl rfl dX7_readOrder_139
        · refine cj_iconst C 0 dX7_readOrder_126 rfl ?_
          cases hf
          exact cj_zret C rfl rfl rfl dX7_readOrder_127
      · refine cj_if_eq C 117 dX7_readOrder_75 rfl hf (fun hf => ?_) (fun hf => ?_)
        · exact hK16 s13 hf
        · refine cj_aload_n C dX7_readOrder_78 rfl 0 rfl ?_
          obtain ⟨x22, h21, hf⟩ := cj_bd_s hf
          refine cj_cV0i C cw_X7_next (ct_X7_next hI h21) cjq_681 cjq_682 cjq_680 (e2_0 (z := z) (ad := ad)) rfl rfl ⟨Nat.le_of_ble_eq_true rfl, Nat.le_of_ble_eq_true rfl⟩ (Nat.le_of_ble_eq_true rfl) dX7_readOrder_79 ?_
          refine cj_bipush C 44 dX7_readOrder_82 rfl ?_
          refine cj_ic_eq C 89 dX7_readOrder_84 rfl hf (fun hf => ?_) (fun hf => ?_)
          · refine cj_aload_n C dX7_readOrder_89 rfl 0 rfl ?_
            refine cj_dup C dX7_readOrder_90 rfl ?_
            refine cj_getS (v := .int (s13 0 2)) (j := 2) C (e2_0 (z := z) (ad := ad)) rfl rfl cj_in7 (by decide) rfl cjq_233 rfl dX7_readOrder_91 ?_
            refine cj_iconst C 1 dX7_readOrder_94 rfl ?_
            refine cj_iadd C dX7_readOrder_95 ?_
            refine cj_putS (j := 2) C (e2_0 (z := z) (ad := ad)) rfl rfl rfl rfl cj_in7 tyX7_ok nmX7 (by decide) rfl cjq_233 rfl rfl rfl (Nat.le_of_ble_eq_true rfl) dX7_readOrder_96 ?_
            refine cj_ltS hf (fun s23 hf => ?_)
            refine cj_aload_n C dX7_readOrder_99 rfl 0 rfl ?_
            refine cj_aload_n C dX7_readOrder_100 rfl 0 rfl ?_
            obtain ⟨x25, s26, h24, hf⟩ := cj_bp_s hf
            refine cj_cV0i C cw_X7_readNumber (ct_X7_readNumber hI h24) cjq_691 cjq_692 cjq_690 (e2_0 (z := z) (ad := ad)) rfl rfl ⟨Nat.le_of_ble_eq_true rfl, Nat.le_of_ble_eq_true rfl⟩ (Nat.le_of_ble_eq_true rfl) dX7_readOrder_101 ?_
            refine cj_putS (j := 5) C (e2_0 (z := z) (ad := ad)) rfl rfl rfl rfl cj_in7 tyX7_ok nmX7 (by decide) rfl cjq_239 rfl rfl rfl (Nat.le_of_ble_eq_true rfl) dX7_readOrder_104 ?_
            refine cj_ltS hf (fun s27 hf => ?_)
            refine cj_aload_n C dX7_readOrder_107 rfl 0 rfl ?_
            refine cj_getS (v := .int (s27 0 5)) (j := 5) C (e2_0 (z := z) (ad := ad)) rfl rfl cj_in7 (by decide) rfl cjq_239 rfl dX7_readOrder_108 ?_
            refine cj_iconst C (-1) dX7_readOrder_111 rfl ?_
            refine cj_ic_ne C 117 dX7_readOrder_112 rfl hf (fun hf => ?_) (fun hf => ?_)
            · exact hK16 s27 hf
            · refine cj_iconst C 0 dX7_readOrder_115 rfl ?_
              cases hf
              exact cj_zret C rfl rfl rfl dX7_readOrder_116
          · refine cj_iconst C 0 dX7_readOrder_87 rfl ?_
            cases hf
            exact cj_zret C rfl rfl rfl dX7_readOrder_88
    · refine cj_iconst C 0 dX7_readOrder_66 rfl ?_
      cases hf
      exact cj_zret C rfl rfl rfl dX7_readOrder_67
  · refine cj_if_ne C 35 dX7_readOrder_20 rfl hf (fun hf => ?_) (fun hf => ?_)
    · refine cj_sub [0] rfl ?_
      exact hK7 () hf
    · refine cj_aload_n C dX7_readOrder_23 rfl 0 rfl ?_
      refine cj_getS (v := .int (s4 0 3)) (j := 3) C (e2_0 (z := z) (ad := ad)) rfl rfl cj_in7 (by decide) rfl cjq_235 rfl dX7_readOrder_24 ?_
      obtain ⟨x29, h28, hf⟩ := cj_bd_s hf
      refine cj_cS1i C cw_X7_isTwoNumbers (ct_X7_isTwoNumbers hI h28) cjq_688 cjq_687 ⟨Nat.le_of_ble_eq_true rfl, Nat.le_of_ble_eq_true rfl⟩ (Nat.le_of_ble_eq_true rfl) dX7_readOrder_27 ?_
      refine cj_if_ne C 35 dX7_readOrder_30 rfl hf (fun hf => ?_) (fun hf => ?_)
      · refine cj_sub [0] rfl ?_
        exact hK7 () hf
      · refine cj_iconst C 0 dX7_readOrder_33 rfl ?_
        cases hf
        exact cj_zret C rfl rfl rfl dX7_readOrder_34
set_option maxHeartbeats 4000000 in
set_option maxRecDepth 100000 in
theorem ct_X4_fail {l : Launch} {D : va_G} {z : cj_Zc} {ad : cj_Ad} (hI : cj_Ij (cj_EL z) ad) {μ : cj_Mm} {s0 : cj_S} {a1 : Int32} {a2 : Int32} {a3 : Int32} {r : cj_S} (hf : f_X4_fail s0 a1 a2 a3 = some r) : cj_Ct l (cj_YL D z ad) yX4_fail cX4_fail 4 none 0 [.ref (ad 3 0), .int a1, .int a2, .int a3] (cj_upG μ 3 s0) none (cj_upG μ 3 r) := by
  refine cj_Ct.of (by decide +kernel) hI (Nat.le_of_ble_eq_true rfl) [(0, .ref (ad 3 0)), (1, .int a1), (2, .int a2), (3, .int a3)] rfl (fun X hX C => ?_)
  subst hX
  have C : cj_C (cj_YL D z ad) X cX4_fail 4 RX4 0 none := C
  unfold f_X4_fail at hf
  refine cj_aload_n C dX4_fail_0 rfl 0 rfl ?_
  refine cj_iload_n C dX4_fail_1 rfl 1 rfl ?_
  refine cj_putS (j := 1) C (e3_0 (z := z) (ad := ad)) rfl rfl rfl rfl cj_in4 tyX4_ok nmX4 (by decide) rfl cjq_262 rfl rfl rfl (Nat.le_of_ble_eq_true rfl) dX4_fail_2 ?_
  refine cj_ltS hf (fun s1 hf => ?_)
  refine cj_aload_n C dX4_fail_5 rfl 0 rfl ?_
  refine cj_iload_n C dX4_fail_6 rfl 2 rfl ?_
  refine cj_putS (j := 2) C (e3_0 (z := z) (ad := ad)) rfl rfl rfl rfl cj_in4 tyX4_ok nmX4 (by decide) rfl cjq_264 rfl rfl rfl (Nat.le_of_ble_eq_true rfl) dX4_fail_7 ?_
  refine cj_ltS hf (fun s2 hf => ?_)
  refine cj_aload_n C dX4_fail_10 rfl 0 rfl ?_
  refine cj_iload_n C dX4_fail_11 rfl 3 rfl ?_
  refine cj_putS (j := 3) C (e3_0 (z := z) (ad := ad)) rfl rfl rfl rfl cj_in4 tyX4_ok nmX4 (by decide) rfl cjq_266 rfl rfl rfl (Nat.le_of_ble_eq_true rfl) dX4_fail_12 ?_
  refine cj_ltS hf (fun s3 hf => ?_)
  cases hf
  exact cj_vret C rfl dX4_fail_15
set_option maxHeartbeats 4000000 in
set_option maxRecDepth 100000 in
theorem tl_X4_run_L12 {D : va_G} {z : cj_Zc} {ad : cj_Ad} (hI : cj_Ij (cj_EL z) ad)  {X : cj_X} (C : cj_C (cj_YL D z ad) X cX4_run 5 RX4 5 none) {r : cj_Mm} {K : Int32 → Int32 → cj_Mm → Option (cj_Mm)} (hK : ∀ (x5 : Int32) (x6 : Int32) (s7 : cj_Mm), K x5 x6 s7 = some r → cj_G (cj_YL D z ad) X (none, r) (s7) 73 [(0, .ref (ad 3 0)), (3, .int x5), (4, .int x6)] []) : ∀ (n : Nat) (x3 : Int32) (s4 : cj_Mm), f_X4_run_L12 K n x3 s4 = some r → cj_G (cj_YL D z ad) X (none, r) (s4) 12 [(0, .ref (ad 3 0)), (1, .ref (ad 2 0)), (2, .ref (ad 6 0)), (3, .int x3)] [] := by
  intro n
  induction n with
  | zero =>
    intro x3 s4 hf
    rw [f_X4_run_L12] at hf
    cases hf
  | succ n ih =>
    intro x3 s4 hf
    rw [f_X4_run_L12] at hf
    refine cj_aload_n C dX4_run_12 rfl 0 rfl ?_
    refine cj_get (v := .int (s4 3 0 0)) (j := 0) C (e3_0 (z := z) (ad := ad)) rfl rfl cj_in4 (by decide) rfl cjq_260 rfl dX4_run_13 ?_
    refine cj_bipush C 60 dX4_run_16 rfl ?_
    refine cj_ic_ge C 100 dX4_run_18 rfl hf (fun hf => ?_) (fun hf => ?_)
    · cases hf
      exact cj_vret C rfl dX4_run_100
    · refine cj_iload_n C dX4_run_21 rfl 3 rfl ?_
      refine cj_aload_n C dX4_run_22 rfl 1 rfl ?_
      refine cj_get (v := .int (s4 2 0 1)) (j := 1) C (e2_0 (z := z) (ad := ad)) rfl rfl cj_in7 (by decide) rfl cjq_230 rfl dX4_run_23 ?_
      refine cj_ic_ge C 100 dX4_run_26 rfl hf (fun hf => ?_) (fun hf => ?_)
      · cases hf
        exact cj_vret C rfl dX4_run_100
      · refine cj_aload_n C dX4_run_29 rfl 1 rfl ?_
        refine cj_iload_n C dX4_run_30 rfl 3 rfl ?_
        obtain ⟨x9, s10, h8, hf⟩ := cj_bp_s hf
        refine cj_at 2 ?_
        refine cj_cV1i C cw_X7_readOrder (ct_X7_readOrder hI h8) cjq_677 cjq_678 cjq_676 (e2_0 (z := z) (ad := ad)) rfl rfl ⟨Nat.le_of_ble_eq_true rfl, Nat.le_of_ble_eq_true rfl⟩ (Nat.le_of_ble_eq_true rfl) dX4_run_31 ?_
        refine cj_ltM hf (fun s11 hf => ?_)
        refine cj_if_ne C 50 dX4_run_34 rfl hf (fun hf => ?_) (fun hf => ?_)
        · refine cj_aload_n C dX4_run_50 rfl 2 rfl ?_
          refine cj_aload_n C dX4_run_51 rfl 1 rfl ?_
          refine cj_get (v := .int (s11 2 0 3)) (j := 3) C (e2_0 (z := z) (ad := ad)) rfl rfl cj_in7 (by decide) rfl cjq_234 rfl dX4_run_52 ?_
          refine cj_aload_n C dX4_run_55 rfl 1 rfl ?_
          refine cj_get (v := .int (s11 2 0 4)) (j := 4) C (e2_0 (z := z) (ad := ad)) rfl rfl cj_in7 (by decide) rfl cjq_236 rfl dX4_run_56 ?_
          refine cj_aload_n C dX4_run_59 rfl 1 rfl ?_
          refine cj_get (v := .int (s11 2 0 5)) (j := 5) C (e2_0 (z := z) (ad := ad)) rfl rfl cj_in7 (by decide) rfl cjq_238 rfl dX4_run_60 ?_
          obtain ⟨x13, s14, h12, hf⟩ := cj_bp_s hf
          refine cj_at 6 ?_
          refine cj_cV3i C cw_X0_perform (ct_X0_perform hI cj_isC_6 h12) cjq_700 cjq_701 cjq_699 (eC_0 (z := z) (ad := ad) cj_isC_6) rfl rfl ⟨Nat.le_of_ble_eq_true rfl, Nat.le_of_ble_eq_true rfl⟩ (Nat.le_of_ble_eq_true rfl) dX4_run_63 ?_
          refine cj_ltM hf (fun s15 hf => ?_)
          refine cj_istore (lv' := [(4, .int x13), (0, .ref (ad 3 0)), (1, .ref (ad 2 0)), (2, .ref (ad 6 0)), (3, .int x3)]) C dX4_run_66 (by decide) rfl ?_
          refine cj_iload C dX4_run_68 0 rfl ?_
          refine cj_if_ge C 82 dX4_run_70 rfl hf (fun hf => ?_) (fun hf => ?_)
          · refine cj_aload_n C dX4_run_82 rfl 2 rfl ?_
            refine cj_get (v := .int (s15 2 0 2)) (j := 2) C (e2_0 (z := z) (ad := ad)) rfl rfl cj_in7 (by decide) rfl cjq_232 rfl dX4_run_83 ?_
            refine cj_istore_n (lv' := [(3, .int (s15 2 0 2)), (4, .int x13), (0, .ref (ad 3 0)), (1, .ref (ad 2 0)), (2, .ref (ad 6 0))]) C dX4_run_86 rfl (by decide) rfl ?_
            refine cj_aload_n C dX4_run_87 rfl 2 rfl ?_
            refine cj_dup C dX4_run_88 rfl ?_
            refine cj_get (v := .int (s15 3 0 0)) (j := 0) C (e3_0 (z := z) (ad := ad)) rfl rfl cj_in4 (by decide) rfl cjq_260 rfl dX4_run_89 ?_
            refine cj_iconst C 1 dX4_run_92 rfl ?_
            refine cj_iadd C dX4_run_93 ?_
            refine cj_put (j := 0) C (e3_0 (z := z) (ad := ad)) rfl rfl rfl rfl cj_in4 tyX4_ok nmX4 (by decide) rfl cjq_260 rfl rfl rfl (Nat.le_of_ble_eq_true rfl) dX4_run_94 ?_
            refine cj_ltM hf (fun s16 hf => ?_)
            refine cj_goto C 12 dX4_run_97 rfl ?_
            refine cj_sub [2, 3, 4, 0] rfl ?_
            exact ih (s15 2 0 2) s16 hf
          · refine cj_sub [1, 4, 0] rfl ?_
            exact hK x3 x13 s15 hf
        · refine cj_aload_n C dX4_run_37 rfl 0 rfl ?_
          refine cj_iload_n C dX4_run_38 rfl 3 rfl ?_
          refine cj_iconst C 1 dX4_run_39 rfl ?_
          refine cj_aload_n C dX4_run_40 rfl 1 rfl ?_
          refine cj_get (v := .int (s11 2 0 2)) (j := 2) C (e2_0 (z := z) (ad := ad)) rfl rfl cj_in7 (by decide) rfl cjq_232 rfl dX4_run_41 ?_
          refine cj_iload_n C dX4_run_44 rfl 3 rfl ?_
          refine cj_isub C dX4_run_45 ?_
          obtain ⟨s18, h17, hf⟩ := cj_bd_s hf
          refine cj_at 3 ?_
          refine cj_cV3v C cw_X4_fail (ct_X4_fail hI h17) cjq_696 cjq_697 cjq_695 (e3_0 (z := z) (ad := ad)) rfl rfl ⟨Nat.le_of_ble_eq_true rfl, Nat.le_of_ble_eq_true rfl⟩ (Nat.le_of_ble_eq_true rfl) dX4_run_46 ?_
          refine cj_ltM hf (fun s19 hf => ?_)
          cases hf
          exact cj_vret C rfl dX4_run_49
set_option maxHeartbeats 4000000 in
set_option maxRecDepth 100000 in
theorem ct_X4_run {l : Launch} {D : va_G} {z : cj_Zc} {ad : cj_Ad} (hI : cj_Ij (cj_EL z) ad) {m0 : cj_Mm} {r : cj_Mm} (hf : f_X4_run m0 = some r) : cj_Ct l (cj_YL D z ad) yX4_run cX4_run 5 none 5 [.ref (ad 3 0), .ref (ad 2 0), .ref (ad 6 0)] (m0) none (r) := by
  refine cj_Ct.of (by decide +kernel) hI (Nat.le_of_ble_eq_true rfl) [(0, .ref (ad 3 0)), (1, .ref (ad 2 0)), (2, .ref (ad 6 0))] rfl (fun X hX C => ?_)
  subst hX
  have C : cj_C (cj_YL D z ad) X cX4_run 5 RX4 5 none := C
  unfold f_X4_run at hf
  refine cj_aload_n C dX4_run_0 rfl 0 rfl ?_
  refine cj_iconst C 0 dX4_run_1 rfl ?_
  refine cj_put (j := 0) C (e3_0 (z := z) (ad := ad)) rfl rfl rfl rfl cj_in4 tyX4_ok nmX4 (by decide) rfl cjq_260 rfl rfl rfl (Nat.le_of_ble_eq_true rfl) dX4_run_2 ?_
  refine cj_ltM hf (fun s1 hf => ?_)
  refine cj_aload_n C dX4_run_5 rfl 0 rfl ?_
  refine cj_iconst C (-1) dX4_run_6 rfl ?_
  refine cj_put (j := 1) C (e3_0 (z := z) (ad := ad)) rfl rfl rfl rfl cj_in4 tyX4_ok nmX4 (by decide) rfl cjq_262 rfl rfl rfl (Nat.le_of_ble_eq_true rfl) dX4_run_7 ?_
  refine cj_ltM hf (fun s2 hf => ?_)
  refine cj_iconst C 0 dX4_run_10 rfl ?_
  refine cj_istore_n (lv' := [(3, .int 0), (0, .ref (ad 3 0)), (1, .ref (ad 2 0)), (2, .ref (ad 6 0))]) C dX4_run_11 rfl (by decide) rfl ?_
  refine cj_sub [1, 2, 3, 0] rfl ?_
  refine tl_X4_run_L12 hI C (fun x20 x21 s22 hf => ?_) cj_FU 0 s2 hf
  refine cj_aload_n C dX4_run_73 rfl 0 rfl ?_
  refine cj_iload_n C dX4_run_74 rfl 1 rfl ?_
  refine cj_iconst C 2 dX4_run_75 rfl ?_
  refine cj_iload C dX4_run_76 2 rfl ?_
  obtain ⟨s24, h23, hf⟩ := cj_bd_s hf
  refine cj_at 3 ?_
  refine cj_cV3v C cw_X4_fail (ct_X4_fail hI h23) cjq_696 cjq_697 cjq_695 (e3_0 (z := z) (ad := ad)) rfl rfl ⟨Nat.le_of_ble_eq_true rfl, Nat.le_of_ble_eq_true rfl⟩ (Nat.le_of_ble_eq_true rfl) dX4_run_78 ?_
  refine cj_ltM hf (fun s25 hf => ?_)
  cases hf
  exact cj_vret C rfl dX4_run_81
set_option maxHeartbeats 4000000 in
set_option maxRecDepth 100000 in
theorem ct_X7_append {l : Launch} {D : va_G} {z : cj_Zc} {ad : cj_Ad} (hI : cj_Ij (cj_EL z) ad) {μ : cj_Mm} {s0 : cj_S} {a1 : Int32} {r : Int32} {r2 : cj_S} (hf : f_X7_append s0 a1 = some (r, r2)) : cj_Ct l (cj_YL D z ad) yX7_append cX7_append 2 (some .int) 1 [.ref (ad 2 0), .int a1] (cj_upG μ 2 s0) (some (.int r)) (cj_upG μ 2 r2) := by
  refine cj_Ct.of (by decide +kernel) hI (Nat.le_of_ble_eq_true rfl) [(0, .ref (ad 2 0)), (1, .int a1)] rfl (fun X hX C => ?_)
  subst hX
  have C : cj_C (cj_YL D z ad) X cX7_append 2 RX7 1 (some .int) := C
  unfold f_X7_append at hf
  generalize hr2 : (r, r2) = r3 at hf
  obtain ⟨e1, e2⟩ : r = r3.1 ∧ r2 = r3.2 := by rw [← hr2]; exact ⟨rfl, rfl⟩
  rw [e1, e2]
  clear e1 e2 hr2
  obtain ⟨r, hr⟩ : ∃ r, r = r3 := ⟨_, rfl⟩
  rw [← hr] at hf ⊢
  clear hr
  refine cj_iload_n C dX7_append_0 rfl 1 rfl ?_
  refine cj_bipush C 32 dX7_append_1 rfl ?_
  refine cj_bipush C 126 dX7_append_3 rfl ?_
  obtain ⟨x2, h1, hf⟩ := cj_bd_s hf
  refine cj_cN3i C cw_X8_isWithin (ct_X8_isWithin hI h1) cjq_355 cjn_X7_15 ⟨Nat.le_of_ble_eq_true rfl, Nat.le_of_ble_eq_true rfl⟩ (Nat.le_of_ble_eq_true rfl) dX7_append_5 ?_
  refine cj_if_ne C 14 dX7_append_8 rfl hf (fun hf => ?_) (fun hf => ?_)
  · refine cj_aload_n C dX7_append_14 rfl 0 rfl ?_
    refine cj_getS (v := .int (s0 0 1)) (j := 1) C (e2_0 (z := z) (ad := ad)) rfl rfl cj_in7 (by decide) rfl cjq_229 rfl dX7_append_15 ?_
    refine cj_bipush C 60 dX7_append_18 rfl ?_
    refine cj_ic_lt C 26 dX7_append_20 rfl hf (fun hf => ?_) (fun hf => ?_)
    · refine cj_aload_n C dX7_append_26 rfl 0 rfl ?_
      refine cj_getS (v := .ref (ad 2 1)) (j := 0) C (e2_0 (z := z) (ad := ad)) rfl rfl cj_in7 (by decide) rfl cjq_228 rfl dX7_append_27 ?_
      refine cj_aload_n C dX7_append_30 rfl 0 rfl ?_
      refine cj_getS (v := .int (s0 0 1)) (j := 1) C (e2_0 (z := z) (ad := ad)) rfl rfl cj_in7 (by decide) rfl cjq_229 rfl dX7_append_31 ?_
      refine cj_iload_n C dX7_append_34 rfl 1 rfl ?_
      refine cj_i2c C dX7_append_35 ?_
      refine cj_castS C (e2_1 (z := z) (ad := ad)) dX7_append_36 hf (fun hf => ?_)
      refine cj_ltS hf (fun s3 hf => ?_)
      refine cj_aload_n C dX7_append_37 rfl 0 rfl ?_
      refine cj_dup C dX7_append_38 rfl ?_
      refine cj_getS (v := .int (s3 0 1)) (j := 1) C (e2_0 (z := z) (ad := ad)) rfl rfl cj_in7 (by decide) rfl cjq_229 rfl dX7_append_39 ?_
      refine cj_iconst C 1 dX7_append_42 rfl ?_
      refine cj_iadd C dX7_append_43 ?_
      refine cj_putS (j := 1) C (e2_0 (z := z) (ad := ad)) rfl rfl rfl rfl cj_in7 tyX7_ok nmX7 (by decide) rfl cjq_229 rfl rfl rfl (Nat.le_of_ble_eq_true rfl) dX7_append_44 ?_
      refine cj_ltS hf (fun s4 hf => ?_)
      refine cj_aload_n C dX7_append_47 rfl 0 rfl ?_
      refine cj_getS (v := .int (s4 0 1)) (j := 1) C (e2_0 (z := z) (ad := ad)) rfl rfl cj_in7 (by decide) rfl cjq_229 rfl dX7_append_48 ?_
      cases hf
      exact cj_iret C rfl dX7_append_51
    · refine cj_ldc C cjq_663 dX7_append_23 ?_
      cases hf
      exact cj_iret C rfl dX7_append_25
  · refine cj_ldc C cjq_662 dX7_append_11 ?_
    cases hf
    exact cj_iret C rfl dX7_append_13
set_option maxHeartbeats 4000000 in
set_option maxRecDepth 100000 in
theorem ct_X8_person {l : Launch} {D : va_G} {z : cj_Zc} {ad : cj_Ad} (hI : cj_Ij (cj_EL z) ad) {m0 : cj_Mm} {a1 : Int32} {a2 : Int32} {r : Int32} {r2 : cj_Mm} (hf : f_X8_person m0 a1 a2 = some (r, r2)) : cj_Ct l (cj_YL D z ad) yX8_person cX8_person 3 (some .int) 5 [.ref (ad 0 0), .int a1, .int a2] (m0) (some (.int r)) (r2) := by
  refine cj_Ct.of (by decide +kernel) hI (Nat.le_of_ble_eq_true rfl) [(0, .ref (ad 0 0)), (1, .int a1), (2, .int a2)] rfl (fun X hX C => ?_)
  subst hX
  have C : cj_C (cj_YL D z ad) X cX8_person 3 RX8 5 (some .int) := C
  unfold f_X8_person at hf
  generalize hr2 : (r, r2) = r3 at hf
  obtain ⟨e1, e2⟩ : r = r3.1 ∧ r2 = r3.2 := by rw [← hr2]; exact ⟨rfl, rfl⟩
  rw [e1, e2]
  clear e1 e2 hr2
  obtain ⟨r, hr⟩ : ∃ r, r = r3 := ⟨_, rfl⟩
  rw [← hr] at hf ⊢
  clear hr
  refine cj_aload_n C dX8_person_0 rfl 0 rfl ?_
  refine cj_get (v := .ref (ad 1 0)) (j := 2) C (e0_0 (z := z) (ad := ad)) rfl rfl cj_in8 (by decide) rfl cjq_298 rfl dX8_person_1 ?_
  refine cj_aload_n C dX8_person_4 rfl 0 rfl ?_
  refine cj_get (v := .ref (ad 5 0)) (j := 0) C (e0_0 (z := z) (ad := ad)) rfl rfl cj_in8 (by decide) rfl cjq_296 rfl dX8_person_5 ?_
  obtain ⟨s2, h1, hf⟩ := cj_bd_s hf
  refine cj_cV1v C cw_X1_prepare (ct_X1_prepare hI h1) cjq_320 cjq_321 cjq_319 (e1_0 (z := z) (ad := ad)) rfl rfl ⟨Nat.le_of_ble_eq_true rfl, Nat.le_of_ble_eq_true rfl⟩ (Nat.le_of_ble_eq_true rfl) dX8_person_8 ?_
  refine cj_aload_n C dX8_person_11 rfl 0 rfl ?_
  refine cj_get (v := .ref (ad 1 0)) (j := 2) C (e0_0 (z := z) (ad := ad)) rfl rfl cj_in8 (by decide) rfl cjq_298 rfl dX8_person_12 ?_
  refine cj_aload_n C dX8_person_15 rfl 0 rfl ?_
  refine cj_get (v := .ref (ad 5 0)) (j := 0) C (e0_0 (z := z) (ad := ad)) rfl rfl cj_in8 (by decide) rfl cjq_296 rfl dX8_person_16 ?_
  refine cj_iload_n C dX8_person_19 rfl 1 rfl ?_
  refine cj_iload_n C dX8_person_20 rfl 2 rfl ?_
  obtain ⟨x4, s5, h3, hf⟩ := cj_bp_s hf
  refine cj_at 5 ?_
  refine cj_cV2i C cw_X0_addPerson (ct_X0_addPerson hI cj_isC_5 h3) cjq_351 cjq_352 cjq_350 (eC_0 (z := z) (ad := ad) cj_isC_5) rfl rfl ⟨Nat.le_of_ble_eq_true rfl, Nat.le_of_ble_eq_true rfl⟩ (Nat.le_of_ble_eq_true rfl) dX8_person_21 ?_
  refine cj_ltM hf (fun s6 hf => ?_)
  obtain ⟨x8, s9, h7, hf⟩ := cj_bp_s hf
  refine cj_at 1 ?_
  refine cj_cV1i C cw_X1_settle (ct_X1_settle hI h7) cjq_365 cjq_366 cjq_364 (e1_0 (z := z) (ad := ad)) rfl rfl ⟨Nat.le_of_ble_eq_true rfl, Nat.le_of_ble_eq_true rfl⟩ (Nat.le_of_ble_eq_true rfl) dX8_person_24 ?_
  refine cj_ltM hf (fun s10 hf => ?_)
  cases hf
  exact cj_iret C rfl dX8_person_27
set_option maxHeartbeats 4000000 in
set_option maxRecDepth 100000 in
theorem ct_X8_turn {l : Launch} {D : va_G} {z : cj_Zc} {ad : cj_Ad} (hI : cj_Ij (cj_EL z) ad) {m0 : cj_Mm} {a1 : Int32} {a2 : Int32} {a3 : Int32} {r : Int32} {r2 : cj_Mm} (hf : f_X8_turn m0 a1 a2 a3 = some (r, r2)) : cj_Ct l (cj_YL D z ad) yX8_turn cX8_turn 4 (some .int) 5 [.ref (ad 0 0), .int a1, .int a2, .int a3] (m0) (some (.int r)) (r2) := by
  refine cj_Ct.of (by decide +kernel) hI (Nat.le_of_ble_eq_true rfl) [(0, .ref (ad 0 0)), (1, .int a1), (2, .int a2), (3, .int a3)] rfl (fun X hX C => ?_)
  subst hX
  have C : cj_C (cj_YL D z ad) X cX8_turn 4 RX8 5 (some .int) := C
  unfold f_X8_turn at hf
  generalize hr2 : (r, r2) = r3 at hf
  obtain ⟨e1, e2⟩ : r = r3.1 ∧ r2 = r3.2 := by rw [← hr2]; exact ⟨rfl, rfl⟩
  rw [e1, e2]
  clear e1 e2 hr2
  obtain ⟨r, hr⟩ : ∃ r, r = r3 := ⟨_, rfl⟩
  rw [← hr] at hf ⊢
  clear hr
  refine cj_aload_n C dX8_turn_0 rfl 0 rfl ?_
  refine cj_get (v := .ref (ad 1 0)) (j := 2) C (e0_0 (z := z) (ad := ad)) rfl rfl cj_in8 (by decide) rfl cjq_298 rfl dX8_turn_1 ?_
  refine cj_aload_n C dX8_turn_4 rfl 0 rfl ?_
  refine cj_get (v := .ref (ad 5 0)) (j := 0) C (e0_0 (z := z) (ad := ad)) rfl rfl cj_in8 (by decide) rfl cjq_296 rfl dX8_turn_5 ?_
  obtain ⟨s2, h1, hf⟩ := cj_bd_s hf
  refine cj_cV1v C cw_X1_prepare (ct_X1_prepare hI h1) cjq_320 cjq_321 cjq_319 (e1_0 (z := z) (ad := ad)) rfl rfl ⟨Nat.le_of_ble_eq_true rfl, Nat.le_of_ble_eq_true rfl⟩ (Nat.le_of_ble_eq_true rfl) dX8_turn_8 ?_
  refine cj_aload_n C dX8_turn_11 rfl 0 rfl ?_
  refine cj_get (v := .ref (ad 1 0)) (j := 2) C (e0_0 (z := z) (ad := ad)) rfl rfl cj_in8 (by decide) rfl cjq_298 rfl dX8_turn_12 ?_
  refine cj_aload_n C dX8_turn_15 rfl 0 rfl ?_
  refine cj_get (v := .ref (ad 5 0)) (j := 0) C (e0_0 (z := z) (ad := ad)) rfl rfl cj_in8 (by decide) rfl cjq_296 rfl dX8_turn_16 ?_
  refine cj_iload_n C dX8_turn_19 rfl 1 rfl ?_
  refine cj_iload_n C dX8_turn_20 rfl 2 rfl ?_
  refine cj_iload_n C dX8_turn_21 rfl 3 rfl ?_
  obtain ⟨x4, s5, h3, hf⟩ := cj_bp_s hf
  refine cj_at 5 ?_
  refine cj_cV3i C cw_X0_turnPerson (ct_X0_turnPerson hI cj_isC_5 h3) cjq_373 cjq_374 cjq_372 (eC_0 (z := z) (ad := ad) cj_isC_5) rfl rfl ⟨Nat.le_of_ble_eq_true rfl, Nat.le_of_ble_eq_true rfl⟩ (Nat.le_of_ble_eq_true rfl) dX8_turn_22 ?_
  refine cj_ltM hf (fun s6 hf => ?_)
  obtain ⟨x8, s9, h7, hf⟩ := cj_bp_s hf
  refine cj_at 1 ?_
  refine cj_cV1i C cw_X1_settle (ct_X1_settle hI h7) cjq_365 cjq_366 cjq_364 (e1_0 (z := z) (ad := ad)) rfl rfl ⟨Nat.le_of_ble_eq_true rfl, Nat.le_of_ble_eq_true rfl⟩ (Nat.le_of_ble_eq_true rfl) dX8_turn_25 ?_
  refine cj_ltM hf (fun s10 hf => ?_)
  cases hf
  exact cj_iret C rfl dX8_turn_28
set_option maxHeartbeats 4000000 in
set_option maxRecDepth 100000 in
theorem ct_X8_paper {l : Launch} {D : va_G} {z : cj_Zc} {ad : cj_Ad} (hI : cj_Ij (cj_EL z) ad) {m0 : cj_Mm} {a1 : Int32} {a2 : Int32} {r : Int32} {r2 : cj_Mm} (hf : f_X8_paper m0 a1 a2 = some (r, r2)) : cj_Ct l (cj_YL D z ad) yX8_paper cX8_paper 3 (some .int) 5 [.ref (ad 0 0), .int a1, .int a2] (m0) (some (.int r)) (r2) := by
  refine cj_Ct.of (by decide +kernel) hI (Nat.le_of_ble_eq_true rfl) [(0, .ref (ad 0 0)), (1, .int a1), (2, .int a2)] rfl (fun X hX C => ?_)
  subst hX
  have C : cj_C (cj_YL D z ad) X cX8_paper 3 RX8 5 (some .int) := C
  unfold f_X8_paper at hf
  generalize hr2 : (r, r2) = r3 at hf
  obtain ⟨e1, e2⟩ : r = r3.1 ∧ r2 = r3.2 := by rw [← hr2]; exact ⟨rfl, rfl⟩
  rw [e1, e2]
  clear e1 e2 hr2
  obtain ⟨r, hr⟩ : ∃ r, r = r3 := ⟨_, rfl⟩
  rw [← hr] at hf ⊢
  clear hr
  refine cj_aload_n C dX8_paper_0 rfl 0 rfl ?_
  refine cj_get (v := .ref (ad 1 0)) (j := 2) C (e0_0 (z := z) (ad := ad)) rfl rfl cj_in8 (by decide) rfl cjq_298 rfl dX8_paper_1 ?_
  refine cj_aload_n C dX8_paper_4 rfl 0 rfl ?_
  refine cj_get (v := .ref (ad 5 0)) (j := 0) C (e0_0 (z := z) (ad := ad)) rfl rfl cj_in8 (by decide) rfl cjq_296 rfl dX8_paper_5 ?_
  obtain ⟨s2, h1, hf⟩ := cj_bd_s hf
  refine cj_cV1v C cw_X1_prepare (ct_X1_prepare hI h1) cjq_320 cjq_321 cjq_319 (e1_0 (z := z) (ad := ad)) rfl rfl ⟨Nat.le_of_ble_eq_true rfl, Nat.le_of_ble_eq_true rfl⟩ (Nat.le_of_ble_eq_true rfl) dX8_paper_8 ?_
  refine cj_aload_n C dX8_paper_11 rfl 0 rfl ?_
  refine cj_get (v := .ref (ad 1 0)) (j := 2) C (e0_0 (z := z) (ad := ad)) rfl rfl cj_in8 (by decide) rfl cjq_298 rfl dX8_paper_12 ?_
  refine cj_aload_n C dX8_paper_15 rfl 0 rfl ?_
  refine cj_get (v := .ref (ad 5 0)) (j := 0) C (e0_0 (z := z) (ad := ad)) rfl rfl cj_in8 (by decide) rfl cjq_296 rfl dX8_paper_16 ?_
  refine cj_iload_n C dX8_paper_19 rfl 1 rfl ?_
  refine cj_iload_n C dX8_paper_20 rfl 2 rfl ?_
  obtain ⟨x4, s5, h3, hf⟩ := cj_bp_s hf
  refine cj_at 5 ?_
  refine cj_cV2i C cw_X0_addPaper (ct_X0_addPaper hI cj_isC_5 h3) cjq_400 cjq_401 cjq_399 (eC_0 (z := z) (ad := ad) cj_isC_5) rfl rfl ⟨Nat.le_of_ble_eq_true rfl, Nat.le_of_ble_eq_true rfl⟩ (Nat.le_of_ble_eq_true rfl) dX8_paper_21 ?_
  refine cj_ltM hf (fun s6 hf => ?_)
  obtain ⟨x8, s9, h7, hf⟩ := cj_bp_s hf
  refine cj_at 1 ?_
  refine cj_cV1i C cw_X1_settle (ct_X1_settle hI h7) cjq_365 cjq_366 cjq_364 (e1_0 (z := z) (ad := ad)) rfl rfl ⟨Nat.le_of_ble_eq_true rfl, Nat.le_of_ble_eq_true rfl⟩ (Nat.le_of_ble_eq_true rfl) dX8_paper_24 ?_
  refine cj_ltM hf (fun s10 hf => ?_)
  cases hf
  exact cj_iret C rfl dX8_paper_27
set_option maxHeartbeats 4000000 in
set_option maxRecDepth 100000 in
theorem ct_X8_look {l : Launch} {D : va_G} {z : cj_Zc} {ad : cj_Ad} (hI : cj_Ij (cj_EL z) ad) {m0 : cj_Mm} {a1 : Int32} {r : Int32} {r2 : cj_Mm} (hf : f_X8_look m0 a1 = some (r, r2)) : cj_Ct l (cj_YL D z ad) yX8_look cX8_look 2 (some .int) 5 [.ref (ad 0 0), .int a1] (m0) (some (.int r)) (r2) := by
  refine cj_Ct.of (by decide +kernel) hI (Nat.le_of_ble_eq_true rfl) [(0, .ref (ad 0 0)), (1, .int a1)] rfl (fun X hX C => ?_)
  subst hX
  have C : cj_C (cj_YL D z ad) X cX8_look 2 RX8 5 (some .int) := C
  unfold f_X8_look at hf
  generalize hr2 : (r, r2) = r3 at hf
  obtain ⟨e1, e2⟩ : r = r3.1 ∧ r2 = r3.2 := by rw [← hr2]; exact ⟨rfl, rfl⟩
  rw [e1, e2]
  clear e1 e2 hr2
  obtain ⟨r, hr⟩ : ∃ r, r = r3 := ⟨_, rfl⟩
  rw [← hr] at hf ⊢
  clear hr
  refine cj_aload_n C dX8_look_0 rfl 0 rfl ?_
  refine cj_get (v := .ref (ad 1 0)) (j := 2) C (e0_0 (z := z) (ad := ad)) rfl rfl cj_in8 (by decide) rfl cjq_298 rfl dX8_look_1 ?_
  refine cj_aload_n C dX8_look_4 rfl 0 rfl ?_
  refine cj_get (v := .ref (ad 5 0)) (j := 0) C (e0_0 (z := z) (ad := ad)) rfl rfl cj_in8 (by decide) rfl cjq_296 rfl dX8_look_5 ?_
  obtain ⟨s2, h1, hf⟩ := cj_bd_s hf
  refine cj_cV1v C cw_X1_prepare (ct_X1_prepare hI h1) cjq_320 cjq_321 cjq_319 (e1_0 (z := z) (ad := ad)) rfl rfl ⟨Nat.le_of_ble_eq_true rfl, Nat.le_of_ble_eq_true rfl⟩ (Nat.le_of_ble_eq_true rfl) dX8_look_8 ?_
  refine cj_aload_n C dX8_look_11 rfl 0 rfl ?_
  refine cj_get (v := .ref (ad 1 0)) (j := 2) C (e0_0 (z := z) (ad := ad)) rfl rfl cj_in8 (by decide) rfl cjq_298 rfl dX8_look_12 ?_
  refine cj_aload_n C dX8_look_15 rfl 0 rfl ?_
  refine cj_get (v := .ref (ad 5 0)) (j := 0) C (e0_0 (z := z) (ad := ad)) rfl rfl cj_in8 (by decide) rfl cjq_296 rfl dX8_look_16 ?_
  refine cj_iload_n C dX8_look_19 rfl 1 rfl ?_
  obtain ⟨x4, s5, h3, hf⟩ := cj_bp_s hf
  refine cj_at 5 ?_
  refine cj_cV1i C cw_X0_lookAt (ct_X0_lookAt hI cj_isC_5 h3) cjq_408 cjq_409 cjq_407 (eC_0 (z := z) (ad := ad) cj_isC_5) rfl rfl ⟨Nat.le_of_ble_eq_true rfl, Nat.le_of_ble_eq_true rfl⟩ (Nat.le_of_ble_eq_true rfl) dX8_look_20 ?_
  refine cj_ltM hf (fun s6 hf => ?_)
  obtain ⟨x8, s9, h7, hf⟩ := cj_bp_s hf
  refine cj_at 1 ?_
  refine cj_cV1i C cw_X1_settle (ct_X1_settle hI h7) cjq_365 cjq_366 cjq_364 (e1_0 (z := z) (ad := ad)) rfl rfl ⟨Nat.le_of_ble_eq_true rfl, Nat.le_of_ble_eq_true rfl⟩ (Nat.le_of_ble_eq_true rfl) dX8_look_23 ?_
  refine cj_ltM hf (fun s10 hf => ?_)
  cases hf
  exact cj_iret C rfl dX8_look_26
set_option maxHeartbeats 4000000 in
set_option maxRecDepth 100000 in
theorem ct_X8_sheet {l : Launch} {D : va_G} {z : cj_Zc} {ad : cj_Ad} (hI : cj_Ij (cj_EL z) ad) {m0 : cj_Mm} {a1 : Int32} {r : Int32} {r2 : cj_Mm} (hf : f_X8_sheet m0 a1 = some (r, r2)) : cj_Ct l (cj_YL D z ad) yX8_sheet cX8_sheet 2 (some .int) 5 [.ref (ad 0 0), .int a1] (m0) (some (.int r)) (r2) := by
  refine cj_Ct.of (by decide +kernel) hI (Nat.le_of_ble_eq_true rfl) [(0, .ref (ad 0 0)), (1, .int a1)] rfl (fun X hX C => ?_)
  subst hX
  have C : cj_C (cj_YL D z ad) X cX8_sheet 2 RX8 5 (some .int) := C
  unfold f_X8_sheet at hf
  generalize hr2 : (r, r2) = r3 at hf
  obtain ⟨e1, e2⟩ : r = r3.1 ∧ r2 = r3.2 := by rw [← hr2]; exact ⟨rfl, rfl⟩
  rw [e1, e2]
  clear e1 e2 hr2
  obtain ⟨r, hr⟩ : ∃ r, r = r3 := ⟨_, rfl⟩
  rw [← hr] at hf ⊢
  clear hr
  refine cj_aload_n C dX8_sheet_0 rfl 0 rfl ?_
  refine cj_get (v := .ref (ad 1 0)) (j := 2) C (e0_0 (z := z) (ad := ad)) rfl rfl cj_in8 (by decide) rfl cjq_298 rfl dX8_sheet_1 ?_
  refine cj_aload_n C dX8_sheet_4 rfl 0 rfl ?_
  refine cj_get (v := .ref (ad 5 0)) (j := 0) C (e0_0 (z := z) (ad := ad)) rfl rfl cj_in8 (by decide) rfl cjq_296 rfl dX8_sheet_5 ?_
  obtain ⟨s2, h1, hf⟩ := cj_bd_s hf
  refine cj_cV1v C cw_X1_prepare (ct_X1_prepare hI h1) cjq_320 cjq_321 cjq_319 (e1_0 (z := z) (ad := ad)) rfl rfl ⟨Nat.le_of_ble_eq_true rfl, Nat.le_of_ble_eq_true rfl⟩ (Nat.le_of_ble_eq_true rfl) dX8_sheet_8 ?_
  refine cj_aload_n C dX8_sheet_11 rfl 0 rfl ?_
  refine cj_get (v := .ref (ad 1 0)) (j := 2) C (e0_0 (z := z) (ad := ad)) rfl rfl cj_in8 (by decide) rfl cjq_298 rfl dX8_sheet_12 ?_
  refine cj_aload_n C dX8_sheet_15 rfl 0 rfl ?_
  refine cj_get (v := .ref (ad 5 0)) (j := 0) C (e0_0 (z := z) (ad := ad)) rfl rfl cj_in8 (by decide) rfl cjq_296 rfl dX8_sheet_16 ?_
  refine cj_iload_n C dX8_sheet_19 rfl 1 rfl ?_
  obtain ⟨x4, s5, h3, hf⟩ := cj_bp_s hf
  refine cj_at 5 ?_
  refine cj_cV1i C cw_X0_beginSheet (ct_X0_beginSheet hI cj_isC_5 h3) cjq_416 cjq_417 cjq_415 (eC_0 (z := z) (ad := ad) cj_isC_5) rfl rfl ⟨Nat.le_of_ble_eq_true rfl, Nat.le_of_ble_eq_true rfl⟩ (Nat.le_of_ble_eq_true rfl) dX8_sheet_20 ?_
  refine cj_ltM hf (fun s6 hf => ?_)
  obtain ⟨x8, s9, h7, hf⟩ := cj_bp_s hf
  refine cj_at 1 ?_
  refine cj_cV1i C cw_X1_settle (ct_X1_settle hI h7) cjq_365 cjq_366 cjq_364 (e1_0 (z := z) (ad := ad)) rfl rfl ⟨Nat.le_of_ble_eq_true rfl, Nat.le_of_ble_eq_true rfl⟩ (Nat.le_of_ble_eq_true rfl) dX8_sheet_23 ?_
  refine cj_ltM hf (fun s10 hf => ?_)
  cases hf
  exact cj_iret C rfl dX8_sheet_26
