/-! the mean -/
theorem cj_b15 (K : UInt32 → Int32 → Option Int32) {t : Nat} (ht : t < 8388608) : ∀ (k j n : Nat), j + k ≤ 127 → k < n → f_X8_bitsOf_L15 K n (cj_f (127 + k) t) (nI (127 + j)) (nI j) = K (cj_f 127 t) (nI (127 + j + k)) := by
  intro k
  induction k with
  | zero =>
    intro j n hj hn
    obtain ⟨n, rfl⟩ : ∃ x, n = x + 1 := ⟨n - 1, by omega⟩
    rw [f_X8_bitsOf_L15]
    by_cases c : (127 : Int32) ≤ nI j
    · rw [if_pos c]
      rfl
    · rw [if_neg c, if_pos ((cj_lt2 (E := 127 + 0) (by omega) (by omega) ht).mpr (by omega))]
      rfl
  | succ k ih =>
    intro j n hj hn
    obtain ⟨n, rfl⟩ : ∃ x, n = x + 1 := ⟨n - 1, by omega⟩
    rw [f_X8_bitsOf_L15, if_neg (show ¬ (127 : Int32) ≤ nI j from nI_ge (a := j) (b := 127) (by omega) (by decide)), if_neg (fun z => absurd ((cj_lt2 (E := 127 + (k + 1)) (by omega) (by omega) ht).mp z) (by omega)), cj_fdiv2 (by omega) (by omega) ht, show 127 + (k + 1) - 1 = 127 + k by omega, cj_gpT (cj_nn (by omega) ht), cj_lt1, nI_1, nI_1]
    have := ih (j + 1) n (by omega) (by omega)
    rw [show 127 + (j + 1) + k = 127 + j + (k + 1) by omega] at this
    exact this
theorem cj_b42 (K : UInt32 → Int32 → Option Int32) {t : Nat} (ht : t < 8388608) (v : Nat) : ∀ (k j n : Nat), j + k ≤ 126 → k < n → f_X8_bitsOf_L42 K n (cj_f (127 - k) t) (nI (v + k)) (nI j) = K (cj_f 127 t) (nI v) := by
  intro k
  induction k with
  | zero =>
    intro j n hj hn
    obtain ⟨n, rfl⟩ : ∃ x, n = x + 1 := ⟨n - 1, by omega⟩
    rw [f_X8_bitsOf_L42]
    by_cases c : (126 : Int32) ≤ nI j
    · rw [if_pos c]
      rfl
    · rw [if_neg c, if_pos ((cj_ge1 (E := 127 - 0) (by omega) (by omega) ht).mpr (by omega))]
      rfl
  | succ k ih =>
    intro j n hj hn
    obtain ⟨n, rfl⟩ : ∃ x, n = x + 1 := ⟨n - 1, by omega⟩
    rw [f_X8_bitsOf_L42, if_neg (show ¬ (126 : Int32) ≤ nI j from nI_ge (a := j) (b := 126) (by omega) (by decide)), if_neg (fun z => absurd ((cj_ge1 (E := 127 - (k + 1)) (by omega) (by omega) ht).mp z) (by omega)), cj_fmul2 (by omega) (by omega) ht, show 127 - (k + 1) + 1 = 127 - k by omega, cj_gpT (cj_nn (by omega) ht), cj_lt1, ← Nat.add_assoc, pk_m1, nI_1]
    exact ih (j + 1) n (by omega) (by omega)
theorem cj_bits {E t : Nat} (h1 : 1 ≤ E) (h : E ≤ 254) (ht : t < 8388608) : f_X8_bitsOf (cj_f E t) = some (nI (E * 8388608 + t)) := by
  obtain ⟨q1, q2, q3⟩ := cj_tail ht
  unfold f_X8_bitsOf
  rw [if_pos (cj_gt0 h1 h ht)]
  have fin : cj_gp (FP.fsub (cj_f 127 t) FP.fconst1 &&& 0x7fffffff ≤ 0x7f800000) (cj_gp (FP.fmul (FP.fsub (cj_f 127 t) FP.fconst1) 1258291200 &&& 0x7fffffff ≤ 0x7f800000) (some ((nI E <<< (23 &&& 31)) + (FP.f2i (FP.fmul (FP.fsub (cj_f 127 t) FP.fconst1) 1258291200))))) = some (nI (E * 8388608 + t)) := by
    rw [cj_gpT q1, cj_gpT q2, q3, pk_shlN (23 &&& 31) 23 (by decide) (by omega), nI_add]
  by_cases c : 127 ≤ E
  · obtain ⟨k, rfl⟩ : ∃ k, E = 127 + k := ⟨E - 127, by omega⟩
    have A := fun K => cj_b15 K ht k 0 cj_FU (by omega) (by unfold cj_FU; omega)
    have B := fun K => cj_b42 K ht (127 + k) 0 0 cj_FU (by omega) (by unfold cj_FU; omega)
    refine (A _).trans ?_
    refine (B _).trans ?_
    exact fin
  · obtain ⟨k, rfl⟩ : ∃ k, E = 127 - k := ⟨127 - E, by omega⟩
    have A : ∀ K : UInt32 → Int32 → Option Int32, f_X8_bitsOf_L15 K cj_FU (cj_f (127 - k) t) 127 0 = K (cj_f (127 - k) t) 127 := fun K => by
      show f_X8_bitsOf_L15 K (999 + 1) (cj_f (127 - k) t) 127 0 = _
      rw [f_X8_bitsOf_L15, if_neg (by decide), if_pos ((cj_lt2 (by omega) (by omega) ht).mpr (by omega))]
    have B := fun K => cj_b42 K ht (127 - k) k 0 cj_FU (by omega) (by unfold cj_FU; omega)
    rw [show 127 - k + k = 127 by omega] at B
    refine (A _).trans ?_
    refine (B _).trans ?_
    exact fin
theorem cj_ifl {n : Nat} (h0 : 0 < n) (h : n < 16777216) : ∃ E t, 127 ≤ E ∧ E ≤ 150 ∧ t < 8388608 ∧ FP.i2f (nI n) = cj_f E t := by
  obtain ⟨i, hi, m1, m2, m3⟩ := cj_fl_sc h0 h
  refine ⟨150 - i, n * 2 ^ i - 8388608, by omega, by omega, by omega, ?_⟩
  show UInt32.ofNat (FP.Core.encode FP.Core.b32 (FP.Core.round FP.Core.b32 (FP.Core.ofInt (nI n).toInt))) = _
  rw [nI_toInt (by omega)]
  have e : FP.Core.ofInt (n : Int) = .fin false n 0 := by
    unfold FP.Core.ofInt
    rw [show decide ((n : Int) < 0) = false from decide_eq_false (by omega)]
    rfl
  rw [e]
  show UInt32.ofNat (FP.Core.encode FP.Core.b32 (FP.Core.roundRatio FP.Core.b32 false n 1 0)) = _
  rw [cj_fl_rs false h0 m1 m2 m3 (by omega) (by omega), cj_f_e m1 m2 (by omega) (by omega), show ((0 : Int) - i + 150).toNat = 150 - i by omega]
theorem cj_quot {E t F u : Nat} (h1 : 127 ≤ E) (h2 : E ≤ 150) (ht : t < 8388608) (g1 : 127 ≤ F) (g2 : F ≤ 150) (hu : u < 8388608) : ∃ G v, 1 ≤ G ∧ G ≤ 254 ∧ v < 8388608 ∧ FP.fdiv (cj_f E t) (cj_f F u) = cj_f G v := by
  obtain ⟨c, q, r1, r2, r3, r4, r5⟩ := cj_fl_quo false (c := 8388608 + t) (d := 8388608 + u) (by omega) (by omega) (by omega) (by omega) (e := ((E : Int) - 150) - ((F : Int) - 150)) (by omega) (by omega)
  refine ⟨(q + 150).toNat, c - 8388608, by omega, by omega, by omega, ?_⟩
  show UInt32.ofNat (FP.Core.encode FP.Core.b32 (FP.Core.quotient FP.Core.b32 (FP.Core.decode FP.Core.b32 (cj_f E t).toNat) (FP.Core.decode FP.Core.b32 (cj_f F u).toNat))) = _
  rw [cj_f_d (by omega) (by omega) ht, cj_f_d (by omega) (by omega) hu]
  have X : FP.Core.quotient FP.Core.b32 (.fin false (8388608 + t) ((E : Int) - 150)) (.fin false (8388608 + u) ((F : Int) - 150)) = FP.Core.roundRatio FP.Core.b32 false (8388608 + t) (8388608 + u) (((E : Int) - 150) - ((F : Int) - 150)) := by
    show (if 8388608 + u = 0 then _ else _) = _
    rw [if_neg (by omega)]
    rfl
  rw [X, r1, cj_f_e r2 r3 (by omega) (by omega)]
theorem cj_quot0 {F u : Nat} (g1 : 127 ≤ F) (g2 : F ≤ 150) (hu : u < 8388608) : FP.fdiv (FP.i2f (nI 0)) (cj_f F u) = 0 := by
  show UInt32.ofNat (FP.Core.encode FP.Core.b32 (FP.Core.quotient FP.Core.b32 (FP.Core.decode FP.Core.b32 (FP.i2f (nI 0)).toNat) (FP.Core.decode FP.Core.b32 (cj_f F u).toNat))) = _
  rw [cj_f_d (by omega) (by omega) hu, show FP.Core.decode FP.Core.b32 (FP.i2f (nI 0)).toNat = .fin false 0 (-149) by decide +kernel]
  have X : FP.Core.quotient FP.Core.b32 (.fin false 0 (-149)) (.fin false (8388608 + u) ((F : Int) - 150)) = .fin false 0 FP.Core.b32.qmin := by
    show (if 8388608 + u = 0 then _ else _) = _
    rw [if_neg (by omega)]
    rfl
  rw [X]
  decide +kernel
theorem cj_h20 (n : Nat) (μ : cj_Mm) (τ : cj_S) (hn : n < 512) (hR : cj_RR n μ τ) : cj_O20 (cj_RR (n + 1)) μ τ := by
  obtain ⟨N, hX, hW⟩ := hR.1.x
  have hq := hX.2.2.1
  obtain ⟨ns, bg, sd, pd, a1, a2, a3, a4, a5, a6, a7, a8, -⟩ := (cj_WFi.mp hW).2.1
  show cj_Tpp (cj_RR (n + 1)) μ τ (f_X8_mean μ) (f_X9_mean τ)
  unfold f_X8_mean f_X9_mean
  rw [hq.r0.2.2.2.2.2.1, hq.r0.2.2.2.2.2.2, a5, a6]
  by_cases s0 : sd = 0
  · subst s0
    have p0 : pd = 0 := by omega
    subst p0
    rw [if_neg (show ¬ 0 < nI 0 by decide)]
    have e : (nI 0 = 0) = True := eq_true rfl
    simp only [cj_lt1, e, if_true]
    rw [cj_gpT (show FP.fdiv (FP.i2f (nI 0)) (FP.i2f 1) &&& 0x7fffffff ≤ 0x7f800000 by decide +kernel)]
    exact cj_val hR.up rfl rfl
  · have ne : ¬ nI sd = 0 := nI_ne0 (by omega) (by omega)
    rw [if_pos (show 0 < nI sd from nI_lt (a := 0) (by omega) (by omega))]
    simp only [cj_lt1, if_neg ne]
    obtain ⟨F, u, f1, f2, f3, f4⟩ := cj_ifl (n := sd) (by omega) (by omega)
    rw [f4]
    by_cases p0 : pd = 0
    · subst p0
      rw [cj_quot0 f1 f2 f3, cj_gpT (by decide), cj_gpT (by decide), show f_X8_bitsOf 0 = some 0 by decide +kernel, show f_Jxf58ca_floatToIntBits_5c35a 0 = some 0 by decide +kernel]
      exact cj_val hR.up rfl rfl
    · obtain ⟨E, t, g1, g2, g3, g4⟩ := cj_ifl (n := pd) (by omega) (by omega)
      obtain ⟨G, v, k1, k2, k3, k4⟩ := cj_quot g1 g2 g3 f1 f2 f3
      rw [g4, k4, cj_gpT (cj_nn k2 k3), cj_gpT (cj_nn k2 k3), cj_bits k1 k2 k3]
      unfold f_Jxf58ca_floatToIntBits_5c35a f_Jxf58ca_isNaN_12338
      rw [if_pos (cj_fself k1 k2 k3)]
      simp only [cj_bd1, if_true]
      exact cj_val hR.up (r := nI (G * 8388608 + v)) rfl rfl
