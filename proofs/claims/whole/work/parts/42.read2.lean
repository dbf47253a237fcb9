/-! remembered, sheets' places, counts, prices -/
theorem cj_bit : ∀ f, f < 12 → (1 : Int32) <<< (nI f &&& 31) = nI (2 ^ f) := by decide +kernel
theorem cj_orI (a b : Nat) : nI a ||| nI b = nI (a ||| b) := by
  apply Int32.toBitVec_inj.mp
  rw [Int32.toBitVec_or]
  apply BitVec.eq_of_toNat_eq
  show ((BitVec.ofNat 32 a) ||| (BitVec.ofNat 32 b)).toNat = (BitVec.ofNat 32 (a ||| b)).toNat
  rw [BitVec.toNat_or, BitVec.toNat_ofNat, BitVec.toNat_ofNat, BitVec.toNat_ofNat, Nat.or_mod_two_pow]
theorem cj_or0 (x : Int32) : x ||| 0 = x := by
  apply Int32.toBitVec_inj.mp
  rw [Int32.toBitVec_or]
  show x.toBitVec ||| 0#32 = x.toBitVec
  rw [BitVec.or_zero]
section CJT
variable {N : Nat} {σ τ : cj_S}
theorem cj_rem_loop (h : cj_Rq N σ (τ 1)) (hN : N ≤ 6) {p T t a : Nat} (hp : p < N) (ht : τ 1 4 = nI t) (htT : t ≤ T) (hT : T ≤ 20000) (ha : τ 1 9 = nI a) (ha2 : a ≤ 200) (hs : ∀ f, f < 12 → τ 1 (17 + 18 * p + f) = (-1) ∨ ∃ s, s ≤ T ∧ τ 1 (17 + 18 * p + f) = nI s) : ∀ (k f n n' v : Nat), f + k = 12 → k < n → k < n' → v < 2 ^ f →
    ∃ v2, v2 < 4096 ∧ f_X3_rememberedSince_L5 (nI p) (nI t - nI a) σ n (nI v) (nI f) = some (nI v2) ∧ f_X9_remembered_L4 (nI p) τ n' (nI v) (nI f) = some (nI v2) := by
  intro k
  induction k with
  | zero =>
    intro f n n' v hf hn hn' hv
    obtain ⟨n, rfl⟩ : ∃ x, n = x + 1 := ⟨n - 1, by omega⟩
    obtain ⟨n', rfl⟩ : ∃ x, n' = x + 1 := ⟨n' - 1, by omega⟩
    have hf : f = 12 := by omega
    subst hf
    refine ⟨v, hv, ?_, ?_⟩
    · rw [f_X3_rememberedSince_L5, if_pos (by decide)]
    · rw [f_X9_remembered_L4, if_pos (by decide)]
  | succ k ih =>
    intro f n n' v hf hn hn' hv
    obtain ⟨n, rfl⟩ : ∃ x, n = x + 1 := ⟨n - 1, by omega⟩
    obtain ⟨n', rfl⟩ : ∃ x, n' = x + 1 := ⟨n' - 1, by omega⟩
    have h12 : ¬ (12 : Int32) ≤ nI f := nI_ge (a := f) (b := 12) (by omega) (by omega)
    have eo : f_X9_of τ (nI p) (6 + nI f) = some (τ 1 (17 + 18 * p + f)) := by
      rw [show (6 : Int32) = nI 6 from rfl, nI_add, m_of τ (by omega)]
      congr 2
      omega
    have ei : (nI p * 12 + nI f : Int32) = nI (12 * p + f) := by
      rw [show (12 : Int32) = nI 12 from rfl, pk_mul, nI_add]
      congr 1
      omega
    have h2 : v ||| 2 ^ f < 2 ^ (f + 1) := Nat.or_lt_two_pow (Nat.lt_of_lt_of_le hv (Nat.pow_le_pow_right (by decide) (by omega))) (Nat.pow_lt_pow_right (by decide) (by omega))
    have h3 : v < 2 ^ (f + 1) := Nat.lt_of_lt_of_le hv (Nat.pow_le_pow_right (by decide) (by omega))
    rw [f_X3_rememberedSince_L5, f_X9_remembered_L4, if_neg h12, if_neg h12, ei, cj_gdN (by omega) (by decide), cj_lt1, cj_tn (by omega), h.rs hp hN (by omega), eo, cj_bd1]
    rcases hs f (by omega) with q | ⟨s, hs1, q⟩
    · rw [q, if_pos rfl, if_pos (by decide), cj_or0, nI_1]
      exact ih (f + 1) n n' v (by omega) (by omega) (by omega) h3
    · rw [q, if_neg (show ¬ nI s = (-1) from fun e => by
        have := congrArg Int32.toInt e
        rw [nI_toInt (by omega)] at this
        have h9 : (-1 : Int32).toInt = -1 := rfl
        omega), if_neg (nI_pos (by omega)), ht, ha]
      have hc : (nI s < nI t - nI a) ↔ (nI a < nI t - nI s) := by
        rw [Int32.lt_iff_toInt_lt, Int32.lt_iff_toInt_lt, pk_sub_toInt (by omega) (by omega), pk_sub_toInt (by omega) (by omega), nI_toInt (by omega), nI_toInt (by omega)]
        omega
      by_cases c : nI s < nI t - nI a
      · rw [if_pos c, if_pos (hc.mp c), cj_or0, nI_1]
        exact ih (f + 1) n n' v (by omega) (by omega) (by omega) h3
      · rw [if_neg c, if_neg (fun e => c (hc.mpr e)), cj_lt1, cj_lt1, cj_bit f (by omega), cj_orI, nI_1]
        exact ih (f + 1) n n' (v ||| 2 ^ f) (by omega) (by omega) (by omega) h2
theorem cj_rem {B T : Nat} (h : cj_Rq N σ (τ 1)) (hN : N ≤ 6) (hw : cj_WF B T N (τ 1)) (hT : T ≤ 20000) {p : Nat} (hp : p < N) : ∃ v, v < 4096 ∧ f_X0_remembered σ (nI p) = some (nI v) ∧ f_X9_remembered τ (nI p) = some (nI v) := by
  obtain ⟨-, -, ⟨t, ht, htT⟩, -, -, ⟨a, ha, -, ha2⟩, -, -, hs⟩ := hw
  obtain ⟨v, h1, h2, h3⟩ := cj_rem_loop h hN hp ht htT hT ha ha2 (hs p hp) 12 0 cj_FU cj_FU 0 (by omega) (by unfold cj_FU; omega) (by unfold cj_FU; omega) (by omega)
  refine ⟨v, h1, ?_, h3⟩
  unfold f_X0_remembered f_X3_rememberedSince
  rw [h.r0.1, h.r0.2.2.1, ht, ha]
  have h2 : f_X3_rememberedSince_L5 (nI p) (nI t - nI a) σ cj_FU 0 0 = some (nI v) := h2
  rw [h2, cj_bd1]
theorem cj_slot_loop (h : cj_Rq N σ (τ 1)) {ns : Nat} (h2 : τ 1 2 = nI ns) (hns : ns ≤ 10) (a : Int32) : ∀ (k i n n' : Nat), i + k = ns → k < n → k < n' →
    (f_X6_placeOf_L2 a σ n (nI i) = some (-1) ∧ f_X9_slot_L2 a τ n' (nI i) = some (-1000004) ∧ ∀ j, i ≤ j → j < ns → ¬ τ 1 (119 + 4 * j) = a) ∨ ∃ j, i ≤ j ∧ j < ns ∧ τ 1 (119 + 4 * j) = a ∧ (∀ j', i ≤ j' → j' < j → ¬ τ 1 (119 + 4 * j') = a) ∧ f_X6_placeOf_L2 a σ n (nI i) = some (nI j) ∧ f_X9_slot_L2 a τ n' (nI i) = some (nI j) := by
  intro k
  induction k with
  | zero =>
    intro i n n' hi hn hn'
    obtain ⟨n, rfl⟩ : ∃ x, n = x + 1 := ⟨n - 1, by omega⟩
    obtain ⟨n', rfl⟩ : ∃ x, n' = x + 1 := ⟨n' - 1, by omega⟩
    refine Or.inl ⟨?_, ?_, fun j h1 h2 => by omega⟩
    · rw [f_X6_placeOf_L2, h.r9, h2, if_pos (nI_le (by omega) (by omega))]
    · rw [f_X9_slot_L2, h2, if_pos (nI_le (by omega) (by omega))]
  | succ k ih =>
    intro i n n' hi hn hn'
    obtain ⟨n, rfl⟩ : ∃ x, n = x + 1 := ⟨n - 1, by omega⟩
    obtain ⟨n', rfl⟩ : ∃ x, n' = x + 1 := ⟨n' - 1, by omega⟩
    have eo : f_X9_ofSheet τ (nI i) 0 = some (τ 1 (119 + 4 * i)) := m_ofS τ (p := i) (w := 0) (by omega)
    rw [f_X6_placeOf_L2, f_X9_slot_L2, h.r9, h2, if_neg (nI_ge (by omega) (by omega)), if_neg (nI_ge (by omega) (by omega)), cj_gdN (by omega) (by decide), cj_tn (by omega), h.rk (k := 10) ⟨by decide, by decide⟩ (by omega), eo, cj_bd1]
    by_cases c : τ 1 (119 + 4 * i) = a
    · rw [if_pos c, if_pos c]
      exact Or.inr ⟨i, Nat.le_refl i, by omega, c, fun j' h1 h2 => by omega, rfl, rfl⟩
    · rw [if_neg c, if_neg c, nI_1]
      rcases ih (i + 1) n n' (by omega) (by omega) (by omega) with ⟨q1, q2, q3⟩ | ⟨j, q1, q2, q3, q4, q5, q6⟩
      · refine Or.inl ⟨q1, q2, fun j h1 h2 => ?_⟩
        by_cases e : j = i
        · subst e; exact c
        · exact q3 j (by omega) h2
      · refine Or.inr ⟨j, by omega, q2, q3, fun j' h1 h2 => ?_, q5, q6⟩
        by_cases e : j' = i
        · subst e; exact c
        · exact q4 j' (by omega) h2
theorem cj_slot (h : cj_Rq N σ (τ 1)) {ns : Nat} (h2 : τ 1 2 = nI ns) (hns : ns ≤ 10) (a : Int32) : (f_X6_placeOf σ a = some (-1) ∧ f_X9_slot τ a = some (-1000004) ∧ ∀ j, j < ns → ¬ τ 1 (119 + 4 * j) = a) ∨ ∃ j, j < ns ∧ τ 1 (119 + 4 * j) = a ∧ (∀ j', j' < j → ¬ τ 1 (119 + 4 * j') = a) ∧ f_X6_placeOf σ a = some (nI j) ∧ f_X9_slot τ a = some (nI j) := by
  rcases cj_slot_loop h h2 hns a ns 0 cj_FU cj_FU (by omega) (by unfold cj_FU; omega) (by unfold cj_FU; omega) with ⟨q1, q2, q3⟩ | ⟨j, -, q2, q3, q4, q5, q6⟩
  · exact Or.inl ⟨q1, q2, fun j hj => q3 j (Nat.zero_le j) hj⟩
  · exact Or.inr ⟨j, q2, q3, fun j' hj => q4 j' (Nat.zero_le j') hj, q5, q6⟩
theorem cj_cnt_loop (h : cj_Rq N σ (τ 1)) {ns : Nat} (h2 : τ 1 2 = nI ns) (hns : ns ≤ 10) (a : Int32) : ∀ (k i n n' c : Nat), i + k = ns → k < n → k < n' → ∃ r : Nat, f_X6_ofPerson_L4 a σ n (nI c) (nI i) = some (nI r) ∧ f_X9_sheetsOf_L4 a τ n' (nI c) (nI i) = some (nI r) ∧ r ≤ c + k := by
  intro k
  induction k with
  | zero =>
    intro i n n' c hi hn hn'
    obtain ⟨n, rfl⟩ : ∃ x, n = x + 1 := ⟨n - 1, by omega⟩
    obtain ⟨n', rfl⟩ : ∃ x, n' = x + 1 := ⟨n' - 1, by omega⟩
    refine ⟨c, ?_, ?_, Nat.le_refl c⟩
    · rw [f_X6_ofPerson_L4, h.r9, h2, if_pos (nI_le (by omega) (by omega))]
    · rw [f_X9_sheetsOf_L4, h2, if_pos (nI_le (by omega) (by omega))]
  | succ k ih =>
    intro i n n' c hi hn hn'
    obtain ⟨n, rfl⟩ : ∃ x, n = x + 1 := ⟨n - 1, by omega⟩
    obtain ⟨n', rfl⟩ : ∃ x, n' = x + 1 := ⟨n' - 1, by omega⟩
    have eo : f_X9_ofSheet τ (nI i) 1 = some (τ 1 (109 + 11 + 4 * i)) := by
      have := m_ofS τ (p := i) (w := 1) (by omega)
      rw [show 119 + 4 * i + 1 = 109 + 11 + 4 * i by omega] at this
      exact this
    rw [f_X6_ofPerson_L4, f_X9_sheetsOf_L4, h.r9, h2, if_neg (nI_ge (by omega) (by omega)), if_neg (nI_ge (by omega) (by omega)), cj_gdN (by omega) (by decide), cj_tn (by omega), h.rk (k := 11) ⟨by decide, by decide⟩ (by omega), eo, cj_bd1]
    by_cases c1 : τ 1 (109 + 11 + 4 * i) = a
    · rw [if_pos c1, if_pos c1, nI_1, nI_1]
      obtain ⟨r, q1, q2, q3⟩ := ih (i + 1) n n' (c + 1) (by omega) (by omega) (by omega)
      exact ⟨r, q1, q2, by omega⟩
    · rw [if_neg c1, if_neg c1, nI_1, show (0 : Int32) = nI 0 from rfl, nI_add]
      obtain ⟨r, q1, q2, q3⟩ := ih (i + 1) n n' c (by omega) (by omega) (by omega)
      exact ⟨r, q1, q2, by omega⟩
theorem cj_cnt (h : cj_Rq N σ (τ 1)) {ns : Nat} (h2 : τ 1 2 = nI ns) (hns : ns ≤ 10) (a : Int32) : ∃ r : Nat, f_X6_ofPerson σ a = some (nI r) ∧ f_X9_sheetsOf τ a = some (nI r) ∧ r ≤ 10 := by
  obtain ⟨r, q1, q2, q3⟩ := cj_cnt_loop h h2 hns a ns 0 cj_FU cj_FU 0 (by omega) (by unfold cj_FU; omega) (by unfold cj_FU; omega)
  exact ⟨r, q1, q2, by omega⟩
def cj_onesB (h : Nat) : Bool := match f_J6_bitCount_0f7a4 (nI h), f_X9_ones (nI h) with
  | some x, some y => decide (x = y) && decide (x = nI x.toNatClampNeg) && decide (x.toNatClampNeg ≤ 12)
  | _, _ => false
theorem cj_ones_b : ((List.range 4096).all cj_onesB) = true := by decide +kernel
theorem cj_ones {h : Nat} (hh : h < 4096) : ∃ c, c ≤ 12 ∧ f_J6_bitCount_0f7a4 (nI h) = some (nI c) ∧ f_X9_ones (nI h) = some (nI c) := by
  have h1 := List.all_eq_true.mp cj_ones_b h (List.mem_range.mpr hh)
  unfold cj_onesB at h1
  cases e1 : f_J6_bitCount_0f7a4 (nI h) with
  | none => rw [e1] at h1; cases h1
  | some x =>
    cases e2 : f_X9_ones (nI h) with
    | none => rw [e1, e2] at h1; cases h1
    | some y =>
      rw [e1, e2] at h1
      simp only [Bool.and_eq_true, decide_eq_true_eq] at h1
      refine ⟨x.toNatClampNeg, h1.2, congrArg some h1.1.2, ?_⟩
      rw [← h1.1.1]
      exact congrArg some h1.1.2
end CJT
