/-! what both read of related memories -/
theorem m_of (τ : cj_S) {p w : Nat} (h : 11 + 18 * p + w < 183) : f_X9_of τ (nI p) (nI w) = some (τ 1 (11 + 18 * p + w)) := by
  unfold f_X9_of
  rw [cj_n18, cj_gdN h (by decide), cj_tn (by omega)]
theorem m_sets (τ : cj_S) {p w : Nat} (v : Int32) (h : 11 + 18 * p + w < 183) : f_X9_sets τ (nI p) (nI w) v = some (cj_upr τ 1 (upd (τ 1) (11 + 18 * p + w) v)) := by
  unfold f_X9_sets
  rw [cj_n18, cj_gdN h (by decide), cj_tn (by omega)]
  rfl
theorem m_ofS (τ : cj_S) {p w : Nat} (h : 119 + 4 * p + w < 183) : f_X9_ofSheet τ (nI p) (nI w) = some (τ 1 (119 + 4 * p + w)) := by
  unfold f_X9_ofSheet
  rw [cj_n4, cj_gdN h (by decide), cj_tn (by omega)]
theorem m_ofP (τ : cj_S) {p w : Nat} (h : 159 + 6 * p + w < 183) : f_X9_ofPaper τ (nI p) (nI w) = some (τ 1 (159 + 6 * p + w)) := by
  unfold f_X9_ofPaper
  rw [cj_n6, cj_gdN h (by decide), cj_tn (by omega)]
theorem cj_in_eq (a b c : Int32) : f_X9_in a b c = f_X8_isWithin a b c := rfl
theorem cj_in_c (a b c : Int32) : (f_X8_isWithin a b c = some 0) ∨ (f_X8_isWithin a b c = some 1 ∧ ¬ a < b ∧ ¬ c < a) := by
  unfold f_X8_isWithin
  by_cases h : a < b
  · rw [if_pos h]; exact Or.inl rfl
  · rw [if_neg h]
    by_cases h2 : c < a
    · rw [if_pos h2]; exact Or.inl rfl
    · rw [if_neg h2]; exact Or.inr ⟨rfl, h, h2⟩
/-- inside two bounds: a small number -/
theorem cj_in_n {a b c : Int32} {lo hi : Nat} (hb : b = nI lo) (hc : c = nI hi) (hh : hi < 2147483648) (h1 : ¬ a < b) (h2 : ¬ c < a) (hlo : lo ≤ hi) : ∃ x, a = nI x ∧ lo ≤ x ∧ x ≤ hi := by
  subst hb
  subst hc
  have h0 : ¬ a < 0 := by
    intro q
    apply h1
    rw [Int32.lt_iff_toInt_lt] at q ⊢
    rw [nI_toInt (by omega)]
    have : (0 : Int32).toInt = 0 := rfl
    omega
  obtain ⟨x, hx, rfl⟩ := nI_of h0
  rw [nI_ltI (by omega) (by omega)] at h1 h2
  exact ⟨x, rfl, by omega, by omega⟩
theorem cj_has_eq {σ τ : cj_S} (h : σ 1 0 = τ 1 0) (a : Int32) : f_X3_has σ a = f_X9_isPerson τ a := by
  unfold f_X3_has f_X9_isPerson
  rw [h]
theorem cj_per_c {τ : cj_S} {N : Nat} (h : τ 1 0 = nI N) (hN : N ≤ 6) (a : Int32) : f_X9_isPerson τ a = some 0 ∨ ∃ p, p < N ∧ a = nI p ∧ f_X9_isPerson τ a = some 1 := by
  unfold f_X9_isPerson
  rw [h]
  rcases pk_ix a (n := N) (by omega) with q | q | ⟨j, q, rfl⟩
  · rw [if_pos q]; exact Or.inl rfl
  · by_cases h0 : a < 0
    · rw [if_pos h0]; exact Or.inl rfl
    · rw [if_neg h0, if_pos q]; exact Or.inl rfl
  · refine Or.inr ⟨j, q, rfl, ?_⟩
    rw [if_neg (nI_pos (by omega)), if_neg (nI_ge q (by omega))]
theorem cj_hap_eq {σ τ : cj_S} (h : σ 14 0 = τ 1 1) (a : Int32) : f_X2_has σ a = f_X9_isPaper τ a := by
  unfold f_X2_has f_X9_isPaper
  rw [h]
theorem cj_pap_c {τ : cj_S} {N : Nat} (h : τ 1 1 = nI N) (hN : N ≤ 4) (a : Int32) : f_X9_isPaper τ a = some 0 ∨ ∃ p, p < N ∧ a = nI p ∧ f_X9_isPaper τ a = some 1 := by
  unfold f_X9_isPaper
  rw [h]
  rcases pk_ix a (n := N) (by omega) with q | q | ⟨j, q, rfl⟩
  · rw [if_pos q]; exact Or.inl rfl
  · by_cases h0 : a < 0
    · rw [if_pos h0]; exact Or.inl rfl
    · rw [if_neg h0, if_pos q]; exact Or.inl rfl
  · refine Or.inr ⟨j, q, rfl, ?_⟩
    rw [if_neg (nI_pos (by omega)), if_neg (nI_ge q (by omega))]
section CJS
variable {N : Nat} {σ τ : cj_S}
theorem cj_ver_eq (h : cj_Rq N σ (τ 1)) (hN : N ≤ 6) {p : Nat} (hp : p < N) : f_X0_hasVerdict σ (nI p) = f_X9_hasVerdict τ (nI p) ∧ ∃ r, f_X9_hasVerdict τ (nI p) = some r := by
  have e4 : f_X9_of τ (nI p) 4 = some (τ 1 (15 + 18 * p)) := by
    have := m_of τ (p := p) (w := 4) (by omega)
    rw [show 11 + 18 * p + 4 = 15 + 18 * p by omega] at this
    exact this
  unfold f_X0_hasVerdict f_X9_hasVerdict f_X0_day f_X9_day
  rw [cj_gdN (by omega) (by decide), cj_bd1, e4, cj_bd1, cj_bd1, cj_tn (by omega), h.rp (k := 6) ⟨by decide, by decide⟩ (by omega) (fun _ => hp), h.r0.2.2.1]
  refine ⟨rfl, ?_⟩
  by_cases q : τ 1 (9 + 6 + 18 * p) = τ 1 4 / 300
  · exact ⟨1, if_pos q⟩
  · exact ⟨0, if_neg q⟩
/-- who is hidden -/
theorem cj_hid_loop (h : cj_Rq N σ (τ 1)) (h0 : τ 1 0 = nI N) (hN : N ≤ 6) {p : Nat} (hp : p < N) : ∀ (k i n n' : Nat), i + k = N → k < n → k < n' →
    ∃ b, f_X3_seenAside_L2 (nI p) σ n (nI i) = some b ∧ ((b = 2 ∧ f_X9_isHidden_L4 (nI p) τ n' 0 (nI i) = some 0) ∨ (b = 0 ∧ f_X9_isHidden_L4 (nI p) τ n' 0 (nI i) = some 1)) := by
  have stay : ∀ (k i n : Nat), i + k = N → k < n → f_X9_isHidden_L4 (nI p) τ n 1 (nI i) = some 1 := by
    intro k
    induction k with
    | zero =>
      intro i n hi hn
      obtain ⟨n, rfl⟩ : ∃ x, n = x + 1 := ⟨n - 1, by omega⟩
      rw [f_X9_isHidden_L4, h0, if_pos (nI_le (by omega) (by omega)), cj_gpT (Or.inr rfl)]
    | succ k ih =>
      intro i n hi hn
      obtain ⟨n, rfl⟩ : ∃ x, n = x + 1 := ⟨n - 1, by omega⟩
      rw [f_X9_isHidden_L4, h0, if_neg (nI_ge (by omega) (by omega)), if_neg (by decide), nI_1]
      exact ih (i + 1) n (by omega) (by omega)
  intro k
  induction k with
  | zero =>
    intro i n n' hi hn hn'
    obtain ⟨n, rfl⟩ : ∃ x, n = x + 1 := ⟨n - 1, by omega⟩
    obtain ⟨n', rfl⟩ : ∃ x, n' = x + 1 := ⟨n' - 1, by omega⟩
    refine ⟨2, ?_, Or.inl ⟨rfl, ?_⟩⟩
    · rw [f_X3_seenAside_L2, h.r1, h0, if_pos (nI_le (by omega) (by omega))]
    · rw [f_X9_isHidden_L4, h0, if_pos (nI_le (by omega) (by omega)), cj_gpT (Or.inl rfl)]
  | succ k ih =>
    intro i n n' hi hn hn'
    obtain ⟨n, rfl⟩ : ∃ x, n = x + 1 := ⟨n - 1, by omega⟩
    obtain ⟨n', rfl⟩ : ∃ x, n' = x + 1 := ⟨n' - 1, by omega⟩
    have e1 : ∀ q, q < N → f_X9_of τ (nI q) 1 = some (τ 1 (9 + 3 + 18 * q)) := fun q hq => by
      have := m_of τ (p := q) (w := 1) (by omega)
      rw [show 11 + 18 * q + 1 = 9 + 3 + 18 * q by omega] at this
      exact this
    have e0 : ∀ q, q < N → f_X9_of τ (nI q) 0 = some (τ 1 (9 + 2 + 18 * q)) := fun q hq => by
      have := m_of τ (p := q) (w := 0) (by omega)
      rw [show 11 + 18 * q + 0 = 9 + 2 + 18 * q by omega] at this
      exact this
    rw [f_X3_seenAside_L2, f_X9_isHidden_L4, h.r1, h0, if_neg (nI_ge (by omega) (by omega)), if_neg (nI_ge (by omega) (by omega)), if_pos rfl, cj_gdN (by omega) (by decide), cj_gdN (by omega) (by decide), e1 i (by omega), cj_bd1, e1 p hp, cj_bd1, cj_tn (by omega), cj_tn (by omega), h.rp (k := 3) ⟨by decide, by decide⟩ (by omega) (by omega), h.rp (k := 3) ⟨by decide, by decide⟩ (by omega) (by omega)]
    by_cases c1 : τ 1 (9 + 3 + 18 * i) = τ 1 (9 + 3 + 18 * p)
    · rw [if_pos c1, if_pos c1, cj_gdN (by omega) (by decide), cj_gdN (by omega) (by decide), e0 i (by omega), cj_bd1, e0 p hp, cj_bd1, h.rp (k := 2) ⟨by decide, by decide⟩ (by omega) (by omega), h.rp (k := 2) ⟨by decide, by decide⟩ (by omega) (by omega)]
      by_cases c2 : τ 1 (9 + 2 + 18 * p) ≤ τ 1 (9 + 2 + 18 * i)
      · rw [if_pos c2, if_pos c2, nI_1]
        exact ih (i + 1) n n' (by omega) (by omega) (by omega)
      · rw [if_neg c2, if_neg c2, nI_1]
        exact ⟨0, rfl, Or.inr ⟨rfl, stay k (i + 1) n' (by omega) (by omega)⟩⟩
    · rw [if_neg c1, if_neg c1, nI_1]
      exact ih (i + 1) n n' (by omega) (by omega) (by omega)
theorem cj_feat_eq (τ : cj_S) (y1 y2 : Int32) : ∀ (n : Nat) (x3 x4 : Int32), f_X9_seenAt_L22 y1 y2 τ n x3 x4 = f_X3_features_L5 y1 y2 n x3 x4 := by
  intro n
  induction n with
  | zero => intro x3 x4; rfl
  | succ n ih =>
    intro x3 x4
    rw [f_X9_seenAt_L22, f_X3_features_L5]
    simp only [cj_lt1, ih]
def cj_small (x : Option Int32) (n : Nat) : Bool := match x with
  | some v => decide (v = nI v.toNatClampNeg) && decide (v.toNatClampNeg < n)
  | none => false
theorem cj_small_s {x : Option Int32} {n : Nat} (h : cj_small x n = true) : ∃ v, v < n ∧ x = some (nI v) := by
  match x, h with
  | some v, h =>
    unfold cj_small at h
    simp only [Bool.and_eq_true, decide_eq_true_eq] at h
    exact ⟨v.toNatClampNeg, h.2, congrArg some h.1⟩
theorem cj_feat_b : ((List.range 12).all fun a => cj_small (f_X3_features (nI a) 0) 4096 && cj_small (f_X3_features (nI a) 2) 4096) = true := by decide +kernel
theorem cj_feat_v {a : Nat} (ha : a < 12) {b : Int32} (hb : b = 2 ∨ b = 0) : ∃ v, v < 4096 ∧ f_X3_features (nI a) b = some (nI v) := by
  have h := List.all_eq_true.mp cj_feat_b a (List.mem_range.mpr ha)
  rw [Bool.and_eq_true] at h
  rcases hb with rfl | rfl
  · exact cj_small_s h.2
  · exact cj_small_s h.1
/-- what is seen of a person at an angle -/
theorem cj_seenAt_eq (h : cj_Rq N σ (τ 1)) (h0 : τ 1 0 = nI N) (hN : N ≤ 6) {p : Nat} (hp : p < N) : ∃ b, (b = 2 ∨ b = 0) ∧ f_X3_seenAside σ (nI p) = some b ∧ ∀ a, f_X9_seenAt τ (nI p) a = f_X3_features a b := by
  obtain ⟨b, h1, h2⟩ := cj_hid_loop h h0 hN hp N 0 cj_FU cj_FU (by omega) (by unfold cj_FU; omega) (by unfold cj_FU; omega)
  rcases h2 with ⟨rfl, h2⟩ | ⟨rfl, h2⟩
  · refine ⟨2, Or.inl rfl, h1, fun a => ?_⟩
    unfold f_X9_seenAt f_X9_isHidden f_X3_features
    have h2 : f_X9_isHidden_L4 (nI p) τ cj_FU 0 0 = some 0 := h2
    rw [h2, cj_bd1, cj_lt1, if_pos rfl]
    exact cj_feat_eq τ a 2 _ _ _
  · refine ⟨0, Or.inr rfl, h1, fun a => ?_⟩
    unfold f_X9_seenAt f_X9_isHidden f_X3_features
    have h2 : f_X9_isHidden_L4 (nI p) τ cj_FU 0 0 = some 1 := h2
    rw [h2, cj_bd1, cj_lt1, if_neg (by decide)]
    exact cj_feat_eq τ a 0 _ _ _
end CJS
