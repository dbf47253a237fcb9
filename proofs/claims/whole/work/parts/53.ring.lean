/-! copies, the ring and the stack of pasts, one change -/
theorem cj_uro {σ : cj_S} {k a : Nat} {f : Nat → Int32} (h : (a == k) = false) : cj_upr σ k f a = σ a := cj_upr_o (by simpa using h)
theorem cj_cpy {f g : Nat → Int32} {n j : Nat} (h : j < n) : va_cpy f g 0 0 n j = f j := by
  rw [pk_cpy_in (Nat.zero_le j) (by omega), Nat.zero_add, Nat.sub_zero]
theorem cj_RX.eq {N : Nat} {σ σ' : cj_S} {m m' : Nat → Int32} (h : cj_RX N σ m) (e : ∀ k j, cj_dm k j → σ' k j = σ k j) (em : ∀ i, i < 183 → m' i = m i) : cj_RX N σ' m' := by
  obtain ⟨h1, h2, h3, h4, h5, h6⟩ := h
  refine ⟨h1, (em 0 (by omega)).trans h2, fun k j hd a b c => ?_, fun j a b => ?_, fun j a b => ?_, fun q hq => ?_⟩
  · rw [e k j hd, em _ (cj_ix_iv k (cj_dm_lt hd).1 j (cj_dm_lt hd).2 hd).2.2]
    exact h3 k j hd a b c
  · rw [e 6 j (by unfold cj_dm; omega)]
    exact h4 j a b
  · rw [e 8 j (by unfold cj_dm; omega)]
    exact h5 j a b
  · rw [e 19 q (by unfold cj_dm; omega), em _ (by omega), em _ (by omega)]
    exact h6 q hq
theorem cj_WF.eq {B T N : Nat} {m m' : Nat → Int32} (h : cj_WF B T N m) (hN : N ≤ 6) (em : ∀ i, i < 183 → m' i = m i) : cj_WF B T N m' := by
  obtain ⟨w1, w2, w3, w4, w5, w6, w7, w8, w9⟩ := cj_WFi.mp h
  exact cj_WFi.mpr ⟨w1.cg (em _ (by omega)) (fun q hq => em _ (by omega)) (fun q hq => em _ (by omega)), w2.cg (Nat.le_refl _) (Nat.le_refl _) (em _ (by omega)) (em _ (by omega)) (em _ (by omega)) (em _ (by omega)) (fun q hq => em _ (by omega)) (fun q hq => em _ (by omega)) (fun q hq => em _ (by omega)), w3.cg (Nat.le_refl _) (em _ (by omega)), w4.cg (Nat.le_refl _) (em _ (by omega)), w5.cg (em _ (by omega)), w6.cg (em _ (by omega)), w7.cg (em _ (by omega)), w8.cg (fun q hq => em _ (by omega)) (fun q hq => em _ (by omega)), w9.cg (Nat.le_refl _) (fun q hq f hf => em _ (by omega))⟩
theorem cj_RC.eq {B T : Nat} {σ σ' : cj_S} {m m' : Nat → Int32} (h : cj_RC B T σ m) (e : ∀ k j, cj_dm k j → σ' k j = σ k j) (em : ∀ i, i < 183 → m' i = m i) : cj_RC B T σ' m' := by
  obtain ⟨N, hX, hW⟩ := h.x
  exact (hX.eq e em).c (hW.eq hX.1 em)
theorem cj_copyF {gd gs : Nat} (hg : ¬ gs = gd) (μ : cj_Mm) : ∃ X, f_X0_copyFrom gd gs μ = some (cj_upG μ gd X) ∧ ∀ k j, cj_dm k j → X k j = μ gs k j := by
  unfold f_X0_copyFrom f_X3_copyFrom f_X6_copyFrom f_X2_copyFrom
  simp only [cj_bd1, cj_lt1, cj_upG_s, cj_upG_o hg, cj_upG_u, cj_uro, cj_upr_s, cj_o, Nat.reduceBEq]
  refine ⟨_, rfl, fun k j hd => ?_⟩
  rcases hd with ⟨rfl, h1, h2⟩ | ⟨rfl, rfl⟩ | ⟨rfl, h⟩ | ⟨rfl, rfl⟩ | ⟨h1, h2, h⟩ | ⟨rfl, h⟩ | ⟨h1, h2, h⟩ | ⟨h1, h2, h⟩
  · have : j = 3 ∨ j = 4 ∨ j = 5 ∨ j = 6 ∨ j = 7 ∨ j = 8 ∨ j = 9 := by omega
    rcases this with rfl | rfl | rfl | rfl | rfl | rfl | rfl <;> simp only [cj_s, cj_uo, pk_us, Nat.reduceBEq]
  · simp only [cj_s, cj_o, cj_uro, cj_uo, pk_us, Nat.reduceBEq]
  · have : j = 0 ∨ j = 1 := by omega
    rcases this with rfl | rfl <;> simp only [cj_s, cj_o, cj_uro, cj_uo, pk_us, Nat.reduceBEq]
  · simp only [cj_s, cj_o, cj_uro, cj_uo, pk_us, Nat.reduceBEq]
  · have : k = 2 ∨ k = 3 ∨ k = 4 ∨ k = 5 ∨ k = 6 ∨ k = 7 := by omega
    rcases this with rfl | rfl | rfl | rfl | rfl | rfl <;> simp only [cj_s, cj_o, cj_uro, cj_upr_s, cj_cpy h, Nat.reduceBEq]
  · simp only [cj_s, cj_o, cj_uro, cj_upr_s, cj_cpy h, Nat.reduceBEq]
  · have : k = 10 ∨ k = 11 ∨ k = 12 ∨ k = 13 := by omega
    rcases this with rfl | rfl | rfl | rfl <;> simp only [cj_s, cj_o, cj_uro, cj_upr_s, cj_cpy h, Nat.reduceBEq]
  · have : k = 15 ∨ k = 16 ∨ k = 17 ∨ k = 18 ∨ k = 19 ∨ k = 20 := by omega
    rcases this with rfl | rfl | rfl | rfl | rfl | rfl <;> simp only [cj_s, cj_o, cj_uro, cj_upr_s, cj_cpy h, Nat.reduceBEq]
theorem cj_l59 (K : cj_S → Option cj_S) {h : Nat} (hh : h ≤ 3) : ∀ (k x n : Nat) (s : cj_S), x + k = 183 → k < n → s 0 4 = nI h → ∃ s', f_X9_changes_L59 K n (nI x) s = K s' ∧ ∀ r j, s' r j = if r = 2 ∧ 183 * h + x ≤ j ∧ j < 183 * h + 183 then s 1 (j - 183 * h) else s r j := by
  intro k
  induction k with
  | zero =>
    intro x n s hx hn h4
    obtain ⟨n, rfl⟩ : ∃ x, n = x + 1 := ⟨n - 1, by omega⟩
    have : x = 183 := by omega
    subst this
    refine ⟨s, ?_, fun r j => ?_⟩
    · rw [f_X9_changes_L59, if_pos (by decide)]
    · rw [if_neg (by omega)]
  | succ k ih =>
    intro x n s hx hn h4
    obtain ⟨n, rfl⟩ : ∃ x, n = x + 1 := ⟨n - 1, by omega⟩
    have e : (183 : Int32) * nI h + nI x = nI (183 * h + x) := by rw [show (183 : Int32) = nI 183 from rfl, pk_mul, nI_add]
    obtain ⟨s', r1, r2⟩ := ih (x + 1) n (cj_up2 s 2 (183 * h + x) (s 1 x)) (by omega) (by omega) (by rw [cj_at2, if_neg (by omega), h4])
    refine ⟨s', ?_, fun r j => ?_⟩
    · rw [f_X9_changes_L59, if_neg (show ¬ 183 ≤ nI x from nI_ge (a := x) (b := 183) (by omega) (by omega)), h4, e, cj_gdN (by omega) (by decide), cj_gdN (by omega) (by decide), cj_tn (by omega), cj_tn (by omega), cj_lt1, nI_1]
      exact r1
    · rw [r2, cj_at2, cj_at2]
      by_cases c : r = 2 ∧ 183 * h + (x + 1) ≤ j ∧ j < 183 * h + 183
      · rw [if_pos c, if_neg (by omega), if_pos (by omega)]
      · rw [if_neg c]
        by_cases d : r = 2 ∧ j = 183 * h + x
        · rw [if_pos d, if_pos (by omega), d.2, show 183 * h + x - 183 * h = x by omega]
        · rw [if_neg d, if_neg (by omega)]
theorem cj_l18 (K : cj_S → Option cj_S) : ∀ (k x n : Nat) (s : cj_S), x + k = 549 → k < n → ∃ s', f_X9_changes_L18 K n (nI x) s = K s' ∧ ∀ r j, s' r j = if r = 2 ∧ x ≤ j ∧ j < 549 then s 2 (j + 183) else s r j := by
  intro k
  induction k with
  | zero =>
    intro x n s hx hn
    obtain ⟨n, rfl⟩ : ∃ x, n = x + 1 := ⟨n - 1, by omega⟩
    have : x = 549 := by omega
    subst this
    refine ⟨s, ?_, fun r j => ?_⟩
    · rw [f_X9_changes_L18, if_pos (by decide)]
    · rw [if_neg (by omega)]
  | succ k ih =>
    intro x n s hx hn
    obtain ⟨n, rfl⟩ : ∃ x, n = x + 1 := ⟨n - 1, by omega⟩
    have e : nI x + (183 : Int32) = nI (x + 183) := by rw [show (183 : Int32) = nI 183 from rfl, nI_add]
    obtain ⟨s', r1, r2⟩ := ih (x + 1) n (cj_up2 s 2 x (s 2 (x + 183))) (by omega) (by omega)
    refine ⟨s', ?_, fun r j => ?_⟩
    · rw [f_X9_changes_L18, if_neg (show ¬ 549 ≤ nI x from nI_ge (a := x) (b := 549) (by omega) (by omega)), e, cj_gdN (by omega) (by decide), cj_gdN (by omega) (by decide), cj_tn (by omega), cj_tn (by omega), cj_lt1, nI_1]
      exact r1
    · rw [r2, cj_at2, cj_at2]
      by_cases c : r = 2 ∧ x + 1 ≤ j ∧ j < 549
      · rw [if_pos c, if_neg (by omega), if_pos (by omega)]
      · rw [if_neg c]
        by_cases d : r = 2 ∧ j = x
        · rw [if_pos d, if_pos (by omega), d.2]
        · rw [if_neg d, if_neg (by omega)]
theorem cj_chg {τ : cj_S} {h : Nat} (h5 : τ 0 5 = 0) (h4 : τ 0 4 = nI h) (hh : h ≤ 4) : ∃ τ1, f_X9_changes τ = some τ1 ∧ τ1 1 = τ 1 ∧ τ1 5 = τ 5 ∧ (∀ j, j ≠ 4 → τ1 0 j = τ 0 j) ∧ τ1 0 4 = nI (if h = 4 then 4 else h + 1) ∧ (∀ j, j < 183 → τ1 2 (183 * (if h = 4 then 3 else h) + j) = τ 1 j) ∧ (h = 4 → ∀ i, i < 3 → ∀ j, j < 183 → τ1 2 (183 * i + j) = τ 2 (183 * (i + 1) + j)) ∧ (h < 4 → ∀ i, i < h → ∀ j, j < 183 → τ1 2 (183 * i + j) = τ 2 (183 * i + j)) := by
  unfold f_X9_changes
  rw [if_pos h5, cj_lt1, h4]
  by_cases c : h = 4
  · subst c
    rw [if_pos (show nI 4 = 4 from rfl)]
    simp only [if_true]
    have A := fun K => cj_l18 K 549 0 cj_FU τ (by omega) (by unfold cj_FU; omega)
    obtain ⟨s1, a1, a2⟩ := A (fun (s13 : cj_S) => cj_lt (cj_up2 s13 0 4 ((s13 0 4) - 1)) (fun (s14 : cj_S) => f_X9_changes_L59 (fun (s7 : cj_S) => cj_lt (cj_up2 s7 0 4 ((s7 0 4) + 1)) (fun (s8 : cj_S) => some s8)) cj_FU 0 s14))
    have s14 : s1 0 4 = nI 4 := by rw [a2, if_neg (by omega), h4]
    obtain ⟨s2, b1, b2⟩ := cj_l59 (fun (s7 : cj_S) => cj_lt (cj_up2 s7 0 4 ((s7 0 4) + 1)) (fun (s8 : cj_S) => some s8)) (h := 3) (by omega) 183 0 cj_FU (cj_up2 s1 0 4 (nI 3)) (by omega) (by unfold cj_FU; omega) (by rw [cj_at2, if_pos ⟨rfl, rfl⟩])
    have s24 : s2 0 4 = nI 3 := by rw [b2, if_neg (by omega), cj_at2, if_pos ⟨rfl, rfl⟩]
    have b3 : ∀ r j, s2 r j = if r = 2 ∧ 549 ≤ j ∧ j < 732 then cj_up2 s1 0 4 (nI 3) 1 (j - 549) else cj_up2 s1 0 4 (nI 3) r j := b2
    have a3 : ∀ r j, s1 r j = if r = 2 ∧ j < 549 then τ 2 (j + 183) else τ r j := by
      intro r j
      rw [a2]
      by_cases c : r = 2 ∧ j < 549
      · rw [if_pos c, if_pos (by omega)]
      · rw [if_neg c, if_neg (by omega)]
    have Q : ∀ r j, cj_up2 s2 0 4 (nI 4) r j = if r = 0 ∧ j = 4 then nI 4 else if r = 2 ∧ 549 ≤ j ∧ j < 732 then τ 1 (j - 549) else if r = 2 ∧ j < 549 then τ 2 (j + 183) else τ r j := by
      intro r j
      rw [cj_at2]
      by_cases c1 : r = 0 ∧ j = 4
      · rw [if_pos c1, if_pos c1]
      · rw [if_neg c1, if_neg c1, b3]
        by_cases c2 : r = 2 ∧ 549 ≤ j ∧ j < 732
        · rw [if_pos c2, if_pos c2, cj_at2, if_neg (by omega), a3, if_neg (by omega)]
        · rw [if_neg c2, if_neg c2, cj_at2, if_neg c1, a3]
    refine ⟨cj_up2 s2 0 4 (nI 4), ?_, ?_, ?_, fun j hj => ?_, ?_, fun j hj => ?_, fun _ i hi j hj => ?_, fun q => by omega⟩
    · have a1 : f_X9_changes_L18 _ cj_FU 0 τ = _ := a1
      refine a1.trans ?_
      have b1 : f_X9_changes_L59 _ cj_FU 0 _ = _ := b1
      rw [s14, cj_lt1, show nI 4 - 1 = nI 3 from rfl, b1, s24, cj_lt1]
      rfl
    · funext j
      rw [Q, if_neg (by omega), if_neg (by omega), if_neg (by omega)]
    · funext j
      rw [Q, if_neg (by omega), if_neg (by omega), if_neg (by omega)]
    · rw [Q, if_neg (by omega), if_neg (by omega), if_neg (by omega)]
    · rw [Q, if_pos ⟨rfl, rfl⟩]
    · rw [Q, if_neg (by omega), if_pos (by omega), show 183 * 3 + j - 549 = j by omega]
    · rw [Q, if_neg (by omega), if_neg (by omega), if_pos (by omega), show 183 * i + j + 183 = 183 * (i + 1) + j by omega]
  · rw [if_neg (show ¬ nI h = 4 from fun q => c ((nI_eq (b := 4) (by omega) (by decide)).mp q)), if_neg c, if_neg c]
    obtain ⟨s2, b1, b2⟩ := cj_l59 (fun (s7 : cj_S) => cj_lt (cj_up2 s7 0 4 ((s7 0 4) + 1)) (fun (s8 : cj_S) => some s8)) (h := h) (by omega) 183 0 cj_FU τ (by omega) (by unfold cj_FU; omega) h4
    have s24 : s2 0 4 = nI h := by rw [b2, if_neg (by omega), h4]
    refine ⟨cj_up2 s2 0 4 (nI (h + 1)), ?_, ?_, ?_, fun j hj => ?_, ?_, fun j hj => ?_, fun q => absurd q c, fun _ i hi j hj => ?_⟩
    · have b1 : f_X9_changes_L59 _ cj_FU 0 _ = _ := b1
      show f_X9_changes_L59 _ cj_FU 0 τ = _
      rw [b1, s24, cj_lt1, nI_1]
    · funext j
      rw [cj_at2, if_neg (by omega), b2, if_neg (by omega)]
    · funext j
      rw [cj_at2, if_neg (by omega), b2, if_neg (by omega)]
    · rw [cj_at2, if_neg (by omega), b2, if_neg (by omega)]
    · rw [cj_at2, if_pos ⟨rfl, rfl⟩]
    · rw [cj_at2, if_neg (by omega), b2, if_pos (by omega), show 183 * h + j - 183 * h = j by omega]
    · have : 183 * i + j < 183 * h := by omega
      rw [cj_at2, if_neg (by omega), b2, if_neg (by omega)]
