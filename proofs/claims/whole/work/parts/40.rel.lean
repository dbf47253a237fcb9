/-! numbers, and when a court's memory and the reference's row say the same -/
theorem cj_bd1 {α β : Type} (a : α) (k : α → Option β) : cj_bd (some a) k = k a := rfl
theorem cj_bp1 {α β γ : Type} (a : α) (b : β) (k : α → β → Option γ) : cj_bp (some (a, b)) k = k a b := rfl
theorem cj_lt1 {α β : Type} (v : α) (K : α → β) : cj_lt v K = K v := rfl
theorem cj_gdN {α : Type} {i n : Nat} {K : Option α} (h : i < n) (hn : n < 2147483648) : cj_gd (nI i) n K = K := by
  unfold cj_gd
  rw [if_neg (vp_in_nI h hn)]
theorem cj_gpT {α : Type} {p : Prop} [Decidable p] {K : Option α} (h : p) : cj_gp p K = K := if_pos h
theorem cj_tn {i : Nat} (h : i < 2147483648) : (nI i).toNatClampNeg = i := nI_clamp h
theorem cj_n18 (p w : Nat) : (11 : Int32) + 18 * nI p + nI w = nI (11 + 18 * p + w) := by
  rw [show (18 : Int32) = nI 18 from rfl, show (11 : Int32) = nI 11 from rfl, pk_mul, nI_add, nI_add]
theorem cj_n4 (p w : Nat) : (119 : Int32) + 4 * nI p + nI w = nI (119 + 4 * p + w) := by
  rw [show (4 : Int32) = nI 4 from rfl, show (119 : Int32) = nI 119 from rfl, pk_mul, nI_add, nI_add]
theorem cj_n6 (p w : Nat) : (159 : Int32) + 6 * nI p + nI w = nI (159 + 6 * p + w) := by
  rw [show (6 : Int32) = nI 6 from rfl, show (159 : Int32) = nI 159 from rfl, pk_mul, nI_add, nI_add]
/-- which place of the reference's row a court's place is -/
def cj_ix (k j : Nat) : Nat :=
  if k = 0 then (if j = 3 then 9 else if j = 4 then 10 else if j = 5 then 4 else if j = 6 then 5 else if j = 7 then 6 else if j = 8 then 7 else 8)
  else if k = 1 then 0 else if k = 9 then 2 + j else if k = 14 then 1
  else if k ≤ 7 then 9 + k + 18 * j else if k = 8 then 17 + 18 * (j / 12) + j % 12 else if k ≤ 13 then 109 + k + 4 * j else 144 + k + 6 * j
abbrev cj_dm (k j : Nat) : Prop := (k = 0 ∧ 3 ≤ j ∧ j ≤ 9) ∨ (k = 1 ∧ j = 0) ∨ (k = 9 ∧ j < 2) ∨ (k = 14 ∧ j = 0) ∨ (2 ≤ k ∧ k ≤ 7 ∧ j < 6) ∨ (k = 8 ∧ j < 72) ∨ (10 ≤ k ∧ k ≤ 13 ∧ j < 10) ∨ (15 ≤ k ∧ k ≤ 20 ∧ j < 4)
def cj_ivk (i : Nat) : Nat := if i = 0 then 1 else if i = 1 then 14 else if i < 4 then 9 else if i < 11 then 0 else if i < 119 then (if (i - 11) % 18 < 6 then 2 + (i - 11) % 18 else 8) else if i < 159 then 10 + (i - 119) % 4 else 15 + (i - 159) % 6
def cj_ivj (i : Nat) : Nat := if i < 4 then i - 2 else if i < 11 then (if i < 9 then i + 1 else i - 6) else if i < 119 then (if (i - 11) % 18 < 6 then (i - 11) / 18 else 12 * ((i - 11) / 18) + ((i - 11) % 18 - 6)) else if i < 159 then (i - 119) / 4 else (i - 159) / 6
theorem cj_ix_ivb : ((List.range 21).all fun k => (List.range 72).all fun j => !(decide (cj_dm k j)) || (decide (cj_ivk (cj_ix k j) = k) && decide (cj_ivj (cj_ix k j) = j) && decide (cj_ix k j < 183))) = true := by decide +kernel
theorem cj_ix_iv : ∀ k, k < 21 → ∀ j, j < 72 → cj_dm k j → cj_ivk (cj_ix k j) = k ∧ cj_ivj (cj_ix k j) = j ∧ cj_ix k j < 183 := by
  intro k hk j hj h
  have h1 := List.all_eq_true.mp (List.all_eq_true.mp cj_ix_ivb k (List.mem_range.mpr hk)) j (List.mem_range.mpr hj)
  rw [decide_eq_true h] at h1
  simp only [Bool.not_true, Bool.false_or, Bool.and_eq_true, decide_eq_true_eq] at h1
  exact ⟨h1.1.1, h1.1.2, h1.2⟩
theorem cj_dm_lt {k j : Nat} (h : cj_dm k j) : k < 21 ∧ j < 72 := by
  unfold cj_dm at h
  omega
theorem cj_ix_inj {k j k' j' : Nat} (h : cj_dm k j) (h' : cj_dm k' j') (e : cj_ix k j = cj_ix k' j') : k = k' ∧ j = j' := by
  have a := cj_ix_iv k (cj_dm_lt h).1 j (cj_dm_lt h).2 h
  have b := cj_ix_iv k' (cj_dm_lt h').1 j' (cj_dm_lt h').2 h'
  rw [e] at a
  exact ⟨a.1.symm.trans b.1, a.2.1.symm.trans b.2.1⟩
def cj_Rq (N : Nat) (σ : cj_S) (m : Nat → Int32) : Prop := ∀ k j, cj_dm k j → k ≠ 19 → (k = 6 → j < N) → (k = 8 → j < 12 * N) → σ k j = m (cj_ix k j)
theorem cj_Rq.up {N : Nat} {σ : cj_S} {m : Nat → Int32} (h : cj_Rq N σ m) {k j : Nat} (hd : cj_dm k j) (v : Int32) : cj_Rq N (cj_up2 σ k j v) (upd m (cj_ix k j) v) := by
  intro k' j' hd' h1 h2 h3
  unfold cj_up2 cj_upr upd
  by_cases hk : k' = k
  · subst hk
    rw [if_pos rfl]
    by_cases hj : j' = j
    · subst hj
      rw [if_pos rfl, if_pos rfl]
    · rw [if_neg hj, if_neg (fun e => hj (cj_ix_inj hd' hd e).2)]
      exact h k' j' hd' h1 h2 h3
  · rw [if_neg hk, if_neg (fun e => hk (cj_ix_inj hd' hd e).1)]
    exact h k' j' hd' h1 h2 h3
/-- what is so of the reference's row: B bounds the sheets begun, T the minute -/
def cj_WF (B T N : Nat) (m : Nat → Int32) : Prop :=
  (∃ na, m 1 = nI na ∧ na ≤ 4 ∧ (∀ q, q < na → ∃ r, m (159 + 6 * q) = nI r ∧ 1 ≤ r ∧ r ≤ 20) ∧ (∀ q, na ≤ q → q < 4 → m (164 + 6 * q) = 0)) ∧
  (∃ ns bg sd pd, m 2 = nI ns ∧ ns ≤ 10 ∧ m 3 = nI bg ∧ bg ≤ B ∧ m 7 = nI sd ∧ m 8 = nI pd ∧ pd ≤ 480 * sd ∧ sd + ns ≤ bg ∧
    (∃ nm : Nat → Nat, ∀ k, k < ns → m (119 + 4 * k) = nI (nm k) ∧ nm k < bg ∧ ∀ i, i < k → nm i < nm k) ∧
    (∀ k, k < ns → (∃ p, p < N ∧ m (120 + 4 * k) = nI p) ∧ (∃ h, h < 4096 ∧ m (121 + 4 * k) = nI h))) ∧
  (∃ t, m 4 = nI t ∧ t ≤ T) ∧ (m 5 = (-1) ∨ ∃ p, p < N ∧ m 5 = nI p) ∧ (∃ d, m 6 = nI d ∧ d ≤ 3) ∧ (∃ a, m 9 = nI a ∧ 1 ≤ a ∧ a ≤ 200) ∧ (∃ a, m 10 = nI a ∧ a ≤ 60) ∧
  (∀ p, p < 6 → (∃ a, a < 12 ∧ m (13 + 18 * p) = nI a) ∧ (∃ a, a < 12 ∧ m (14 + 18 * p) = nI a)) ∧
  (∀ p, p < N → ∀ f, f < 12 → m (17 + 18 * p + f) = (-1) ∨ ∃ s, s ≤ T ∧ m (17 + 18 * p + f) = nI s)
/-- a court's memory says what the reference's row says -/
def cj_RC (B T : Nat) (σ : cj_S) (m : Nat → Int32) : Prop := ∃ N, N ≤ 6 ∧ m 0 = nI N ∧ cj_Rq N σ m ∧ (∀ j, N ≤ j → j < 6 → σ 6 j = (-1)) ∧ (∀ j, 12 * N ≤ j → j < 72 → σ 8 j = (-1)) ∧ (∀ q, q < 4 → σ 19 q = m (163 + 6 * q) ∨ m (164 + 6 * q) = 0) ∧ cj_WF B T N m
theorem cj_WF.mono {B B' T T' N : Nat} {m : Nat → Int32} (h : cj_WF B T N m) (hB : B ≤ B') (hT : T ≤ T') : cj_WF B' T' N m := by
  obtain ⟨h1, ⟨ns, bg, sd, pd, a1, a2, a3, a4, a5⟩, ⟨t, b1, b2⟩, h4, h5, h6, h7, h8, h9⟩ := h
  exact ⟨h1, ⟨ns, bg, sd, pd, a1, a2, a3, Nat.le_trans a4 hB, a5⟩, ⟨t, b1, Nat.le_trans b2 hT⟩, h4, h5, h6, h7, h8, fun p hp f hf => (h9 p hp f hf).imp id (fun ⟨s, q1, q2⟩ => ⟨s, Nat.le_trans q1 hT, q2⟩)⟩
theorem cj_RC.mono {B B' T T' : Nat} {σ : cj_S} {m : Nat → Int32} (h : cj_RC B T σ m) (hB : B ≤ B') (hT : T ≤ T') : cj_RC B' T' σ m := by
  obtain ⟨N, h1, h2, h3, h4, h5, h6, h7⟩ := h
  exact ⟨N, h1, h2, h3, h4, h5, h6, h7.mono hB hT⟩
section CJR
variable {N : Nat} {σ : cj_S} {m : Nat → Int32}
theorem cj_Rq.r0 (h : cj_Rq N σ m) : σ 0 3 = m 9 ∧ σ 0 4 = m 10 ∧ σ 0 5 = m 4 ∧ σ 0 6 = m 5 ∧ σ 0 7 = m 6 ∧ σ 0 8 = m 7 ∧ σ 0 9 = m 8 :=
  ⟨h 0 3 (by decide) (by decide) (by omega) (by omega), h 0 4 (by decide) (by decide) (by omega) (by omega), h 0 5 (by decide) (by decide) (by omega) (by omega), h 0 6 (by decide) (by decide) (by omega) (by omega), h 0 7 (by decide) (by decide) (by omega) (by omega), h 0 8 (by decide) (by decide) (by omega) (by omega), h 0 9 (by decide) (by decide) (by omega) (by omega)⟩
theorem cj_Rq.r1 (h : cj_Rq N σ m) : σ 1 0 = m 0 := h 1 0 (by decide) (by decide) (by omega) (by omega)
theorem cj_Rq.r9 (h : cj_Rq N σ m) : σ 9 0 = m 2 := h 9 0 (by decide) (by decide) (by omega) (by omega)
theorem cj_Rq.r9b (h : cj_Rq N σ m) : σ 9 1 = m 3 := h 9 1 (by decide) (by decide) (by omega) (by omega)
theorem cj_Rq.r14 (h : cj_Rq N σ m) : σ 14 0 = m 1 := h 14 0 (by decide) (by decide) (by omega) (by omega)
theorem cj_Rq.rp (h : cj_Rq N σ m) {k p : Nat} (hk : 2 ≤ k ∧ k ≤ 7) (hp : p < 6) (h6 : k = 6 → p < N) : σ k p = m (9 + k + 18 * p) := by
  rw [h k p (Or.inr (Or.inr (Or.inr (Or.inr (Or.inl ⟨hk.1, hk.2, hp⟩))))) (by omega) h6 (by omega)]
  unfold cj_ix
  rw [if_neg (by omega), if_neg (by omega), if_neg (by omega), if_neg (by omega), if_pos hk.2]
theorem cj_Rq.rs (h : cj_Rq N σ m) {p f : Nat} (hp : p < N) (hN : N ≤ 6) (hf : f < 12) : σ 8 (12 * p + f) = m (17 + 18 * p + f) := by
  rw [h 8 (12 * p + f) (Or.inr (Or.inr (Or.inr (Or.inr (Or.inr (Or.inl ⟨rfl, by omega⟩)))))) (by omega) (by omega) (by omega)]
  unfold cj_ix
  rw [if_neg (by omega), if_neg (by omega), if_neg (by omega), if_neg (by omega), if_neg (by omega), if_pos rfl]
  congr 1
  omega
theorem cj_Rq.rk (h : cj_Rq N σ m) {k p : Nat} (hk : 10 ≤ k ∧ k ≤ 13) (hp : p < 10) : σ k p = m (109 + k + 4 * p) := by
  rw [h k p (Or.inr (Or.inr (Or.inr (Or.inr (Or.inr (Or.inr (Or.inl ⟨hk.1, hk.2, hp⟩))))))) (by omega) (by omega) (by omega)]
  unfold cj_ix
  rw [if_neg (by omega), if_neg (by omega), if_neg (by omega), if_neg (by omega), if_neg (by omega), if_neg (by omega), if_pos hk.2]
theorem cj_Rq.rq (h : cj_Rq N σ m) {k p : Nat} (hk : 15 ≤ k ∧ k ≤ 20 ∧ k ≠ 19) (hp : p < 4) : σ k p = m (144 + k + 6 * p) := by
  rw [h k p (Or.inr (Or.inr (Or.inr (Or.inr (Or.inr (Or.inr (Or.inr ⟨hk.1, hk.2.1, hp⟩))))))) hk.2.2 (by omega) (by omega)]
  unfold cj_ix
  rw [if_neg (by omega), if_neg (by omega), if_neg (by omega), if_neg (by omega), if_neg (by omega), if_neg (by omega), if_neg (by omega)]
end CJR
