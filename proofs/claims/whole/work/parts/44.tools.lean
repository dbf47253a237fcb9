/-! rows rewritten; what holds of a row, piece by piece -/
theorem cj_uu (τ : cj_S) (k : Nat) (m m' : Nat → Int32) : cj_upr (cj_upr τ k m) k m' = cj_upr τ k m' := by
  funext a
  unfold cj_upr
  by_cases h : a = k
  · rw [if_pos h, if_pos h]
  · rw [if_neg h, if_neg h, if_neg h]
theorem cj_ui (τ : cj_S) (k : Nat) : cj_upr τ k (τ k) = τ := by
  funext a
  unfold cj_upr
  by_cases h : a = k
  · rw [if_pos h, h]
  · rw [if_neg h]
theorem cj_u2 (τ : cj_S) (m : Nat → Int32) (j : Nat) (v : Int32) : cj_up2 (cj_upr τ 1 m) 1 j v = cj_upr τ 1 (upd m j v) := by
  unfold cj_up2
  rw [cj_uu, cj_upr_s]
theorem cj_uc (f : Nat → Int32) {i j : Nat} (h : i ≠ j) (v w : Int32) : upd (upd f i v) j w = upd (upd f j w) i v := by
  funext a
  unfold upd
  by_cases h1 : a = j
  · rw [if_pos h1, if_neg (fun e => h (e.symm.trans h1)), if_pos h1]
  · rw [if_neg h1]
    by_cases h2 : a = i
    · rw [if_pos h2, if_pos h2]
    · rw [if_neg h2, if_neg h2, if_neg h1]
theorem cj_uw (f : Nat → Int32) (i : Nat) (v w : Int32) : upd (upd f i v) i w = upd f i w := by
  funext a
  unfold upd
  by_cases h1 : a = i
  · rw [if_pos h1, if_pos h1]
  · rw [if_neg h1, if_neg h1, if_neg h1]
theorem n_of (τ : cj_S) (m : Nat → Int32) {p w : Nat} (h : 11 + 18 * p + w < 183) : f_X9_of (cj_upr τ 1 m) (nI p) (nI w) = some (m (11 + 18 * p + w)) := m_of (cj_upr τ 1 m) h
theorem n_sets (τ : cj_S) (m : Nat → Int32) {p w : Nat} (v : Int32) (h : 11 + 18 * p + w < 183) : f_X9_sets (cj_upr τ 1 m) (nI p) (nI w) v = some (cj_upr τ 1 (upd m (11 + 18 * p + w) v)) := by
  rw [m_sets (cj_upr τ 1 m) v h, cj_uu, cj_upr_s]
theorem n_ofS (τ : cj_S) (m : Nat → Int32) {p w : Nat} (h : 119 + 4 * p + w < 183) : f_X9_ofSheet (cj_upr τ 1 m) (nI p) (nI w) = some (m (119 + 4 * p + w)) := m_ofS (cj_upr τ 1 m) h
theorem n_ofP (τ : cj_S) (m : Nat → Int32) {p w : Nat} (h : 159 + 6 * p + w < 183) : f_X9_ofPaper (cj_upr τ 1 m) (nI p) (nI w) = some (m (159 + 6 * p + w)) := m_ofP (cj_upr τ 1 m) h
def cj_W1 (m : Nat → Int32) : Prop := ∃ na, m 1 = nI na ∧ na ≤ 4 ∧ (∀ q, q < na → ∃ r, m (159 + 6 * q) = nI r ∧ 1 ≤ r ∧ r ≤ 20) ∧ (∀ q, na ≤ q → q < 4 → m (164 + 6 * q) = 0)
def cj_W2 (B N : Nat) (m : Nat → Int32) : Prop := ∃ ns bg sd pd, m 2 = nI ns ∧ ns ≤ 10 ∧ m 3 = nI bg ∧ bg ≤ B ∧ m 7 = nI sd ∧ m 8 = nI pd ∧ pd ≤ 480 * sd ∧ sd + ns ≤ bg ∧
    (∃ nm : Nat → Nat, ∀ k, k < ns → m (119 + 4 * k) = nI (nm k) ∧ nm k < bg ∧ ∀ i, i < k → nm i < nm k) ∧
    (∀ k, k < ns → (∃ p, p < N ∧ m (120 + 4 * k) = nI p) ∧ (∃ h, h < 4096 ∧ m (121 + 4 * k) = nI h))
def cj_W3 (T : Nat) (m : Nat → Int32) : Prop := ∃ t, m 4 = nI t ∧ t ≤ T
def cj_W4 (N : Nat) (m : Nat → Int32) : Prop := m 5 = (-1) ∨ ∃ p, p < N ∧ m 5 = nI p
def cj_W5 (m : Nat → Int32) : Prop := ∃ d, m 6 = nI d ∧ d ≤ 3
def cj_W6 (m : Nat → Int32) : Prop := ∃ a, m 9 = nI a ∧ 1 ≤ a ∧ a ≤ 200
def cj_W7 (m : Nat → Int32) : Prop := ∃ a, m 10 = nI a ∧ a ≤ 60
def cj_W8 (m : Nat → Int32) : Prop := ∀ p, p < 6 → (∃ a, a < 12 ∧ m (13 + 18 * p) = nI a) ∧ (∃ a, a < 12 ∧ m (14 + 18 * p) = nI a)
def cj_W9 (T N : Nat) (m : Nat → Int32) : Prop := ∀ p, p < N → ∀ f, f < 12 → m (17 + 18 * p + f) = (-1) ∨ ∃ s, s ≤ T ∧ m (17 + 18 * p + f) = nI s
theorem cj_WFi {B T N : Nat} {m : Nat → Int32} : cj_WF B T N m ↔ cj_W1 m ∧ cj_W2 B N m ∧ cj_W3 T m ∧ cj_W4 N m ∧ cj_W5 m ∧ cj_W6 m ∧ cj_W7 m ∧ cj_W8 m ∧ cj_W9 T N m := Iff.rfl
section CJW
variable {B B' T T' N N' : Nat} {m m' : Nat → Int32}
theorem cj_W1.cg (h : cj_W1 m) (e1 : m' 1 = m 1) (e2 : ∀ q, q < 4 → m' (159 + 6 * q) = m (159 + 6 * q)) (e3 : ∀ q, q < 4 → m' (164 + 6 * q) = m (164 + 6 * q)) : cj_W1 m' := by
  obtain ⟨na, h1, h2, h3, h4⟩ := h
  refine ⟨na, e1.trans h1, h2, fun q hq => ?_, fun q h5 h6 => (e3 q h6).trans (h4 q h5 h6)⟩
  rw [e2 q (by omega)]
  exact h3 q hq
theorem cj_W2.cg (h : cj_W2 B N m) (hB : B ≤ B') (hN : N ≤ N') (e2 : m' 2 = m 2) (e3 : m' 3 = m 3) (e7 : m' 7 = m 7) (e8 : m' 8 = m 8) (f0 : ∀ k, k < 10 → m' (119 + 4 * k) = m (119 + 4 * k)) (f1 : ∀ k, k < 10 → m' (120 + 4 * k) = m (120 + 4 * k)) (f2 : ∀ k, k < 10 → m' (121 + 4 * k) = m (121 + 4 * k)) : cj_W2 B' N' m' := by
  obtain ⟨ns, bg, sd, pd, a1, a2, a3, a4, a5, a6, a7, a8, ⟨nm, a9⟩, a10⟩ := h
  refine ⟨ns, bg, sd, pd, e2.trans a1, a2, e3.trans a3, Nat.le_trans a4 hB, e7.trans a5, e8.trans a6, a7, a8, ⟨nm, fun k hk => ?_⟩, fun k hk => ?_⟩
  · rw [f0 k (by omega)]
    exact a9 k hk
  · rw [f1 k (by omega), f2 k (by omega)]
    obtain ⟨⟨p, g1, g2⟩, g3⟩ := a10 k hk
    exact ⟨⟨p, Nat.lt_of_lt_of_le g1 hN, g2⟩, g3⟩
theorem cj_W3.cg (h : cj_W3 T m) (hT : T ≤ T') (e : m' 4 = m 4) : cj_W3 T' m' := by
  obtain ⟨t, h1, h2⟩ := h
  exact ⟨t, e.trans h1, Nat.le_trans h2 hT⟩
theorem cj_W4.cg (h : cj_W4 N m) (hN : N ≤ N') (e : m' 5 = m 5) : cj_W4 N' m' := by
  rcases h with h | ⟨p, h1, h2⟩
  · exact Or.inl (e.trans h)
  · exact Or.inr ⟨p, Nat.lt_of_lt_of_le h1 hN, e.trans h2⟩
theorem cj_W5.cg (h : cj_W5 m) (e : m' 6 = m 6) : cj_W5 m' := by
  unfold cj_W5
  rw [e]
  exact h
theorem cj_W6.cg (h : cj_W6 m) (e : m' 9 = m 9) : cj_W6 m' := by
  unfold cj_W6
  rw [e]
  exact h
theorem cj_W7.cg (h : cj_W7 m) (e : m' 10 = m 10) : cj_W7 m' := by
  unfold cj_W7
  rw [e]
  exact h
theorem cj_W8.cg (h : cj_W8 m) (e1 : ∀ p, p < 6 → m' (13 + 18 * p) = m (13 + 18 * p)) (e2 : ∀ p, p < 6 → m' (14 + 18 * p) = m (14 + 18 * p)) : cj_W8 m' := by
  intro p hp
  rw [e1 p hp, e2 p hp]
  exact h p hp
theorem cj_W9.cg (h : cj_W9 T N m) (hT : T ≤ T') (e : ∀ p, p < N → ∀ f, f < 12 → m' (17 + 18 * p + f) = m (17 + 18 * p + f)) : cj_W9 T' N m' := by
  intro p hp f hf
  rw [e p hp f hf]
  exact (h p hp f hf).imp id (fun ⟨s, h1, h2⟩ => ⟨s, Nat.le_trans h1 hT, h2⟩)
/-- a place of no bounds -/
theorem cj_WF.fr (h : cj_WF B T N m) (hN : N ≤ 6) {i : Nat} (v : Int32) (hi : (11 ≤ i ∧ i < 119 ∧ ((i - 11) % 18 < 2 ∨ (i - 11) % 18 = 4 ∨ (i - 11) % 18 = 5)) ∨ (119 ≤ i ∧ i < 159 ∧ (i - 119) % 4 = 3) ∨ (159 ≤ i ∧ 1 ≤ (i - 159) % 6 ∧ (i - 159) % 6 ≤ 4)) : cj_WF B T N (upd m i v) := by
  obtain ⟨h1, h2, h3, h4, h5, h6, h7, h8, h9⟩ := cj_WFi.mp h
  exact cj_WFi.mpr ⟨h1.cg (pk_un (by omega)) (fun q hq => pk_un (by omega)) (fun q hq => pk_un (by omega)), h2.cg (Nat.le_refl _) (Nat.le_refl _) (pk_un (by omega)) (pk_un (by omega)) (pk_un (by omega)) (pk_un (by omega)) (fun q hq => pk_un (by omega)) (fun q hq => pk_un (by omega)) (fun q hq => pk_un (by omega)), h3.cg (Nat.le_refl _) (pk_un (by omega)), h4.cg (Nat.le_refl _) (pk_un (by omega)), h5.cg (pk_un (by omega)), h6.cg (pk_un (by omega)), h7.cg (pk_un (by omega)), h8.cg (fun q hq => pk_un (by omega)) (fun q hq => pk_un (by omega)), h9.cg (Nat.le_refl _) (fun q hq f hf => pk_un (by omega))⟩
/-- one bounded place -/
theorem cj_WF.ang (h : cj_WF B T N m) (hN : N ≤ 6) {p a : Nat} (hp : p < 6) (ha : a < 12) : cj_WF B T N (upd m (13 + 18 * p) (nI a)) := by
  obtain ⟨h1, h2, h3, h4, h5, h6, h7, h8, h9⟩ := cj_WFi.mp h
  refine cj_WFi.mpr ⟨h1.cg (pk_un (by omega)) (fun q hq => pk_un (by omega)) (fun q hq => pk_un (by omega)), h2.cg (Nat.le_refl _) (Nat.le_refl _) (pk_un (by omega)) (pk_un (by omega)) (pk_un (by omega)) (pk_un (by omega)) (fun q hq => pk_un (by omega)) (fun q hq => pk_un (by omega)) (fun q hq => pk_un (by omega)), h3.cg (Nat.le_refl _) (pk_un (by omega)), h4.cg (Nat.le_refl _) (pk_un (by omega)), h5.cg (pk_un (by omega)), h6.cg (pk_un (by omega)), h7.cg (pk_un (by omega)), fun q hq => ?_, h9.cg (Nat.le_refl _) (fun q hq f hf => pk_un (by omega))⟩
  rw [pk_un (show 14 + 18 * q ≠ 13 + 18 * p by omega)]
  by_cases e : q = p
  · subst e
    exact ⟨⟨a, ha, pk_us⟩, (h8 q hq).2⟩
  · rw [pk_un (show 13 + 18 * q ≠ 13 + 18 * p by omega)]
    exact h8 q hq
theorem cj_WF.stp (h : cj_WF B T N m) (hN : N ≤ 6) {p a : Nat} (hp : p < 6) (ha : a < 12) : cj_WF B T N (upd m (14 + 18 * p) (nI a)) := by
  obtain ⟨h1, h2, h3, h4, h5, h6, h7, h8, h9⟩ := cj_WFi.mp h
  refine cj_WFi.mpr ⟨h1.cg (pk_un (by omega)) (fun q hq => pk_un (by omega)) (fun q hq => pk_un (by omega)), h2.cg (Nat.le_refl _) (Nat.le_refl _) (pk_un (by omega)) (pk_un (by omega)) (pk_un (by omega)) (pk_un (by omega)) (fun q hq => pk_un (by omega)) (fun q hq => pk_un (by omega)) (fun q hq => pk_un (by omega)), h3.cg (Nat.le_refl _) (pk_un (by omega)), h4.cg (Nat.le_refl _) (pk_un (by omega)), h5.cg (pk_un (by omega)), h6.cg (pk_un (by omega)), h7.cg (pk_un (by omega)), fun q hq => ?_, h9.cg (Nat.le_refl _) (fun q hq f hf => pk_un (by omega))⟩
  rw [pk_un (show 13 + 18 * q ≠ 14 + 18 * p by omega)]
  by_cases e : q = p
  · subst e
    exact ⟨(h8 q hq).1, ⟨a, ha, pk_us⟩⟩
  · rw [pk_un (show 14 + 18 * q ≠ 14 + 18 * p by omega)]
    exact h8 q hq
theorem cj_WF.sn (h : cj_WF B T N m) (hN : N ≤ 6) {p f s : Nat} (hp : p < 6) (hf : f < 12) (hs : s ≤ T) : cj_WF B T N (upd m (17 + 18 * p + f) (nI s)) := by
  obtain ⟨h1, h2, h3, h4, h5, h6, h7, h8, h9⟩ := cj_WFi.mp h
  refine cj_WFi.mpr ⟨h1.cg (pk_un (by omega)) (fun q hq => pk_un (by omega)) (fun q hq => pk_un (by omega)), h2.cg (Nat.le_refl _) (Nat.le_refl _) (pk_un (by omega)) (pk_un (by omega)) (pk_un (by omega)) (pk_un (by omega)) (fun q hq => pk_un (by omega)) (fun q hq => pk_un (by omega)) (fun q hq => pk_un (by omega)), h3.cg (Nat.le_refl _) (pk_un (by omega)), h4.cg (Nat.le_refl _) (pk_un (by omega)), h5.cg (pk_un (by omega)), h6.cg (pk_un (by omega)), h7.cg (pk_un (by omega)), h8.cg (fun q hq => pk_un (by omega)) (fun q hq => pk_un (by omega)), fun q hq g hg => ?_⟩
  by_cases e : 17 + 18 * q + g = 17 + 18 * p + f
  · rw [e]
    exact Or.inr ⟨s, hs, pk_us⟩
  · rw [pk_un e]
    exact h9 q hq g hg
/-- a place below eleven -/
theorem cj_WF.lo (h : cj_WF B T N m) (hN : N ≤ 6) {i : Nat} (v : Int32) (hi : 4 ≤ i ∧ i < 11 ∧ i ≠ 7 ∧ i ≠ 8) (g3 : cj_W3 T (upd m i v)) (g4 : cj_W4 N (upd m i v)) (g5 : cj_W5 (upd m i v)) (g6 : cj_W6 (upd m i v)) (g7 : cj_W7 (upd m i v)) : cj_WF B T N (upd m i v) := by
  obtain ⟨h1, h2, h3, h4, h5, h6, h7, h8, h9⟩ := cj_WFi.mp h
  exact cj_WFi.mpr ⟨h1.cg (pk_un (by omega)) (fun q hq => pk_un (by omega)) (fun q hq => pk_un (by omega)), h2.cg (Nat.le_refl _) (Nat.le_refl _) (pk_un (by omega)) (pk_un (by omega)) (pk_un (by omega)) (pk_un (by omega)) (fun q hq => pk_un (by omega)) (fun q hq => pk_un (by omega)) (fun q hq => pk_un (by omega)), g3, g4, g5, g6, g7, h8.cg (fun q hq => pk_un (by omega)) (fun q hq => pk_un (by omega)), h9.cg (Nat.le_refl _) (fun q hq f hf => pk_un (by omega))⟩
theorem cj_WF.look (h : cj_WF B T N m) (hN : N ≤ 6) {v : Int32} (hv : v = (-1) ∨ ∃ p, p < N ∧ v = nI p) : cj_WF B T N (upd m 5 v) := by
  obtain ⟨h1, h2, h3, h4, h5, h6, h7, h8, h9⟩ := cj_WFi.mp h
  refine h.lo hN v (by omega) (h3.cg (Nat.le_refl _) (pk_un (by omega))) ?_ (h5.cg (pk_un (by omega))) (h6.cg (pk_un (by omega))) (h7.cg (pk_un (by omega)))
  unfold cj_W4
  rw [pk_us]
  exact hv
theorem cj_WF.dr (h : cj_WF B T N m) (hN : N ≤ 6) {d : Nat} (hd : d ≤ 3) : cj_WF B T N (upd m 6 (nI d)) := by
  obtain ⟨h1, h2, h3, h4, h5, h6, h7, h8, h9⟩ := cj_WFi.mp h
  exact h.lo hN _ (by omega) (h3.cg (Nat.le_refl _) (pk_un (by omega))) (h4.cg (Nat.le_refl _) (pk_un (by omega))) ⟨d, pk_us, hd⟩ (h6.cg (pk_un (by omega))) (h7.cg (pk_un (by omega)))
theorem cj_WF.mem (h : cj_WF B T N m) (hN : N ≤ 6) {d : Nat} (hd : 1 ≤ d ∧ d ≤ 200) : cj_WF B T N (upd m 9 (nI d)) := by
  obtain ⟨h1, h2, h3, h4, h5, h6, h7, h8, h9⟩ := cj_WFi.mp h
  exact h.lo hN _ (by omega) (h3.cg (Nat.le_refl _) (pk_un (by omega))) (h4.cg (Nat.le_refl _) (pk_un (by omega))) (h5.cg (pk_un (by omega))) ⟨d, pk_us, hd⟩ (h7.cg (pk_un (by omega)))
theorem cj_WF.dry (h : cj_WF B T N m) (hN : N ≤ 6) {d : Nat} (hd : d ≤ 60) : cj_WF B T N (upd m 10 (nI d)) := by
  obtain ⟨h1, h2, h3, h4, h5, h6, h7, h8, h9⟩ := cj_WFi.mp h
  exact h.lo hN _ (by omega) (h3.cg (Nat.le_refl _) (pk_un (by omega))) (h4.cg (Nat.le_refl _) (pk_un (by omega))) (h5.cg (pk_un (by omega))) (h6.cg (pk_un (by omega))) ⟨d, pk_us, hd⟩
theorem cj_WF.now (h : cj_WF B T N m) (hN : N ≤ 6) {t : Nat} (hT : T ≤ T') (ht : t ≤ T') : cj_WF B T' N (upd m 4 (nI t)) := by
  obtain ⟨h1, h2, h3, h4, h5, h6, h7, h8, h9⟩ := cj_WFi.mp (h.mono (Nat.le_refl B) hT)
  exact (h.mono (Nat.le_refl B) hT).lo hN _ (by omega) ⟨t, pk_us, ht⟩ (h4.cg (Nat.le_refl _) (pk_un (by omega))) (h5.cg (pk_un (by omega))) (h6.cg (pk_un (by omega))) (h7.cg (pk_un (by omega)))
/-- the features of a sheet -/
theorem cj_WF.has (h : cj_WF B T N m) (hN : N ≤ 6) {k x : Nat} (hx : x < 4096) (hk : k < 10) : cj_WF B T N (upd m (121 + 4 * k) (nI x)) := by
  obtain ⟨h1, ⟨ns, bg, sd, pd, a1, a2, a3, a4, a5, a6, a7, a8, ⟨nm, a9⟩, a10⟩, h3, h4, h5, h6, h7, h8, h9⟩ := cj_WFi.mp h
  refine cj_WFi.mpr ⟨h1.cg (pk_un (by omega)) (fun q hq => pk_un (by omega)) (fun q hq => pk_un (by omega)), ⟨ns, bg, sd, pd, (pk_un (by omega)).trans a1, a2, (pk_un (by omega)).trans a3, a4, (pk_un (by omega)).trans a5, (pk_un (by omega)).trans a6, a7, a8, ⟨nm, fun q hq => ?_⟩, fun q hq => ?_⟩, h3.cg (Nat.le_refl _) (pk_un (by omega)), h4.cg (Nat.le_refl _) (pk_un (by omega)), h5.cg (pk_un (by omega)), h6.cg (pk_un (by omega)), h7.cg (pk_un (by omega)), h8.cg (fun q hq => pk_un (by omega)) (fun q hq => pk_un (by omega)), h9.cg (Nat.le_refl _) (fun q hq f hf => pk_un (by omega))⟩
  · rw [pk_un (by omega)]
    exact a9 q hq
  · refine ⟨?_, ?_⟩
    · rw [pk_un (by omega)]
      exact (a10 q hq).1
    · by_cases e : q = k
      · subst e
        exact ⟨x, hx, pk_us⟩
      · rw [pk_un (by omega)]
        exact (a10 q hq).2
end CJW
