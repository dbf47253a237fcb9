/-! the relation of the two memories, and what one change does to it -/
def cj_RR (n : Nat) (μ : cj_Mm) (τ : cj_S) : Prop := cj_RC (20 * n) 9999 (μ 5) (τ 1) ∧ (∃ o h, o < 5 ∧ h ≤ 4 ∧ μ 1 0 1 = nI o ∧ μ 1 0 2 = nI h ∧ τ 0 4 = nI h ∧ ∀ i, i < h → cj_RC (20 * n) 9999 (μ (7 + (o + i) % 5)) (fun j => τ 2 (183 * i + j))) ∧ (∃ len, len ≤ 60 ∧ μ 2 0 1 = nI len ∧ τ 0 7 = nI len ∧ ∀ i, i < len → ∃ c, 32 ≤ c ∧ c ≤ 126 ∧ μ 2 1 i = nI c ∧ τ 5 i = nI c) ∧ τ 0 5 = 0
theorem cj_RR.up {n : Nat} {μ : cj_Mm} {τ : cj_S} (h : cj_RR n μ τ) : cj_RR (n + 1) μ τ := by
  obtain ⟨h1, ⟨o, k, a1, a2, a3, a4, a5, a6⟩, h3, h4⟩ := h
  exact ⟨h1.mono (by omega) (Nat.le_refl _), ⟨o, k, a1, a2, a3, a4, a5, fun i hi => (a6 i hi).mono (by omega) (Nat.le_refl _)⟩, h3, h4⟩
theorem cj_Co.mono {B B' T : Nat} {σ τ τ1 : cj_S} {a b : Option (Int32 × cj_S)} (h : cj_Co B T σ τ τ1 a b) (hB : B ≤ B') : cj_Co B' T σ τ τ1 a b := by
  rcases h with h | ⟨r, σ', m', g1, g2, g3, g4⟩
  · exact Or.inl h
  · exact Or.inr ⟨r, σ', m', g1, g2, g3, g4.mono hB (Nat.le_refl _)⟩
theorem cj_prep {μ : cj_Mm} {o h : Nat} (ho : o < 5) (hh : h ≤ 4) (h1 : μ 1 0 1 = nI o) (h2 : μ 1 0 2 = nI h) : ∃ X, f_X1_prepare μ = some (cj_upG μ (7 + (o + h) % 5) X) ∧ ∀ k j, cj_dm k j → X k j = μ 5 k j := by
  obtain ⟨X, x1, x2⟩ := cj_copyF (gd := 7 + (o + h) % 5) (gs := 5) (by omega) μ
  refine ⟨X, ?_, x2⟩
  unfold f_X1_prepare
  rw [h1, h2, nI_add, cj_lt1, show (5 : Int32) = nI 5 from rfl, pk_rem (by omega) (by decide) (by decide), cj_lt1, cj_gdN (Nat.mod_lt _ (by decide)) (by decide), cj_tn (by omega), x1, cj_bd1]
theorem cj_set0 (s : cj_S) {r : Int32} (hr : r < 0) : f_X1_settle s r = some (r, s) := by
  unfold f_X1_settle
  rw [cj_lt1, if_pos hr, if_pos hr]
theorem cj_set1 (s : cj_S) {r : Int32} (hr : 0 ≤ r) {o h : Nat} (ho : o < 5) (hh : h ≤ 4) (h1 : s 0 1 = nI o) (h2 : s 0 2 = nI h) : f_X1_settle s r = some (r, if h = 4 then cj_up2 s 0 1 (nI ((o + 1) % 5)) else cj_up2 s 0 2 (nI (h + 1))) := by
  unfold f_X1_settle
  have hn : ¬ r < 0 := Int32.not_lt.mpr hr
  rw [cj_lt1, if_neg hn, h2, h1, nI_1, nI_1]
  by_cases c : h = 4
  · subst c
    rw [if_pos (show (4 : Int32) ≤ nI 4 by decide), if_neg hn, if_pos rfl, cj_lt1, show (5 : Int32) = nI 5 from rfl, pk_rem (by omega) (by decide) (by decide), cj_lt1]
  · rw [if_neg (show ¬ (4 : Int32) ≤ nI h from nI_ge (a := h) (b := 4) (by omega) (by decide)), if_neg c, cj_lt1]
/-- one change: saved, done, settled -/
theorem cj_step {n : Nat} {μ μ' : cj_Mm} {τ τ1 : cj_S} {σ' X : cj_S} {m' : Nat → Int32} (hR : cj_RR n μ τ) {o h : Nat} (ho : o < 5) (hh : h ≤ 4) (h1 : μ 1 0 1 = nI o) (h2 : μ 1 0 2 = nI h) (hX : ∀ k j, cj_dm k j → X k j = μ 5 k j) (hc : f_X9_changes τ = some τ1) (hr : cj_RC (20 * (n + 1)) 9999 σ' m') (e5 : μ' 5 = σ') (e2 : μ' 2 = μ 2) (e1 : μ' 1 = if h = 4 then cj_up2 (μ 1) 0 1 (nI ((o + 1) % 5)) else cj_up2 (μ 1) 0 2 (nI (h + 1))) (ex : μ' (7 + (o + h) % 5) = X) (eo : ∀ i, 7 ≤ i → i ≠ 7 + (o + h) % 5 → μ' i = μ i) : cj_RR (n + 1) μ' (cj_upr τ1 1 m') := by
  obtain ⟨r1, ⟨o', h', a1, a2, a3, a4, a5, a6⟩, ⟨len, l1, l2, l3, l4⟩, r4⟩ := hR
  have : o' = o := (nI_eq (by omega) (by omega)).mp (a3.symm.trans h1)
  subst this
  have : h' = h := (nI_eq (by omega) (by omega)).mp (a4.symm.trans h2)
  subst this
  obtain ⟨τ2, c1, c2, c3, c4, c5, c6, c7, c8⟩ := cj_chg r4 a5 hh
  have : τ2 = τ1 := Option.some.inj (c1.symm.trans hc)
  subst this
  refine ⟨?_, ?_, ⟨len, l1, ?_, ?_, ?_⟩, ?_⟩
  · rw [e5]
    exact hr
  · by_cases c : h' = 4
    · subst c
      rw [if_pos rfl] at e1 c5
      refine ⟨(o' + 1) % 5, 4, Nat.mod_lt _ (by decide), by omega, ?_, ?_, c5, fun i hi => ?_⟩
      · rw [e1, cj_at2, if_pos ⟨rfl, rfl⟩]
      · rw [e1, cj_at2, if_neg (by omega), h2]
      · by_cases q : i = 3
        · subst q
          rw [show 7 + ((o' + 1) % 5 + 3) % 5 = 7 + (o' + 4) % 5 by omega, ex]
          refine (r1.mono (B' := 20 * (n + 1)) (by omega) (Nat.le_refl _)).eq hX (fun j hj => ?_)
          exact c6 j hj
        · rw [eo _ (by omega) (by omega), show 7 + ((o' + 1) % 5 + i) % 5 = 7 + (o' + (i + 1)) % 5 by omega]
          refine ((a6 (i + 1) (by omega)).mono (B' := 20 * (n + 1)) (by omega) (Nat.le_refl _)).eq (fun k j _ => rfl) (fun j hj => ?_)
          exact c7 rfl i (by omega) j hj
    · rw [if_neg c] at e1 c5
      refine ⟨o', h' + 1, ho, by omega, ?_, ?_, c5, fun i hi => ?_⟩
      · rw [e1, cj_at2, if_neg (by omega), h1]
      · rw [e1, cj_at2, if_pos ⟨rfl, rfl⟩]
      · by_cases q : i = h'
        · subst q
          rw [ex]
          refine (r1.mono (B' := 20 * (n + 1)) (by omega) (Nat.le_refl _)).eq hX (fun j hj => ?_)
          have := c6 j hj
          rw [if_neg c] at this
          exact this
        · rw [eo _ (by omega) (by omega)]
          refine ((a6 i (by omega)).mono (B' := 20 * (n + 1)) (by omega) (Nat.le_refl _)).eq (fun k j _ => rfl) (fun j hj => ?_)
          exact c8 (by omega) i (by omega) j hj
  · rw [e2]
    exact l2
  · exact (c4 7 (by omega)).trans l3
  · intro i hi
    obtain ⟨c, q1, q2, q3, q4⟩ := l4 i hi
    refine ⟨c, q1, q2, by rw [e2]; exact q3, ?_⟩
    show τ2 5 i = _
    rw [c3]
    exact q4
  · exact (c4 5 (by omega)).trans r4
/-- only a spare place of the ring is written -/
theorem cj_spare {n : Nat} {μ μ' : cj_Mm} {τ : cj_S} (hR : cj_RR n μ τ) {o h : Nat} (ho : o < 5) (hh : h ≤ 4) (h1 : μ 1 0 1 = nI o) (h2 : μ 1 0 2 = nI h) (e5 : μ' 5 = μ 5) (e2 : μ' 2 = μ 2) (e1 : μ' 1 = μ 1) (eo : ∀ i, 7 ≤ i → i ≠ 7 + (o + h) % 5 → μ' i = μ i) : cj_RR n μ' τ := by
  obtain ⟨r1, ⟨o', h', a1, a2, a3, a4, a5, a6⟩, ⟨len, l1, l2, l3, l4⟩, r4⟩ := hR
  have : o' = o := (nI_eq (by omega) (by omega)).mp (a3.symm.trans h1)
  subst this
  have : h' = h := (nI_eq (by omega) (by omega)).mp (a4.symm.trans h2)
  subst this
  refine ⟨by rw [e5]; exact r1, ⟨o', h', a1, a2, by rw [e1]; exact a3, by rw [e1]; exact a4, a5, fun i hi => ?_⟩, ⟨len, l1, by rw [e2]; exact l2, l3, fun i hi => ?_⟩, r4⟩
  · rw [eo _ (by omega) (by omega)]
    exact a6 i hi
  · rw [e2]
    exact l4 i hi
theorem cj_op {n : Nat} {μ : cj_Mm} {τ : cj_S} (hR : cj_RR n μ τ) (F : cj_S → Option (Int32 × cj_S)) (G : Option (Int32 × cj_S)) (hco : ∀ τ1, f_X9_changes τ = some τ1 → τ1 1 = τ 1 → cj_Co (20 * (n + 1)) 9999 (μ 5) τ τ1 (F (μ 5)) G) : cj_Tmm (cj_RR (n + 1)) μ τ (cj_bd (f_X1_prepare μ) (fun (s2 : cj_Mm) => cj_bp (F (s2 5)) (fun (x4 : Int32) (s5 : cj_S) => cj_lt (cj_upG s2 5 s5) (fun (s6 : cj_Mm) => cj_bp (f_X1_settle (s6 1) x4) (fun (x8 : Int32) (s9 : cj_S) => cj_lt (cj_upG s6 1 s9) (fun (s10 : cj_Mm) => some (x8, s10))))))) G := by
  obtain ⟨r1, ⟨o, h, a1, a2, a3, a4, a5, a6⟩, -, r4⟩ := id hR
  obtain ⟨X, x1, x2⟩ := cj_prep a1 a2 a3 a4
  obtain ⟨τ1, c1, c2, -⟩ := cj_chg r4 a5 a2
  have g5 : cj_upG μ (7 + (o + h) % 5) X 5 = μ 5 := cj_upG_o (by omega)
  have g1 : ∀ s5, cj_upG (cj_upG μ (7 + (o + h) % 5) X) 5 s5 1 = μ 1 := fun s5 => (cj_upG_o (by decide)).trans (cj_upG_o (by omega))
  rw [x1, cj_bd1, g5]
  rcases hco τ1 c1 c2 with ⟨r, q1, q2, q3⟩ | ⟨r, σ', m', q1, q2, q3, q4⟩
  · rw [q2, cj_bp1, cj_lt1, g1, cj_set0 _ q1, cj_bp1, cj_lt1, q3]
    refine ⟨r, _, τ, rfl, rfl, (cj_spare hR a1 a2 a3 a4 ?_ ?_ ?_ (fun i hi hn => ?_)).up⟩
    · rw [cj_upG_o (by decide), cj_upG_s]
    · rw [cj_upG_o (by decide), cj_upG_o (by decide), cj_upG_o (by omega)]
    · rw [cj_upG_s]
    · rw [cj_upG_o (by omega), cj_upG_o (by omega), cj_upG_o hn]
  · rw [q2, cj_bp1, cj_lt1, g1, cj_set1 _ q1 a1 a2 a3 a4, cj_bp1, cj_lt1, q3]
    refine ⟨r, _, _, rfl, rfl, cj_step hR a1 a2 a3 a4 x2 c1 q4 ?_ ?_ ?_ ?_ (fun i hi hn => ?_)⟩
    · rw [cj_upG_o (by decide), cj_upG_s]
    · rw [cj_upG_o (by decide), cj_upG_o (by decide), cj_upG_o (by omega)]
    · rw [cj_upG_s]
    · rw [cj_upG_o (by omega), cj_upG_o (by omega), cj_upG_s]
    · rw [cj_upG_o (by omega), cj_upG_o (by omega), cj_upG_o hn]
section CJO
variable {n : Nat} {μ : cj_Mm} {τ : cj_S}
theorem cj_h0 (hR : cj_RR n μ τ) : cj_O0 (cj_RR (n + 1)) μ τ := fun a1 a2 => cj_op hR (fun s => f_X0_addPerson s a1 a2) _ (fun τ1 hc h1 => (cj_cperson hR.1 hc h1 a1 a2).mono (by omega))
theorem cj_h1 (hR : cj_RR n μ τ) : cj_O1 (cj_RR (n + 1)) μ τ := fun a1 a2 a3 => cj_op hR (fun s => f_X0_turnPerson s a1 a2 a3) _ (fun τ1 hc h1 => (cj_cturn hR.1 hc h1 a1 a2 a3).mono (by omega))
theorem cj_h2 (hR : cj_RR n μ τ) : cj_O2 (cj_RR (n + 1)) μ τ := fun a1 a2 => cj_op hR (fun s => f_X0_addPaper s a1 a2) _ (fun τ1 hc h1 => (cj_cpaper hR.1 hc h1 a1 a2).mono (by omega))
theorem cj_h3 (hR : cj_RR n μ τ) : cj_O3 (cj_RR (n + 1)) μ τ := fun a1 => cj_op hR (fun s => f_X0_lookAt s a1) _ (fun τ1 hc h1 => (cj_clook hR.1 hc h1 a1).mono (by omega))
theorem cj_h4 (hn : n < 512) (hR : cj_RR n μ τ) : cj_O4 (cj_RR (n + 1)) μ τ := fun a1 => cj_op hR (fun s => f_X0_beginSheet s a1) _ (fun τ1 hc h1 => (cj_csheet (by omega) hR.1 hc h1 a1).mono (by omega))
theorem cj_h5 (hR : cj_RR n μ τ) : cj_O5 (cj_RR (n + 1)) μ τ := fun a1 a2 => cj_op hR (fun s => f_X0_drawFeature s a1 a2) _ (fun τ1 hc h1 => (cj_cdraw (by decide) hR.1 hc h1 a1 a2).mono (by omega))
theorem cj_h6 (hn : n < 512) (hR : cj_RR n μ τ) : cj_O6 (cj_RR (n + 1)) μ τ := fun a1 => cj_op hR (fun s => f_X0_tearOut s a1) _ (fun τ1 hc h1 => (cj_ctear (by omega) hR.1 hc h1 a1).mono (by omega))
theorem cj_h7 (hR : cj_RR n μ τ) : cj_O7 (cj_RR (n + 1)) μ τ := fun a1 => cj_op hR (fun s => f_X0_tellVerdict s a1) _ (fun τ1 hc h1 => (cj_cverdict hR.1 hc h1 a1).mono (by omega))
theorem cj_h8 (hn : n < 512) (hR : cj_RR n μ τ) : cj_O8 (cj_RR (n + 1)) μ τ := fun a1 a2 => cj_op hR (fun s => f_X0_sellSheet s a1 a2) _ (fun τ1 hc h1 => (cj_csell (by decide) (by omega) hR.1 hc h1 a1 a2).mono (by omega))
theorem cj_h9 (hR : cj_RR n μ τ) : cj_O9 (cj_RR (n + 1)) μ τ := fun a1 => cj_op hR (fun s => f_X0_passMinutes s a1) _ (fun τ1 hc h1 => (cj_cpass hR.1 hc h1 a1).mono (by omega))
theorem cj_h10 (hR : cj_RR n μ τ) : cj_O10 (cj_RR (n + 1)) μ τ := fun a1 a2 => cj_op hR (fun s => f_X0_changeSetting s a1 a2) _ (fun τ1 hc h1 => (cj_cset hR.1 hc h1 a1 a2).mono (by omega))
/-! undo and the text -/
theorem cj_l22 {g : Nat} (hg : g ≤ 3) : ∀ (k x n : Nat) (s : cj_S), x + k = 183 → k < n → s 0 4 = nI g → ∃ s', f_X9_undo_L22 n (nI x) s = some (nI g, s') ∧ ∀ r j, s' r j = if r = 1 ∧ x ≤ j ∧ j < 183 then s 2 (183 * g + j) else s r j := by
  intro k
  induction k with
  | zero =>
    intro x n s hx hn h4
    obtain ⟨n, rfl⟩ : ∃ x, n = x + 1 := ⟨n - 1, by omega⟩
    have : x = 183 := by omega
    subst this
    refine ⟨s, ?_, fun r j => ?_⟩
    · rw [f_X9_undo_L22, if_pos (by decide), h4]
    · rw [if_neg (by omega)]
  | succ k ih =>
    intro x n s hx hn h4
    obtain ⟨n, rfl⟩ : ∃ x, n = x + 1 := ⟨n - 1, by omega⟩
    have e : (183 : Int32) * nI g + nI x = nI (183 * g + x) := by rw [show (183 : Int32) = nI 183 from rfl, pk_mul, nI_add]
    obtain ⟨s', r1, r2⟩ := ih (x + 1) n (cj_up2 s 1 x (s 2 (183 * g + x))) (by omega) (by omega) (by rw [cj_at2, if_neg (by omega), h4])
    refine ⟨s', ?_, fun r j => ?_⟩
    · rw [f_X9_undo_L22, if_neg (show ¬ 183 ≤ nI x from nI_ge (a := x) (b := 183) (by omega) (by omega)), h4, e, cj_gdN (by omega) (by decide), cj_gdN (by omega) (by decide), cj_tn (by omega), cj_tn (by omega), cj_lt1, nI_1]
      exact r1
    · rw [r2, cj_at2, cj_at2]
      by_cases c : r = 1 ∧ x + 1 ≤ j ∧ j < 183
      · rw [if_pos c, if_neg (by omega), if_pos (by omega)]
      · rw [if_neg c]
        by_cases d : r = 1 ∧ j = x
        · rw [if_pos d, if_pos (by omega), d.2]
        · rw [if_neg d, if_neg (by omega)]
theorem cj_h22 (hR : cj_RR n μ τ) : cj_O22 (cj_RR (n + 1)) μ τ := by
  obtain ⟨r1, ⟨o, h, a1, a2, a3, a4, a5, a6⟩, ⟨len, l1, l2, l3, l4⟩, r4⟩ := id hR
  show cj_Tmm (cj_RR (n + 1)) μ τ (cj_bp (f_X1_restore μ) (fun (x2 : Int32) (s3 : cj_Mm) => some (x2, s3))) (f_X9_undo τ)
  unfold f_X1_restore f_X9_undo
  rw [a4, a5]
  cases h with
  | zero =>
    rw [if_neg (show ¬ 0 < nI 0 by decide), if_pos (show nI 0 = 0 from rfl)]
    exact ⟨_, _, _, rfl, rfl, hR.up⟩
  | succ h =>
    rw [if_pos (show 0 < nI (h + 1) from nI_lt (a := 0) (by omega) (by omega)), if_neg (nI_ne0 (by omega) (by omega)), nI_pred]
    obtain ⟨s', b1, b2⟩ := cj_l22 (g := h) (by omega) 183 0 cj_FU (cj_up2 τ 0 4 (nI h)) (by omega) (by unfold cj_FU; omega) (by rw [cj_at2, if_pos ⟨rfl, rfl⟩])
    have b1 : f_X9_undo_L22 cj_FU 0 (cj_up2 τ 0 4 (nI h)) = _ := b1
    obtain ⟨X, x1, x2⟩ := cj_copyF (gd := 5) (gs := 7 + (o + h) % 5) (by omega) (cj_upG μ 1 (cj_up2 (μ 1) 0 2 (nI h)))
    have e1 : cj_upG μ 1 (cj_up2 (μ 1) 0 2 (nI h)) 1 0 1 = nI o := by rw [cj_upG_s, cj_at2, if_neg (by omega), a3]
    have e2 : cj_upG μ 1 (cj_up2 (μ 1) 0 2 (nI h)) 1 0 2 = nI h := by rw [cj_upG_s, cj_at2, if_pos ⟨rfl, rfl⟩]
    rw [cj_lt1, cj_lt1, e1, e2, nI_add, show (5 : Int32) = nI 5 from rfl, pk_rem (by omega) (by decide) (by decide), cj_lt1, cj_gdN (Nat.mod_lt _ (by decide)) (by decide), cj_tn (by omega), x1, cj_bd1, cj_bp1, cj_lt1, b1]
    have e3 : cj_upG (cj_upG μ 1 (cj_up2 (μ 1) 0 2 (nI h))) 5 X 1 0 2 = nI h := by rw [cj_upG_o (by decide)]; exact e2
    rw [e3]
    have sE : ∀ r j, r ≠ 1 → s' r j = cj_up2 τ 0 4 (nI h) r j := fun r j hr => by rw [b2, if_neg (by omega)]
    refine ⟨nI h, _, s', rfl, rfl, ?_, ⟨o, h, a1, by omega, ?_, ?_, ?_, fun i hi => ?_⟩, ⟨len, l1, ?_, ?_, fun i hi => ?_⟩, ?_⟩
    · rw [cj_upG_s]
      refine ((a6 h (by omega)).mono (B' := 20 * (n + 1)) (by omega) (Nat.le_refl _)).eq (fun k j hd => ?_) (fun j hj => ?_)
      · rw [x2 k j hd, cj_upG_o (by omega)]
      · rw [b2, if_pos (by omega), cj_at2, if_neg (by omega)]
    · rw [cj_upG_o (by decide), e1]
    · rw [cj_upG_o (by decide), e2]
    · rw [sE 0 4 (by omega), cj_at2, if_pos ⟨rfl, rfl⟩]
    · rw [cj_upG_o (by omega), cj_upG_o (by omega)]
      refine ((a6 i (by omega)).mono (B' := 20 * (n + 1)) (by omega) (Nat.le_refl _)).eq (fun k j _ => rfl) (fun j hj => ?_)
      rw [sE 2 _ (by omega), cj_at2, if_neg (by omega)]
    · rw [cj_upG_o (by decide), cj_upG_o (by decide), l2]
    · rw [sE 0 7 (by omega), cj_at2, if_neg (by omega), l3]
    · obtain ⟨c, q1, q2, q3, q4⟩ := l4 i hi
      refine ⟨c, q1, q2, ?_, ?_⟩
      · rw [cj_upG_o (by decide), cj_upG_o (by decide), q3]
      · rw [sE 5 _ (by omega), cj_at2, if_neg (by omega), q4]
    · rw [sE 0 5 (by omega), cj_at2, if_neg (by omega), r4]
theorem cj_h24 (hR : cj_RR n μ τ) : cj_O24 (cj_RR (n + 1)) μ τ := by
  obtain ⟨r1, ⟨o, h, a1, a2, a3, a4, a5, a6⟩, ⟨len, l1, l2, l3, l4⟩, r4⟩ := hR.up
  show cj_Tmm (cj_RR (n + 1)) μ τ (some (μ 2 0 1, cj_upG μ 2 (cj_up2 (μ 2) 0 1 0))) (some (τ 0 7, cj_up2 τ 0 7 0))
  rw [l2, l3]
  refine ⟨_, _, _, rfl, rfl, ?_, ⟨o, h, a1, a2, ?_, ?_, ?_, fun i hi => ?_⟩, ⟨0, by omega, ?_, ?_, fun i hi => by omega⟩, ?_⟩
  · rw [cj_upG_o (by decide)]
    exact r1
  · rw [cj_upG_o (by decide), a3]
  · rw [cj_upG_o (by decide), a4]
  · rw [cj_at2, if_neg (by omega), a5]
  · rw [cj_upG_o (by omega)]
    exact a6 i hi
  · rw [cj_upG_s, cj_at2, if_pos ⟨rfl, rfl⟩]
    rfl
  · rw [cj_at2, if_pos ⟨rfl, rfl⟩]
    rfl
  · rw [cj_at2, if_neg (by omega), r4]
end CJO
