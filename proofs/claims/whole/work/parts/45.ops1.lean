/-! one change at a time: turn, look, verdict, set, draw -/
def cj_RX (N : Nat) (σ : cj_S) (m : Nat → Int32) : Prop := N ≤ 6 ∧ m 0 = nI N ∧ cj_Rq N σ m ∧ (∀ j, N ≤ j → j < 6 → σ 6 j = (-1)) ∧ (∀ j, 12 * N ≤ j → j < 72 → σ 8 j = (-1)) ∧ (∀ q, q < 4 → σ 19 q = m (163 + 6 * q) ∨ m (164 + 6 * q) = 0)
theorem cj_RC.x {B T : Nat} {σ : cj_S} {m : Nat → Int32} (h : cj_RC B T σ m) : ∃ N, cj_RX N σ m ∧ cj_WF B T N m := by
  obtain ⟨N, h1, h2, h3, h4, h5, h6, h7⟩ := h
  exact ⟨N, ⟨h1, h2, h3, h4, h5, h6⟩, h7⟩
theorem cj_RX.c {B T N : Nat} {σ : cj_S} {m : Nat → Int32} (h : cj_RX N σ m) (hw : cj_WF B T N m) : cj_RC B T σ m := by
  obtain ⟨h1, h2, h3, h4, h5, h6⟩ := h
  exact ⟨N, h1, h2, h3, h4, h5, h6, hw⟩
theorem cj_RX.up {N : Nat} {σ : cj_S} {m : Nat → Int32} (h : cj_RX N σ m) {k j : Nat} (hd : cj_dm k j) (hk : k ≠ 1 ∧ k ≠ 19 ∧ k ≠ 20) (g6 : k = 6 → j < N) (g8 : k = 8 → j < 12 * N) (v : Int32) : cj_RX N (cj_up2 σ k j v) (upd m (cj_ix k j) v) := by
  obtain ⟨h1, h2, h3, h4, h5, h6⟩ := h
  have hi : ∀ k' j', cj_dm k' j' → k' ≠ k → cj_ix k' j' ≠ cj_ix k j := fun k' j' hd' hk' e => hk' (cj_ix_inj hd' hd e).1
  have hu : ∀ k' j', (k' = k → j' ≠ j) → cj_up2 σ k j v k' j' = σ k' j' := by
    intro k' j' q
    unfold cj_up2 cj_upr
    by_cases e : k' = k
    · rw [if_pos e, pk_un (q e), e]
    · rw [if_neg e]
  refine ⟨h1, ?_, h3.up hd v, fun j' a b => ?_, fun j' a b => ?_, fun q hq => ?_⟩
  · rw [← h2]
    exact pk_un (hi 1 0 (by unfold cj_dm; omega) (fun e => hk.1 e.symm))
  · rw [hu 6 j' (fun e => by have := g6 e.symm; omega)]
    exact h4 j' a b
  · rw [hu 8 j' (fun e => by have := g8 e.symm; omega)]
    exact h5 j' a b
  · rw [hu 19 q (fun e => absurd e.symm hk.2.1)]
    have e1 : upd m (cj_ix k j) v (163 + 6 * q) = m (163 + 6 * q) := pk_un (hi 19 q (by unfold cj_dm; omega) (fun e => hk.2.1 e.symm))
    have e2 : upd m (cj_ix k j) v (164 + 6 * q) = m (164 + 6 * q) := pk_un (hi 20 q (by unfold cj_dm; omega) (fun e => hk.2.2 e.symm))
    rw [e1, e2]
    exact h6 q hq
def cj_Co (B T : Nat) (σ τ τ1 : cj_S) (a b : Option (Int32 × cj_S)) : Prop := (∃ r, r < 0 ∧ a = some (r, σ) ∧ b = some (r, τ)) ∨ ∃ (r : Int32) (σ' : cj_S) (m' : Nat → Int32), 0 ≤ r ∧ a = some (r, σ') ∧ b = some (r, cj_upr τ1 1 m') ∧ cj_RC B T σ' m'
theorem cj_z1 : ¬ (1 : Int32) = 0 := by decide
section CJV
variable {B T : Nat} {σ τ τ1 : cj_S}
theorem cj_cturn (hR : cj_RC B T σ (τ 1)) (hc : f_X9_changes τ = some τ1) (h1 : τ1 1 = τ 1) (a1 a2 a3 : Int32) : cj_Co B T σ τ τ1 (f_X0_turnPerson σ a1 a2 a3) (f_X9_turn τ a1 a2 a3) := by
  obtain ⟨N, hX, hW⟩ := hR.x
  obtain ⟨hN, h0, hq, hd, hs, hb⟩ := id hX
  have e1 : τ1 = cj_upr τ1 1 (τ 1) := by rw [← h1, cj_ui]
  unfold f_X0_turnPerson f_X9_turn
  rw [cj_has_eq hq.r1, show f_X9_in a2 0 11 = f_X8_isWithin a2 0 11 from rfl, show f_X9_in a3 0 11 = f_X8_isWithin a3 0 11 from rfl]
  rcases cj_per_c h0 hN a1 with e | ⟨p, hp, rfl, e⟩
  · rw [e]
    exact Or.inl ⟨-1000001, by decide, rfl, rfl⟩
  rw [e]
  simp only [cj_bd1, if_neg cj_z1]
  rcases cj_in_c a2 0 11 with e2 | ⟨e2, g1, g2⟩
  · rw [e2]
    exact Or.inl ⟨-1000001, by decide, rfl, rfl⟩
  rw [e2]
  simp only [cj_bd1, if_neg cj_z1]
  rcases cj_in_c a3 0 11 with e3 | ⟨e3, g3, g4⟩
  · rw [e3]
    exact Or.inl ⟨-1000001, by decide, rfl, rfl⟩
  rw [e3, hc]
  obtain ⟨x2, rfl, -, hx2⟩ := cj_in_n (lo := 0) (hi := 11) rfl rfl (by decide) g1 g2 (by decide)
  obtain ⟨x3, rfl, -, hx3⟩ := cj_in_n (lo := 0) (hi := 11) rfl rfl (by decide) g3 g4 (by decide)
  have hX' := (hX.up (k := 4) (j := p) (by unfold cj_dm; omega) (by decide) (by omega) (by omega) (nI x2)).up (k := 5) (j := p) (by unfold cj_dm; omega) (by decide) (by omega) (by omega) (nI x3)
  have hW' := (hW.ang hN (p := p) (a := x2) (by omega) (by omega)).stp hN (p := p) (a := x3) (by omega) (by omega)
  have hX' : cj_RX N (cj_up2 (cj_up2 σ 4 p (nI x2)) 5 p (nI x3)) (upd (upd (τ 1) (13 + 18 * p) (nI x2)) (14 + 18 * p) (nI x3)) := by
    have r1 : cj_ix 4 p = 13 + 18 * p := rfl
    have r2 : cj_ix 5 p = 14 + 18 * p := rfl
    rw [← r1, ← r2]
    exact hX'
  obtain ⟨v, hv, s1, s2⟩ := cj_seen (τ := cj_upr τ1 1 (upd (upd (τ 1) (13 + 18 * p) (nI x2)) (14 + 18 * p) (nI x3))) hX'.2.2.1 hX'.2.1 hN hW' hp
  refine Or.inr ⟨nI v, _, _, nI_pos' (by omega), ?_, ?_, hX'.c hW'⟩
  · simp only [cj_bd1, cj_lt1, if_neg cj_z1, cj_gdN (show p < 6 by omega) (by decide : 6 < 2147483648), cj_tn (show p < 2147483648 by omega)]
    rw [s1]
    rfl
  · simp only [cj_bd1, if_neg cj_z1]
    have w1 := n_sets τ1 (τ 1) (p := p) (w := 2) (nI x2) (by omega)
    have w2 := n_sets τ1 (upd (τ 1) (13 + 18 * p) (nI x2)) (p := p) (w := 3) (nI x3) (by omega)
    rw [show 11 + 18 * p + 2 = 13 + 18 * p by omega, ← e1] at w1
    rw [show 11 + 18 * p + 3 = 14 + 18 * p by omega] at w2
    have w1 : f_X9_sets τ1 (nI p) 2 (nI x2) = _ := w1
    have w2 : f_X9_sets _ (nI p) 3 (nI x3) = _ := w2
    rw [w1, cj_bd1, w2, cj_bd1, s2]
    rfl
theorem cj_clook (hR : cj_RC B T σ (τ 1)) (hc : f_X9_changes τ = some τ1) (h1 : τ1 1 = τ 1) (a1 : Int32) : cj_Co B T σ τ τ1 (f_X0_lookAt σ a1) (f_X9_look τ a1) := by
  obtain ⟨N, hX, hW⟩ := hR.x
  obtain ⟨hN, h0, hq, hd, hs, hb⟩ := id hX
  have e1 : τ1 = cj_upr τ1 1 (τ 1) := by rw [← h1, cj_ui]
  have hX' : cj_RX N (cj_up2 σ 0 6 a1) (upd (τ 1) 5 a1) := hX.up (k := 0) (j := 6) (by decide) (by decide) (by omega) (by omega) a1
  have u : cj_up2 τ1 1 5 a1 = cj_upr τ1 1 (upd (τ 1) 5 a1) := by
    rw [← cj_u2, ← e1]
  unfold f_X0_lookAt f_X9_look
  simp only [cj_lt1, hc, cj_bd1, u]
  by_cases c : a1 = (-1)
  · simp only [if_pos c]
    exact Or.inr ⟨0, _, _, by decide, rfl, rfl, hX'.c (hW.look hN (Or.inl c))⟩
  simp only [if_neg c]
  rw [cj_has_eq hq.r1]
  rcases cj_per_c h0 hN a1 with e | ⟨p, hp, rfl, e⟩
  · rw [e]
    exact Or.inl ⟨-1000001, by decide, rfl, rfl⟩
  have hW' := hW.look hN (v := nI p) (Or.inr ⟨p, hp, rfl⟩)
  obtain ⟨v, hv, s1, s2⟩ := cj_seen (τ := cj_upr τ1 1 (upd (τ 1) 5 (nI p))) hX'.2.2.1 hX'.2.1 hN hW' hp
  rw [e, s1, s2]
  simp only [cj_bd1, if_neg cj_z1]
  exact Or.inr ⟨nI v, _, _, nI_pos' (by omega), rfl, rfl, hX'.c hW'⟩
theorem cj_cset (hR : cj_RC B T σ (τ 1)) (hc : f_X9_changes τ = some τ1) (h1 : τ1 1 = τ 1) (a1 a2 : Int32) : cj_Co B T σ τ τ1 (f_X0_changeSetting σ a1 a2) (f_X9_set τ a1 a2) := by
  obtain ⟨N, hX, hW⟩ := hR.x
  obtain ⟨hN, h0, hq, hd, hs, hb⟩ := id hX
  obtain ⟨w1, w2, w3, w4, w5, w6, w7, w8, w9⟩ := cj_WFi.mp hW
  have e1 : τ1 = cj_upr τ1 1 (τ 1) := by rw [← h1, cj_ui]
  unfold f_X0_changeSetting f_X9_set
  simp only [cj_lt1, hc, cj_bd1]
  by_cases c : a1 = 0
  · subst c
    have k1 : f_X9_in 0 0 1 = some 1 := rfl
    have k2 : (1 : Int32) - 0 = 1 := rfl
    have k3 : ¬ (0 : Int32) = 1 := by decide
    rw [k1]
    simp only [cj_bd1, if_neg cj_z1, if_neg k3, k2]
    rw [if_pos trivial, if_pos trivial, show f_X9_in a2 1 200 = f_X8_isWithin a2 1 200 from rfl]
    rcases cj_in_c a2 1 200 with e2 | ⟨e2, g1, g2⟩
    · rw [e2]
      exact Or.inl ⟨-1000001, by decide, rfl, rfl⟩
    rw [e2]
    obtain ⟨x2, rfl, hy, hx2⟩ := cj_in_n (lo := 1) (hi := 200) rfl rfl (by decide) g1 g2 (by decide)
    obtain ⟨a, v1, v2, v3⟩ := w6
    have hX' : cj_RX N (cj_up2 σ 0 3 (nI x2)) (upd (τ 1) 9 (nI x2)) := hX.up (k := 0) (j := 3) (by decide) (by decide) (by omega) (by omega) _
    have u : cj_up2 τ1 1 9 (nI x2) = cj_upr τ1 1 (upd (τ 1) 9 (nI x2)) := by
      rw [← cj_u2, ← e1]
    refine Or.inr ⟨nI a, _, _, nI_pos' (by omega), ?_, ?_, hX'.c (hW.mem hN ⟨hy, hx2⟩)⟩
    · rw [cj_bd1, if_neg cj_z1, ← v1, ← hq.r0.1]
    · rw [cj_bd1, if_neg cj_z1, ← v1, ← u, ← h1]
      rfl
  simp only [if_neg c]
  by_cases c1 : a1 = 1
  · subst c1
    have k1 : f_X9_in 1 0 1 = some 1 := rfl
    have k2 : (1 : Int32) - 1 = 0 := rfl
    rw [k1]
    simp only [cj_bd1, if_neg cj_z1, k2]
    rw [if_pos trivial, show f_X9_in a2 0 60 = f_X8_isWithin a2 0 60 from rfl]
    rcases cj_in_c a2 0 60 with e2 | ⟨e2, g1, g2⟩
    · rw [e2]
      exact Or.inl ⟨-1000001, by decide, rfl, rfl⟩
    rw [e2]
    obtain ⟨x2, rfl, hy, hx2⟩ := cj_in_n (lo := 0) (hi := 60) rfl rfl (by decide) g1 g2 (by decide)
    obtain ⟨a, v1, v2⟩ := w7
    have hX' : cj_RX N (cj_up2 σ 0 4 (nI x2)) (upd (τ 1) 10 (nI x2)) := hX.up (k := 0) (j := 4) (by decide) (by decide) (by omega) (by omega) _
    have u : cj_up2 τ1 1 10 (nI x2) = cj_upr τ1 1 (upd (τ 1) 10 (nI x2)) := by
      rw [← cj_u2, ← e1]
    refine Or.inr ⟨nI a, _, _, nI_pos' (by omega), ?_, ?_, hX'.c (hW.dry hN hx2)⟩
    · rw [cj_bd1, if_neg cj_z1, ← v1, ← hq.r0.2.1]
    · rw [cj_bd1, if_neg cj_z1, ← v1, ← u, ← h1]
      rfl
  have k1 : f_X9_in a1 0 1 = some 0 := by
    rw [show f_X9_in a1 0 1 = f_X8_isWithin a1 0 1 from rfl]
    rcases cj_in_c a1 0 1 with e2 | ⟨e2, g1, g2⟩
    · exact e2
    · obtain ⟨x, rfl, -, hx⟩ := cj_in_n (lo := 0) (hi := 1) rfl rfl (by decide) g1 g2 (by decide)
      have : x = 0 ∨ x = 1 := by omega
      rcases this with rfl | rfl
      · exact absurd rfl c
      · exact absurd rfl c1
  rw [k1, if_neg c1]
  exact Or.inl ⟨-1000001, by decide, rfl, rfl⟩
theorem cj_cverdict (hR : cj_RC B T σ (τ 1)) (hc : f_X9_changes τ = some τ1) (h1 : τ1 1 = τ 1) (a1 : Int32) : cj_Co B T σ τ τ1 (f_X0_tellVerdict σ a1) (f_X9_verdict τ a1) := by
  obtain ⟨N, hX, hW⟩ := hR.x
  obtain ⟨hN, h0, hq, hd, hs, hb⟩ := id hX
  obtain ⟨ns, bg, sd, pd, a1', a2', -⟩ := (cj_WFi.mp hW).2.1
  have e1 : τ1 = cj_upr τ1 1 (τ 1) := by rw [← h1, cj_ui]
  unfold f_X0_tellVerdict f_X9_verdict f_X0_day f_X9_day
  rw [cj_has_eq hq.r1]
  rcases cj_per_c h0 hN a1 with e | ⟨p, hp, rfl, e⟩
  · rw [e]
    exact Or.inl ⟨-1000001, by decide, rfl, rfl⟩
  obtain ⟨v1, x, v2⟩ := cj_ver_eq hq hN hp
  rw [e, v1, v2]
  simp only [cj_bd1, if_neg cj_z1, hc]
  by_cases c : x = 0
  · simp only [if_pos c, cj_gdN (show p < 6 by omega) (by decide : 6 < 2147483648), cj_tn (show p < 2147483648 by omega), cj_lt1, h1, hq.r0.2.2.1]
    have hX' : cj_RX N (cj_up2 σ 6 p (τ 1 4 / 300)) (upd (τ 1) (15 + 18 * p) (τ 1 4 / 300)) := hX.up (k := 6) (j := p) (by unfold cj_dm; omega) (by decide) (by omega) (by omega) _
    have w1 := n_sets τ1 (τ 1) (p := p) (w := 4) (τ 1 4 / 300) (by omega)
    rw [show 11 + 18 * p + 4 = 15 + 18 * p by omega, ← e1] at w1
    have w1 : f_X9_sets τ1 (nI p) 4 (τ 1 4 / 300) = _ := w1
    have a3 : upd (τ 1) (15 + 18 * p) (τ 1 4 / 300) 2 = nI ns := (pk_un (by omega)).trans a1'
    obtain ⟨r, r1, r2, r3⟩ := cj_cnt (τ := cj_upr τ1 1 (upd (τ 1) (15 + 18 * p) (τ 1 4 / 300))) hX'.2.2.1 a3 a2' (nI p)
    rw [w1, cj_bd1, r1, r2]
    refine Or.inr ⟨nI r, _, _, ?_, rfl, rfl, hX'.c (hW.fr hN _ (by omega))⟩
    exact nI_pos' (by omega)
  · simp only [if_neg c]
    exact Or.inl ⟨-1000002, by decide, rfl, rfl⟩
end CJV
