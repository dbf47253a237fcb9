/-! a person, a paper, a sheet -/
theorem cj_o {σ : cj_S} {k j k' : Nat} {v : Int32} (h : (k' == k) = false) : cj_up2 σ k j v k' = σ k' := cj_upr_o (by simpa using h)
theorem cj_s {σ : cj_S} {k j : Nat} {v : Int32} : cj_up2 σ k j v k = upd (σ k) j v := cj_upr_s _ _ _
theorem cj_uo {f : Nat → Int32} {i j : Nat} {v : Int32} (h : (i == j) = false) : upd f j v i = f i := pk_un (by simpa using h)
theorem cj_nm1 {j : Nat} (h : j < 2147483648) : ¬ nI j = (-1) := by
  intro e
  have := congrArg Int32.toInt e
  rw [nI_toInt (by omega)] at this
  have h9 : (-1 : Int32).toInt = -1 := rfl
  omega
theorem cj_nlt {a b : Nat} (ha : a < 2147483648) (hb : b < 2147483648) : (nI a < nI b) ↔ a < b := nI_ltI ha hb
section CJX
variable {B T N : Nat} {σ τ τ1 : cj_S} {m : Nat → Int32}
theorem cj_RX.sk19 (h : cj_RX N σ m) {q : Nat} (hq : q < 4) (h0 : m (164 + 6 * q) = 0) (v : Int32) : cj_RX N σ (upd m (163 + 6 * q) v) := by
  obtain ⟨h1, h2, h3, h4, h5, h6⟩ := h
  refine ⟨h1, (pk_un (by omega)).trans h2, fun k j hd h19 g6 g8 => ?_, h4, h5, fun q' hq' => ?_⟩
  · rw [pk_un (show cj_ix k j ≠ 163 + 6 * q from fun e => h19 (cj_ix_inj (k' := 19) (j' := q) hd (by unfold cj_dm; omega) e).1)]
    exact h3 k j hd h19 g6 g8
  · by_cases e : q' = q
    · subst e
      exact Or.inr ((pk_un (by omega)).trans h0)
    · rw [pk_un (by omega), pk_un (by omega)]
      exact h6 q' hq'
theorem cj_WF.pap (h : cj_WF B T N m) (hN : N ≤ 6) {na r : Nat} {m' : Nat → Int32} (h1 : m 1 = nI na) (hna : na < 4) (hr : 1 ≤ r ∧ r ≤ 20) (e1 : m' 1 = nI (na + 1)) (e2 : m' (159 + 6 * na) = nI r) (e : ∀ i, i ≠ 1 → i ≠ 159 + 6 * na → i ≠ 160 + 6 * na → i ≠ 163 + 6 * na → m' i = m i) : cj_WF B T N m' := by
  obtain ⟨⟨na', a1, a2, a3, a4⟩, h2, h3, h4, h5, h6, h7, h8, h9⟩ := cj_WFi.mp h
  have : na' = na := (nI_eq (by omega) (by omega)).mp (a1.symm.trans h1)
  subst this
  have e0 : ∀ i, i ≠ 1 → i < 159 → m' i = m i := fun i q1 q2 => e i q1 (by omega) (by omega) (by omega)
  refine cj_WFi.mpr ⟨⟨na' + 1, e1, by omega, fun q hq => ?_, fun q q1 q2 => ?_⟩, h2.cg (Nat.le_refl _) (Nat.le_refl _) (e0 _ (by omega) (by omega)) (e0 _ (by omega) (by omega)) (e0 _ (by omega) (by omega)) (e0 _ (by omega) (by omega)) (fun q hq => e0 _ (by omega) (by omega)) (fun q hq => e0 _ (by omega) (by omega)) (fun q hq => e0 _ (by omega) (by omega)), h3.cg (Nat.le_refl _) (e0 _ (by omega) (by omega)), h4.cg (Nat.le_refl _) (e0 _ (by omega) (by omega)), h5.cg (e0 _ (by omega) (by omega)), h6.cg (e0 _ (by omega) (by omega)), h7.cg (e0 _ (by omega) (by omega)), h8.cg (fun q hq => e0 _ (by omega) (by omega)) (fun q hq => e0 _ (by omega) (by omega)), h9.cg (Nat.le_refl _) (fun q hq f hf => e0 _ (by omega) (by omega))⟩
  · by_cases c : q = na'
    · subst c
      exact ⟨r, e2, hr⟩
    · rw [e _ (by omega) (by omega) (by omega) (by omega)]
      exact a3 q (by omega)
  · rw [e _ (by omega) (by omega) (by omega) (by omega)]
    exact a4 q (by omega) q2
theorem cj_cpaper (hR : cj_RC B T σ (τ 1)) (hc : f_X9_changes τ = some τ1) (h1 : τ1 1 = τ 1) (a1 a2 : Int32) : cj_Co B T σ τ τ1 (f_X0_addPaper σ a1 a2) (f_X9_paper τ a1 a2) := by
  obtain ⟨N, hX, hW⟩ := hR.x
  obtain ⟨hN, h0, hq, hd, hs, hb⟩ := id hX
  obtain ⟨na, p1, p2, p3, p4⟩ := (cj_WFi.mp hW).1
  have e1 : τ1 = cj_upr τ1 1 (τ 1) := by rw [← h1, cj_ui]
  unfold f_X0_addPaper f_X9_paper
  rw [show f_X9_in a1 1 20 = f_X8_isWithin a1 1 20 from rfl, show f_X9_in a2 1 299 = f_X8_isWithin a2 1 299 from rfl]
  rcases cj_in_c a1 1 20 with e2 | ⟨e2, g1, g2⟩
  · rw [e2]
    exact Or.inl ⟨-1000001, by decide, rfl, rfl⟩
  rw [e2]
  simp only [cj_bd1, if_neg cj_z1]
  rcases cj_in_c a2 1 299 with e3 | ⟨e3, g3, g4⟩
  · rw [e3]
    exact Or.inl ⟨-1000001, by decide, rfl, rfl⟩
  rw [e3]
  obtain ⟨x2, rfl, hy, hx2⟩ := cj_in_n (lo := 1) (hi := 20) rfl rfl (by decide) g1 g2 (by decide)
  simp only [cj_bd1, if_neg cj_z1, hc, hq.r14, p1]
  by_cases c : na = 4
  · subst c
    rw [if_neg (by decide), if_pos (by decide)]
    exact Or.inl ⟨-1000003, by decide, rfl, rfl⟩
  have hna : na < 4 := by omega
  rw [if_pos (show nI na < 4 from nI_lt (b := 4) hna (by decide)), if_neg (show ¬ nI na = 4 from fun q => c ((nI_eq (b := 4) (by omega) (by decide)).mp q))]
  have hX' := (((hX.up (k := 15) (j := na) (by unfold cj_dm; omega) (by decide) (by omega) (by omega) (nI x2)).up (k := 16) (j := na) (by unfold cj_dm; omega) (by decide) (by omega) (by omega) a2).sk19 hna (by
    have r1 : cj_ix 15 na = 159 + 6 * na := rfl
    have r2 : cj_ix 16 na = 160 + 6 * na := rfl
    rw [r1, r2, pk_un (by omega), pk_un (by omega)]
    exact p4 na (Nat.le_refl _) hna) (-1)).up (k := 14) (j := 0) (by decide) (by decide) (by omega) (by omega) (nI (na + 1))
  have hX' : cj_RX N (cj_up2 (cj_up2 (cj_up2 σ 15 na (nI x2)) 16 na a2) 14 0 (nI (na + 1))) (upd (upd (upd (upd (τ 1) (159 + 6 * na) (nI x2)) (160 + 6 * na) a2) (163 + 6 * na) (-1)) 1 (nI (na + 1))) := by
    have r1 : cj_ix 15 na = 159 + 6 * na := rfl
    have r2 : cj_ix 16 na = 160 + 6 * na := rfl
    have r3 : cj_ix 14 0 = 1 := rfl
    rw [← r1, ← r2, ← r3]
    exact hX'
  have hW' : cj_WF B T N (upd (upd (upd (upd (τ 1) (159 + 6 * na) (nI x2)) (160 + 6 * na) a2) (163 + 6 * na) (-1)) 1 (nI (na + 1))) := hW.pap hN p1 hna ⟨hy, hx2⟩ pk_us (by rw [pk_un (by omega), pk_un (by omega), pk_un (by omega), pk_us]) (fun i q1 q2 q3 q4 => by rw [pk_un q1, pk_un q4, pk_un q3, pk_un q2])
  refine Or.inr ⟨nI na, _, _, nI_pos' (by omega), ?_, ?_, hX'.c hW'⟩
  · simp only [cj_lt1, cj_o, Nat.reduceBEq, hq.r14, p1, cj_gdN hna (by decide : 4 < 2147483648), cj_tn (show na < 2147483648 by omega), nI_1, cj_s, pk_us, nI_pred]
  · have k0 : (159 : Int32) + 6 * nI na + 0 = nI (159 + 6 * na) := cj_n6 na 0
    have k1 : (159 : Int32) + 6 * nI na + 1 = nI (160 + 6 * na) := by rw [show (1 : Int32) = nI 1 from rfl, cj_n6]; congr 1; omega
    have k4 : (159 : Int32) + 6 * nI na + 4 = nI (163 + 6 * na) := by rw [show (4 : Int32) = nI 4 from rfl, cj_n6]; congr 1; omega
    simp only [k0, k1, k4, cj_gdN (show 159 + 6 * na < 183 by omega) (by decide : 183 < 2147483648), cj_gdN (show 160 + 6 * na < 183 by omega) (by decide : 183 < 2147483648), cj_gdN (show 163 + 6 * na < 183 by omega) (by decide : 183 < 2147483648), cj_tn (show 159 + 6 * na < 2147483648 by omega), cj_tn (show 160 + 6 * na < 2147483648 by omega), cj_tn (show 163 + 6 * na < 2147483648 by omega)]
    rw [e1]
    simp only [cj_lt1, cj_u2]
    have z : cj_upr τ1 1 (upd (upd (upd (τ 1) (159 + 6 * na) (nI x2)) (160 + 6 * na) a2) (163 + 6 * na) (-1)) 1 1 = nI na := by
      rw [cj_upr_s, pk_un (by omega), pk_un (by omega), pk_un (by omega), p1]
    rw [z, nI_1, cj_uu]
theorem cj_tak (hq : cj_Rq N σ (τ 1)) (h0 : τ 1 0 = nI N) (hN : N ≤ 6) (a1 a2 : Int32) (K : Unit → Option (Int32 × cj_S)) : ∀ (k i n n' : Nat), i + k = N → k < n → k < n' → (f_X3_isTaken_L2 a1 a2 σ n (nI i) = some 0 ∧ f_X9_person_L23 K a1 a2 τ n' (nI i) = K ()) ∨ (f_X3_isTaken_L2 a1 a2 σ n (nI i) = some 1 ∧ f_X9_person_L23 K a1 a2 τ n' (nI i) = some (-1000002, τ)) := by
  intro k
  induction k with
  | zero =>
    intro i n n' hi hn hn'
    obtain ⟨n, rfl⟩ : ∃ x, n = x + 1 := ⟨n - 1, by omega⟩
    obtain ⟨n', rfl⟩ : ∃ x, n' = x + 1 := ⟨n' - 1, by omega⟩
    refine Or.inl ⟨?_, ?_⟩
    · rw [f_X3_isTaken_L2, hq.r1, h0, if_pos (nI_le (by omega) (by omega))]
    · rw [f_X9_person_L23, h0, if_pos (nI_le (by omega) (by omega))]
  | succ k ih =>
    intro i n n' hi hn hn'
    obtain ⟨n, rfl⟩ : ∃ x, n = x + 1 := ⟨n - 1, by omega⟩
    obtain ⟨n', rfl⟩ : ∃ x, n' = x + 1 := ⟨n' - 1, by omega⟩
    have o0 : f_X9_of τ (nI i) 0 = some (τ 1 (11 + 18 * i)) := m_of τ (p := i) (w := 0) (by omega)
    have o1 : f_X9_of τ (nI i) 1 = some (τ 1 (12 + 18 * i)) := by
      have := m_of τ (p := i) (w := 1) (by omega)
      rw [show 11 + 18 * i + 1 = 12 + 18 * i by omega] at this
      exact this
    have d0 : σ 2 i = τ 1 (11 + 18 * i) := hq.rp (k := 2) ⟨by decide, by decide⟩ (by omega) (by omega)
    have d1 : σ 3 i = τ 1 (12 + 18 * i) := hq.rp (k := 3) ⟨by decide, by decide⟩ (by omega) (by omega)
    rw [f_X3_isTaken_L2, f_X9_person_L23, hq.r1, h0, if_neg (nI_ge (by omega) (by omega)), if_neg (nI_ge (by omega) (by omega)), cj_gdN (by omega) (by decide), cj_gdN (by omega) (by decide), cj_tn (by omega), o0, o1, d0, d1, cj_bd1, cj_bd1, nI_1]
    have IH := ih (i + 1) n n' (by omega) (by omega) (by omega)
    by_cases c : τ 1 (11 + 18 * i) = a1
    · simp only [if_pos c]
      by_cases c2 : τ 1 (12 + 18 * i) = a2
      · simp only [if_pos c2]
        exact Or.inr ⟨trivial, trivial⟩
      · simp only [if_neg c2]
        exact IH
    · simp only [if_neg c]
      exact IH
theorem cj_fill (K : cj_S → Option (Int32 × cj_S)) (hN : N < 6) : ∀ (k f n : Nat) (m : Nat → Int32), f + k = 12 → k < n → ∃ m', f_X9_person_L106 K (nI N) n (nI f) (cj_upr τ1 1 m) = K (cj_upr τ1 1 m') ∧ ∀ i, m' i = if 17 + 18 * N + f ≤ i ∧ i < 29 + 18 * N then (-1) else m i := by
  intro k
  induction k with
  | zero =>
    intro f n m hf hn
    obtain ⟨n, rfl⟩ : ∃ x, n = x + 1 := ⟨n - 1, by omega⟩
    have hf : f = 12 := by omega
    subst hf
    refine ⟨m, ?_, fun i => ?_⟩
    · rw [f_X9_person_L106, if_pos (by decide)]
    · rw [if_neg (by omega)]
  | succ k ih =>
    intro f n m hf hn
    obtain ⟨n, rfl⟩ : ∃ x, n = x + 1 := ⟨n - 1, by omega⟩
    obtain ⟨m', h1, h2⟩ := ih (f + 1) n (upd m (11 + 18 * N + (6 + f)) (-1)) (by omega) (by omega)
    refine ⟨m', ?_, fun i => ?_⟩
    · rw [f_X9_person_L106, if_neg (show ¬ 12 ≤ nI f from nI_ge (a := f) (b := 12) (by omega) (by omega)), show (6 : Int32) = nI 6 from rfl, nI_add, n_sets τ1 m (-1) (by omega), cj_bd1, nI_1]
      exact h1
    · rw [h2]
      by_cases c : 17 + 18 * N + (f + 1) ≤ i ∧ i < 29 + 18 * N
      · rw [if_pos c, if_pos (by omega)]
      · rw [if_neg c]
        by_cases d : i = 11 + 18 * N + (6 + f)
        · rw [d, pk_us, if_pos (by omega)]
        · rw [pk_un d, if_neg (by omega)]
theorem cj_cperson (hR : cj_RC B T σ (τ 1)) (hc : f_X9_changes τ = some τ1) (h1 : τ1 1 = τ 1) (a1 a2 : Int32) : cj_Co B T σ τ τ1 (f_X0_addPerson σ a1 a2) (f_X9_person τ a1 a2) := by
  obtain ⟨N, hX, hW⟩ := hR.x
  obtain ⟨hN, h0, hq, hd, hs, hb⟩ := id hX
  have e1 : τ1 = cj_upr τ1 1 (τ 1) := by rw [← h1, cj_ui]
  unfold f_X0_addPerson f_X9_person f_X3_isTaken
  rw [show f_X9_in a1 0 3 = f_X8_isWithin a1 0 3 from rfl, show f_X9_in a2 0 5 = f_X8_isWithin a2 0 5 from rfl]
  rcases cj_in_c a1 0 3 with e2 | ⟨e2, g1, g2⟩
  · rw [e2]
    exact Or.inl ⟨-1000001, by decide, rfl, rfl⟩
  rw [e2]
  simp only [cj_bd1, if_neg cj_z1]
  rcases cj_in_c a2 0 5 with e3 | ⟨e3, g3, g4⟩
  · rw [e3]
    exact Or.inl ⟨-1000001, by decide, rfl, rfl⟩
  rw [e3, cj_bd1, cj_bd1, if_neg cj_z1, if_neg cj_z1]
  have TK := fun K => cj_tak hq h0 hN a1 a2 K N 0 cj_FU cj_FU (by omega) (by unfold cj_FU; omega) (by unfold cj_FU; omega)
  rcases TK _ with ⟨t1, t2⟩ | ⟨t1, t2⟩
  rotate_left
  · have t1 : f_X3_isTaken_L2 a1 a2 σ cj_FU 0 = some 1 := t1
    have t2 : f_X9_person_L23 _ a1 a2 τ cj_FU 0 = some (-1000002, τ) := t2
    rw [t1, t2]
    exact Or.inl ⟨-1000002, by decide, rfl, rfl⟩
  have t1 : f_X3_isTaken_L2 a1 a2 σ cj_FU 0 = some 0 := t1
  have t2 : f_X9_person_L23 _ a1 a2 τ cj_FU 0 = _ := t2
  rw [t1, t2, cj_bd1, if_pos rfl, hq.r1, h0]
  clear t1 t2
  by_cases c : N = 6
  · subst c
    rw [if_neg (by decide), if_pos (by decide)]
    exact Or.inl ⟨-1000003, by decide, rfl, rfl⟩
  have hN6 : N < 6 := by omega
  rw [if_pos (show nI N < 6 from nI_lt (b := 6) hN6 (by decide)), if_neg (show ¬ nI N = 6 from fun q => c ((nI_eq (b := 6) (by omega) (by decide)).mp q)), hc, cj_bd1]
  have w0 : f_X9_sets τ1 (nI N) 0 a1 = some (cj_upr τ1 1 (upd (τ 1) (11 + 18 * N) a1)) := by
    have := n_sets τ1 (τ 1) (p := N) (w := 0) a1 (by omega)
    rw [← e1] at this
    exact this
  have w1 : f_X9_sets (cj_upr τ1 1 (upd (τ 1) (11 + 18 * N) a1)) (nI N) 1 a2 = some (cj_upr τ1 1 (upd (upd (τ 1) (11 + 18 * N) a1) (12 + 18 * N) a2)) := by
    have := n_sets τ1 (upd (τ 1) (11 + 18 * N) a1) (p := N) (w := 1) a2 (by omega)
    rw [show 11 + 18 * N + 1 = 12 + 18 * N by omega] at this
    exact this
  have w4 : f_X9_sets (cj_upr τ1 1 (upd (upd (τ 1) (11 + 18 * N) a1) (12 + 18 * N) a2)) (nI N) 4 (-1) = some (cj_upr τ1 1 (upd (upd (upd (τ 1) (11 + 18 * N) a1) (12 + 18 * N) a2) (15 + 18 * N) (-1))) := by
    have := n_sets τ1 (upd (upd (τ 1) (11 + 18 * N) a1) (12 + 18 * N) a2) (p := N) (w := 4) (-1) (by omega)
    rw [show 11 + 18 * N + 4 = 15 + 18 * N by omega] at this
    exact this
  rw [w0, cj_bd1, w1, cj_bd1, w4, cj_bd1]
  have FI := fun K => cj_fill (τ1 := τ1) K hN6 12 0 cj_FU (upd (upd (upd (τ 1) (11 + 18 * N) a1) (12 + 18 * N) a2) (15 + 18 * N) (-1)) (by omega) (by unfold cj_FU; omega)
  obtain ⟨m5, f1, f2⟩ := FI _
  have f1 : f_X9_person_L106 _ (nI N) cj_FU 0 _ = _ := f1
  rw [f1]
  have lo : ∀ i, i < 11 → m5 i = τ 1 i := fun i hi => by
    rw [f2, if_neg (by omega), pk_un (by omega), pk_un (by omega), pk_un (by omega)]
  have z : cj_upr τ1 1 m5 1 0 = nI N := by rw [cj_upr_s, lo 0 (by omega), h0]
  have A : cj_Rq N (cj_up2 (cj_up2 (cj_up2 σ 2 N a1) 3 N a2) 1 0 (nI (N + 1))) (upd (upd (upd (τ 1) (11 + 18 * N) a1) (12 + 18 * N) a2) 0 (nI (N + 1))) :=
    ((hq.up (k := 2) (j := N) (by unfold cj_dm; omega) a1).up (k := 3) (j := N) (by unfold cj_dm; omega) a2).up (k := 1) (j := 0) (by decide) (nI (N + 1))
  have E : ∀ i, i ≠ 15 + 18 * N → ¬ (17 + 18 * N ≤ i ∧ i < 29 + 18 * N) → upd m5 0 (nI (N + 1)) i = upd (upd (upd (τ 1) (11 + 18 * N) a1) (12 + 18 * N) a2) 0 (nI (N + 1)) i := by
    intro i q1 q2
    by_cases d : i = 0
    · rw [d, pk_us, pk_us]
    · rw [pk_un d, pk_un d, f2, if_neg (by omega), pk_un q1]
  have E2 : ∀ i, (i < 11 + 18 * N ∨ 29 + 18 * N ≤ i) → i ≠ 0 → upd m5 0 (nI (N + 1)) i = τ 1 i := by
    intro i q1 q2
    rw [pk_un q2, f2, if_neg (by omega), pk_un (by omega), pk_un (by omega), pk_un (by omega)]
  have hX' : cj_RX (N + 1) (cj_up2 (cj_up2 (cj_up2 σ 2 N a1) 3 N a2) 1 0 (nI (N + 1))) (upd m5 0 (nI (N + 1))) := by
    refine ⟨hN6, pk_us, fun k j hdm h19 g6 g8 => ?_, fun j q1 q2 => hd j (by omega) q2, fun j q1 q2 => hs j (by omega) q2, fun q hq' => ?_⟩
    · by_cases c6 : k = 6 ∧ j = N
      · obtain ⟨rfl, rfl⟩ := c6
        have : upd m5 0 (nI (j + 1)) (cj_ix 6 j) = (-1) := by
          have r : cj_ix 6 j = 15 + 18 * j := rfl
          rw [r, pk_un (by omega), f2, if_neg (by omega), pk_us]
        rw [this]
        exact hd j (Nat.le_refl _) hN6
      · by_cases c8 : k = 8 ∧ 12 * N ≤ j
        · obtain ⟨rfl, c8⟩ := c8
          have hj := g8 rfl
          have : upd m5 0 (nI (N + 1)) (cj_ix 8 j) = (-1) := by
            have r : cj_ix 8 j = 17 + 18 * (j / 12) + j % 12 := rfl
            rw [r, pk_un (by omega), f2, if_pos (by omega)]
          rw [this]
          exact hs j c8 (by omega)
        · rw [A k j hdm h19 (fun q => by have := g6 q; omega) (fun q => by have := g8 q; omega)]
          refine (E _ (fun e => ?_) (fun e => ?_)).symm
          · exact c6 (cj_ix_inj (k' := 6) (j' := N) hdm (by unfold cj_dm; omega) e)
          · have r : cj_ix k j = cj_ix 8 (12 * N + (cj_ix k j - (17 + 18 * N))) := by
              have r2 : ∀ f, f < 12 → cj_ix 8 (12 * N + f) = 17 + 18 * N + f := fun f hf => by
                show 17 + 18 * ((12 * N + f) / 12) + (12 * N + f) % 12 = _
                omega
              rw [r2 _ (by omega)]
              omega
            have r3 := cj_ix_inj hdm (by unfold cj_dm; omega) r
            exact c8 ⟨r3.1, by omega⟩
    · rw [E2 _ (by omega) (by omega), E2 _ (by omega) (by omega)]
      exact hb q hq'
  have hW' : cj_WF B T (N + 1) (upd m5 0 (nI (N + 1))) := by
    obtain ⟨w1, w2, w3, w4, w5, w6, w7, w8, w9⟩ := cj_WFi.mp hW
    refine cj_WFi.mpr ⟨w1.cg (E2 _ (by omega) (by omega)) (fun q hq => E2 _ (by omega) (by omega)) (fun q hq => E2 _ (by omega) (by omega)), w2.cg (Nat.le_refl _) (Nat.le_succ _) (E2 _ (by omega) (by omega)) (E2 _ (by omega) (by omega)) (E2 _ (by omega) (by omega)) (E2 _ (by omega) (by omega)) (fun q hq => E2 _ (by omega) (by omega)) (fun q hq => E2 _ (by omega) (by omega)) (fun q hq => E2 _ (by omega) (by omega)), w3.cg (Nat.le_refl _) (E2 _ (by omega) (by omega)), w4.cg (Nat.le_succ _) (E2 _ (by omega) (by omega)), w5.cg (E2 _ (by omega) (by omega)), w6.cg (E2 _ (by omega) (by omega)), w7.cg (E2 _ (by omega) (by omega)), w8.cg (fun q hq => ?_) (fun q hq => ?_), fun p hp f hf => ?_⟩
    · rw [E _ (by omega) (by omega), pk_un (by omega), pk_un (by omega), pk_un (by omega)]
    · rw [E _ (by omega) (by omega), pk_un (by omega), pk_un (by omega), pk_un (by omega)]
    · by_cases e : p = N
      · subst e
        rw [pk_un (by omega), f2, if_pos (by omega)]
        exact Or.inl rfl
      · rw [E2 _ (by omega) (by omega)]
        exact w9 p (by omega) f hf
  refine Or.inr ⟨nI N, _, _, nI_pos' (by omega), ?_, ?_, hX'.c hW'⟩
  · simp only [cj_lt1, cj_o, Nat.reduceBEq, hq.r1, h0, cj_gdN hN6 (by decide : 6 < 2147483648), cj_tn (show N < 2147483648 by omega), nI_1, cj_s, pk_us, nI_pred]
  · rw [z, nI_1, cj_lt1, cj_u2]
end CJX
