/-! when a feature is seen, what would be remembered -/
theorem cj_cops {kf kt : Nat} (hk : kf ≠ kt) : ∀ (k x n : Nat) (s : cj_S), x + k = 183 → k < n → ∃ s', f_X9_copies_L2 kf kt n (nI x) s = some s' ∧ ∀ r j, s' r j = if r = kt ∧ x ≤ j ∧ j < 183 then s kf j else s r j := by
  intro k
  induction k with
  | zero =>
    intro x n s hx hn
    obtain ⟨n, rfl⟩ : ∃ x, n = x + 1 := ⟨n - 1, by omega⟩
    have : x = 183 := by omega
    subst this
    refine ⟨s, ?_, fun r j => ?_⟩
    · rw [f_X9_copies_L2, if_pos (by decide)]
    · rw [if_neg (by omega)]
  | succ k ih =>
    intro x n s hx hn
    obtain ⟨n, rfl⟩ : ∃ x, n = x + 1 := ⟨n - 1, by omega⟩
    obtain ⟨s', r1, r2⟩ := ih (x + 1) n (cj_up2 s kt x (s kf x)) (by omega) (by omega)
    refine ⟨s', ?_, fun r j => ?_⟩
    · rw [f_X9_copies_L2, if_neg (show ¬ 183 ≤ nI x from nI_ge (a := x) (b := 183) (by omega) (by omega)), cj_gdN (by omega) (by decide), cj_gdN (by omega) (by decide), cj_tn (by omega), cj_lt1, nI_1]
      exact r1
    · rw [r2, cj_at2, cj_at2]
      by_cases c : r = kt ∧ x + 1 ≤ j ∧ j < 183
      · rw [if_pos c, if_neg (fun q => hk q.1), if_pos ⟨c.1, by omega, c.2.2⟩]
      · rw [if_neg c]
        by_cases d : r = kt ∧ j = x
        · rw [if_pos d, if_pos ⟨d.1, by omega, by omega⟩, d.2]
        · rw [if_neg d, if_neg (fun q => ?_)]
          by_cases e : j = x
          · exact d ⟨q.1, e⟩
          · exact c ⟨q.1, by omega, q.2.2⟩
theorem cj_cop {kf kt : Nat} (hk : kf ≠ kt) (s : cj_S) : ∃ s', f_X9_copies kf kt s = some s' ∧ (∀ j, j < 183 → s' kt j = s kf j) ∧ ∀ r, r ≠ kt → s' r = s r := by
  obtain ⟨s', h1, h2⟩ := cj_cops hk 183 0 cj_FU s (by omega) (by unfold cj_FU; omega)
  refine ⟨s', h1, fun j hj => ?_, fun r hr => ?_⟩
  · rw [h2, if_pos ⟨rfl, Nat.zero_le _, hj⟩]
  · funext j
    rw [h2, if_neg (fun q => hr q.1)]
theorem cj_RR.same {n : Nat} {μ μ' : cj_Mm} {τ τ' : cj_S} (h : cj_RR n μ τ) (eg : ∀ g, g = 1 ∨ g = 2 ∨ g = 5 ∨ 7 ≤ g → μ' g = μ g) (e1 : ∀ j, j < 183 → τ' 1 j = τ 1 j) (e2 : τ' 2 = τ 2) (e5 : τ' 5 = τ 5) (f4 : τ' 0 4 = τ 0 4) (f5 : τ' 0 5 = τ 0 5) (f7 : τ' 0 7 = τ 0 7) : cj_RR n μ' τ' := by
  obtain ⟨r1, ⟨o, h, a1, a2, a3, a4, a5, a6⟩, ⟨len, l1, l2, l3, l4⟩, r4⟩ := h
  refine ⟨?_, ⟨o, h, a1, a2, ?_, ?_, f4.trans a5, fun i hi => ?_⟩, ⟨len, l1, ?_, f7.trans l3, fun i hi => ?_⟩, f5.trans r4⟩
  · rw [eg 5 (by omega)]
    exact r1.eq (fun k j _ => rfl) e1
  · rw [eg 1 (by omega), a3]
  · rw [eg 1 (by omega), a4]
  · rw [eg _ (by omega), e2]
    exact a6 i hi
  · rw [eg 2 (by omega), l2]
  · rw [eg 2 (by omega), e5]
    exact l4 i hi
section CJQ
variable {n : Nat} {μ : cj_Mm} {τ : cj_S}
theorem cj_sinL {N B T p f a s : Nat} {σ : cj_S} (μ : cj_Mm) (hμ : μ 5 = σ) (hq : cj_Rq N σ (τ 1)) (h0 : τ 1 0 = nI N) (hN : N ≤ 6) (hp : p < N) (hf : f < 12) (ha : τ 1 (13 + 18 * p) = nI a) (hs : τ 1 (14 + 18 * p) = nI s) (ha2 : a < 12) (hs2 : s < 12) : ∀ (k x n n' : Nat), x + k = 12 → k < n → k < n' → ∃ r, f_X8_seenIn_L29 (nI p) (nI f) μ n (nI x) = some r ∧ f_X9_seenIn_L23 (nI p) (nI f) τ n' (nI x) = some r := by
  obtain ⟨b, hb, b1, b2⟩ := cj_seenAt_eq hq h0 hN hp
  have o2 : f_X9_of τ (nI p) 2 = some (nI a) := by
    have := m_of τ (p := p) (w := 2) (by omega)
    rw [show 11 + 18 * p + 2 = 13 + 18 * p by omega, ha] at this
    exact this
  have o3 : f_X9_of τ (nI p) 3 = some (nI s) := by
    have := m_of τ (p := p) (w := 3) (by omega)
    rw [show 11 + 18 * p + 3 = 14 + 18 * p by omega, hs] at this
    exact this
  intro k
  induction k with
  | zero =>
    intro x n n' hx hn hn'
    obtain ⟨n, rfl⟩ : ∃ x, n = x + 1 := ⟨n - 1, by omega⟩
    obtain ⟨n', rfl⟩ : ∃ x, n' = x + 1 := ⟨n' - 1, by omega⟩
    have : x = 12 := by omega
    subst this
    exact ⟨-1000004, by rw [f_X8_seenIn_L29, if_pos (by decide)], by rw [f_X9_seenIn_L23, if_pos (by decide)]⟩
  | succ k ih =>
    intro x n n' hx hn hn'
    obtain ⟨n, rfl⟩ : ∃ x, n = x + 1 := ⟨n - 1, by omega⟩
    obtain ⟨n', rfl⟩ : ∃ x, n' = x + 1 := ⟨n' - 1, by omega⟩
    have hb2 : s * x ≤ 12 * 12 := Nat.mul_le_mul (by omega) (by omega)
    obtain ⟨v, hv, v1⟩ := cj_feat_v (Nat.mod_lt (a + s * x) (by decide : 0 < 12)) hb
    have L : f_X3_seenAfter σ (nI p) (nI x) = some (nI v) := by
      unfold f_X3_seenAfter
      rw [cj_ang hq (by omega) ha hs ha2 hs2 (k := x) (by omega), cj_bd1, b1, cj_bd1, v1, cj_bd1]
    obtain ⟨r, r1, r2⟩ := ih (x + 1) n n' (by omega) (by omega) (by omega)
    have hc := cj_bit01 (j := v) (f := f) hv hf
    rw [f_X8_seenIn_L29, f_X9_seenIn_L23, if_neg (show ¬ 12 ≤ nI x from nI_ge (a := x) (b := 12) (by omega) (by omega)), if_neg (show ¬ 12 ≤ nI x from nI_ge (a := x) (b := 12) (by omega) (by omega)), hμ, L, o2, o3]
    simp only [cj_bd1, cj_lt1]
    rw [pk_mul, nI_add, show a + x * s = a + s * x by rw [Nat.mul_comm], show (12 : Int32) = nI 12 from rfl, pk_rem (by omega) (by decide) (by decide), b2, v1, cj_bd1]
    unfold f_X8_hasBit
    by_cases c : (nI v >>> (nI f &&& 31)) &&& 1 = 0
    · rw [if_pos c, if_neg (fun q => hc.mp q c), cj_bd1, if_pos rfl, nI_1]
      exact ⟨r, r1, r2⟩
    · rw [if_neg c, if_pos (hc.mpr c), cj_bd1, if_neg cj_z1]
      exact ⟨_, rfl, rfl⟩
theorem cj_h16 (hR : cj_RR n μ τ) : cj_O16 (cj_RR (n + 1)) μ τ := by
  intro a1 a2
  obtain ⟨N, hX, hW⟩ := hR.1.x
  obtain ⟨hN, h0, hq, hd, hs, hb⟩ := id hX
  unfold f_X8_seenIn f_X9_seenIn
  rw [cj_has_eq hq.r1, show f_X9_in a2 0 11 = f_X8_isWithin a2 0 11 from rfl]
  rcases cj_per_c h0 hN a1 with e | ⟨p, hp, rfl, e⟩
  · rw [e]
    exact cj_val hR.up rfl rfl
  rw [e]
  rcases cj_in_c a2 0 11 with e2 | ⟨e2, g1, g2⟩
  · rw [e2]
    exact cj_val hR.up rfl rfl
  rw [e2]
  obtain ⟨f, rfl, -, hf⟩ := cj_in_n (lo := 0) (hi := 11) rfl rfl (by decide) g1 g2 (by decide)
  obtain ⟨⟨a, ha, ha2⟩, ⟨s, hs', hs2⟩⟩ := (cj_WFi.mp hW).2.2.2.2.2.2.2.1 p (by omega)
  obtain ⟨r, r1, r2⟩ := cj_sinL (B := 0) (T := 0) (f := f) μ rfl hq h0 hN hp (by omega) ha2 hs2 ha hs' 12 0 cj_FU cj_FU (by omega) (by unfold cj_FU; omega) (by unfold cj_FU; omega)
  have r1 : f_X8_seenIn_L29 (nI p) (nI f) μ cj_FU 0 = some r := r1
  have r2 : f_X9_seenIn_L23 (nI p) (nI f) τ cj_FU 0 = some r := r2
  simp only [cj_bd1, if_neg cj_z1, r1, r2]
  exact cj_val hR.up rfl rfl
theorem cj_rcg (τ1 : cj_S) {p : Nat} (hp : p < 6) {m m' : Nat → Int32} (e : ∀ i, i ≠ 6 → m i = m' i) : ∀ (k f n : Nat) (v : Int32), f + k = 12 → k < n → f_X9_remembered_L4 (nI p) (cj_upr τ1 1 m) n v (nI f) = f_X9_remembered_L4 (nI p) (cj_upr τ1 1 m') n v (nI f) := by
  intro k
  induction k with
  | zero =>
    intro f n v hf hn
    obtain ⟨n, rfl⟩ : ∃ x, n = x + 1 := ⟨n - 1, by omega⟩
    have : f = 12 := by omega
    subst this
    rw [f_X9_remembered_L4, f_X9_remembered_L4, if_pos (by decide), if_pos (by decide)]
  | succ k ih =>
    intro f n v hf hn
    obtain ⟨n, rfl⟩ : ∃ x, n = x + 1 := ⟨n - 1, by omega⟩
    rw [f_X9_remembered_L4, f_X9_remembered_L4, show (6 : Int32) = nI 6 from rfl, nI_add, n_of τ1 m (by omega), n_of τ1 m' (by omega), cj_upr_s, cj_upr_s, e (11 + 18 * p + (6 + f)) (by omega), e 9 (by omega), e 4 (by omega), nI_1]
    simp only [ih (f + 1) n _ (by omega) (by omega)]
theorem cj_h17 (hR : cj_RR n μ τ) : cj_O17 (cj_RR (n + 1)) μ τ := by
  intro a1 a2
  obtain ⟨N, hX, hW⟩ := hR.1.x
  obtain ⟨hN, h0, hq, hd, hs, hb⟩ := id hX
  obtain ⟨t, t1, t2⟩ := (cj_WFi.mp hW).2.2.1
  unfold f_X8_would f_X9_would
  rw [cj_has_eq hq.r1, show f_X9_in a2 0 300 = f_X8_isWithin a2 0 300 from rfl]
  rcases cj_per_c h0 hN a1 with e | ⟨p, hp, rfl, e⟩
  · rw [e]
    exact ⟨_, _, _, rfl, rfl, hR.up⟩
  rw [e]
  rcases cj_in_c a2 0 300 with e2 | ⟨e2, g1, g2⟩
  · rw [e2]
    exact ⟨_, _, _, rfl, rfl, hR.up⟩
  rw [e2]
  obtain ⟨d, rfl, -, hd3⟩ := cj_in_n (lo := 0) (hi := 300) rfl rfl (by decide) g1 g2 (by decide)
  obtain ⟨X, x1, x2⟩ := cj_copyF (gd := 6) (gs := 5) (by decide) μ
  obtain ⟨s6, c1, c2, c3⟩ := cj_cop (kf := 1) (kt := 4) (by decide) τ
  have s61 : s6 1 = τ 1 := c3 1 (by decide)
  have u : cj_up2 s6 1 5 (nI p) = cj_upr s6 1 (upd (τ 1) 5 (nI p)) := by rw [← s61, ← cj_u2, cj_ui]
  have hXX : cj_RX N (cj_up2 X 0 6 (nI p)) (upd (τ 1) 5 (nI p)) := (hX.eq x2 (fun _ _ => rfl)).up (k := 0) (j := 6) (by decide) (by decide) (by omega) (by omega) _
  have hWW := hW.look hN (v := nI p) (Or.inr ⟨p, hp, rfl⟩)
  obtain ⟨σ', m', a1, -, a3, a4, a5, -⟩ := cj_adv (T' := 10299) s6 hXX hWW (t := t) ((pk_un (by decide)).trans t1) hd3 (by omega) (by omega) (by omega)
  obtain ⟨v, hv, v1, v2⟩ := cj_rem (τ := cj_upr s6 1 (upd m' 6 0)) a4.2.2.1 hN a5 (by omega) hp
  obtain ⟨o, ho, o1, o2⟩ := cj_ones hv
  have v3 : f_X9_remembered (cj_upr s6 1 m') (nI p) = some (nI v) := by
    rw [← v2]
    exact cj_rcg s6 (show p < 6 by omega) (fun i hi => (pk_un hi).symm) 12 0 cj_FU 0 (by omega) (by unfold cj_FU; omega)
  obtain ⟨s21, d1, d2, d3⟩ := cj_cop (kf := 4) (kt := 1) (by decide) (cj_upr s6 1 m')
  rw [x1, c1]
  simp only [cj_bd1, if_neg cj_z1, cj_lt1, cj_upG_s, cj_upG_u, u, a1, a3, v1, v3, o1, o2, d1]
  refine ⟨nI o, _, s21, rfl, rfl, hR.up.same (fun g hg => cj_upG_o (by omega)) (fun j hj => ?_) ?_ ?_ ?_ ?_ ?_⟩
  · rw [d2 j hj, cj_upr_o (by decide), c2 j hj]
  · rw [d3 2 (by decide), cj_upr_o (by decide), c3 2 (by decide)]
  · rw [d3 5 (by decide), cj_upr_o (by decide), c3 5 (by decide)]
  · rw [d3 0 (by decide), cj_upr_o (by decide), c3 0 (by decide)]
  · rw [d3 0 (by decide), cj_upr_o (by decide), c3 0 (by decide)]
  · rw [d3 0 (by decide), cj_upr_o (by decide), c3 0 (by decide)]
end CJQ
