/-! the best sale, and all sales -/
def cj_Bi (σ τ : cj_S) (ns na : Nat) (s0 s : cj_Mm) (x1 x2 : Int32) : Prop := (∀ g, g ≠ 4 → s g = s0 g) ∧ s 4 0 2 = x2 ∧ ((x2 = (-1) ∧ x1 = (-1000004)) ∨ ∃ k q v, k < ns ∧ q < na ∧ x1 = nI (10 * k + q) ∧ x2 = nI v ∧ v ≤ 480 ∧ s 4 0 0 = σ 10 k ∧ s 4 0 1 = nI q ∧ f_X9_priceOf τ (nI k) (nI q) = some (nI v) ∧ f_X9_canSell τ (nI k) (nI q) = some 1)
section CJK
variable {B T N ns na g : Nat} {σ τ : cj_S} {s0 : cj_Mm}
theorem cj_b20 (hg : g ≠ 4) (hσ : s0 g = σ) (hX : cj_RX N σ (τ 1)) (hW : cj_WF B T N (τ 1)) (p1 : τ 1 2 = nI ns) (p2 : ns ≤ 10) (u1 : τ 1 1 = nI na) (u2 : na ≤ 4) {k : Nat} (hk : k < ns) (K : cj_Mm → Option (Int32 × cj_Mm)) (K' : Int32 → Int32 → Option Int32) : ∀ (d q n n' : Nat) (s : cj_Mm) (x1 x2 : Int32), q + d = na → d < n → d < n' → cj_Bi σ τ ns na s0 s x1 x2 → ∃ s' y1 y2, f_X0_findBestSale_L20 K g (nI k) n (nI q) s = K s' ∧ f_X9_bestSale_L20 K' (nI k) τ n' x1 x2 (nI q) = K' y1 y2 ∧ cj_Bi σ τ ns na s0 s' y1 y2 := by
  obtain ⟨hN, h0, hq, hd, hs, hb⟩ := id hX
  obtain ⟨ns', bg, -, -, p1', p2', -, -, -, -, -, -, -, p10⟩ := (cj_WFi.mp hW).2.1
  have : ns' = ns := (nI_eq (by omega) (by omega)).mp (p1'.symm.trans p1)
  subst this
  obtain ⟨na', u1', u2', u3, -⟩ := (cj_WFi.mp hW).1
  have : na' = na := (nI_eq (by omega) (by omega)).mp (u1'.symm.trans u1)
  subst this
  obtain ⟨⟨w, hw, w1⟩, ⟨x, hx, x1'⟩⟩ := p10 k hk
  intro d
  induction d with
  | zero =>
    intro q n n' s x1 x2 hqd hn hn' hI
    obtain ⟨n, rfl⟩ : ∃ x, n = x + 1 := ⟨n - 1, by omega⟩
    obtain ⟨n', rfl⟩ : ∃ x, n' = x + 1 := ⟨n' - 1, by omega⟩
    refine ⟨s, x1, x2, ?_, ?_, hI⟩
    · rw [f_X0_findBestSale_L20, hI.1 g hg, hσ, hq.r14, u1, if_pos (nI_le (by omega) (by omega))]
    · rw [f_X9_bestSale_L20, u1, if_pos (nI_le (by omega) (by omega))]
  | succ d ih =>
    intro q n n' s x1 x2 hqd hn hn' hI
    obtain ⟨n, rfl⟩ : ∃ x, n = x + 1 := ⟨n - 1, by omega⟩
    obtain ⟨n', rfl⟩ : ∃ x, n' = x + 1 := ⟨n' - 1, by omega⟩
    obtain ⟨r, hr, -, hr2⟩ := u3 q (by omega)
    obtain ⟨v, hv, v1, v2⟩ := cj_price hq hN (k := k) (q := q) (by omega) (by omega) w1 hw x1' hx hr hr2
    obtain ⟨c1, c2⟩ := cj_can hq hb (k := k) (q := q) (by omega) (by omega)
    obtain ⟨I1, I2, I3⟩ := id hI
    rw [f_X0_findBestSale_L20, f_X9_bestSale_L20, I1 g hg, hσ, hq.r14, u1, if_neg (nI_ge (by omega) (by omega)), if_neg (nI_ge (by omega) (by omega)), v1, c1, I2, nI_1]
    simp only [cj_bd1, cj_lt1]
    rcases c2 with c2 | c2
    · rw [c2]
      simp only [cj_bd1, if_true]
      have IH := ih (q + 1) n n' s x1 x2 (by omega) (by omega) (by omega) hI
      by_cases c : nI v ≤ x2
      · rw [if_pos c]
        exact IH
      · rw [if_neg c]
        exact IH
    · rw [c2, v2]
      simp only [cj_bd1, if_neg cj_z1]
      by_cases c : nI v ≤ x2
      · rw [if_pos c, if_pos c]
        simp only [if_true]
        exact ih (q + 1) n n' s x1 x2 (by omega) (by omega) (by omega) hI
      · rw [if_neg c, if_neg c, cj_gdN (show k < 10 by omega) (by decide), cj_tn (by omega), show (10 : Int32) = nI 10 from rfl, pk_mul, nI_add]
        refine ih (q + 1) n n' _ (nI (10 * k + q)) (nI v) (by omega) (by omega) (by omega) ⟨fun g' hg' => ?_, ?_, Or.inr ⟨k, q, v, hk, by omega, rfl, rfl, hv, ?_, ?_, v2, c2⟩⟩
        · rw [cj_upG_o hg', cj_upG_o hg', cj_upG_o hg', I1 g' hg']
        · rw [cj_upG_s, cj_at2, if_pos ⟨rfl, rfl⟩]
        · rw [cj_upG_s, cj_at2, if_neg (by omega), cj_upG_s, cj_at2, if_neg (by omega), cj_upG_s, cj_at2, if_pos ⟨rfl, rfl⟩]
        · rw [cj_upG_s, cj_at2, if_neg (by omega), cj_upG_s, cj_at2, if_pos ⟨rfl, rfl⟩]
theorem cj_b7 (hg : g ≠ 4) (hσ : s0 g = σ) (hX : cj_RX N σ (τ 1)) (hW : cj_WF B T N (τ 1)) (p1 : τ 1 2 = nI ns) (p2 : ns ≤ 10) (u1 : τ 1 1 = nI na) (u2 : na ≤ 4) (K : cj_Mm → Option (Int32 × cj_Mm)) : ∀ (d k n n' : Nat) (s : cj_Mm) (x1 x2 : Int32), k + d = ns → d < n → d < n' → cj_Bi σ τ ns na s0 s x1 x2 → ∃ s' y1 y2, f_X0_findBestSale_L7 K g n (nI k) s = K s' ∧ f_X9_bestSale_L7 τ n' x1 x2 (nI k) = some y1 ∧ cj_Bi σ τ ns na s0 s' y1 y2 := by
  intro d
  induction d with
  | zero =>
    intro k n n' s x1 x2 hkd hn hn' hI
    obtain ⟨n, rfl⟩ : ∃ x, n = x + 1 := ⟨n - 1, by omega⟩
    obtain ⟨n', rfl⟩ : ∃ x, n' = x + 1 := ⟨n' - 1, by omega⟩
    refine ⟨s, x1, x2, ?_, ?_, hI⟩
    · rw [f_X0_findBestSale_L7, hI.1 g hg, hσ, hX.2.2.1.r9, p1, if_pos (nI_le (by omega) (by omega))]
    · rw [f_X9_bestSale_L7, p1, if_pos (nI_le (by omega) (by omega))]
  | succ d ih =>
    intro k n n' s x1 x2 hkd hn hn' hI
    obtain ⟨n, rfl⟩ : ∃ x, n = x + 1 := ⟨n - 1, by omega⟩
    obtain ⟨n', rfl⟩ : ∃ x, n' = x + 1 := ⟨n' - 1, by omega⟩
    obtain ⟨s1, z1, z2, b1, b2, b3⟩ := cj_b20 hg hσ hX hW p1 p2 u1 u2 (k := k) (by omega) (fun (s16 : cj_Mm) => f_X0_findBestSale_L7 K g n (nI k + 1) s16) (fun (x23 : Int32) (x24 : Int32) => f_X9_bestSale_L7 τ n' x23 x24 (nI k + 1)) na 0 cj_FU cj_FU s x1 x2 (by omega) (by unfold cj_FU; omega) (by unfold cj_FU; omega) hI
    obtain ⟨s', y1, y2, r1, r2, r3⟩ := ih (k + 1) n n' s1 z1 z2 (by omega) (by omega) (by omega) b3
    refine ⟨s', y1, y2, ?_, ?_, r3⟩
    · rw [f_X0_findBestSale_L7, hI.1 g hg, hσ, hX.2.2.1.r9, p1, if_neg (nI_ge (by omega) (by omega))]
      have b1 : f_X0_findBestSale_L20 _ g (nI k) cj_FU 0 s = _ := b1
      rw [b1, nI_1]
      exact r1
    · rw [f_X9_bestSale_L7, p1, if_neg (nI_ge (by omega) (by omega))]
      have b2 : f_X9_bestSale_L20 _ (nI k) τ cj_FU x1 x2 0 = _ := b2
      rw [b2, nI_1]
      exact r2
theorem cj_fbs (hg : g ≠ 4) (hσ : s0 g = σ) (hX : cj_RX N σ (τ 1)) (hW : cj_WF B T N (τ 1)) (p1 : τ 1 2 = nI ns) (p2 : ns ≤ 10) (u1 : τ 1 1 = nI na) (u2 : na ≤ 4) : ∃ s', (∀ g, g ≠ 4 → s' g = s0 g) ∧ ((f_X9_bestSale τ = some (-1000004) ∧ f_X0_findBestSale g s0 = some (0, s')) ∨ ∃ k q v, k < ns ∧ q < na ∧ f_X9_bestSale τ = some (nI (10 * k + q)) ∧ f_X0_findBestSale g s0 = some (1, s') ∧ s' 4 0 0 = σ 10 k ∧ s' 4 0 1 = nI q ∧ s' 4 0 2 = nI v ∧ f_X9_priceOf τ (nI k) (nI q) = some (nI v) ∧ f_X9_canSell τ (nI k) (nI q) = some 1) := by
  obtain ⟨s', y1, y2, r1, r2, r3, r4, r5⟩ := cj_b7 (s0 := s0) hg hσ hX hW p1 p2 u1 u2 (fun (s17 : cj_Mm) => if (s17 4 0 2) = ((-1)) then some (0, s17) else some (1, s17)) ns 0 cj_FU cj_FU (cj_upG s0 4 (cj_up2 (s0 4) 0 2 (-1))) (-1000004) (-1) (by omega) (by unfold cj_FU; omega) (by unfold cj_FU; omega) ⟨fun g hg => cj_upG_o hg, by rw [cj_upG_s, cj_at2, if_pos ⟨rfl, rfl⟩], Or.inl ⟨rfl, rfl⟩⟩
  have r1 : f_X0_findBestSale_L7 _ g cj_FU 0 _ = _ := r1
  have r2 : f_X9_bestSale_L7 τ cj_FU (-1000004) (-1) 0 = some y1 := r2
  refine ⟨s', r3, ?_⟩
  unfold f_X9_bestSale f_X0_findBestSale
  rw [cj_lt1, r2, r1]
  rcases r5 with ⟨a1, a2⟩ | ⟨k, q, v, a1, a2, a3, a4, a5, a6, a7, a8, a9⟩
  · rw [r4, a1, a2, if_pos rfl]
    exact Or.inl ⟨rfl, rfl⟩
  · rw [r4, a3, a4, if_neg (cj_nm1 (by omega))]
    exact Or.inr ⟨k, q, v, a1, a2, rfl, rfl, a6, a7, rfl, a8, a9⟩
end CJK
section CJL
variable {n : Nat} {μ : cj_Mm} {τ : cj_S}
theorem cj_h18 (hR : cj_RR n μ τ) : cj_O18 (cj_RR (n + 1)) μ τ := by
  intro a1
  obtain ⟨N, hX, hW⟩ := hR.1.x
  obtain ⟨hN, h0, hq, hd, hs, hb⟩ := id hX
  obtain ⟨ns, bg, -, -, p1, p2, -⟩ := (cj_WFi.mp hW).2.1
  obtain ⟨na, u1, u2, -⟩ := (cj_WFi.mp hW).1
  unfold f_X8_best f_X9_best
  rw [show f_X9_in a1 0 2 = f_X8_isWithin a1 0 2 from rfl]
  rcases cj_in_c a1 0 2 with e2 | ⟨e2, g1, g2⟩
  · rw [e2]
    exact ⟨_, _, rfl, rfl, hR.up⟩
  rw [e2]
  obtain ⟨f, rfl, -, hf⟩ := cj_in_n (lo := 0) (hi := 2) rfl rfl (by decide) g1 g2 (by decide)
  simp only [cj_bd1, if_neg cj_z1]
  obtain ⟨s', s1, s2⟩ := cj_fbs (g := 5) (s0 := μ) (by decide) rfl hX hW p1 p2 u1 u2
  have hS : cj_RR (n + 1) s' τ := hR.up.same (fun g hg => s1 g (by omega)) (fun _ _ => rfl) rfl rfl rfl rfl rfl
  rcases s2 with ⟨b1, b2⟩ | ⟨k, q, v, c1, c2, b1, b2, c3, c4, c5, c6, c7⟩
  · rw [b1, b2, cj_bp1, cj_bd1, if_pos rfl, if_neg (by decide)]
    exact ⟨_, _, rfl, rfl, hS⟩
  · have hk10 : k < 10 := by omega
    have d1 : nI (10 * k + q) / 10 = nI k := by
      rw [show (10 : Int32) = nI 10 from rfl, pk_div (by omega) (by decide) (by decide), show (10 * k + q) / 10 = k by omega]
    have d2 : nI (10 * k + q) - nI (10 * k + q) / 10 * 10 = nI q := by
      rw [show (10 : Int32) = nI 10 from rfl, pk_rem (by omega) (by decide) (by decide), show (10 * k + q) % 10 = q by omega]
    rw [d1] at d2
    have o0 : f_X9_ofSheet τ (nI k) 0 = some (τ 1 (119 + 4 * k)) := cj_ofS1 (w := 0) hk10 (by decide)
    rw [b1, b2, cj_bp1, cj_bd1, if_neg cj_z1, if_pos (nI_pos' (by omega)), d1, d2, c3, c4, c5, c6, o0, hq.rk (k := 10) ⟨by decide, by decide⟩ hk10]
    have : f = 0 ∨ f = 1 ∨ f = 2 := by omega
    rcases this with rfl | rfl | rfl
    · exact ⟨_, _, rfl, rfl, hS⟩
    · exact ⟨_, _, rfl, rfl, hS⟩
    · exact ⟨_, _, rfl, rfl, hS⟩
theorem cj_sal {B T N : Nat} (τ1 : cj_S) (hT : T ≤ 20000) (hB : B < 2147483648) (K : Int32 → cj_S → Option (Int32 × cj_S)) {na : Nat} (u2 : na ≤ 4) : ∀ (c x n n' : Nat) (acc : Int32) (s : cj_Mm) (m : Nat → Int32) (ns : Nat), x + c = 10 → c < n → c < n' → ns ≤ c → m 2 = nI ns → m 1 = nI na → cj_RX N (s 6) m → cj_WF B T N m → ∃ tot s' m', f_X8_sellAll_L15 n acc (nI x) s = some (tot, s') ∧ (∀ b, f_X9_bestSale (cj_upr τ1 1 m) = some b → f_X9_sellAll_L18 K n' acc b (cj_upr τ1 1 m) = K tot (cj_upr τ1 1 m')) ∧ (∃ b, f_X9_bestSale (cj_upr τ1 1 m) = some b) ∧ (∀ g, g ≠ 4 → g ≠ 6 → s' g = s g) := by
  intro c
  induction c with
  | zero =>
    intro x n n' acc s m ns hx hn hn' hns p1 u1 hX hW
    obtain ⟨n, rfl⟩ : ∃ x, n = x + 1 := ⟨n - 1, by omega⟩
    obtain ⟨n', rfl⟩ : ∃ x, n' = x + 1 := ⟨n' - 1, by omega⟩
    obtain ⟨s1, q1, q2⟩ := cj_fbs (τ := cj_upr τ1 1 m) (g := 6) (s0 := s) (by decide) rfl hX hW p1 (by omega) u1 u2
    have hx10 : x = 10 := by omega
    subst hx10
    rcases q2 with ⟨b1, b2⟩ | ⟨k, q, v, c1, -⟩
    · refine ⟨acc, s, m, ?_, fun b hb => ?_, ⟨_, b1⟩, fun g _ _ => rfl⟩
      · rw [f_X8_sellAll_L15, if_pos (by decide)]
      · rw [b1] at hb
        rw [← Option.some.inj hb, f_X9_sellAll_L18, if_pos (by decide)]
    · omega
  | succ c ih =>
    intro x n n' acc s m ns hx hn hn' hns p1 u1 hX hW
    obtain ⟨n, rfl⟩ : ∃ x, n = x + 1 := ⟨n - 1, by omega⟩
    obtain ⟨n', rfl⟩ : ∃ x, n' = x + 1 := ⟨n' - 1, by omega⟩
    obtain ⟨s1, q1, q2⟩ := cj_fbs (τ := cj_upr τ1 1 m) (g := 6) (s0 := s) (by decide) rfl hX hW p1 (by omega) u1 u2
    have hx10 : ¬ (10 : Int32) ≤ nI x := nI_ge (a := x) (b := 10) (by omega) (by decide)
    rcases q2 with ⟨b1, b2⟩ | ⟨k, q, v, c1, c2, b1, b2, c3, c4, c5, c6, c7⟩
    · refine ⟨acc, s1, m, ?_, fun b hb => ?_, ⟨_, b1⟩, fun g hg _ => q1 g hg⟩
      · rw [f_X8_sellAll_L15, if_neg hx10, b2, cj_bp1, if_pos rfl]
      · rw [b1] at hb
        rw [← Option.some.inj hb, f_X9_sellAll_L18, if_pos (by decide)]
    · obtain ⟨hN, h0, hq, hd, hs, hb⟩ := id hX
      have hk10 : k < 10 := by omega
      have d1 : nI (10 * k + q) / 10 = nI k := by
        rw [show (10 : Int32) = nI 10 from rfl, pk_div (by omega) (by decide) (by decide), show (10 * k + q) / 10 = k by omega]
      have d2 : nI (10 * k + q) - nI (10 * k + q) / 10 * 10 = nI q := by
        rw [show (10 : Int32) = nI 10 from rfl, pk_rem (by omega) (by decide) (by decide), show (10 * k + q) % 10 = q by omega]
      rw [d1] at d2
      obtain ⟨k1, k2⟩ := cj_can (τ := cj_upr τ1 1 m) hq hb (k := k) (q := q) hk10 (by omega)
      rw [c7] at k1
      have pl : f_X6_placeOf (s 6) (s 6 10 k) = some (nI k) := by
        rcases cj_slot (τ := cj_upr τ1 1 m) hq p1 (by omega) (s 6 10 k) with ⟨-, -, z⟩ | ⟨j, z1, z2, z3, z4, -⟩
        · exact absurd (hq.rk (k := 10) ⟨by decide, by decide⟩ hk10).symm (z k c1)
        · have : j = k := by
            obtain ⟨ns', bg, -, -, y1, y2, -, y4, -, -, -, -, ⟨nm, y9⟩, -⟩ := (cj_WFi.mp hW).2.1
            have : ns' = ns := (nI_eq (by omega) (by omega)).mp (y1.symm.trans p1)
            subst this
            have e1 := (y9 j z1).1
            have e2 := (y9 k c1).1
            have z2 : m (119 + 4 * j) = s 6 10 k := z2
            have e3 : s 6 10 k = m (119 + 4 * k) := hq.rk (k := 10) ⟨by decide, by decide⟩ hk10
            have e4 : nm j = nm k := (nI_eq (by have := (y9 j z1).2.1; omega) (by have := (y9 k c1).2.1; omega)).mp (e1.symm.trans (z2.trans (e3.trans e2)))
            have lt1 := (y9 k c1).2.2 j
            have lt2 := (y9 j z1).2.2 k
            omega
          rw [← this]
          rw [this] at z4 ⊢
          exact z4
      obtain ⟨v', σ', m1, g1, g2, g3, g4, g5, g6, g7⟩ := cj_sells τ1 hT hB hX hW p1 (by omega) c1 u1 u2 c2 (s 6 10 k) pl k1
      obtain ⟨tot, s', m', r1, r2, ⟨b', r3⟩, r4⟩ := ih (x + 1) n n' (acc + nI v') (cj_upG s1 6 σ') m1 (ns - 1) (by omega) (by omega) (by omega) (by omega) g6 g7 (by rw [cj_upG_s]; exact g4) g5
      refine ⟨tot, s', m', ?_, fun b hb' => ?_, ⟨_, b1⟩, fun g h4 h6 => ?_⟩
      · rw [f_X8_sellAll_L15, if_neg hx10, b2, cj_bp1, if_neg cj_z1, q1 6 (by decide), c3, c4, g2, cj_bp1, cj_lt1, nI_1]
        exact r1
      · rw [b1] at hb'
        rw [← Option.some.inj hb', f_X9_sellAll_L18, if_neg (nI_pos (by omega)), d1, d2, g3, cj_bp1, r3, cj_bd1]
        exact r2 b' r3
      · rw [r4 g h4 h6, cj_upG_o h6, q1 g h4]
theorem cj_h19 (hn : n < 512) (hR : cj_RR n μ τ) : cj_O19 (cj_RR (n + 1)) μ τ := by
  obtain ⟨N, hX, hW⟩ := hR.1.x
  obtain ⟨hN, h0, hq, hd, hs, hb⟩ := id hX
  obtain ⟨ns, bg, -, -, p1, p2, -⟩ := (cj_WFi.mp hW).2.1
  obtain ⟨na, u1, u2, -⟩ := (cj_WFi.mp hW).1
  show cj_Tmm (cj_RR (n + 1)) μ τ (f_X8_sellAll μ) (f_X9_sellAll τ)
  unfold f_X8_sellAll f_X9_sellAll
  obtain ⟨X, x1, x2⟩ := cj_copyF (gd := 6) (gs := 5) (by decide) μ
  obtain ⟨s4, c1, c2, c3⟩ := cj_cop (kf := 1) (kt := 4) (by decide) τ
  have s41 : s4 1 = τ 1 := c3 1 (by decide)
  have e1 : s4 = cj_upr s4 1 (τ 1) := by rw [← s41, cj_ui]
  have A := fun K => cj_sal (B := 20 * n) (T := 9999) (N := N) s4 (by decide) (by omega) K u2 10 0 cj_FU cj_FU 0 (cj_upG μ 6 X) (τ 1) ns (by omega) (by unfold cj_FU; omega) (by unfold cj_FU; omega) p2 p1 u1 (by rw [cj_upG_s]; exact hX.eq x2 (fun _ _ => rfl)) hW
  obtain ⟨tot, s', m', r1, r2, ⟨b, r3⟩, r4⟩ := A (fun (x15 : Int32) (s16 : cj_S) => cj_bd (f_X9_copies 4 1 s16) (fun (s18 : cj_S) => some (x15, s18)))
  obtain ⟨s18, d1, d2, d3⟩ := cj_cop (kf := 4) (kt := 1) (by decide) (cj_upr s4 1 m')
  have r5 := r2 b r3
  rw [← e1] at r3 r5
  have r1 : f_X8_sellAll_L15 cj_FU 0 0 (cj_upG μ 6 X) = _ := r1
  rw [x1, c1, cj_bd1, cj_bd1, r1, r3, cj_bd1, r5, d1, cj_bd1]
  refine ⟨tot, s', s18, rfl, rfl, hR.up.same (fun g hg => ?_) (fun j hj => ?_) ?_ ?_ ?_ ?_ ?_⟩
  · rw [r4 g (by omega) (by omega), cj_upG_o (by omega)]
  · rw [d2 j hj, cj_upr_o (by decide), c2 j hj]
  · rw [d3 2 (by decide), cj_upr_o (by decide), c3 2 (by decide)]
  · rw [d3 5 (by decide), cj_upr_o (by decide), c3 5 (by decide)]
  · rw [d3 0 (by decide), cj_upr_o (by decide), c3 0 (by decide)]
  · rw [d3 0 (by decide), cj_upr_o (by decide), c3 0 (by decide)]
  · rw [d3 0 (by decide), cj_upr_o (by decide), c3 0 (by decide)]
end CJL
