/-! questions, and a character typed -/
theorem cj_char {c : Nat} (h : c < 65536) : vp_nar .char (cj_ch (nI c)) = nI c := by
  have e : cj_ch (nI c) = nI c := by
    unfold cj_ch
    rw [pk_char, pk_tn (by omega), Nat.mod_eq_of_lt h]
  rw [e]
  unfold vp_nar
  rw [(pk_charN h).1]
section CJP
variable {n : Nat} {μ : cj_Mm} {τ : cj_S}
theorem cj_h23 (hR : cj_RR n μ τ) : cj_O23 (cj_RR (n + 1)) μ τ := by
  intro a1
  obtain ⟨r1, ⟨o, h, b1, b2, b3, b4, b5, b6⟩, ⟨len, l1, l2, l3, l4⟩, r4⟩ := hR.up
  unfold f_X8_type f_X7_append f_X9_type
  rw [show f_X9_in a1 32 126 = f_X8_isWithin a1 32 126 from rfl]
  rcases cj_in_c a1 32 126 with e | ⟨e, g1, g2⟩
  · rw [e, cj_bd1, if_pos rfl, cj_bp1, cj_upG_i]
    exact ⟨_, _, _, rfl, rfl, hR.up⟩
  rw [e]
  obtain ⟨c, rfl, c1, c2⟩ := cj_in_n (lo := 32) (hi := 126) rfl rfl (by decide) g1 g2 (by decide)
  rw [cj_bd1, cj_bd1, if_neg cj_z1, if_neg cj_z1, l2, l3]
  by_cases q : len = 60
  · subst q
    rw [if_neg (show ¬ nI 60 < 60 by decide), if_pos (show nI 60 = 60 from rfl), cj_bp1, cj_upG_i]
    exact ⟨_, _, _, rfl, rfl, hR.up⟩
  rw [if_pos (show nI len < 60 from nI_lt (b := 60) (by omega) (by decide)), if_neg (show ¬ nI len = 60 from fun z => q ((nI_eq (b := 60) (by omega) (by decide)).mp z)), cj_gdN (show len < 60 by omega) (by decide), cj_gdN (show len < 60 by omega) (by decide), cj_tn (show len < 2147483648 by omega), cj_char (show c < 65536 by omega)]
  have z1 : cj_up2 (μ 2) 1 len (nI c) 0 1 = nI len := by rw [cj_at2, if_neg (by omega), l2]
  have z2 : cj_up2 τ 5 len (nI c) 0 7 = nI len := by rw [cj_at2, if_neg (by omega), l3]
  simp only [cj_lt1, cj_bp1, z1, z2, nI_1, cj_s, pk_us]
  refine ⟨_, _, _, rfl, rfl, ?_, ⟨o, h, b1, b2, ?_, ?_, ?_, fun i hi => ?_⟩, ⟨len + 1, by omega, ?_, ?_, fun i hi => ?_⟩, ?_⟩
  · rw [cj_upG_o (by decide)]
    exact r1
  · rw [cj_upG_o (by decide), b3]
  · rw [cj_upG_o (by decide), b4]
  · rw [cj_at2, if_neg (by omega), cj_at2, if_neg (by omega), b5]
  · rw [cj_upG_o (by omega)]
    exact b6 i hi
  · rw [cj_upG_s, cj_at2, if_pos ⟨rfl, rfl⟩]
  · rw [cj_at2, if_pos ⟨rfl, rfl⟩]
  · by_cases e : i = len
    · subst e
      refine ⟨c, c1, c2, ?_, ?_⟩
      · rw [cj_upG_s, cj_at2, if_neg (by omega), cj_at2, if_pos ⟨rfl, rfl⟩]
      · rw [cj_at2, if_neg (by omega), cj_at2, if_pos ⟨rfl, rfl⟩]
    · obtain ⟨c', q1, q2, q3, q4⟩ := l4 i (by omega)
      refine ⟨c', q1, q2, ?_, ?_⟩
      · rw [cj_upG_s, cj_at2, if_neg (by omega), cj_at2, if_neg (by omega), q3]
      · rw [cj_at2, if_neg (by omega), cj_at2, if_neg (by omega), q4]
  · rw [cj_at2, if_neg (by omega), cj_at2, if_neg (by omega), r4]
theorem cj_val {R : cj_Mm → cj_S → Prop} {a b : Option Int32} (h : R μ τ) {r : Int32} (ha : a = some r) (hb : b = some r) : cj_Tpp R μ τ a b := ⟨r, ha, hb, h⟩
/-- a field's number -/
theorem cj_fld {a : Int32} {hi : Nat} {H : Int32} (hH : H = nI hi) (hh : hi < 2147483648) (h : f_X8_isWithin a 0 H = some 0) {i : Nat} (hi2 : i ≤ hi) : ¬ a = nI i := by
  intro e
  subst e
  subst hH
  unfold f_X8_isWithin at h
  rw [if_neg (nI_pos (by omega)), if_neg (nI_nlt hi2 (by omega))] at h
  cases h
theorem cj_h11 (hR : cj_RR n μ τ) : cj_O11 (cj_RR (n + 1)) μ τ := by
  intro a1 a2
  obtain ⟨N, hX, hW⟩ := hR.1.x
  obtain ⟨hN, h0, hq, hd, hs, hb⟩ := id hX
  obtain ⟨ns, bg, -, -, p1, p2, -⟩ := (cj_WFi.mp hW).2.1
  unfold f_X8_personOf f_X0_tellOfPerson f_X9_personOf
  rw [cj_has_eq hq.r1, show f_X9_in a2 0 8 = f_X8_isWithin a2 0 8 from rfl]
  rcases cj_per_c h0 hN a1 with e | ⟨p, hp, rfl, e⟩
  · rw [e]
    exact cj_val hR.up rfl rfl
  rw [e]
  simp only [cj_bd1, if_neg cj_z1]
  have hp6 : p < 6 := by omega
  have of' : ∀ w, w < 7 → f_X9_of τ (nI p) (nI w) = some (τ 1 (11 + 18 * p + w)) := fun w hw => m_of τ (by omega)
  simp only [cj_gdN hp6 (by decide : 6 < 2147483648), cj_tn (show p < 2147483648 by omega)]
  rcases cj_in_c a2 0 8 with e2 | ⟨e2, g1, g2⟩
  · have F := fun i hi => cj_fld (H := 8) (hi := 8) rfl (by decide) e2 (i := i) hi
    rw [e2, if_neg (show ¬ a2 = 0 from F 0 (by omega)), if_neg (show ¬ a2 = 1 from F 1 (by omega)), if_neg (show ¬ a2 = 2 from F 2 (by omega)), if_neg (show ¬ a2 = 3 from F 3 (by omega)), if_neg (show ¬ a2 = 4 from F 4 (by omega)), if_neg (show ¬ a2 = 5 from F 5 (by omega)), if_neg (show ¬ a2 = 6 from F 6 (by omega)), if_neg (show ¬ a2 = 7 from F 7 (by omega)), if_neg (show ¬ a2 = 8 from F 8 (by omega))]
    exact cj_val hR.up rfl rfl
  rw [e2]
  obtain ⟨f, rfl, -, hf⟩ := cj_in_n (lo := 0) (hi := 8) rfl rfl (by decide) g1 g2 (by decide)
  have : f = 0 ∨ f = 1 ∨ f = 2 ∨ f = 3 ∨ f = 4 ∨ f = 5 ∨ f = 6 ∨ f = 7 ∨ f = 8 := by omega
  rcases this with rfl | rfl | rfl | rfl | rfl | rfl | rfl | rfl | rfl
  · refine cj_val hR.up (r := τ 1 (11 + 18 * p)) ?_ ?_
    · rw [if_pos (show nI 0 = 0 from rfl), cj_bd1, hq.rp (k := 2) ⟨by decide, by decide⟩ hp6 (by omega)]
    · rw [cj_bd1, if_neg cj_z1, of' 0 (by omega)]
      rfl
  · refine cj_val hR.up (r := τ 1 (12 + 18 * p)) ?_ ?_
    · rw [if_neg (show ¬ nI 1 = 0 by decide), if_pos (show nI 1 = 1 from rfl), cj_bd1, hq.rp (k := 3) ⟨by decide, by decide⟩ hp6 (by omega)]
    · rw [cj_bd1, if_neg cj_z1, of' 1 (by omega), show 11 + 18 * p + 1 = 12 + 18 * p by omega]
      rfl
  · refine cj_val hR.up (r := τ 1 (13 + 18 * p)) ?_ ?_
    · rw [if_neg (show ¬ nI 2 = 0 by decide), if_neg (show ¬ nI 2 = 1 by decide), if_pos (show nI 2 = 2 from rfl), cj_bd1, hq.rp (k := 4) ⟨by decide, by decide⟩ hp6 (by omega)]
    · rw [cj_bd1, if_neg cj_z1, of' 2 (by omega), show 11 + 18 * p + 2 = 13 + 18 * p by omega]
      rfl
  · refine cj_val hR.up (r := τ 1 (14 + 18 * p)) ?_ ?_
    · rw [if_neg (show ¬ nI 3 = 0 by decide), if_neg (show ¬ nI 3 = 1 by decide), if_neg (show ¬ nI 3 = 2 by decide), if_pos (show nI 3 = 3 from rfl), cj_bd1, hq.rp (k := 5) ⟨by decide, by decide⟩ hp6 (by omega)]
    · rw [cj_bd1, if_neg cj_z1, of' 3 (by omega), show 11 + 18 * p + 3 = 14 + 18 * p by omega]
      rfl
  · obtain ⟨v, hv, v1, v2⟩ := cj_seen hq h0 hN hW hp
    rw [v1, v2]
    exact cj_val hR.up (r := nI v) rfl rfl
  · obtain ⟨v, hv, v1, v2⟩ := cj_rem hq hN hW (by decide) hp
    rw [v1, v2]
    exact cj_val hR.up (r := nI v) rfl rfl
  · obtain ⟨v1, x, v2⟩ := cj_ver_eq hq hN hp
    rw [v1, v2]
    by_cases c : x = 0
    · subst c
      exact cj_val hR.up (r := 0) rfl rfl
    · simp only [cj_bd1, if_neg c]
      exact cj_val hR.up (r := 1) rfl rfl
  · obtain ⟨r, s1, s2, -⟩ := cj_cnt hq p1 p2 (nI p)
    rw [s1, s2]
    exact cj_val hR.up (r := nI r) rfl rfl
  · refine cj_val hR.up (r := τ 1 (16 + 18 * p)) ?_ ?_
    · rw [hq.rp (k := 7) ⟨by decide, by decide⟩ hp6 (by omega)]
      rfl
    · have := of' 5 (by omega)
      rw [show 11 + 18 * p + 5 = 16 + 18 * p by omega] at this
      rw [show f_X9_of τ (nI p) 5 = _ from this]
      rfl
theorem cj_h12 (hR : cj_RR n μ τ) : cj_O12 (cj_RR (n + 1)) μ τ := by
  intro a1 a2
  obtain ⟨N, hX, hW⟩ := hR.1.x
  obtain ⟨hN, h0, hq, hd, hs, hb⟩ := id hX
  obtain ⟨ns, bg, -, -, p1, p2, -, -, -, -, -, -, -, p10⟩ := (cj_WFi.mp hW).2.1
  unfold f_X8_sheetOf f_X0_tellOfSheet f_X9_sheetOf
  rw [show f_X9_in a2 0 5 = f_X8_isWithin a2 0 5 from rfl]
  rcases cj_slot hq p1 p2 a1 with ⟨s1, s2, -⟩ | ⟨k, hk, -, -, s1, s2⟩
  · rw [s1, s2]
    exact cj_val hR.up rfl rfl
  rw [s1, s2]
  have hk10 : k < 10 := by omega
  simp only [cj_bd1, if_neg (cj_nm1 (show k < 2147483648 by omega)), if_neg (nI_pos (show k < 2147483648 by omega)), cj_gdN hk10 (by decide : 10 < 2147483648), cj_tn (show k < 2147483648 by omega)]
  rcases cj_in_c a2 0 5 with e2 | ⟨e2, g1, g2⟩
  · have F := fun i hi => cj_fld (H := 5) (hi := 5) rfl (by decide) e2 (i := i) hi
    rw [e2, if_neg (show ¬ a2 = 0 from F 0 (by omega)), if_neg (show ¬ a2 = 1 from F 1 (by omega)), if_neg (show ¬ a2 = 2 from F 2 (by omega)), if_neg (show ¬ a2 = 3 from F 3 (by omega)), if_neg (show ¬ a2 = 4 from F 4 (by omega)), if_neg (show ¬ a2 = 5 from F 5 (by omega))]
    exact cj_val hR.up rfl rfl
  rw [e2]
  obtain ⟨⟨w, hw, w1⟩, ⟨x, hx, x1⟩⟩ := p10 k hk
  obtain ⟨f, rfl, -, hf⟩ := cj_in_n (lo := 0) (hi := 5) rfl rfl (by decide) g1 g2 (by decide)
  have c11 : μ 5 11 k = nI w := (hq.rk (k := 11) ⟨by decide, by decide⟩ hk10).trans w1
  have c12 : μ 5 12 k = nI x := (hq.rk (k := 12) ⟨by decide, by decide⟩ hk10).trans x1
  have c13 : μ 5 13 k = τ 1 (109 + 13 + 4 * k) := hq.rk (k := 13) ⟨by decide, by decide⟩ hk10
  have o1 : f_X9_ofSheet τ (nI k) 1 = some (nI w) := by rw [← w1]; exact cj_ofS1 (w := 1) hk10 (by decide)
  have o2 : f_X9_ofSheet τ (nI k) 2 = some (nI x) := by rw [← x1]; exact cj_ofS1 (w := 2) hk10 (by decide)
  have o3 : f_X9_ofSheet τ (nI k) 3 = some (τ 1 (109 + 13 + 4 * k)) := cj_ofS1 (w := 3) hk10 (by decide)
  have : f = 0 ∨ f = 1 ∨ f = 2 ∨ f = 3 ∨ f = 4 ∨ f = 5 := by omega
  rcases this with rfl | rfl | rfl | rfl | rfl | rfl
  · refine cj_val hR.up (r := nI w) ?_ ?_
    · rw [c11]
      rfl
    · rw [show f_X9_ofSheet τ (nI k) (nI 0 + 1) = _ from o1]
      rfl
  · refine cj_val hR.up (r := nI x) ?_ ?_
    · rw [c12]
      rfl
    · rw [show f_X9_ofSheet τ (nI k) (nI 1 + 1) = _ from o2]
      rfl
  · obtain ⟨o, ho, u1, u2⟩ := cj_ones hx
    refine cj_val hR.up (r := nI o) ?_ ?_
    · rw [c12, u1]
      rfl
    · rw [o2, cj_bd1, if_neg cj_z1, cj_bd1, u2]
      rfl
  · obtain ⟨d1, d2⟩ := cj_dry hq hk10
    rw [d1]
    rcases d2 with d2 | d2 <;> rw [d2] <;> exact cj_val hR.up rfl rfl
  · unfold f_X0_wetFor
    rw [cj_gdN hk10 (by decide), cj_gdN hk10 (by decide), cj_tn (by omega), c13, hq.r0.2.2.1, o3]
    simp only [cj_bd1]
    by_cases c : τ 1 (109 + 13 + 4 * k) ≤ τ 1 4
    · rw [if_pos c]
      exact cj_val hR.up (r := 0) rfl rfl
    · rw [if_neg c]
      exact cj_val hR.up (r := τ 1 (109 + 13 + 4 * k) - τ 1 4) rfl rfl
  · obtain ⟨v, hv, v1, v2⟩ := cj_drawable hq hN hW (by decide) hk10 w1 hw
    rw [v1, v2]
    exact cj_val hR.up (r := nI v) rfl rfl
theorem cj_h13 (hR : cj_RR n μ τ) : cj_O13 (cj_RR (n + 1)) μ τ := by
  intro a1 a2
  obtain ⟨N, hX, hW⟩ := hR.1.x
  obtain ⟨hN, h0, hq, hd, hs, hb⟩ := id hX
  obtain ⟨na, u1, u2, -⟩ := (cj_WFi.mp hW).1
  unfold f_X8_paperOf f_X0_tellOfPaper f_X9_paperOf f_X0_day
  rw [cj_hap_eq hq.r14, show f_X9_in a2 0 4 = f_X8_isWithin a2 0 4 from rfl]
  rcases cj_pap_c u1 u2 a1 with e | ⟨q, hqn, rfl, e⟩
  · rw [e]
    exact cj_val hR.up rfl rfl
  rw [e]
  have hq4 : q < 4 := by omega
  simp only [cj_bd1, if_neg cj_z1, cj_gdN hq4 (by decide : 4 < 2147483648), cj_tn (show q < 2147483648 by omega)]
  rcases cj_in_c a2 0 4 with e2 | ⟨e2, g1, g2⟩
  · have F := fun i hi => cj_fld (H := 4) (hi := 4) rfl (by decide) e2 (i := i) hi
    rw [e2, if_neg (show ¬ a2 = 0 from F 0 (by omega)), if_neg (show ¬ a2 = 1 from F 1 (by omega)), if_neg (show ¬ a2 = 2 from F 2 (by omega)), if_neg (show ¬ a2 = 3 from F 3 (by omega)), if_neg (show ¬ a2 = 4 from F 4 (by omega))]
    exact cj_val hR.up rfl rfl
  rw [e2]
  obtain ⟨f, rfl, -, hf⟩ := cj_in_n (lo := 0) (hi := 4) rfl rfl (by decide) g1 g2 (by decide)
  have o : ∀ w, w < 6 → f_X9_ofPaper τ (nI q) (nI w) = some (τ 1 (159 + w + 6 * q)) := fun w hw => cj_ofP1 hq4 hw
  have : f = 0 ∨ f = 1 ∨ f = 2 ∨ f = 3 ∨ f = 4 := by omega
  rcases this with rfl | rfl | rfl | rfl | rfl
  · refine cj_val hR.up (r := τ 1 (159 + 0 + 6 * q)) ?_ ?_
    · rw [hq.rq (k := 15) ⟨by decide, by decide, by decide⟩ hq4]
      rfl
    · rw [o 0 (by decide)]
      rfl
  · refine cj_val hR.up (r := τ 1 (159 + 1 + 6 * q)) ?_ ?_
    · rw [hq.rq (k := 16) ⟨by decide, by decide, by decide⟩ hq4]
      rfl
    · rw [o 1 (by decide)]
      rfl
  · refine cj_val hR.up (r := τ 1 (159 + 2 + 6 * q)) ?_ ?_
    · rw [hq.rq (k := 17) ⟨by decide, by decide, by decide⟩ hq4]
      rfl
    · rw [o 2 (by decide)]
      rfl
  · refine cj_val hR.up (r := τ 1 (159 + 3 + 6 * q)) ?_ ?_
    · rw [hq.rq (k := 18) ⟨by decide, by decide, by decide⟩ hq4]
      rfl
    · rw [o 3 (by decide)]
      rfl
  · obtain ⟨b1, r, b2⟩ := cj_bought hq hb hq4
    rw [hq.r0.2.2.1, b1, b2]
    exact cj_val hR.up (r := r) rfl rfl
theorem cj_h14 (hR : cj_RR n μ τ) : cj_O14 (cj_RR (n + 1)) μ τ := by
  intro a1 a2
  obtain ⟨N, hX, hW⟩ := hR.1.x
  obtain ⟨hN, h0, hq, hd, hs, hb⟩ := id hX
  obtain ⟨ns, bg, -, -, p1, p2, -, -, -, -, -, -, -, p10⟩ := (cj_WFi.mp hW).2.1
  obtain ⟨na, u1, u2, u3, -⟩ := (cj_WFi.mp hW).1
  unfold f_X8_price f_X9_price
  rw [cj_hap_eq hq.r14]
  rcases cj_slot hq p1 p2 a1 with ⟨s1, s2, -⟩ | ⟨k, hk, -, -, s1, s2⟩
  · rw [s1, s2]
    exact cj_val hR.up rfl rfl
  rw [s1, s2]
  simp only [cj_bd1, if_neg (cj_nm1 (show k < 2147483648 by omega)), if_neg (nI_pos (show k < 2147483648 by omega))]
  rcases cj_pap_c u1 u2 a2 with e | ⟨q, hqn, rfl, e⟩
  · rw [e]
    exact cj_val hR.up rfl rfl
  rw [e]
  obtain ⟨⟨w, hw, w1⟩, ⟨x, hx, x1⟩⟩ := p10 k hk
  obtain ⟨r, hr, -, hr2⟩ := u3 q hqn
  obtain ⟨v, -, v1, v2⟩ := cj_price hq hN (k := k) (q := q) (by omega) (by omega) w1 hw x1 hx hr hr2
  rw [v1, v2]
  exact cj_val hR.up (r := nI v) rfl rfl
theorem cj_h15 (hR : cj_RR n μ τ) : cj_O15 (cj_RR (n + 1)) μ τ := by
  intro a1
  obtain ⟨N, hX, hW⟩ := hR.1.x
  obtain ⟨hN, h0, hq, hd, hs, hb⟩ := id hX
  obtain ⟨ns, bg, -, -, p1, p2, -⟩ := (cj_WFi.mp hW).2.1
  unfold f_X8_number f_X9_number
  rw [hq.r9, p1]
  rcases pk_ix a1 (n := ns) (by omega) with q | q | ⟨j, q, rfl⟩
  · rw [if_neg (Int32.not_le.mpr q), if_neg (Int32.not_le.mpr q)]
    exact cj_val hR.up rfl rfl
  · by_cases h : 0 ≤ a1
    · rw [if_pos h, if_pos h, if_pos q, if_pos q]
      exact cj_val hR.up rfl rfl
    · rw [if_neg h, if_neg h]
      exact cj_val hR.up rfl rfl
  · have hj : j < 10 := by omega
    rw [if_pos (nI_pos' (by omega)), if_pos (nI_pos' (by omega)), if_neg (nI_ge q (by omega)), if_neg (nI_ge q (by omega)), cj_gdN hj (by decide), cj_tn (by omega), hq.rk (k := 10) ⟨by decide, by decide⟩ hj, show f_X9_ofSheet τ (nI j) 0 = _ from cj_ofS1 (w := 0) hj (by decide)]
    exact cj_val hR.up rfl rfl
theorem cj_h21 (hR : cj_RR n μ τ) : cj_O21 (cj_RR (n + 1)) μ τ := by
  intro a1
  obtain ⟨N, hX, hW⟩ := hR.1.x
  obtain ⟨hN, h0, hq, hd, hs, hb⟩ := id hX
  obtain ⟨-, ⟨o, h, b1, b2, b3, b4, b5, b6⟩, ⟨len, l1, l2, l3, l4⟩, r4⟩ := id hR
  have hl := (cj_WFi.mp hW).2.2.2.1
  unfold f_X8_count f_X0_tellCount f_X9_count f_X0_day f_X9_day f_X0_hour
  rw [hq.r1, hq.r14, hq.r9, hq.r9b, hq.r0.1, hq.r0.2.1, hq.r0.2.2.1, hq.r0.2.2.2.1, hq.r0.2.2.2.2.1, hq.r0.2.2.2.2.2.1, hq.r0.2.2.2.2.2.2, b4, b5, l2, l3, show f_X9_in a1 20 21 = f_X8_isWithin a1 20 21 from rfl]
  by_cases c : ∃ i, i < 22 ∧ a1 = nI i
  · obtain ⟨i, hi, rfl⟩ := c
    have : i = 0 ∨ i = 1 ∨ i = 2 ∨ i = 3 ∨ i = 4 ∨ i = 5 ∨ i = 6 ∨ i = 7 ∨ i = 8 ∨ i = 9 ∨ i = 10 ∨ i = 11 ∨ i = 12 ∨ i = 13 ∨ i = 14 ∨ i = 15 ∨ i = 16 ∨ i = 17 ∨ i = 18 ∨ i = 19 ∨ i = 20 ∨ i = 21 := by omega
    rcases this with rfl | rfl | rfl | rfl | rfl | rfl | rfl | rfl | rfl | rfl | rfl | rfl | rfl | rfl | rfl | rfl | rfl | rfl | rfl | rfl | rfl | rfl
    rotate_left 7
    · rcases hl with l | ⟨p, hp, l⟩
      · rw [l]
        exact cj_val hR.up (r := -1000004) rfl rfl
      · rw [l, if_neg (cj_nm1 (show p < 2147483648 by omega)), if_pos (show 0 ≤ nI p from nI_pos' (by omega))]
        exact cj_val hR.up (r := nI p) rfl rfl
    all_goals exact cj_val hR.up rfl rfl
  · have F : ∀ i, i < 22 → ¬ a1 = nI i := fun i hi e => c ⟨i, hi, e⟩
    have k1 : f_X8_isWithin a1 20 21 = some 0 := by
      rcases cj_in_c a1 20 21 with e | ⟨e, g1, g2⟩
      · exact e
      · obtain ⟨x, rfl, hx1, hx2⟩ := cj_in_n (lo := 20) (hi := 21) rfl rfl (by decide) g1 g2 (by decide)
        exact absurd rfl (F x (by omega))
    rw [k1, if_neg (show ¬ a1 = 0 from F 0 (by omega)), if_neg (show ¬ a1 = 0 from F 0 (by omega)), if_neg (show ¬ a1 = 1 from F 1 (by omega)), if_neg (show ¬ a1 = 1 from F 1 (by omega)), if_neg (show ¬ a1 = 2 from F 2 (by omega)), if_neg (show ¬ a1 = 2 from F 2 (by omega)), if_neg (show ¬ a1 = 3 from F 3 (by omega)), if_neg (show ¬ a1 = 3 from F 3 (by omega)), if_neg (show ¬ a1 = 4 from F 4 (by omega)), if_neg (show ¬ a1 = 4 from F 4 (by omega)), if_neg (show ¬ a1 = 5 from F 5 (by omega)), if_neg (show ¬ a1 = 5 from F 5 (by omega)), if_neg (show ¬ a1 = 6 from F 6 (by omega)), if_neg (show ¬ a1 = 6 from F 6 (by omega)), if_neg (show ¬ a1 = 7 from F 7 (by omega)), if_neg (show ¬ a1 = 7 from F 7 (by omega)), if_neg (show ¬ a1 = 8 from F 8 (by omega)), if_neg (show ¬ a1 = 8 from F 8 (by omega)), if_neg (show ¬ a1 = 9 from F 9 (by omega)), if_neg (show ¬ a1 = 9 from F 9 (by omega)), if_neg (show ¬ a1 = 10 from F 10 (by omega)), if_neg (show ¬ a1 = 10 from F 10 (by omega)), if_neg (show ¬ a1 = 11 from F 11 (by omega)), if_neg (show ¬ a1 = 11 from F 11 (by omega)), if_neg (show ¬ a1 = 12 from F 12 (by omega)), if_neg (show ¬ a1 = 12 from F 12 (by omega)), if_neg (show ¬ a1 = 20 from F 20 (by omega)), if_neg (show ¬ a1 = 21 from F 21 (by omega))]
    exact cj_val hR.up rfl rfl
end CJP
