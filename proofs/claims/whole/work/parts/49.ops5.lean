/-! a sheet sold -/
section CJA
variable {B T N : Nat} {σ τ τ1 : cj_S} {m : Nat → Int32}
theorem cj_sells (τ1 : cj_S) (hT : T ≤ 20000) (hB : B < 2147483648) (hX : cj_RX N σ m) (hW : cj_WF B T N m) {ns k na q : Nat} (p1 : m 2 = nI ns) (hns : ns ≤ 10) (hk : k < ns) (u1 : m 1 = nI na) (hna : na ≤ 4) (hqn : q < na) (a1 : Int32) (hpl : f_X6_placeOf σ a1 = some (nI k)) (hcs : f_X0_canSell σ (nI k) (nI q) = some 1) : ∃ v σ' m', v ≤ 480 ∧ f_X0_sellSheet σ a1 (nI q) = some (nI v, σ') ∧ f_X9_sells (cj_upr τ1 1 m) (nI k) (nI q) = some (nI v, cj_upr τ1 1 m') ∧ cj_RX N σ' m' ∧ cj_WF B T N m' ∧ m' 2 = nI (ns - 1) ∧ m' 1 = nI na := by
  obtain ⟨hN, h0, hq, hd, hs, hb⟩ := id hX
  obtain ⟨na', u1', u2', u3, -⟩ := (cj_WFi.mp hW).1
  have : na' = na := (nI_eq (by omega) (by omega)).mp (u1'.symm.trans u1)
  subst this
  obtain ⟨ns', bg, -, -, p1', p2', -, -, -, -, -, -, -, p10⟩ := (cj_WFi.mp hW).2.1
  have : ns' = ns := (nI_eq (by omega) (by omega)).mp (p1'.symm.trans p1)
  subst this
  have hq4 : q < 4 := by omega
  have hk10 : k < 10 := by omega
  obtain ⟨r, hr, hr1, hr2⟩ := u3 q hqn
  obtain ⟨⟨w, hw, w1⟩, ⟨x, hx, x1⟩⟩ := p10 k hk
  have hw6 : w < 6 := by omega
  obtain ⟨v, hv, v1, v2⟩ := cj_price (τ := cj_upr τ1 1 m) hq hN hk10 hq4 w1 hw x1 hx hr hr2
  obtain ⟨b1, y, b2⟩ := cj_bought (τ := cj_upr τ1 1 m) hq hb hq4
  have b1 : f_X2_peopleBoughtOn σ (nI q) (m 4 / 300) = f_X9_boughtOf (cj_upr τ1 1 m) (nI q) := b1
  rw [b2] at b1
  have c11 : σ 11 k = nI w := (hq.rk (k := 11) ⟨by decide, by decide⟩ hk10).trans w1
  have c17 : σ 17 q = m (161 + 6 * q) := hq.rq (k := 17) ⟨by decide, by decide, by decide⟩ hq4
  have c18 : σ 18 q = m (162 + 6 * q) := hq.rq (k := 18) ⟨by decide, by decide, by decide⟩ hq4
  have c7 : σ 7 w = m (16 + 18 * w) := hq.rp (k := 7) ⟨by decide, by decide⟩ hw6 (by omega)
  have hhas : f_X2_has σ (nI q) = some 1 := by
    unfold f_X2_has
    rw [hq.r14, u1, if_neg (nI_pos (by omega)), if_neg (nI_ge hqn (by omega))]
  have i0 : cj_ix 17 q = 161 + 6 * q := rfl
  have i1 : cj_ix 18 q = 162 + 6 * q := rfl
  have i2 : cj_ix 7 w = 16 + 18 * w := rfl
  let V : Int32 := y ||| (1 <<< (nI w &&& 31))
  let mf : Nat → Int32 := upd (upd (upd (upd (upd (upd (upd m (164 + 6 * q) V) (163 + 6 * q) (m 4 / 300)) (161 + 6 * q) (m (161 + 6 * q) + 1)) (162 + 6 * q) (m (162 + 6 * q) + nI v)) (16 + 18 * w) (m (16 + 18 * w) + nI v)) 7 (m 7 + 1)) 8 (m 8 + nI v)
  let σf : cj_S := cj_up2 (cj_up2 (cj_up2 (cj_up2 (cj_up2 (cj_up2 (cj_up2 σ 20 q V) 19 q (m 4 / 300)) 17 q (m (161 + 6 * q) + 1)) 18 q (m (162 + 6 * q) + nI v)) 7 w (m (16 + 18 * w) + nI v)) 0 9 (m 8 + nI v)) 0 8 (m 7 + 1)
  have hXf : cj_RX N σf mf := by
    show cj_RX N (cj_up2 (cj_up2 (cj_up2 (cj_up2 (cj_up2 (cj_up2 (cj_up2 σ 20 q V) 19 q (m 4 / 300)) 17 q (m (161 + 6 * q) + 1)) 18 q (m (162 + 6 * q) + nI v)) 7 w (m (16 + 18 * w) + nI v)) 0 9 (m 8 + nI v)) 0 8 (m 7 + 1)) (upd (upd (upd (upd (upd (upd (upd m (164 + 6 * q) V) (163 + 6 * q) (m 4 / 300)) (161 + 6 * q) (m (161 + 6 * q) + 1)) (162 + 6 * q) (m (162 + 6 * q) + nI v)) (16 + 18 * w) (m (16 + 18 * w) + nI v)) 7 (m 7 + 1)) 8 (m 8 + nI v))
    rw [cj_uc _ (show 7 ≠ 8 by decide)]
    have A := (((((hX.buy hq4 V (m 4 / 300)).up (k := 17) (j := q) (by unfold cj_dm; omega) (by decide) (by omega) (by omega) (m (161 + 6 * q) + 1)).up (k := 18) (j := q) (by unfold cj_dm; omega) (by decide) (by omega) (by omega) (m (162 + 6 * q) + nI v)).up (k := 7) (j := w) (by unfold cj_dm; omega) (by decide) (by omega) (by omega) (m (16 + 18 * w) + nI v)).up (k := 0) (j := 9) (by decide) (by decide) (by omega) (by omega) (m 8 + nI v)).up (k := 0) (j := 8) (by decide) (by decide) (by omega) (by omega) (m 7 + 1)
    rw [i0, i1, i2] at A
    exact A
  have hm : ∀ i, i ≠ 164 + 6 * q → i ≠ 163 + 6 * q → i ≠ 161 + 6 * q → i ≠ 162 + 6 * q → i ≠ 16 + 18 * w → i ≠ 7 → i ≠ 8 → mf i = m i := by
    intro i q1 q2 q3 q4 q5 q6 q7
    show upd (upd (upd (upd (upd (upd (upd m (164 + 6 * q) V) (163 + 6 * q) (m 4 / 300)) (161 + 6 * q) (m (161 + 6 * q) + 1)) (162 + 6 * q) (m (162 + 6 * q) + nI v)) (16 + 18 * w) (m (16 + 18 * w) + nI v)) 7 (m 7 + 1)) 8 (m 8 + nI v) i = m i
    rw [pk_un q7, pk_un q6, pk_un q5, pk_un q4, pk_un q3, pk_un q2, pk_un q1]
  have mf7 : mf 7 = m 7 + 1 := (pk_un (by decide)).trans pk_us
  have mf8 : mf 8 = m 8 + nI v := pk_us
  have hlo : ∀ i, i < 11 → i ≠ 7 → i ≠ 8 → mf i = m i := fun i q1 q2 q3 => hm i (by omega) (by omega) (by omega) (by omega) (by omega) q2 q3
  obtain ⟨σ', m', r1, r2, r3, r4, r5⟩ := hXf.rm τ1 (ns := ns') (k := k) ((hlo 2 (by omega) (by omega) (by omega)).trans p1) hns hk
  have E : ∀ i, i ≠ 2 → i < 119 ∨ 159 ≤ i → m' i = mf i := fun i q1 q2 => by rw [r5, if_neg q1, if_neg (by omega)]
  refine ⟨v, σ', m', hv, ?_, ?_, r4, ?_, by rw [r5, if_pos rfl], by rw [E 1 (by omega) (by omega), hlo 1 (by omega) (by omega) (by omega), u1]⟩
  · unfold f_X0_sellSheet
    rw [hpl, cj_bd1, if_neg (cj_nm1 (by omega)), hhas, cj_bd1, if_neg cj_z1, hcs, cj_bd1, if_neg cj_z1]
    unfold f_X0_day f_X2_buy
    simp only [cj_gdN hk10 (by decide : 10 < 2147483648), cj_gdN hq4 (by decide : 4 < 2147483648), cj_gdN hw6 (by decide : 6 < 2147483648), cj_tn (show k < 2147483648 by omega), cj_tn (show q < 2147483648 by omega), cj_tn (show w < 2147483648 by omega), cj_bd1, cj_lt1, v1, c11, hq.r0.2.2.1, b1, cj_o, cj_s, cj_uo, Nat.reduceBEq, c17, c18, c7, hq.r0.2.2.2.2.2.1, hq.r0.2.2.2.2.2.2]
    rw [show f_X6_removeAt _ (nI k) = some σ' from r1]
    rfl
  · have k2 : (159 : Int32) + 6 * nI q + 2 = nI (161 + 6 * q) := by rw [show (2 : Int32) = nI 2 from rfl, cj_n6]; congr 1; omega
    have k3 : (159 : Int32) + 6 * nI q + 3 = nI (162 + 6 * q) := by rw [show (3 : Int32) = nI 3 from rfl, cj_n6]; congr 1; omega
    have k4 : (159 : Int32) + 6 * nI q + 4 = nI (163 + 6 * q) := by rw [show (4 : Int32) = nI 4 from rfl, cj_n6]; congr 1; omega
    have k5 : (159 : Int32) + 6 * nI q + 5 = nI (164 + 6 * q) := by rw [show (5 : Int32) = nI 5 from rfl, cj_n6]; congr 1; omega
    have k6 : (11 : Int32) + 18 * nI w + 5 = nI (16 + 18 * w) := by rw [show (5 : Int32) = nI 5 from rfl, cj_n18]; congr 1; omega
    have s1 : f_X9_ofSheet (cj_upr τ1 1 m) (nI k) 1 = some (nI w) := by
      have := n_ofS τ1 m (p := k) (w := 1) (by omega)
      rw [show 119 + 4 * k + 1 = 120 + 4 * k by omega, w1] at this
      exact this
    unfold f_X9_sells f_X9_day
    rw [v2, cj_bd1, s1, cj_bd1, b2, cj_bd1]
    simp only [k2, k3, k4, k5, k6, cj_gdN (show 161 + 6 * q < 183 by omega) (by decide : 183 < 2147483648), cj_gdN (show 162 + 6 * q < 183 by omega) (by decide : 183 < 2147483648), cj_gdN (show 163 + 6 * q < 183 by omega) (by decide : 183 < 2147483648), cj_gdN (show 164 + 6 * q < 183 by omega) (by decide : 183 < 2147483648), cj_gdN (show 16 + 18 * w < 183 by omega) (by decide : 183 < 2147483648), cj_tn (show 161 + 6 * q < 2147483648 by omega), cj_tn (show 162 + 6 * q < 2147483648 by omega), cj_tn (show 163 + 6 * q < 2147483648 by omega), cj_tn (show 164 + 6 * q < 2147483648 by omega), cj_tn (show 16 + 18 * w < 2147483648 by omega), cj_lt1, cj_bd1, cj_u2, cj_upr_s]
    have z1 : upd m (164 + 6 * q) (y ||| (1 <<< (nI w &&& 31))) 4 = m 4 := pk_un (by omega)
    have z2 : upd (upd m (164 + 6 * q) (y ||| (1 <<< (nI w &&& 31)))) (163 + 6 * q) (m 4 / 300) (161 + 6 * q) = m (161 + 6 * q) := by rw [pk_un (by omega), pk_un (by omega)]
    have z3 : ∀ A, upd (upd (upd m (164 + 6 * q) (y ||| (1 <<< (nI w &&& 31)))) (163 + 6 * q) (m 4 / 300)) (161 + 6 * q) A (162 + 6 * q) = m (162 + 6 * q) := fun A => by rw [pk_un (by omega), pk_un (by omega), pk_un (by omega)]
    have z4 : ∀ A P, upd (upd (upd (upd m (164 + 6 * q) (y ||| (1 <<< (nI w &&& 31)))) (163 + 6 * q) (m 4 / 300)) (161 + 6 * q) A) (162 + 6 * q) P (16 + 18 * w) = m (16 + 18 * w) := fun A P => by rw [pk_un (by omega), pk_un (by omega), pk_un (by omega), pk_un (by omega)]
    have z5 : ∀ A P Q, upd (upd (upd (upd (upd m (164 + 6 * q) (y ||| (1 <<< (nI w &&& 31)))) (163 + 6 * q) (m 4 / 300)) (161 + 6 * q) A) (162 + 6 * q) P) (16 + 18 * w) Q 7 = m 7 := fun A P Q => by rw [pk_un (by omega), pk_un (by omega), pk_un (by omega), pk_un (by omega), pk_un (by omega)]
    have z6 : ∀ A P Q G, upd (upd (upd (upd (upd (upd m (164 + 6 * q) (y ||| (1 <<< (nI w &&& 31)))) (163 + 6 * q) (m 4 / 300)) (161 + 6 * q) A) (162 + 6 * q) P) (16 + 18 * w) Q) 7 G 8 = m 8 := fun A P Q G => by rw [pk_un (by omega), pk_un (by omega), pk_un (by omega), pk_un (by omega), pk_un (by omega), pk_un (by omega)]
    simp only [z1, z2, z3, z4, z5, z6]
    rw [show f_X9_takesOut (cj_upr τ1 1 _) (nI k) = some (cj_upr τ1 1 m') from r2]
    rfl
  · refine hW.rm hN hB p1 hns hk u1 hna (by rw [r5, if_pos rfl]) (Or.inr ⟨(E 7 (by omega) (by omega)).trans mf7, v, hv, (E 8 (by omega) (by omega)).trans mf8⟩) (fun i q1 q2 => ?_) (fun j q1 q2 => ?_) (fun i q1 q2 q3 q4 => (E i q2 (by omega)).trans (hlo i q1 q3 q4)) (fun p hp j hj hj5 => ?_) (fun j hj => ?_)
    · rw [r5, if_neg (by omega)]
      by_cases c : 119 + 4 * k ≤ i ∧ i < 115 + 4 * ns'
      · rw [if_pos c, if_pos c]
        exact hm _ (by omega) (by omega) (by omega) (by omega) (by omega) (by omega) (by omega)
      · rw [if_neg c, if_neg c]
        exact hm _ (by omega) (by omega) (by omega) (by omega) (by omega) (by omega) (by omega)
    · exact (E _ (by omega) (by omega)).trans (hm _ (by omega) (by omega) (by omega) (by omega) (by omega) (by omega) (by omega))
    · exact (E _ (by omega) (by omega)).trans (hm _ (by omega) (by omega) (by omega) (by omega) (by omega) (by omega) (by omega))
    · exact (E _ (by omega) (by omega)).trans (hm _ (by omega) (by omega) (by omega) (by omega) (by omega) (by omega) (by omega))
theorem cj_csell (hT : T ≤ 20000) (hB : B < 2147483648) (hR : cj_RC B T σ (τ 1)) (hc : f_X9_changes τ = some τ1) (h1 : τ1 1 = τ 1) (a1 a2 : Int32) : cj_Co B T σ τ τ1 (f_X0_sellSheet σ a1 a2) (f_X9_sell τ a1 a2) := by
  obtain ⟨N, hX, hW⟩ := hR.x
  obtain ⟨hN, h0, hq, hd, hs, hb⟩ := id hX
  obtain ⟨ns, bg, -, -, p1, p2, -⟩ := (cj_WFi.mp hW).2.1
  obtain ⟨na, u1, u2, -⟩ := (cj_WFi.mp hW).1
  have e1 : τ1 = cj_upr τ1 1 (τ 1) := by rw [← h1, cj_ui]
  unfold f_X9_sell
  rcases cj_slot hq p1 p2 a1 with ⟨s1, s2, -⟩ | ⟨k, hk, -, -, s1, s2⟩
  · unfold f_X0_sellSheet
    rw [s1, s2]
    exact Or.inl ⟨-1000001, by decide, rfl, rfl⟩
  rw [s2, cj_bd1, if_neg (nI_pos (show k < 2147483648 by omega))]
  rcases cj_pap_c u1 u2 a2 with e | ⟨q, hqn, rfl, e⟩
  · unfold f_X0_sellSheet
    rw [s1, cj_hap_eq hq.r14, e]
    simp only [cj_bd1, if_neg (cj_nm1 (show k < 2147483648 by omega))]
    exact Or.inl ⟨-1000001, by decide, rfl, rfl⟩
  obtain ⟨c1, c2⟩ := cj_can hq hb (k := k) (q := q) (by omega) (by omega)
  rw [e, cj_bd1, if_neg cj_z1]
  rcases c2 with c2 | c2
  · unfold f_X0_sellSheet
    rw [s1, cj_hap_eq hq.r14, e]
    simp only [cj_bd1, if_neg (cj_nm1 (show k < 2147483648 by omega)), if_neg cj_z1]
    rw [c1, c2]
    exact Or.inl ⟨-1000002, by decide, rfl, rfl⟩
  rw [c2] at c1
  obtain ⟨v, σ', m', g1, g2, g3, g4, g5, -, -⟩ := cj_sells τ1 hT hB hX hW p1 p2 hk u1 u2 hqn a1 s1 c1
  rw [← e1] at g3
  rw [g2, c2, cj_bd1, if_neg cj_z1, hc, cj_bd1, g3, cj_bp1]
  exact Or.inr ⟨nI v, σ', m', nI_pos' (by omega), rfl, rfl, g4.c g5⟩
end CJA
