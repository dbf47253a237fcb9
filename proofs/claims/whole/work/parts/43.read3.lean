/-! seen now, dry, bought, price -/
theorem cj_andI (a b : Nat) : nI a &&& nI b = nI (a &&& b) := by
  apply Int32.toBitVec_inj.mp
  rw [Int32.toBitVec_and]
  apply BitVec.eq_of_toNat_eq
  show ((BitVec.ofNat 32 a) &&& (BitVec.ofNat 32 b)).toNat = (BitVec.ofNat 32 (a &&& b)).toNat
  rw [BitVec.toNat_and, BitVec.toNat_ofNat, BitVec.toNat_ofNat, BitVec.toNat_ofNat, Nat.and_mod_two_pow]
theorem cj_andx {v n : Nat} (h : v < n) (hn : n ≤ 2147483648) (y : Int32) : ∃ j, j < n ∧ nI v &&& y = nI j := by
  have e : y = nI y.toBitVec.toNat := by
    apply Int32.toBitVec_inj.mp
    apply BitVec.eq_of_toNat_eq
    show _ = (BitVec.ofNat 32 y.toBitVec.toNat).toNat
    rw [BitVec.toNat_ofNat, Nat.mod_eq_of_lt y.toBitVec.isLt]
  rw [e, cj_andI]
  exact ⟨_, Nat.lt_of_le_of_lt Nat.and_le_left h, rfl⟩
theorem cj_shq : ∀ f, f < 12 → (((nI f &&& 31)).toBitVec.smod 32).toNat = f := by decide +kernel
theorem cj_shb {j f : Nat} (hj : j < 4096) (hf : f < 12) : (nI j >>> (nI f &&& 31)) &&& 1 = nI (j / 2 ^ f % 2) := by
  rw [pk_shrN (by omega) (nI f &&& 31) f (cj_shq f hf)]
  have hd : j / 2 ^ f < 2 ^ 32 := Nat.lt_of_le_of_lt (Nat.div_le_self _ _) (by omega)
  exact pk_andN hd 1 rfl
theorem cj_and2b : ((List.range 12).all fun f => (List.range 4096).all fun j => decide (j &&& 2 ^ f = j / 2 ^ f % 2 * 2 ^ f)) = true := by decide +kernel
theorem cj_and2 {j f : Nat} (hj : j < 4096) (hf : f < 12) : j &&& 2 ^ f = j / 2 ^ f % 2 * 2 ^ f :=
  of_decide_eq_true (List.all_eq_true.mp (List.all_eq_true.mp cj_and2b f (List.mem_range.mpr hf)) j (List.mem_range.mpr hj))
theorem cj_bit0 {j f : Nat} (hj : j < 4096) (hf : f < 12) : (nI j >>> (nI f &&& 31)) &&& 1 = 0 ↔ nI j &&& ((1 : Int32) <<< (nI f &&& 31)) = 0 := by
  rw [cj_shb hj hf, cj_bit f hf, cj_andI, cj_and2 hj hf]
  have hm : j / 2 ^ f % 2 = 0 ∨ j / 2 ^ f % 2 = 1 := by omega
  rcases hm with e | e
  · rw [e, Nat.zero_mul]
  · rw [e, Nat.one_mul]
    have h1 : ¬ nI 1 = 0 := by decide
    have h2 : ¬ nI (2 ^ f) = 0 := nI_ne0 (Nat.two_pow_pos f) (Nat.lt_of_lt_of_le (Nat.pow_lt_pow_right (a := 2) (m := f) (n := 12) (Nat.lt_succ_self 1) hf) (Nat.le_of_ble_eq_true rfl))
    exact ⟨fun q => absurd q h1, fun q => absurd q h2⟩
theorem cj_bit01 {j f : Nat} (hj : j < 4096) (hf : f < 12) : ((nI j >>> (nI f &&& 31)) &&& 1 = 1) ↔ ¬ ((nI j >>> (nI f &&& 31)) &&& 1 = 0) := by
  rw [cj_shb hj hf]
  have hm : j / 2 ^ f % 2 = 0 ∨ j / 2 ^ f % 2 = 1 := by omega
  rcases hm with e | e <;> rw [e] <;> decide
section CJU
variable {N : Nat} {σ τ : cj_S}
theorem cj_ang {p k a s : Nat} (h : cj_Rq N σ (τ 1)) (hp : p < 6) (ha : τ 1 (13 + 18 * p) = nI a) (hs : τ 1 (14 + 18 * p) = nI s) (ha2 : a < 12) (hs2 : s < 12) (hk : k ≤ 300) : f_X3_angleAfter σ (nI p) (nI k) = some (nI ((a + s * k) % 12)) := by
  have hb : s * k ≤ 12 * 300 := Nat.mul_le_mul (by omega) hk
  unfold f_X3_angleAfter
  rw [cj_gdN (by omega) (by decide), cj_gdN (by omega) (by decide), cj_tn (by omega), h.rp (k := 4) ⟨by decide, by decide⟩ hp (by omega), h.rp (k := 5) ⟨by decide, by decide⟩ hp (by omega), show 9 + 4 + 18 * p = 13 + 18 * p by omega, show 9 + 5 + 18 * p = 14 + 18 * p by omega, ha, hs, pk_mul, nI_add, cj_lt1]
  show some (nI (a + s * k) - nI (a + s * k) / nI 12 * nI 12) = _
  rw [pk_rem (by omega) (by decide) (by decide)]
theorem cj_seen {B T p : Nat} (h : cj_Rq N σ (τ 1)) (h0 : τ 1 0 = nI N) (hN : N ≤ 6) (hw : cj_WF B T N (τ 1)) (hp : p < N) : ∃ v, v < 4096 ∧ f_X3_seenAfter σ (nI p) 0 = some (nI v) ∧ f_X9_seen τ (nI p) = some (nI v) := by
  obtain ⟨-, -, -, -, -, -, -, hq, -⟩ := hw
  obtain ⟨⟨a, ha, ha2⟩, ⟨s, hs, hs2⟩⟩ := hq p (by omega)
  obtain ⟨b, hb, h1, h2⟩ := cj_seenAt_eq h h0 hN hp
  obtain ⟨v, hv, h3⟩ := cj_feat_v ha hb
  have e2 : f_X9_of τ (nI p) 2 = some (nI a) := by
    have := m_of τ (p := p) (w := 2) (by omega)
    rw [show 11 + 18 * p + 2 = 13 + 18 * p by omega, ha2] at this
    exact this
  refine ⟨v, hv, ?_, ?_⟩
  · unfold f_X3_seenAfter
    have e := cj_ang (k := 0) h (by omega) ha2 hs2 ha hs (by omega)
    rw [Nat.mul_zero, Nat.add_zero, Nat.mod_eq_of_lt ha] at e
    have e : f_X3_angleAfter σ (nI p) 0 = some (nI a) := e
    rw [e, cj_bd1, h1, cj_bd1, h3, cj_bd1]
  · unfold f_X9_seen
    rw [e2, cj_bd1, h2, h3, cj_bd1]
theorem cj_ofS1 {k w : Nat} (hk : k < 10) (hw : w < 4) : f_X9_ofSheet τ (nI k) (nI w) = some (τ 1 (119 + w + 4 * k)) := by
  rw [m_ofS τ (by omega)]
  congr 2
  omega
theorem cj_ofP1 {k w : Nat} (hk : k < 4) (hw : w < 6) : f_X9_ofPaper τ (nI k) (nI w) = some (τ 1 (159 + w + 6 * k)) := by
  rw [m_ofP τ (by omega)]
  congr 2
  omega
theorem cj_sub0 {x y : Int32} : x - y = 0 ↔ x = y := by
  constructor
  · intro h
    have h2 := congrArg (fun z => z + y) h
    simpa using h2
  · rintro rfl
    simp
theorem cj_dry (h : cj_Rq N σ (τ 1)) {k : Nat} (hk : k < 10) : f_X0_isDry σ (nI k) = f_X9_isDry τ (nI k) ∧ (f_X9_isDry τ (nI k) = some 0 ∨ f_X9_isDry τ (nI k) = some 1) := by
  have e2 : f_X9_ofSheet τ (nI k) 2 = some (τ 1 (119 + 2 + 4 * k)) := cj_ofS1 (w := 2) hk (by decide)
  have e3 : f_X9_ofSheet τ (nI k) 3 = some (τ 1 (119 + 3 + 4 * k)) := cj_ofS1 (w := 3) hk (by decide)
  unfold f_X0_isDry f_X0_wetFor f_X9_isDry
  rw [cj_gdN hk (by decide), cj_gdN hk (by decide), cj_gdN hk (by decide), cj_tn (by omega), h.rk (k := 12) ⟨by decide, by decide⟩ hk, h.rk (k := 13) ⟨by decide, by decide⟩ hk, h.r0.2.2.1, e2, e3]
  simp only [cj_bd1]
  by_cases c : τ 1 (109 + 12 + 4 * k) = 0
  · rw [if_pos c, if_pos (show τ 1 (119 + 2 + 4 * k) = 0 from c)]
    exact ⟨rfl, Or.inl rfl⟩
  · rw [if_neg c, if_neg (show ¬ τ 1 (119 + 2 + 4 * k) = 0 from c)]
    by_cases d : τ 1 (109 + 13 + 4 * k) ≤ τ 1 4
    · rw [if_pos d, cj_bd1, if_pos rfl, if_neg (show ¬ τ 1 4 < τ 1 (119 + 3 + 4 * k) from Int32.not_lt.mpr d)]
      exact ⟨rfl, Or.inr rfl⟩
    · have d2 : τ 1 4 < τ 1 (119 + 3 + 4 * k) := Int32.not_le.mp d
      rw [if_neg d, cj_bd1, if_neg (fun e => d (by rw [cj_sub0.mp e]; exact Int32.le_refl _)), if_pos d2]
      exact ⟨rfl, Or.inl rfl⟩
theorem cj_bought (h : cj_Rq N σ (τ 1)) (h19 : ∀ q, q < 4 → σ 19 q = τ 1 (163 + 6 * q) ∨ τ 1 (164 + 6 * q) = 0) {q : Nat} (hq : q < 4) : f_X2_peopleBoughtOn σ (nI q) (τ 1 4 / 300) = f_X9_boughtOf τ (nI q) ∧ ∃ r, f_X9_boughtOf τ (nI q) = some r := by
  have e4 : f_X9_ofPaper τ (nI q) 4 = some (τ 1 (159 + 4 + 6 * q)) := cj_ofP1 (w := 4) hq (by decide)
  have e5 : f_X9_ofPaper τ (nI q) 5 = some (τ 1 (159 + 5 + 6 * q)) := cj_ofP1 (w := 5) hq (by decide)
  unfold f_X2_peopleBoughtOn f_X9_boughtOf f_X9_day
  rw [cj_gdN hq (by decide), cj_gdN hq (by decide), cj_tn (by omega), e4, e5, h.rq (k := 20) ⟨by decide, by decide, by decide⟩ hq]
  simp only [cj_bd1]
  have g : (if τ 1 (159 + 4 + 6 * q) = τ 1 4 / 300 then some (τ 1 (159 + 5 + 6 * q)) else some 0) = (if σ 19 q = τ 1 4 / 300 then some (τ 1 (144 + 20 + 6 * q)) else some 0) := by
    rcases h19 q hq with e | e
    · rw [e]
    · have e' : τ 1 (159 + 5 + 6 * q) = 0 := e
      have e'' : τ 1 (144 + 20 + 6 * q) = 0 := e
      rw [e']
      by_cases c1 : τ 1 (159 + 4 + 6 * q) = τ 1 4 / 300 <;> by_cases c2 : σ 19 q = τ 1 4 / 300 <;> simp [c1, c2]
  refine ⟨g.symm, ?_⟩
  by_cases c1 : τ 1 (159 + 4 + 6 * q) = τ 1 4 / 300
  · exact ⟨_, if_pos c1⟩
  · exact ⟨_, if_neg c1⟩
theorem cj_can (h : cj_Rq N σ (τ 1)) (h19 : ∀ q, q < 4 → σ 19 q = τ 1 (163 + 6 * q) ∨ τ 1 (164 + 6 * q) = 0) {k q : Nat} (hk : k < 10) (hq : q < 4) : f_X0_canSell σ (nI k) (nI q) = f_X9_canSell τ (nI k) (nI q) ∧ (f_X9_canSell τ (nI k) (nI q) = some 0 ∨ f_X9_canSell τ (nI k) (nI q) = some 1) := by
  obtain ⟨d1, d2⟩ := cj_dry h hk
  obtain ⟨b1, r, b2⟩ := cj_bought h h19 hq
  have e1 : f_X9_ofSheet τ (nI k) 1 = some (τ 1 (119 + 1 + 4 * k)) := cj_ofS1 (w := 1) hk (by decide)
  unfold f_X0_canSell f_X9_canSell f_X0_day
  rw [d1]
  rcases d2 with e | e
  · rw [e]
    simp only [cj_bd1]
    rw [if_pos trivial]
    exact ⟨rfl, Or.inl rfl⟩
  · rw [e]
    have z1 : ¬ (1 : Int32) = 0 := by decide
    simp only [cj_bd1, if_neg z1, h.r0.2.2.1, b1, b2, e1, cj_gdN hk (by decide : 10 < 2147483648), cj_tn (show k < 2147483648 by omega), h.rk (k := 11) ⟨by decide, by decide⟩ hk]
    unfold f_X8_hasBit
    show cj_bd (if (r >>> (τ 1 (119 + 1 + 4 * k) &&& 31)) &&& 1 = 0 then some 0 else some 1) _ = _ ∧ _
    by_cases c : (r >>> (τ 1 (119 + 1 + 4 * k) &&& 31)) &&& 1 = 0
    · rw [if_pos c, if_pos c, cj_bd1, if_pos rfl]
      exact ⟨rfl, Or.inr rfl⟩
    · rw [if_neg c, if_neg c, cj_bd1, if_neg z1]
      exact ⟨rfl, Or.inl rfl⟩
theorem cj_price {k q w c r : Nat} (h : cj_Rq N σ (τ 1)) (hN : N ≤ 6) (hk : k < 10) (hq : q < 4) (hw : τ 1 (120 + 4 * k) = nI w) (hw2 : w < N) (hc : τ 1 (121 + 4 * k) = nI c) (hc2 : c < 4096) (hr : τ 1 (159 + 6 * q) = nI r) (hr2 : r ≤ 20) : ∃ v, v ≤ 480 ∧ f_X0_priceAt σ (nI k) (nI q) = some (nI v) ∧ f_X9_priceOf τ (nI k) (nI q) = some (nI v) := by
  obtain ⟨o, ho, o1, o2⟩ := cj_ones hc2
  obtain ⟨v1, x, v2⟩ := cj_ver_eq h hN hw2
  have e0 : f_X9_ofPaper τ (nI q) 0 = some (nI r) := by rw [← hr]; exact cj_ofP1 (w := 0) hq (by decide)
  have e1 : f_X9_ofPaper τ (nI q) 1 = some (τ 1 (144 + 16 + 6 * q)) := cj_ofP1 (w := 1) hq (by decide)
  have e2 : f_X9_ofSheet τ (nI k) 2 = some (nI c) := by rw [← hc]; exact cj_ofS1 (w := 2) hk (by decide)
  have e3 : f_X9_ofSheet τ (nI k) 1 = some (nI w) := by rw [← hw]; exact cj_ofS1 (w := 1) hk (by decide)
  have hm : r * o ≤ 20 * 12 := Nat.mul_le_mul hr2 ho
  have tail : ∀ P : Nat, P ≤ 480 → ∃ v, v ≤ 480 ∧ (if τ 1 4 - τ 1 4 / 300 * 300 ≤ τ 1 (144 + 16 + 6 * q) then some (nI P) else some (nI P / 2)) = some (nI v) := fun P hP => by
    by_cases d : τ 1 4 - τ 1 4 / 300 * 300 ≤ τ 1 (144 + 16 + 6 * q)
    · exact ⟨P, hP, if_pos d⟩
    · refine ⟨P / 2, by omega, ?_⟩
      rw [if_neg d, show (2 : Int32) = nI 2 from rfl, pk_div (by omega) (by decide) (by decide)]
  have mul2 : ∀ P : Nat, nI P * 2 = nI (2 * P) ∧ 2 * nI P = nI (2 * P) := fun P => by
    rw [show (2 : Int32) = nI 2 from rfl, pk_mul, pk_mul, Nat.mul_comm]
    exact ⟨rfl, rfl⟩
  have hc' : σ 12 k = nI c := by rw [h.rk (k := 12) ⟨by decide, by decide⟩ hk]; exact hc
  have hw' : σ 11 k = nI w := by rw [h.rk (k := 11) ⟨by decide, by decide⟩ hk]; exact hw
  have hr' : σ 15 q = nI r := by rw [h.rq (k := 15) ⟨by decide, by decide, by decide⟩ hq]; exact hr
  unfold f_X0_priceAt f_X9_priceOf f_X0_hour
  simp only [cj_gdN hq (by decide : 4 < 2147483648), cj_gdN hk (by decide : 10 < 2147483648), cj_tn (show k < 2147483648 by omega), cj_tn (show q < 2147483648 by omega), hc', hw', hr', h.rq (k := 16) ⟨by decide, by decide, by decide⟩ hq, h.r0.2.2.1, o1, o2, e0, e1, e2, e3, cj_bd1, cj_lt1, v1, v2, pk_mul, (mul2 _).1, (mul2 _).2]
  by_cases c1 : x = 0
  · rw [if_pos c1]
    obtain ⟨v, g1, g2⟩ := tail (r * o) (by omega)
    exact ⟨v, g1, g2, g2⟩
  · rw [if_neg c1]
    obtain ⟨v, g1, g2⟩ := tail (2 * (r * o)) (by omega)
    exact ⟨v, g1, g2, g2⟩
theorem cj_drawable {B T k w : Nat} (h : cj_Rq N σ (τ 1)) (hN : N ≤ 6) (hW : cj_WF B T N (τ 1)) (hT : T ≤ 20000) (hk : k < 10) (hw : τ 1 (120 + 4 * k) = nI w) (hw2 : w < N) : ∃ v, v < 4096 ∧ f_X0_drawable σ (nI k) = some (nI v) ∧ f_X9_drawable τ (nI k) = some (nI v) := by
  obtain ⟨v, hv, h1, h2⟩ := cj_rem h hN hW hT hw2
  have e2 : f_X9_ofSheet τ (nI k) 2 = some (τ 1 (109 + 12 + 4 * k)) := cj_ofS1 (w := 2) hk (by decide)
  have e3 : f_X9_ofSheet τ (nI k) 1 = some (nI w) := by rw [← hw]; exact cj_ofS1 (w := 1) hk (by decide)
  have hw' : σ 11 k = nI w := by rw [h.rk (k := 11) ⟨by decide, by decide⟩ hk]; exact hw
  obtain ⟨j, hj, e⟩ := cj_andx hv (by decide) (τ 1 (109 + 12 + 4 * k) ^^^ (-1))
  refine ⟨j, hj, ?_, ?_⟩
  · unfold f_X0_drawable
    rw [cj_gdN hk (by decide), cj_tn (by omega), hw', h1, cj_bd1, cj_gdN hk (by decide), h.rk (k := 12) ⟨by decide, by decide⟩ hk, e]
  · unfold f_X9_drawable
    rw [e3, cj_bd1, h2, cj_bd1, e2, cj_bd1, e]
end CJU
