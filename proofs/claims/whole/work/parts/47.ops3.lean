/-! a sheet begun, a feature drawn -/
section CJY
variable {B T N : Nat} {σ τ τ1 : cj_S} {m : Nat → Int32}
theorem cj_WF.sht (h : cj_WF B T N m) (hN : N ≤ 6) {ns bg p : Nat} {m' : Nat → Int32} (h2 : m 2 = nI ns) (hns : ns < 10) (h3 : m 3 = nI bg) (hB : B < 2147483648) (hbg : bg ≤ B) (hp : p < N) (q2 : m' 2 = nI (ns + 1)) (q3 : m' 3 = nI (bg + 1)) (f0 : m' (119 + 4 * ns) = nI bg) (f1 : m' (120 + 4 * ns) = nI p) (f2 : m' (121 + 4 * ns) = 0) (e : ∀ i, i ≠ 2 → i ≠ 3 → i ≠ 119 + 4 * ns → i ≠ 120 + 4 * ns → i ≠ 121 + 4 * ns → i ≠ 122 + 4 * ns → m' i = m i) : cj_WF (B + 1) T N m' := by
  obtain ⟨h1, ⟨ns', bg', sd, pd, a1, a2, a3, a4, a5, a6, a7, a8, ⟨nm, a9⟩, a10⟩, h3', h4, h5, h6, h7, h8, h9⟩ := cj_WFi.mp h
  have : ns' = ns := (nI_eq (by omega) (by omega)).mp (a1.symm.trans h2)
  subst this
  have : bg' = bg := (nI_eq (by omega) (by omega)).mp (a3.symm.trans h3)
  subst this
  have e0 : ∀ i, i ≠ 2 → i ≠ 3 → i < 119 ∨ 159 ≤ i → m' i = m i := fun i q1 q2 q3 => e i q1 q2 (by omega) (by omega) (by omega) (by omega)
  refine cj_WFi.mpr ⟨h1.cg (e0 _ (by omega) (by omega) (by omega)) (fun q hq => e0 _ (by omega) (by omega) (by omega)) (fun q hq => e0 _ (by omega) (by omega) (by omega)), ⟨ns' + 1, bg' + 1, sd, pd, q2, by omega, q3, by omega, (e0 _ (by omega) (by omega) (by omega)).trans a5, (e0 _ (by omega) (by omega) (by omega)).trans a6, a7, by omega, ⟨fun k => if k = ns' then bg' else nm k, fun k hk => ?_⟩, fun k hk => ?_⟩, h3'.cg (Nat.le_refl _) (e0 _ (by omega) (by omega) (by omega)), h4.cg (Nat.le_refl _) (e0 _ (by omega) (by omega) (by omega)), h5.cg (e0 _ (by omega) (by omega) (by omega)), h6.cg (e0 _ (by omega) (by omega) (by omega)), h7.cg (e0 _ (by omega) (by omega) (by omega)), h8.cg (fun q hq => e0 _ (by omega) (by omega) (by omega)) (fun q hq => e0 _ (by omega) (by omega) (by omega)), h9.cg (Nat.le_refl _) (fun q hq f hf => e0 _ (by omega) (by omega) (by omega))⟩
  · by_cases c : k = ns'
    · subst c
      refine ⟨?_, ?_, fun i hi => ?_⟩
      · show m' _ = nI (if k = k then bg' else nm k)
        rw [if_pos rfl]
        exact f0
      · show (if k = k then bg' else nm k) < _
        rw [if_pos rfl]
        omega
      · show (if i = k then bg' else nm i) < (if k = k then bg' else nm k)
        rw [if_pos rfl, if_neg (by omega)]
        exact (a9 i hi).2.1
    · obtain ⟨u1, u2, u3⟩ := a9 k (by omega)
      refine ⟨?_, ?_, fun i hi => ?_⟩
      · show m' _ = nI (if k = ns' then bg' else nm k)
        rw [if_neg c, e _ (by omega) (by omega) (by omega) (by omega) (by omega) (by omega)]
        exact u1
      · show (if k = ns' then bg' else nm k) < _
        rw [if_neg c]
        omega
      · show (if i = ns' then bg' else nm i) < (if k = ns' then bg' else nm k)
        rw [if_neg c, if_neg (by omega)]
        exact u3 i hi
  · by_cases c : k = ns'
    · subst c
      exact ⟨⟨p, hp, f1⟩, ⟨0, by decide, f2⟩⟩
    · rw [e _ (by omega) (by omega) (by omega) (by omega) (by omega) (by omega), e _ (by omega) (by omega) (by omega) (by omega) (by omega) (by omega)]
      exact a10 k (by omega)
theorem cj_csheet (hB : B < 2147483648) (hR : cj_RC B T σ (τ 1)) (hc : f_X9_changes τ = some τ1) (h1 : τ1 1 = τ 1) (a1 : Int32) : cj_Co (B + 1) T σ τ τ1 (f_X0_beginSheet σ a1) (f_X9_sheet τ a1) := by
  obtain ⟨N, hX, hW⟩ := hR.x
  obtain ⟨hN, h0, hq, hd, hs, hb⟩ := id hX
  obtain ⟨ns, bg, -, -, p1, p2, p3, p4, -⟩ := (cj_WFi.mp hW).2.1
  have e1 : τ1 = cj_upr τ1 1 (τ 1) := by rw [← h1, cj_ui]
  unfold f_X0_beginSheet f_X9_sheet
  rw [cj_has_eq hq.r1]
  rcases cj_per_c h0 hN a1 with e | ⟨p, hp, rfl, e⟩
  · rw [e]
    exact Or.inl ⟨-1000001, by decide, rfl, rfl⟩
  rw [e]
  simp only [cj_bd1, if_neg cj_z1, hc, hq.r9, p1]
  by_cases c : ns = 10
  · subst c
    rw [if_neg (by decide), if_pos (by decide)]
    exact Or.inl ⟨-1000003, by decide, rfl, rfl⟩
  have hns : ns < 10 := by omega
  rw [if_pos (show nI ns < 10 from nI_lt (b := 10) hns (by decide)), if_neg (show ¬ nI ns = 10 from fun q => c ((nI_eq (b := 10) (by omega) (by decide)).mp q))]
  have r1 : cj_ix 10 ns = 119 + 4 * ns := rfl
  have r2 : cj_ix 11 ns = 120 + 4 * ns := rfl
  have r3 : cj_ix 12 ns = 121 + 4 * ns := rfl
  have r4 : cj_ix 13 ns = 122 + 4 * ns := rfl
  have r5 : cj_ix 9 0 = 2 := rfl
  have r6 : cj_ix 9 1 = 3 := rfl
  have hX' : cj_RX N (cj_up2 (cj_up2 (cj_up2 (cj_up2 (cj_up2 (cj_up2 σ 10 ns (nI bg)) 11 ns (nI p)) 12 ns 0) 13 ns 0) 9 0 (nI (ns + 1))) 9 1 (nI (bg + 1))) (upd (upd (upd (upd (upd (upd (τ 1) (119 + 4 * ns) (nI bg)) (120 + 4 * ns) (nI p)) (121 + 4 * ns) 0) (122 + 4 * ns) 0) 2 (nI (ns + 1))) 3 (nI (bg + 1))) := by
    rw [← r1, ← r2, ← r3, ← r4]
    exact (((((hX.up (k := 10) (j := ns) (by unfold cj_dm; omega) (by decide) (by omega) (by omega) _).up (k := 11) (j := ns) (by unfold cj_dm; omega) (by decide) (by omega) (by omega) _).up (k := 12) (j := ns) (by unfold cj_dm; omega) (by decide) (by omega) (by omega) _).up (k := 13) (j := ns) (by unfold cj_dm; omega) (by decide) (by omega) (by omega) _).up (k := 9) (j := 0) (by unfold cj_dm; omega) (by decide) (by omega) (by omega) _).up (k := 9) (j := 1) (by unfold cj_dm; omega) (by decide) (by omega) (by omega) _
  have hW' : cj_WF (B + 1) T N (upd (upd (upd (upd (upd (upd (τ 1) (119 + 4 * ns) (nI bg)) (120 + 4 * ns) (nI p)) (121 + 4 * ns) 0) (122 + 4 * ns) 0) 2 (nI (ns + 1))) 3 (nI (bg + 1))) := by
    refine hW.sht hN p1 hns p3 hB p4 hp ?_ pk_us ?_ ?_ ?_ ?_
    · rw [pk_un (by omega), pk_us]
    · rw [pk_un (by omega), pk_un (by omega), pk_un (by omega), pk_un (by omega), pk_un (by omega), pk_us]
    · rw [pk_un (by omega), pk_un (by omega), pk_un (by omega), pk_un (by omega), pk_us]
    · rw [pk_un (by omega), pk_un (by omega), pk_un (by omega), pk_us]
    · intro i q1 q2 q3 q4 q5 q6
      rw [pk_un q2, pk_un q1, pk_un q6, pk_un q5, pk_un q4, pk_un q3]
  refine Or.inr ⟨nI bg, _, _, nI_pos' (by omega), ?_, ?_, hX'.c hW'⟩
  · unfold f_X6_add
    simp only [cj_lt1, cj_o, Nat.reduceBEq, hq.r9, hq.r9b, p1, p3, cj_gdN hns (by decide : 10 < 2147483648), cj_tn (show ns < 2147483648 by omega), nI_1, cj_s, cj_uo, pk_us, nI_pred, cj_bp1]
  · have k0 : (119 : Int32) + 4 * nI ns + 0 = nI (119 + 4 * ns) := cj_n4 ns 0
    have k1 : (119 : Int32) + 4 * nI ns + 1 = nI (120 + 4 * ns) := by rw [show (1 : Int32) = nI 1 from rfl, cj_n4]; congr 1; omega
    have k2 : (119 : Int32) + 4 * nI ns + 2 = nI (121 + 4 * ns) := by rw [show (2 : Int32) = nI 2 from rfl, cj_n4]; congr 1; omega
    have k3 : (119 : Int32) + 4 * nI ns + 3 = nI (122 + 4 * ns) := by rw [show (3 : Int32) = nI 3 from rfl, cj_n4]; congr 1; omega
    have h13 : τ1 1 3 = nI bg := by rw [h1, p3]
    simp only [k0, k1, k2, k3, h13, cj_gdN (show 119 + 4 * ns < 183 by omega) (by decide : 183 < 2147483648), cj_gdN (show 120 + 4 * ns < 183 by omega) (by decide : 183 < 2147483648), cj_gdN (show 121 + 4 * ns < 183 by omega) (by decide : 183 < 2147483648), cj_gdN (show 122 + 4 * ns < 183 by omega) (by decide : 183 < 2147483648), cj_tn (show 119 + 4 * ns < 2147483648 by omega), cj_tn (show 120 + 4 * ns < 2147483648 by omega), cj_tn (show 121 + 4 * ns < 2147483648 by omega), cj_tn (show 122 + 4 * ns < 2147483648 by omega)]
    rw [e1]
    simp only [cj_lt1, cj_u2]
    have z : cj_upr τ1 1 (upd (upd (upd (upd (τ 1) (119 + 4 * ns) (nI bg)) (120 + 4 * ns) (nI p)) (121 + 4 * ns) 0) (122 + 4 * ns) 0) 1 2 = nI ns := by
      rw [cj_upr_s, pk_un (by omega), pk_un (by omega), pk_un (by omega), pk_un (by omega), p1]
    rw [z, nI_1]
    have z2 : cj_upr τ1 1 (upd (upd (upd (upd (upd (τ 1) (119 + 4 * ns) (nI bg)) (120 + 4 * ns) (nI p)) (121 + 4 * ns) 0) (122 + 4 * ns) 0) 2 (nI (ns + 1))) 1 3 = nI bg := by
      rw [cj_upr_s, pk_un (by omega), pk_un (by omega), pk_un (by omega), pk_un (by omega), pk_un (by omega), p3]
    rw [z2, nI_1, cj_uu, cj_upr_s, pk_us, nI_pred]
theorem cj_orlt {a f : Nat} (ha : a < 4096) (hf : f < 12) : a ||| 2 ^ f < 4096 :=
  Nat.or_lt_two_pow (n := 12) ha (Nat.pow_lt_pow_right (a := 2) (m := f) (n := 12) (Nat.lt_succ_self 1) hf)
theorem cj_cdraw (hT : T ≤ 20000) (hR : cj_RC B T σ (τ 1)) (hc : f_X9_changes τ = some τ1) (h1 : τ1 1 = τ 1) (a1 a2 : Int32) : cj_Co B T σ τ τ1 (f_X0_drawFeature σ a1 a2) (f_X9_draw τ a1 a2) := by
  obtain ⟨N, hX, hW⟩ := hR.x
  obtain ⟨hN, h0, hq, hd, hs, hb⟩ := id hX
  obtain ⟨ns, bg, -, -, p1, p2, -, -, -, -, -, -, -, p10⟩ := (cj_WFi.mp hW).2.1
  obtain ⟨d, d1, d2⟩ := (cj_WFi.mp hW).2.2.2.2.1
  have e1 : τ1 = cj_upr τ1 1 (τ 1) := by rw [← h1, cj_ui]
  unfold f_X0_drawFeature f_X9_draw
  rw [show f_X9_in a2 0 11 = f_X8_isWithin a2 0 11 from rfl]
  rcases cj_slot hq p1 p2 a1 with ⟨s1, s2, -⟩ | ⟨k, hk, -, -, s1, s2⟩
  · rw [s1, s2]
    exact Or.inl ⟨-1000001, by decide, rfl, rfl⟩
  rw [s1, s2]
  simp only [cj_bd1, if_neg (cj_nm1 (show k < 2147483648 by omega)), if_neg (nI_pos (show k < 2147483648 by omega))]
  rcases cj_in_c a2 0 11 with e2 | ⟨e2, g1, g2⟩
  · rw [e2]
    exact Or.inl ⟨-1000001, by decide, rfl, rfl⟩
  rw [e2]
  obtain ⟨f, rfl, -, hf⟩ := cj_in_n (lo := 0) (hi := 11) rfl rfl (by decide) g1 g2 (by decide)
  obtain ⟨⟨w, hw, w1⟩, ⟨x, hx, x1⟩⟩ := p10 k hk
  obtain ⟨v, hv, v1, v2⟩ := cj_drawable hq hN hW hT (k := k) (by omega) w1 hw
  simp only [cj_bd1, if_neg cj_z1, v1, v2, hc]
  unfold f_X8_hasBit
  have hbit := cj_bit0 (j := v) (f := f) hv (by omega)
  by_cases c : (nI v >>> (nI f &&& 31)) &&& 1 = 0
  · rw [if_pos c, if_pos (hbit.mp c)]
    exact Or.inl ⟨-1000002, by decide, rfl, rfl⟩
  rw [if_neg c, if_neg (fun q => c (hbit.mpr q)), cj_bd1, if_neg cj_z1, d1, hq.r0.2.2.2.2.1, d1]
  by_cases c3 : d = 3
  · subst c3
    rw [if_neg (by decide), if_pos (by decide)]
    exact Or.inl ⟨-1000003, by decide, rfl, rfl⟩
  rw [if_pos (show nI d < 3 from nI_lt (b := 3) (by omega) (by decide)), if_neg (show ¬ nI d = 3 from fun q => c3 ((nI_eq (b := 3) (by omega) (by decide)).mp q))]
  have hk10 : k < 10 := by omega
  have c12 : σ 12 k = nI x := (hq.rk (k := 12) ⟨by decide, by decide⟩ hk10).trans x1
  have c13 : σ 13 k = τ 1 (122 + 4 * k) := hq.rk (k := 13) ⟨by decide, by decide⟩ hk10
  have hx2 := cj_orlt hx (show f < 12 by omega)
  obtain ⟨o, ho, o1, o2⟩ := cj_ones hx2
  obtain ⟨M, hM1, hM2⟩ : ∃ M, f_J9_max_7cf53 (τ 1 (122 + 4 * k)) (τ 1 4 + τ 1 10) = some M ∧ M = if τ 1 4 + τ 1 10 ≤ τ 1 (122 + 4 * k) then τ 1 (122 + 4 * k) else τ 1 4 + τ 1 10 := by
    unfold f_J9_max_7cf53
    by_cases q : τ 1 (122 + 4 * k) < τ 1 4 + τ 1 10
    · rw [if_pos q]
      exact ⟨_, rfl, (if_neg (Int32.not_le.mpr q)).symm⟩
    · rw [if_neg q]
      exact ⟨_, rfl, (if_pos (Int32.not_lt.mp q)).symm⟩
  have r3 : cj_ix 12 k = 121 + 4 * k := rfl
  have r4 : cj_ix 13 k = 122 + 4 * k := rfl
  have hX' : cj_RX N (cj_up2 (cj_up2 (cj_up2 σ 0 7 (nI (d + 1))) 12 k (nI (x ||| 2 ^ f))) 13 k M) (upd (upd (upd (τ 1) (121 + 4 * k) (nI (x ||| 2 ^ f))) (122 + 4 * k) M) 6 (nI (d + 1))) := by
    rw [cj_uc _ (show 122 + 4 * k ≠ 6 by omega), cj_uc _ (show 121 + 4 * k ≠ 6 by omega), ← r3, ← r4]
    exact ((hX.up (k := 0) (j := 7) (by decide) (by decide) (by omega) (by omega) _).up (k := 12) (j := k) (by unfold cj_dm; omega) (by decide) (by omega) (by omega) _).up (k := 13) (j := k) (by unfold cj_dm; omega) (by decide) (by omega) (by omega) _
  have hW' := ((hW.has hN hx2 hk10).fr hN (i := 122 + 4 * k) M (by omega)).dr hN (d := d + 1) (by omega)
  refine Or.inr ⟨nI o, _, _, nI_pos' (by omega), ?_, ?_, hX'.c hW'⟩
  · simp only [cj_lt1, cj_o, Nat.reduceBEq, nI_1, cj_gdN hk10 (by decide : 10 < 2147483648), cj_tn (show k < 2147483648 by omega), c12, c13, cj_bit f (show f < 12 by omega), cj_orI, cj_s, cj_uo, hq.r0.2.2.1, hq.r0.2.1, hM1, cj_bd1, pk_us, o1]
  · have k2 : (119 : Int32) + 4 * nI k + 2 = nI (121 + 4 * k) := by rw [show (2 : Int32) = nI 2 from rfl, cj_n4]; congr 1; omega
    have k3 : (119 : Int32) + 4 * nI k + 3 = nI (122 + 4 * k) := by rw [show (3 : Int32) = nI 3 from rfl, cj_n4]; congr 1; omega
    have s3 : ∀ mm, f_X9_ofSheet (cj_upr τ1 1 mm) (nI k) 3 = some (mm (122 + 4 * k)) := fun mm => by
      have := n_ofS τ1 mm (p := k) (w := 3) (by omega)
      rw [show 119 + 4 * k + 3 = 122 + 4 * k by omega] at this
      exact this
    have s2' : ∀ mm, f_X9_ofSheet (cj_upr τ1 1 mm) (nI k) 2 = some (mm (121 + 4 * k)) := fun mm => by
      have := n_ofS τ1 mm (p := k) (w := 2) (by omega)
      rw [show 119 + 4 * k + 2 = 121 + 4 * k by omega] at this
      exact this
    simp only [k2, k3, cj_gdN (show 121 + 4 * k < 183 by omega) (by decide : 183 < 2147483648), cj_gdN (show 122 + 4 * k < 183 by omega) (by decide : 183 < 2147483648), cj_tn (show 121 + 4 * k < 2147483648 by omega), cj_tn (show 122 + 4 * k < 2147483648 by omega), h1, x1, cj_bit f (show f < 12 by omega), cj_orI]
    rw [e1]
    simp only [cj_lt1, cj_u2, s3, s2', cj_bd1, cj_upr_s, cj_uu]
    have z1 : upd (τ 1) (121 + 4 * k) (nI (x ||| 2 ^ f)) (122 + 4 * k) = τ 1 (122 + 4 * k) := pk_un (by omega)
    have z2 : ∀ M, upd (upd (τ 1) (121 + 4 * k) (nI (x ||| 2 ^ f))) (122 + 4 * k) M 6 = nI d := fun M => by rw [pk_un (by omega), pk_un (by omega), d1]
    have z3 : ∀ M y, upd (upd (upd (τ 1) (121 + 4 * k) (nI (x ||| 2 ^ f))) (122 + 4 * k) M) 6 y (121 + 4 * k) = nI (x ||| 2 ^ f) := fun M y => by rw [pk_un (by omega), pk_un (by omega), pk_us]
    simp only [z1, z2, z3, o2, cj_bd1, nI_1]
    by_cases q : τ 1 4 + τ 1 10 ≤ τ 1 (122 + 4 * k)
    · rw [if_pos q] at hM2 ⊢
      rw [hM2]
    · rw [if_neg q] at hM2 ⊢
      rw [hM2]
end CJY
