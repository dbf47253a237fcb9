/-! fault and play -/
theorem cj_RR.same2 {n : Nat} {μ μ' : cj_Mm} {τ τ' : cj_S} (h : cj_RR n μ τ) (eg : ∀ g, g = 1 ∨ g = 5 ∨ 7 ≤ g → μ' g = μ g) (g1 : μ' 2 0 1 = μ 2 0 1) (g2 : μ' 2 1 = μ 2 1) (e1 : ∀ j, j < 183 → τ' 1 j = τ 1 j) (e2 : τ' 2 = τ 2) (e5 : τ' 5 = τ 5) (f4 : τ' 0 4 = τ 0 4) (f5 : τ' 0 5 = τ 0 5) (f7 : τ' 0 7 = τ 0 7) : cj_RR n μ' τ' := by
  obtain ⟨r1, ⟨o, h, a1, a2, a3, a4, a5, a6⟩, ⟨len, l1, l2, l3, l4⟩, r4⟩ := h
  refine ⟨?_, ⟨o, h, a1, a2, ?_, ?_, f4.trans a5, fun i hi => ?_⟩, ⟨len, l1, g1.trans l2, f7.trans l3, fun i hi => ?_⟩, f5.trans r4⟩
  · rw [eg 5 (by omega)]
    exact r1.eq (fun k j _ => rfl) e1
  · rw [eg 1 (by omega), a3]
  · rw [eg 1 (by omega), a4]
  · rw [eg _ (by omega), e2]
    exact a6 i hi
  · rw [g2, e5]
    exact l4 i hi
theorem cj_play1 {B len : Nat} (hB : B < 10400) {μ : cj_Mm} {τ : cj_S} (hT : cj_Tx len (μ 2) τ) (hR : cj_RC B 9999 (μ 6) (τ 1)) : ∃ s' τ' x, f_X4_run μ = some s' ∧ f_X9_plays τ = some (x, τ') ∧ cj_Endd B μ s' τ τ' x ∧ τ' 0 5 = 0 := by
  have h60 := hT.1
  have a0 : ∀ r i, cj_up2 (cj_up2 (cj_up2 (cj_up2 τ 0 5 1) 0 8 0) 0 9 0) 0 12 0 r i = if r = 0 ∧ i = 12 then 0 else if r = 0 ∧ i = 9 then 0 else if r = 0 ∧ i = 8 then 0 else if r = 0 ∧ i = 5 then 1 else τ r i := fun r i => by rw [cj_at2, cj_at2, cj_at2, cj_at2]
  have ak : ∀ k, k ≠ 0 → cj_up2 (cj_up2 (cj_up2 (cj_up2 τ 0 5 1) 0 8 0) 0 9 0) 0 12 0 k = τ k := fun k hk => by rw [cj_oo hk, cj_oo hk, cj_oo hk, cj_oo hk]
  have b3 : cj_upG (cj_upG μ 3 (cj_up2 (μ 3) 0 0 0)) 3 (cj_up2 (cj_upG μ 3 (cj_up2 (μ 3) 0 0 0) 3) 0 1 (-1)) 3 = cj_up2 (cj_up2 (μ 3) 0 0 0) 0 1 (-1) := by rw [cj_upG_s, cj_upG_s]
  have bo : ∀ g, g ≠ 3 → cj_upG (cj_upG μ 3 (cj_up2 (μ 3) 0 0 0)) 3 (cj_up2 (cj_upG μ 3 (cj_up2 (μ 3) 0 0 0) 3) 0 1 (-1)) g = μ g := fun g hg => by rw [cj_upG_o hg, cj_upG_o hg]
  have A := fun K' => cj_runs (B := B) (len := len) hB K' len 0 0 cj_FU cj_FU (cj_upG (cj_upG μ 3 (cj_up2 (μ 3) 0 0 0)) 3 (cj_up2 (cj_upG μ 3 (cj_up2 (μ 3) 0 0 0) 3) 0 1 (-1))) (cj_up2 (cj_up2 (cj_up2 (cj_up2 τ 0 5 1) 0 8 0) 0 9 0) 0 12 0) (by omega) (by unfold cj_FU; omega) (by unfold cj_FU; omega) (by rw [bo 2 (by decide)]; exact hT.mv rfl (by rw [a0, if_neg (by omega), if_neg (by omega), if_neg (by omega), if_neg (by omega)]) rfl (ak 5 (by decide))) (by rw [b3, cj_at2, if_neg (by omega), cj_at2, if_pos ⟨rfl, rfl⟩]; rfl) (by rw [a0, if_pos ⟨rfl, rfl⟩]; rfl) (by omega) (by omega) (by rw [b3, cj_at2, if_pos ⟨rfl, rfl⟩]) (by rw [a0, if_neg (by omega), if_neg (by omega), if_neg (by omega), if_pos ⟨rfl, rfl⟩]) (by rw [a0, if_neg (by omega), if_neg (by omega), if_pos ⟨rfl, rfl⟩]; rfl) (by rw [bo 6 (by decide), ak 1 (by decide)]; exact hR)
  obtain ⟨s', τ', x, i1, i2, i3, i4, i5, i6, i7, i8, i9⟩ := A (fun (x29 : Int32) (s30 : cj_S) => cj_lt (cj_up2 s30 0 5 0) (fun (s31 : cj_S) => cj_gp (x29 = 0 ∨ x29 = 1) (some (x29, s31))))
  have i1 : f_X4_run_L12 cj_FK cj_FU 0 _ = _ := i1
  have hx : x = 0 ∨ x = 1 := by
    rcases i3 with ⟨h, -⟩ | ⟨h, -⟩
    · exact Or.inr h
    · exact Or.inl h
  refine ⟨s', cj_up2 τ' 0 5 0, x, ?_, ?_, ⟨?_, fun g g1 g2 g3 => ?_, ?_, ?_, fun k k1 k2 k3 => ?_, ?_, ?_⟩, by rw [cj_at2, if_pos ⟨rfl, rfl⟩]⟩
  · unfold f_X4_run
    rw [cj_lt1, cj_lt1, show (fun (x20 : Int32) (x21 : Int32) (s22 : cj_Mm) => cj_bd (f_X4_fail (s22 3) x20 2 x21) (fun (s24 : cj_S) => cj_lt (cj_upG s22 3 s24) (fun (s25 : cj_Mm) => some s25))) = cj_FK from rfl]
    exact i1
  · unfold f_X9_plays
    rw [cj_lt1, cj_lt1, cj_lt1, cj_lt1, i2, cj_lt1, cj_gpT hx]
  · rcases i3 with ⟨h, h2, dn, h3, h4, h5, h6⟩ | ⟨h, f, h2, h3, h4, h5, h6⟩
    · exact Or.inl ⟨h, h2, dn, h3, h4, by rw [cj_at2, if_neg (by omega), h5], by rw [cj_oo (by decide)]; exact h6⟩
    · exact Or.inr ⟨h, f, h2, h3, by rw [cj_at2, if_neg (by omega), h4], by rw [cj_at2, if_neg (by omega), h5], by rw [cj_at2, if_neg (by omega), h6]⟩
  · rw [i4 g g1 g2 g3, bo g g2]
  · rw [i5, bo 2 (by decide)]
  · rw [i6, bo 2 (by decide)]
  · rw [cj_oo k1, i7 k k1 k2 k3, ak k k1]
  · rw [cj_at2, if_neg (by omega), i8, a0, if_neg (by omega), if_neg (by omega), if_neg (by omega), if_neg (by omega)]
  · rw [cj_at2, if_neg (by omega), i9, a0, if_neg (by omega), if_neg (by omega), if_neg (by omega), if_neg (by omega)]
section CJN
variable {n : Nat} {μ : cj_Mm} {τ : cj_S}
theorem cj_h25 (hn : n < 512) (hR : cj_RR n μ τ) : cj_O25 (cj_RR (n + 1)) μ τ := by
  intro a1
  obtain ⟨r1, -, ⟨len, l1, l2, l3, l4⟩, r4⟩ := id hR
  unfold f_X8_fault f_X9_fault
  rw [show f_X9_in a1 0 2 = f_X8_isWithin a1 0 2 from rfl]
  rcases cj_in_c a1 0 2 with e2 | ⟨e2, g1, g2⟩
  · rw [e2]
    exact ⟨_, _, _, rfl, rfl, hR.up⟩
  rw [e2]
  obtain ⟨f, rfl, -, hf⟩ := cj_in_n (lo := 0) (hi := 2) rfl rfl (by decide) g1 g2 (by decide)
  obtain ⟨X, x1, x2⟩ := cj_copyF (gd := 6) (gs := 5) (by decide) μ
  obtain ⟨s4, c1, c2, c3⟩ := cj_cop (kf := 1) (kt := 3) (by decide) τ
  have hT : cj_Tx len (cj_upG μ 6 X 2) s4 := by
    rw [cj_upG_o (by decide)]
    exact (show cj_Tx len (μ 2) τ from ⟨l1, l2, l3, l4⟩).mv rfl (by rw [c3 0 (by decide)]) rfl (c3 5 (by decide))
  obtain ⟨s6, s7, x, p1, p2, ⟨p3, p4, p5, p6, p7, p8, p9⟩, p10⟩ := cj_play1 (B := 20 * n) (by omega) hT (by rw [cj_upG_s, c3 1 (by decide)]; exact r1.eq x2 (fun _ _ => rfl))
  obtain ⟨s9, d1, d2, d3⟩ := cj_cop (kf := 3) (kt := 1) (by decide) s7
  have hS : cj_RR (n + 1) s6 s9 := hR.up.same2 (fun g hg => by rw [p4 g (by omega) (by omega) (by omega), cj_upG_o (by omega)]) (by rw [p5, cj_upG_o (by decide)]) (by rw [p6, cj_upG_o (by decide)]) (fun j hj => by rw [d2 j hj, p7 3 (by decide) (by decide) (by decide), c2 j hj]) (by rw [d3 2 (by decide), p7 2 (by decide) (by decide) (by decide), c3 2 (by decide)]) (by rw [d3 5 (by decide), p7 5 (by decide) (by decide) (by decide), c3 5 (by decide)]) (by rw [d3 0 (by decide), p8, c3 0 (by decide)]) (by rw [d3 0 (by decide), p10, r4]) (by rw [d3 0 (by decide), p9, c3 0 (by decide)])
  simp only [cj_bd1, if_neg cj_z1, x1, c1, p1, p2, cj_bp1, d1]
  rcases p3 with ⟨q1, q2, -⟩ | ⟨q1, w, q2, q3, q4, q5, q6⟩
  · rw [q1, q2, if_pos rfl, if_neg cj_z1]
    exact ⟨_, _, _, rfl, rfl, hS⟩
  · have e9 : s9 0 9 = nI w := by rw [d3 0 (by decide), q4]
    have e10 : s9 0 10 = s6 3 0 2 := by rw [d3 0 (by decide), q5]
    have e11 : s9 0 11 = s6 3 0 3 := by rw [d3 0 (by decide), q6]
    rw [q1, q3, if_neg (cj_nm1 (by omega)), if_pos rfl, e9, e10, e11]
    have : f = 0 ∨ f = 1 ∨ f = 2 := by omega
    rcases this with rfl | rfl | rfl
    · exact ⟨_, _, _, rfl, rfl, hS⟩
    · exact ⟨_, _, _, rfl, rfl, hS⟩
    · exact ⟨_, _, _, rfl, rfl, hS⟩
theorem cj_h26 (hn : n < 512) (hR : cj_RR n μ τ) : cj_O26 (cj_RR (n + 1)) μ τ := by
  obtain ⟨r1, ⟨o, h, a1, a2, a3, a4, a5, a6⟩, ⟨len, l1, l2, l3, l4⟩, r4⟩ := id hR
  show cj_Tmm (cj_RR (n + 1)) μ τ (f_X8_play μ) (f_X9_play τ)
  unfold f_X8_play f_X9_play
  obtain ⟨X, x1, x2⟩ := cj_copyF (gd := 6) (gs := 5) (by decide) μ
  obtain ⟨s2, c1, c2, c3⟩ := cj_cop (kf := 1) (kt := 3) (by decide) τ
  have hT0 : cj_Tx len (cj_upG μ 6 X 2) τ := by
    rw [cj_upG_o (by decide)]
    exact ⟨l1, l2, l3, l4⟩
  have hT : cj_Tx len (cj_upG μ 6 X 2) s2 := hT0.mv rfl (by rw [c3 0 (by decide)]) rfl (c3 5 (by decide))
  obtain ⟨s4, s5, x, p1, p2, ⟨p3, p4, p5, p6, p7, p8, p9⟩, p10⟩ := cj_play1 (B := 20 * n) (by omega) hT (by rw [cj_upG_s, c3 1 (by decide)]; exact r1.eq x2 (fun _ _ => rfl))
  obtain ⟨s7, d1, d2, d3⟩ := cj_cop (kf := 3) (kt := 1) (by decide) s5
  have t1 : ∀ j, j < 183 → s7 1 j = τ 1 j := fun j hj => by rw [d2 j hj, p7 3 (by decide) (by decide) (by decide), c2 j hj]
  have t5 : s7 5 = τ 5 := by rw [d3 5 (by decide), p7 5 (by decide) (by decide) (by decide), c3 5 (by decide)]
  have t07 : s7 0 7 = τ 0 7 := by rw [d3 0 (by decide), p9, c3 0 (by decide)]
  have hS : cj_RR n s4 s7 := hR.same2 (fun g hg => by rw [p4 g (by omega) (by omega) (by omega), cj_upG_o (by omega)]) (by rw [p5, cj_upG_o (by decide)]) (by rw [p6, cj_upG_o (by decide)]) t1 (by rw [d3 2 (by decide), p7 2 (by decide) (by decide) (by decide), c3 2 (by decide)]) t5 (by rw [d3 0 (by decide), p8, c3 0 (by decide)]) (by rw [d3 0 (by decide), p10, r4]) t07
  simp only [cj_bd1, x1, c1, p1, p2, cj_bp1, d1]
  rcases p3 with ⟨q1, q2, dn, q3, q4, q5, q6⟩ | ⟨q1, w, q2, q3, -⟩
  rotate_left
  · rw [q1, q3, if_neg (cj_nm1 (by omega)), if_pos rfl]
    exact ⟨_, _, _, rfl, rfl, hS.up⟩
  obtain ⟨-, ⟨o', h', b1, b2, b3, b4, b5, -⟩, -, b8⟩ := id hS
  obtain ⟨s9, e1, e2, e3, e4, -⟩ := cj_chg b8 b5 b2
  have hT9 : cj_Tx len (cj_upG μ 6 X 2) s9 := hT0.mv rfl (by rw [e4 7 (by decide), t07]) rfl (by rw [e3, t5])
  obtain ⟨s4', s12, y, u1, u2, ⟨u3, u4, u5, u6, u7, u8, u9⟩, u10⟩ := cj_play1 (B := 20 * n) (by omega) hT9 (by rw [cj_upG_s, e2]; exact r1.eq x2 t1)
  have : s4' = s4 := Option.some.inj (u1.symm.trans p1)
  subst this
  rcases u3 with ⟨v1, v2, dn2, v3, v4, v5, v6⟩ | ⟨v1, w, v2, v3, -⟩
  rotate_left
  · rw [q2] at v3
    exact absurd v3.symm (cj_nm1 (by omega))
  obtain ⟨X2, y1, y2⟩ := cj_prep b1 b2 b3 b4
  obtain ⟨X3, z1, z2⟩ := cj_copyF (gd := 5) (gs := 6) (by decide) (cj_upG s4' (7 + (o' + h') % 5) X2)
  have k1 : cj_upG (cj_upG s4' (7 + (o' + h') % 5) X2) 5 X3 1 = s4' 1 := by rw [cj_upG_o (by decide), cj_upG_o (by omega)]
  have k3 : cj_upG (cj_upG s4' (7 + (o' + h') % 5) X2) 5 X3 3 = s4' 3 := by rw [cj_upG_o (by decide), cj_upG_o (by omega)]
  rw [q1, q2, if_pos rfl, if_neg cj_z1, e1, cj_bd1, u2, cj_bp1, v1, if_neg cj_z1, y1, cj_bd1, z1, cj_bd1, k1, k3, v4, cj_set1 _ (nI_pos' (show dn2 < 2147483648 by omega)) b1 b2 b3 b4, cj_bp1, cj_lt1, v5]
  refine ⟨nI dn2, _, s12, rfl, rfl, (cj_step (m' := s12 1) (σ' := X3) (X := X2) hS b1 b2 b3 b4 y2 e1 (v6.eq (fun k j hd => ?_) (fun _ _ => rfl)) ?_ ?_ ?_ ?_ (fun i hi hne => ?_)).same2 (fun _ _ => rfl) rfl rfl (fun _ _ => rfl) ?_ ?_ ?_ ?_ ?_⟩
  · rw [z2 k j hd, cj_upG_o (by omega)]
  · rw [cj_upG_o (by decide), cj_upG_s]
  · rw [cj_upG_o (by decide), cj_upG_o (by decide), cj_upG_o (by omega)]
  · rw [cj_upG_s]
  · rw [cj_upG_o (by omega), cj_upG_o (by omega), cj_upG_s]
  · rw [cj_upG_o (by omega), cj_upG_o (by omega), cj_upG_o hne]
  · rw [cj_upr_o (by decide), u7 2 (by decide) (by decide) (by decide)]
  · rw [cj_upr_o (by decide), u7 5 (by decide) (by decide) (by decide)]
  · rw [cj_upr_o (by decide), u8]
  · rw [cj_upr_o (by decide), u10, e4 5 (by decide), b8]
  · rw [cj_upr_o (by decide), u9]
end CJN
