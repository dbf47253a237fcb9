/-! a text played, by both -/
theorem cj_oo {σ : cj_S} {k j k' : Nat} {v : Int32} (h : k' ≠ k) : cj_up2 σ k j v k' = σ k' := cj_upr_o h
section CJU2
variable {B : Nat} {σ τ : cj_S}
theorem cj_Co.run {A G : Option (Int32 × cj_S)} (h : cj_Co (B + 1) 9999 σ τ τ A G) (hR : cj_RC B 9999 σ (τ 1)) : ∃ r σ' τ', A = some (r, σ') ∧ G = some (r, τ') ∧ cj_RC (B + 1) 9999 σ' (τ' 1) ∧ ∀ k, k ≠ 1 → τ' k = τ k := by
  rcases h with ⟨r, -, h2, h3⟩ | ⟨r, σ', m', -, h2, h3, h4⟩
  · exact ⟨r, σ, τ, h2, h3, hR.mono (Nat.le_succ _) (Nat.le_refl _), fun _ _ => rfl⟩
  · exact ⟨r, σ', _, h2, h3, h4, fun k hk => cj_upr_o hk⟩
theorem cj_perf (hB : B < 20000) (hR : cj_RC B 9999 σ (τ 1)) (h5 : τ 0 5 = 1) {s : cj_S} (hP : cj_PO s τ) : ∃ r σ' τ', f_X0_perform σ (s 0 3) (s 0 4) (s 0 5) = some (r, σ') ∧ f_X9_calls τ = some (r, τ') ∧ cj_RC (B + 1) 9999 σ' (τ' 1) ∧ ∀ k, k ≠ 1 → τ' k = τ k := by
  obtain ⟨c, hc, p1, p2, p3, p4⟩ := hP
  have hch : f_X9_changes τ = some τ := by
    unfold f_X9_changes
    rw [h5, if_neg cj_z1]
  unfold f_X9_calls
  rw [p1, p2, p3]
  rcases hc with rfl | rfl | rfl | rfl | rfl | rfl
  · obtain ⟨r, σ', τ', q1, q2, q3, q4⟩ := ((cj_clook hR hch rfl (τ 6 0)).mono (Nat.le_succ _)).run hR
    refine ⟨r, σ', τ', ?_, ?_, q3, q4⟩
    · show cj_bp (f_X0_lookAt σ (τ 6 0)) (fun x s => some (x, s)) = _
      rw [q1, cj_bp1]
    · show cj_bp (f_X9_look τ (τ 6 0)) (fun x s => some (x, s)) = _
      rw [q2, cj_bp1]
  · obtain ⟨r, σ', τ', q1, q2, q3, q4⟩ := (cj_csheet (by omega) hR hch rfl (τ 6 0)).run hR
    refine ⟨r, σ', τ', ?_, ?_, q3, q4⟩
    · show cj_bp (f_X0_beginSheet σ (τ 6 0)) (fun x s => some (x, s)) = _
      rw [q1, cj_bp1]
    · show cj_bp (f_X9_sheet τ (τ 6 0)) (fun x s => some (x, s)) = _
      rw [q2, cj_bp1]
  · obtain ⟨r, σ', τ', q1, q2, q3, q4⟩ := ((cj_cverdict hR hch rfl (τ 6 0)).mono (Nat.le_succ _)).run hR
    refine ⟨r, σ', τ', ?_, ?_, q3, q4⟩
    · show cj_bp (f_X0_tellVerdict σ (τ 6 0)) (fun x s => some (x, s)) = _
      rw [q1, cj_bp1]
    · show cj_bp (f_X9_verdict τ (τ 6 0)) (fun x s => some (x, s)) = _
      rw [q2, cj_bp1]
  · obtain ⟨r, σ', τ', q1, q2, q3, q4⟩ := ((cj_cpass hR hch rfl (τ 6 0)).mono (Nat.le_succ _)).run hR
    refine ⟨r, σ', τ', ?_, ?_, q3, q4⟩
    · show cj_bp (f_X0_passMinutes σ (τ 6 0)) (fun x s => some (x, s)) = _
      rw [q1, cj_bp1]
    · show cj_bp (f_X9_pass τ (τ 6 0)) (fun x s => some (x, s)) = _
      rw [q2, cj_bp1]
  · rw [p4 (Or.inl rfl)]
    obtain ⟨r, σ', τ', q1, q2, q3, q4⟩ := ((cj_cdraw (by decide) hR hch rfl (τ 6 0) (τ 6 1)).mono (Nat.le_succ _)).run hR
    refine ⟨r, σ', τ', ?_, ?_, q3, q4⟩
    · show cj_bp (f_X0_drawFeature σ (τ 6 0) (τ 6 1)) (fun x s => some (x, s)) = _
      rw [q1, cj_bp1]
    · show cj_bp (f_X9_draw τ (τ 6 0) (τ 6 1)) (fun x s => some (x, s)) = _
      rw [q2, cj_bp1]
  · rw [p4 (Or.inr rfl)]
    obtain ⟨r, σ', τ', q1, q2, q3, q4⟩ := ((cj_csell (by decide) (by omega) hR hch rfl (τ 6 0) (τ 6 1)).mono (Nat.le_succ _)).run hR
    refine ⟨r, σ', τ', ?_, ?_, q3, q4⟩
    · show cj_bp (f_X0_sellSheet σ (τ 6 0) (τ 6 1)) (fun x s => some (x, s)) = _
      rw [q1, cj_bp1]
    · show cj_bp (f_X9_sell τ (τ 6 0) (τ 6 1)) (fun x s => some (x, s)) = _
      rw [q2, cj_bp1]
end CJU2
def cj_FK (x20 x21 : Int32) (s22 : cj_Mm) : Option cj_Mm := cj_bd (f_X4_fail (s22 3) x20 2 x21) (fun (s24 : cj_S) => cj_lt (cj_upG s22 3 s24) (fun (s25 : cj_Mm) => some s25))
def cj_Endd (B : Nat) (s s' : cj_Mm) (τ τ' : cj_S) (x : Int32) : Prop := ((x = 1 ∧ s' 3 0 1 = (-1) ∧ ∃ dn, dn ≤ 20 ∧ s' 3 0 0 = nI dn ∧ τ' 0 12 = nI dn ∧ cj_RC (B + 20) 9999 (s' 6) (τ' 1)) ∨ (x = 0 ∧ ∃ f, f < 60 ∧ s' 3 0 1 = nI f ∧ τ' 0 9 = nI f ∧ s' 3 0 2 = τ' 0 10 ∧ s' 3 0 3 = τ' 0 11)) ∧ (∀ g, g ≠ 2 → g ≠ 3 → g ≠ 6 → s' g = s g) ∧ s' 2 0 1 = s 2 0 1 ∧ s' 2 1 = s 2 1 ∧ (∀ k, k ≠ 0 → k ≠ 1 → k ≠ 6 → τ' k = τ k) ∧ τ' 0 4 = τ 0 4 ∧ τ' 0 7 = τ 0 7
theorem cj_fail3 (s : cj_S) (a b c : Int32) : f_X4_fail s a b c = some (cj_up2 (cj_up2 (cj_up2 s 0 1 a) 0 2 b) 0 3 c) := rfl
theorem cj_runs {B len : Nat} (hB : B < 10400) (K' : Int32 → cj_S → Option (Int32 × cj_S)) : ∀ (d a dn n n' : Nat) (s : cj_Mm) (τ : cj_S), len - a ≤ d → d < n → d + 1 < n' → cj_Tx len (s 2) τ → s 3 0 0 = nI dn → τ 0 12 = nI dn → 3 * dn ≤ a → a ≤ len → s 3 0 1 = (-1) → τ 0 5 = 1 → τ 0 8 = nI a → cj_RC (B + dn) 9999 (s 6) (τ 1) → ∃ s' τ' x, f_X4_run_L12 cj_FK n (nI a) s = some s' ∧ f_X9_plays_L22 K' n' 1 τ = K' x τ' ∧ cj_Endd B s s' τ τ' x := by
  intro d
  induction d with
  | zero =>
    intro a dn n n' s τ hd hn hn' hT h0 h12 h3 hl h1 h5 h8 hR
    obtain ⟨n, rfl⟩ : ∃ x, n = x + 1 := ⟨n - 1, by omega⟩
    obtain ⟨n', rfl⟩ : ∃ x, n' = x + 1 := ⟨n' - 1, by omega⟩
    have h60 := hT.1
    refine ⟨s, τ, 1, ?_, ?_, Or.inl ⟨rfl, h1, dn, by omega, h0, h12, hR.mono (by omega) (Nat.le_refl _)⟩, fun _ _ _ _ => rfl, rfl, rfl, fun _ _ _ _ => rfl, rfl, rfl⟩
    · rw [f_X4_run_L12, h0, if_neg (show ¬ 60 ≤ nI dn from nI_ge (a := dn) (b := 60) (by omega) (by decide)), hT.2.1, if_pos (nI_le (by omega) (by omega))]
    · rw [f_X9_plays_L22, hT.2.2.1, h8, if_pos (nI_le (by omega) (by omega))]
  | succ d ih =>
    intro a dn n n' s τ hd hn hn' hT h0 h12 h3 hl h1 h5 h8 hR
    obtain ⟨n, rfl⟩ : ∃ x, n = x + 1 := ⟨n - 1, by omega⟩
    obtain ⟨n', rfl⟩ : ∃ x, n' = x + 1 := ⟨n' - 1, by omega⟩
    have h60 := hT.1
    by_cases hal : a < len
    rotate_left
    · refine ⟨s, τ, 1, ?_, ?_, Or.inl ⟨rfl, h1, dn, by omega, h0, h12, hR.mono (by omega) (Nat.le_refl _)⟩, fun _ _ _ _ => rfl, rfl, rfl, fun _ _ _ _ => rfl, rfl, rfl⟩
      · rw [f_X4_run_L12, h0, if_neg (show ¬ 60 ≤ nI dn from nI_ge (a := dn) (b := 60) (by omega) (by decide)), hT.2.1, if_pos (nI_le (by omega) (by omega))]
      · rw [f_X9_plays_L22, hT.2.2.1, h8, if_pos (nI_le (by omega) (by omega))]
    have hT9 : cj_Tx len (s 2) (cj_up2 τ 0 9 (nI a)) := hT.mv rfl (by rw [cj_at2, if_neg (by omega)]) rfl (cj_o rfl)
    obtain ⟨ok, a', s2, τ2, r1, r2, r3, r4, r5, r6, r7, r8, r9, r10⟩ := cj_read hT9 (a := a) (by rw [cj_at2, if_neg (by omega), h8]) hal
    have t9 : τ2 0 9 = nI a := by rw [r9 0 9 (by omega) (by omega), cj_at2, if_pos ⟨rfl, rfl⟩]
    have t0 : ∀ i, i ≠ 8 → i ≠ 13 → i ≠ 9 → τ2 0 i = τ 0 i := fun i q1 q2 q3 => by rw [r9 0 i (by omega) (by omega), cj_at2, if_neg (by omega)]
    have tk : ∀ k, k ≠ 0 → k ≠ 6 → τ2 k = τ k := fun k q1 q2 => funext fun i => by rw [r9 k i (by omega) q2, cj_at2, if_neg (by omega)]
    have s21 : s2 1 = s 2 1 := funext fun i => r8 1 i (by omega)
    have L : f_X4_run_L12 cj_FK (n + 1) (nI a) s = if ok = 0 then cj_bd (f_X4_fail (cj_upG s 2 s2 3) (nI a) 1 ((cj_upG s 2 s2 2 0 2) - nI a)) (fun (s18 : cj_S) => cj_lt (cj_upG (cj_upG s 2 s2) 3 s18) (fun (s19 : cj_Mm) => some s19)) else cj_bp (f_X0_perform (cj_upG s 2 s2 6) (cj_upG s 2 s2 2 0 3) (cj_upG s 2 s2 2 0 4) (cj_upG s 2 s2 2 0 5)) (fun (x13 : Int32) (s14 : cj_S) => cj_lt (cj_upG (cj_upG s 2 s2) 6 s14) (fun (s15 : cj_Mm) => if 0 ≤ x13 then cj_lt (cj_upG s15 3 (cj_up2 (s15 3) 0 0 ((s15 3 0 0) + 1))) (fun (s16 : cj_Mm) => f_X4_run_L12 cj_FK n (s15 2 0 2) s16) else cj_FK (nI a) x13 s15)) := by
      rw [f_X4_run_L12, h0, if_neg (show ¬ 60 ≤ nI dn from nI_ge (a := dn) (b := 60) (by omega) (by decide)), hT.2.1, if_neg (nI_ge hal (by omega)), r1, cj_bp1, cj_lt1]
    have u3 : cj_upG s 2 s2 3 = s 3 := cj_upG_o (by decide)
    have u6 : cj_upG s 2 s2 6 = s 6 := cj_upG_o (by decide)
    have u2 : cj_upG s 2 s2 2 = s2 := cj_upG_s _ _ _
    rw [L, f_X9_plays_L22, hT.2.2.1, h8, if_neg (nI_ge hal (by omega)), if_neg cj_z1, u3, u6, u2, r4]
    simp only [cj_lt1, r2, cj_bp1]
    rcases r3 with rfl | rfl
    · simp only [if_true, cj_fail3, cj_bd1]
      obtain ⟨n', rfl⟩ : ∃ x, n' = x + 1 := ⟨n' - 1, by omega⟩
      have e0 : ∀ τx : cj_S, f_X9_plays_L22 K' (n' + 1) 0 τx = K' 0 τx := fun τx => by
        rw [f_X9_plays_L22, if_pos rfl]
        by_cases q : τx 0 7 ≤ τx 0 8
        · rw [if_pos q]
        · rw [if_neg q]
      rw [e0]
      have z8 : ∀ v, cj_up2 τ2 0 10 v 0 8 = nI a' := fun v => by rw [cj_at2, if_neg (by omega), r5]
      have z9 : ∀ v, cj_up2 τ2 0 10 v 0 9 = nI a := fun v => by rw [cj_at2, if_neg (by omega), t9]
      rw [z8, z9]
      refine ⟨_, _, 0, rfl, rfl, Or.inr ⟨rfl, a, by omega, ?_, ?_, ?_, ?_⟩, fun g g1 g2 g3 => ?_, ?_, ?_, fun k k1 k2 k3 => ?_, ?_, ?_⟩
      · rw [cj_upG_s, cj_at2, if_neg (by omega), cj_at2, if_neg (by omega), cj_at2, if_pos ⟨rfl, rfl⟩]
      · rw [cj_at2, if_neg (by omega), cj_at2, if_neg (by omega), cj_at2, if_neg (by omega), t9]
      · rw [cj_upG_s, cj_at2, if_neg (by omega), cj_at2, if_pos ⟨rfl, rfl⟩, cj_at2, if_neg (by omega), cj_at2, if_neg (by omega), cj_at2, if_pos ⟨rfl, rfl⟩]
      · rw [cj_upG_s, cj_at2, if_pos ⟨rfl, rfl⟩, cj_at2, if_neg (by omega), cj_at2, if_pos ⟨rfl, rfl⟩]
      · rw [cj_upG_o g2, cj_upG_o g1]
      · rw [cj_upG_o (by decide), cj_upG_s, r8 0 1 (by omega)]
      · rw [cj_upG_o (by decide), cj_upG_s, s21]
      · rw [cj_oo k1, cj_oo k1, cj_oo k1, tk k k1 k3]
      · rw [cj_at2, if_neg (by omega), cj_at2, if_neg (by omega), cj_at2, if_neg (by omega), t0 4 (by omega) (by omega) (by omega)]
      · rw [cj_at2, if_neg (by omega), cj_at2, if_neg (by omega), cj_at2, if_neg (by omega), t0 7 (by omega) (by omega) (by omega)]
    · obtain ⟨ha', hPO⟩ := r10 rfl
      obtain ⟨r, σ', τ3, q1, q2, q3, q4⟩ := cj_perf (B := B + dn) (by omega) (σ := s 6) (τ := τ2) (by rw [tk 1 (by decide) (by decide)]; exact hR) ((t0 5 (by omega) (by omega) (by omega)).trans h5) hPO
      have t30 : τ3 0 = τ2 0 := q4 0 (by decide)
      simp only [if_neg cj_z1, q1, q2, cj_bp1]
      by_cases hr : r < 0
      · rw [if_pos hr, if_neg (Int32.not_le.mpr hr)]
        obtain ⟨n', rfl⟩ : ∃ x, n' = x + 1 := ⟨n' - 1, by omega⟩
        have e0 : ∀ τx : cj_S, f_X9_plays_L22 K' (n' + 1) 0 τx = K' 0 τx := fun τx => by
          rw [f_X9_plays_L22, if_pos rfl]
          by_cases q : τx 0 7 ≤ τx 0 8
          · rw [if_pos q]
          · rw [if_neg q]
        rw [e0]
        have e1 : ∀ sx : cj_Mm, cj_FK (nI a) r sx = some (cj_upG sx 3 (cj_up2 (cj_up2 (cj_up2 (sx 3) 0 1 (nI a)) 0 2 2) 0 3 r)) := fun sx => rfl
        rw [e1]
        refine ⟨_, _, 0, rfl, rfl, Or.inr ⟨rfl, a, by omega, ?_, ?_, ?_, ?_⟩, fun g g1 g2 g3 => ?_, ?_, ?_, fun k k1 k2 k3 => ?_, ?_, ?_⟩
        · rw [cj_upG_s, cj_at2, if_neg (by omega), cj_at2, if_neg (by omega), cj_at2, if_pos ⟨rfl, rfl⟩]
        · rw [cj_at2, if_neg (by omega), cj_at2, if_neg (by omega), cj_at2, if_neg (by omega), t30, t9]
        · rw [cj_upG_s, cj_at2, if_neg (by omega), cj_at2, if_pos ⟨rfl, rfl⟩, cj_at2, if_neg (by omega), cj_at2, if_neg (by omega), cj_at2, if_pos ⟨rfl, rfl⟩]
        · rw [cj_upG_s, cj_at2, if_pos ⟨rfl, rfl⟩, cj_at2, if_neg (by omega), cj_at2, if_pos ⟨rfl, rfl⟩]
        · rw [cj_upG_o g2, cj_upG_o g3, cj_upG_o g1]
        · rw [cj_upG_o (by decide), cj_upG_o (by decide), cj_upG_s, r8 0 1 (by omega)]
        · rw [cj_upG_o (by decide), cj_upG_o (by decide), cj_upG_s, s21]
        · rw [cj_oo k1, cj_oo k1, cj_oo k1, q4 k k2, tk k k1 k3]
        · rw [cj_at2, if_neg (by omega), cj_at2, if_neg (by omega), cj_at2, if_neg (by omega), t30, t0 4 (by omega) (by omega) (by omega)]
        · rw [cj_at2, if_neg (by omega), cj_at2, if_neg (by omega), cj_at2, if_neg (by omega), t30, t0 7 (by omega) (by omega) (by omega)]
      · rw [if_neg hr, if_pos (Int32.not_lt.mp hr)]
        have z12 : cj_up2 (cj_up2 τ3 0 10 2) 0 11 r 0 12 = nI dn := by rw [cj_at2, if_neg (by omega), cj_at2, if_neg (by omega), t30, t0 12 (by omega) (by omega) (by omega), h12]
        have z3 : cj_upG (cj_upG s 2 s2) 6 σ' 3 = s 3 := by rw [cj_upG_o (by decide), u3]
        have z2 : cj_upG (cj_upG s 2 s2) 6 σ' 2 = s2 := by rw [cj_upG_o (by decide), u2]
        rw [z12, z3, z2, h0, r4, nI_1]
        obtain ⟨s', τ', x, i1, i2, i3, i4, i5, i6, i7, i8, i9⟩ := ih a' (dn + 1) n n' (cj_upG (cj_upG (cj_upG s 2 s2) 6 σ') 3 (cj_up2 (s 3) 0 0 (nI (dn + 1)))) (cj_up2 (cj_up2 (cj_up2 τ3 0 10 2) 0 11 r) 0 12 (nI (dn + 1))) (by omega) (by omega) (by omega) (hT.mv (by rw [cj_upG_o (by decide), z2, r8 0 1 (by omega)]) (by rw [cj_at2, if_neg (by omega), cj_at2, if_neg (by omega), cj_at2, if_neg (by omega), t30, t0 7 (by omega) (by omega) (by omega)]) (by rw [cj_upG_o (by decide), z2, s21]) (by rw [cj_o rfl, cj_o rfl, cj_o rfl, q4 5 (by decide), tk 5 (by decide) (by decide)])) (by rw [cj_upG_s, cj_at2, if_pos ⟨rfl, rfl⟩]) (by rw [cj_at2, if_pos ⟨rfl, rfl⟩]) (by omega) r7 (by rw [cj_upG_s, cj_at2, if_neg (by omega), h1]) (by rw [cj_at2, if_neg (by omega), cj_at2, if_neg (by omega), cj_at2, if_neg (by omega), t30, t0 5 (by omega) (by omega) (by omega), h5]) (by rw [cj_at2, if_neg (by omega), cj_at2, if_neg (by omega), cj_at2, if_neg (by omega), t30, r5]) (by rw [cj_upG_o (by decide), cj_upG_s, cj_o rfl, cj_o rfl, cj_o rfl, ← Nat.add_assoc]; exact q3)
        refine ⟨s', τ', x, i1, i2, i3, fun g g1 g2 g3 => ?_, ?_, ?_, fun k k1 k2 k3 => ?_, ?_, ?_⟩
        · rw [i4 g g1 g2 g3, cj_upG_o g2, cj_upG_o g3, cj_upG_o g1]
        · rw [i5, cj_upG_o (by decide), z2, r8 0 1 (by omega)]
        · rw [i6, cj_upG_o (by decide), z2, s21]
        · rw [i7 k k1 k2 k3, cj_oo k1, cj_oo k1, cj_oo k1, q4 k k2, tk k k1 k3]
        · rw [i8, cj_at2, if_neg (by omega), cj_at2, if_neg (by omega), cj_at2, if_neg (by omega), t30, t0 4 (by omega) (by omega) (by omega)]
        · rw [i9, cj_at2, if_neg (by omega), cj_at2, if_neg (by omega), cj_at2, if_neg (by omega), t30, t0 7 (by omega) (by omega) (by omega)]
