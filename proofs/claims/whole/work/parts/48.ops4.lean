/-! a sheet taken out: torn, sold -/
theorem cj_at2 (σ : cj_S) (k j : Nat) (v : Int32) (r i : Nat) : cj_up2 σ k j v r i = if r = k ∧ i = j then v else σ r i := by
  unfold cj_up2 cj_upr upd
  by_cases h : r = k
  · subst h
    rw [if_pos rfl]
    by_cases h2 : i = j
    · rw [if_pos h2, if_pos ⟨rfl, h2⟩]
    · rw [if_neg h2, if_neg (fun q => h2 q.2)]
  · rw [if_neg h, if_neg (fun q => h q.1)]
theorem cj_4up (s : cj_S) (x : Nat) (f : Nat → Int32) (r j : Nat) : cj_up2 (cj_up2 (cj_up2 (cj_up2 s 10 x (f 10)) 11 x (f 11)) 12 x (f 12)) 13 x (f 13) r j = if 10 ≤ r ∧ r ≤ 13 ∧ j = x then f r else s r j := by
  rw [cj_at2, cj_at2, cj_at2, cj_at2]
  by_cases c : 10 ≤ r ∧ r ≤ 13 ∧ j = x
  · rw [if_pos c]
    obtain ⟨c1, c2, c3⟩ := c
    have : r = 10 ∨ r = 11 ∨ r = 12 ∨ r = 13 := by omega
    rcases this with rfl | rfl | rfl | rfl <;> simp [c3]
  · rw [if_neg c, if_neg (by omega), if_neg (by omega), if_neg (by omega), if_neg (by omega)]
theorem cj_rma (K : cj_S → Option cj_S) {ns : Nat} (hns : ns ≤ 10) : ∀ (d x n : Nat) (s : cj_S), s 9 0 = nI ns → x + 1 + d = ns → d < n → ∃ s', f_X6_removeAt_L2 K n (nI x) s = K s' ∧ ∀ r j, s' r j = if 10 ≤ r ∧ r ≤ 13 ∧ x ≤ j ∧ j < ns - 1 then s r (j + 1) else s r j := by
  intro d
  induction d with
  | zero =>
    intro x n s h hx hn
    obtain ⟨n, rfl⟩ : ∃ x, n = x + 1 := ⟨n - 1, by omega⟩
    refine ⟨s, ?_, fun r j => ?_⟩
    · rw [f_X6_removeAt_L2, h, nI_1, if_pos (nI_le (by omega) (by omega))]
    · rw [if_neg (by omega)]
  | succ d ih =>
    intro x n s h hx hn
    obtain ⟨n, rfl⟩ : ∃ x, n = x + 1 := ⟨n - 1, by omega⟩
    have h4 := fun r j => cj_4up s x (fun r => s r (x + 1)) r j
    obtain ⟨s', e1, e2⟩ := ih (x + 1) n (cj_up2 (cj_up2 (cj_up2 (cj_up2 s 10 x (s 10 (x + 1))) 11 x (s 11 (x + 1))) 12 x (s 12 (x + 1))) 13 x (s 13 (x + 1))) (by rw [h4 9 0, if_neg (by omega), h]) (by omega) (by omega)
    refine ⟨s', ?_, fun r j => ?_⟩
    · rw [f_X6_removeAt_L2, h, nI_1, if_neg (nI_ge (by omega) (by omega))]
      simp only [cj_gdN (show x + 1 < 10 by omega) (by decide : 10 < 2147483648), cj_gdN (show x < 10 by omega) (by decide : 10 < 2147483648), cj_tn (show x < 2147483648 by omega), cj_tn (show x + 1 < 2147483648 by omega), cj_lt1, cj_o, Nat.reduceBEq]
      exact e1
    · rw [e2, h4, h4]
      by_cases c : 10 ≤ r ∧ r ≤ 13 ∧ x + 1 ≤ j ∧ j < ns - 1
      · rw [if_pos c, if_neg (by omega), if_pos (by omega)]
      · rw [if_neg c]
        by_cases c2 : 10 ≤ r ∧ r ≤ 13 ∧ j = x
        · rw [if_pos c2, if_pos (by omega), c2.2.2]
        · rw [if_neg c2, if_neg (by omega)]
theorem cj_tko (τ1 : cj_S) {c : Nat} (hc : c ≤ 10) : ∀ (d x n : Nat) (m : Nat → Int32), m 2 = nI c → 119 ≤ x → x + d = 119 + 4 * c → d < n → ∃ m', f_X9_takesOut_L17 n (nI x) (cj_upr τ1 1 m) = some (cj_upr τ1 1 m') ∧ ∀ i, m' i = if x ≤ i ∧ i < 119 + 4 * c then m (i + 4) else m i := by
  intro d
  induction d with
  | zero =>
    intro x n m h h9 hx hn
    obtain ⟨n, rfl⟩ : ∃ x, n = x + 1 := ⟨n - 1, by omega⟩
    refine ⟨m, ?_, fun i => ?_⟩
    · rw [f_X9_takesOut_L17, cj_upr_s, h, show (4 : Int32) = nI 4 from rfl, show (119 : Int32) = nI 119 from rfl, pk_mul, nI_add, if_pos (nI_le (by omega) (by omega))]
    · rw [if_neg (by omega)]
  | succ d ih =>
    intro x n m h h9 hx hn
    obtain ⟨n, rfl⟩ : ∃ x, n = x + 1 := ⟨n - 1, by omega⟩
    obtain ⟨m', e1, e2⟩ := ih (x + 1) n (upd m x (m (x + 4))) (by rw [pk_un (by omega), h]) (by omega) (by omega) (by omega)
    refine ⟨m', ?_, fun i => ?_⟩
    · rw [f_X9_takesOut_L17, cj_upr_s, h, show (4 : Int32) = nI 4 from rfl, show (119 : Int32) = nI 119 from rfl, pk_mul, nI_add, nI_add, nI_1, if_neg (nI_ge (by omega) (by omega)), cj_gdN (by omega) (by decide), cj_gdN (by omega) (by decide), cj_tn (by omega), cj_tn (by omega), cj_lt1, cj_u2]
      exact e1
    · rw [e2]
      by_cases q : x + 1 ≤ i ∧ i < 119 + 4 * c
      · rw [if_pos q, pk_un (by omega), if_pos (by omega)]
      · rw [if_neg q]
        by_cases q2 : i = x
        · rw [q2, pk_us, if_pos (by omega)]
        · rw [pk_un q2, if_neg (by omega)]
section CJZ
variable {B T N : Nat} {σ τ τ1 : cj_S} {m : Nat → Int32}
theorem cj_RX.rm (h : cj_RX N σ m) (τ1 : cj_S) {ns k : Nat} (h2 : m 2 = nI ns) (hns : ns ≤ 10) (hk : k < ns) : ∃ σ' m', f_X6_removeAt σ (nI k) = some σ' ∧ f_X9_takesOut (cj_upr τ1 1 m) (nI k) = some (cj_upr τ1 1 m') ∧ σ' 9 0 = nI (ns - 1) ∧ cj_RX N σ' m' ∧ ∀ i, m' i = if i = 2 then nI (ns - 1) else if 119 + 4 * k ≤ i ∧ i < 115 + 4 * ns then m (i + 4) else m i := by
  obtain ⟨hN, h0, hq, hd, hs, hb⟩ := h
  have h90 : σ 9 0 = nI ns := hq.r9.trans h2
  obtain ⟨s', a1, a2⟩ := cj_rma (fun (s8 : cj_S) => cj_lt (cj_up2 s8 9 0 ((s8 9 0) - 1)) (fun (s9 : cj_S) => some s9)) hns (ns - 1 - k) k cj_FU σ h90 (by omega) (by unfold cj_FU; omega)
  obtain ⟨m1, b1, b2⟩ := cj_tko τ1 (c := ns - 1) (by omega) (4 * (ns - 1 - k)) (119 + 4 * k) cj_FU (upd m 2 (nI (ns - 1))) pk_us (by omega) (by omega) (by unfold cj_FU; omega)
  have np : nI ns - 1 = nI (ns - 1) := by
    obtain ⟨c, rfl⟩ : ∃ c, ns = c + 1 := ⟨ns - 1, by omega⟩
    exact nI_pred c
  have s90 : s' 9 0 = nI ns := by rw [a2, if_neg (by omega), h90]
  have M : ∀ i, m1 i = if i = 2 then nI (ns - 1) else if 119 + 4 * k ≤ i ∧ i < 115 + 4 * ns then m (i + 4) else m i := by
    intro i
    rw [b2]
    by_cases e : i = 2
    · rw [if_neg (by omega), if_pos e, e, pk_us]
    · rw [if_neg e, pk_un e]
      by_cases c : 119 + 4 * k ≤ i ∧ i < 115 + 4 * ns
      · rw [if_pos c, if_pos (by omega), pk_un (by omega)]
      · rw [if_neg c, if_neg (by omega)]
  refine ⟨cj_up2 s' 9 0 (nI (ns - 1)), m1, ?_, ?_, ?_, ⟨hN, ?_, fun kk j hdm h19 g6 g8 => ?_, fun j q1 q2 => ?_, fun j q1 q2 => ?_, fun q hq4 => ?_⟩, M⟩
  · unfold f_X6_removeAt
    rw [a1, cj_lt1, s90, np]
  · unfold f_X9_takesOut
    rw [cj_upr_s, h2, np, cj_u2, cj_lt1, show (4 : Int32) = nI 4 from rfl, show (119 : Int32) = nI 119 from rfl, pk_mul, nI_add]
    exact b1
  · rw [cj_at2, if_pos ⟨rfl, rfl⟩]
  · rw [M, if_neg (by omega), if_neg (by omega), h0]
  · rw [cj_at2, M]
    by_cases c : kk = 9 ∧ j = 0
    · rw [if_pos c, c.1, c.2, if_pos (show cj_ix 9 0 = 2 from rfl)]
    · rw [if_neg c, if_neg (show ¬ cj_ix kk j = 2 from fun e => c (cj_ix_inj (k' := 9) (j' := 0) hdm (by decide) e)), a2]
      by_cases d : 10 ≤ kk ∧ kk ≤ 13 ∧ k ≤ j ∧ j < ns - 1
      · have r : ∀ j, cj_ix kk j = 109 + kk + 4 * j := fun j => by
          unfold cj_ix
          rw [if_neg (by omega), if_neg (by omega), if_neg (by omega), if_neg (by omega), if_neg (by omega), if_neg (by omega), if_pos (by omega)]
        rw [if_pos d, r, if_pos (by omega), hq.rk (k := kk) (p := j + 1) ⟨d.1, d.2.1⟩ (by omega)]
        congr 1
      · rw [if_neg d, if_neg (fun e => ?_)]
        · exact hq kk j hdm h19 g6 g8
        · have r2 : cj_ix kk j = cj_ix (10 + (cj_ix kk j - 119) % 4) ((cj_ix kk j - 119) / 4) := by
            have r : ∀ kk j, 10 ≤ kk → kk ≤ 13 → cj_ix kk j = 109 + kk + 4 * j := fun kk j q1 q2 => by
              unfold cj_ix
              rw [if_neg (by omega), if_neg (by omega), if_neg (by omega), if_neg (by omega), if_neg (by omega), if_neg (by omega), if_pos (by omega)]
            rw [r (10 + (cj_ix kk j - 119) % 4) _ (by omega) (by omega)]
            omega
          have r3 := cj_ix_inj hdm (by unfold cj_dm; omega) r2
          exact d (by omega)
  · rw [cj_at2, if_neg (by omega), a2, if_neg (by omega)]
    exact hd j q1 q2
  · rw [cj_at2, if_neg (by omega), a2, if_neg (by omega)]
    exact hs j q1 q2
  · rw [cj_at2, if_neg (by omega), a2, if_neg (by omega), M, if_neg (by omega), if_neg (by omega), M, if_neg (by omega), if_neg (by omega)]
    exact hb q hq4
theorem cj_WF.rm (h : cj_WF B T N m) (hN : N ≤ 6) {ns k na : Nat} {m' : Nat → Int32} (hB : B < 2147483648) (h2 : m 2 = nI ns) (hns : ns ≤ 10) (hk : k < ns) (h1 : m 1 = nI na) (hna : na ≤ 4) (q2 : m' 2 = nI (ns - 1)) (q7 : (m' 7 = m 7 ∧ m' 8 = m 8) ∨ (m' 7 = m 7 + 1 ∧ ∃ v, v ≤ 480 ∧ m' 8 = m 8 + nI v)) (qs : ∀ i, 119 ≤ i → i < 159 → m' i = if 119 + 4 * k ≤ i ∧ i < 115 + 4 * ns then m (i + 4) else m i) (g : ∀ q, na ≤ q → q < 4 → m' (164 + 6 * q) = m (164 + 6 * q)) (gl : ∀ i, i < 11 → i ≠ 2 → i ≠ 7 → i ≠ 8 → m' i = m i) (g8 : ∀ p, p < 6 → ∀ w, w < 18 → w ≠ 5 → m' (11 + 18 * p + w) = m (11 + 18 * p + w)) (gq : ∀ q, q < 4 → m' (159 + 6 * q) = m (159 + 6 * q)) : cj_WF B T N m' := by
  obtain ⟨⟨na', u1, u2, u3, u4⟩, ⟨ns', bg, sd, pd, a1, a2, a3, a4, a5, a6, a7, a8, ⟨nm, a9⟩, a10⟩, h3, h4, h5, h6, h7, h8, h9⟩ := cj_WFi.mp h
  have : ns' = ns := (nI_eq (by omega) (by omega)).mp (a1.symm.trans h2)
  subst this
  have : na' = na := (nI_eq (by omega) (by omega)).mp (u1.symm.trans h1)
  subst this
  have P : ∀ p, p < 6 → ∀ w, w < 18 → w ≠ 5 → ∀ i, i = 11 + 18 * p + w → m' i = m i := fun p hp w hw hw5 i hi => by rw [hi]; exact g8 p hp w hw hw5
  obtain ⟨sd', pd', s1, s2, s3, s4⟩ : ∃ sd' pd', m' 7 = nI sd' ∧ m' 8 = nI pd' ∧ pd' ≤ 480 * sd' ∧ sd' + (ns' - 1) ≤ bg := by
    rcases q7 with ⟨c1, c2⟩ | ⟨c1, v, hv, c2⟩
    · exact ⟨sd, pd, c1.trans a5, c2.trans a6, a7, by omega⟩
    · exact ⟨sd + 1, pd + v, by rw [c1, a5, nI_1], by rw [c2, a6, nI_add], by omega, by omega⟩
  refine cj_WFi.mpr ⟨⟨na', (gl 1 (by omega) (by omega) (by omega) (by omega)).trans u1, u2, fun q hq => ?_, fun q r1 r2 => ?_⟩, ⟨ns' - 1, bg, sd', pd', q2, by omega, (gl 3 (by omega) (by omega) (by omega) (by omega)).trans a3, a4, s1, s2, s3, s4, ⟨fun j => if j < k then nm j else nm (j + 1), fun j hj => ?_⟩, fun j hj => ?_⟩, h3.cg (Nat.le_refl _) (gl 4 (by omega) (by omega) (by omega) (by omega)), h4.cg (Nat.le_refl _) (gl 5 (by omega) (by omega) (by omega) (by omega)), h5.cg (gl 6 (by omega) (by omega) (by omega) (by omega)), h6.cg (gl 9 (by omega) (by omega) (by omega) (by omega)), h7.cg (gl 10 (by omega) (by omega) (by omega) (by omega)), h8.cg (fun q hq => P q hq 2 (by omega) (by omega) _ (by omega)) (fun q hq => P q hq 3 (by omega) (by omega) _ (by omega)), h9.cg (Nat.le_refl _) (fun q hq f hf => P q (by omega) (6 + f) (by omega) (by omega) _ (by omega))⟩
  · rw [gq q (by omega)]
    exact u3 q hq
  · rw [g q r1 r2]
    exact u4 q r1 r2
  · show m' _ = nI (if j < k then nm j else nm (j + 1)) ∧ (if j < k then nm j else nm (j + 1)) < bg ∧ ∀ i, i < j → (if i < k then nm i else nm (i + 1)) < (if j < k then nm j else nm (j + 1))
    rw [qs _ (by omega) (by omega)]
    by_cases c : j < k
    · rw [if_pos c, if_neg (by omega)]
      obtain ⟨t1, t2, t3⟩ := a9 j (by omega)
      refine ⟨t1, t2, fun i hi => ?_⟩
      rw [if_pos (by omega)]
      exact t3 i hi
    · rw [if_neg c, if_pos (by omega)]
      obtain ⟨t1, t2, t3⟩ := a9 (j + 1) (by omega)
      refine ⟨t1, t2, fun i hi => ?_⟩
      by_cases c2 : i < k
      · rw [if_pos c2]
        exact t3 i (by omega)
      · rw [if_neg c2]
        exact t3 (i + 1) (by omega)
  · rw [qs _ (by omega) (by omega), qs _ (by omega) (by omega)]
    by_cases c : j < k
    · rw [if_neg (by omega), if_neg (by omega)]
      exact a10 j (by omega)
    · rw [if_pos (by omega), if_pos (by omega)]
      exact a10 (j + 1) (by omega)
theorem cj_ctear (hB : B < 2147483648) (hR : cj_RC B T σ (τ 1)) (hc : f_X9_changes τ = some τ1) (h1 : τ1 1 = τ 1) (a1 : Int32) : cj_Co B T σ τ τ1 (f_X0_tearOut σ a1) (f_X9_tear τ a1) := by
  obtain ⟨N, hX, hW⟩ := hR.x
  obtain ⟨hN, h0, hq, hd, hs, hb⟩ := id hX
  obtain ⟨ns, bg, -, -, p1, p2, -⟩ := (cj_WFi.mp hW).2.1
  obtain ⟨na, u1, u2, -⟩ := (cj_WFi.mp hW).1
  have e1 : τ1 = cj_upr τ1 1 (τ 1) := by rw [← h1, cj_ui]
  unfold f_X0_tearOut f_X9_tear
  rcases cj_slot hq p1 p2 a1 with ⟨s1, s2, -⟩ | ⟨k, hk, -, -, s1, s2⟩
  · rw [s1, s2]
    exact Or.inl ⟨-1000001, by decide, rfl, rfl⟩
  obtain ⟨σ', m', r1, r2, r3, r4, r5⟩ := hX.rm τ1 p1 p2 hk
  rw [← e1] at r2
  rw [s1, s2]
  simp only [cj_bd1, if_neg (cj_nm1 (show k < 2147483648 by omega)), if_pos (nI_pos' (show k < 2147483648 by omega)), r1, r2, r3, hc]
  refine Or.inr ⟨nI (ns - 1), σ', m', nI_pos' (by omega), rfl, ?_, r4.c ?_⟩
  · rw [cj_upr_s, r5, if_pos rfl]
  · have E : ∀ i, i ≠ 2 → i < 119 ∨ 155 ≤ i → m' i = τ 1 i := fun i q1 q2 => by rw [r5, if_neg q1, if_neg (by omega)]
    exact hW.rm hN hB p1 p2 hk u1 u2 (by rw [r5, if_pos rfl]) (Or.inl ⟨E 7 (by omega) (by omega), E 8 (by omega) (by omega)⟩) (fun i q1 q2 => by rw [r5, if_neg (by omega)]) (fun q q1 q2 => E _ (by omega) (by omega)) (fun i q1 q2 q3 q4 => E i q2 (by omega)) (fun p hp w hw hw5 => E _ (by omega) (by omega)) (fun q hq => E _ (by omega) (by omega))
theorem cj_RX.buy (h : cj_RX N σ m) {q : Nat} (hq : q < 4) (v d : Int32) : cj_RX N (cj_up2 (cj_up2 σ 20 q v) 19 q d) (upd (upd m (164 + 6 * q) v) (163 + 6 * q) d) := by
  obtain ⟨h1, h2, h3, h4, h5, h6⟩ := h
  refine ⟨h1, ?_, fun k j hdm h19 g6 g8 => ?_, fun j a b => h4 j a b, fun j a b => h5 j a b, fun q' hq' => ?_⟩
  · rw [pk_un (by omega), pk_un (by omega), h2]
  · have A := h3.up (k := 20) (j := q) (by unfold cj_dm; omega) v k j hdm h19 g6 g8
    have r : cj_ix 20 q = 164 + 6 * q := rfl
    have r2 : cj_ix 19 q = 163 + 6 * q := rfl
    rw [r] at A
    rw [cj_at2, if_neg (fun e => h19 e.1), A, ← r2, pk_un (fun e => h19 (cj_ix_inj (k' := 19) (j' := q) hdm (by unfold cj_dm; omega) e).1)]
  · rw [cj_at2, cj_at2]
    by_cases e : q' = q
    · subst e
      rw [if_pos ⟨rfl, rfl⟩]
      exact Or.inl pk_us.symm
    · rw [if_neg (fun q => e q.2), if_neg (by omega), pk_un (by omega), pk_un (by omega), pk_un (by omega), pk_un (by omega)]
      exact h6 q' hq'
end CJZ
