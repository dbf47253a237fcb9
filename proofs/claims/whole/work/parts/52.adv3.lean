/-! minutes pass -/
theorem cj_m37 {d : Nat} (hd : d < 2147483648) {τ1 : cj_S} {M : Nat → Nat → Int32} (hm : ∀ x, f_X9_minute (cj_upr τ1 1 (M x)) = some (cj_upr τ1 1 (M (x + 1)))) (K : cj_S → Option (Int32 × cj_S)) : ∀ (k x n : Nat), x + k = d → k < n → f_X9_pass_L37 K (nI d) n (nI x) (cj_upr τ1 1 (M x)) = K (cj_upr τ1 1 (M d)) := by
  intro k
  induction k with
  | zero =>
    intro x n hx hn
    obtain ⟨n, rfl⟩ : ∃ x, n = x + 1 := ⟨n - 1, by omega⟩
    rw [f_X9_pass_L37, if_pos (nI_le (by omega) (by omega)), show x = d by omega]
  | succ k ih =>
    intro x n hx hn
    obtain ⟨n, rfl⟩ : ∃ x, n = x + 1 := ⟨n - 1, by omega⟩
    rw [f_X9_pass_L37, if_neg (nI_ge (by omega) (by omega)), hm, cj_bd1, nI_1]
    exact ih (x + 1) n (by omega) (by omega)
theorem cj_m42 {d : Nat} (hd : d < 2147483648) {τ1 : cj_S} {M : Nat → Nat → Int32} (hm : ∀ x, f_X9_minute (cj_upr τ1 1 (M x)) = some (cj_upr τ1 1 (M (x + 1)))) (K : cj_S → Option (Int32 × cj_S)) (y : Int32) : ∀ (k x n : Nat), x + k = d → k < n → f_X9_would_L42 K y (nI d) n (nI x) (cj_upr τ1 1 (M x)) = K (cj_upr τ1 1 (M d)) := by
  intro k
  induction k with
  | zero =>
    intro x n hx hn
    obtain ⟨n, rfl⟩ : ∃ x, n = x + 1 := ⟨n - 1, by omega⟩
    rw [f_X9_would_L42, if_pos (nI_le (by omega) (by omega)), show x = d by omega]
  | succ k ih =>
    intro x n hx hn
    obtain ⟨n, rfl⟩ : ∃ x, n = x + 1 := ⟨n - 1, by omega⟩
    rw [f_X9_would_L42, if_neg (nI_ge (by omega) (by omega)), hm, cj_bd1, nI_1]
    exact ih (x + 1) n (by omega) (by omega)
theorem cj_max0 {d : Nat} (hd : d ≤ 300) : f_J9_max_7cf53 0 (nI d - 12) = some (nI (d - 12)) := by
  unfold f_J9_max_7cf53
  by_cases c : d ≤ 12
  · have h : ¬ (0 : Int32) < nI d - 12 := by
      rw [Int32.lt_iff_toInt_lt, show (12 : Int32) = nI 12 from rfl, pk_sub_toInt (by omega) (by decide)]
      have : (0 : Int32).toInt = 0 := rfl
      omega
    rw [if_neg h, show d - 12 = 0 by omega]
    rfl
  · have h : (0 : Int32) < nI d - 12 := by
      rw [Int32.lt_iff_toInt_lt, show (12 : Int32) = nI 12 from rfl, pk_sub_toInt (by omega) (by decide)]
      have : (0 : Int32).toInt = 0 := rfl
      omega
    rw [if_pos h, show (12 : Int32) = nI 12 from rfl, pk_sub (by omega)]
section CJE
variable {B T T' N t d : Nat} {σ τ τ1 : cj_S} {m : Nat → Int32}
theorem cj_adv (τ1 : cj_S) (hX : cj_RX N σ m) (hW : cj_WF B T N m) (h4 : m 4 = nI t) (hd : d ≤ 300) (hT : T ≤ T') (ht : t + d ≤ T') (hT' : T' ≤ 20000) : ∃ σ' m', f_X0_advance σ (nI d) = some σ' ∧ (∀ K, f_X9_pass_L37 K (nI d) cj_FU 0 (cj_upr τ1 1 m) = K (cj_upr τ1 1 m')) ∧ (∀ K y, f_X9_would_L42 K y (nI d) cj_FU 0 (cj_upr τ1 1 m) = K (cj_upr τ1 1 m')) ∧ cj_RX N σ' (upd m' 6 0) ∧ cj_WF B T' N (upd m' 6 0) ∧ (0 < d → m' 6 = 0) := by
  obtain ⟨hN, h0, hq, hdd, hs, hb⟩ := id hX
  obtain ⟨w1, w2, w3, w4, w5, w6, w7, w8, w9⟩ := cj_WFi.mp hW
  have hα : ∃ α st : Nat → Nat, ∀ q, q < 6 → α q < 12 ∧ st q < 12 ∧ m (13 + 18 * q) = nI (α q) ∧ m (14 + 18 * q) = nI (st q) := by
    refine ⟨fun q => (m (13 + 18 * q)).toNatClampNeg, fun q => (m (14 + 18 * q)).toNatClampNeg, fun q hq => ?_⟩
    obtain ⟨⟨a, ha, ha2⟩, ⟨s, hs, hs2⟩⟩ := w8 q hq
    show (m (13 + 18 * q)).toNatClampNeg < 12 ∧ (m (14 + 18 * q)).toNatClampNeg < 12 ∧ m (13 + 18 * q) = nI (m (13 + 18 * q)).toNatClampNeg ∧ m (14 + 18 * q) = nI (m (14 + 18 * q)).toNatClampNeg
    rw [ha2, hs2, nI_clamp (by omega), nI_clamp (by omega)]
    exact ⟨ha, hs, rfl, rfl⟩
  obtain ⟨α, st, hα⟩ := hα
  have hα' : ∀ q, q < N → α q < 12 ∧ st q < 12 ∧ m (13 + 18 * q) = nI (α q) ∧ m (14 + 18 * q) = nI (st q) := fun q hq => hα q (by omega)
  have c4 : ∀ q, q < N → σ 4 q = nI (α q) := fun q hq' => (hq.rp (k := 4) ⟨by decide, by decide⟩ (by omega) (by omega)).trans (hα' q hq').2.2.1
  have c5 : ∀ q, q < N → σ 5 q = nI (st q) := fun q hq' => (hq.rp (k := 5) ⟨by decide, by decide⟩ (by omega) (by omega)).trans (hα' q hq').2.2.2
  have hl : ∃ (p : Nat) (vv : Nat → Nat), ((N ≤ p ∧ m 5 = (-1)) ∨ (p < N ∧ m 5 = nI p ∧ ∃ b, f_X3_seenAside σ (nI p) = some b ∧ ∀ x, vv x < 4096 ∧ f_X3_features (nI ((α p + st p * x) % 12)) b = some (nI (vv x)))) ∧ ∃ s2 : cj_S, (∀ K : cj_S → Option cj_S, (if (σ 0 6) = ((-1)) then K σ else cj_bd (f_X3_watch σ (σ 0 6) (σ 0 5) (nI d)) (fun (s8 : cj_S) => K s8)) = K s2) ∧ (∀ r j, ¬ (p < N ∧ r = 8 ∧ 12 * p ≤ j ∧ j < 12 * p + 12) → s2 r j = σ r j) ∧ (p < N → ∀ f, f < 12 → s2 8 (12 * p + f) = cj_lv (fun y => decide (vv y / 2 ^ f % 2 = 1)) t (σ 8 (12 * p + f)) d) := by
    rcases w4 with l | ⟨p, hp, l⟩
    · refine ⟨N, fun _ => 0, Or.inl ⟨Nat.le_refl _, l⟩, σ, fun K => ?_, fun r j _ => rfl, fun h => by omega⟩
      rw [hq.r0.2.2.2.1, l, if_pos rfl]
    · obtain ⟨b, hb2, hb1, -⟩ := cj_seenAt_eq (τ := cj_upr τ1 1 m) hq h0 hN hp
      have hv : ∀ x, ∃ v, v < 4096 ∧ f_X3_features (nI ((α p + st p * x) % 12)) b = some (nI v) := fun x => cj_feat_v (Nat.mod_lt _ (by decide)) hb2
      have hv2 : ∃ vv : Nat → Nat, ∀ x, vv x < 4096 ∧ f_X3_features (nI ((α p + st p * x) % 12)) b = some (nI (vv x)) := ⟨fun x => Classical.choose (hv x), fun x => Classical.choose_spec (hv x)⟩
      obtain ⟨vv, hvv⟩ := hv2
      obtain ⟨s2, r1, r2, r3⟩ := cj_w17 (t := t) (d := d) (vv := vv) (b := b) (A := α p) (S := st p) (p := p) (by omega) (hα' p hp).1 (hα' p hp).2.1 hd hvv (d - (d - 12)) (d - 12) cj_FU σ (by omega) (by unfold cj_FU; omega) (c4 p hp) (c5 p hp)
      refine ⟨p, vv, Or.inr ⟨hp, l, b, hb1, hvv⟩, s2, fun K => ?_, fun r j h => r2 r j (fun q => h ⟨hp, q⟩), fun _ f hf => ?_⟩
      · rw [hq.r0.2.2.2.1, l, if_neg (cj_nm1 (by omega)), hq.r0.2.2.1, h4]
        unfold f_X3_watch
        rw [hb1, cj_bd1, cj_max0 hd, cj_bd1, r1, cj_bd1]
      · rw [r3 f hf]
        refine cj_lwv (fun x => ?_) t _ d
        have e : vv (x + 12) = vv x := by
          have q1 := (hvv (x + 12)).2
          rw [show (α p + st p * (x + 12)) % 12 = (α p + st p * x) % 12 by rw [Nat.mul_add]; omega, (hvv x).2] at q1
          have b1 := (hvv x).1
          have b2 := (hvv (x + 12)).1
          exact ((nI_eq (by omega) (by omega)).mp (Option.some.inj q1)).symm
        show decide (vv (x + 12) / 2 ^ f % 2 = 1) = decide (vv x / 2 ^ f % 2 = 1)
        rw [e]
  obtain ⟨p, vv, hl, s2, U0, U1, U2⟩ := hl
  have hmin := cj_minute τ1 hq h0 hN h4 hα' hl
  have hm0 : cj_mx N t p α st vv m 0 = m := cj_mx0 h4 hα'
  obtain ⟨s4, t1, t2⟩ := cj_tAll (α := α) (st := st) (d := d) hN hd N 0 cj_FU s2 (by omega) (by unfold cj_FU; omega) (by rw [U1 _ _ (by omega), hq.r1, h0]) (fun q hq' => ⟨(hα' q hq').1, (hα' q hq').2.1, fun _ => by rw [U1 _ _ (by omega)]; exact c4 q hq', by rw [U1 _ _ (by omega)]; exact c5 q hq'⟩)
  have s405 : s4 0 5 = nI t := by rw [t2, if_neg (by omega), U1 _ _ (by omega), hq.r0.2.2.1, h4]
  have t3 : ∀ r j, s4 r j = if r = 4 ∧ j < N then nI ((α j + st j * d) % 12) else s2 r j := by
    intro r j
    rw [t2]
    by_cases c : r = 4 ∧ j < N
    · rw [if_pos c, if_pos ⟨c.1, Nat.zero_le _, c.2⟩]
    · rw [if_neg c, if_neg (fun q => c ⟨q.1, q.2.2⟩)]
  have P : ∀ r j, cj_up2 (cj_up2 s4 0 5 (nI (t + d))) 0 7 0 r j = if r = 0 ∧ j = 7 then 0 else if r = 0 ∧ j = 5 then nI (t + d) else if r = 4 ∧ j < N then nI ((α j + st j * d) % 12) else s2 r j := by
    intro r j
    rw [cj_at2, cj_at2, t3]
  have Mo : ∀ i, i ≠ 4 → i ≠ 6 → ¬ (11 ≤ i ∧ i < 11 + 18 * N ∧ (i - 11) % 18 = 2) → ¬ (p < N ∧ 17 + 18 * p ≤ i ∧ i < 29 + 18 * p) → upd (cj_mx N t p α st vv m d) 6 0 i = m i := fun i q1 q2 q3 q4 => (pk_un q2).trans (cj_mx_o q1 q2 q3 q4)
  have Ms : ∀ i, p < N → 17 + 18 * p ≤ i → i < 29 + 18 * p → upd (cj_mx N t p α st vv m d) 6 0 i = cj_lv (fun y => decide (vv y / 2 ^ (i - (17 + 18 * p)) % 2 = 1)) t (m i) d := fun i q1 q2 q3 => by
    rw [pk_un (by omega)]
    unfold cj_mx cj_sv
    rw [if_neg (by omega), if_neg (by omega), if_neg (by omega), if_pos ⟨q1, q2, q3⟩]
  refine ⟨cj_up2 (cj_up2 s4 0 5 (nI (t + d))) 0 7 0, cj_mx N t p α st vv m d, ?_, fun K => ?_, fun K y => ?_, ⟨hN, ?_, fun k j hdm h19 g6 g8 => ?_, fun j q1 q2 => ?_, fun j q1 q2 => ?_, fun q hq4 => ?_⟩, ?_, fun h => ?_⟩
  · unfold f_X0_advance
    rw [cj_lt1]
    refine (U0 (fun (s2 : cj_S) => cj_bd (f_X3_turnAll s2 (nI d)) (fun (s4 : cj_S) => cj_lt (cj_up2 s4 0 5 ((s4 0 5) + nI d)) (fun (s5 : cj_S) => cj_lt (cj_up2 s5 0 7 0) (fun (s6 : cj_S) => some s6))))).trans ?_
    unfold f_X3_turnAll
    have t1 : f_X3_turnAll_L2 (nI d) cj_FU 0 s2 = some s4 := t1
    rw [t1, cj_bd1, s405, nI_add, cj_lt1, cj_lt1]
  · have := cj_m37 (d := d) (by omega) hmin K d 0 cj_FU (by omega) (by unfold cj_FU; omega)
    rw [hm0] at this
    exact this
  · have := cj_m42 (d := d) (by omega) hmin K y d 0 cj_FU (by omega) (by unfold cj_FU; omega)
    rw [hm0] at this
    exact this
  · rw [Mo 0 (by omega) (by omega) (by omega) (by omega), h0]
  · rw [P]
    by_cases c1 : k = 0 ∧ j = 7
    · rw [if_pos c1, c1.1, c1.2]
      exact pk_us.symm
    rw [if_neg c1]
    by_cases c2 : k = 0 ∧ j = 5
    · rw [if_pos c2, c2.1, c2.2]
      exact ((pk_un (show (4 : Nat) ≠ 6 by decide)).trans cj_mx_4).symm
    rw [if_neg c2]
    by_cases c3 : k = 4 ∧ j < N
    · obtain ⟨rfl, c3⟩ := c3
      have r : cj_ix 4 j = 13 + 18 * j := rfl
      rw [if_pos ⟨rfl, c3⟩, r, pk_un (by omega), cj_mx_a c3]
    rw [if_neg c3]
    by_cases c4' : p < N ∧ k = 8 ∧ 12 * p ≤ j ∧ j < 12 * p + 12
    · obtain ⟨e1, rfl, e2, e3⟩ := c4'
      obtain ⟨f, rfl⟩ : ∃ f, j = 12 * p + f := ⟨j - 12 * p, by omega⟩
      have r : cj_ix 8 (12 * p + f) = 17 + 18 * p + f := by
        show 17 + 18 * ((12 * p + f) / 12) + (12 * p + f) % 12 = _
        omega
      rw [U2 e1 f (by omega), r, Ms _ e1 (by omega) (by omega), show 17 + 18 * p + f - (17 + 18 * p) = f by omega, hq.rs e1 hN (by omega)]
    · rw [U1 k j c4', hq k j hdm h19 g6 g8]
      refine (Mo _ (fun e => c2 (cj_ix_inj (k' := 0) (j' := 5) hdm (by decide) e)) (fun e => c1 (cj_ix_inj (k' := 0) (j' := 7) hdm (by decide) e)) (fun e => ?_) (fun e => ?_)).symm
      · have r : cj_ix k j = cj_ix 4 ((cj_ix k j - 11) / 18) := by
          have r2 : ∀ j, cj_ix 4 j = 13 + 18 * j := fun j => rfl
          rw [r2]
          omega
        have r3 := cj_ix_inj hdm (by unfold cj_dm; omega) r
        exact c3 (by omega)
      · have r : cj_ix k j = cj_ix 8 (12 * p + (cj_ix k j - (17 + 18 * p))) := by
          have r2 : ∀ f, f < 12 → cj_ix 8 (12 * p + f) = 17 + 18 * p + f := fun f hf => by
            show 17 + 18 * ((12 * p + f) / 12) + (12 * p + f) % 12 = _
            omega
          rw [r2 _ (by omega)]
          omega
        have r3 := cj_ix_inj hdm (by unfold cj_dm; omega) r
        exact c4' ⟨e.1, by omega⟩
  · rw [P, if_neg (by omega), if_neg (by omega), if_neg (by omega), U1 _ _ (by omega)]
    exact hdd j q1 q2
  · rw [P, if_neg (by omega), if_neg (by omega), if_neg (by omega), U1 _ _ (by omega)]
    exact hs j q1 q2
  · rw [P, if_neg (by omega), if_neg (by omega), if_neg (by omega), U1 _ _ (by omega), Mo _ (by omega) (by omega) (by omega) (by omega), Mo _ (by omega) (by omega) (by omega) (by omega)]
    exact hb q hq4
  · have hp6 : p < N → p < 6 := fun h => by omega
    refine cj_WFi.mpr ⟨w1.cg (Mo _ (by omega) (by omega) (by omega) (by omega)) (fun q hq => Mo _ (by omega) (by omega) (by omega) (by omega)) (fun q hq => Mo _ (by omega) (by omega) (by omega) (by omega)), w2.cg (Nat.le_refl _) (Nat.le_refl _) (Mo _ (by omega) (by omega) (by omega) (by omega)) (Mo _ (by omega) (by omega) (by omega) (by omega)) (Mo _ (by omega) (by omega) (by omega) (by omega)) (Mo _ (by omega) (by omega) (by omega) (by omega)) (fun q hq => Mo _ (by omega) (by omega) (by omega) (by omega)) (fun q hq => Mo _ (by omega) (by omega) (by omega) (by omega)) (fun q hq => Mo _ (by omega) (by omega) (by omega) (by omega)), ⟨t + d, (pk_un (by omega)).trans cj_mx_4, ht⟩, w4.cg (Nat.le_refl _) (Mo _ (by omega) (by omega) (by omega) (by omega)), ⟨0, pk_us, by omega⟩, w6.cg (Mo _ (by omega) (by omega) (by omega) (by omega)), w7.cg (Mo _ (by omega) (by omega) (by omega) (by omega)), fun q hq6 => ?_, fun q hqN f hf => ?_⟩
    · refine ⟨?_, ?_⟩
      · by_cases c : q < N
        · rw [pk_un (by omega), cj_mx_a c]
          exact ⟨_, Nat.mod_lt _ (by decide), rfl⟩
        · rw [Mo _ (by omega) (by omega) (by omega) (by omega)]
          exact (w8 q hq6).1
      · rw [Mo _ (by omega) (by omega) (by omega) (by omega)]
        exact (w8 q hq6).2
    · have o := (w9 q hqN f hf).imp id (fun ⟨s, g1, g2⟩ => (⟨s, Nat.le_trans g1 hT, g2⟩ : ∃ s, s ≤ T' ∧ m (17 + 18 * q + f) = nI s))
      by_cases c : p < N ∧ q = p
      · obtain ⟨c, rfl⟩ := c
        rw [Ms _ c (by omega) (by omega)]
        exact cj_lvb _ o d (by omega)
      · rw [Mo _ (by omega) (by omega) (by omega) (by omega)]
        exact o
  · unfold cj_mx
    rw [if_neg (by omega), if_pos ⟨rfl, h⟩]
theorem cj_c38 (hq : cj_Rq N σ (τ 1)) (h0 : τ 1 0 = nI N) (hN : N ≤ 6) (hW : cj_WF B T N (τ 1)) (hT : T ≤ 20000) : ∀ (k i n n' acc : Nat), i + k = N → k < n → k < n' → ∃ r, r ≤ acc + 12 * k ∧ f_X0_passMinutes_L38 σ n (nI acc) (nI i) = some (nI r, σ) ∧ f_X9_pass_L56 τ n' (nI acc) (nI i) = some (nI r, τ) := by
  intro k
  induction k with
  | zero =>
    intro i n n' acc hi hn hn'
    obtain ⟨n, rfl⟩ : ∃ x, n = x + 1 := ⟨n - 1, by omega⟩
    obtain ⟨n', rfl⟩ : ∃ x, n' = x + 1 := ⟨n' - 1, by omega⟩
    refine ⟨acc, by omega, ?_, ?_⟩
    · rw [f_X0_passMinutes_L38, hq.r1, h0, if_pos (nI_le (by omega) (by omega))]
    · rw [f_X9_pass_L56, h0, if_pos (nI_le (by omega) (by omega))]
  | succ k ih =>
    intro i n n' acc hi hn hn'
    obtain ⟨n, rfl⟩ : ∃ x, n = x + 1 := ⟨n - 1, by omega⟩
    obtain ⟨n', rfl⟩ : ∃ x, n' = x + 1 := ⟨n' - 1, by omega⟩
    obtain ⟨v, hv, v1, v2⟩ := cj_rem hq hN hW hT (p := i) (by omega)
    obtain ⟨c, hc, c1, c2⟩ := cj_ones hv
    obtain ⟨r, r1, r2, r3⟩ := ih (i + 1) n n' (acc + c) (by omega) (by omega) (by omega)
    refine ⟨r, by omega, ?_, ?_⟩
    · rw [f_X0_passMinutes_L38, hq.r1, h0, if_neg (nI_ge (by omega) (by omega)), v1, cj_bd1, c1, cj_bd1, nI_add, nI_1]
      exact r2
    · rw [f_X9_pass_L56, h0, if_neg (nI_ge (by omega) (by omega)), v2, cj_bd1, c2, cj_bd1, nI_add, nI_1]
      exact r3
theorem cj_cpass (hR : cj_RC B 9999 σ (τ 1)) (hc : f_X9_changes τ = some τ1) (h1 : τ1 1 = τ 1) (a1 : Int32) : cj_Co B 9999 σ τ τ1 (f_X0_passMinutes σ a1) (f_X9_pass τ a1) := by
  obtain ⟨N, hX, hW⟩ := hR.x
  obtain ⟨hN, h0, hq, hd, hs, hb⟩ := id hX
  obtain ⟨t, t1, t2⟩ := (cj_WFi.mp hW).2.2.1
  have e1 : τ1 = cj_upr τ1 1 (τ 1) := by rw [← h1, cj_ui]
  unfold f_X0_passMinutes f_X9_pass
  rw [show f_X9_in a1 1 300 = f_X8_isWithin a1 1 300 from rfl]
  rcases cj_in_c a1 1 300 with e2 | ⟨e2, g1, g2⟩
  · rw [e2]
    exact Or.inl ⟨-1000001, by decide, rfl, rfl⟩
  rw [e2]
  obtain ⟨d, rfl, hy, hd3⟩ := cj_in_n (lo := 1) (hi := 300) rfl rfl (by decide) g1 g2 (by decide)
  rw [cj_bd1, cj_bd1, if_neg cj_z1, if_neg cj_z1, hq.r0.2.2.1, t1, nI_add]
  by_cases c : t + d ≤ 9999
  · have c' : nI (t + d) ≤ 9999 := nI_le (b := 9999) c (by decide)
    rw [if_pos c', if_pos c', hc, cj_bd1]
    obtain ⟨σ', m', a1, a2, -, a4, a5, a6⟩ := cj_adv τ1 hX hW t1 hd3 (Nat.le_refl 9999) c (by omega)
    have u : upd m' 6 0 = m' := by
      funext i
      by_cases e : i = 6
      · rw [e, pk_us, a6 (by omega)]
      · rw [pk_un e]
    rw [u] at a4 a5
    rw [← e1] at a2
    rw [a1, cj_bd1, a2]
    obtain ⟨r, r1, r2, r3⟩ := cj_c38 (τ := cj_upr τ1 1 m') a4.2.2.1 a4.2.1 hN a5 (by omega) N 0 cj_FU cj_FU 0 (by omega) (by unfold cj_FU; omega) (by unfold cj_FU; omega)
    exact Or.inr ⟨nI r, σ', m', nI_pos' (by omega), r2, r3, a4.c a5⟩
  · have c' : ¬ nI (t + d) ≤ 9999 := nI_ge (a := 9999) (b := t + d) (by omega) (by omega)
    rw [if_neg c', if_neg c']
    exact Or.inl ⟨-1000003, by decide, rfl, rfl⟩
end CJE
