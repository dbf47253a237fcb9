/-! the minutes of the reference as one row, the minutes of the court as one step -/
def cj_sv (N p t : Nat) (vv : Nat → Nat) (m : Nat → Int32) (x i : Nat) : Int32 := if p < N ∧ 17 + 18 * p ≤ i ∧ i < 29 + 18 * p then cj_lv (fun y => decide (vv y / 2 ^ (i - (17 + 18 * p)) % 2 = 1)) t (m i) x else m i
def cj_mx (N t p : Nat) (α st : Nat → Nat) (vv : Nat → Nat) (m : Nat → Int32) (x i : Nat) : Int32 := if i = 4 then nI (t + x) else if i = 6 ∧ 0 < x then 0 else if 11 ≤ i ∧ i < 11 + 18 * N ∧ (i - 11) % 18 = 2 then nI ((α ((i - 11) / 18) + st ((i - 11) / 18) * x) % 12) else cj_sv N p t vv m x i
section CJD
variable {B T N t p d : Nat} {σ τ1 : cj_S} {m : Nat → Int32} {α st vv : Nat → Nat}
theorem cj_mx_o {x i : Nat} (h4 : i ≠ 4) (h6 : i ≠ 6) (h : ¬ (11 ≤ i ∧ i < 11 + 18 * N ∧ (i - 11) % 18 = 2)) (h2 : ¬ (p < N ∧ 17 + 18 * p ≤ i ∧ i < 29 + 18 * p)) : cj_mx N t p α st vv m x i = m i := by
  unfold cj_mx cj_sv
  rw [if_neg h4, if_neg (fun q => h6 q.1), if_neg h, if_neg h2]
theorem cj_mx_a {x q : Nat} (hq : q < N) : cj_mx N t p α st vv m x (13 + 18 * q) = nI ((α q + st q * x) % 12) := by
  unfold cj_mx
  rw [if_neg (by omega), if_neg (by omega), if_pos (by omega), show (13 + 18 * q - 11) / 18 = q by omega]
theorem cj_mx_4 {x : Nat} : cj_mx N t p α st vv m x 4 = nI (t + x) := if_pos rfl
theorem cj_mx0 (h4 : m 4 = nI t) (hα : ∀ q, q < N → α q < 12 ∧ st q < 12 ∧ m (13 + 18 * q) = nI (α q) ∧ m (14 + 18 * q) = nI (st q)) : cj_mx N t p α st vv m 0 = m := by
  funext i
  by_cases e4 : i = 4
  · rw [e4, cj_mx_4, h4, Nat.add_zero]
  · by_cases ea : 11 ≤ i ∧ i < 11 + 18 * N ∧ (i - 11) % 18 = 2
    · have e : i = 13 + 18 * ((i - 11) / 18) := by omega
      have hN : (i - 11) / 18 < N := by omega
      rw [e, cj_mx_a hN, (hα _ hN).2.2.1, Nat.mul_zero, Nat.add_zero, Nat.mod_eq_of_lt (hα _ hN).1]
    · unfold cj_mx cj_sv
      rw [if_neg e4, if_neg (by omega), if_neg ea]
      by_cases c : p < N ∧ 17 + 18 * p ≤ i ∧ i < 29 + 18 * p
      · rw [if_pos c, cj_lv]
      · rw [if_neg c]
theorem cj_minute (τ1 : cj_S) (hq : cj_Rq N σ m) (h0 : m 0 = nI N) (hN : N ≤ 6) (h4 : m 4 = nI t) (hα : ∀ q, q < N → α q < 12 ∧ st q < 12 ∧ m (13 + 18 * q) = nI (α q) ∧ m (14 + 18 * q) = nI (st q)) (hl : (N ≤ p ∧ m 5 = (-1)) ∨ (p < N ∧ m 5 = nI p ∧ ∃ b, f_X3_seenAside σ (nI p) = some b ∧ ∀ x, vv x < 4096 ∧ f_X3_features (nI ((α p + st p * x) % 12)) b = some (nI (vv x)))) (x : Nat) : f_X9_minute (cj_upr τ1 1 (cj_mx N t p α st vv m x)) = some (cj_upr τ1 1 (cj_mx N t p α st vv m (x + 1))) := by
  have F : ∃ m1 : Nat → Int32, (∀ K : cj_S → Option cj_S, (if (cj_upr τ1 1 (cj_mx N t p α st vv m x) 1 5) < 0 then K (cj_upr τ1 1 (cj_mx N t p α st vv m x)) else cj_bd (f_X9_sees (cj_upr τ1 1 (cj_mx N t p α st vv m x)) (cj_upr τ1 1 (cj_mx N t p α st vv m x) 1 5)) (fun (s17 : cj_S) => K s17)) = K (cj_upr τ1 1 m1)) ∧ ∀ i, m1 i = if p < N ∧ 17 + 18 * p ≤ i ∧ i < 29 + 18 * p ∧ vv x / 2 ^ (i - (17 + 18 * p)) % 2 = 1 then nI (t + x) else cj_mx N t p α st vv m x i := by
    have m5 : cj_upr τ1 1 (cj_mx N t p α st vv m x) 1 5 = m 5 := by
      rw [cj_upr_s]
      exact cj_mx_o (by omega) (by omega) (by omega) (by omega)
    rcases hl with ⟨l1, l2⟩ | ⟨l1, l2, b, l3, l4⟩
    · refine ⟨cj_mx N t p α st vv m x, fun K => ?_, fun i => ?_⟩
      · rw [m5, l2, if_pos (by decide)]
      · rw [if_neg (by omega)]
    · obtain ⟨m1, r1, r2⟩ := cj_sees τ1 (p := p) (v := vv x) (now := t + x) (A := (α p + st p * x) % 12) (b := b) (by omega) (l4 x).1 (l4 x).2 12 0 cj_FU (cj_mx N t p α st vv m x) (by omega) (by unfold cj_FU; omega) (fun m2 h2 a => cj_seenR hq h0 hN l1 l3 τ1 (by rw [h2 0 (by omega)]; exact cj_mx_o (by omega) (by omega) (by omega) (by omega)) (fun j hj => by rw [h2 _ (by omega)]; exact cj_mx_o (by omega) (by omega) (by omega) (by omega)) (fun j hj => by rw [h2 _ (by omega)]; exact cj_mx_o (by omega) (by omega) (by omega) (by omega)) a) cj_mx_4 (cj_mx_a l1)
      refine ⟨m1, fun K => ?_, fun i => ?_⟩
      · have r1 : f_X9_sees (cj_upr τ1 1 (cj_mx N t p α st vv m x)) (nI p) = some (cj_upr τ1 1 m1) := r1
        rw [m5, l2, if_neg (nI_pos (by omega)), r1, cj_bd1]
      · rw [r2]
        by_cases c : 17 + 18 * p + 0 ≤ i ∧ i < 29 + 18 * p ∧ vv x / 2 ^ (i - (17 + 18 * p)) % 2 = 1
        · rw [if_pos c, if_pos ⟨l1, by omega, c.2⟩]
        · rw [if_neg c, if_neg (fun q => c ⟨by omega, q.2.2⟩)]
  obtain ⟨m1, F1, F2⟩ := F
  have G : ∀ i, ¬ (17 + 18 * p ≤ i ∧ i < 29 + 18 * p) → m1 i = cj_mx N t p α st vv m x i := fun i hi => by rw [F2, if_neg (fun q => hi ⟨q.2.1, q.2.2.1⟩)]
  have ML := fun K => cj_minL τ1 K hN (α := fun q => (α q + st q * x) % 12) (st := st) N 0 cj_FU m1 (by omega) (by unfold cj_FU; omega) (by rw [G 0 (by omega), ← h0]; exact cj_mx_o (by omega) (by omega) (by omega) (by omega)) (fun q hq' => ⟨by show (α q + st q * x) % 12 < 12; omega, (hα q hq').2.1, by rw [G _ (by omega), ← (hα q hq').2.2.2]; exact cj_mx_o (by omega) (by omega) (by omega) (by omega)⟩) (fun q _ hq' => by rw [G _ (by omega)]; exact cj_mx_a hq')
  unfold f_X9_minute
  rw [cj_lt1, F1]
  obtain ⟨m2, r1, r2, r3⟩ := ML (fun (s13 : cj_S) => cj_lt (cj_up2 s13 1 4 ((s13 1 4) + 1)) (fun (s14 : cj_S) => cj_lt (cj_up2 s14 1 6 0) (fun (s15 : cj_S) => some s15)))
  have r1 : f_X9_minute_L21 _ cj_FU 0 (cj_upr τ1 1 m1) = _ := r1
  rw [r1]
  have z : cj_upr τ1 1 m2 1 4 = nI (t + x) := by
    rw [cj_upr_s, r3 4 (fun q _ _ => by omega), G 4 (by omega)]
    exact cj_mx_4
  rw [z, nI_1]
  simp only [cj_lt1, cj_u2]
  congr 2
  funext i
  by_cases e6 : i = 6
  · subst e6
    rw [pk_us]
    unfold cj_mx
    rw [if_neg (by omega), if_pos (by omega)]
  rw [pk_un e6]
  by_cases e4 : i = 4
  · subst e4
    rw [pk_us]
    exact (cj_mx_4 (N := N) (t := t) (p := p) (α := α) (st := st) (vv := vv) (m := m) (x := x + 1)).symm
  rw [pk_un e4]
  by_cases ea : 11 ≤ i ∧ i < 11 + 18 * N ∧ (i - 11) % 18 = 2
  · have e : i = 13 + 18 * ((i - 11) / 18) := by omega
    have hN' : (i - 11) / 18 < N := by omega
    rw [e, cj_mx_a hN', r2 _ (by omega) hN', Nat.mul_succ]
    congr 1
    omega
  · rw [r3 i (fun q _ hq' => by omega), F2]
    have u : ∀ y, (y = x ∨ y = x + 1) → cj_mx N t p α st vv m y i = cj_sv N p t vv m y i := by
      intro y _
      unfold cj_mx
      rw [if_neg e4, if_neg (fun q => e6 q.1), if_neg ea]
    rw [u x (Or.inl rfl), u (x + 1) (Or.inr rfl)]
    unfold cj_sv
    by_cases c : p < N ∧ 17 + 18 * p ≤ i ∧ i < 29 + 18 * p
    · rw [if_pos c, if_pos c, cj_lv]
      by_cases c2 : vv x / 2 ^ (i - (17 + 18 * p)) % 2 = 1
      · rw [if_pos ⟨c.1, c.2.1, c.2.2, c2⟩, if_pos (decide_eq_true c2)]
      · rw [if_neg (fun q => c2 q.2.2.2), if_neg (fun q => c2 (of_decide_eq_true q))]
    · rw [if_neg c, if_neg c, if_neg (fun q => c ⟨q.1, q.2.1, q.2.2.1⟩)]
/-- the court's watching -/
theorem cj_w40 (K : cj_S → Option cj_S) {v x : Nat} (hp : p < 6) (hv : v < 4096) (y17 y18 : Int32) : ∀ (k f n : Nat) (s : cj_S), f + k = 12 → k < n → ∃ s', f_X3_watch_L40 K (nI p) (nI t) y17 y18 (nI x) (nI v) n (nI f) s = K s' ∧ ∀ r j, s' r j = if r = 8 ∧ 12 * p + f ≤ j ∧ j < 12 * p + 12 ∧ v / 2 ^ (j - 12 * p) % 2 = 1 then nI (t + x) else s r j := by
  intro k
  induction k with
  | zero =>
    intro f n s hfk hn
    obtain ⟨n, rfl⟩ : ∃ x, n = x + 1 := ⟨n - 1, by omega⟩
    have : f = 12 := by omega
    subst this
    refine ⟨s, ?_, fun r j => ?_⟩
    · rw [f_X3_watch_L40, if_pos (by decide)]
    · rw [if_neg (by omega)]
  | succ k ih =>
    intro f n s hfk hn
    obtain ⟨n, rfl⟩ : ∃ x, n = x + 1 := ⟨n - 1, by omega⟩
    have hb : f_X8_hasBit (nI v) (nI f) = if nI (v / 2 ^ f % 2) = 0 then some 0 else some 1 := by
      unfold f_X8_hasBit
      rw [cj_shb hv (by omega)]
    have ei : (nI p * 12 + nI f : Int32) = nI (12 * p + f) := by
      rw [show (12 : Int32) = nI 12 from rfl, pk_mul, nI_add]
      congr 1
      omega
    rw [f_X3_watch_L40, if_neg (show ¬ 12 ≤ nI f from nI_ge (a := f) (b := 12) (by omega) (by omega)), hb]
    by_cases c : v / 2 ^ f % 2 = 1
    · obtain ⟨s', r1, r2⟩ := ih (f + 1) n (cj_up2 s 8 (12 * p + f) (nI (t + x))) (by omega) (by omega)
      refine ⟨s', ?_, fun r j => ?_⟩
      · rw [c, if_neg (show ¬ nI 1 = 0 by decide), cj_bd1, if_neg cj_z1, ei, cj_gdN (by omega) (by decide), cj_tn (by omega), cj_lt1, nI_add, nI_1]
        exact r1
      · rw [r2, cj_at2]
        by_cases d : r = 8 ∧ 12 * p + (f + 1) ≤ j ∧ j < 12 * p + 12 ∧ v / 2 ^ (j - 12 * p) % 2 = 1
        · rw [if_pos d, if_pos ⟨d.1, by omega, d.2.2⟩]
        · rw [if_neg d]
          by_cases e : r = 8 ∧ j = 12 * p + f
          · rw [if_pos e, if_pos ⟨e.1, by omega, by omega, by rw [e.2, show 12 * p + f - 12 * p = f by omega]; exact c⟩]
          · rw [if_neg e, if_neg (fun q => d ⟨q.1, by omega, q.2.2⟩)]
    · have c0 : v / 2 ^ f % 2 = 0 := by omega
      obtain ⟨s', r1, r2⟩ := ih (f + 1) n s (by omega) (by omega)
      refine ⟨s', ?_, fun r j => ?_⟩
      · rw [c0, if_pos (show nI 0 = 0 from rfl), cj_bd1, if_pos rfl, nI_1]
        exact r1
      · rw [r2]
        by_cases d : r = 8 ∧ 12 * p + (f + 1) ≤ j ∧ j < 12 * p + 12 ∧ v / 2 ^ (j - 12 * p) % 2 = 1
        · rw [if_pos d, if_pos ⟨d.1, by omega, d.2.2⟩]
        · rw [if_neg d, if_neg (fun q => ?_)]
          by_cases e : j = 12 * p + f
          · rw [e, show 12 * p + f - 12 * p = f by omega] at q
            exact c q.2.2.2
          · exact d ⟨q.1, by omega, q.2.2⟩
theorem cj_w17 {b : Int32} {A S : Nat} (hp : p < 6) (hA : A < 12) (hS : S < 12) (hd : d ≤ 300) (hf : ∀ x, vv x < 4096 ∧ f_X3_features (nI ((A + S * x) % 12)) b = some (nI (vv x))) : ∀ (k x n : Nat) (s : cj_S), x + k = d → k < n → s 4 p = nI A → s 5 p = nI S → ∃ s', f_X3_watch_L17 (nI p) (nI t) (nI d) b n (nI x) s = some s' ∧ (∀ r j, ¬ (r = 8 ∧ 12 * p ≤ j ∧ j < 12 * p + 12) → s' r j = s r j) ∧ ∀ f, f < 12 → s' 8 (12 * p + f) = cj_lw (fun y => decide (vv y / 2 ^ f % 2 = 1)) t (s 8 (12 * p + f)) x k := by
  intro k
  induction k with
  | zero =>
    intro x n s hx hn h4 h5
    obtain ⟨n, rfl⟩ : ∃ x, n = x + 1 := ⟨n - 1, by omega⟩
    refine ⟨s, ?_, fun r j _ => rfl, fun f hf' => rfl⟩
    rw [f_X3_watch_L17, if_pos (nI_le (by omega) (by omega))]
  | succ k ih =>
    intro x n s hx hn h4 h5
    obtain ⟨n, rfl⟩ : ∃ x, n = x + 1 := ⟨n - 1, by omega⟩
    have hb : S * x ≤ 12 * 300 := Nat.mul_le_mul (by omega) (by omega)
    have ha : f_X3_angleAfter s (nI p) (nI x) = some (nI ((A + S * x) % 12)) := by
      unfold f_X3_angleAfter
      rw [cj_gdN (by omega) (by decide), cj_gdN (by omega) (by decide), cj_tn (by omega), h4, h5, pk_mul, nI_add, cj_lt1]
      show some (nI (A + S * x) - nI (A + S * x) / nI 12 * nI 12) = _
      rw [pk_rem (by omega) (by decide) (by decide)]
    obtain ⟨s1, e1, e2⟩ := cj_w40 (t := t) (x := x) (fun (s27 : cj_S) => f_X3_watch_L17 (nI p) (nI t) (nI d) b n (nI x + 1) s27) hp (hf x).1 (nI d) b 12 0 cj_FU s (by omega) (by unfold cj_FU; omega)
    obtain ⟨s', r1, r2, r3⟩ := ih (x + 1) n s1 (by omega) (by omega) (by rw [e2, if_neg (by omega), h4]) (by rw [e2, if_neg (by omega), h5])
    refine ⟨s', ?_, fun r j hr => ?_, fun f hf' => ?_⟩
    · rw [f_X3_watch_L17, if_neg (nI_ge (by omega) (by omega)), ha, cj_bd1, (hf x).2, cj_bd1]
      have e1 : f_X3_watch_L40 _ (nI p) (nI t) (nI d) b (nI x) (nI (vv x)) cj_FU 0 s = _ := e1
      rw [e1, nI_1]
      exact r1
    · rw [r2 r j hr, e2, if_neg (fun q => hr ⟨q.1, by omega, q.2.2.1⟩)]
    · rw [r3 f hf', e2, ← cj_lwS, show 12 * p + f - 12 * p = f by omega]
      by_cases c : vv x / 2 ^ f % 2 = 1
      · rw [if_pos ⟨rfl, by omega, by omega, c⟩, if_pos (decide_eq_true c)]
      · rw [if_neg (fun q => c q.2.2.2), if_neg (fun q => c (of_decide_eq_true q))]
theorem cj_tAll (hN : N ≤ 6) (hd : d ≤ 300) : ∀ (k i n : Nat) (s : cj_S), i + k = N → k < n → s 1 0 = nI N → (∀ q, q < N → α q < 12 ∧ st q < 12 ∧ (i ≤ q → s 4 q = nI (α q)) ∧ s 5 q = nI (st q)) → ∃ s', f_X3_turnAll_L2 (nI d) n (nI i) s = some s' ∧ ∀ r j, s' r j = if r = 4 ∧ i ≤ j ∧ j < N then nI ((α j + st j * d) % 12) else s r j := by
  intro k
  induction k with
  | zero =>
    intro i n s hi hn h1 h2
    obtain ⟨n, rfl⟩ : ∃ x, n = x + 1 := ⟨n - 1, by omega⟩
    refine ⟨s, ?_, fun r j => ?_⟩
    · rw [f_X3_turnAll_L2, h1, if_pos (nI_le (by omega) (by omega))]
    · rw [if_neg (by omega)]
  | succ k ih =>
    intro i n s hi hn h1 h2
    obtain ⟨n, rfl⟩ : ∃ x, n = x + 1 := ⟨n - 1, by omega⟩
    obtain ⟨g1, g2, g3, g4⟩ := h2 i (by omega)
    have hb : st i * d ≤ 12 * 300 := Nat.mul_le_mul (by omega) hd
    have ha : f_X3_angleAfter s (nI i) (nI d) = some (nI ((α i + st i * d) % 12)) := by
      unfold f_X3_angleAfter
      rw [cj_gdN (by omega) (by decide), cj_gdN (by omega) (by decide), cj_tn (by omega), g3 (Nat.le_refl _), g4, pk_mul, nI_add, cj_lt1]
      show some (nI (α i + st i * d) - nI (α i + st i * d) / nI 12 * nI 12) = _
      rw [pk_rem (by omega) (by decide) (by decide)]
    obtain ⟨s', r1, r2⟩ := ih (i + 1) n (cj_up2 s 4 i (nI ((α i + st i * d) % 12))) (by omega) (by omega) (by rw [cj_at2, if_neg (by omega), h1]) (fun q hq => ⟨(h2 q hq).1, (h2 q hq).2.1, fun hi' => by rw [cj_at2, if_neg (by omega)]; exact (h2 q hq).2.2.1 (by omega), by rw [cj_at2, if_neg (by omega)]; exact (h2 q hq).2.2.2⟩)
    refine ⟨s', ?_, fun r j => ?_⟩
    · rw [f_X3_turnAll_L2, h1, if_neg (nI_ge (by omega) (by omega)), ha, cj_bd1, cj_gdN (by omega) (by decide), cj_tn (by omega), cj_lt1, nI_1]
      exact r1
    · rw [r2, cj_at2]
      by_cases c : r = 4 ∧ i + 1 ≤ j ∧ j < N
      · rw [if_pos c, if_pos ⟨c.1, by omega, c.2.2⟩]
      · rw [if_neg c]
        by_cases e : r = 4 ∧ j = i
        · rw [if_pos e, if_pos (by omega), e.2]
        · rw [if_neg e, if_neg (by omega)]
end CJD
