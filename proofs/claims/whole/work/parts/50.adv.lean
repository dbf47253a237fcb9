/-! minutes: what was last seen when -/
def cj_lv (v : Nat → Bool) (t : Nat) (o : Int32) : Nat → Int32
  | 0 => o
  | x + 1 => if v x = true then nI (t + x) else cj_lv v t o x
def cj_lw (v : Nat → Bool) (t : Nat) (o : Int32) (x : Nat) : Nat → Int32
  | 0 => o
  | k + 1 => if v (x + k) = true then nI (t + (x + k)) else cj_lw v t o x k
theorem cj_lw0 (v : Nat → Bool) (t : Nat) (o : Int32) : ∀ k, cj_lw v t o 0 k = cj_lv v t o k := by
  intro k
  induction k with
  | zero => rfl
  | succ k ih => rw [cj_lw, cj_lv, ih, Nat.zero_add]
theorem cj_lwS (v : Nat → Bool) (t : Nat) (o : Int32) (x : Nat) : ∀ k, cj_lw v t (if v x = true then nI (t + x) else o) (x + 1) k = cj_lw v t o x (k + 1) := by
  intro k
  induction k with
  | zero => rfl
  | succ k ih =>
    show (if v (x + 1 + k) = true then nI (t + (x + 1 + k)) else cj_lw v t (if v x = true then nI (t + x) else o) (x + 1) k) = (if v (x + (k + 1)) = true then nI (t + (x + (k + 1))) else cj_lw v t o x (k + 1))
    rw [ih, show x + 1 + k = x + (k + 1) by omega]
theorem cj_lvN (v : Nat → Bool) (t : Nat) (o : Int32) : ∀ x, (∀ y, y < x → ¬ v y = true) → cj_lv v t o x = o := by
  intro x
  induction x with
  | zero => intro _; rfl
  | succ x ih =>
    intro h
    rw [cj_lv, if_neg (h x (by omega))]
    exact ih (fun y hy => h y (by omega))
theorem cj_lwN (v : Nat → Bool) (t : Nat) (o : Int32) (x : Nat) : ∀ k, (∀ y, y < k → ¬ v (x + y) = true) → cj_lw v t o x k = o := by
  intro k
  induction k with
  | zero => intro _; rfl
  | succ k ih =>
    intro h
    rw [cj_lw, if_neg (h k (by omega))]
    exact ih (fun y hy => h y (by omega))
theorem cj_lwY (v : Nat → Bool) (t : Nat) (o o' : Int32) (x : Nat) : ∀ k, (∃ y, y < k ∧ v (x + y) = true) → cj_lw v t o x k = cj_lv v t o' (x + k) := by
  intro k
  induction k with
  | zero =>
    rintro ⟨y, h, -⟩
    omega
  | succ k ih =>
    rintro ⟨y, h, h2⟩
    rw [cj_lw, show x + (k + 1) = (x + k) + 1 by omega, cj_lv]
    by_cases c : v (x + k) = true
    · rw [if_pos c, if_pos c]
    · rw [if_neg c, if_neg c]
      refine ih ⟨y, ?_, h2⟩
      by_cases e : y = k
      · subst e
        exact absurd h2 c
      · omega
theorem cj_per12 {v : Nat → Bool} (h : ∀ x, v (x + 12) = v x) : ∀ k x, v (x + 12 * k) = v x := by
  intro k
  induction k with
  | zero => intro x; rfl
  | succ k ih =>
    intro x
    rw [show x + 12 * (k + 1) = (x + 12 * k) + 12 by omega, h, ih]
theorem cj_lwv {v : Nat → Bool} (h : ∀ x, v (x + 12) = v x) (t : Nat) (o : Int32) (d : Nat) : cj_lw v t o (d - 12) (d - (d - 12)) = cj_lv v t o d := by
  by_cases c : d ≤ 12
  · rw [show d - 12 = 0 by omega, Nat.sub_zero, cj_lw0]
  · obtain ⟨e, rfl⟩ : ∃ e, d = e + 12 := ⟨d - 12, by omega⟩
    rw [show e + 12 - 12 = e by omega, show e + 12 - e = 12 by omega]
    by_cases q : ∃ y, y < 12 ∧ v (e + y) = true
    · exact cj_lwY v t o o e 12 q
    · have q1 : ∀ y, y < 12 → ¬ v (e + y) = true := fun y hy hv => q ⟨y, hy, hv⟩
      rw [cj_lwN v t o e 12 q1, cj_lvN]
      intro z hz hv
      have r := cj_per12 h (z / 12) (z % 12)
      rw [show z % 12 + 12 * (z / 12) = z by omega] at r
      have r2 := cj_per12 h ((e + ((z + 12 - e % 12) % 12)) / 12) (z % 12)
      rw [show z % 12 + 12 * ((e + ((z + 12 - e % 12) % 12)) / 12) = e + ((z + 12 - e % 12) % 12) by omega] at r2
      exact q1 _ (by omega) (r2.trans (r.symm.trans hv))
theorem cj_lvb (v : Nat → Bool) {t : Nat} {o : Int32} {T : Nat} (ho : o = (-1) ∨ ∃ s, s ≤ T ∧ o = nI s) : ∀ x, t + x ≤ T + 1 → (cj_lv v t o x = (-1) ∨ ∃ s, s ≤ T ∧ cj_lv v t o x = nI s) := by
  intro x
  induction x with
  | zero => intro _; exact ho
  | succ x ih =>
    intro h
    rw [cj_lv]
    by_cases c : v x = true
    · rw [if_pos c]
      exact Or.inr ⟨t + x, by omega, rfl⟩
    · rw [if_neg c]
      exact ih (by omega)
/-! who is seen depends on rows and seats alone -/
theorem cj_gdc {α : Type} {x : Int32} {n : Nat} {A A' : Option α} (hn : n < 2147483648) (h : ∀ j, j < n → x = nI j → A = A') : cj_gd x n A = cj_gd x n A' := by
  unfold cj_gd
  by_cases c : x < 0 ∨ n ≤ x.toNatClampNeg
  · rw [if_pos c, if_pos c]
  · rw [if_neg c, if_neg c]
    obtain ⟨j, hj, e⟩ := vp_in_of (x := x) (n := n) c hn
    exact h j hj e
theorem cj_aside {σ σ' : cj_S} (h0 : σ' 1 0 = σ 1 0) (h2 : ∀ j, j < 6 → σ' 2 j = σ 2 j) (h3 : ∀ j, j < 6 → σ' 3 j = σ 3 j) (y : Int32) : ∀ (n : Nat) (x : Int32), f_X3_seenAside_L2 y σ' n x = f_X3_seenAside_L2 y σ n x := by
  intro n
  induction n with
  | zero => intro x; rfl
  | succ n ih =>
    intro x
    rw [f_X3_seenAside_L2, f_X3_seenAside_L2, h0, ih]
    by_cases c : σ 1 0 ≤ x
    · rw [if_pos c, if_pos c]
    · rw [if_neg c, if_neg c]
      refine cj_gdc (by decide) (fun j hj e => cj_gdc (by decide) (fun i hi e2 => ?_))
      subst e
      subst e2
      rw [cj_tn (by omega), cj_tn (by omega), h2 j hj, h2 i hi, h3 j hj, h3 i hi]
section CJB
variable {B T N : Nat} {σ τ τ1 : cj_S} {m : Nat → Int32}
theorem cj_seenR (hq : cj_Rq N σ m) (h0 : m 0 = nI N) (hN : N ≤ 6) {p : Nat} (hp : p < N) {b : Int32} (hb : f_X3_seenAside σ (nI p) = some b) (τ1 : cj_S) {m' : Nat → Int32} (e0 : m' 0 = m 0) (e1 : ∀ j, j < 6 → m' (11 + 18 * j) = m (11 + 18 * j)) (e2 : ∀ j, j < 6 → m' (12 + 18 * j) = m (12 + 18 * j)) (a : Int32) : f_X9_seenAt (cj_upr τ1 1 m') (nI p) a = f_X3_features a b := by
  have A : cj_Rq N (fun k j => m' (cj_ix k j)) (cj_upr τ1 1 m' 1) := fun k j _ _ _ _ => rfl
  obtain ⟨b', -, h1, h2⟩ := cj_seenAt_eq (τ := cj_upr τ1 1 m') A (e0.trans h0) hN hp
  have h3 : f_X3_seenAside (fun k j => m' (cj_ix k j)) (nI p) = f_X3_seenAside σ (nI p) := by
    refine cj_aside ?_ (fun j hj => ?_) (fun j hj => ?_) (nI p) cj_FU 0
    · show m' 0 = _
      rw [e0, hq.r1]
    · show m' (11 + 18 * j) = _
      rw [e1 j hj]
      exact (hq.rp (k := 2) ⟨by decide, by decide⟩ hj (by omega)).symm
    · show m' (12 + 18 * j) = _
      rw [e2 j hj]
      exact (hq.rp (k := 3) ⟨by decide, by decide⟩ hj (by omega)).symm
  rw [h1, hb] at h3
  have h3 : b' = b := Option.some.inj h3
  rw [h2, h3]
/-- one minute's look -/
theorem cj_sees (τ1 : cj_S) {p v now A : Nat} {b : Int32} (hp : p < 6) (hv : v < 4096) (hf : f_X3_features (nI A) b = some (nI v)) : ∀ (k f n : Nat) (m' : Nat → Int32), f + k = 12 → k < n → (∀ m'' : Nat → Int32, (∀ i, i < 17 + 18 * p ∨ 29 + 18 * p ≤ i → m'' i = m' i) → ∀ a, f_X9_seenAt (cj_upr τ1 1 m'') (nI p) a = f_X3_features a b) → m' 4 = nI now → m' (13 + 18 * p) = nI A → ∃ m'', f_X9_sees_L2 (nI p) n (nI f) (cj_upr τ1 1 m') = some (cj_upr τ1 1 m'') ∧ ∀ i, m'' i = if 17 + 18 * p + f ≤ i ∧ i < 29 + 18 * p ∧ v / 2 ^ (i - (17 + 18 * p)) % 2 = 1 then nI now else m' i := by
  intro k
  induction k with
  | zero =>
    intro f n m' hfk hn hs h4 ha
    obtain ⟨n, rfl⟩ : ∃ x, n = x + 1 := ⟨n - 1, by omega⟩
    have : f = 12 := by omega
    subst this
    refine ⟨m', ?_, fun i => ?_⟩
    · rw [f_X9_sees_L2, if_pos (by decide)]
    · rw [if_neg (by omega)]
  | succ k ih =>
    intro f n m' hfk hn hs h4 ha
    obtain ⟨n, rfl⟩ : ∃ x, n = x + 1 := ⟨n - 1, by omega⟩
    have o2 : f_X9_of (cj_upr τ1 1 m') (nI p) 2 = some (nI A) := by
      have := n_of τ1 m' (p := p) (w := 2) (by omega)
      rw [show 11 + 18 * p + 2 = 13 + 18 * p by omega, ha] at this
      exact this
    have sn : f_X9_seen (cj_upr τ1 1 m') (nI p) = some (nI v) := by
      unfold f_X9_seen
      rw [o2, cj_bd1, hs m' (fun i _ => rfl), hf, cj_bd1]
    rw [f_X9_sees_L2, if_neg (show ¬ 12 ≤ nI f from nI_ge (a := f) (b := 12) (by omega) (by omega)), sn, cj_bd1, cj_shb hv (by omega)]
    by_cases c : v / 2 ^ f % 2 = 1
    · have w := n_sets τ1 m' (p := p) (w := 6 + f) (nI now) (by omega)
      rw [show 11 + 18 * p + (6 + f) = 17 + 18 * p + f by omega] at w
      obtain ⟨m'', r1, r2⟩ := ih (f + 1) n (upd m' (17 + 18 * p + f) (nI now)) (by omega) (by omega) (fun m3 h3 => hs m3 (fun i hi => by rw [h3 i hi, pk_un (by omega)])) (by rw [pk_un (by omega), h4]) (by rw [pk_un (by omega), ha])
      refine ⟨m'', ?_, fun i => ?_⟩
      · rw [c, if_pos (show nI 1 = 1 from rfl), show (6 : Int32) = nI 6 from rfl, nI_add, cj_upr_s, h4, w, cj_bd1, nI_1]
        exact r1
      · rw [r2]
        by_cases d : 17 + 18 * p + (f + 1) ≤ i ∧ i < 29 + 18 * p ∧ v / 2 ^ (i - (17 + 18 * p)) % 2 = 1
        · rw [if_pos d, if_pos ⟨by omega, d.2⟩]
        · rw [if_neg d]
          by_cases e : i = 17 + 18 * p + f
          · rw [e, pk_us, if_pos ⟨by omega, by omega, by rw [show 17 + 18 * p + f - (17 + 18 * p) = f by omega]; exact c⟩]
          · rw [pk_un e, if_neg (fun q => d ⟨by omega, q.2⟩)]
    · have c0 : v / 2 ^ f % 2 = 0 := by omega
      obtain ⟨m'', r1, r2⟩ := ih (f + 1) n m' (by omega) (by omega) hs h4 ha
      refine ⟨m'', ?_, fun i => ?_⟩
      · rw [c0, if_neg (show ¬ nI 0 = 1 by decide), nI_1]
        exact r1
      · rw [r2]
        by_cases d : 17 + 18 * p + (f + 1) ≤ i ∧ i < 29 + 18 * p ∧ v / 2 ^ (i - (17 + 18 * p)) % 2 = 1
        · rw [if_pos d, if_pos ⟨by omega, d.2⟩]
        · rw [if_neg d, if_neg (fun q => ?_)]
          by_cases e : i = 17 + 18 * p + f
          · rw [e, show 17 + 18 * p + f - (17 + 18 * p) = f by omega] at q
            exact c q.2.2
          · exact d ⟨by omega, q.2⟩
/-- one minute's turning -/
theorem cj_minL (τ1 : cj_S) (K : cj_S → Option cj_S) (hN : N ≤ 6) {α st : Nat → Nat} : ∀ (k i n : Nat) (m' : Nat → Int32), i + k = N → k < n → m' 0 = nI N → (∀ q, q < N → α q < 12 ∧ st q < 12 ∧ m' (14 + 18 * q) = nI (st q)) → (∀ q, i ≤ q → q < N → m' (13 + 18 * q) = nI (α q)) → ∃ m'', f_X9_minute_L21 K n (nI i) (cj_upr τ1 1 m') = K (cj_upr τ1 1 m'') ∧ (∀ q, i ≤ q → q < N → m'' (13 + 18 * q) = nI ((α q + st q) % 12)) ∧ (∀ j, (∀ q, i ≤ q → q < N → j ≠ 13 + 18 * q) → m'' j = m' j) := by
  intro k
  induction k with
  | zero =>
    intro i n m' hi hn h0 h1 h2
    obtain ⟨n, rfl⟩ : ∃ x, n = x + 1 := ⟨n - 1, by omega⟩
    refine ⟨m', ?_, fun q q1 q2 => by omega, fun j hj => rfl⟩
    rw [f_X9_minute_L21, cj_upr_s, h0, if_pos (nI_le (by omega) (by omega))]
  | succ k ih =>
    intro i n m' hi hn h0 h1 h2
    obtain ⟨n, rfl⟩ : ∃ x, n = x + 1 := ⟨n - 1, by omega⟩
    obtain ⟨g1, g2, g3⟩ := h1 i (by omega)
    have o2 : f_X9_of (cj_upr τ1 1 m') (nI i) 2 = some (nI (α i)) := by
      have := n_of τ1 m' (p := i) (w := 2) (by omega)
      rw [show 11 + 18 * i + 2 = 13 + 18 * i by omega, h2 i (by omega) (by omega)] at this
      exact this
    have o3 : f_X9_of (cj_upr τ1 1 m') (nI i) 3 = some (nI (st i)) := by
      have := n_of τ1 m' (p := i) (w := 3) (by omega)
      rw [show 11 + 18 * i + 3 = 14 + 18 * i by omega, g3] at this
      exact this
    have w := n_sets τ1 m' (p := i) (w := 2) (nI ((α i + st i) % 12)) (by omega)
    rw [show 11 + 18 * i + 2 = 13 + 18 * i by omega] at w
    have w : f_X9_sets (cj_upr τ1 1 m') (nI i) 2 _ = _ := w
    obtain ⟨m'', r1, r2, r3⟩ := ih (i + 1) n (upd m' (13 + 18 * i) (nI ((α i + st i) % 12))) (by omega) (by omega) (by rw [pk_un (by omega), h0]) (fun q hq => by rw [pk_un (by omega)]; exact h1 q hq) (fun q q1 q2 => by rw [pk_un (by omega)]; exact h2 q (by omega) q2)
    refine ⟨m'', ?_, fun q q1 q2 => ?_, fun j hj => ?_⟩
    · rw [f_X9_minute_L21, cj_upr_s, h0, if_neg (nI_ge (by omega) (by omega)), o2, cj_bd1, o3, cj_bd1, nI_add, cj_lt1, show (12 : Int32) = nI 12 from rfl, pk_rem (by omega) (by decide) (by decide), w, cj_bd1, nI_1]
      exact r1
    · by_cases e : q = i
      · subst e
        rw [r3 _ (fun q' _ _ => by omega), pk_us]
      · exact r2 q (by omega) q2
    · rw [r3 j (fun q q1 q2 => hj q (by omega) q2), pk_un (hj i (by omega) (by omega))]
end CJB
