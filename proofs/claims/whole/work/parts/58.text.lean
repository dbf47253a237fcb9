/-! the typed text, read by both -/
def cj_Tx (len : Nat) (s τ : cj_S) : Prop := len ≤ 60 ∧ s 0 1 = nI len ∧ τ 0 7 = nI len ∧ ∀ i, i < len → ∃ c, 32 ≤ c ∧ c ≤ 126 ∧ s 1 i = nI c ∧ τ 5 i = nI c
theorem cj_Tx.mv {len : Nat} {s s' τ τ' : cj_S} (h : cj_Tx len s τ) (e1 : s' 0 1 = s 0 1) (e2 : τ' 0 7 = τ 0 7) (e3 : s' 1 = s 1) (e4 : τ' 5 = τ 5) : cj_Tx len s' τ' := by
  obtain ⟨h1, h2, h3, h4⟩ := h
  refine ⟨h1, e1.trans h2, e2.trans h3, fun i hi => ?_⟩
  rw [e3, e4]
  exact h4 i hi
section CJT2
variable {len a : Nat} {s τ : cj_S}
theorem cj_next (h : cj_Tx len s τ) (ha : s 0 2 = nI a) (hal : a ≤ len) : f_X7_next s = some (if a < len then s 1 a else 32) := by
  obtain ⟨h1, h2, h3, h4⟩ := h
  unfold f_X7_next
  rw [ha, h2, if_neg (nI_pos (by omega))]
  by_cases c : a < len
  · obtain ⟨x, x1, x2, x3, x4⟩ := h4 a c
    rw [if_neg (nI_ge c (by omega)), if_pos c, cj_gdN (show a < 60 by omega) (by decide), cj_tn (by omega), x3, cj_gpT ⟨nI_pos' (by omega), nI_le (b := 65535) (by omega) (by decide)⟩]
  · rw [if_pos (nI_le (by omega) (by omega)), if_neg c]
theorem cj_isAt (h : cj_Tx len s τ) (ha : τ 0 8 = nI a) (hal : a ≤ len) (lo hi : Int32) : (a < len → f_X9_isAt τ lo hi = cj_bd (f_X8_isWithin (s 1 a) lo hi) (fun x => if x = 0 then some 0 else some 1)) ∧ (¬ a < len → f_X9_isAt τ lo hi = some 0) := by
  obtain ⟨h1, h2, h3, h4⟩ := h
  unfold f_X9_isAt
  rw [ha, h3]
  refine ⟨fun c => ?_, fun c => ?_⟩
  · obtain ⟨x, x1, x2, x3, x4⟩ := h4 a c
    rw [if_neg (nI_ge c (by omega)), cj_gdN (show a < 60 by omega) (by decide), cj_tn (by omega), x4, x3]
    rfl
  · rw [if_pos (nI_le (by omega) (by omega))]
/-- whether a character stands there, for both -/
theorem cj_stand (h : cj_Tx len s τ) (ha : s 0 2 = nI a) (hb : τ 0 8 = nI a) (hal : a ≤ len) {lo hi : Nat} (h33 : 33 ≤ lo) (hlo : lo ≤ hi) (hh : hi < 2147483648) : ∃ x, f_X7_next s = some x ∧ ((f_X8_isWithin x (nI lo) (nI hi) = some 0 ∧ f_X9_isAt τ (nI lo) (nI hi) = some 0 ∧ ∀ c, lo ≤ c → c ≤ hi → c < 2147483648 → ¬ x = nI c) ∨ (f_X8_isWithin x (nI lo) (nI hi) = some 1 ∧ f_X9_isAt τ (nI lo) (nI hi) = some 1 ∧ a < len ∧ ∃ c, lo ≤ c ∧ c ≤ hi ∧ c ≤ 126 ∧ x = nI c ∧ τ 5 a = nI c)) := by
  have N := cj_next h ha hal
  obtain ⟨A1, A2⟩ := cj_isAt h hb hal (nI lo) (nI hi)
  have NO : ∀ x, f_X8_isWithin x (nI lo) (nI hi) = some 0 → ∀ c, lo ≤ c → c ≤ hi → c < 2147483648 → ¬ x = nI c := by
    intro x hx c c1 c2 c3 e
    subst e
    unfold f_X8_isWithin at hx
    rw [if_neg (nI_nlt c1 (by omega)), if_neg (nI_nlt c2 (by omega))] at hx
    cases hx
  by_cases c : a < len
  · rw [if_pos c] at N
    refine ⟨s 1 a, N, ?_⟩
    have A := A1 c
    obtain ⟨y, y1, y2, y3, y4⟩ := h.2.2.2 a c
    rcases cj_in_c (s 1 a) (nI lo) (nI hi) with e | ⟨e, g1, g2⟩
    · rw [e, cj_bd1, if_pos rfl] at A
      exact Or.inl ⟨e, A, NO _ e⟩
    · rw [e, cj_bd1, if_neg cj_z1] at A
      rw [y3] at g1 g2 ⊢
      rw [nI_ltI (by omega) (by omega)] at g1
      rw [nI_ltI (by omega) (by omega)] at g2
      rw [y3] at e
      exact Or.inr ⟨e, A, c, y, by omega, by omega, y2, rfl, y4⟩
  · rw [if_neg c] at N
    have w : f_X8_isWithin 32 (nI lo) (nI hi) = some 0 := by
      unfold f_X8_isWithin
      rw [if_pos (show 32 < nI lo from nI_lt (a := 32) (by omega) (by omega))]
    exact ⟨32, N, Or.inl ⟨w, A2 c, NO _ w⟩⟩
/-- a number of at most three digits, read by both -/
theorem cj_numL (K : cj_S → Option (Int32 × cj_S)) {y st : Nat} (hy : y < 2) : ∀ (k j n n' v : Nat) (x1 : Int32) (s τ : cj_S), j + k = 3 → k < n → k < n' → cj_Tx len s τ → s 0 2 = nI (st + j) → τ 0 8 = nI (st + j) → st + j ≤ len → v < 10 ^ j → τ 6 y = nI v → ((j = 0 ∧ x1 = (-1) ∧ v = 0) ∨ (0 < j ∧ x1 = nI v)) → ∃ j' v' s' τ', j ≤ j' ∧ st + j' ≤ len ∧ v' < 1000 ∧ f_X7_readNumber_L4 n x1 (nI j) s = some (if j' = 0 then (-1) else nI v', s') ∧ f_X9_numbered_L12 K (nI y) (nI st) n' τ = K τ' ∧ (∀ r i, s' r i = if r = 0 ∧ i = 2 then nI (st + j') else s r i) ∧ (∀ r i, τ' r i = if r = 0 ∧ i = 8 then nI (st + j') else if r = 6 ∧ i = y then nI v' else τ r i) := by
  intro k
  induction k with
  | zero =>
    intro j n n' v x1 s τ hj hn hn' hT hs ht hl hv h6 hx
    obtain ⟨n, rfl⟩ : ∃ x, n = x + 1 := ⟨n - 1, by omega⟩
    obtain ⟨n', rfl⟩ : ∃ x, n' = x + 1 := ⟨n' - 1, by omega⟩
    have : j = 3 := by omega
    subst this
    have h60 := hT.1
    rcases hx with ⟨q, -, -⟩ | ⟨-, q⟩
    · omega
    refine ⟨3, v, s, τ, Nat.le_refl _, hl, hv, ?_, ?_, fun r i => ?_, fun r i => ?_⟩
    · rw [f_X7_readNumber_L4, if_pos (by decide), q, if_neg (by decide)]
    · obtain ⟨A1, A2⟩ := cj_isAt hT ht hl 48 57
      have A : f_X9_isAt τ 48 57 = some 0 ∨ f_X9_isAt τ 48 57 = some 1 := by
        by_cases c : st + 3 < len
        · rw [A1 c]
          rcases cj_in_c (s 1 (st + 3)) 48 57 with e | ⟨e, -, -⟩
          · rw [e]
            exact Or.inl rfl
          · rw [e]
            exact Or.inr rfl
        · exact Or.inl (A2 c)
      rw [f_X9_numbered_L12]
      rcases A with A | A
      · rw [A, cj_bd1, if_pos rfl]
      · rw [A, cj_bd1, if_neg cj_z1, ht, pk_sub (by omega), show st + 3 - st = 3 by omega, if_pos (by decide)]
    · by_cases c : r = 0 ∧ i = 2
      · rw [if_pos c, c.1, c.2, hs]
      · rw [if_neg c]
    · by_cases c : r = 0 ∧ i = 8
      · rw [if_pos c, c.1, c.2, ht]
      · rw [if_neg c]
        by_cases c2 : r = 6 ∧ i = y
        · rw [if_pos c2, c2.1, c2.2, h6]
        · rw [if_neg c2]
  | succ k ih =>
    intro j n n' v x1 s τ hj hn hn' hT hs ht hl hv h6 hx
    obtain ⟨n, rfl⟩ : ∃ x, n = x + 1 := ⟨n - 1, by omega⟩
    obtain ⟨n', rfl⟩ : ∃ x, n' = x + 1 := ⟨n' - 1, by omega⟩
    have h60 := hT.1
    have hv3 : v < 100 := Nat.lt_of_lt_of_le hv (by
      have : j = 0 ∨ j = 1 ∨ j = 2 := by omega
      rcases this with rfl | rfl | rfl <;> decide)
    obtain ⟨x, N, D⟩ := cj_stand hT hs ht hl (lo := 48) (hi := 57) (by decide) (by decide) (by decide)
    rw [f_X7_readNumber_L4, f_X9_numbered_L12, if_neg (show ¬ 3 ≤ nI j from nI_ge (a := j) (b := 3) (by omega) (by decide)), N, cj_bd1]
    rcases D with ⟨d1, d2, -⟩ | ⟨d1, d2, d3, c, c1, c2, -, rfl, c4⟩
    · rw [show f_X8_isWithin x 48 57 = some 0 from d1, show f_X9_isAt τ 48 57 = some 0 from d2, cj_bd1, cj_bd1, if_pos rfl, if_pos rfl]
      refine ⟨j, v, s, τ, Nat.le_refl _, hl, by omega, ?_, rfl, fun r i => ?_, fun r i => ?_⟩
      · rcases hx with ⟨q1, q2, -⟩ | ⟨q1, q2⟩
        · rw [q2, if_pos q1]
        · rw [q2, if_neg (by omega)]
      · by_cases c : r = 0 ∧ i = 2
        · rw [if_pos c, c.1, c.2, hs]
        · rw [if_neg c]
      · by_cases c : r = 0 ∧ i = 8
        · rw [if_pos c, c.1, c.2, ht]
        · rw [if_neg c]
          by_cases c2 : r = 6 ∧ i = y
          · rw [if_pos c2, c2.1, c2.2, h6]
          · rw [if_neg c2]
    · have mx : f_J9_max_7cf53 x1 0 = some (nI v) := by
        unfold f_J9_max_7cf53
        rcases hx with ⟨q1, q2, q3⟩ | ⟨q1, q2⟩
        · rw [q2, q3, if_pos (by decide)]
          rfl
        · rw [q2, if_neg (nI_pos (by omega))]
      have e48 : nI v * 10 + (nI c - 48) = nI (10 * v + (c - 48)) := by
        rw [show (48 : Int32) = nI 48 from rfl, pk_sub (by omega), show (10 : Int32) = nI 10 from rfl, pk_mul, nI_add, Nat.mul_comm v 10]
      have e48b : 10 * nI v + nI c - 48 = nI (10 * v + (c - 48)) := by
        rw [show (48 : Int32) = nI 48 from rfl, show (10 : Int32) = nI 10 from rfl, pk_mul, nI_add, pk_sub (by omega)]
        congr 1
        omega
      have hvb : 10 * v + (c - 48) < 10 ^ (j + 1) := by
        rw [Nat.pow_succ]
        omega
      obtain ⟨j', v', s', τ', r1, r2, r3, r4, r5, r6, r7⟩ := ih (j + 1) n n' (10 * v + (c - 48)) (nI (10 * v + (c - 48))) (cj_up2 s 0 2 (nI (st + (j + 1)))) (cj_up2 (cj_up2 τ 6 y (nI (10 * v + (c - 48)))) 0 8 (nI (st + (j + 1)))) (by omega) (by omega) (by omega) (hT.mv (by rw [cj_at2, if_neg (by omega)]) (by rw [cj_at2, if_neg (by omega), cj_at2, if_neg (by omega)]) (cj_o rfl) ((cj_o rfl).trans (cj_o rfl))) (by rw [cj_at2, if_pos ⟨rfl, rfl⟩]) (by rw [cj_at2, if_pos ⟨rfl, rfl⟩]) (by omega) hvb (by rw [cj_at2, if_neg (by omega), cj_at2, if_pos ⟨rfl, rfl⟩]) (Or.inr ⟨by omega, rfl⟩)
      refine ⟨j', v', s', τ', by omega, r2, r3, ?_, ?_, fun r i => ?_, fun r i => ?_⟩
      · rw [show f_X8_isWithin (nI c) 48 57 = some 1 from d1, cj_bd1, if_neg cj_z1, mx]
        simp only [cj_bd1]
        rw [e48, cj_lt1, hs, nI_1, cj_lt1, nI_1]
        exact r4
      · have nl : ¬ (3 : Int32) ≤ nI (st + j) - nI st := by
          rw [pk_sub (by omega), show st + j - st = j by omega]
          exact nI_ge (a := j) (b := 3) (by omega) (by decide)
        rw [show f_X9_isAt τ 48 57 = some 1 from d2, cj_bd1, if_neg cj_z1, ht, if_neg nl, cj_gdN hy (by decide), cj_gdN (show st + j < 60 by omega) (by decide), cj_gdN hy (by decide), cj_tn (by omega), cj_tn (by omega), h6, c4, e48b, cj_lt1]
        have z : cj_up2 τ 6 y (nI (10 * v + (c - 48))) 0 8 = nI (st + j) := by rw [cj_at2, if_neg (by omega), ht]
        rw [z, nI_1, cj_lt1]
        exact r5
      · rw [r6, cj_at2]
        by_cases c : r = 0 ∧ i = 2
        · rw [if_pos c, if_pos c]
        · rw [if_neg c, if_neg c, if_neg c]
      · rw [r7, cj_at2, cj_at2]
        by_cases c : r = 0 ∧ i = 8
        · rw [if_pos c, if_pos c]
        · rw [if_neg c, if_neg c, if_neg c]
          by_cases c2 : r = 6 ∧ i = y
          · rw [if_pos c2, if_pos c2]
          · rw [if_neg c2, if_neg c2, if_neg c2]
theorem cj_num {y : Nat} (hy : y < 2) (hT : cj_Tx len s τ) (hs : s 0 2 = nI a) (ht : τ 0 8 = nI a) (hl : a ≤ len) : ∃ a' v s' τ', a ≤ a' ∧ a' ≤ len ∧ v < 1000 ∧ f_X7_readNumber s = some (if a' = a then (-1) else nI v, s') ∧ f_X9_numbered τ (nI y) = some (if a' = a then 0 else 1, τ') ∧ (∀ r i, s' r i = if r = 0 ∧ i = 2 then nI a' else s r i) ∧ (∀ r i, τ' r i = if r = 0 ∧ i = 8 then nI a' else if r = 6 ∧ i = y then nI v else τ r i) := by
  have h60 := hT.1
  obtain ⟨j', v', s', τ', r1, r2, r3, r4, r5, r6, r7⟩ := cj_numL (len := len) (fun (s10 : cj_S) => if (s10 0 8) ≤ (τ 0 8) then some (0, s10) else some (1, s10)) hy (st := a) 3 0 cj_FU cj_FU 0 (-1) s (cj_up2 τ 6 y 0) (by omega) (by unfold cj_FU; omega) (by unfold cj_FU; omega) (hT.mv rfl (by rw [cj_at2, if_neg (by omega)]) rfl (cj_o rfl)) hs (by rw [cj_at2, if_neg (by omega), ht]; rfl) (by omega) (by decide) (by rw [cj_at2, if_pos ⟨rfl, rfl⟩]; rfl) (Or.inl ⟨rfl, rfl, rfl⟩)
  have r4 : f_X7_readNumber_L4 cj_FU (-1) 0 s = _ := r4
  have t8 : τ' 0 8 = nI (a + j') := by rw [r7, if_pos ⟨rfl, rfl⟩]
  refine ⟨a + j', v', s', τ', by omega, r2, r3, ?_, ?_, r6, fun r i => ?_⟩
  · unfold f_X7_readNumber
    rw [r4]
    by_cases c : j' = 0
    · rw [if_pos c, if_pos (by omega)]
    · rw [if_neg c, if_neg (by omega)]
  · unfold f_X9_numbered
    have z : cj_up2 τ 6 y 0 0 8 = nI a := by rw [cj_at2, if_neg (by omega), ht]
    rw [cj_gdN hy (by decide), cj_tn (by omega), cj_lt1, ht]
    rw [ht] at r5
    rw [r5, t8]
    by_cases c : j' = 0
    · rw [if_pos (nI_le (by omega) (by omega)), if_pos (by omega)]
    · rw [if_neg (nI_ge (by omega) (by omega)), if_neg (by omega)]
  · rw [r7, cj_at2]
    by_cases c : r = 0 ∧ i = 8
    · rw [if_pos c, if_pos c]
    · rw [if_neg c, if_neg c]
      by_cases c2 : r = 6 ∧ i = y
      · rw [if_pos c2, if_pos c2]
      · rw [if_neg c2, if_neg c2, if_neg c2]
theorem cj_sgn (hT : cj_Tx len s τ) (hs : s 0 2 = nI a) (ht : τ 0 8 = nI a) (hl : a ≤ len) {q : Nat} (hq : 33 ≤ q) (hq2 : q < 2147483648) : ∃ x, f_X7_next s = some x ∧ ((¬ x = nI q ∧ f_X9_sign τ (nI q) = some (0, τ)) ∨ (x = nI q ∧ a < len ∧ f_X9_sign τ (nI q) = some (1, cj_up2 τ 0 8 (nI (a + 1))))) := by
  obtain ⟨x, N, D⟩ := cj_stand hT hs ht hl (lo := q) (hi := q) hq (Nat.le_refl _) hq2
  refine ⟨x, N, ?_⟩
  unfold f_X9_sign
  rcases D with ⟨d1, d2, d3⟩ | ⟨d1, d2, d3, c, c1, c2, -, c3, -⟩
  · refine Or.inl ⟨d3 q (Nat.le_refl _) (Nat.le_refl _) hq2, ?_⟩
    have e : cj_up2 τ 0 8 (τ 0 8 + 0) = τ := by
      funext r i
      rw [cj_at2]
      by_cases c : r = 0 ∧ i = 8
      · rw [if_pos c, c.1, c.2, ht, show (0 : Int32) = nI 0 from rfl, nI_add, Nat.add_zero]
      · rw [if_neg c]
    rw [d2, cj_bd1, if_pos rfl, cj_lt1, cj_gpT (Or.inl rfl), e]
  · have : c = q := by omega
    subst this
    rw [d2, cj_bd1, if_neg cj_z1, cj_lt1, cj_gpT (Or.inr rfl), ht, nI_1]
    exact Or.inr ⟨c3, d3, rfl⟩
end CJT2
