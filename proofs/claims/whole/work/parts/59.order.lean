/-! one order, read by both -/
def cj_kB (c : Nat) : Bool := (decide (f_X7_isOneNumber (nI c) = some 1) && decide (f_X9_numbersOf (nI c) = some 1) && decide (f_X7_isTwoNumbers (nI c) = some 0) && (decide (c = 108) || decide (c = 98) || decide (c = 118) || decide (c = 109))) || (decide (f_X7_isOneNumber (nI c) = some 0) && decide (f_X9_numbersOf (nI c) = some 2) && decide (f_X7_isTwoNumbers (nI c) = some 1) && (decide (c = 100) || decide (c = 115))) || (decide (f_X7_isOneNumber (nI c) = some 0) && decide (f_X9_numbersOf (nI c) = some 0) && decide (f_X7_isTwoNumbers (nI c) = some 0))
theorem cj_kb : ((List.range 127).all cj_kB) = true := by decide +kernel
theorem cj_kind {c : Nat} (h : c ≤ 126) : (f_X7_isOneNumber (nI c) = some 1 ∧ f_X9_numbersOf (nI c) = some 1 ∧ f_X7_isTwoNumbers (nI c) = some 0 ∧ (c = 108 ∨ c = 98 ∨ c = 118 ∨ c = 109)) ∨ (f_X7_isOneNumber (nI c) = some 0 ∧ f_X9_numbersOf (nI c) = some 2 ∧ f_X7_isTwoNumbers (nI c) = some 1 ∧ (c = 100 ∨ c = 115)) ∨ (f_X7_isOneNumber (nI c) = some 0 ∧ f_X9_numbersOf (nI c) = some 0 ∧ f_X7_isTwoNumbers (nI c) = some 0) := by
  have h1 := List.all_eq_true.mp cj_kb c (List.mem_range.mpr (by omega))
  unfold cj_kB at h1
  simp only [Bool.or_eq_true, Bool.and_eq_true, decide_eq_true_eq] at h1
  rcases h1 with (⟨⟨⟨a, b⟩, c⟩, d⟩ | ⟨⟨⟨a, b⟩, c⟩, d⟩) | ⟨⟨a, b⟩, c⟩
  · exact Or.inl ⟨a, b, c, by omega⟩
  · exact Or.inr (Or.inl ⟨a, b, c, d⟩)
  · exact Or.inr (Or.inr ⟨a, b, c⟩)
def cj_K16 (s17 : cj_S) : Option (Int32 × cj_S) := cj_bd (f_X7_next s17) (fun (x19 : Int32) => if x19 = 59 then cj_lt (cj_up2 s17 0 2 ((s17 0 2) + 1)) (fun (s20 : cj_S) => some (1, s20)) else some (0, s17))
def cj_K12 (x13 : Int32) (s14 : cj_S) : Option (Int32 × cj_S) := if x13 = 0 then some (0, s14) else cj_bp (f_X9_sign s14 59) (fun (x16 : Int32) (s17 : cj_S) => if x16 = 0 then some (0, s17) else some (1, s17))
/-- what reading leaves: an answer, a place, all else as it was -/
def cj_Rd (len a a0 : Nat) (s τ : cj_S) (A B : Option (Int32 × cj_S)) (P : cj_S → cj_S → Prop) : Prop := ∃ ok a' s' τ', A = some (ok, s') ∧ B = some (ok, τ') ∧ (ok = 0 ∨ ok = 1) ∧ s' 0 2 = nI a' ∧ τ' 0 8 = nI a' ∧ a ≤ a' ∧ a' ≤ len ∧ (∀ r i, ¬ (r = 0 ∧ 2 ≤ i ∧ i ≤ 5) → s' r i = s r i) ∧ (∀ r i, ¬ (r = 0 ∧ (i = 8 ∨ i = 13)) → r ≠ 6 → τ' r i = τ r i) ∧ (ok = 1 → a0 ≤ a' ∧ P s' τ')
section CJT3
variable {len a : Nat} {s τ : cj_S}
theorem cj_semi (hT : cj_Tx len s τ) (hs : s 0 2 = nI a) (ht : τ 0 8 = nI a) (hl : a ≤ len) : ∃ x ok, f_X7_next s = some x ∧ ((¬ x = 59 ∧ ok = (0 : Int32) ∧ cj_K16 s = some (0, s) ∧ cj_K12 1 τ = some (0, τ)) ∨ (x = 59 ∧ a < len ∧ cj_K16 s = some (1, cj_up2 s 0 2 (nI (a + 1))) ∧ cj_K12 1 τ = some (1, cj_up2 τ 0 8 (nI (a + 1))))) := by
  obtain ⟨x, N, D⟩ := cj_sgn hT hs ht hl (q := 59) (by decide) (by decide)
  refine ⟨x, 0, N, ?_⟩
  unfold cj_K16 cj_K12
  rw [N, cj_bd1, if_neg cj_z1]
  rcases D with ⟨d1, d2⟩ | ⟨d1, d2, d3⟩
  · rw [if_neg (show ¬ x = 59 from d1), show f_X9_sign τ 59 = _ from d2, cj_bp1, if_pos rfl]
    exact Or.inl ⟨d1, rfl, rfl, rfl⟩
  · rw [if_pos (show x = 59 from d1), show f_X9_sign τ 59 = _ from d3, cj_bp1, if_neg cj_z1, cj_lt1, hs, nI_1]
    exact Or.inr ⟨d1, d2, rfl, rfl⟩
theorem cj_semi2 (hT : cj_Tx len s τ) (hs : s 0 2 = nI a) (ht : τ 0 8 = nI a) (hl : a ≤ len) {s0 τ0 : cj_S} {b : Nat} (hb : b ≤ a) {P : cj_S → cj_S → Prop} (e1 : ∀ r i, ¬ (r = 0 ∧ 2 ≤ i ∧ i ≤ 5) → s r i = s0 r i) (e2 : ∀ r i, ¬ (r = 0 ∧ (i = 8 ∨ i = 13)) → r ≠ 6 → τ r i = τ0 r i) (hP : P (cj_up2 s 0 2 (nI (a + 1))) (cj_up2 τ 0 8 (nI (a + 1)))) : cj_Rd len b (a + 1) s0 τ0 (cj_K16 s) (cj_K12 1 τ) P := by
  obtain ⟨x, ok, -, D⟩ := cj_semi hT hs ht hl
  rcases D with ⟨-, -, d1, d2⟩ | ⟨-, d0, d1, d2⟩
  · exact ⟨0, a, s, τ, d1, d2, Or.inl rfl, hs, ht, hb, hl, e1, e2, fun q => absurd q (by decide)⟩
  · refine ⟨1, a + 1, _, _, d1, d2, Or.inr rfl, by rw [cj_at2, if_pos ⟨rfl, rfl⟩], by rw [cj_at2, if_pos ⟨rfl, rfl⟩], by omega, by omega, fun r i h => ?_, fun r i h h6 => ?_, fun _ => ⟨Nat.le_refl _, hP⟩⟩
    · rw [cj_at2, if_neg (by omega)]
      exact e1 r i h
    · rw [cj_at2, if_neg (by omega)]
      exact e2 r i h h6
def cj_PO (s' τ' : cj_S) : Prop := ∃ c, (c = 108 ∨ c = 98 ∨ c = 118 ∨ c = 109 ∨ c = 100 ∨ c = 115) ∧ s' 0 3 = nI c ∧ τ' 0 13 = nI c ∧ s' 0 4 = τ' 6 0 ∧ ((c = 100 ∨ c = 115) → s' 0 5 = τ' 6 1)
theorem cj_read (hT : cj_Tx len s τ) (ht : τ 0 8 = nI a) (hl : a < len) : cj_Rd len a (a + 3) s τ (f_X7_readOrder s (nI a)) (f_X9_reads τ) cj_PO := by
  have h60 := hT.1
  obtain ⟨c, c1, c2, c3, c4⟩ := hT.2.2.2 a hl
  have hT1 : cj_Tx len (cj_up2 s 0 2 (nI a)) τ := hT.mv (by rw [cj_at2, if_neg (by omega)]) rfl (cj_o rfl) rfl
  have N1 := cj_next hT1 (a := a) (by rw [cj_at2, if_pos ⟨rfl, rfl⟩]) (by omega)
  have z1 : cj_up2 s 0 2 (nI a) 1 a = nI c := by rw [cj_at2, if_neg (by omega), c3]
  rw [if_pos hl, z1] at N1
  have A := (cj_isAt hT1 ht (by omega) 33 126).1 hl
  rw [z1] at A
  unfold f_X7_readOrder f_X9_reads
  have y4 : cj_up2 (cj_up2 s 0 2 (nI a)) 0 3 (nI c) 0 3 = nI c := by rw [cj_at2, if_pos ⟨rfl, rfl⟩]
  have y5 : ∀ v, cj_up2 τ 0 13 v 0 13 = v := fun v => by rw [cj_at2, if_pos ⟨rfl, rfl⟩]
  have g60 : ∀ (K : Option (Int32 × cj_S)), cj_gd (τ 0 8) 60 K = K := fun K => by rw [ht, cj_gdN (by omega) (by decide)]
  rw [cj_lt1, N1, cj_bd1, cj_gpT ⟨nI_pos' (show c < 2147483648 by omega), nI_le (b := 65535) (show c ≤ 65535 by omega) (by decide)⟩, cj_lt1, y4]
  have fin0 : ∀ v, cj_Rd len a (a + 3) s τ (some (0, cj_up2 (cj_up2 s 0 2 (nI a)) 0 3 (nI c))) (some (0, cj_up2 τ 0 13 v)) cj_PO := by
    intro v
    refine ⟨0, a, _, _, rfl, rfl, Or.inl rfl, by rw [cj_at2, if_neg (by omega), cj_at2, if_pos ⟨rfl, rfl⟩], by rw [cj_at2, if_neg (by omega), ht], Nat.le_refl _, by omega, fun r i h => by rw [cj_at2, if_neg (by omega), cj_at2, if_neg (by omega)], fun r i h h6 => by rw [cj_at2, if_neg (by omega)], fun q => absurd q (by decide)⟩
  have g5 : τ 5 ((τ 0 8).toNatClampNeg) = nI c := by rw [ht, cj_tn (by omega), c4]
  by_cases q33 : c = 32
  · subst q33
    have A : f_X9_isAt τ 33 126 = some 0 := A
    simp only [A, cj_bd1, cj_lt1, if_true, y5]
    exact fin0 0
  have w : f_X8_isWithin (nI c) 33 126 = some 1 := by
    unfold f_X8_isWithin
    rw [if_neg (show ¬ nI c < 33 from nI_nlt (b := 33) (by omega) (by omega)), if_neg (show ¬ 126 < nI c from nI_nlt (a := 126) c2 (by omega))]
  rw [w, cj_bd1, if_neg cj_z1] at A
  simp only [A, cj_bd1, cj_lt1, if_neg cj_z1, g60, g5, y5]
  rcases cj_kind c2 with ⟨k1, k2, k3, k4⟩ | ⟨k1, k2, k3, k4⟩ | ⟨k1, k2, k3⟩
  rotate_left 2
  · rw [k1, k2, k3]
    exact fin0 (nI c)
  all_goals
    have s8T : cj_Tx len (cj_up2 (cj_up2 (cj_up2 s 0 2 (nI a)) 0 3 (nI c)) 0 2 (nI (a + 1))) (cj_up2 (cj_up2 τ 0 13 (nI c)) 0 8 (nI (a + 1))) := hT.mv (by rw [cj_at2, if_neg (by omega), cj_at2, if_neg (by omega), cj_at2, if_neg (by omega)]) (by rw [cj_at2, if_neg (by omega), cj_at2, if_neg (by omega)]) ((cj_o rfl).trans ((cj_o rfl).trans (cj_o rfl))) ((cj_o rfl).trans (cj_o rfl))
    obtain ⟨b, v, s11, τ11, n1, n2, n3, n4, n5, n6, n7⟩ := cj_num (y := 0) (a := a + 1) (by decide) s8T (by rw [cj_at2, if_pos ⟨rfl, rfl⟩]) (by rw [cj_at2, if_pos ⟨rfl, rfl⟩]) (by omega)
    have p2 : cj_up2 (cj_up2 s 0 2 (nI a)) 0 3 (nI c) 0 2 = nI a := by rw [cj_at2, if_neg (by omega), cj_at2, if_pos ⟨rfl, rfl⟩]
    have p8 : cj_up2 τ 0 13 (nI c) 0 8 = nI a := by rw [cj_at2, if_neg (by omega), ht]
    have n5 : f_X9_numbered (cj_up2 (cj_up2 τ 0 13 (nI c)) 0 8 (nI (a + 1))) 0 = _ := n5
    simp only [k1, k2, cj_bd1, cj_lt1, p2, p8, nI_1, n4, n5, cj_bp1, if_neg cj_z1]
    have s11e : ∀ r i, ¬ (r = 0 ∧ 2 ≤ i ∧ i ≤ 5) → s11 r i = s r i := fun r i h => by
      rw [n6, if_neg (by omega), cj_at2, if_neg (by omega), cj_at2, if_neg (by omega), cj_at2, if_neg (by omega)]
    have s13 : ∀ (x : Int32) r i, cj_up2 (cj_up2 s11 0 4 x) 0 5 (-1) r i = if r = 0 ∧ i = 5 then (-1) else if r = 0 ∧ i = 4 then x else s11 r i := fun x r i => by rw [cj_at2, cj_at2]
    have s13e : ∀ (x : Int32) r i, ¬ (r = 0 ∧ 2 ≤ i ∧ i ≤ 5) → cj_up2 (cj_up2 s11 0 4 x) 0 5 (-1) r i = s r i := fun x r i h => by
      rw [s13, if_neg (by omega), if_neg (by omega)]
      exact s11e r i h
    have τ11e : ∀ r i, ¬ (r = 0 ∧ (i = 8 ∨ i = 13)) → r ≠ 6 → τ11 r i = τ r i := fun r i h h6 => by
      rw [n7, if_neg (by omega), if_neg (by omega), cj_at2, if_neg (by omega), cj_at2, if_neg (by omega)]
    have s11a : s11 0 2 = nI b := by rw [n6, if_pos ⟨rfl, rfl⟩]
    have τ11a : τ11 0 8 = nI b := by rw [n7, if_pos ⟨rfl, rfl⟩]
    have s113 : s11 0 3 = nI c := by rw [n6, if_neg (by omega), cj_at2, if_neg (by omega), cj_at2, if_pos ⟨rfl, rfl⟩]
    have τ1113 : τ11 0 13 = nI c := by rw [n7, if_neg (by omega), if_neg (by omega), cj_at2, if_neg (by omega), cj_at2, if_pos ⟨rfl, rfl⟩]
    have τ116 : τ11 6 0 = nI v := by rw [n7, if_neg (by omega), if_pos ⟨rfl, rfl⟩]
    have s134 : ∀ x, cj_up2 (cj_up2 s11 0 4 x) 0 5 (-1) 0 4 = x := fun x => by rw [s13, if_neg (by omega), if_pos ⟨rfl, rfl⟩]
    have s133 : ∀ x, cj_up2 (cj_up2 s11 0 4 x) 0 5 (-1) 0 3 = nI c := fun x => by rw [s13, if_neg (by omega), if_neg (by omega), s113]
    have s132 : ∀ x, cj_up2 (cj_up2 s11 0 4 x) 0 5 (-1) 0 2 = nI b := fun x => by rw [s13, if_neg (by omega), if_neg (by omega), s11a]
    simp only [s134, s133, k3, cj_bd1]
    by_cases hb : b = a + 1
    · simp only [if_pos hb]
      first
        | exact ⟨0, b, _, _, rfl, rfl, Or.inl rfl, s132 _, τ11a, by omega, n2, s13e _, τ11e, fun q => absurd q (by decide)⟩
        | exact ⟨0, b, _, _, rfl, rfl, Or.inl rfl, s132 _, τ11a, by omega, n2, s13e _, τ11e, fun q => absurd q (by decide)⟩
    simp only [if_neg hb, if_neg (cj_nm1 (show v < 2147483648 by omega)), if_neg cj_z1]
    have T13 : cj_Tx len (cj_up2 (cj_up2 s11 0 4 (nI v)) 0 5 (-1)) τ11 := hT.mv (s13e _ 0 1 (by omega)) (τ11e 0 7 (by omega) (by omega)) (funext fun i => s13e _ 1 i (by omega)) (funext fun i => τ11e 5 i (by omega) (by omega))
    skip
  · have S := cj_semi2 (P := cj_PO) T13 (s132 _) τ11a n2 (b := a) (by omega) (s13e _) τ11e ⟨c, by omega, by rw [cj_at2, if_neg (by omega), s133], by rw [cj_at2, if_neg (by omega), τ1113], by rw [cj_at2, if_neg (by omega), s134, cj_at2, if_neg (by omega), τ116], fun q => by omega⟩
    obtain ⟨ok, a', s', τ', q1, q2, q3, q4, q5, q6, q7, q8, q9, q10⟩ := S
    exact ⟨ok, a', s', τ', q1, q2, q3, q4, q5, q6, q7, q8, q9, fun h => ⟨by have := (q10 h).1; omega, (q10 h).2⟩⟩
  · obtain ⟨x, N, D⟩ := cj_sgn T13 (s132 _) τ11a n2 (q := 44) (by decide) (by decide)
    rw [N, cj_bd1]
    rcases D with ⟨d1, d2⟩ | ⟨d1, d2, d3⟩
    · rw [if_neg (show ¬ x = 44 from d1), show f_X9_sign τ11 44 = _ from d2]
      exact ⟨0, b, _, _, rfl, rfl, Or.inl rfl, s132 _, τ11a, by omega, n2, s13e _, τ11e, fun q => absurd q (by decide)⟩
    · have T20 : cj_Tx len (cj_up2 (cj_up2 (cj_up2 s11 0 4 (nI v)) 0 5 (-1)) 0 2 (nI (b + 1))) (cj_up2 τ11 0 8 (nI (b + 1))) := T13.mv (by rw [cj_at2, if_neg (by omega)]) (by rw [cj_at2, if_neg (by omega)]) (cj_o rfl) (cj_o rfl)
      obtain ⟨b2, v2, s26, τ28, m1, m2, m3, m4, m5, m6, m7⟩ := cj_num (y := 1) (a := b + 1) (by decide) T20 (by rw [cj_at2, if_pos ⟨rfl, rfl⟩]) (by rw [cj_at2, if_pos ⟨rfl, rfl⟩]) (by omega)
      have m5 : f_X9_numbered (cj_up2 τ11 0 8 (nI (b + 1))) 1 = _ := m5
      rw [if_pos (show x = 44 from d1), show f_X9_sign τ11 44 = _ from d3, cj_bp1, if_neg cj_z1, s132, nI_1]
      have s27e : ∀ (x : Int32) r i, ¬ (r = 0 ∧ 2 ≤ i ∧ i ≤ 5) → cj_up2 s26 0 5 x r i = s r i := fun x r i h => by
        rw [cj_at2, if_neg (by omega), m6, if_neg (by omega), cj_at2, if_neg (by omega)]
        exact s13e _ r i h
      have τ28e : ∀ r i, ¬ (r = 0 ∧ (i = 8 ∨ i = 13)) → r ≠ 6 → τ28 r i = τ r i := fun r i h h6 => by
        rw [m7, if_neg (by omega), if_neg (by omega), cj_at2, if_neg (by omega)]
        exact τ11e r i h h6
      have s272 : ∀ x, cj_up2 s26 0 5 x 0 2 = nI b2 := fun x => by rw [cj_at2, if_neg (by omega), m6, if_pos ⟨rfl, rfl⟩]
      have s275 : ∀ x, cj_up2 s26 0 5 x 0 5 = x := fun x => by rw [cj_at2, if_pos ⟨rfl, rfl⟩]
      have τ288 : τ28 0 8 = nI b2 := by rw [m7, if_pos ⟨rfl, rfl⟩]
      have z2 : ¬ (2 : Int32) = 0 := by decide
      simp only [if_true, if_neg z2, m4, m5, cj_bp1, s275]
      by_cases hb2 : b2 = b + 1
      · simp only [if_pos hb2]
        exact ⟨0, b2, _, _, rfl, rfl, Or.inl rfl, s272 _, τ288, by omega, m2, s27e _, τ28e, fun q => absurd q (by decide)⟩
      simp only [if_neg hb2, if_neg (cj_nm1 (show v2 < 2147483648 by omega)), if_neg cj_z1]
      have T27 : cj_Tx len (cj_up2 s26 0 5 (nI v2)) τ28 := hT.mv (s27e _ 0 1 (by omega)) (τ28e 0 7 (by omega) (by omega)) (funext fun i => s27e _ 1 i (by omega)) (funext fun i => τ28e 5 i (by omega) (by omega))
      have S := cj_semi2 (P := cj_PO) T27 (s272 _) τ288 m2 (b := a) (by omega) (s27e _) τ28e ⟨c, by omega, by rw [cj_at2, if_neg (by omega), cj_at2, if_neg (by omega), m6, if_neg (by omega), cj_at2, if_neg (by omega), s133], by rw [cj_at2, if_neg (by omega), m7, if_neg (by omega), if_neg (by omega), cj_at2, if_neg (by omega), τ1113], by rw [cj_at2, if_neg (by omega), cj_at2, if_neg (by omega), m6, if_neg (by omega), cj_at2, if_neg (by omega), s134, cj_at2, if_neg (by omega), m7, if_neg (by omega), if_neg (by omega), cj_at2, if_neg (by omega), τ116], fun q => by rw [cj_at2, if_neg (by omega), s275, cj_at2, if_neg (by omega), m7, if_neg (by omega), if_pos ⟨rfl, rfl⟩]⟩
      obtain ⟨ok, a', s', τ', q1, q2, q3, q4, q5, q6, q7, q8, q9, q10⟩ := S
      exact ⟨ok, a', s', τ', q1, q2, q3, q4, q5, q6, q7, q8, q9, fun h => ⟨by have := (q10 h).1; omega, (q10 h).2⟩⟩
end CJT3
