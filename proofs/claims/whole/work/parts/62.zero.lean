/-! the beginning, and all calls but one -/
def cj_zB : Bool := (List.range 21).all fun k => (List.range 72).all fun j => !(decide (cj_dm k j)) || decide (k = 19) || decide (k = 6) || decide (k = 8) || decide (cj_mu0 5 k j = cj_nu0 1 (cj_ix k j))
theorem cj_zb : cj_zB = true := by decide +kernel
theorem cj_z6 : ((List.range 6).all fun j => decide (cj_mu0 5 6 j = (-1))) = true := by decide +kernel
theorem cj_z8 : ((List.range 72).all fun j => decide (cj_mu0 5 8 j = (-1))) = true := by decide +kernel
theorem cj_zm {i : Nat} (h5 : i ≠ 5) (h9 : i ≠ 9) (h10 : i ≠ 10) : cj_nu0 1 i = 0 := by
  show upd (upd (upd (fun _ => 0) 5 (-1)) 9 40) 10 10 i = 0
  rw [pk_un h10, pk_un h9, pk_un h5]
theorem cj_zero : cj_RR 0 cj_mu0 cj_nu0 := by
  refine ⟨⟨0, by decide, rfl, fun k j hd h19 h6 h8 => ?_, fun j _ hj => ?_, fun j _ hj => ?_, fun q hq => Or.inr (cj_zm (by omega) (by omega) (by omega)), cj_WFi.mpr ⟨⟨0, rfl, by decide, fun q hq => absurd hq (Nat.not_lt_zero q), fun q _ hq => cj_zm (by omega) (by omega) (by omega)⟩, ⟨0, 0, 0, 0, rfl, by decide, rfl, by decide, rfl, rfl, by decide, by decide, ⟨fun _ => 0, fun k hk => absurd hk (Nat.not_lt_zero k)⟩, fun k hk => absurd hk (Nat.not_lt_zero k)⟩, ⟨0, rfl, by decide⟩, Or.inl rfl, ⟨0, rfl, by decide⟩, ⟨40, rfl, by decide, by decide⟩, ⟨10, rfl, by decide⟩, fun p hp => ⟨⟨0, by decide, cj_zm (by omega) (by omega) (by omega)⟩, ⟨0, by decide, cj_zm (by omega) (by omega) (by omega)⟩⟩, fun p hp => absurd hp (Nat.not_lt_zero p)⟩⟩, ⟨0, 0, by decide, by decide, rfl, rfl, rfl, fun i hi => absurd hi (Nat.not_lt_zero i)⟩, ⟨0, by decide, rfl, rfl, fun i hi => absurd hi (Nat.not_lt_zero i)⟩, rfl⟩
  · have hk := cj_dm_lt hd
    have h1 := List.all_eq_true.mp (List.all_eq_true.mp cj_zb k (List.mem_range.mpr hk.1)) j (List.mem_range.mpr hk.2)
    simp only [Bool.or_eq_true, decide_eq_true_eq, Bool.not_eq_true', decide_eq_false_iff_not] at h1
    rcases h1 with (((h1 | h1) | h1) | h1) | h1
    · exact absurd hd h1
    · exact absurd h1 h19
    · exact absurd (h6 h1) (Nat.not_lt_zero j)
    · exact absurd (h8 h1) (by omega)
    · exact h1
  · exact of_decide_eq_true (List.all_eq_true.mp cj_z6 j (List.mem_range.mpr hj))
  · exact of_decide_eq_true (List.all_eq_true.mp cj_z8 j (List.mem_range.mpr hj))
theorem cj_almost (h20 : ∀ n μ τ, n < 512 → cj_RR n μ τ → cj_O20 (cj_RR (n + 1)) μ τ) : ∀ n μ τ, n < 512 → cj_RR n μ τ → cj_RR (n + 1) μ τ ∧ cj_Ow (cj_RR (n + 1)) μ τ :=
  fun n μ τ hn h => ⟨h.up, cj_h0 h, cj_h1 h, cj_h2 h, cj_h3 h, cj_h4 hn h, cj_h5 h, cj_h6 hn h, cj_h7 h, cj_h8 hn h, cj_h9 h, cj_h10 h, cj_h11 h, cj_h12 h, cj_h13 h, cj_h14 h, cj_h15 h, cj_h16 h, cj_h17 h, cj_h18 h, cj_h19 hn h, h20 n μ τ hn h, cj_h21 h, cj_h22 h, cj_h23 h, cj_h24 h, cj_h25 hn h, cj_h26 hn h⟩
