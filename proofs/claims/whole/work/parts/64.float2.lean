/-! quotients, and steps by two -/
theorem cj_fl_nb (n : Nat) {d : Nat} (hd : 0 < d) : n / d ≤ FP.Core.nearest n d ∧ FP.Core.nearest n d ≤ n / d + 1 := by
  unfold FP.Core.nearest
  by_cases a : 2 * (n % d) < d
  · rw [if_pos a]
    omega
  · rw [if_neg a]
    by_cases b : d < 2 * (n % d)
    · rw [if_pos b]
      omega
    · rw [if_neg b]
      have : n / d % 2 < 2 := Nat.mod_lt _ (by decide)
      omega
theorem cj_fl_l0 {c : Nat} (h1 : 8388608 ≤ c) (h2 : c < 16777216) : c.log2 = 23 := by
  have := cj_fl_log h1 h2 0
  rw [Nat.pow_zero, Nat.mul_one] at this
  exact this
theorem cj_fl_lead {c d : Nat} (h1 : 8388608 ≤ c) (h2 : c < 16777216) (g1 : 8388608 ≤ d) (g2 : d < 16777216) : FP.Core.leading c d = if d ≤ c then 0 else -1 := by
  unfold FP.Core.leading
  rw [cj_fl_l0 h1 h2, cj_fl_l0 g1 g2]
  show (if d * 2 ^ 0 ≤ c * 2 ^ 0 then (0 : Int) else 0 - 1) = _
  by_cases k : d ≤ c
  · rw [if_pos k]
    exact if_pos (by rw [Nat.pow_zero, Nat.mul_one, Nat.mul_one]; exact k)
  · rw [if_neg k]
    exact (if_neg (by rw [Nat.pow_zero, Nat.mul_one, Nat.mul_one]; exact k)).trans rfl
theorem cj_fl_set2 {c : Nat} {q : Int} (s : Bool) (h1 : 8388608 ≤ c) (h2 : c ≤ 16777216) (hq : q ≤ 103) : ∃ c' q', FP.Core.settle FP.Core.b32 s c q = .fin s c' q' ∧ 8388608 ≤ c' ∧ c' < 16777216 ∧ q ≤ q' ∧ q' ≤ q + 1 := by
  by_cases c0 : c < 16777216
  · exact ⟨c, q, cj_fl_settle s c0 (by omega), h1, c0, by omega, by omega⟩
  · refine ⟨8388608, q + 1, ?_, by omega, by omega, by omega, by omega⟩
    unfold FP.Core.settle FP.Core.bound
    rw [if_neg (show ¬ c < 2 ^ FP.Core.b32.p from c0), cj_fl_qmax, if_pos (by omega), cj_fl_tails]
theorem cj_fl_quo (s : Bool) {c d : Nat} (h1 : 8388608 ≤ c) (h2 : c < 16777216) (g1 : 8388608 ≤ d) (g2 : d < 16777216) {e : Int} (l : -100 ≤ e) (u : e ≤ 100) : ∃ c' q', FP.Core.roundRatio FP.Core.b32 s c d e = .fin s c' q' ∧ 8388608 ≤ c' ∧ c' < 16777216 ∧ e - 24 ≤ q' ∧ q' ≤ e - 22 := by
  unfold FP.Core.roundRatio FP.Core.roundAt FP.Core.unitsNum FP.Core.unitsDen FP.Core.quantum
  rw [if_neg (by omega), cj_fl_lead h1 h2 g1 g2, cj_fl_qmin, show ((FP.Core.b32.p : Nat) : Int) = 24 from rfl]
  by_cases k : d ≤ c
  · rw [if_pos k, show max (-149) (0 + e - (24 - 1)) = e - 23 by omega, show (e - (e - 23)).toNat = 23 by omega, show ((e - 23) - e).toNat = 0 by omega, Nat.pow_zero, Nat.mul_one]
    have b1 : 8388608 ≤ c * 2 ^ 23 / d := (Nat.le_div_iff_mul_le (by omega)).mpr (by omega)
    have b2 : c * 2 ^ 23 / d < 16777216 := (Nat.div_lt_iff_lt_mul (by omega)).mpr (by omega)
    obtain ⟨n1, n2⟩ := cj_fl_nb (c * 2 ^ 23) (d := d) (by omega)
    obtain ⟨c', q', r1, r2, r3, r4, r5⟩ := cj_fl_set2 (q := e - 23) s (Nat.le_trans b1 n1) (by omega) (by omega)
    exact ⟨c', q', r1, r2, r3, by omega, by omega⟩
  · rw [if_neg k, show max (-149) (-1 + e - (24 - 1)) = e - 24 by omega, show (e - (e - 24)).toNat = 24 by omega, show ((e - 24) - e).toNat = 0 by omega, Nat.pow_zero, Nat.mul_one]
    have b1 : 8388608 ≤ c * 2 ^ 24 / d := (Nat.le_div_iff_mul_le (by omega)).mpr (by omega)
    have b2 : c * 2 ^ 24 / d < 16777216 := (Nat.div_lt_iff_lt_mul (by omega)).mpr (by omega)
    obtain ⟨n1, n2⟩ := cj_fl_nb (c * 2 ^ 24) (d := d) (by omega)
    obtain ⟨c', q', r1, r2, r3, r4, r5⟩ := cj_fl_set2 (q := e - 24) s (Nat.le_trans b1 n1) (by omega) (by omega)
    exact ⟨c', q', r1, r2, r3, by omega, by omega⟩
theorem cj_fl_half (s : Bool) {c : Nat} (h1 : 8388608 ≤ c) (h2 : c < 16777216) {e : Int} (l : -126 ≤ e) (u : e ≤ 127) : FP.Core.roundRatio FP.Core.b32 s c 8388608 e = .fin s c (e - 23) := by
  unfold FP.Core.roundRatio FP.Core.roundAt FP.Core.unitsNum FP.Core.unitsDen FP.Core.quantum
  rw [if_neg (by omega), cj_fl_lead h1 h2 (by decide) (by decide), cj_fl_qmin, show ((FP.Core.b32.p : Nat) : Int) = 24 from rfl, if_pos h1, show max (-149) (0 + e - (24 - 1)) = e - 23 by omega, show (e - (e - 23)).toNat = 23 by omega, show ((e - 23) - e).toNat = 0 by omega, Nat.pow_zero, Nat.mul_one, show (2 : Nat) ^ 23 = 8388608 from rfl, cj_fl_near (by decide), cj_fl_settle s h2 (by omega)]
def cj_f (E t : Nat) : UInt32 := UInt32.ofNat (E * 8388608 + t)
theorem cj_f_n {E t : Nat} (h : E ≤ 254) (ht : t < 8388608) : (cj_f E t).toNat = E * 8388608 + t := by
  unfold cj_f
  rw [UInt32.toNat_ofNat']
  exact Nat.mod_eq_of_lt (by omega)
theorem cj_f_d {E t : Nat} (h1 : 1 ≤ E) (h : E ≤ 254) (ht : t < 8388608) : FP.Core.decode FP.Core.b32 (cj_f E t).toNat = .fin false (8388608 + t) ((E : Int) - 150) := by
  rw [cj_f_n h ht, cj_fl_dec h1 h ht]
theorem cj_c2 : FP.Core.decode FP.Core.b32 FP.fconst2.toNat = .fin false 8388608 (-22) := by decide +kernel
theorem cj_c1 : FP.Core.decode FP.Core.b32 FP.fconst1.toNat = .fin false 8388608 (-23) := by decide +kernel
theorem cj_c0' : FP.Core.decode FP.Core.b32 FP.fconst0.toNat = .fin false 0 (-149) := by decide +kernel
theorem cj_f_e {c : Nat} {q : Int} (h1 : 8388608 ≤ c) (h2 : c < 16777216) (l : -149 ≤ q) (u : q ≤ 104) : UInt32.ofNat (FP.Core.encode FP.Core.b32 (.fin false c q)) = cj_f (q + 150).toNat (c - 8388608) := by
  rw [cj_fl_enc h1 h2 l u]
  rfl
theorem cj_fdiv2 {E t : Nat} (h1 : 2 ≤ E) (h : E ≤ 254) (ht : t < 8388608) : FP.fdiv (cj_f E t) FP.fconst2 = cj_f (E - 1) t := by
  show UInt32.ofNat (FP.Core.encode FP.Core.b32 (FP.Core.quotient FP.Core.b32 (FP.Core.decode FP.Core.b32 (cj_f E t).toNat) (FP.Core.decode FP.Core.b32 FP.fconst2.toNat))) = _
  rw [cj_f_d (by omega) h ht, cj_c2]
  show UInt32.ofNat (FP.Core.encode FP.Core.b32 (FP.Core.roundRatio FP.Core.b32 false (8388608 + t) 8388608 ((E : Int) - 150 - (-22)))) = _
  rw [cj_fl_half false (by omega) (by omega) (by omega) (by omega), cj_f_e (by omega) (by omega) (by omega) (by omega)]
  rw [show ((E : Int) - 150 - (-22) - 23 + 150).toNat = E - 1 by omega, show 8388608 + t - 8388608 = t by omega]
theorem cj_fmul2 {E t : Nat} (h1 : 1 ≤ E) (h : E ≤ 253) (ht : t < 8388608) : FP.fmul (cj_f E t) FP.fconst2 = cj_f (E + 1) t := by
  show UInt32.ofNat (FP.Core.encode FP.Core.b32 (FP.Core.round FP.Core.b32 (FP.Core.exactProduct (FP.Core.decode FP.Core.b32 (cj_f E t).toNat) (FP.Core.decode FP.Core.b32 FP.fconst2.toNat)))) = _
  rw [cj_f_d (by omega) (by omega) ht, cj_c2]
  show UInt32.ofNat (FP.Core.encode FP.Core.b32 (FP.Core.roundRatio FP.Core.b32 false ((8388608 + t) * 2 ^ 23) 1 ((E : Int) - 150 + (-22)))) = _
  rw [cj_fl_rr false (by omega) (by omega) 23 (by omega) (by omega), cj_f_e (by omega) (by omega) (by omega) (by omega)]
  rw [show ((E : Int) - 150 + (-22) + ((23 : Nat) : Int) + 150).toNat = E + 1 by omega, show 8388608 + t - 8388608 = t by omega]
