/-! floats with a full significand -/
theorem cj_fl_tails : FP.Core.b32.tails = 8388608 := by decide +kernel
theorem cj_fl_exps : FP.Core.b32.exps = 256 := by decide +kernel
theorem cj_fl_qmin : FP.Core.b32.qmin = -149 := by decide +kernel
theorem cj_fl_qmax : FP.Core.b32.qmax = 104 := by decide +kernel
theorem cj_fl_log {c : Nat} (h1 : 8388608 ≤ c) (h2 : c < 16777216) (j : Nat) : (c * 2 ^ j).log2 = 23 + j := by
  have h0 : 0 < 2 ^ j := Nat.two_pow_pos j
  have hne : c * 2 ^ j ≠ 0 := Nat.ne_of_gt (Nat.mul_pos (by omega) h0)
  have a1 : 2 ^ (23 + j) ≤ c * 2 ^ j := by
    rw [Nat.pow_add]
    exact Nat.mul_le_mul_right _ h1
  have a2 : c * 2 ^ j < 2 ^ (23 + j + 1) := by
    rw [show 23 + j + 1 = 24 + j by omega, Nat.pow_add]
    exact Nat.mul_lt_mul_of_pos_right h2 h0
  have b1 : 23 + j ≤ (c * 2 ^ j).log2 := (Nat.le_log2 hne).mpr a1
  have b2 : (c * 2 ^ j).log2 < 23 + j + 1 := (Nat.log2_lt hne).mpr a2
  omega
theorem cj_fl_near {c d : Nat} (hd : 0 < d) : FP.Core.nearest (c * d) d = c := by
  unfold FP.Core.nearest
  rw [Nat.mul_mod_left, if_pos (by omega), Nat.mul_div_cancel _ hd]
theorem cj_fl_settle {c : Nat} {q : Int} (s : Bool) (h2 : c < 16777216) (hq : q ≤ 104) : FP.Core.settle FP.Core.b32 s c q = .fin s c q := by
  unfold FP.Core.settle FP.Core.bound
  rw [if_pos (show c < 2 ^ FP.Core.b32.p from h2), cj_fl_qmax, if_pos hq]
/-- exact rounding -/
theorem cj_fl_rr (s : Bool) {c : Nat} (h1 : 8388608 ≤ c) (h2 : c < 16777216) (j : Nat) {e : Int} (l : -149 ≤ e + j) (u : e + j ≤ 104) : FP.Core.roundRatio FP.Core.b32 s (c * 2 ^ j) 1 e = .fin s c (e + j) := by
  have h0 : 0 < 2 ^ j := Nat.two_pow_pos j
  have hne : c * 2 ^ j ≠ 0 := Nat.ne_of_gt (Nat.mul_pos (by omega) h0)
  have L : FP.Core.leading (c * 2 ^ j) 1 = 23 + j := by
    unfold FP.Core.leading
    rw [cj_fl_log h1 h2 j, show Nat.log2 1 = 0 from rfl]
    have k : ((23 + j : Nat) : Int) - ((0 : Nat) : Int) = ((23 + j : Nat) : Int) := by omega
    rw [k]
    show (if 1 * 2 ^ ((23 + j : Nat) : Int).toNat ≤ c * 2 ^ j * 2 ^ (-((23 + j : Nat) : Int)).toNat then ((23 + j : Nat) : Int) else ((23 + j : Nat) : Int) - 1) = _
    rw [show (((23 + j : Nat) : Int)).toNat = 23 + j by omega, show (-((23 + j : Nat) : Int)).toNat = 0 by omega, Nat.one_mul, Nat.pow_zero, Nat.mul_one, Nat.pow_add, if_pos (Nat.mul_le_mul_right _ h1)]
    omega
  have Q : FP.Core.quantum FP.Core.b32 (c * 2 ^ j) 1 e = e + j := by
    unfold FP.Core.quantum
    rw [L, cj_fl_qmin, show ((FP.Core.b32.p : Nat) : Int) = 24 from rfl]
    omega
  unfold FP.Core.roundRatio FP.Core.roundAt FP.Core.unitsNum FP.Core.unitsDen
  rw [if_neg hne, Q, show (e - (e + j)).toNat = 0 by omega, show ((e + j) - e).toNat = j by omega, Nat.pow_zero, Nat.mul_one, Nat.one_mul, cj_fl_near h0, cj_fl_settle s h2 u]
/-- which bits a number has -/
theorem cj_fl_enc {c : Nat} (h1 : 8388608 ≤ c) (h2 : c < 16777216) {q : Int} (l : -149 ≤ q) (u : q ≤ 104) : FP.Core.encode FP.Core.b32 (.fin false c q) = (q + 150).toNat * 8388608 + (c - 8388608) := by
  unfold FP.Core.encode FP.Core.assemble
  simp only [cj_fl_tails, cj_fl_exps, cj_fl_qmin]
  rw [if_neg (by omega), show (q - (-149)).toNat + 1 = (q + 150).toNat by omega]
  simp
theorem cj_fl_dec {E t : Nat} (h1 : 1 ≤ E) (h2 : E ≤ 254) (ht : t < 8388608) : FP.Core.decode FP.Core.b32 (E * 8388608 + t) = .fin false (8388608 + t) ((E : Int) - 150) := by
  have hT : FP.Core.fieldT FP.Core.b32 (E * 8388608 + t) = t := by
    unfold FP.Core.fieldT
    rw [cj_fl_tails]
    omega
  have hE : FP.Core.fieldE FP.Core.b32 (E * 8388608 + t) = E := by
    unfold FP.Core.fieldE
    rw [cj_fl_tails, cj_fl_exps]
    omega
  have hS : FP.Core.fieldS FP.Core.b32 (E * 8388608 + t) = false := by
    unfold FP.Core.fieldS
    rw [cj_fl_tails, cj_fl_exps]
    have : (E * 8388608 + t) / 8388608 / 256 % 2 = 0 := by omega
    rw [this]
    rfl
  unfold FP.Core.decode
  rw [hT, hE, hS, cj_fl_exps, cj_fl_qmin, cj_fl_tails, if_neg (by omega), if_neg (by omega)]
  congr 1
  omega
