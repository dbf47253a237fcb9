/-! whole numbers as floats, and the last digits read back -/
theorem cj_fl_sc {t : Nat} (h0 : 0 < t) (h : t < 16777216) : ∃ i, i ≤ 23 ∧ 8388608 ≤ t * 2 ^ i ∧ t * 2 ^ i < 16777216 ∧ t.log2 + i = 23 := by
  have hne : t ≠ 0 := by omega
  have a1 : 2 ^ t.log2 ≤ t := Nat.log2_self_le hne
  have a2 : t < 2 ^ (t.log2 + 1) := Nat.lt_log2_self
  have a3 : t.log2 < 24 := (Nat.log2_lt hne).mpr h
  refine ⟨23 - t.log2, by omega, ?_, ?_, by omega⟩
  · have := Nat.mul_le_mul_right (2 ^ (23 - t.log2)) a1
    rw [← Nat.pow_add, show t.log2 + (23 - t.log2) = 23 by omega] at this
    exact this
  · have := Nat.mul_lt_mul_of_pos_right a2 (Nat.two_pow_pos (23 - t.log2))
    rw [← Nat.pow_add, show t.log2 + 1 + (23 - t.log2) = 24 by omega] at this
    exact this
theorem cj_fl_rs (s : Bool) {t i : Nat} (h0 : 0 < t) (h1 : 8388608 ≤ t * 2 ^ i) (h2 : t * 2 ^ i < 16777216) (hi : t.log2 + i = 23) {e : Int} (l : -149 ≤ e - i) (u : e - i ≤ 104) : FP.Core.roundRatio FP.Core.b32 s t 1 e = .fin s (t * 2 ^ i) (e - i) := by
  have hne : t ≠ 0 := by omega
  have L : FP.Core.leading t 1 = 23 - i := by
    unfold FP.Core.leading
    rw [show Nat.log2 1 = 0 from rfl]
    have k : (t.log2 : Int) - ((0 : Nat) : Int) = (t.log2 : Int) := by omega
    rw [k]
    show (if 1 * 2 ^ ((t.log2 : Nat) : Int).toNat ≤ t * 2 ^ (-((t.log2 : Nat) : Int)).toNat then ((t.log2 : Nat) : Int) else ((t.log2 : Nat) : Int) - 1) = _
    rw [show ((t.log2 : Nat) : Int).toNat = t.log2 by omega, show (-((t.log2 : Nat) : Int)).toNat = 0 by omega, Nat.one_mul, Nat.pow_zero, Nat.mul_one, if_pos (Nat.log2_self_le hne)]
    omega
  have Q : FP.Core.quantum FP.Core.b32 t 1 e = e - i := by
    unfold FP.Core.quantum
    rw [L, cj_fl_qmin, show ((FP.Core.b32.p : Nat) : Int) = 24 from rfl]
    omega
  unfold FP.Core.roundRatio FP.Core.roundAt FP.Core.unitsNum FP.Core.unitsDen
  have N := cj_fl_near (c := t * 2 ^ i) (d := 1) (by decide)
  rw [Nat.mul_one] at N
  rw [if_neg hne, Q, show (e - (e - i)).toNat = i by omega, show ((e - i) - e).toNat = 0 by omega, Nat.pow_zero, Nat.mul_one, N, cj_fl_settle s h2 u]
theorem cj_c23 : FP.Core.decode FP.Core.b32 (1258291200 : UInt32).toNat = .fin false 8388608 0 := by decide +kernel
theorem cj_nIi (t : Nat) : Int32.ofInt (t : Int) = nI t := rfl
/-- the last digits of a number from one to two -/
theorem cj_tail {t : Nat} (ht : t < 8388608) : FP.fsub (cj_f 127 t) FP.fconst1 &&& 0x7fffffff ≤ 0x7f800000 ∧ FP.fmul (FP.fsub (cj_f 127 t) FP.fconst1) 1258291200 &&& 0x7fffffff ≤ 0x7f800000 ∧ FP.f2i (FP.fmul (FP.fsub (cj_f 127 t) FP.fconst1) 1258291200) = nI t := by
  by_cases h0 : t = 0
  · subst h0
    decide +kernel
  obtain ⟨i, hi, m1, m2, m3⟩ := cj_fl_sc (t := t) (by omega) (by omega)
  have A : FP.fsub (cj_f 127 t) FP.fconst1 = cj_f (127 - i) (t * 2 ^ i - 8388608) := by
    show UInt32.ofNat (FP.Core.encode FP.Core.b32 (FP.Core.round FP.Core.b32 (FP.Core.exactSum (FP.Core.decode FP.Core.b32 (cj_f 127 t).toNat) (FP.Core.negate (FP.Core.decode FP.Core.b32 FP.fconst1.toNat))))) = _
    rw [cj_f_d (by decide) (by decide) ht, cj_c1]
    have S : FP.Core.sumUnits false (8388608 + t) (((127 : Nat) : Int) - 150) true 8388608 (-23) (min (((127 : Nat) : Int) - 150) (-23)) = (t : Int) := by
      show ((8388608 + t) * 2 ^ 0 : Nat) + -(((8388608 * 2 ^ 0 : Nat)) : Int) = (t : Int)
      omega
    have X : FP.Core.exactSum (.fin false (8388608 + t) (((127 : Nat) : Int) - 150)) (FP.Core.negate (.fin false 8388608 (-23))) = .fin false t (-23) := by
      show FP.Core.Datum.fin (FP.Core.sumSign false true (FP.Core.sumUnits false (8388608 + t) (((127 : Nat) : Int) - 150) true 8388608 (-23) (min (((127 : Nat) : Int) - 150) (-23)))) (FP.Core.sumUnits false (8388608 + t) (((127 : Nat) : Int) - 150) true 8388608 (-23) (min (((127 : Nat) : Int) - 150) (-23))).natAbs (min (((127 : Nat) : Int) - 150) (-23)) = _
      rw [S]
      have : FP.Core.sumSign false true (t : Int) = false := by
        unfold FP.Core.sumSign
        rw [if_neg (by omega)]
        exact decide_eq_false (by omega)
      rw [this]
      rfl
    rw [X]
    show UInt32.ofNat (FP.Core.encode FP.Core.b32 (FP.Core.roundRatio FP.Core.b32 false t 1 (-23))) = _
    rw [cj_fl_rs false (by omega) m1 m2 m3 (by omega) (by omega), cj_f_e m1 m2 (by omega) (by omega), show ((-23 : Int) - i + 150).toNat = 127 - i by omega]
  have B : FP.fmul (cj_f (127 - i) (t * 2 ^ i - 8388608)) 1258291200 = cj_f (150 - i) (t * 2 ^ i - 8388608) := by
    show UInt32.ofNat (FP.Core.encode FP.Core.b32 (FP.Core.round FP.Core.b32 (FP.Core.exactProduct (FP.Core.decode FP.Core.b32 (cj_f (127 - i) (t * 2 ^ i - 8388608)).toNat) (FP.Core.decode FP.Core.b32 (1258291200 : UInt32).toNat)))) = _
    rw [cj_f_d (by omega) (by omega) (by omega), cj_c23, show 8388608 + (t * 2 ^ i - 8388608) = t * 2 ^ i by omega]
    show UInt32.ofNat (FP.Core.encode FP.Core.b32 (FP.Core.roundRatio FP.Core.b32 false (t * 2 ^ i * 2 ^ 23) 1 (((127 - i : Nat) : Int) - 150 + 0))) = _
    rw [cj_fl_rr false m1 m2 23 (by omega) (by omega), cj_f_e m1 m2 (by omega) (by omega), show (((127 - i : Nat) : Int) - 150 + 0 + ((23 : Nat) : Int) + 150).toNat = 150 - i by omega]
  rw [A, B]
  refine ⟨cj_nn (by omega) (by omega), cj_nn (by omega) (by omega), ?_⟩
  show FP.Core.toI (FP.Core.decode FP.Core.b32 (cj_f (150 - i) (t * 2 ^ i - 8388608)).toNat) = _
  rw [cj_f_d (by omega) (by omega) (by omega), show 8388608 + (t * 2 ^ i - 8388608) = t * 2 ^ i by omega, show ((150 - i : Nat) : Int) - 150 = -(i : Int) by omega]
  have T : FP.Core.truncate false (t * 2 ^ i) (-(i : Int)) = (t : Int) := by
    show ((t * 2 ^ i * 2 ^ (-(i : Int)).toNat / 2 ^ (-(-(i : Int))).toNat : Nat) : Int) = _
    rw [show (-(i : Int)).toNat = 0 by omega, show (-(-(i : Int))).toNat = i by omega, Nat.pow_zero, Nat.mul_one, Nat.mul_div_cancel _ (Nat.two_pow_pos i)]
  show Int32.ofInt (max (-2 ^ 31) (min (2 ^ 31 - 1) (FP.Core.truncate false (t * 2 ^ i) (-(i : Int))))) = _
  rw [T, show max (-2 ^ 31) (min (2 ^ 31 - 1) (t : Int)) = (t : Int) by omega]
  rfl
