/-! comparisons, and the last digits -/
theorem cj_cmpI (a b : Int) : compare a b = if a < b then Ordering.lt else if a = b then Ordering.eq else Ordering.gt := rfl
theorem cj_ord (c d : Nat) (q r : Int) : FP.Core.order (.fin false c q) (.fin false d r) = some (if ((c * 2 ^ (q - min q r).toNat : Nat) : Int) < ((d * 2 ^ (r - min q r).toNat : Nat) : Int) then Ordering.lt else if ((c * 2 ^ (q - min q r).toNat : Nat) : Int) = ((d * 2 ^ (r - min q r).toNat : Nat) : Int) then Ordering.eq else Ordering.gt) := rfl
theorem cj_fc_d (x y : UInt32) : FP.fcmp x y = FP.Core.order (FP.Core.decode FP.Core.b32 x.toNat) (FP.Core.decode FP.Core.b32 y.toNat) := rfl
/-- against a power of two -/
theorem cj_ordT {c : Nat} (h1 : 8388608 ≤ c) (h2 : c < 16777216) (q r : Int) : (q < r → FP.Core.order (.fin false c q) (.fin false 8388608 r) = some Ordering.lt) ∧ (r ≤ q → FP.Core.order (.fin false c q) (.fin false 8388608 r) = some Ordering.eq ∨ FP.Core.order (.fin false c q) (.fin false 8388608 r) = some Ordering.gt) := by
  rw [cj_ord]
  refine ⟨fun h => ?_, fun h => ?_⟩
  · have e : min q r = q := by omega
    have e2 : (r - q).toNat = ((r - q).toNat - 1) + 1 := by omega
    have k : c * 2 ^ (q - min q r).toNat < 8388608 * 2 ^ (r - min q r).toNat := by
      rw [e, show (q - q).toNat = 0 by omega, Nat.pow_zero, Nat.mul_one, e2, Nat.pow_succ]
      have := Nat.two_pow_pos ((r - q).toNat - 1)
      have : 8388608 * 1 ≤ 8388608 * 2 ^ ((r - q).toNat - 1) := Nat.mul_le_mul_left _ this
      omega
    rw [if_pos (Int.ofNat_lt.mpr k)]
  · have e : min q r = r := by omega
    have k : 8388608 * 2 ^ (r - min q r).toNat ≤ c * 2 ^ (q - min q r).toNat := by
      rw [e, show (r - r).toNat = 0 by omega, Nat.pow_zero, Nat.mul_one]
      have := Nat.two_pow_pos (q - r).toNat
      have : c * 1 ≤ c * 2 ^ (q - r).toNat := Nat.mul_le_mul_left _ this
      omega
    rw [if_neg (fun z => absurd (Int.ofNat_lt.mp z) (by omega))]
    by_cases z : ((c * 2 ^ (q - min q r).toNat : Nat) : Int) = ((8388608 * 2 ^ (r - min q r).toNat : Nat) : Int)
    · exact Or.inl (by rw [if_pos z])
    · exact Or.inr (by rw [if_neg z])
theorem cj_ord0 {c : Nat} (h1 : 8388608 ≤ c) (q : Int) : FP.Core.order (.fin false c q) (.fin false 0 (-149)) = some Ordering.gt := by
  rw [cj_ord]
  have k : 0 < c * 2 ^ (q - min q (-149)).toNat := Nat.mul_pos (by omega) (Nat.two_pow_pos _)
  rw [Nat.zero_mul, if_neg (by omega), if_neg (by omega)]
theorem cj_ordS (c : Nat) (q : Int) : FP.Core.order (.fin false c q) (.fin false c q) = some Ordering.eq := by
  rw [cj_ord, if_neg (by omega), if_pos rfl]
section CJF
variable {E t : Nat}
theorem cj_gt0 (h1 : 1 ≤ E) (h : E ≤ 254) (ht : t < 8388608) : 0 < Op.cmpValue (FP.fcmp (cj_f E t) FP.fconst0) .g := by
  rw [cj_fc_d, cj_f_d h1 h ht, cj_c0', cj_ord0 (by omega)]
  decide
theorem cj_lt2 (h1 : 1 ≤ E) (h : E ≤ 254) (ht : t < 8388608) : Op.cmpValue (FP.fcmp (cj_f E t) FP.fconst2) .l < 0 ↔ E < 128 := by
  rw [cj_fc_d, cj_f_d h1 h ht, cj_c2]
  obtain ⟨A, B⟩ := cj_ordT (c := 8388608 + t) (by omega) (by omega) ((E : Int) - 150) (-22)
  by_cases c : E < 128
  · rw [A (by omega)]
    exact ⟨fun _ => c, fun _ => by decide⟩
  · rcases B (by omega) with e | e <;> rw [e]
    · exact ⟨fun z => absurd z (by decide), fun z => absurd z c⟩
    · exact ⟨fun z => absurd z (by decide), fun z => absurd z c⟩
theorem cj_ge1 (h1 : 1 ≤ E) (h : E ≤ 254) (ht : t < 8388608) : 0 ≤ Op.cmpValue (FP.fcmp (cj_f E t) FP.fconst1) .g ↔ 127 ≤ E := by
  rw [cj_fc_d, cj_f_d h1 h ht, cj_c1]
  obtain ⟨A, B⟩ := cj_ordT (c := 8388608 + t) (by omega) (by omega) ((E : Int) - 150) (-23)
  by_cases c : 127 ≤ E
  · rcases B (by omega) with e | e <;> rw [e]
    · exact ⟨fun _ => c, fun _ => by decide⟩
    · exact ⟨fun _ => c, fun _ => by decide⟩
  · rw [A (by omega)]
    exact ⟨fun z => absurd z (by decide), fun z => absurd z c⟩
theorem cj_fself (h1 : 1 ≤ E) (h : E ≤ 254) (ht : t < 8388608) : Op.cmpValue (FP.fcmp (cj_f E t) (cj_f E t)) .l = 0 := by
  rw [cj_fc_d, cj_f_d h1 h ht, cj_ordS]
  decide
/-- no NaN -/
theorem cj_nn (h : E ≤ 254) (ht : t < 8388608) : cj_f E t &&& 0x7fffffff ≤ 0x7f800000 := by
  rw [UInt32.le_iff_toNat_le, UInt32.toNat_and, cj_f_n h ht]
  have e : (0x7fffffff : UInt32).toNat = 2 ^ 31 - 1 := rfl
  have e2 : (0x7f800000 : UInt32).toNat = 2139095040 := rfl
  rw [e, e2, Nat.and_two_pow_sub_one_eq_mod, Nat.mod_eq_of_lt (by omega)]
  omega
end CJF
