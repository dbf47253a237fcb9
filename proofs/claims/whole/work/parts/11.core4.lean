/-! a known place of an array -/
section CJ7
variable {Y : cj_Y} {X : cj_X} {o : Option Value × cj_Mm} {μ : cj_Mm} {g : Nat} {σ : Nat → Nat → Int32} {pc : Nat} {lv : List (Nat × Value)} {st : List Value} {cc : ByteArray} {nL d : Nat} {own : String} {ret : Option FieldType}
theorem cj_k {i : Int32} {n : Nat} (h : ¬ (i < 0 ∨ n ≤ i.toNatClampNeg)) : cj_gd i n (some ()) = some () := if_neg h
theorem cj_ialdK (C : cj_C Y X cc nL own d ret) {k n j : Nat} {i : Int32} (he : Y.1 Y.2.2.2 g k = some (fun f => .inl (Y.2.2.1.1, n, .inl f))) (hj : i.toNatClampNeg = j) (hin : ¬ (i < 0 ∨ n ≤ i.toNatClampNeg)) (hdg : decode cc pc = .ok (.iaload, 1)) (kk : cj_G Y X o μ (pc + 1) lv (.int (μ g k j) :: st)) : cj_G Y X o μ pc lv (.int i :: .ref (Y.2.2.2 g k) :: st) := by
  subst hj
  exact cj_iald C he hdg (cj_k hin) (fun _ => kk)
theorem cj_ialdKS (C : cj_C Y X cc nL own d ret) {k n j : Nat} {i : Int32} (he : Y.1 Y.2.2.2 g k = some (fun f => .inl (Y.2.2.1.1, n, .inl f))) (hj : i.toNatClampNeg = j) (hin : ¬ (i < 0 ∨ n ≤ i.toNatClampNeg)) (hdg : decode cc pc = .ok (.iaload, 1)) (kk : cj_G Y X o (cj_upG μ g σ) (pc + 1) lv (.int (σ k j) :: st)) : cj_G Y X o (cj_upG μ g σ) pc lv (.int i :: .ref (Y.2.2.2 g k) :: st) := by
  subst hj
  exact cj_ialdS C he hdg (cj_k hin) (fun _ => kk)
theorem cj_iastKS (C : cj_C Y X cc nL own d ret) {k n j : Nat} {i x : Int32} (he : Y.1 Y.2.2.2 g k = some (fun f => .inl (Y.2.2.1.1, n, .inl f))) (hj : i.toNatClampNeg = j) (hin : ¬ (i < 0 ∨ n ≤ i.toNatClampNeg)) (hdg : decode cc pc = .ok (.iastore, 1)) (kk : cj_G Y X o (cj_upG μ g (cj_up2 σ k j x)) (pc + 1) lv st) : cj_G Y X o (cj_upG μ g σ) pc lv (.int x :: .int i :: .ref (Y.2.2.2 g k) :: st) := by
  subst hj
  exact cj_iastS C he hdg (cj_k hin) (fun _ => kk)
end CJ7
