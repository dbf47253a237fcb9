/-! the native rows: arraycopy over whole rows, and a float's own bits -/
section CJ6
variable {Y : cj_Y} {X : cj_X} {o : Option Value × cj_Mm} {μ : cj_Mm} {pc : Nat} {lv : List (Nat × Value)} {st : List Value} {cc : ByteArray} {nL d : Nat} {own : String} {ret : Option FieldType}
theorem cj_rawf (C : cj_C Y X cc nL own d ret) {index : Nat} {x : UInt32} (hl : Cond.methodLink own index ⟨"java/lang/Float", "floatToRawIntBits", "(F)I"⟩ ∈ cj_ws) (hn : Cond.native ⟨"java/lang/Float", "floatToRawIntBits", "(F)I"⟩ ∈ cj_ws) (hs : Cond.static ⟨"java/lang/Float", "floatToRawIntBits", "(F)I"⟩ ∈ cj_ws) (hi : Cond.initialized "java/lang/Float" ∈ cj_ws) (hd : 1 ≤ d) (hcat : (st.map fun v => v.category).sum ≤ 8) (hdg : decode cc pc = .ok (.invokestatic index, 3)) (kk : cj_G Y X o μ (pc + 3) lv (.int x.toInt32 :: st)) : cj_G Y X o μ pc lv (.float x :: st) := by
  intro H locs ls hW hS hL
  obtain ⟨hx, hb, hml, hown, hts, hK, hI, hlk, hret, hRf, hRl, hRc, hRs⟩ := id C
  exact vn_f2i hx hb hL.1.symm hown (hts _ hl) (hts _ hn) (hts _ hs) (hts _ hi) (by rw [hRf]; exact hd) (by rw [hRl]; omega) hdg (kk H locs ls hW hS hL)
set_option maxHeartbeats 1000000 in
theorem cj_acopy (C : cj_C Y X cc nL own d ret) {index g1 k1 g2 k2 n : Nat} {v : Int32} (he1 : Y.1 Y.2.2.2 g1 k1 = some (fun f => .inl (Y.2.2.1.1, n, .inl f))) (he2 : Y.1 Y.2.2.2 g2 k2 = some (fun f => .inl (Y.2.2.1.1, n, .inl f))) (hv : v.toInt = (n : Int)) (hl : Cond.methodLink own index arraycopyName ∈ cj_ws) (hn : Cond.native arraycopyName ∈ cj_ws) (hs : Cond.static arraycopyName ∈ cj_ws) (hi : Cond.initialized "java/lang/System" ∈ cj_ws) (hd : 1 ≤ d) (hdg : decode cc pc = .ok (.invokestatic index, 3)) (kk : cj_G Y X o (cj_upG μ g2 (cj_upr (μ g2) k2 (va_cpy (μ g1 k1) (μ g2 k2) 0 0 n))) (pc + 3) lv []) : cj_G Y X o μ pc lv [.int v, .int 0, .ref (Y.2.2.2 g2 k2), .int 0, .ref (Y.2.2.2 g1 k1)] := by
  intro H locs ls hW hS hL
  obtain ⟨hx, hb, hml, hown, hts, hK, hI, hlk, hret, hRf, hRl, hRc, hRs⟩ := id C
  intro T hT XS
  have c1 : H[Y.2.2.2 g1 k1]? = some (vp_cell Y.2.2.1.1 (n, .inl (μ g1 k1))) := hW g1 k1 _ he1
  have c2 : H[Y.2.2.2 g2 k2]? = some (vp_cell Y.2.2.1.1 (n, .inl (μ g2 k2))) := hW g2 k2 _ he2
  obtain ⟨-, kA, hkA, cm, hkk⟩ := (hK.1.2 0 _ rfl).1 n (fun j => .int (μ g1 k1 j))
  obtain ⟨-, kB, hkB, cm2, hkk2⟩ := (hK.1.2 0 _ rfl).1 n (fun j => .int (μ g2 k2 j))
  have hvn : v.toNatClampNeg = n := by show v.toInt.toNat = n; omega
  have hv0 : ¬ v < 0 := by
    intro q
    have q2 := Int32.lt_iff_toInt_lt.mp q
    have q3 : (0 : Int32).toInt = 0 := rfl
    omega
  obtain ⟨vm', X', step⟩ := XS.arraycopy hx hown (hts _ hl) (hts _ hn) (hts _ hs) (hts _ hi) (src := Y.2.2.2 g1 k1) (dst := Y.2.2.2 g2 k2) (cs := vp_cell Y.2.2.1.1 (n, .inl (μ g1 k1))) (cd := vp_cell Y.2.2.1.1 (n, .inl (μ g2 k2))) (srcPos := 0) (destPos := 0) (n := v) (by rw [hT]; exact c1) (by rw [hT]; exact c2)
    (fun _ h => by cases h) (fun _ h => by cases h) (fun h => by cases h) (fun h => by cases h) hkA hkB hkk hkk2 (by simp [refKind]) (by decide) (by decide) hv0
    (by rw [hv]; show ¬ _ > ((arrV _ n (fun j => .int (μ g1 k1 j))).slots.size : Int); rw [arrV_size]; show ¬ (0 : Int) + _ > _; omega)
    (by rw [hv]; show ¬ _ > ((arrV _ n (fun j => .int (μ g2 k2 j))).slots.size : Int); rw [arrV_size]; show ¬ (0 : Int) + _ > _; omega)
    (fun vm₁ _ i hi => by
      have e : (vp_cell Y.2.2.1.1 (n, .inl (μ g1 k1))).slots.getD ((0 : Int32).toNatClampNeg + i) .null = .int (μ g1 k1 ((0 : Int32).toNatClampNeg + i)) := by
        show (arrV _ n (fun j => .int (μ g1 k1 j))).slots.getD _ _ = _
        rw [Array.getD_eq_getD_getElem?, arrV_read _ _ (by show 0 + i < n; omega)]
        rfl
      exact ⟨by rw [e]; rfl, by rw [e]; exact trivial⟩)
    (g := F0 X.2.2.2.2.2.1 pc ls [.int v, .int 0, .ref (Y.2.2.2 g2 k2), .int 0, .ref (Y.2.2.2 g1 k1)]) rfl hL.1 (rest := []) rfl (by rw [hb]; exact hdg) (by rw [hRf]; exact hd) (by
      have hw : nativeFrameWords "java/lang/System" "arraycopy" 5 ≤ 24 := by decide
      show 2 * 0 + 0 + _ ≤ _
      rw [hRl]
      omega)
  have e1 : copied (vp_cell Y.2.2.1.1 (n, .inl (μ g1 k1))) (vp_cell Y.2.2.1.1 (n, .inl (μ g2 k2))) 0 0 v = vp_cell Y.2.2.1.1 (n, .inl (va_cpy (μ g1 k1) (μ g2 k2) 0 0 n)) := by
    have q := va_copied (fun z => Value.int z) Y.2.2.1.1 Y.2.2.1.1 (n0 := n) (n1 := n) (sp := 0) (dp := 0) (n := n) (μ g1 k1) (μ g2 k2) (by omega)
    rw [← hvn] at q
    exact hvn ▸ q
  rw [e1] at X' step
  have hlt : Y.2.2.2 g2 k2 < H.size := (Array.getElem?_eq_some_iff.mp c2).1
  have oq : ∀ q : Nat, q ≠ Y.2.2.2 g2 k2 → (H.setIfInBounds (Y.2.2.2 g2 k2) (vp_cell Y.2.2.1.1 (n, .inl (va_cpy (μ g1 k1) (μ g2 k2) 0 0 n))))[q]? = H[q]? := fun q hq => by simp [Array.getElem?_setIfInBounds, Ne.symm hq]
  obtain ⟨t, a1, b1⟩ := kk _ _ ls (hW.put hI he2 (show (H.setIfInBounds (Y.2.2.2 g2 k2) _)[Y.2.2.2 g2 k2]? = some _ by simp [hlt]) oq) ⟨by simp; exact hS.1, fun q p1 p2 => by
      rw [oq q (fun e => p2 ⟨g2, k2, _, he2, e⟩)]
      exact hS.2.1 q p1 p2, fun q hq => by
      rcases List.mem_append.mp hq with h | h
      · exact hS.2.2 q h
      · obtain ⟨j, -, hj⟩ := List.mem_map.mp h
        rw [← hj]
        exact ⟨g2, k2, _, he2, rfl⟩⟩ hL _ (by rw [← hT]; rfl) X'
  exact ⟨t, step t a1, b1⟩
end CJ6
