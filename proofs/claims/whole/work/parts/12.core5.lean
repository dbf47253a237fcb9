/-! a JDK method with bytecode of its own: the same contract -/
set_option maxHeartbeats 4000000 in
theorem cj_Ct.ofF {l : Launch} {Y : cj_Y} {y : MethodName} {cc : ByteArray} {nL : Nat} {ret : Option FieldType} {d : Nat} {args : List Value} {μ μ' : cj_Mm} {v : Option Value} (hy : plainFor y = true) (hI : cj_Ij Y.1 Y.2.2.2) (hn : (lg_sl args).length ≤ nL) (lv : List (Nat × Value)) (hlv : lv_args 0 args = lv)
    (body : ∀ X : cj_X, X.2.1 = l → cj_C Y X cc nL y.cls d ret → cj_G Y X (v, μ') μ 0 lv []) : cj_Ct l Y y cc nL ret d args μ v μ' := by
  unfold cj_Ct Met
  refine MetFree.of_bodySF (code := cc) (maxLocals := nL) (ret := ret) hy ?_ ?_
  · intro args s m h hn
    obtain ⟨meth, c, h1, h2, h3, h4, h5, h6, -, -⟩ := Cond.code_spec hn (atoms_spec (ws := cj_ms y cc nL ret) h _ List.mem_cons_self)
    exact ⟨meth, c, h1, h2, h3, h4, h5, h6⟩
  · intro p e s m args' below meth c s₁ B hml hv _
    obtain ⟨rfl, hP, hK⟩ := hv
    have hts := atoms_spec (ws := cj_ms y cc nL ret) B.pre
    have hown : s.vm.findClass y.cls = some m.cls := findClass_of_methodNamed B.named
    have hl := lv_entry args (n := nL) hn
    have hh0 : s₁.heap = s.heap := by rw [B.state]; rfl
    have K := body (p, l, e, ({ frames := d, cells := 0, slots := 0, locals := 37 * d } : Jvm.Room), s, m, args.toArray, below, meth, c) rfl ⟨B.exec, B.bytes, hml, hown, fun w hw => hts w (List.mem_cons_of_mem _ hw), hK, hI, B.notSynchronized, B.returns, rfl, rfl, rfl, rfl⟩ s.heap [] _ hP va_S.rf (by rw [hlv, ← hml] at hl; rw [hml] at hl ⊢; exact hl)
    rw [lg_entry_eq]
    obtain ⟨t, a1, o, b1, b2, b3⟩ := K s₁ hh0 (Stand.of_body B)
    exact ⟨t, o, a1, b1, b2, ⟨b3.1, b3.2⟩⟩
