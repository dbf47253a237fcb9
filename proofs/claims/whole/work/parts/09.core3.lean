/-! the heap's rows -/
theorem cj_sg {D : va_G} {a : Nat} {e : va_E} {H : Heap} (h : va_at D cj_cl (a, e) H) : va_P D cj_cl [(a, e)] H := by
  intro k q hk
  match k, hk with
  | 0, hk => cases hk; exact h
  | k + 1, hk => cases hk
section CJ3
variable {Y : cj_Y} {X : cj_X} {o : Option Value × cj_Mm} {μ : cj_Mm} {pc : Nat} {lv lv' : List (Nat × Value)} {st : List Value} {cc : ByteArray} {nL d : Nat} {own : String} {ret : Option FieldType} {α : Type} {A B : Option α} {r : α}
theorem cj_get (C : cj_C Y X cc nL own d ret) {g k ci j N index : Nat} {F : cj_Fc} {fs : List Value} {Cn rn nm ds : String} {fn : Bool} {T : u_T} {v : Value} (he : Y.1 Y.2.2.2 g k = some F) (hF : F (μ g k) = .inr (ci, fs)) (hc : cj_cl[ci]? = some (Cn, T, N)) (hin : ∀ w ∈ u_ws Cn T N, w ∈ cj_ws) (hj : j < N) (hT : T j = (rn, nm, ds, fn)) (hl : Cond.fieldLink own index rn nm ds ∈ cj_ws) (hv : fs[j]? = some v) (hdg : decode cc pc = .ok (.getfield index, 3)) (kk : cj_G Y X o μ (pc + 3) lv (v :: st)) : cj_G Y X o μ pc lv (.ref (Y.2.2.2 g k) :: st) := by
  intro H locs ls hW hS hL
  have h1 := hW g k F he
  rw [hF] at h1
  exact va_get (D := Y.2.1) (ref := rn) (tys := cj_ty Y.2.2.1) C.1 C.2.1 C.2.2.2.2.1 hin C.2.2.2.1 C.2.2.2.2.2.1.1 (cj_sg h1) 0 rfl hc j hj (by rw [hT]; exact C.2.2.2.2.1 _ hl) (by rw [hT]; exact fun _ h => h) hv hdg (kk H locs ls hW hS hL)
theorem cj_put (C : cj_C Y X cc nL own d ret) {g k ci j N index : Nat} {F : cj_Fc} {fs fs' : List Value} {Cn rn nm ds : String} {T : u_T} {ty0 : Nat → FieldType} {ty : FieldType} {x : Int32} (he : Y.1 Y.2.2.2 g k = some F) (hF : F (μ g k) = .inr (ci, fs)) (hF' : F (upd (μ g k) j x) = .inr (ci, fs')) (hfs : fs' = fs.set j (.int x)) (hc : cj_cl[ci]? = some (Cn, T, N)) (hin : ∀ w ∈ u_ws Cn T N, w ∈ cj_ws) (hty : ∀ k, k < N → parseFieldDescriptor (T k).2.2.1 = some (ty0 k)) (hnm : ∀ a, a < N → ∀ b, b < N → a ≠ b → (T a).2.1 ≠ (T b).2.1) (hj : j < N) (hT : T j = (rn, nm, ds, false)) (hl : Cond.fieldLink own index rn nm ds ∈ cj_ws) (hd : parseFieldDescriptor ds = some ty) (hn : narrow ty (.int x) = .int x) (hfit : fits ty (.int x) = true) (hlen : j < fs.length) (hdg : decode cc pc = .ok (.putfield index, 3)) (kk : cj_G Y X o (cj_upG μ g (cj_up2 (μ g) k j x)) (pc + 3) lv st) : cj_G Y X o μ pc lv (.int x :: .ref (Y.2.2.2 g k) :: st) := by
  intro H locs ls hW hS hL
  have hts := C.2.2.2.2.1
  have hK := C.2.2.2.2.2.1.1
  have hap := va_apart (own := own) hts hin ty0 hty hnm hK hc
  have h1 := hW g k F he
  rw [hF] at h1
  obtain ⟨q, h2, cell, q1, q2, q3, q4⟩ := h1
  have hr : q = (Cn, T, N) := Option.some.inj (h2.symm.trans hc)
  subst hr
  obtain ⟨hSl, hfc, kC, hkC, hkind⟩ := hK.1 ci _ hc
  obtain ⟨cf, kf, fi, f, hi, hsl⟩ := hSl j hj
  have hlay := hts _ (hin _ (u_in_lay hj))
  unfold u_lay at hlay
  rw [if_neg (by rw [hT]; exact Bool.false_ne_true)] at hlay
  have hst := (u_facts hfc hkC (u_lays hts hin hj) hi).1
  have h6 := u_store hfc hkC hkind hlay hi (by rw [hT]; exact hd) hn hfit
  have hlk : (Cond.fieldLink own index (T j).1 (T j).2.1 (T j).2.2.1).before X.2.2.2.2.2.2.1 X.2.2.2.2.1 = true := by rw [hT]; exact hts _ hl
  refine W.putK C.1 C.2.1 (f := f) ⟨C.2.2.2.1, hlk, ⟨_, _, _, hi⟩, hst⟩ (by rw [q2]; exact h6) q1 q3 (by rw [hsl]; exact k2_hasslot (q4 j hj)) rfl rfl hdg fun H' e1 e2 e3 => ?_
  rw [hsl] at e1 ⊢
  refine kk H' _ ls (hW.put C.2.2.2.2.2.2.1 he ?_ e3) (hS.put e2 e3 ⟨g, k, F, he, rfl⟩) hL
  rw [hF', hfs]
  exact ⟨_, hc, t_OB.to (V := updV (vp_V fs) j (.int x)) ⟨_, e1, q2, q3, t_set q4 hap hj (.int x)⟩ (fun j _ => vp_updV_set hlen (.int x) j)⟩
theorem cj_iald (C : cj_C Y X cc nL own d ret) {g k n : Nat} {i : Int32} (he : Y.1 Y.2.2.2 g k = some (fun f => .inl (Y.2.2.1.1, n, .inl f))) (hdg : decode cc pc = .ok (.iaload, 1)) (hf : cj_gd i n A = some r) (kk : A = some r → cj_G Y X o μ (pc + 1) lv (.int (μ g k i.toNatClampNeg) :: st)) : cj_G Y X o μ pc lv (.int i :: .ref (Y.2.2.2 g k) :: st) :=
  fun H locs ls hW hS hL => va_iald (tys := cj_ty Y.2.2.1) C.1 C.2.1 C.2.2.2.2.2.1.1 (cj_sg (hW g k _ he)) 0 0 rfl rfl (cj_gd_s hf).1 hdg (kk (cj_gd_s hf).2 H locs ls hW hS hL)
theorem cj_cald (C : cj_C Y X cc nL own d ret) {g k n : Nat} {i : Int32} (he : Y.1 Y.2.2.2 g k = some (fun f => .inl (Y.2.2.1.2.1, n, .inl f))) (hdg : decode cc pc = .ok (.caload, 1)) (hf : cj_gd i n A = some r) (kk : A = some r → cj_G Y X o μ (pc + 1) lv (.int (μ g k i.toNatClampNeg) :: st)) : cj_G Y X o μ pc lv (.int i :: .ref (Y.2.2.2 g k) :: st) :=
  fun H locs ls hW hS hL => va_cald (tys := cj_ty Y.2.2.1) C.1 C.2.1 C.2.2.2.2.2.1.1 (cj_sg (hW g k _ he)) 0 1 rfl rfl (cj_gd_s hf).1 hdg (kk (cj_gd_s hf).2 H locs ls hW hS hL)
theorem cj_qald (C : cj_C Y X cc nL own d ret) {g k n : Nat} {q : Nat → Nat} {i : Int32} (he : Y.1 Y.2.2.2 g k = some (fun _ => .inl (Y.2.2.1.2.2, n, .inr (.inr (.inr (.inr (fun j => some (q j)))))))) (hdg : decode cc pc = .ok (.aaload, 1)) (hf : cj_gd i n A = some r) (kk : A = some r → cj_G Y X o μ (pc + 1) lv (.ref (q i.toNatClampNeg) :: st)) : cj_G Y X o μ pc lv (.int i :: .ref (Y.2.2.2 g k) :: st) :=
  fun H locs ls hW hS hL => va_aldq (tys := cj_ty Y.2.2.1) C.1 C.2.1 C.2.2.2.2.2.1.1 (cj_sg (hW g k _ he)) 0 2 rfl rfl (cj_gd_s hf).1 hdg (kk (cj_gd_s hf).2 H locs ls hW hS hL)
theorem cj_alen (C : cj_C Y X cc nL own d ret) {g k n : Nat} {v : Int32} (he : Y.1 Y.2.2.2 g k = some (fun f => .inl (Y.2.2.1.1, n, .inl f))) (hv : Int32.ofNat n = v) (hdg : decode cc pc = .ok (.arraylength, 1)) (kk : cj_G Y X o μ (pc + 1) lv (.int v :: st)) : cj_G Y X o μ pc lv (.ref (Y.2.2.2 g k) :: st) :=
  fun H locs ls hW hS hL => va_alen (tys := cj_ty Y.2.2.1) C.1 C.2.1 C.2.2.2.2.2.1.1 (cj_sg (hW g k _ he)) 0 0 rfl rfl hv hdg (kk H locs ls hW hS hL)
theorem cj_arr {c : ClassId} {n : Nat} {f : Nat → Int32} {i : Nat} {x : Int32} : (vp_cell c (n, .inl f)).setSlot i (.int x) = vp_cell c (n, .inl (upd f i x)) := by
  rw [vp_cell_i, vp_cell_i, arrV_store]
  congr 1
  funext q
  by_cases hq : q = i
  · simp [updV, upd, hq]
  · simp [updV, upd, hq]
theorem cj_iast (C : cj_C Y X cc nL own d ret) {g k n : Nat} {i x : Int32} (he : Y.1 Y.2.2.2 g k = some (fun f => .inl (Y.2.2.1.1, n, .inl f))) (hdg : decode cc pc = .ok (.iastore, 1)) (hf : cj_gd i n A = some r) (kk : A = some r → cj_G Y X o (cj_upG μ g (cj_up2 (μ g) k i.toNatClampNeg x)) (pc + 1) lv st) : cj_G Y X o μ pc lv (.int x :: .int i :: .ref (Y.2.2.2 g k) :: st) := by
  intro H locs ls hW hS hL
  have h1 : H[Y.2.2.2 g k]? = some (vp_cell Y.2.2.1.1 (n, .inl (μ g k))) := hW g k _ he
  refine W.iast C.1 C.2.1 h1 ((C.2.2.2.2.2.1.1.2 0 _ rfl).1 n (fun j => .int (μ g k j))) (fun q => by cases q) (by show ¬ (i < 0 ∨ (arrV _ _ _).slots.size ≤ _); rw [arrV_size]; exact (cj_gd_s hf).1) rfl rfl hdg fun H1 e z oq => ?_
  refine kk (cj_gd_s hf).2 H1 _ ls (hW.put C.2.2.2.2.2.2.1 he ?_ oq) (hS.put z oq ⟨g, k, _, he, rfl⟩) hL
  show H1[_]? = some (vp_cell _ _)
  rw [e, cj_arr]
theorem cj_castore (C : cj_C Y X cc nL own d ret) {g k n : Nat} {i x : Int32} (he : Y.1 Y.2.2.2 g k = some (fun f => .inl (Y.2.2.1.2.1, n, .inl f))) (hdg : decode cc pc = .ok (.castore, 1)) (hf : cj_gd i n A = some r) (kk : A = some r → cj_G Y X o (cj_upG μ g (cj_up2 (μ g) k i.toNatClampNeg (vp_nar .char x))) (pc + 1) lv st) : cj_G Y X o μ pc lv (.int x :: .int i :: .ref (Y.2.2.2 g k) :: st) := by
  intro H locs ls hW hS hL
  have h1 : H[Y.2.2.2 g k]? = some (vp_cell Y.2.2.1.2.1 (n, .inl (μ g k))) := hW g k _ he
  refine W.cast C.1 C.2.1 h1 ((C.2.2.2.2.2.1.1.2 1 _ rfl).1 n (fun j => .int (μ g k j))) (fun q => by cases q) (by show ¬ (i < 0 ∨ (arrV _ _ _).slots.size ≤ _); rw [arrV_size]; exact (cj_gd_s hf).1) rfl rfl hdg fun H1 e z oq => ?_
  refine kk (cj_gd_s hf).2 H1 _ ls (hW.put C.2.2.2.2.2.2.1 he ?_ oq) (hS.put z oq ⟨g, k, _, he, rfl⟩) hL
  show H1[_]? = some (vp_cell _ _)
  rw [e, show narrow .char (.int x) = .int (vp_nar .char x) from by first | rfl | simp [vp_nar, narrow], cj_arr]
/-! calls -/
/-- what a call needs of the callee among the tables' words -/
def cj_cw (y : MethodName) (bytes : ByteArray) (maxL n : Nat) (rt : Option FieldType) : Prop :=
  Cond.code y bytes maxL rt ∈ cj_ws ∧ Cond.initialized y.cls ∈ cj_ws ∧ y.cls ≠ "java/lang/invoke/MethodHandle" ∧ y.cls ≠ "java/lang/invoke/VarHandle" ∧ (parseMethodDescriptor y.desc).map (fun d => d.parameters.length) = some n
theorem cj_gi {y : MethodName} {bytes : ByteArray} {maxL n : Nat} {rt : Option FieldType} (h : cj_cw y bytes maxL n rt) : GoodIn cj_ws (cj_ms y bytes maxL rt) := by
  intro w hw
  rcases List.mem_cons.mp hw with rfl | hw
  · exact ⟨h.1, good_of_word rfl⟩
  · exact ⟨hw, good_of_word (List.mem_filter.mp hw).2⟩
theorem cj_blind {Y : cj_Y} {μ : cj_Mm} {args : List Value} : FrameBlind (va_Pc args (fun U => cj_Wd Y.1 Y.2.1 Y.2.2.2 μ U.heap ∧ cj_K Y.2.1 Y.2.2.1 U)) := fun a U g mk q => ⟨q.1, q.2.1, cj_K.same (u := U) (U := U.calling g mk a) rfl q.2.2⟩
theorem cj_after {v : Option Value} {μ' : cj_Mm} {rest : List Value} {stk : List Value} {args' : Array Value} {H : Heap} {locs : List Loc} {ls : Array Slot} (hS : va_S (cj_A Y.1 Y.2.2.2) X.2.2.2.2.1.heap H locs) (hL : lv_has ls X.2.2.2.2.2.2.2.2.2.maxLocals lv)
    (hr : va_Run X.1 X.2.1 X.2.2.1 X.2.2.2.1 X.2.2.2.2.1 X.2.2.2.2.2.1 X.2.2.2.2.2.2.1 X.2.2.2.2.2.2.2.1 X.2.2.2.2.2.2.2.2.1 X.2.2.2.2.2.2.2.2.2 H locs 0 0 0 0 (F0 X.2.2.2.2.2.1 pc ls stk) rest (cj_Q Y (v, μ') args') (cj_A Y.1 Y.2.2.2)) (kk : cj_G Y X o μ' (pc + 3) lv (v.toList ++ rest)) :
    W X.1 X.2.1 X.2.2.1 X.2.2.2.1 X.2.2.2.2.1 X.2.2.2.2.2.1 X.2.2.2.2.2.2.1 X.2.2.2.2.2.2.2.1 X.2.2.2.2.2.2.2.2.1 X.2.2.2.2.2.2.2.2.2 H locs 0 0 (MQ X.2.2.2.2.2.2.2.1 (cj_Q Y o) X.2.2.2.2.2.2.1 X.2.2.2.2.1 0 0 (cj_A Y.1 Y.2.2.2)) (F0 X.2.2.2.2.2.1 pc ls stk) := by
  intro T hT XS
  obtain ⟨v', st₀, t, T', L, h0, X', hLf, e1, e2, ⟨hv, hwd, hz, hk⟩, stp⟩ := hr T hT XS
  cases hv
  rw [h0] at hz hk
  obtain ⟨t2, a1, b1⟩ := kk T'.heap (locs ++ L) ls (by rw [e1]; exact hwd) ⟨Nat.le_trans hS.1 (by rw [e1]; exact hz), fun q h1 h2 => by rw [e1, hk q (Nat.lt_of_lt_of_le h1 hS.1) h2]; exact hS.2.1 q h1 h2, fun q hq => by
      rcases List.mem_append.mp hq with h | h
      · exact hS.2.2 q h
      · exact hLf q h⟩ hL T' rfl X'
  exact ⟨t2, stp t2 a1, b1⟩
theorem cj_callV (C : cj_C Y X cc nL own d ret) {y : MethodName} {bytes : ByteArray} {maxL n d' index g k ci N : Nat} {rt : Option FieldType} {F : cj_Fc} {fs : List Value} {T : u_T} {As rest : List Value} {v : Option Value} {μ' : cj_Mm} (hw : cj_cw y bytes maxL n rt) (hM : cj_Ct X.2.1 Y y bytes maxL rt d' (.ref (Y.2.2.2 g k) :: As) μ v μ') (hi : Cond.instanceMethod y ∈ cj_ws) (hs : Cond.selects y.cls y y ∈ cj_ws) (hl : Cond.methodLink own index y ∈ cj_ws) (he : Y.1 Y.2.2.2 g k = some F) (hF : F (μ g k) = .inr (ci, fs)) (hc : cj_cl[ci]? = some (y.cls, T, N)) (hn : As.length = n) (hd : d' + 1 ≤ d ∧ 8 + (maxL + 11) + 37 * d' ≤ 37 * d) (hcat : (rest.map fun v => v.category).sum ≤ 8) (hdg : decode cc pc = .ok (.invokevirtual index, 3)) (kk : cj_G Y X o μ' (pc + 3) lv (v.toList ++ rest)) : cj_G Y X o μ pc lv (As.reverse ++ .ref (Y.2.2.2 g k) :: rest) := by
  intro H locs ls hW hS hL
  obtain ⟨hx, hb, hml, hown, hts, hK, hI, hlk, hret, hRf, hRl, hRc, hRs⟩ := id C
  have h1 := hW g k F he
  rw [hF] at h1
  have hrecv := va_recv (q := (y.cls, T, N)) hK.1 (cj_sg h1) hc (q0 := 0) rfl
  refine cj_after hS hL (va_runV (As := As) (rest := rest) (C := y.cls) (maxL := maxL) (ret := rt) (bytes := bytes) (n := n) ⟨hx, hb, hml, hown, hts⟩ hM ⟨callB_of n hts (cj_gi hw) rfl rfl rfl (hts _ hw.2.1) (hts _ hl) hw.2.2 (by rw [hRf, hRl]; exact hd), hts _ hi, hts _ hs⟩ ⟨cj_blind, hrecv, fun U hU hWU => ⟨rfl, by rw [hU]; exact hW, hK.warm hWU⟩⟩ rfl hn (hL.1.trans hml) rfl (lv_room hcat) hdg ⟨by rw [hRc]; exact Nat.le_refl _, by rw [hRs]; exact Nat.le_refl _⟩) kk
theorem cj_callS (C : cj_C Y X cc nL own d ret) {y : MethodName} {bytes : ByteArray} {maxL n d' index : Nat} {rt : Option FieldType} {As rest : List Value} {v : Option Value} {μ' : cj_Mm} (hw : cj_cw y bytes maxL n rt) (hM : cj_Ct X.2.1 Y y bytes maxL rt d' As μ v μ') (hs : Cond.static y ∈ cj_ws) (hl : Cond.methodLink own index y ∈ cj_ws) (hn : As.length = n) (hd : d' + 1 ≤ d ∧ 8 + (maxL + 11) + 37 * d' ≤ 37 * d) (hcat : (rest.map fun v => v.category).sum ≤ 8) (hdg : decode cc pc = .ok (.invokestatic index, 3)) (kk : cj_G Y X o μ' (pc + 3) lv (v.toList ++ rest)) : cj_G Y X o μ pc lv (As.reverse ++ rest) := by
  intro H locs ls hW hS hL
  obtain ⟨hx, hb, hml, hown, hts, hK, hI, hlk, hret, hRf, hRl, hRc, hRs⟩ := id C
  refine cj_after hS hL (va_runS (As := As) (rest := rest) (maxL := maxL) (ret := rt) (bytes := bytes) (n := n) ⟨hx, hb, hml, hown, hts⟩ hM ⟨callB_of n hts (cj_gi hw) rfl rfl rfl (hts _ hw.2.1) (hts _ hl) hw.2.2 (by rw [hRf, hRl]; exact hd), hts _ hs⟩ ⟨cj_blind, fun U hU hWU => ⟨rfl, by rw [hU]; exact hW, hK.warm hWU⟩⟩ rfl hn (hL.1.trans hml) rfl (lv_room hcat) hdg ⟨by rw [hRc]; exact Nat.le_refl _, by rw [hRs]; exact Nat.le_refl _⟩) kk
theorem cj_callSN (C : cj_C Y X cc nL own d ret) {y : MethodName} {bytes : ByteArray} {maxL n d' index : Nat} {host : String} {rt : Option FieldType} {As rest : List Value} {v : Option Value} {μ' : cj_Mm} (hw : cj_cw y bytes maxL n rt) (hM : cj_Ct X.2.1 Y y bytes maxL rt d' As μ v μ') (hs : Cond.static y ∈ cj_ws) (hl : (own, index, y, host) ∈ cj_nst) (hn : As.length = n) (hd : d' + 1 ≤ d ∧ 8 + (maxL + 11) + 37 * d' ≤ 37 * d) (hcat : (rest.map fun v => v.category).sum ≤ 8) (hdg : decode cc pc = .ok (.invokestatic index, 3)) (kk : cj_G Y X o μ' (pc + 3) lv (v.toList ++ rest)) : cj_G Y X o μ pc lv (As.reverse ++ rest) := by
  intro H locs ls hW hS hL
  obtain ⟨hx, hb, hml, hown, hts, hK, hI, hlk, hret, hRf, hRl, hRc, hRs⟩ := id C
  refine cj_after hS hL (va_runSN (As := As) (rest := rest) (maxL := maxL) (ret := rt) (bytes := bytes) (n := n) (host := host) ⟨hx, hb, hml, hown, hts⟩ hM ⟨va_cnB n hts (cj_gi hw) rfl rfl rfl (hK.2 _ hl) (hts _ hw.2.1) hw.2.2 (by rw [hRf, hRl]; exact hd), hts _ hs, trivial⟩ ⟨cj_blind, fun U hU hWU => ⟨rfl, by rw [hU]; exact hW, hK.warm hWU⟩⟩ rfl hn (hL.1.trans hml) rfl (lv_room hcat) hdg ⟨by rw [hRc]; exact Nat.le_refl _, by rw [hRs]; exact Nat.le_refl _⟩) kk
end CJ3
