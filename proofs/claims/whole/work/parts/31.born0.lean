/-! constructors: cells in a row from base on, made one behind another -/
abbrev cj_BX : Type := cj_X × va_G × cj_Zc × Nat
/-- Q: the end; n0 cells and m0 slots are made at this point -/
def cj_B (B : cj_BX) (Q : State → Prop) (cs : List va_E) (pc : Nat) (lv : List (Nat × Value)) (st : List Value) (n0 m0 : Nat) : Prop :=
  ∀ (H : Heap) (locs : List Loc) (ls : Array Slot), H.size = B.2.2.2 + cs.length → (∀ i e, cs[i]? = some e → va_at B.2.1 cj_cl (B.2.2.2 + i, e) H) → va_S (fun q : Nat => B.2.2.2 ≤ q) B.1.2.2.2.2.1.heap H locs → lv_has ls B.1.2.2.2.2.2.2.2.2.2.maxLocals lv →
    W B.1.1 B.1.2.1 B.1.2.2.1 B.1.2.2.2.1 B.1.2.2.2.2.1 B.1.2.2.2.2.2.1 B.1.2.2.2.2.2.2.1 B.1.2.2.2.2.2.2.2.1 B.1.2.2.2.2.2.2.2.2.1 B.1.2.2.2.2.2.2.2.2.2 H locs n0 m0 Q (F0 B.1.2.2.2.2.2.1 pc ls st)
def cj_AO (D : va_G) (z : cj_Zc) (U : State) : Prop := cj_K D z U ∧ va_AO RX0 U
theorem cj_AO.warm {D : va_G} {z : cj_Zc} {s U : State} (hW : s.WarmedH U.vm) (h : cj_AO D z s) : cj_AO D z U := ⟨h.1.warm hW, va_AO.moved hW.alike h.2⟩
theorem cj_AO.same {D : va_G} {z : cj_Zc} {u U : State} (e : u.vm = U.vm) (h : cj_AO D z u) : cj_AO D z U := ⟨h.1.same e, va_AO.moved (by rw [← e]; exact Vm.Alike.refl u.vm) h.2⟩
def cj_BC (B : cj_BX) (cc : ByteArray) (nL : Nat) (own : String) (d mc ms : Nat) : Prop :=
  B.1.1.tables.exec = Jvm.exec ∧ B.1.2.2.2.2.2.2.2.2.2.code = cc ∧ B.1.2.2.2.2.2.2.2.2.2.maxLocals = nL ∧ B.1.2.2.2.2.1.vm.findClass own = some B.1.2.2.2.2.2.1.cls ∧ (∀ w ∈ cj_ws, w.before B.1.2.2.2.2.2.2.1 B.1.2.2.2.2.1 = true) ∧ cj_AO B.2.1 B.2.2.1 B.1.2.2.2.2.1 ∧ (own = RL ∨ B.1.2.2.2.2.2.2.2.2.1.name = "<init>") ∧ B.1.2.2.2.2.2.2.2.2.1.locks = false ∧ (own = RL ∨ B.1.2.2.2.2.2.2.2.2.1.sig.returnType = none) ∧ B.1.2.2.2.1.frames = d ∧ B.1.2.2.2.1.locals = 37 * d ∧ B.1.2.2.2.1.cells = mc ∧ B.1.2.2.2.1.slots = ms
/-- what a constructor leaves: the cells cs' from base on, nothing ahead of base changed -/
def cj_BQ (D : va_G) (base : Nat) (cs' : List va_E) : Array Value → State → Outcome → State → Prop := fun _ st oc t => oc = .returned none ∧ t.heap.size = base + cs'.length ∧ (∀ i e, cs'[i]? = some e → va_at D cj_cl (base + i, e) t.heap) ∧ va_F (fun q : Nat => base ≤ q) st t
def cj_BP (D : va_G) (z : cj_Zc) (base : Nat) (e0 : va_E) : Array Value → State → Prop := va_Pc [.ref base] (fun U => U.heap.size = base + 1 ∧ va_at D cj_cl (base, e0) U.heap ∧ cj_AO D z U)
def cj_Bt (l : Launch) (D : va_G) (z : cj_Zc) (y : MethodName) (cc : ByteArray) (nL d mc ms : Nat) (base : Nat) (e0 : va_E) (cs' : List va_E) : Prop :=
  Met l y (cj_ms y cc nL none) ({ frames := d, cells := mc, slots := ms, locals := 37 * d }) (cj_BP D z base e0) (cj_BQ D base cs') mc ms (fun q => base ≤ q)
set_option maxHeartbeats 4000000 in
theorem cj_Bt.of {l : Launch} {D : va_G} {z : cj_Zc} {y : MethodName} {cc : ByteArray} {nL d mc ms base : Nat} {e0 : va_E} {cs' : List va_E} (hy : plainName y.cls = true) (hini : y.name = "<init>") (hn : 1 ≤ nL)
    (body : ∀ X : cj_X, X.2.1 = l → cj_BC (X, D, z, base) cc nL y.cls d mc ms → cj_B (X, D, z, base) (MQ X.2.2.2.2.2.2.2.1 (cj_BQ D base cs') X.2.2.2.2.2.2.1 X.2.2.2.2.1 mc ms (fun q => base ≤ q)) [e0] 0 [(0, .ref base)] [] 0 0) : cj_Bt l D z y cc nL d mc ms base e0 cs' := by
  refine Met.ofW (cc := cc) (maxL := nL) (ret := none) hy rfl ?_
  intro p e s m args' below meth c s₁ B hml hv
  obtain ⟨rfl, hsz, hP, hK⟩ := hv
  have hts := atoms_spec (ws := cj_ms y cc nL none) B.pre
  have hown : s.vm.findClass y.cls = some m.cls := findClass_of_methodNamed B.named
  have hin : meth.name = "<init>" := (name_of_methodNamed B.named B.method).1.trans hini
  have hl := lv_entry [Value.ref base] (n := nL) (by exact hn)
  rw [lg_entry_eq]
  rw [← hml] at hl
  exact body (p, l, e, ({ frames := d, cells := mc, slots := ms, locals := 37 * d } : Jvm.Room), s, m, [Value.ref base].toArray, below, meth, c) rfl ⟨B.exec, B.bytes, hml, hown, fun w hw => hts w (List.mem_cons_of_mem _ hw), hK, Or.inr hin, B.notSynchronized, Or.inr B.returns, rfl, rfl, rfl, rfl⟩ s.heap [] _ hsz (fun i e hi => by
    match i, hi with
    | 0, hi => cases hi; exact hP
    | i + 1, hi => cases hi) va_S.rf (by rw [hml] at hl ⊢; exact hl)
section CJB
variable {B : cj_BX} {Q : State → Prop} {cs cs2 : List va_E} {pc n0 m0 : Nat} {lv lv' : List (Nat × Value)} {st : List Value} {cc : ByteArray} {nL d mc ms : Nat} {own : String}
theorem cjb_aload_n (C : cj_BC B cc nL own d mc ms) {k : Fin 4} {i : Nat} {x : Nat} (hdg : decode cc pc = .ok (.aload_n k, 1)) (hi : (k : Nat) = i) (j : Nat) (hl : lv[j]? = some (i, .ref x)) (kk : cj_B B Q cs (pc + 1) lv (.ref x :: st) n0 m0) : cj_B B Q cs pc lv st n0 m0 := fun H locs ls hz hP hS hL => lv_aload_n C.1 C.2.1 hdg hi (lv_at hL j hl) (kk H locs ls hz hP hS hL)
theorem cjb_iload_n (C : cj_BC B cc nL own d mc ms) {k : Fin 4} {i : Nat} {x : Int32} (hdg : decode cc pc = .ok (.iload_n k, 1)) (hi : (k : Nat) = i) (j : Nat) (hl : lv[j]? = some (i, .int x)) (kk : cj_B B Q cs (pc + 1) lv (.int x :: st) n0 m0) : cj_B B Q cs pc lv st n0 m0 := fun H locs ls hz hP hS hL => lv_iload_n C.1 C.2.1 hdg hi (lv_at hL j hl) (kk H locs ls hz hP hS hL)
theorem cjb_iconst (C : cj_BC B cc nL own d mc ms) {n : Int} (v : Int32) (hdg : decode cc pc = .ok (.iconst n, 1)) (hv : Int32.ofInt n = v) (kk : cj_B B Q cs (pc + 1) lv (.int v :: st) n0 m0) : cj_B B Q cs pc lv st n0 m0 := fun H locs ls hz hP hS hL => lv_iconst C.1 C.2.1 hdg hv (kk H locs ls hz hP hS hL)
theorem cjb_bipush (C : cj_BC B cc nL own d mc ms) {n : Int} (v : Int32) (hdg : decode cc pc = .ok (.bipush n, 2)) (hv : (Int8.ofInt n).toInt32 = v) (kk : cj_B B Q cs (pc + 2) lv (.int v :: st) n0 m0) : cj_B B Q cs pc lv st n0 m0 := fun H locs ls hz hP hS hL => lv_bipush C.1 C.2.1 hdg hv (kk H locs ls hz hP hS hL)
theorem cjb_sipush (C : cj_BC B cc nL own d mc ms) {n : Int} (v : Int32) (hdg : decode cc pc = .ok (.sipush n, 3)) (hv : (Int16.ofInt n).toInt32 = v) (kk : cj_B B Q cs (pc + 3) lv (.int v :: st) n0 m0) : cj_B B Q cs pc lv st n0 m0 := fun H locs ls hz hP hS hL => lv_sipush C.1 C.2.1 hdg hv (kk H locs ls hz hP hS hL)
theorem cjb_dup (C : cj_BC B cc nL own d mc ms) {a : Value} (hdg : decode cc pc = .ok (.dup, 1)) (ha : a.category = 1) (kk : cj_B B Q cs (pc + 1) lv (a :: a :: st) n0 m0) : cj_B B Q cs pc lv (a :: st) n0 m0 := fun H locs ls hz hP hS hL => lv_dup C.1 C.2.1 hdg ha (kk H locs ls hz hP hS hL)
theorem cjb_istore_n (C : cj_BC B cc nL own d mc ms) {k : Fin 4} {i : Nat} {x : Int32} (hdg : decode cc pc = .ok (.istore_n k, 1)) (hi : (k : Nat) = i) (hn : i < nL) (hl : (i, Value.int x) :: lv.filter (fun q => !(q.1 == i) && !(q.1 + 1 == i && q.2.category == 2)) = lv') (kk : cj_B B Q cs (pc + 1) lv' st n0 m0) : cj_B B Q cs pc lv (.int x :: st) n0 m0 :=
  fun H locs ls hz hP hS hL => lv_istore_n C.1 C.2.1 hdg hi hL (by rw [C.2.2.1]; exact hn) hl (fun ls' h => kk H locs ls' hz hP hS h)
theorem cjb_iinc (C : cj_BC B cc nL own d mc ms) {i j : Nat} {n : Int} {x v : Int32} (hdg : decode cc pc = .ok (.iinc i n, 3)) (hk : lv[j]? = some (i, .int x)) (hv : x + Int32.ofInt n = v) (hn : i < nL) (hl : (i, Value.int v) :: lv.filter (fun q => !(q.1 == i) && !(q.1 + 1 == i && q.2.category == 2)) = lv') (kk : cj_B B Q cs (pc + 3) lv' st n0 m0) : cj_B B Q cs pc lv st n0 m0 :=
  fun H locs ls hz hP hS hL => lv_iinc C.1 C.2.1 hdg hL hk hv (by rw [C.2.2.1]; exact hn) hl (fun ls' h => kk H locs ls' hz hP hS h)
theorem cjb_goto (C : cj_BC B cc nL own d mc ms) {off : Int} (tgt : Nat) (hdg : decode cc pc = .ok (.goto off, 3)) (ht : (pc : Int) + off = (tgt : Int)) (kk : cj_B B Q cs tgt lv st n0 m0) : cj_B B Q cs pc lv st n0 m0 := fun H locs ls hz hP hS hL => lv_goto C.1 C.2.1 hdg ht (kk H locs ls hz hP hS hL)
theorem cjb_geT (C : cj_BC B cc nL own d mc ms) {x y : Int32} {off : Int} (tgt : Nat) (hdg : decode cc pc = .ok (.if_icmp .ge off, 3)) (ht : (pc : Int) + off = (tgt : Int)) (h : y ≤ x) (kk : cj_B B Q cs tgt lv st n0 m0) : cj_B B Q cs pc lv (.int y :: .int x :: st) n0 m0 := fun H locs ls hz hP hS hL => lv_icmp_ge C.1 C.2.1 hdg ht (fun _ => kk H locs ls hz hP hS hL) (fun q => absurd h q)
theorem cjb_geF (C : cj_BC B cc nL own d mc ms) {x y : Int32} {off : Int} (tgt : Nat) (hdg : decode cc pc = .ok (.if_icmp .ge off, 3)) (ht : (pc : Int) + off = (tgt : Int)) (h : ¬ y ≤ x) (kk : cj_B B Q cs (pc + 3) lv st n0 m0) : cj_B B Q cs pc lv (.int y :: .int x :: st) n0 m0 := fun H locs ls hz hP hS hL => lv_icmp_ge C.1 C.2.1 hdg ht (fun q => absurd q h) (fun _ => kk H locs ls hz hP hS hL)
theorem cjb_astore_n (C : cj_BC B cc nL own d mc ms) {k : Fin 4} {i : Nat} {x : Nat} (hdg : decode cc pc = .ok (.astore_n k, 1)) (hi : (k : Nat) = i) (hn : i < nL) (hl : (i, Value.ref x) :: lv.filter (fun q => !(q.1 == i) && !(q.1 + 1 == i && q.2.category == 2)) = lv') (kk : cj_B B Q cs (pc + 1) lv' st n0 m0) : cj_B B Q cs pc lv (.ref x :: st) n0 m0 :=
  fun H locs ls hz hP hS hL => lv_astore_n C.1 C.2.1 hdg hi hL (by rw [C.2.2.1]; exact hn) hl (fun ls' h => kk H locs ls' hz hP hS h)
theorem cjb_sub (ks : List Nat) (hl : lv_pick lv ks = lv') (kk : cj_B B Q cs pc lv' st n0 m0) : cj_B B Q cs pc lv st n0 m0 := fun H locs ls hz hP hS hL => kk H locs ls hz hP hS (lv_sub hL ks hl)
theorem cjb_obj (C : cj_BC B cc nL own d mc ms) {idx a : Nat} (hl : Cond.methodLink own idx objectInit ∈ cj_ws) (hi : Cond.instanceMethod objectInit ∈ cj_ws) (hc : Cond.code objectInit ⟨#[0xb1]⟩ 1 none ∈ cj_ws) (hd : 1 ≤ d) (hcat : (st.map fun v => v.category).sum + 12 ≤ 37) (hdg : decode cc pc = .ok (.invokespecial idx, 3)) (kk : cj_B B Q cs (pc + 3) lv st n0 m0) : cj_B B Q cs pc lv (.ref a :: st) n0 m0 := by
  intro H locs ls hz hP hS hL
  obtain ⟨hx, hb, hml, hown, hts, hK, hin, hlk, hret, hRf, hRl, hRc, hRs⟩ := id C
  exact W.objInit hx hb hown (hts _ hl) (hts _ hi) (hts _ hc) rfl hL.1 rfl hdg (by rw [hRf]; exact hd) (by rw [hRl]; show 2 * 0 + _ + 12 ≤ _; omega) (kk H locs ls hz hP hS hL)
theorem cjb_hold {D : va_G} {base : Nat} {H H1 : Heap} (hz : H.size = base + cs.length) (hP : ∀ i e, cs[i]? = some e → va_at D cj_cl (base + i, e) H) {e1 : va_E} (h1 : va_at D cj_cl (H.size, e1) H1) (z1 : H1.size = H.size + 1) (o1 : ∀ q, q < H.size → H1[q]? = H[q]?) : H1.size = base + (cs ++ [e1]).length ∧ ∀ i e, (cs ++ [e1])[i]? = some e → va_at D cj_cl (base + i, e) H1 := by
  refine ⟨by rw [List.length_append, z1, hz]; rfl, fun i e hi => ?_⟩
  rcases Nat.lt_or_ge i cs.length with h | h
  · rw [List.getElem?_append_left h] at hi
    exact (hP i e hi).kept (o1 _ (by show base + i < H.size; omega))
  · rw [List.getElem?_append_right h] at hi
    have h0 : i - cs.length < 1 := (List.getElem?_eq_some_iff.mp hi).1
    have hi0 : i = cs.length := by omega
    subst hi0
    rw [Nat.sub_self] at hi
    cases hi
    rw [← hz]
    exact h1
theorem cjb_set {D : va_G} {base i : Nat} {H H1 : Heap} {e0 e1 : va_E} (hP : ∀ i e, cs[i]? = some e → va_at D cj_cl (base + i, e) H) (hi : cs[i]? = some e0) (h1 : va_at D cj_cl (base + i, e1) H1) (oq : ∀ q : Nat, q ≠ base + i → H1[q]? = H[q]?) : ∀ j e, (cs.set i e1)[j]? = some e → va_at D cj_cl (base + j, e) H1 := by
  intro j e hj
  have hl := (List.getElem?_eq_some_iff.mp hi).1
  by_cases h : j = i
  · subst h
    rw [List.getElem?_set_self hl] at hj
    cases hj
    exact h1
  · rw [List.getElem?_set_ne (fun e => h e.symm)] at hj
    exact (hP j e hj).kept (oq _ (by show base + j ≠ base + i; omega))
theorem cjb_new (C : cj_BC B cc nL own d mc ms) {Cn : String} {T : u_T} {N ci index n : Nat} {fs : List Value} (hc : cj_cl[ci]? = some (Cn, T, N)) (hin : ∀ w ∈ u_ws Cn T N, w ∈ cj_ws) (ty : Nat → FieldType) (hty : ∀ k, k < N → parseFieldDescriptor (T k).2.2.1 = some (ty k)) (hcl : Cond.classLink own index Cn ∈ cj_ws) (hins : Cond.instantiable Cn N ∈ cj_ws) (hini : Cond.initialized Cn ∈ cj_ws) (hfs : ∀ j, j < N → defaultValue (ty j) = vp_V fs j) (hn : cs.length = n) (hcells : n0 + 1 ≤ mc) (hslots : m0 + N ≤ ms) (hdg : decode cc pc = .ok (.new index, 3)) (kk : cj_B B Q (cs ++ [.inr (ci, fs)]) (pc + 3) lv (.ref (B.2.2.2 + n) :: st) (n0 + 1) (m0 + N)) : cj_B B Q cs pc lv st n0 m0 := by
  intro H locs ls hz hP hS hL
  obtain ⟨hx, hb, hml, hown, hts, hK, hin0, hlk, hret, hRf, hRl, hRc, hRs⟩ := id C
  have hKn := hK.1.1.1 ci _ hc
  refine W.newcK hx hb hown (hts _ hcl) (hts _ hins) (hts _ hini) rfl hdg (by rw [hRc]; exact hcells) (by rw [hRs]; exact hslots) hKn.2.1 rfl fun H1 kC hkC e1 z1 o1 => ?_
  have hborn : va_at B.2.1 cj_cl (H.size, .inr (ci, fs)) H1 := ⟨_, hc, (u_born ty hts hin hKn hkC e1 hty).to hfs⟩
  obtain ⟨q1, q2⟩ := cjb_hold hz hP hborn z1 o1
  have e9 : B.2.2.2 + n = H.size := by rw [hz, hn]
  have K := kk H1 locs ls q1 q2 ⟨Nat.le_trans hS.1 (by omega), fun q h1 h2 => (o1 q (Nat.lt_of_lt_of_le h1 hS.1)).trans (hS.2.1 q h1 h2), hS.2.2⟩ hL
  rw [e9] at K
  exact K
theorem cjb_newa (C : cj_BC B cc nL own d mc ms) {at_ : ArrayType} {ty : FieldType} {cA : ClassId} {t0 N n : Nat} {v : Int32} (hty : newarray.typeOf at_ = ty) (harr : Cond.arrayClass ty ∈ cj_ws) (ht : (cj_ty B.2.2.1)[t0]? = some (cA, ty)) (hra : ∀ U, va_RA U cA ty → U.vm.findClass ("[" ++ ty.toString) = some cA) (hdf : defaultValue ty = .int 0) (hv : ¬ v < 0) (hN : v.toNatClampNeg = N) (hby : N * componentBytes ty ≤ 536870912) (hn : cs.length = n) (hcells : n0 + 1 ≤ mc) (hslots : m0 + N ≤ ms) (hdg : decode cc pc = .ok (.newarray at_, 2)) (kk : cj_B B Q (cs ++ [.inl (cA, N, .inl (fun _ => 0))]) (pc + 2) lv (.ref (B.2.2.2 + n) :: st) (n0 + 1) (m0 + N)) : cj_B B Q cs pc lv (.int v :: st) n0 m0 := by
  intro H locs ls hz hP hS hL
  obtain ⟨hx, hb, hml, hown, hts, hK, hin0, hlk, hret, hRf, hRl, hRc, hRs⟩ := id C
  subst hty
  refine va_newaK hx hb (hts _ harr) rfl hdg rfl hv hN hby (by rw [hRc]; exact hcells) (by rw [hRs]; exact hslots) rfl fun H1 cA' e1 z1 o1 _ hf => ?_
  have hcA : cA' = cA := Option.some.inj (hf.symm.trans (hra _ (hK.1.1.2 t0 _ ht).2))
  subst hcA
  have hborn : va_at B.2.1 cj_cl (H.size, .inl (cA', N, .inl (fun _ => 0))) H1 := by
    show H1[H.size]? = some (vp_cell cA' (N, .inl (fun _ => 0)))
    rw [e1, hdf]
    rfl
  obtain ⟨q1, q2⟩ := cjb_hold hz hP hborn z1 o1
  have e9 : B.2.2.2 + n = H.size := by rw [hz, hn]
  have K := kk H1 locs ls q1 q2 ⟨Nat.le_trans hS.1 (by omega), fun q h1 h2 => (o1 q (Nat.lt_of_lt_of_le h1 hS.1)).trans (hS.2.1 q h1 h2), hS.2.2⟩ hL
  rw [e9] at K
  exact K
theorem cjb_newq (C : cj_BC B cc nL own d mc ms) {index N n : Nat} {v : Int32} (hcl : Cond.classLink own index RX0 ∈ cj_ws) (hv : ¬ v < 0) (hN : v.toNatClampNeg = N) (hby : N * 4 ≤ 536870912) (hn : cs.length = n) (hcells : n0 + 1 ≤ mc) (hslots : m0 + N ≤ ms) (hdg : decode cc pc = .ok (.anewarray index, 3)) (kk : cj_B B Q (cs ++ [.inl (B.2.2.1.2.2, N, .inr (.inr (.inr (.inr (fun _ => none)))))]) (pc + 3) lv (.ref (B.2.2.2 + n) :: st) (n0 + 1) (m0 + N)) : cj_B B Q cs pc lv (.int v :: st) n0 m0 := by
  intro H locs ls hz hP hS hL
  obtain ⟨hx, hb, hml, hown, hts, hK, hin0, hlk, hret, hRf, hRl, hRc, hRs⟩ := id C
  subst hN
  refine W.anew hx hb hown (hts _ hcl) (va_AO.use hK.2) rfl hdg rfl hv hby (by rw [hRc]; exact hcells) (by rw [hRs]; exact hslots) fun cA kA comp f1 f2 f3 f4 => ?_
  obtain ⟨kB, comp2, g1, g2, g3, g4⟩ := (hK.1.1.2 2 _ rfl).2
  have hcA : cA = B.2.2.1.2.2 := Option.some.inj (f1.symm.trans g4)
  subst hcA
  generalize hH1 : H.push ({ cls := B.2.2.1.2.2, slots := Array.replicate v.toNatClampNeg .null, vm := .none } : Cell) = H1
  have z1 : H1.size = H.size + 1 := by rw [← hH1, Array.size_push]
  have e1 : H1[H.size]? = some (arrV B.2.2.1.2.2 v.toNatClampNeg (fun _ => .null)) := by rw [← hH1, Array.getElem?_push_size, ← arrV_new]
  have o1 : ∀ q : Nat, q < H.size → H1[q]? = H[q]? := fun q hq => by rw [← hH1, Array.getElem?_push, if_neg (Nat.ne_of_lt hq)]
  have hborn : va_at B.2.1 cj_cl (H.size, .inl (B.2.2.1.2.2, v.toNatClampNeg, .inr (.inr (.inr (.inr (fun _ => none)))))) H1 := e1
  obtain ⟨q1, q2⟩ := cjb_hold hz hP hborn z1 o1
  have e9 : B.2.2.2 + n = H.size := by rw [hz, hn]
  have K := kk H1 locs ls q1 q2 ⟨Nat.le_trans hS.1 (by omega), fun q h1 h2 => (o1 q (Nat.lt_of_lt_of_le h1 hS.1)).trans (hS.2.1 q h1 h2), hS.2.2⟩ hL
  rw [e9] at K
  exact K
end CJB
