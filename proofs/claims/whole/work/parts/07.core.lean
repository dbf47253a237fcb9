/-! the frame of the whole proof: worlds of cells by group and place, one judgement, one row an instruction -/
abbrev cj_cl : List vw_C := [(RX0, TX0, 10), (RX1, TX1, 3), (RX2, TX2, 7), (RX3, TX3, 8), (RX4, TX4, 4), (RX5, TX5, 3), (RX6, TX6, 6), (RX7, TX7, 6), (RX8, TX8, 6), (RX9, TX9, 15)]
def cj_ws : List Cond := lw_tbl.filter goodWord
theorem cj_mem {w : Cond} (i : Nat) (h : lw_tbl[i]? = some w) (hg : goodWord w = true) : w ∈ cj_ws := List.mem_filter.mpr ⟨List.mem_of_getElem? h, hg⟩
theorem cj_good {ws : List Cond} (h : GoodIn lw_tbl ws) : ∀ w ∈ ws, w ∈ cj_ws := fun w hw => List.mem_filter.mpr ⟨(h w hw).1, by
  rcases (h w hw).2 with q | ⟨ty, rfl⟩
  · cases w <;> first | rfl | exact q
  · rfl⟩
def cj_nst : List (String × Nat × MethodName × String) := [
  ("CourtJotter", 9, ⟨"CourtJotter$Court", "<init>", "()V"⟩, "CourtJotter"),
  ("CourtJotter$Court", 20, ⟨"CourtJotter$Sheets", "<init>", "()V"⟩, "CourtJotter"),
  ("CourtJotter$Court", 27, ⟨"CourtJotter$Papers", "<init>", "()V"⟩, "CourtJotter"),
  ("CourtJotter$History", 17, ⟨"CourtJotter$Court", "<init>", "()V"⟩, "CourtJotter"),
  ("CourtJotter", 28, ⟨"CourtJotter$Text", "<init>", "()V"⟩, "CourtJotter"),
  ("CourtJotter", 35, ⟨"CourtJotter$Rehearsal", "<init>", "()V"⟩, "CourtJotter"),
  ("CourtJotter", 42, ⟨"CourtJotter$Sale", "<init>", "()V"⟩, "CourtJotter"),
  ("CourtJotter$People", 37, ⟨"CourtJotter", "copyRow", "([I[I)V"⟩, "CourtJotter"),
  ("CourtJotter$Sheets", 31, ⟨"CourtJotter", "copyRow", "([I[I)V"⟩, "CourtJotter"),
  ("CourtJotter$Papers", 34, ⟨"CourtJotter", "copyRow", "([I[I)V"⟩, "CourtJotter"),
  ("CourtJotter$Court", 64, ⟨"CourtJotter", "isWithin", "(III)Z"⟩, "CourtJotter"),
  ("CourtJotter$Court", 117, ⟨"CourtJotter", "hasBit", "(II)Z"⟩, "CourtJotter"),
  ("CourtJotter$People", 57, ⟨"CourtJotter", "hasBit", "(II)Z"⟩, "CourtJotter"),
  ("CourtJotter$Text", 15, ⟨"CourtJotter", "isWithin", "(III)Z"⟩, "CourtJotter")]
theorem cj_nst_tbl : ∀ q ∈ cj_nst, Cond.methodLinkNest q.1 q.2.1 q.2.2.1 q.2.2.2 ∈ lw_tbl := by decide +kernel
def cj_NW (U : State) : Prop := ∀ q ∈ cj_nst, va_Nw (.methodLinkNest q.1 q.2.1 q.2.2.1 q.2.2.2) U
theorem cj_NW.warm {s U : State} (hW : s.WarmedH U.vm) (h : cj_NW s) : cj_NW U := fun q hq => va_Nw.warmM hW (h q hq)
theorem cj_NW.same {u U : State} (h : u.vm = U.vm) (hn : cj_NW u) : cj_NW U := fun q hq => va_Nw.same rfl h (hn q hq)
abbrev cj_Zc : Type := ClassId × ClassId × ClassId
abbrev cj_ty (z : cj_Zc) : List (ClassId × FieldType) := [(z.1, .int), (z.2.1, .char), (z.2.2, .object RX0)]
def cj_K (D : va_G) (z : cj_Zc) (U : State) : Prop := va_K D cj_cl (cj_ty z) U ∧ cj_NW U
theorem cj_K.warm {D : va_G} {z : cj_Zc} {s U : State} (hW : s.WarmedH U.vm) (h : cj_K D z s) : cj_K D z U := ⟨va_K.moved hW.alike h.1, h.2.warm hW⟩
theorem cj_K.same {D : va_G} {z : cj_Zc} {u U : State} (e : u.vm = U.vm) (h : cj_K D z u) : cj_K D z U := ⟨va_K.moved (by rw [← e]; exact Vm.Alike.refl u.vm) h.1, h.2.same e⟩
abbrev cj_Mm : Type := Nat → Nat → Nat → Int32
abbrev cj_Ad : Type := Nat → Nat → Nat
abbrev cj_Fc : Type := (Nat → Int32) → va_E
abbrev cj_En : Type := cj_Ad → Nat → Nat → Option cj_Fc
def cj_Wd (E : cj_En) (D : va_G) (ad : cj_Ad) (μ : cj_Mm) (H : Heap) : Prop := ∀ g k F, E ad g k = some F → va_at D cj_cl (ad g k, F (μ g k)) H
def cj_Ij (E : cj_En) (ad : cj_Ad) : Prop := ∀ g k g' k' F F', E ad g k = some F → E ad g' k' = some F' → ad g k = ad g' k' → g = g' ∧ k = k'
def cj_A (E : cj_En) (ad : cj_Ad) : Nat → Prop := fun q => ∃ g k F, E ad g k = some F ∧ q = ad g k
abbrev cj_Y : Type := cj_En × va_G × cj_Zc × cj_Ad
abbrev cj_X : Type := Program × Launch × Env × Room × State × MethodId × Array Value × List Frame × Method × Code
def cj_Q (Y : cj_Y) (o : Option Value × cj_Mm) : Array Value → State → Outcome → State → Prop := fun _ st oc t => oc = .returned o.1 ∧ cj_Wd Y.1 Y.2.1 Y.2.2.2 o.2 t.heap ∧ va_F (cj_A Y.1 Y.2.2.2) st t
def cj_G (Y : cj_Y) (X : cj_X) (o : Option Value × cj_Mm) (μ : cj_Mm) (pc : Nat) (lv : List (Nat × Value)) (st : List Value) : Prop :=
  ∀ (H : Heap) (locs : List Loc) (ls : Array Slot), cj_Wd Y.1 Y.2.1 Y.2.2.2 μ H → va_S (cj_A Y.1 Y.2.2.2) X.2.2.2.2.1.heap H locs → lv_has ls X.2.2.2.2.2.2.2.2.2.maxLocals lv →
    W X.1 X.2.1 X.2.2.1 X.2.2.2.1 X.2.2.2.2.1 X.2.2.2.2.2.1 X.2.2.2.2.2.2.1 X.2.2.2.2.2.2.2.1 X.2.2.2.2.2.2.2.2.1 X.2.2.2.2.2.2.2.2.2 H locs 0 0 (MQ X.2.2.2.2.2.2.2.1 (cj_Q Y o) X.2.2.2.2.2.2.1 X.2.2.2.2.1 0 0 (cj_A Y.1 Y.2.2.2)) (F0 X.2.2.2.2.2.1 pc ls st)
/-- what a walk rests on -/
def cj_C (Y : cj_Y) (X : cj_X) (cc : ByteArray) (nL : Nat) (own : String) (d : Nat) (ret : Option FieldType) : Prop :=
  X.1.tables.exec = Jvm.exec ∧ X.2.2.2.2.2.2.2.2.2.code = cc ∧ X.2.2.2.2.2.2.2.2.2.maxLocals = nL ∧ X.2.2.2.2.1.vm.findClass own = some X.2.2.2.2.2.1.cls ∧ (∀ w ∈ cj_ws, w.before X.2.2.2.2.2.2.1 X.2.2.2.2.1 = true) ∧ cj_K Y.2.1 Y.2.2.1 X.2.2.2.2.1 ∧ cj_Ij Y.1 Y.2.2.2 ∧ X.2.2.2.2.2.2.2.2.1.locks = false ∧ X.2.2.2.2.2.2.2.2.1.sig.returnType = ret ∧ X.2.2.2.1.frames = d ∧ X.2.2.2.1.locals = 37 * d ∧ X.2.2.2.1.cells = 0 ∧ X.2.2.2.1.slots = 0
abbrev cj_ms (y : MethodName) (cc : ByteArray) (nL : Nat) (ret : Option FieldType) : List Cond := .code y cc nL ret :: cj_ws
/-- a method's contract: over the whole world, from memory μ to memory μ' with the answer v -/
def cj_Ct (l : Launch) (Y : cj_Y) (y : MethodName) (cc : ByteArray) (nL : Nat) (ret : Option FieldType) (d : Nat) (args : List Value) (μ : cj_Mm) (v : Option Value) (μ' : cj_Mm) : Prop :=
  Met l y (cj_ms y cc nL ret) ({ frames := d, cells := 0, slots := 0, locals := 37 * d }) (va_Pc args (fun U => cj_Wd Y.1 Y.2.1 Y.2.2.2 μ U.heap ∧ cj_K Y.2.1 Y.2.2.1 U)) (cj_Q Y (v, μ')) 0 0 (cj_A Y.1 Y.2.2.2)
set_option maxHeartbeats 4000000 in
theorem cj_Ct.of {l : Launch} {Y : cj_Y} {y : MethodName} {cc : ByteArray} {nL : Nat} {ret : Option FieldType} {d : Nat} {args : List Value} {μ μ' : cj_Mm} {v : Option Value} (hy : plainName y.cls = true) (hI : cj_Ij Y.1 Y.2.2.2) (hn : (lg_sl args).length ≤ nL) (lv : List (Nat × Value)) (hlv : lv_args 0 args = lv)
    (body : ∀ X : cj_X, X.2.1 = l → cj_C Y X cc nL y.cls d ret → cj_G Y X (v, μ') μ 0 lv []) : cj_Ct l Y y cc nL ret d args μ v μ' := by
  refine Met.ofW (cc := cc) (maxL := nL) (ret := ret) hy rfl ?_
  intro p e s m args' below meth c s₁ B hml hv
  obtain ⟨rfl, hP, hK⟩ := hv
  have hts := atoms_spec (ws := cj_ms y cc nL ret) B.pre
  have hown : s.vm.findClass y.cls = some m.cls := findClass_of_methodNamed B.named
  have hl := lv_entry args (n := nL) hn
  rw [lg_entry_eq]
  rw [hlv, ← hml] at hl
  exact body (p, l, e, _, s, m, args.toArray, below, meth, c) rfl ⟨B.exec, B.bytes, hml, hown, fun w hw => hts w (List.mem_cons_of_mem _ hw), hK, hI, B.notSynchronized, B.returns, rfl, rfl, rfl, rfl⟩ s.heap [] _ hP va_S.rf (by rw [hml] at hl ⊢; exact hl)
section CJ1
variable {Y : cj_Y} {X : cj_X} {o : Option Value × cj_Mm} {μ : cj_Mm} {pc : Nat} {lv lv' : List (Nat × Value)} {st : List Value} {cc : ByteArray} {nL d : Nat} {own : String} {ret : Option FieldType}
theorem cj_iload_n (C : cj_C Y X cc nL own d ret) {k : Fin 4} {i : Nat} {x : Int32} (hdg : decode cc pc = .ok (.iload_n k, 1)) (hi : (k : Nat) = i) (j : Nat) (hl : lv[j]? = some (i, .int x)) (kk : cj_G Y X o μ (pc + 1) lv (.int x :: st)) : cj_G Y X o μ pc lv st :=
  fun H locs ls hW hS hL => lv_iload_n C.1 C.2.1 hdg hi (lv_at hL j hl) (kk H locs ls hW hS hL)
theorem cj_iload (C : cj_C Y X cc nL own d ret) {i : Nat} {x : Int32} (hdg : decode cc pc = .ok (.iload i, 2)) (j : Nat) (hl : lv[j]? = some (i, .int x)) (kk : cj_G Y X o μ (pc + 2) lv (.int x :: st)) : cj_G Y X o μ pc lv st :=
  fun H locs ls hW hS hL => lv_iload C.1 C.2.1 hdg (lv_at hL j hl) (kk H locs ls hW hS hL)
theorem cj_aload_n (C : cj_C Y X cc nL own d ret) {k : Fin 4} {i : Nat} {x : Nat} (hdg : decode cc pc = .ok (.aload_n k, 1)) (hi : (k : Nat) = i) (j : Nat) (hl : lv[j]? = some (i, .ref x)) (kk : cj_G Y X o μ (pc + 1) lv (.ref x :: st)) : cj_G Y X o μ pc lv st :=
  fun H locs ls hW hS hL => lv_aload_n C.1 C.2.1 hdg hi (lv_at hL j hl) (kk H locs ls hW hS hL)
theorem cj_aload (C : cj_C Y X cc nL own d ret) {i : Nat} {x : Nat} (hdg : decode cc pc = .ok (.aload i, 2)) (j : Nat) (hl : lv[j]? = some (i, .ref x)) (kk : cj_G Y X o μ (pc + 2) lv (.ref x :: st)) : cj_G Y X o μ pc lv st :=
  fun H locs ls hW hS hL => lv_aload C.1 C.2.1 hdg (lv_at hL j hl) (kk H locs ls hW hS hL)
theorem cj_fload_n (C : cj_C Y X cc nL own d ret) {k : Fin 4} {i : Nat} {x : UInt32} (hdg : decode cc pc = .ok (.fload_n k, 1)) (hi : (k : Nat) = i) (j : Nat) (hl : lv[j]? = some (i, .float x)) (kk : cj_G Y X o μ (pc + 1) lv (.float x :: st)) : cj_G Y X o μ pc lv st :=
  fun H locs ls hW hS hL => lv_fload_n C.1 C.2.1 hdg hi (lv_at hL j hl) (kk H locs ls hW hS hL)
theorem cj_iconst (C : cj_C Y X cc nL own d ret) {n : Int} (v : Int32) (hdg : decode cc pc = .ok (.iconst n, 1)) (hv : Int32.ofInt n = v) (kk : cj_G Y X o μ (pc + 1) lv (.int v :: st)) : cj_G Y X o μ pc lv st :=
  fun H locs ls hW hS hL => lv_iconst C.1 C.2.1 hdg hv (kk H locs ls hW hS hL)
theorem cj_bipush (C : cj_C Y X cc nL own d ret) {n : Int} (v : Int32) (hdg : decode cc pc = .ok (.bipush n, 2)) (hv : (Int8.ofInt n).toInt32 = v) (kk : cj_G Y X o μ (pc + 2) lv (.int v :: st)) : cj_G Y X o μ pc lv st :=
  fun H locs ls hW hS hL => lv_bipush C.1 C.2.1 hdg hv (kk H locs ls hW hS hL)
theorem cj_sipush (C : cj_C Y X cc nL own d ret) {n : Int} (v : Int32) (hdg : decode cc pc = .ok (.sipush n, 3)) (hv : (Int16.ofInt n).toInt32 = v) (kk : cj_G Y X o μ (pc + 3) lv (.int v :: st)) : cj_G Y X o μ pc lv st :=
  fun H locs ls hW hS hL => lv_sipush C.1 C.2.1 hdg hv (kk H locs ls hW hS hL)
theorem cj_ldc (C : cj_C Y X cc nL own d ret) {index : Nat} {v : Int32} (hw : Cond.constant own index v ∈ cj_ws) (hdg : decode cc pc = .ok (.ldc index, 2)) (kk : cj_G Y X o μ (pc + 2) lv (.int v :: st)) : cj_G Y X o μ pc lv st :=
  fun H locs ls hW hS hL => lv_ldc C.1 C.2.1 C.2.2.2.1 (C.2.2.2.2.1 _ hw) hdg (kk H locs ls hW hS hL)
theorem cj_ldcw (C : cj_C Y X cc nL own d ret) {index : Nat} {v : Int32} (hw : Cond.constant own index v ∈ cj_ws) (hdg : decode cc pc = .ok (.ldc_w index, 3)) (kk : cj_G Y X o μ (pc + 3) lv (.int v :: st)) : cj_G Y X o μ pc lv st :=
  fun H locs ls hW hS hL => lv_ldcw C.1 C.2.1 C.2.2.2.1 (C.2.2.2.2.1 _ hw) hdg (kk H locs ls hW hS hL)
theorem cj_ldcf (C : cj_C Y X cc nL own d ret) {index : Nat} {v : UInt32} (hw : Cond.constantFloat own index v ∈ cj_ws) (hdg : decode cc pc = .ok (.ldc index, 2)) (kk : cj_G Y X o μ (pc + 2) lv (.float v :: st)) : cj_G Y X o μ pc lv st :=
  fun H locs ls hW hS hL => lv_ldcf C.1 C.2.1 C.2.2.2.1 (C.2.2.2.2.1 _ hw) hdg (kk H locs ls hW hS hL)
theorem cj_istore_n (C : cj_C Y X cc nL own d ret) {k : Fin 4} {i : Nat} {x : Int32} (hdg : decode cc pc = .ok (.istore_n k, 1)) (hi : (k : Nat) = i) (hn : i < nL) (hl : (i, Value.int x) :: lv.filter (fun q => !(q.1 == i) && !(q.1 + 1 == i && q.2.category == 2)) = lv') (kk : cj_G Y X o μ (pc + 1) lv' st) : cj_G Y X o μ pc lv (.int x :: st) :=
  fun H locs ls hW hS hL => lv_istore_n C.1 C.2.1 hdg hi hL (by rw [C.2.2.1]; exact hn) hl (fun ls' h => kk H locs ls' hW hS h)
theorem cj_istore (C : cj_C Y X cc nL own d ret) {i : Nat} {x : Int32} (hdg : decode cc pc = .ok (.istore i, 2)) (hn : i < nL) (hl : (i, Value.int x) :: lv.filter (fun q => !(q.1 == i) && !(q.1 + 1 == i && q.2.category == 2)) = lv') (kk : cj_G Y X o μ (pc + 2) lv' st) : cj_G Y X o μ pc lv (.int x :: st) :=
  fun H locs ls hW hS hL => lv_istore C.1 C.2.1 hdg hL (by rw [C.2.2.1]; exact hn) hl (fun ls' h => kk H locs ls' hW hS h)
theorem cj_astore_n (C : cj_C Y X cc nL own d ret) {k : Fin 4} {i : Nat} {x : Nat} (hdg : decode cc pc = .ok (.astore_n k, 1)) (hi : (k : Nat) = i) (hn : i < nL) (hl : (i, Value.ref x) :: lv.filter (fun q => !(q.1 == i) && !(q.1 + 1 == i && q.2.category == 2)) = lv') (kk : cj_G Y X o μ (pc + 1) lv' st) : cj_G Y X o μ pc lv (.ref x :: st) :=
  fun H locs ls hW hS hL => lv_astore_n C.1 C.2.1 hdg hi hL (by rw [C.2.2.1]; exact hn) hl (fun ls' h => kk H locs ls' hW hS h)
theorem cj_fstore_n (C : cj_C Y X cc nL own d ret) {k : Fin 4} {i : Nat} {x : UInt32} (hdg : decode cc pc = .ok (.fstore_n k, 1)) (hi : (k : Nat) = i) (hn : i < nL) (hl : (i, Value.float x) :: lv.filter (fun q => !(q.1 == i) && !(q.1 + 1 == i && q.2.category == 2)) = lv') (kk : cj_G Y X o μ (pc + 1) lv' st) : cj_G Y X o μ pc lv (.float x :: st) :=
  fun H locs ls hW hS hL => lv_fstore_n C.1 C.2.1 hdg hi hL (by rw [C.2.2.1]; exact hn) hl (fun ls' h => kk H locs ls' hW hS h)
theorem cj_iinc (C : cj_C Y X cc nL own d ret) {i j : Nat} {n : Int} {x v : Int32} (hdg : decode cc pc = .ok (.iinc i n, 3)) (hk : lv[j]? = some (i, .int x)) (hv : x + Int32.ofInt n = v) (hn : i < nL) (hl : (i, Value.int v) :: lv.filter (fun q => !(q.1 == i) && !(q.1 + 1 == i && q.2.category == 2)) = lv') (kk : cj_G Y X o μ (pc + 3) lv' st) : cj_G Y X o μ pc lv st :=
  fun H locs ls hW hS hL => lv_iinc C.1 C.2.1 hdg hL hk hv (by rw [C.2.2.1]; exact hn) hl (fun ls' h => kk H locs ls' hW hS h)
theorem cj_iadd (C : cj_C Y X cc nL own d ret) {x y : Int32} (hdg : decode cc pc = .ok (.iadd, 1)) (kk : cj_G Y X o μ (pc + 1) lv (.int (x + y) :: st)) : cj_G Y X o μ pc lv (.int y :: .int x :: st) := fun H locs ls hW hS hL => lv_iadd C.1 C.2.1 hdg (kk H locs ls hW hS hL)
theorem cj_isub (C : cj_C Y X cc nL own d ret) {x y : Int32} (hdg : decode cc pc = .ok (.isub, 1)) (kk : cj_G Y X o μ (pc + 1) lv (.int (x - y) :: st)) : cj_G Y X o μ pc lv (.int y :: .int x :: st) := fun H locs ls hW hS hL => lv_isub C.1 C.2.1 hdg (kk H locs ls hW hS hL)
theorem cj_imul (C : cj_C Y X cc nL own d ret) {x y : Int32} (hdg : decode cc pc = .ok (.imul, 1)) (kk : cj_G Y X o μ (pc + 1) lv (.int (x * y) :: st)) : cj_G Y X o μ pc lv (.int y :: .int x :: st) := fun H locs ls hW hS hL => lv_imul C.1 C.2.1 hdg (kk H locs ls hW hS hL)
theorem cj_idiv (C : cj_C Y X cc nL own d ret) {x y : Int32} (hdg : decode cc pc = .ok (.idiv, 1)) (hne : ¬ y = 0) (kk : cj_G Y X o μ (pc + 1) lv (.int (x / y) :: st)) : cj_G Y X o μ pc lv (.int y :: .int x :: st) := fun H locs ls hW hS hL => lv_idiv C.1 C.2.1 hdg hne (kk H locs ls hW hS hL)
theorem cj_irem (C : cj_C Y X cc nL own d ret) {x y : Int32} (hdg : decode cc pc = .ok (.irem, 1)) (hne : ¬ y = 0) (kk : cj_G Y X o μ (pc + 1) lv (.int (x - x / y * y) :: st)) : cj_G Y X o μ pc lv (.int y :: .int x :: st) := fun H locs ls hW hS hL => lv_irem C.1 C.2.1 hdg hne (kk H locs ls hW hS hL)
theorem cj_iand (C : cj_C Y X cc nL own d ret) {x y : Int32} (hdg : decode cc pc = .ok (.iand, 1)) (kk : cj_G Y X o μ (pc + 1) lv (.int (x &&& y) :: st)) : cj_G Y X o μ pc lv (.int y :: .int x :: st) := fun H locs ls hW hS hL => lv_iand C.1 C.2.1 hdg (kk H locs ls hW hS hL)
theorem cj_ior (C : cj_C Y X cc nL own d ret) {x y : Int32} (hdg : decode cc pc = .ok (.ior, 1)) (kk : cj_G Y X o μ (pc + 1) lv (.int (x ||| y) :: st)) : cj_G Y X o μ pc lv (.int y :: .int x :: st) := fun H locs ls hW hS hL => lv_ior C.1 C.2.1 hdg (kk H locs ls hW hS hL)
theorem cj_ixor (C : cj_C Y X cc nL own d ret) {x y : Int32} (hdg : decode cc pc = .ok (.ixor, 1)) (kk : cj_G Y X o μ (pc + 1) lv (.int (x ^^^ y) :: st)) : cj_G Y X o μ pc lv (.int y :: .int x :: st) := fun H locs ls hW hS hL => lv_ixor C.1 C.2.1 hdg (kk H locs ls hW hS hL)
theorem cj_ishl (C : cj_C Y X cc nL own d ret) {x y : Int32} (hdg : decode cc pc = .ok (.ishl, 1)) (kk : cj_G Y X o μ (pc + 1) lv (.int (x <<< (y &&& 31)) :: st)) : cj_G Y X o μ pc lv (.int y :: .int x :: st) := fun H locs ls hW hS hL => lv_ishl C.1 C.2.1 hdg (kk H locs ls hW hS hL)
theorem cj_ishr (C : cj_C Y X cc nL own d ret) {x y : Int32} (hdg : decode cc pc = .ok (.ishr, 1)) (kk : cj_G Y X o μ (pc + 1) lv (.int (x >>> (y &&& 31)) :: st)) : cj_G Y X o μ pc lv (.int y :: .int x :: st) := fun H locs ls hW hS hL => lv_ishr C.1 C.2.1 hdg (kk H locs ls hW hS hL)
/-- unsigned shift -/
def cj_us (x y : Int32) : Int32 := (x.toUInt32 >>> (y.toUInt32 &&& Int32.toUInt32 31)).toInt32
theorem cj_iushr (C : cj_C Y X cc nL own d ret) {x y : Int32} (hdg : decode cc pc = .ok (.iushr, 1)) (kk : cj_G Y X o μ (pc + 1) lv (.int (cj_us x y) :: st)) : cj_G Y X o μ pc lv (.int y :: .int x :: st) := fun H locs ls hW hS hL => lv_iushr C.1 C.2.1 hdg rfl (kk H locs ls hW hS hL)
theorem cj_ineg (C : cj_C Y X cc nL own d ret) {x : Int32} (hdg : decode cc pc = .ok (.ineg, 1)) (kk : cj_G Y X o μ (pc + 1) lv (.int (-x) :: st)) : cj_G Y X o μ pc lv (.int x :: st) := fun H locs ls hW hS hL => lv_ineg C.1 C.2.1 hdg (kk H locs ls hW hS hL)
/-- to a char -/
def cj_ch (x : Int32) : Int32 := (x.toUInt32 % 65536).toInt32
theorem cj_i2c (C : cj_C Y X cc nL own d ret) {x : Int32} (hdg : decode cc pc = .ok (.i2c, 1)) (kk : cj_G Y X o μ (pc + 1) lv (.int (cj_ch x) :: st)) : cj_G Y X o μ pc lv (.int x :: st) := fun H locs ls hW hS hL => lv_i2c C.1 C.2.1 hdg rfl (kk H locs ls hW hS hL)
theorem cj_i2f (C : cj_C Y X cc nL own d ret) {x : Int32} (hdg : decode cc pc = .ok (.i2f, 1)) (kk : cj_G Y X o μ (pc + 1) lv (.float (FP.i2f x) :: st)) : cj_G Y X o μ pc lv (.int x :: st) := fun H locs ls hW hS hL => lv_i2f C.1 C.2.1 hdg (kk H locs ls hW hS hL)
theorem cj_f2i (C : cj_C Y X cc nL own d ret) {x : UInt32} (hdg : decode cc pc = .ok (.f2i, 1)) (kk : cj_G Y X o μ (pc + 1) lv (.int (FP.f2i x) :: st)) : cj_G Y X o μ pc lv (.float x :: st) := fun H locs ls hW hS hL => lv_f2i C.1 C.2.1 hdg (kk H locs ls hW hS hL)
theorem cj_fcmp (C : cj_C Y X cc nL own d ret) {x y : UInt32} {op : CmpOp} (hdg : decode cc pc = .ok (.fcmp op, 1)) (kk : cj_G Y X o μ (pc + 1) lv (.int (Op.cmpValue (FP.fcmp x y) op) :: st)) : cj_G Y X o μ pc lv (.float y :: .float x :: st) := fun H locs ls hW hS hL => lv_fcmp C.1 C.2.1 hdg (kk H locs ls hW hS hL)
theorem cj_dup (C : cj_C Y X cc nL own d ret) {a : Value} (hdg : decode cc pc = .ok (.dup, 1)) (ha : a.category = 1) (kk : cj_G Y X o μ (pc + 1) lv (a :: a :: st)) : cj_G Y X o μ pc lv (a :: st) := fun H locs ls hW hS hL => lv_dup C.1 C.2.1 hdg ha (kk H locs ls hW hS hL)
theorem cj_goto (C : cj_C Y X cc nL own d ret) {off : Int} (tgt : Nat) (hdg : decode cc pc = .ok (.goto off, 3)) (ht : (pc : Int) + off = (tgt : Int)) (kk : cj_G Y X o μ tgt lv st) : cj_G Y X o μ pc lv st := fun H locs ls hW hS hL => lv_goto C.1 C.2.1 hdg ht (kk H locs ls hW hS hL)
theorem cj_sub (ks : List Nat) (hl : lv_pick lv ks = lv') (kk : cj_G Y X o μ pc lv' st) : cj_G Y X o μ pc lv st := fun H locs ls hW hS hL => kk H locs ls hW hS (lv_sub hL ks hl)
end CJ1
