/-! the two systems' worlds: which cell holds what -/
abbrev cj_ia (z : cj_Zc) (n : Nat) : Option cj_Fc := some (fun f => .inl (z.1, n, .inl f))
/-- a court: Court 0, People 1 with arrays 2..8, Sheets 9 with 10..13, Papers 14 with 15..20 -/
def cj_co (z : cj_Zc) (a : Nat → Nat) : Nat → Option cj_Fc
  | 0 => some (fun f => .inr (0, [.ref (a 1), .ref (a 9), .ref (a 14), .int (f 3), .int (f 4), .int (f 5), .int (f 6), .int (f 7), .int (f 8), .int (f 9)]))
  | 1 => some (fun f => .inr (3, [.int (f 0), .ref (a 2), .ref (a 3), .ref (a 4), .ref (a 5), .ref (a 6), .ref (a 7), .ref (a 8)]))
  | 2 => cj_ia z 6
  | 3 => cj_ia z 6
  | 4 => cj_ia z 6
  | 5 => cj_ia z 6
  | 6 => cj_ia z 6
  | 7 => cj_ia z 6
  | 8 => cj_ia z 72
  | 9 => some (fun f => .inr (6, [.int (f 0), .int (f 1), .ref (a 10), .ref (a 11), .ref (a 12), .ref (a 13)]))
  | 10 => cj_ia z 10
  | 11 => cj_ia z 10
  | 12 => cj_ia z 10
  | 13 => cj_ia z 10
  | 14 => some (fun f => .inr (2, [.int (f 0), .ref (a 15), .ref (a 16), .ref (a 17), .ref (a 18), .ref (a 19), .ref (a 20)]))
  | 15 => cj_ia z 4
  | 16 => cj_ia z 4
  | 17 => cj_ia z 4
  | 18 => cj_ia z 4
  | 19 => cj_ia z 4
  | 20 => cj_ia z 4
  | _ => none
/-- the landed class: 0 the jotter, 1 its history, 2 its text, 3 its rehearsal, 4 its sale, 5 the court, 6 the trial, 7..11 the states -/
def cj_EL (z : cj_Zc) : cj_En := fun ad g => match g with
  | 0 => fun k => match k with
    | 0 => some (fun _ => .inr (8, [.ref (ad 5 0), .ref (ad 6 0), .ref (ad 1 0), .ref (ad 2 0), .ref (ad 3 0), .ref (ad 4 0)]))
    | _ => none
  | 1 => fun k => match k with
    | 0 => some (fun f => .inr (1, [.ref (ad 1 1), .int (f 1), .int (f 2)]))
    | 1 => some (fun _ => .inl (z.2.2, 5, .inr (.inr (.inr (.inr (fun j => some (ad (7 + j) 0)))))))
    | _ => none
  | 2 => fun k => match k with
    | 0 => some (fun f => .inr (7, [.ref (ad 2 1), .int (f 1), .int (f 2), .int (f 3), .int (f 4), .int (f 5)]))
    | 1 => some (fun f => .inl (z.2.1, 60, .inl f))
    | _ => none
  | 3 => fun k => match k with
    | 0 => some (fun f => .inr (4, [.int (f 0), .int (f 1), .int (f 2), .int (f 3)]))
    | _ => none
  | 4 => fun k => match k with
    | 0 => some (fun f => .inr (5, [.int (f 0), .int (f 1), .int (f 2)]))
    | _ => none
  | g + 5 => if g < 7 then cj_co z (ad (g + 5)) else fun _ => none
/-- the reference: its object 0, the arrays s 1, past 2, held 3, tried 4, text 5, told 6 -/
def cj_EM (z : cj_Zc) : cj_En := fun ad g => match g with
  | 0 => fun k => match k with
    | 0 => some (fun f => .inr (9, [.ref (ad 0 1), .ref (ad 0 2), .ref (ad 0 3), .ref (ad 0 4), .int (f 4), .int (f 5), .ref (ad 0 5), .int (f 7), .int (f 8), .int (f 9), .int (f 10), .int (f 11), .int (f 12), .int (f 13), .ref (ad 0 6)]))
    | 1 => cj_ia z 183
    | 2 => cj_ia z 732
    | 3 => cj_ia z 183
    | 4 => cj_ia z 183
    | 5 => cj_ia z 60
    | 6 => cj_ia z 2
    | _ => none
  | _ => fun _ => none
abbrev cj_YL (D : va_G) (z : cj_Zc) (ad : cj_Ad) : cj_Y := (cj_EL z, D, z, ad)
abbrev cj_YM (D : va_G) (z : cj_Zc) (ad : cj_Ad) : cj_Y := (cj_EM z, D, z, ad)
def cj_isC (g : Nat) : Prop := ∃ c, c < 7 ∧ g = c + 5
theorem cj_ec {z : cj_Zc} {ad : cj_Ad} {g : Nat} (h : cj_isC g) (k : Nat) : cj_EL z ad g k = cj_co z (ad g) k := by
  obtain ⟨c, hc, rfl⟩ := h
  show (if c < 7 then cj_co z (ad (c + 5)) else fun _ => none) k = _
  rw [if_pos hc]
theorem cj_isC_5 : cj_isC 5 := ⟨0, by decide, rfl⟩
theorem cj_isC_6 : cj_isC 6 := ⟨1, by decide, rfl⟩
theorem cj_isC_7 {i : Nat} (h : i < 5) : cj_isC (7 + i) := ⟨2 + i, by omega, by omega⟩
theorem cj_chr {x : Int32} (h : 0 ≤ x ∧ x ≤ 65535) : narrow .char (.int x) = .int x ∧ fits .char (.int x) = true := by
  obtain ⟨h1, h2⟩ := h
  obtain ⟨j, hj, rfl⟩ := nI_of2 (n := 65535) (M := 65535) rfl (Int32.not_lt.mpr h1) h2
  exact pk_charN (by omega)
theorem cj_boo {x : Int32} (h : x = 0 ∨ x = 1) : narrow .boolean (.int x) = .int x ∧ fits .boolean (.int x) = true := by
  rcases h with rfl | rfl
  · exact ⟨rfl, rfl⟩
  · exact ⟨rfl, rfl⟩
theorem cj_in0 : ∀ w ∈ wsX00, w ∈ cj_ws := cj_good (goodIn_sub (by decide +kernel) (by decide +kernel))
theorem cj_in1 : ∀ w ∈ wsX10, w ∈ cj_ws := cj_good (goodIn_sub (by decide +kernel) (by decide +kernel))
theorem cj_in2 : ∀ w ∈ wsX20, w ∈ cj_ws := cj_good (goodIn_sub (by decide +kernel) (by decide +kernel))
theorem cj_in3 : ∀ w ∈ wsX30, w ∈ cj_ws := cj_good (goodIn_sub (by decide +kernel) (by decide +kernel))
theorem cj_in4 : ∀ w ∈ wsX40, w ∈ cj_ws := cj_good (goodIn_sub (by decide +kernel) (by decide +kernel))
theorem cj_in5 : ∀ w ∈ wsX50, w ∈ cj_ws := cj_good (goodIn_sub (by decide +kernel) (by decide +kernel))
theorem cj_in6 : ∀ w ∈ wsX60, w ∈ cj_ws := cj_good (goodIn_sub (by decide +kernel) (by decide +kernel))
theorem cj_in7 : ∀ w ∈ wsX70, w ∈ cj_ws := cj_good (goodIn_sub (by decide +kernel) (by decide +kernel))
theorem cj_in8 : ∀ w ∈ wsX80, w ∈ cj_ws := cj_good (goodIn_sub (by decide +kernel) (by decide +kernel))
theorem cj_in9 : ∀ w ∈ wsX90, w ∈ cj_ws := cj_good (goodIn_sub (by decide +kernel) (by decide +kernel))
/-! rows over one group's memory -/
section CJ4
variable {Y : cj_Y} {X : cj_X} {o : Option Value × cj_Mm} {μ : cj_Mm} {g : Nat} {σ : Nat → Nat → Int32} {pc : Nat} {lv lv' : List (Nat × Value)} {st : List Value} {cc : ByteArray} {nL d : Nat} {own : String} {ret : Option FieldType} {α : Type} {A B : Option α} {r : α}
theorem cj_at (g : Nat) (kk : cj_G Y X o (cj_upG μ g (μ g)) pc lv st) : cj_G Y X o μ pc lv st := by rw [cj_upG_i] at kk; exact kk
theorem cj_ta (kk : cj_G Y X o μ pc lv st) : cj_G Y X o (cj_upG μ g (μ g)) pc lv st := by rw [cj_upG_i]; exact kk
theorem cj_ltM {μ1 : cj_Mm} {K : cj_Mm → Option α} (hf : cj_lt μ1 K = some r) (kk : ∀ x, K x = some r → cj_G Y X o x pc lv st) : cj_G Y X o μ1 pc lv st := kk _ hf
theorem cj_ltS {K : (Nat → Nat → Int32) → Option α} (hf : cj_lt σ K = some r) (kk : ∀ x, K x = some r → cj_G Y X o (cj_upG μ g x) pc lv st) : cj_G Y X o (cj_upG μ g σ) pc lv st := kk _ hf
theorem cj_ltI {x : Int32} {K : Int32 → Option α} (hf : cj_lt x K = some r) (kk : ∀ y, K y = some r → cj_G Y X o μ pc lv (.int y :: st)) : cj_G Y X o μ pc lv (.int x :: st) := kk _ hf
theorem cj_ltF {x : UInt32} {K : UInt32 → Option α} (hf : cj_lt x K = some r) (kk : ∀ y, K y = some r → cj_G Y X o μ pc lv (.float y :: st)) : cj_G Y X o μ pc lv (.float x :: st) := kk _ hf
theorem cj_getS (C : cj_C Y X cc nL own d ret) {k ci j N index : Nat} {F : cj_Fc} {fs : List Value} {Cn rn nm ds : String} {fn : Bool} {T : u_T} {v : Value} (he : Y.1 Y.2.2.2 g k = some F) (hF : F (σ k) = .inr (ci, fs)) (hc : cj_cl[ci]? = some (Cn, T, N)) (hin : ∀ w ∈ u_ws Cn T N, w ∈ cj_ws) (hj : j < N) (hT : T j = (rn, nm, ds, fn)) (hl : Cond.fieldLink own index rn nm ds ∈ cj_ws) (hv : fs[j]? = some v) (hdg : decode cc pc = .ok (.getfield index, 3)) (kk : cj_G Y X o (cj_upG μ g σ) (pc + 3) lv (v :: st)) : cj_G Y X o (cj_upG μ g σ) pc lv (.ref (Y.2.2.2 g k) :: st) :=
  cj_get C he (by rw [cj_upG_s]; exact hF) hc hin hj hT hl hv hdg kk
theorem cj_putS (C : cj_C Y X cc nL own d ret) {k ci j N index : Nat} {F : cj_Fc} {fs fs' : List Value} {Cn rn nm ds : String} {T : u_T} {ty0 : Nat → FieldType} {ty : FieldType} {x : Int32} (he : Y.1 Y.2.2.2 g k = some F) (hF : F (σ k) = .inr (ci, fs)) (hF' : F (upd (σ k) j x) = .inr (ci, fs')) (hfs : fs' = fs.set j (.int x)) (hc : cj_cl[ci]? = some (Cn, T, N)) (hin : ∀ w ∈ u_ws Cn T N, w ∈ cj_ws) (hty : ∀ k, k < N → parseFieldDescriptor (T k).2.2.1 = some (ty0 k)) (hnm : ∀ a, a < N → ∀ b, b < N → a ≠ b → (T a).2.1 ≠ (T b).2.1) (hj : j < N) (hT : T j = (rn, nm, ds, false)) (hl : Cond.fieldLink own index rn nm ds ∈ cj_ws) (hd : parseFieldDescriptor ds = some ty) (hn : narrow ty (.int x) = .int x) (hfit : fits ty (.int x) = true) (hlen : j < fs.length) (hdg : decode cc pc = .ok (.putfield index, 3)) (kk : cj_G Y X o (cj_upG μ g (cj_up2 σ k j x)) (pc + 3) lv st) : cj_G Y X o (cj_upG μ g σ) pc lv (.int x :: .ref (Y.2.2.2 g k) :: st) :=
  cj_put C he (by rw [cj_upG_s]; exact hF) (by rw [cj_upG_s]; exact hF') hfs hc hin hty hnm hj hT hl hd hn hfit hlen hdg (by rw [cj_upG_s, cj_upG_u]; exact kk)
theorem cj_ialdS (C : cj_C Y X cc nL own d ret) {k n : Nat} {i : Int32} (he : Y.1 Y.2.2.2 g k = some (fun f => .inl (Y.2.2.1.1, n, .inl f))) (hdg : decode cc pc = .ok (.iaload, 1)) (hf : cj_gd i n A = some r) (kk : A = some r → cj_G Y X o (cj_upG μ g σ) (pc + 1) lv (.int (σ k i.toNatClampNeg) :: st)) : cj_G Y X o (cj_upG μ g σ) pc lv (.int i :: .ref (Y.2.2.2 g k) :: st) :=
  cj_iald C he hdg hf (by rw [cj_upG_s]; exact kk)
theorem cj_caldS (C : cj_C Y X cc nL own d ret) {k n : Nat} {i : Int32} (he : Y.1 Y.2.2.2 g k = some (fun f => .inl (Y.2.2.1.2.1, n, .inl f))) (hdg : decode cc pc = .ok (.caload, 1)) (hf : cj_gd i n A = some r) (kk : A = some r → cj_G Y X o (cj_upG μ g σ) (pc + 1) lv (.int (σ k i.toNatClampNeg) :: st)) : cj_G Y X o (cj_upG μ g σ) pc lv (.int i :: .ref (Y.2.2.2 g k) :: st) :=
  cj_cald C he hdg hf (by rw [cj_upG_s]; exact kk)
theorem cj_iastS (C : cj_C Y X cc nL own d ret) {k n : Nat} {i x : Int32} (he : Y.1 Y.2.2.2 g k = some (fun f => .inl (Y.2.2.1.1, n, .inl f))) (hdg : decode cc pc = .ok (.iastore, 1)) (hf : cj_gd i n A = some r) (kk : A = some r → cj_G Y X o (cj_upG μ g (cj_up2 σ k i.toNatClampNeg x)) (pc + 1) lv st) : cj_G Y X o (cj_upG μ g σ) pc lv (.int x :: .int i :: .ref (Y.2.2.2 g k) :: st) :=
  cj_iast C he hdg hf (by rw [cj_upG_s, cj_upG_u]; exact kk)
theorem cj_castS (C : cj_C Y X cc nL own d ret) {k n : Nat} {i x : Int32} (he : Y.1 Y.2.2.2 g k = some (fun f => .inl (Y.2.2.1.2.1, n, .inl f))) (hdg : decode cc pc = .ok (.castore, 1)) (hf : cj_gd i n A = some r) (kk : A = some r → cj_G Y X o (cj_upG μ g (cj_up2 σ k i.toNatClampNeg (vp_nar .char x))) (pc + 1) lv st) : cj_G Y X o (cj_upG μ g σ) pc lv (.int x :: .int i :: .ref (Y.2.2.2 g k) :: st) :=
  cj_castore C he hdg hf (by rw [cj_upG_s, cj_upG_u]; exact kk)
end CJ4
/-! calls by the number of arguments and the kind of answer -/
section CJ5
variable {Y : cj_Y} {X : cj_X} {o : Option Value × cj_Mm} {μ : cj_Mm} {pc : Nat} {lv : List (Nat × Value)} {st : List Value} {cc : ByteArray} {nL d : Nat} {own : String} {ret : Option FieldType}
theorem cj_cV0i (C : cj_C Y X cc nL own d ret) {y : MethodName} {bytes : ByteArray} {maxL d' index g k ci N : Nat} {rt : Option FieldType} {F : cj_Fc} {fs : List Value} {T : u_T} {r : Int32} {μ' : cj_Mm} (hw : cj_cw y bytes maxL 0 rt) (hM : cj_Ct X.2.1 Y y bytes maxL rt d' (.ref (Y.2.2.2 g k) :: []) μ (some (.int r)) μ') (hi : Cond.instanceMethod y ∈ cj_ws) (hs : Cond.selects y.cls y y ∈ cj_ws) (hl : Cond.methodLink own index y ∈ cj_ws) (he : Y.1 Y.2.2.2 g k = some F) (hF : F (μ g k) = .inr (ci, fs)) (hc : cj_cl[ci]? = some (y.cls, T, N)) (hd : d' + 1 ≤ d ∧ 8 + (maxL + 11) + 37 * d' ≤ 37 * d) (hcat : (st.map fun v => v.category).sum ≤ 8) (hdg : decode cc pc = .ok (.invokevirtual index, 3)) (kk : cj_G Y X o μ' (pc + 3) lv (.int r :: st)) : cj_G Y X o μ pc lv (.ref (Y.2.2.2 g k) :: st) :=
  cj_callV (As := []) C hw hM hi hs hl he hF hc rfl hd hcat hdg kk
theorem cj_cV0v (C : cj_C Y X cc nL own d ret) {y : MethodName} {bytes : ByteArray} {maxL d' index g k ci N : Nat} {rt : Option FieldType} {F : cj_Fc} {fs : List Value} {T : u_T} {μ' : cj_Mm} (hw : cj_cw y bytes maxL 0 rt) (hM : cj_Ct X.2.1 Y y bytes maxL rt d' (.ref (Y.2.2.2 g k) :: []) μ none μ') (hi : Cond.instanceMethod y ∈ cj_ws) (hs : Cond.selects y.cls y y ∈ cj_ws) (hl : Cond.methodLink own index y ∈ cj_ws) (he : Y.1 Y.2.2.2 g k = some F) (hF : F (μ g k) = .inr (ci, fs)) (hc : cj_cl[ci]? = some (y.cls, T, N)) (hd : d' + 1 ≤ d ∧ 8 + (maxL + 11) + 37 * d' ≤ 37 * d) (hcat : (st.map fun v => v.category).sum ≤ 8) (hdg : decode cc pc = .ok (.invokevirtual index, 3)) (kk : cj_G Y X o μ' (pc + 3) lv (st)) : cj_G Y X o μ pc lv (.ref (Y.2.2.2 g k) :: st) :=
  cj_callV (As := []) C hw hM hi hs hl he hF hc rfl hd hcat hdg kk
theorem cj_cV1i (C : cj_C Y X cc nL own d ret) {y : MethodName} {bytes : ByteArray} {maxL d' index g k ci N : Nat} {rt : Option FieldType} {F : cj_Fc} {fs : List Value} {T : u_T} {a1 : Value} {r : Int32} {μ' : cj_Mm} (hw : cj_cw y bytes maxL 1 rt) (hM : cj_Ct X.2.1 Y y bytes maxL rt d' (.ref (Y.2.2.2 g k) :: [a1]) μ (some (.int r)) μ') (hi : Cond.instanceMethod y ∈ cj_ws) (hs : Cond.selects y.cls y y ∈ cj_ws) (hl : Cond.methodLink own index y ∈ cj_ws) (he : Y.1 Y.2.2.2 g k = some F) (hF : F (μ g k) = .inr (ci, fs)) (hc : cj_cl[ci]? = some (y.cls, T, N)) (hd : d' + 1 ≤ d ∧ 8 + (maxL + 11) + 37 * d' ≤ 37 * d) (hcat : (st.map fun v => v.category).sum ≤ 8) (hdg : decode cc pc = .ok (.invokevirtual index, 3)) (kk : cj_G Y X o μ' (pc + 3) lv (.int r :: st)) : cj_G Y X o μ pc lv (a1 :: .ref (Y.2.2.2 g k) :: st) :=
  cj_callV (As := [a1]) C hw hM hi hs hl he hF hc rfl hd hcat hdg kk
theorem cj_cS1i (C : cj_C Y X cc nL own d ret) {y : MethodName} {bytes : ByteArray} {maxL d' index : Nat} {rt : Option FieldType} {a1 : Value} {r : Int32} {μ' : cj_Mm} (hw : cj_cw y bytes maxL 1 rt) (hM : cj_Ct X.2.1 Y y bytes maxL rt d' [a1] μ (some (.int r)) μ') (hs : Cond.static y ∈ cj_ws) (hl : Cond.methodLink own index y ∈ cj_ws) (hd : d' + 1 ≤ d ∧ 8 + (maxL + 11) + 37 * d' ≤ 37 * d) (hcat : (st.map fun v => v.category).sum ≤ 8) (hdg : decode cc pc = .ok (.invokestatic index, 3)) (kk : cj_G Y X o μ' (pc + 3) lv (.int r :: st)) : cj_G Y X o μ pc lv (a1 :: st) :=
  cj_callS (As := [a1]) C hw hM hs hl rfl hd hcat hdg kk
theorem cj_cN1i (C : cj_C Y X cc nL own d ret) {y : MethodName} {bytes : ByteArray} {maxL d' index : Nat} {host : String} {rt : Option FieldType} {a1 : Value} {r : Int32} {μ' : cj_Mm} (hw : cj_cw y bytes maxL 1 rt) (hM : cj_Ct X.2.1 Y y bytes maxL rt d' [a1] μ (some (.int r)) μ') (hs : Cond.static y ∈ cj_ws) (hl : (own, index, y, host) ∈ cj_nst) (hd : d' + 1 ≤ d ∧ 8 + (maxL + 11) + 37 * d' ≤ 37 * d) (hcat : (st.map fun v => v.category).sum ≤ 8) (hdg : decode cc pc = .ok (.invokestatic index, 3)) (kk : cj_G Y X o μ' (pc + 3) lv (.int r :: st)) : cj_G Y X o μ pc lv (a1 :: st) :=
  cj_callSN (As := [a1]) C hw hM hs hl rfl hd hcat hdg kk
theorem cj_cV1v (C : cj_C Y X cc nL own d ret) {y : MethodName} {bytes : ByteArray} {maxL d' index g k ci N : Nat} {rt : Option FieldType} {F : cj_Fc} {fs : List Value} {T : u_T} {a1 : Value} {μ' : cj_Mm} (hw : cj_cw y bytes maxL 1 rt) (hM : cj_Ct X.2.1 Y y bytes maxL rt d' (.ref (Y.2.2.2 g k) :: [a1]) μ none μ') (hi : Cond.instanceMethod y ∈ cj_ws) (hs : Cond.selects y.cls y y ∈ cj_ws) (hl : Cond.methodLink own index y ∈ cj_ws) (he : Y.1 Y.2.2.2 g k = some F) (hF : F (μ g k) = .inr (ci, fs)) (hc : cj_cl[ci]? = some (y.cls, T, N)) (hd : d' + 1 ≤ d ∧ 8 + (maxL + 11) + 37 * d' ≤ 37 * d) (hcat : (st.map fun v => v.category).sum ≤ 8) (hdg : decode cc pc = .ok (.invokevirtual index, 3)) (kk : cj_G Y X o μ' (pc + 3) lv (st)) : cj_G Y X o μ pc lv (a1 :: .ref (Y.2.2.2 g k) :: st) :=
  cj_callV (As := [a1]) C hw hM hi hs hl he hF hc rfl hd hcat hdg kk
theorem cj_cS1v (C : cj_C Y X cc nL own d ret) {y : MethodName} {bytes : ByteArray} {maxL d' index : Nat} {rt : Option FieldType} {a1 : Value} {μ' : cj_Mm} (hw : cj_cw y bytes maxL 1 rt) (hM : cj_Ct X.2.1 Y y bytes maxL rt d' [a1] μ none μ') (hs : Cond.static y ∈ cj_ws) (hl : Cond.methodLink own index y ∈ cj_ws) (hd : d' + 1 ≤ d ∧ 8 + (maxL + 11) + 37 * d' ≤ 37 * d) (hcat : (st.map fun v => v.category).sum ≤ 8) (hdg : decode cc pc = .ok (.invokestatic index, 3)) (kk : cj_G Y X o μ' (pc + 3) lv (st)) : cj_G Y X o μ pc lv (a1 :: st) :=
  cj_callS (As := [a1]) C hw hM hs hl rfl hd hcat hdg kk
theorem cj_cN1v (C : cj_C Y X cc nL own d ret) {y : MethodName} {bytes : ByteArray} {maxL d' index : Nat} {host : String} {rt : Option FieldType} {a1 : Value} {μ' : cj_Mm} (hw : cj_cw y bytes maxL 1 rt) (hM : cj_Ct X.2.1 Y y bytes maxL rt d' [a1] μ none μ') (hs : Cond.static y ∈ cj_ws) (hl : (own, index, y, host) ∈ cj_nst) (hd : d' + 1 ≤ d ∧ 8 + (maxL + 11) + 37 * d' ≤ 37 * d) (hcat : (st.map fun v => v.category).sum ≤ 8) (hdg : decode cc pc = .ok (.invokestatic index, 3)) (kk : cj_G Y X o μ' (pc + 3) lv (st)) : cj_G Y X o μ pc lv (a1 :: st) :=
  cj_callSN (As := [a1]) C hw hM hs hl rfl hd hcat hdg kk
theorem cj_cV2i (C : cj_C Y X cc nL own d ret) {y : MethodName} {bytes : ByteArray} {maxL d' index g k ci N : Nat} {rt : Option FieldType} {F : cj_Fc} {fs : List Value} {T : u_T} {a1 a2 : Value} {r : Int32} {μ' : cj_Mm} (hw : cj_cw y bytes maxL 2 rt) (hM : cj_Ct X.2.1 Y y bytes maxL rt d' (.ref (Y.2.2.2 g k) :: [a1, a2]) μ (some (.int r)) μ') (hi : Cond.instanceMethod y ∈ cj_ws) (hs : Cond.selects y.cls y y ∈ cj_ws) (hl : Cond.methodLink own index y ∈ cj_ws) (he : Y.1 Y.2.2.2 g k = some F) (hF : F (μ g k) = .inr (ci, fs)) (hc : cj_cl[ci]? = some (y.cls, T, N)) (hd : d' + 1 ≤ d ∧ 8 + (maxL + 11) + 37 * d' ≤ 37 * d) (hcat : (st.map fun v => v.category).sum ≤ 8) (hdg : decode cc pc = .ok (.invokevirtual index, 3)) (kk : cj_G Y X o μ' (pc + 3) lv (.int r :: st)) : cj_G Y X o μ pc lv (a2 :: a1 :: .ref (Y.2.2.2 g k) :: st) :=
  cj_callV (As := [a1, a2]) C hw hM hi hs hl he hF hc rfl hd hcat hdg kk
theorem cj_cS2i (C : cj_C Y X cc nL own d ret) {y : MethodName} {bytes : ByteArray} {maxL d' index : Nat} {rt : Option FieldType} {a1 a2 : Value} {r : Int32} {μ' : cj_Mm} (hw : cj_cw y bytes maxL 2 rt) (hM : cj_Ct X.2.1 Y y bytes maxL rt d' [a1, a2] μ (some (.int r)) μ') (hs : Cond.static y ∈ cj_ws) (hl : Cond.methodLink own index y ∈ cj_ws) (hd : d' + 1 ≤ d ∧ 8 + (maxL + 11) + 37 * d' ≤ 37 * d) (hcat : (st.map fun v => v.category).sum ≤ 8) (hdg : decode cc pc = .ok (.invokestatic index, 3)) (kk : cj_G Y X o μ' (pc + 3) lv (.int r :: st)) : cj_G Y X o μ pc lv (a2 :: a1 :: st) :=
  cj_callS (As := [a1, a2]) C hw hM hs hl rfl hd hcat hdg kk
theorem cj_cN2i (C : cj_C Y X cc nL own d ret) {y : MethodName} {bytes : ByteArray} {maxL d' index : Nat} {host : String} {rt : Option FieldType} {a1 a2 : Value} {r : Int32} {μ' : cj_Mm} (hw : cj_cw y bytes maxL 2 rt) (hM : cj_Ct X.2.1 Y y bytes maxL rt d' [a1, a2] μ (some (.int r)) μ') (hs : Cond.static y ∈ cj_ws) (hl : (own, index, y, host) ∈ cj_nst) (hd : d' + 1 ≤ d ∧ 8 + (maxL + 11) + 37 * d' ≤ 37 * d) (hcat : (st.map fun v => v.category).sum ≤ 8) (hdg : decode cc pc = .ok (.invokestatic index, 3)) (kk : cj_G Y X o μ' (pc + 3) lv (.int r :: st)) : cj_G Y X o μ pc lv (a2 :: a1 :: st) :=
  cj_callSN (As := [a1, a2]) C hw hM hs hl rfl hd hcat hdg kk
theorem cj_cV2v (C : cj_C Y X cc nL own d ret) {y : MethodName} {bytes : ByteArray} {maxL d' index g k ci N : Nat} {rt : Option FieldType} {F : cj_Fc} {fs : List Value} {T : u_T} {a1 a2 : Value} {μ' : cj_Mm} (hw : cj_cw y bytes maxL 2 rt) (hM : cj_Ct X.2.1 Y y bytes maxL rt d' (.ref (Y.2.2.2 g k) :: [a1, a2]) μ none μ') (hi : Cond.instanceMethod y ∈ cj_ws) (hs : Cond.selects y.cls y y ∈ cj_ws) (hl : Cond.methodLink own index y ∈ cj_ws) (he : Y.1 Y.2.2.2 g k = some F) (hF : F (μ g k) = .inr (ci, fs)) (hc : cj_cl[ci]? = some (y.cls, T, N)) (hd : d' + 1 ≤ d ∧ 8 + (maxL + 11) + 37 * d' ≤ 37 * d) (hcat : (st.map fun v => v.category).sum ≤ 8) (hdg : decode cc pc = .ok (.invokevirtual index, 3)) (kk : cj_G Y X o μ' (pc + 3) lv (st)) : cj_G Y X o μ pc lv (a2 :: a1 :: .ref (Y.2.2.2 g k) :: st) :=
  cj_callV (As := [a1, a2]) C hw hM hi hs hl he hF hc rfl hd hcat hdg kk
theorem cj_cS2v (C : cj_C Y X cc nL own d ret) {y : MethodName} {bytes : ByteArray} {maxL d' index : Nat} {rt : Option FieldType} {a1 a2 : Value} {μ' : cj_Mm} (hw : cj_cw y bytes maxL 2 rt) (hM : cj_Ct X.2.1 Y y bytes maxL rt d' [a1, a2] μ none μ') (hs : Cond.static y ∈ cj_ws) (hl : Cond.methodLink own index y ∈ cj_ws) (hd : d' + 1 ≤ d ∧ 8 + (maxL + 11) + 37 * d' ≤ 37 * d) (hcat : (st.map fun v => v.category).sum ≤ 8) (hdg : decode cc pc = .ok (.invokestatic index, 3)) (kk : cj_G Y X o μ' (pc + 3) lv (st)) : cj_G Y X o μ pc lv (a2 :: a1 :: st) :=
  cj_callS (As := [a1, a2]) C hw hM hs hl rfl hd hcat hdg kk
theorem cj_cN2v (C : cj_C Y X cc nL own d ret) {y : MethodName} {bytes : ByteArray} {maxL d' index : Nat} {host : String} {rt : Option FieldType} {a1 a2 : Value} {μ' : cj_Mm} (hw : cj_cw y bytes maxL 2 rt) (hM : cj_Ct X.2.1 Y y bytes maxL rt d' [a1, a2] μ none μ') (hs : Cond.static y ∈ cj_ws) (hl : (own, index, y, host) ∈ cj_nst) (hd : d' + 1 ≤ d ∧ 8 + (maxL + 11) + 37 * d' ≤ 37 * d) (hcat : (st.map fun v => v.category).sum ≤ 8) (hdg : decode cc pc = .ok (.invokestatic index, 3)) (kk : cj_G Y X o μ' (pc + 3) lv (st)) : cj_G Y X o μ pc lv (a2 :: a1 :: st) :=
  cj_callSN (As := [a1, a2]) C hw hM hs hl rfl hd hcat hdg kk
theorem cj_cV3i (C : cj_C Y X cc nL own d ret) {y : MethodName} {bytes : ByteArray} {maxL d' index g k ci N : Nat} {rt : Option FieldType} {F : cj_Fc} {fs : List Value} {T : u_T} {a1 a2 a3 : Value} {r : Int32} {μ' : cj_Mm} (hw : cj_cw y bytes maxL 3 rt) (hM : cj_Ct X.2.1 Y y bytes maxL rt d' (.ref (Y.2.2.2 g k) :: [a1, a2, a3]) μ (some (.int r)) μ') (hi : Cond.instanceMethod y ∈ cj_ws) (hs : Cond.selects y.cls y y ∈ cj_ws) (hl : Cond.methodLink own index y ∈ cj_ws) (he : Y.1 Y.2.2.2 g k = some F) (hF : F (μ g k) = .inr (ci, fs)) (hc : cj_cl[ci]? = some (y.cls, T, N)) (hd : d' + 1 ≤ d ∧ 8 + (maxL + 11) + 37 * d' ≤ 37 * d) (hcat : (st.map fun v => v.category).sum ≤ 8) (hdg : decode cc pc = .ok (.invokevirtual index, 3)) (kk : cj_G Y X o μ' (pc + 3) lv (.int r :: st)) : cj_G Y X o μ pc lv (a3 :: a2 :: a1 :: .ref (Y.2.2.2 g k) :: st) :=
  cj_callV (As := [a1, a2, a3]) C hw hM hi hs hl he hF hc rfl hd hcat hdg kk
theorem cj_cS3i (C : cj_C Y X cc nL own d ret) {y : MethodName} {bytes : ByteArray} {maxL d' index : Nat} {rt : Option FieldType} {a1 a2 a3 : Value} {r : Int32} {μ' : cj_Mm} (hw : cj_cw y bytes maxL 3 rt) (hM : cj_Ct X.2.1 Y y bytes maxL rt d' [a1, a2, a3] μ (some (.int r)) μ') (hs : Cond.static y ∈ cj_ws) (hl : Cond.methodLink own index y ∈ cj_ws) (hd : d' + 1 ≤ d ∧ 8 + (maxL + 11) + 37 * d' ≤ 37 * d) (hcat : (st.map fun v => v.category).sum ≤ 8) (hdg : decode cc pc = .ok (.invokestatic index, 3)) (kk : cj_G Y X o μ' (pc + 3) lv (.int r :: st)) : cj_G Y X o μ pc lv (a3 :: a2 :: a1 :: st) :=
  cj_callS (As := [a1, a2, a3]) C hw hM hs hl rfl hd hcat hdg kk
theorem cj_cN3i (C : cj_C Y X cc nL own d ret) {y : MethodName} {bytes : ByteArray} {maxL d' index : Nat} {host : String} {rt : Option FieldType} {a1 a2 a3 : Value} {r : Int32} {μ' : cj_Mm} (hw : cj_cw y bytes maxL 3 rt) (hM : cj_Ct X.2.1 Y y bytes maxL rt d' [a1, a2, a3] μ (some (.int r)) μ') (hs : Cond.static y ∈ cj_ws) (hl : (own, index, y, host) ∈ cj_nst) (hd : d' + 1 ≤ d ∧ 8 + (maxL + 11) + 37 * d' ≤ 37 * d) (hcat : (st.map fun v => v.category).sum ≤ 8) (hdg : decode cc pc = .ok (.invokestatic index, 3)) (kk : cj_G Y X o μ' (pc + 3) lv (.int r :: st)) : cj_G Y X o μ pc lv (a3 :: a2 :: a1 :: st) :=
  cj_callSN (As := [a1, a2, a3]) C hw hM hs hl rfl hd hcat hdg kk
theorem cj_cV3v (C : cj_C Y X cc nL own d ret) {y : MethodName} {bytes : ByteArray} {maxL d' index g k ci N : Nat} {rt : Option FieldType} {F : cj_Fc} {fs : List Value} {T : u_T} {a1 a2 a3 : Value} {μ' : cj_Mm} (hw : cj_cw y bytes maxL 3 rt) (hM : cj_Ct X.2.1 Y y bytes maxL rt d' (.ref (Y.2.2.2 g k) :: [a1, a2, a3]) μ none μ') (hi : Cond.instanceMethod y ∈ cj_ws) (hs : Cond.selects y.cls y y ∈ cj_ws) (hl : Cond.methodLink own index y ∈ cj_ws) (he : Y.1 Y.2.2.2 g k = some F) (hF : F (μ g k) = .inr (ci, fs)) (hc : cj_cl[ci]? = some (y.cls, T, N)) (hd : d' + 1 ≤ d ∧ 8 + (maxL + 11) + 37 * d' ≤ 37 * d) (hcat : (st.map fun v => v.category).sum ≤ 8) (hdg : decode cc pc = .ok (.invokevirtual index, 3)) (kk : cj_G Y X o μ' (pc + 3) lv (st)) : cj_G Y X o μ pc lv (a3 :: a2 :: a1 :: .ref (Y.2.2.2 g k) :: st) :=
  cj_callV (As := [a1, a2, a3]) C hw hM hi hs hl he hF hc rfl hd hcat hdg kk
theorem cj_cS3v (C : cj_C Y X cc nL own d ret) {y : MethodName} {bytes : ByteArray} {maxL d' index : Nat} {rt : Option FieldType} {a1 a2 a3 : Value} {μ' : cj_Mm} (hw : cj_cw y bytes maxL 3 rt) (hM : cj_Ct X.2.1 Y y bytes maxL rt d' [a1, a2, a3] μ none μ') (hs : Cond.static y ∈ cj_ws) (hl : Cond.methodLink own index y ∈ cj_ws) (hd : d' + 1 ≤ d ∧ 8 + (maxL + 11) + 37 * d' ≤ 37 * d) (hcat : (st.map fun v => v.category).sum ≤ 8) (hdg : decode cc pc = .ok (.invokestatic index, 3)) (kk : cj_G Y X o μ' (pc + 3) lv (st)) : cj_G Y X o μ pc lv (a3 :: a2 :: a1 :: st) :=
  cj_callS (As := [a1, a2, a3]) C hw hM hs hl rfl hd hcat hdg kk
theorem cj_cN3v (C : cj_C Y X cc nL own d ret) {y : MethodName} {bytes : ByteArray} {maxL d' index : Nat} {host : String} {rt : Option FieldType} {a1 a2 a3 : Value} {μ' : cj_Mm} (hw : cj_cw y bytes maxL 3 rt) (hM : cj_Ct X.2.1 Y y bytes maxL rt d' [a1, a2, a3] μ none μ') (hs : Cond.static y ∈ cj_ws) (hl : (own, index, y, host) ∈ cj_nst) (hd : d' + 1 ≤ d ∧ 8 + (maxL + 11) + 37 * d' ≤ 37 * d) (hcat : (st.map fun v => v.category).sum ≤ 8) (hdg : decode cc pc = .ok (.invokestatic index, 3)) (kk : cj_G Y X o μ' (pc + 3) lv (st)) : cj_G Y X o μ pc lv (a3 :: a2 :: a1 :: st) :=
  cj_callSN (As := [a1, a2, a3]) C hw hM hs hl rfl hd hcat hdg kk
theorem cj_cV4i (C : cj_C Y X cc nL own d ret) {y : MethodName} {bytes : ByteArray} {maxL d' index g k ci N : Nat} {rt : Option FieldType} {F : cj_Fc} {fs : List Value} {T : u_T} {a1 a2 a3 a4 : Value} {r : Int32} {μ' : cj_Mm} (hw : cj_cw y bytes maxL 4 rt) (hM : cj_Ct X.2.1 Y y bytes maxL rt d' (.ref (Y.2.2.2 g k) :: [a1, a2, a3, a4]) μ (some (.int r)) μ') (hi : Cond.instanceMethod y ∈ cj_ws) (hs : Cond.selects y.cls y y ∈ cj_ws) (hl : Cond.methodLink own index y ∈ cj_ws) (he : Y.1 Y.2.2.2 g k = some F) (hF : F (μ g k) = .inr (ci, fs)) (hc : cj_cl[ci]? = some (y.cls, T, N)) (hd : d' + 1 ≤ d ∧ 8 + (maxL + 11) + 37 * d' ≤ 37 * d) (hcat : (st.map fun v => v.category).sum ≤ 8) (hdg : decode cc pc = .ok (.invokevirtual index, 3)) (kk : cj_G Y X o μ' (pc + 3) lv (.int r :: st)) : cj_G Y X o μ pc lv (a4 :: a3 :: a2 :: a1 :: .ref (Y.2.2.2 g k) :: st) :=
  cj_callV (As := [a1, a2, a3, a4]) C hw hM hi hs hl he hF hc rfl hd hcat hdg kk
theorem cj_cS4i (C : cj_C Y X cc nL own d ret) {y : MethodName} {bytes : ByteArray} {maxL d' index : Nat} {rt : Option FieldType} {a1 a2 a3 a4 : Value} {r : Int32} {μ' : cj_Mm} (hw : cj_cw y bytes maxL 4 rt) (hM : cj_Ct X.2.1 Y y bytes maxL rt d' [a1, a2, a3, a4] μ (some (.int r)) μ') (hs : Cond.static y ∈ cj_ws) (hl : Cond.methodLink own index y ∈ cj_ws) (hd : d' + 1 ≤ d ∧ 8 + (maxL + 11) + 37 * d' ≤ 37 * d) (hcat : (st.map fun v => v.category).sum ≤ 8) (hdg : decode cc pc = .ok (.invokestatic index, 3)) (kk : cj_G Y X o μ' (pc + 3) lv (.int r :: st)) : cj_G Y X o μ pc lv (a4 :: a3 :: a2 :: a1 :: st) :=
  cj_callS (As := [a1, a2, a3, a4]) C hw hM hs hl rfl hd hcat hdg kk
theorem cj_cN4i (C : cj_C Y X cc nL own d ret) {y : MethodName} {bytes : ByteArray} {maxL d' index : Nat} {host : String} {rt : Option FieldType} {a1 a2 a3 a4 : Value} {r : Int32} {μ' : cj_Mm} (hw : cj_cw y bytes maxL 4 rt) (hM : cj_Ct X.2.1 Y y bytes maxL rt d' [a1, a2, a3, a4] μ (some (.int r)) μ') (hs : Cond.static y ∈ cj_ws) (hl : (own, index, y, host) ∈ cj_nst) (hd : d' + 1 ≤ d ∧ 8 + (maxL + 11) + 37 * d' ≤ 37 * d) (hcat : (st.map fun v => v.category).sum ≤ 8) (hdg : decode cc pc = .ok (.invokestatic index, 3)) (kk : cj_G Y X o μ' (pc + 3) lv (.int r :: st)) : cj_G Y X o μ pc lv (a4 :: a3 :: a2 :: a1 :: st) :=
  cj_callSN (As := [a1, a2, a3, a4]) C hw hM hs hl rfl hd hcat hdg kk
theorem cj_cV4v (C : cj_C Y X cc nL own d ret) {y : MethodName} {bytes : ByteArray} {maxL d' index g k ci N : Nat} {rt : Option FieldType} {F : cj_Fc} {fs : List Value} {T : u_T} {a1 a2 a3 a4 : Value} {μ' : cj_Mm} (hw : cj_cw y bytes maxL 4 rt) (hM : cj_Ct X.2.1 Y y bytes maxL rt d' (.ref (Y.2.2.2 g k) :: [a1, a2, a3, a4]) μ none μ') (hi : Cond.instanceMethod y ∈ cj_ws) (hs : Cond.selects y.cls y y ∈ cj_ws) (hl : Cond.methodLink own index y ∈ cj_ws) (he : Y.1 Y.2.2.2 g k = some F) (hF : F (μ g k) = .inr (ci, fs)) (hc : cj_cl[ci]? = some (y.cls, T, N)) (hd : d' + 1 ≤ d ∧ 8 + (maxL + 11) + 37 * d' ≤ 37 * d) (hcat : (st.map fun v => v.category).sum ≤ 8) (hdg : decode cc pc = .ok (.invokevirtual index, 3)) (kk : cj_G Y X o μ' (pc + 3) lv (st)) : cj_G Y X o μ pc lv (a4 :: a3 :: a2 :: a1 :: .ref (Y.2.2.2 g k) :: st) :=
  cj_callV (As := [a1, a2, a3, a4]) C hw hM hi hs hl he hF hc rfl hd hcat hdg kk
theorem cj_cS4v (C : cj_C Y X cc nL own d ret) {y : MethodName} {bytes : ByteArray} {maxL d' index : Nat} {rt : Option FieldType} {a1 a2 a3 a4 : Value} {μ' : cj_Mm} (hw : cj_cw y bytes maxL 4 rt) (hM : cj_Ct X.2.1 Y y bytes maxL rt d' [a1, a2, a3, a4] μ none μ') (hs : Cond.static y ∈ cj_ws) (hl : Cond.methodLink own index y ∈ cj_ws) (hd : d' + 1 ≤ d ∧ 8 + (maxL + 11) + 37 * d' ≤ 37 * d) (hcat : (st.map fun v => v.category).sum ≤ 8) (hdg : decode cc pc = .ok (.invokestatic index, 3)) (kk : cj_G Y X o μ' (pc + 3) lv (st)) : cj_G Y X o μ pc lv (a4 :: a3 :: a2 :: a1 :: st) :=
  cj_callS (As := [a1, a2, a3, a4]) C hw hM hs hl rfl hd hcat hdg kk
theorem cj_cN4v (C : cj_C Y X cc nL own d ret) {y : MethodName} {bytes : ByteArray} {maxL d' index : Nat} {host : String} {rt : Option FieldType} {a1 a2 a3 a4 : Value} {μ' : cj_Mm} (hw : cj_cw y bytes maxL 4 rt) (hM : cj_Ct X.2.1 Y y bytes maxL rt d' [a1, a2, a3, a4] μ none μ') (hs : Cond.static y ∈ cj_ws) (hl : (own, index, y, host) ∈ cj_nst) (hd : d' + 1 ≤ d ∧ 8 + (maxL + 11) + 37 * d' ≤ 37 * d) (hcat : (st.map fun v => v.category).sum ≤ 8) (hdg : decode cc pc = .ok (.invokestatic index, 3)) (kk : cj_G Y X o μ' (pc + 3) lv (st)) : cj_G Y X o μ pc lv (a4 :: a3 :: a2 :: a1 :: st) :=
  cj_callSN (As := [a1, a2, a3, a4]) C hw hM hs hl rfl hd hcat hdg kk
end CJ5
