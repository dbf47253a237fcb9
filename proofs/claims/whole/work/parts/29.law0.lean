/-! the law's walk: both worlds, the script, one row an instruction -/
def cj_LG (D : va_G) (z : cj_Zc) (ad bd : cj_Ad) (X : cj_X) (b cs ss : Nat) (μ ν : cj_Mm) (pc : Nat) (lv : List (Nat × Value)) (st : List Value) : Prop :=
  ∀ (H : Heap) (locs : List Loc) (ls : Array Slot), cj_Wd (cj_EL z) D ad μ H → cj_Wd (cj_EM z) D bd ν H → va_S (fun q : Nat => X.2.2.2.2.1.heap.size ≤ q) X.2.2.2.2.1.heap H locs → lv_has ls 4 lv →
    W X.1 X.2.1 X.2.2.1 room_1 X.2.2.2.2.1 X.2.2.2.2.2.1 #[Value.ref b] X.2.2.2.2.2.2.2.1 X.2.2.2.2.2.2.2.2.1 X.2.2.2.2.2.2.2.2.2 H locs cs ss (lw_Z X.2.2.2.2.2.2.2.1 #[Value.ref b] X.2.2.2.2.1) (F0 X.2.2.2.2.2.1 pc ls st)
def cj_LC (D : va_G) (z : cj_Zc) (ad bd : cj_Ad) (X : cj_X) (b L : Nat) (xs : Nat → Int32) (cs ss : Nat) : Prop :=
  X.1.tables.exec = Jvm.exec ∧ X.2.2.2.2.2.2.2.2.2.code = cL_law ∧ X.2.2.2.2.2.2.2.2.2.maxLocals = 4 ∧ X.2.2.2.2.1.vm.findClass RL = some X.2.2.2.2.2.1.cls ∧ (∀ w ∈ cj_ws, w.before #[Value.ref b] X.2.2.2.2.1 = true) ∧ cj_K D z X.2.2.2.2.1 ∧ cj_Ij (cj_EL z) ad ∧ cj_Ij (cj_EM z) bd ∧ (∀ q, cj_A (cj_EL z) ad q → cj_A (cj_EM z) bd q → False) ∧ (∀ q, cj_A (cj_EL z) ad q → X.2.2.2.2.1.heap.size ≤ q) ∧ (∀ q, cj_A (cj_EM z) bd q → X.2.2.2.2.1.heap.size ≤ q) ∧ va_X b L xs X.2.2.2.2.1 X.2.2.2.2.1.heap ∧ b < X.2.2.2.2.1.heap.size ∧ X.2.2.2.2.2.2.2.2.1.locks = false ∧ X.2.2.2.2.2.2.2.2.1.sig.returnType = ret ∧ cs ≤ 600000 ∧ ss ≤ 7302250
section CJL
variable {D : va_G} {z : cj_Zc} {ad bd : cj_Ad} {X : cj_X} {b L cs ss : Nat} {xs : Nat → Int32} {μ ν : cj_Mm} {pc : Nat} {lv lv' : List (Nat × Value)} {st : List Value}
theorem cjl_iload_n (C : cj_LC D z ad bd X b L xs cs ss) {k : Fin 4} {i : Nat} {x : Int32} (hdg : decode cL_law pc = .ok (.iload_n k, 1)) (hi : (k : Nat) = i) (j : Nat) (hl : lv[j]? = some (i, .int x)) (kk : cj_LG D z ad bd X b cs ss μ ν (pc + 1) lv (.int x :: st)) : cj_LG D z ad bd X b cs ss μ ν pc lv st :=
  fun H locs ls hW hV hS hL => lv_iload_n C.1 C.2.1 hdg hi (lv_at hL j hl) (kk H locs ls hW hV hS hL)
theorem cjl_aload_n (C : cj_LC D z ad bd X b L xs cs ss) {k : Fin 4} {i : Nat} {x : Nat} (hdg : decode cL_law pc = .ok (.aload_n k, 1)) (hi : (k : Nat) = i) (j : Nat) (hl : lv[j]? = some (i, .ref x)) (kk : cj_LG D z ad bd X b cs ss μ ν (pc + 1) lv (.ref x :: st)) : cj_LG D z ad bd X b cs ss μ ν pc lv st :=
  fun H locs ls hW hV hS hL => lv_aload_n C.1 C.2.1 hdg hi (lv_at hL j hl) (kk H locs ls hW hV hS hL)
theorem cjl_iconst (C : cj_LC D z ad bd X b L xs cs ss) {n : Int} (v : Int32) (hdg : decode cL_law pc = .ok (.iconst n, 1)) (hv : Int32.ofInt n = v) (kk : cj_LG D z ad bd X b cs ss μ ν (pc + 1) lv (.int v :: st)) : cj_LG D z ad bd X b cs ss μ ν pc lv st :=
  fun H locs ls hW hV hS hL => lv_iconst C.1 C.2.1 hdg hv (kk H locs ls hW hV hS hL)
theorem cjl_bipush (C : cj_LC D z ad bd X b L xs cs ss) {n : Int} (v : Int32) (hdg : decode cL_law pc = .ok (.bipush n, 2)) (hv : (Int8.ofInt n).toInt32 = v) (kk : cj_LG D z ad bd X b cs ss μ ν (pc + 2) lv (.int v :: st)) : cj_LG D z ad bd X b cs ss μ ν pc lv st :=
  fun H locs ls hW hV hS hL => lv_bipush C.1 C.2.1 hdg hv (kk H locs ls hW hV hS hL)
theorem cjl_iadd (C : cj_LC D z ad bd X b L xs cs ss) {x y : Int32} (hdg : decode cL_law pc = .ok (.iadd, 1)) (kk : cj_LG D z ad bd X b cs ss μ ν (pc + 1) lv (.int (x + y) :: st)) : cj_LG D z ad bd X b cs ss μ ν pc lv (.int y :: .int x :: st) := fun H locs ls hW hV hS hL => lv_iadd C.1 C.2.1 hdg (kk H locs ls hW hV hS hL)
theorem cjl_isub (C : cj_LC D z ad bd X b L xs cs ss) {x y : Int32} (hdg : decode cL_law pc = .ok (.isub, 1)) (kk : cj_LG D z ad bd X b cs ss μ ν (pc + 1) lv (.int (x - y) :: st)) : cj_LG D z ad bd X b cs ss μ ν pc lv (.int y :: .int x :: st) := fun H locs ls hW hV hS hL => lv_isub C.1 C.2.1 hdg (kk H locs ls hW hV hS hL)
theorem cjl_iand (C : cj_LC D z ad bd X b L xs cs ss) {x y : Int32} (hdg : decode cL_law pc = .ok (.iand, 1)) (kk : cj_LG D z ad bd X b cs ss μ ν (pc + 1) lv (.int (x &&& y) :: st)) : cj_LG D z ad bd X b cs ss μ ν pc lv (.int y :: .int x :: st) := fun H locs ls hW hV hS hL => lv_iand C.1 C.2.1 hdg (kk H locs ls hW hV hS hL)
theorem cjl_sld (C : cj_LC D z ad bd X b L xs cs ss) {i : Int32} (hin : vp_in i L) (hdg : decode cL_law pc = .ok (.iaload, 1)) (kk : cj_LG D z ad bd X b cs ss μ ν (pc + 1) lv (.int (xs i.toNatClampNeg) :: st)) : cj_LG D z ad bd X b cs ss μ ν pc lv (.int i :: .ref b :: st) :=
  fun H locs ls hW hV hS hL => va_sld C.1 C.2.1 C.2.2.2.2.2.2.2.2.2.2.2.1 C.2.2.2.2.2.2.2.2.2.2.2.2.1 (Nat.not_le.mpr C.2.2.2.2.2.2.2.2.2.2.2.2.1) hS hin hdg (kk H locs ls hW hV hS hL)
theorem cjl_slen (C : cj_LC D z ad bd X b L xs cs ss) (hdg : decode cL_law pc = .ok (.arraylength, 1)) (kk : cj_LG D z ad bd X b cs ss μ ν (pc + 1) lv (.int (nI L) :: st)) : cj_LG D z ad bd X b cs ss μ ν pc lv (.ref b :: st) :=
  fun H locs ls hW hV hS hL => va_slen C.1 C.2.1 C.2.2.2.2.2.2.2.2.2.2.2.1 C.2.2.2.2.2.2.2.2.2.2.2.2.1 (Nat.not_le.mpr C.2.2.2.2.2.2.2.2.2.2.2.2.1) hS hdg (kk H locs ls hW hV hS hL)
theorem cjl_goto (C : cj_LC D z ad bd X b L xs cs ss) {off : Int} (tgt : Nat) (hdg : decode cL_law pc = .ok (.goto off, 3)) (ht : (pc : Int) + off = (tgt : Int)) (kk : cj_LG D z ad bd X b cs ss μ ν tgt lv st) : cj_LG D z ad bd X b cs ss μ ν pc lv st := fun H locs ls hW hV hS hL => lv_goto C.1 C.2.1 hdg ht (kk H locs ls hW hV hS hL)
theorem cjl_iinc (C : cj_LC D z ad bd X b L xs cs ss) {i j : Nat} {n : Int} {x v : Int32} (hdg : decode cL_law pc = .ok (.iinc i n, 3)) (hk : lv[j]? = some (i, .int x)) (hv : x + Int32.ofInt n = v) (hn : i < 4) (hl : (i, Value.int v) :: lv.filter (fun q => !(q.1 == i) && !(q.1 + 1 == i && q.2.category == 2)) = lv') (kk : cj_LG D z ad bd X b cs ss μ ν (pc + 3) lv' st) : cj_LG D z ad bd X b cs ss μ ν pc lv st :=
  fun H locs ls hW hV hS hL => lv_iinc C.1 C.2.1 hdg hL hk hv hn hl (fun ls' h => kk H locs ls' hW hV hS h)
theorem cjl_eq (C : cj_LC D z ad bd X b L xs cs ss) {x : Int32} {off : Int} (tgt : Nat) (hdg : decode cL_law pc = .ok (.if_icmp .eq off, 3)) (ht : (pc : Int) + off = (tgt : Int)) (kk : cj_LG D z ad bd X b cs ss μ ν tgt lv st) : cj_LG D z ad bd X b cs ss μ ν pc lv (.int x :: .int x :: st) :=
  fun H locs ls hW hV hS hL => lv_icmp_eq C.1 C.2.1 hdg ht (fun _ => kk H locs ls hW hV hS hL) (fun h => absurd rfl h)
theorem cjl_gt (C : cj_LC D z ad bd X b L xs cs ss) {x y : Int32} {off : Int} (tgt : Nat) (hdg : decode cL_law pc = .ok (.if_icmp .gt off, 3)) (ht : (pc : Int) + off = (tgt : Int)) (kt : y < x → cj_LG D z ad bd X b cs ss μ ν tgt lv st) (kf : ¬ y < x → cj_LG D z ad bd X b cs ss μ ν (pc + 3) lv st) : cj_LG D z ad bd X b cs ss μ ν pc lv (.int y :: .int x :: st) :=
  fun H locs ls hW hV hS hL => lv_icmp_gt C.1 C.2.1 hdg ht (fun h => kt h H locs ls hW hV hS hL) (fun h => kf h H locs ls hW hV hS hL)
theorem cjl_sub (ks : List Nat) (hl : lv_pick lv ks = lv') (kk : cj_LG D z ad bd X b cs ss μ ν pc lv' st) : cj_LG D z ad bd X b cs ss μ ν pc lv st := fun H locs ls hW hV hS hL => kk H locs ls hW hV hS (lv_sub hL ks hl)
theorem cj_Wd.kept {E : cj_En} {D : va_G} {ad : cj_Ad} {μ : cj_Mm} {H H1 : Heap} (h : cj_Wd E D ad μ H) (hk : ∀ q, cj_A E ad q → H1[q]? = H[q]?) : cj_Wd E D ad μ H1 := fun g k F he => (h g k F he).kept (hk _ ⟨g, k, F, he, rfl⟩)
theorem cjl_callL (C : cj_LC D z ad bd X b L xs cs ss) {y : MethodName} {bytes : ByteArray} {maxL n d' index N ci : Nat} {rt : Option FieldType} {F : cj_Fc} {fs : List Value} {T : u_T} {As rest : List Value} {r : Int32} {μ' : cj_Mm} (hw : cj_cw y bytes maxL n rt) (hM : cj_Ct X.2.1 (cj_YL D z ad) y bytes maxL rt d' (.ref (ad 0 0) :: As) μ (some (.int r)) μ') (hi : Cond.instanceMethod y ∈ cj_ws) (hs : Cond.selects y.cls y y ∈ cj_ws) (hl : Cond.methodLink RL index y ∈ cj_ws) (he : cj_EL z ad 0 0 = some F) (hF : F (μ 0 0) = .inr (ci, fs)) (hc : cj_cl[ci]? = some (y.cls, T, N)) (hn : As.length = n) (hd : d' + 1 ≤ 12 ∧ 8 + (maxL + 11) + 37 * d' ≤ 444) (hcat : (rest.map fun v => v.category).sum ≤ 8) (hdg : decode cL_law pc = .ok (.invokevirtual index, 3)) (kk : cj_LG D z ad bd X b cs ss μ' ν (pc + 3) lv (.int r :: rest)) : cj_LG D z ad bd X b cs ss μ ν pc lv (As.reverse ++ .ref (ad 0 0) :: rest) := by
  intro H locs ls hW hV hS hL
  obtain ⟨hx, hb, hml, hown, hts, hK, hI, hJ, hdis, hlo, hlo2, hX, hbl, hlk, hret, hcs, hss⟩ := id C
  have h1 := hW 0 0 F he
  rw [hF] at h1
  have hrecv := va_recv (q := (y.cls, T, N)) hK.1 (cj_sg h1) hc (q0 := 0) rfl
  have hr := va_runV (locs := locs) (cells := cs) (slots := ss) (below := X.2.2.2.2.2.2.2.1) (R := room_1) (e := X.2.2.1) (meth := X.2.2.2.2.2.2.2.2.1) (g := F0 X.2.2.2.2.2.1 pc ls (As.reverse ++ .ref (ad 0 0) :: rest)) (As := As) (rest := rest) (C := y.cls) (maxL := maxL) (ret := rt) (bytes := bytes) (n := n) ⟨hx, hb, hml, hown, hts⟩ hM ⟨callB_of n hts (cj_gi hw) rfl rfl rfl (hts _ hw.2.1) (hts _ hl) hw.2.2 hd, hts _ hi, hts _ hs⟩ ⟨cj_blind, hrecv, fun U hU hWU => ⟨rfl, by rw [hU]; exact hW, hK.warm hWU⟩⟩ rfl hn hL.1 rfl (lv_room hcat) hdg ⟨hcs, hss⟩
  intro T hT XS
  obtain ⟨v', st₀, t, T', Lc, h0, X', hLf, e1, e2, ⟨hv, hwd, hz, hk⟩, stp⟩ := hr T hT XS
  cases hv
  rw [h0] at hz hk
  obtain ⟨t2, a1, b1⟩ := kk T'.heap (locs ++ Lc) ls (by rw [e1]; exact hwd) (hV.kept (fun q hq => by rw [e1]; exact hk q (by obtain ⟨g, k, F, he, rfl⟩ := hq; exact (hV g k F he).lt) (fun z => hdis q z hq))) ⟨Nat.le_trans hS.1 (by rw [e1]; exact hz), fun q h1 h2 => by rw [e1, hk q (Nat.lt_of_lt_of_le h1 hS.1) (fun z => h2 (hlo q z))]; exact hS.2.1 q h1 h2, fun q hq => by
      rcases List.mem_append.mp hq with h | h
      · exact hS.2.2 q h
      · exact hlo _ (hLf q h)⟩ hL T' rfl X'
  exact ⟨t2, stp t2 a1, b1⟩
theorem cjl_callM (C : cj_LC D z ad bd X b L xs cs ss) {y : MethodName} {bytes : ByteArray} {maxL n d' index N ci : Nat} {rt : Option FieldType} {F : cj_Fc} {fs : List Value} {T : u_T} {As rest : List Value} {r : Int32} {σ' : cj_S} (hw : cj_cw y bytes maxL n rt) (hM : cj_Ct X.2.1 (cj_YM D z bd) y bytes maxL rt d' (.ref (bd 0 0) :: As) (cj_upG ν 0 (ν 0)) (some (.int r)) (cj_upG ν 0 σ')) (hi : Cond.instanceMethod y ∈ cj_ws) (hs : Cond.selects y.cls y y ∈ cj_ws) (hl : Cond.methodLink RL index y ∈ cj_ws) (he : cj_EM z bd 0 0 = some F) (hF : F (ν 0 0) = .inr (ci, fs)) (hc : cj_cl[ci]? = some (y.cls, T, N)) (hn : As.length = n) (hd : d' + 1 ≤ 12 ∧ 8 + (maxL + 11) + 37 * d' ≤ 444) (hcat : (rest.map fun v => v.category).sum ≤ 8) (hdg : decode cL_law pc = .ok (.invokevirtual index, 3)) (kk : cj_LG D z ad bd X b cs ss μ (cj_upG ν 0 σ') (pc + 3) lv (.int r :: rest)) : cj_LG D z ad bd X b cs ss μ ν pc lv (As.reverse ++ .ref (bd 0 0) :: rest) := by
  intro H locs ls hW hV hS hL
  rw [cj_upG_i] at hM
  obtain ⟨hx, hb, hml, hown, hts, hK, hI, hJ, hdis, hlo, hlo2, hX, hbl, hlk, hret, hcs, hss⟩ := id C
  have h1 := hV 0 0 F he
  rw [hF] at h1
  have hrecv := va_recv (q := (y.cls, T, N)) hK.1 (cj_sg h1) hc (q0 := 0) rfl
  have hr := va_runV (locs := locs) (cells := cs) (slots := ss) (below := X.2.2.2.2.2.2.2.1) (R := room_1) (e := X.2.2.1) (meth := X.2.2.2.2.2.2.2.2.1) (g := F0 X.2.2.2.2.2.1 pc ls (As.reverse ++ .ref (bd 0 0) :: rest)) (As := As) (rest := rest) (C := y.cls) (maxL := maxL) (ret := rt) (bytes := bytes) (n := n) ⟨hx, hb, hml, hown, hts⟩ hM ⟨callB_of n hts (cj_gi hw) rfl rfl rfl (hts _ hw.2.1) (hts _ hl) hw.2.2 hd, hts _ hi, hts _ hs⟩ ⟨cj_blind, hrecv, fun U hU hWU => ⟨rfl, by rw [hU]; exact hV, hK.warm hWU⟩⟩ rfl hn hL.1 rfl (lv_room hcat) hdg ⟨hcs, hss⟩
  intro T hT XS
  obtain ⟨v', st₀, t, T', Lc, h0, X', hLf, e1, e2, ⟨hv, hwd, hz, hk⟩, stp⟩ := hr T hT XS
  cases hv
  rw [h0] at hz hk
  obtain ⟨t2, a1, b1⟩ := kk T'.heap (locs ++ Lc) ls (hW.kept (fun q hq => by rw [e1]; exact hk q (by obtain ⟨g, k, F, he, rfl⟩ := hq; exact (hW g k F he).lt) (fun z => hdis q hq z))) (by rw [e1]; exact hwd) ⟨Nat.le_trans hS.1 (by rw [e1]; exact hz), fun q h1 h2 => by rw [e1, hk q (Nat.lt_of_lt_of_le h1 hS.1) (fun z => h2 (hlo2 q z))]; exact hS.2.1 q h1 h2, fun q hq => by
      rcases List.mem_append.mp hq with h | h
      · exact hS.2.2 q h
      · exact hlo2 _ (hLf q h)⟩ hL T' rfl X'
  exact ⟨t2, stp t2 a1, b1⟩
theorem cjl_tabI (C : cj_LC D z ad bd X b L xs cs ss) {dflt lo hi : Int} {offs : Array Int} {len : Nat} {x v : Int32} {off : Int} (tgt : Nat) (h : x = v) (hdg : decode cL_law pc = .ok (.tableswitch dflt lo hi offs, len)) (h1 : ¬ v.toInt < lo) (h2 : ¬ hi < v.toInt) (ho : offs[(v.toInt - lo).toNat]? = some off) (ht : (pc : Int) + off = (tgt : Int)) (kk : cj_LG D z ad bd X b cs ss μ ν tgt lv st) : cj_LG D z ad bd X b cs ss μ ν pc lv (.int x :: st) := by
  subst h
  exact fun H locs ls hW hV hS hL => lv_tableIn C.1 C.2.1 hdg h1 h2 ho ht (kk H locs ls hW hV hS hL)
theorem cjl_tabO (C : cj_LC D z ad bd X b L xs cs ss) {dflt lo hi : Int} {offs : Array Int} {len : Nat} {x : Int32} (tgt : Nat) (h : x.toInt < lo ∨ hi < x.toInt) (hdg : decode cL_law pc = .ok (.tableswitch dflt lo hi offs, len)) (ht : (pc : Int) + dflt = (tgt : Int)) (kk : cj_LG D z ad bd X b cs ss μ ν tgt lv st) : cj_LG D z ad bd X b cs ss μ ν pc lv (.int x :: st) :=
  fun H locs ls hW hV hS hL => lv_tableOut C.1 C.2.1 hdg h ht (kk H locs ls hW hV hS hL)
theorem cjl_ret (C : cj_LC D z ad bd X b L xs cs ss) (hdg : decode cL_law pc = .ok (.ireturn, 1)) : cj_LG D z ad bd X b cs ss μ ν pc lv [.int 1] := by
  intro H locs ls hW hV hS hL
  obtain ⟨hx, hb, hml, hown, hts, hK, hI, hJ, hdis, hlo, hlo2, hX, hbl, hlk, hret, hcs, hss⟩ := id C
  refine va_forget (fun q hq => hS.2.2 q hq) ?_
  refine W.widen (k := 600000) (n := 7302250) hcs hss ?_
  exact lw_ret (Drawn.sameBut.refl X.2.2.2.2.1.drawn lw_cs) hx hb hret hlk hdg
end CJL
/-! the words of the law's calls -/
theorem cjq_315 : Jvm.Cond.methodLink "CourtJotterLaw" (13 : Nat) ({ cls := "CourtJotter", name := "person", desc := "(II)I" } : Jvm.MethodName) ∈ cj_ws := cj_mem 315 (by decide +kernel) rfl
theorem cjq_316 : Jvm.Cond.instanceMethod ({ cls := "CourtJotter", name := "person", desc := "(II)I" } : Jvm.MethodName) ∈ cj_ws := cj_mem 316 (by decide +kernel) rfl
theorem cjq_317 : Jvm.Cond.selects "CourtJotter" ({ cls := "CourtJotter", name := "person", desc := "(II)I" } : Jvm.MethodName) ({ cls := "CourtJotter", name := "person", desc := "(II)I" } : Jvm.MethodName) ∈ cj_ws := cj_mem 317 (by decide +kernel) rfl
theorem cjq_368 : Jvm.Cond.methodLink "CourtJotterLaw" (18 : Nat) ({ cls := "CourtJotter", name := "turn", desc := "(III)I" } : Jvm.MethodName) ∈ cj_ws := cj_mem 368 (by decide +kernel) rfl
theorem cjq_369 : Jvm.Cond.instanceMethod ({ cls := "CourtJotter", name := "turn", desc := "(III)I" } : Jvm.MethodName) ∈ cj_ws := cj_mem 369 (by decide +kernel) rfl
theorem cjq_370 : Jvm.Cond.selects "CourtJotter" ({ cls := "CourtJotter", name := "turn", desc := "(III)I" } : Jvm.MethodName) ({ cls := "CourtJotter", name := "turn", desc := "(III)I" } : Jvm.MethodName) ∈ cj_ws := cj_mem 370 (by decide +kernel) rfl
theorem cjq_395 : Jvm.Cond.methodLink "CourtJotterLaw" (23 : Nat) ({ cls := "CourtJotter", name := "paper", desc := "(II)I" } : Jvm.MethodName) ∈ cj_ws := cj_mem 395 (by decide +kernel) rfl
theorem cjq_396 : Jvm.Cond.instanceMethod ({ cls := "CourtJotter", name := "paper", desc := "(II)I" } : Jvm.MethodName) ∈ cj_ws := cj_mem 396 (by decide +kernel) rfl
theorem cjq_397 : Jvm.Cond.selects "CourtJotter" ({ cls := "CourtJotter", name := "paper", desc := "(II)I" } : Jvm.MethodName) ({ cls := "CourtJotter", name := "paper", desc := "(II)I" } : Jvm.MethodName) ∈ cj_ws := cj_mem 397 (by decide +kernel) rfl
theorem cjq_403 : Jvm.Cond.methodLink "CourtJotterLaw" (27 : Nat) ({ cls := "CourtJotter", name := "look", desc := "(I)I" } : Jvm.MethodName) ∈ cj_ws := cj_mem 403 (by decide +kernel) rfl
theorem cjq_404 : Jvm.Cond.instanceMethod ({ cls := "CourtJotter", name := "look", desc := "(I)I" } : Jvm.MethodName) ∈ cj_ws := cj_mem 404 (by decide +kernel) rfl
theorem cjq_405 : Jvm.Cond.selects "CourtJotter" ({ cls := "CourtJotter", name := "look", desc := "(I)I" } : Jvm.MethodName) ({ cls := "CourtJotter", name := "look", desc := "(I)I" } : Jvm.MethodName) ∈ cj_ws := cj_mem 405 (by decide +kernel) rfl
theorem cjq_411 : Jvm.Cond.methodLink "CourtJotterLaw" (32 : Nat) ({ cls := "CourtJotter", name := "sheet", desc := "(I)I" } : Jvm.MethodName) ∈ cj_ws := cj_mem 411 (by decide +kernel) rfl
theorem cjq_412 : Jvm.Cond.instanceMethod ({ cls := "CourtJotter", name := "sheet", desc := "(I)I" } : Jvm.MethodName) ∈ cj_ws := cj_mem 412 (by decide +kernel) rfl
theorem cjq_413 : Jvm.Cond.selects "CourtJotter" ({ cls := "CourtJotter", name := "sheet", desc := "(I)I" } : Jvm.MethodName) ({ cls := "CourtJotter", name := "sheet", desc := "(I)I" } : Jvm.MethodName) ∈ cj_ws := cj_mem 413 (by decide +kernel) rfl
theorem cjq_423 : Jvm.Cond.methodLink "CourtJotterLaw" (36 : Nat) ({ cls := "CourtJotter", name := "draw", desc := "(II)I" } : Jvm.MethodName) ∈ cj_ws := cj_mem 423 (by decide +kernel) rfl
theorem cjq_424 : Jvm.Cond.instanceMethod ({ cls := "CourtJotter", name := "draw", desc := "(II)I" } : Jvm.MethodName) ∈ cj_ws := cj_mem 424 (by decide +kernel) rfl
theorem cjq_425 : Jvm.Cond.selects "CourtJotter" ({ cls := "CourtJotter", name := "draw", desc := "(II)I" } : Jvm.MethodName) ({ cls := "CourtJotter", name := "draw", desc := "(II)I" } : Jvm.MethodName) ∈ cj_ws := cj_mem 425 (by decide +kernel) rfl
theorem cjq_459 : Jvm.Cond.methodLink "CourtJotterLaw" (40 : Nat) ({ cls := "CourtJotter", name := "tear", desc := "(I)I" } : Jvm.MethodName) ∈ cj_ws := cj_mem 459 (by decide +kernel) rfl
theorem cjq_460 : Jvm.Cond.instanceMethod ({ cls := "CourtJotter", name := "tear", desc := "(I)I" } : Jvm.MethodName) ∈ cj_ws := cj_mem 460 (by decide +kernel) rfl
theorem cjq_461 : Jvm.Cond.selects "CourtJotter" ({ cls := "CourtJotter", name := "tear", desc := "(I)I" } : Jvm.MethodName) ({ cls := "CourtJotter", name := "tear", desc := "(I)I" } : Jvm.MethodName) ∈ cj_ws := cj_mem 461 (by decide +kernel) rfl
theorem cjq_471 : Jvm.Cond.methodLink "CourtJotterLaw" (44 : Nat) ({ cls := "CourtJotter", name := "verdict", desc := "(I)I" } : Jvm.MethodName) ∈ cj_ws := cj_mem 471 (by decide +kernel) rfl
theorem cjq_472 : Jvm.Cond.instanceMethod ({ cls := "CourtJotter", name := "verdict", desc := "(I)I" } : Jvm.MethodName) ∈ cj_ws := cj_mem 472 (by decide +kernel) rfl
theorem cjq_473 : Jvm.Cond.selects "CourtJotter" ({ cls := "CourtJotter", name := "verdict", desc := "(I)I" } : Jvm.MethodName) ({ cls := "CourtJotter", name := "verdict", desc := "(I)I" } : Jvm.MethodName) ∈ cj_ws := cj_mem 473 (by decide +kernel) rfl
theorem cjq_491 : Jvm.Cond.methodLink "CourtJotterLaw" (48 : Nat) ({ cls := "CourtJotter", name := "sell", desc := "(II)I" } : Jvm.MethodName) ∈ cj_ws := cj_mem 491 (by decide +kernel) rfl
theorem cjq_492 : Jvm.Cond.instanceMethod ({ cls := "CourtJotter", name := "sell", desc := "(II)I" } : Jvm.MethodName) ∈ cj_ws := cj_mem 492 (by decide +kernel) rfl
theorem cjq_493 : Jvm.Cond.selects "CourtJotter" ({ cls := "CourtJotter", name := "sell", desc := "(II)I" } : Jvm.MethodName) ({ cls := "CourtJotter", name := "sell", desc := "(II)I" } : Jvm.MethodName) ∈ cj_ws := cj_mem 493 (by decide +kernel) rfl
theorem cjq_532 : Jvm.Cond.methodLink "CourtJotterLaw" (52 : Nat) ({ cls := "CourtJotter", name := "pass", desc := "(I)I" } : Jvm.MethodName) ∈ cj_ws := cj_mem 532 (by decide +kernel) rfl
theorem cjq_533 : Jvm.Cond.instanceMethod ({ cls := "CourtJotter", name := "pass", desc := "(I)I" } : Jvm.MethodName) ∈ cj_ws := cj_mem 533 (by decide +kernel) rfl
theorem cjq_534 : Jvm.Cond.selects "CourtJotter" ({ cls := "CourtJotter", name := "pass", desc := "(I)I" } : Jvm.MethodName) ({ cls := "CourtJotter", name := "pass", desc := "(I)I" } : Jvm.MethodName) ∈ cj_ws := cj_mem 534 (by decide +kernel) rfl
theorem cjq_554 : Jvm.Cond.methodLink "CourtJotterLaw" (56 : Nat) ({ cls := "CourtJotter", name := "set", desc := "(II)I" } : Jvm.MethodName) ∈ cj_ws := cj_mem 554 (by decide +kernel) rfl
theorem cjq_555 : Jvm.Cond.instanceMethod ({ cls := "CourtJotter", name := "set", desc := "(II)I" } : Jvm.MethodName) ∈ cj_ws := cj_mem 555 (by decide +kernel) rfl
theorem cjq_556 : Jvm.Cond.selects "CourtJotter" ({ cls := "CourtJotter", name := "set", desc := "(II)I" } : Jvm.MethodName) ({ cls := "CourtJotter", name := "set", desc := "(II)I" } : Jvm.MethodName) ∈ cj_ws := cj_mem 556 (by decide +kernel) rfl
theorem cjq_562 : Jvm.Cond.methodLink "CourtJotterLaw" (60 : Nat) ({ cls := "CourtJotter", name := "personOf", desc := "(II)I" } : Jvm.MethodName) ∈ cj_ws := cj_mem 562 (by decide +kernel) rfl
theorem cjq_563 : Jvm.Cond.instanceMethod ({ cls := "CourtJotter", name := "personOf", desc := "(II)I" } : Jvm.MethodName) ∈ cj_ws := cj_mem 563 (by decide +kernel) rfl
theorem cjq_564 : Jvm.Cond.selects "CourtJotter" ({ cls := "CourtJotter", name := "personOf", desc := "(II)I" } : Jvm.MethodName) ({ cls := "CourtJotter", name := "personOf", desc := "(II)I" } : Jvm.MethodName) ∈ cj_ws := cj_mem 564 (by decide +kernel) rfl
theorem cjq_570 : Jvm.Cond.methodLink "CourtJotterLaw" (64 : Nat) ({ cls := "CourtJotter", name := "sheetOf", desc := "(II)I" } : Jvm.MethodName) ∈ cj_ws := cj_mem 570 (by decide +kernel) rfl
theorem cjq_571 : Jvm.Cond.instanceMethod ({ cls := "CourtJotter", name := "sheetOf", desc := "(II)I" } : Jvm.MethodName) ∈ cj_ws := cj_mem 571 (by decide +kernel) rfl
theorem cjq_572 : Jvm.Cond.selects "CourtJotter" ({ cls := "CourtJotter", name := "sheetOf", desc := "(II)I" } : Jvm.MethodName) ({ cls := "CourtJotter", name := "sheetOf", desc := "(II)I" } : Jvm.MethodName) ∈ cj_ws := cj_mem 572 (by decide +kernel) rfl
theorem cjq_578 : Jvm.Cond.methodLink "CourtJotterLaw" (68 : Nat) ({ cls := "CourtJotter", name := "paperOf", desc := "(II)I" } : Jvm.MethodName) ∈ cj_ws := cj_mem 578 (by decide +kernel) rfl
theorem cjq_579 : Jvm.Cond.instanceMethod ({ cls := "CourtJotter", name := "paperOf", desc := "(II)I" } : Jvm.MethodName) ∈ cj_ws := cj_mem 579 (by decide +kernel) rfl
theorem cjq_580 : Jvm.Cond.selects "CourtJotter" ({ cls := "CourtJotter", name := "paperOf", desc := "(II)I" } : Jvm.MethodName) ({ cls := "CourtJotter", name := "paperOf", desc := "(II)I" } : Jvm.MethodName) ∈ cj_ws := cj_mem 580 (by decide +kernel) rfl
theorem cjq_586 : Jvm.Cond.methodLink "CourtJotterLaw" (72 : Nat) ({ cls := "CourtJotter", name := "price", desc := "(II)I" } : Jvm.MethodName) ∈ cj_ws := cj_mem 586 (by decide +kernel) rfl
theorem cjq_587 : Jvm.Cond.instanceMethod ({ cls := "CourtJotter", name := "price", desc := "(II)I" } : Jvm.MethodName) ∈ cj_ws := cj_mem 587 (by decide +kernel) rfl
theorem cjq_588 : Jvm.Cond.selects "CourtJotter" ({ cls := "CourtJotter", name := "price", desc := "(II)I" } : Jvm.MethodName) ({ cls := "CourtJotter", name := "price", desc := "(II)I" } : Jvm.MethodName) ∈ cj_ws := cj_mem 588 (by decide +kernel) rfl
theorem cjq_594 : Jvm.Cond.methodLink "CourtJotterLaw" (76 : Nat) ({ cls := "CourtJotter", name := "number", desc := "(I)I" } : Jvm.MethodName) ∈ cj_ws := cj_mem 594 (by decide +kernel) rfl
theorem cjq_595 : Jvm.Cond.instanceMethod ({ cls := "CourtJotter", name := "number", desc := "(I)I" } : Jvm.MethodName) ∈ cj_ws := cj_mem 595 (by decide +kernel) rfl
theorem cjq_596 : Jvm.Cond.selects "CourtJotter" ({ cls := "CourtJotter", name := "number", desc := "(I)I" } : Jvm.MethodName) ({ cls := "CourtJotter", name := "number", desc := "(I)I" } : Jvm.MethodName) ∈ cj_ws := cj_mem 596 (by decide +kernel) rfl
theorem cjq_599 : Jvm.Cond.methodLink "CourtJotterLaw" (80 : Nat) ({ cls := "CourtJotter", name := "seenIn", desc := "(II)I" } : Jvm.MethodName) ∈ cj_ws := cj_mem 599 (by decide +kernel) rfl
theorem cjq_600 : Jvm.Cond.instanceMethod ({ cls := "CourtJotter", name := "seenIn", desc := "(II)I" } : Jvm.MethodName) ∈ cj_ws := cj_mem 600 (by decide +kernel) rfl
theorem cjq_601 : Jvm.Cond.selects "CourtJotter" ({ cls := "CourtJotter", name := "seenIn", desc := "(II)I" } : Jvm.MethodName) ({ cls := "CourtJotter", name := "seenIn", desc := "(II)I" } : Jvm.MethodName) ∈ cj_ws := cj_mem 601 (by decide +kernel) rfl
theorem cjq_607 : Jvm.Cond.methodLink "CourtJotterLaw" (84 : Nat) ({ cls := "CourtJotter", name := "would", desc := "(II)I" } : Jvm.MethodName) ∈ cj_ws := cj_mem 607 (by decide +kernel) rfl
theorem cjq_608 : Jvm.Cond.instanceMethod ({ cls := "CourtJotter", name := "would", desc := "(II)I" } : Jvm.MethodName) ∈ cj_ws := cj_mem 608 (by decide +kernel) rfl
theorem cjq_609 : Jvm.Cond.selects "CourtJotter" ({ cls := "CourtJotter", name := "would", desc := "(II)I" } : Jvm.MethodName) ({ cls := "CourtJotter", name := "would", desc := "(II)I" } : Jvm.MethodName) ∈ cj_ws := cj_mem 609 (by decide +kernel) rfl
theorem cjq_615 : Jvm.Cond.methodLink "CourtJotterLaw" (88 : Nat) ({ cls := "CourtJotter", name := "best", desc := "(I)I" } : Jvm.MethodName) ∈ cj_ws := cj_mem 615 (by decide +kernel) rfl
theorem cjq_616 : Jvm.Cond.instanceMethod ({ cls := "CourtJotter", name := "best", desc := "(I)I" } : Jvm.MethodName) ∈ cj_ws := cj_mem 616 (by decide +kernel) rfl
theorem cjq_617 : Jvm.Cond.selects "CourtJotter" ({ cls := "CourtJotter", name := "best", desc := "(I)I" } : Jvm.MethodName) ({ cls := "CourtJotter", name := "best", desc := "(I)I" } : Jvm.MethodName) ∈ cj_ws := cj_mem 617 (by decide +kernel) rfl
theorem cjq_623 : Jvm.Cond.methodLink "CourtJotterLaw" (92 : Nat) ({ cls := "CourtJotter", name := "sellAll", desc := "()I" } : Jvm.MethodName) ∈ cj_ws := cj_mem 623 (by decide +kernel) rfl
theorem cjq_624 : Jvm.Cond.instanceMethod ({ cls := "CourtJotter", name := "sellAll", desc := "()I" } : Jvm.MethodName) ∈ cj_ws := cj_mem 624 (by decide +kernel) rfl
theorem cjq_625 : Jvm.Cond.selects "CourtJotter" ({ cls := "CourtJotter", name := "sellAll", desc := "()I" } : Jvm.MethodName) ({ cls := "CourtJotter", name := "sellAll", desc := "()I" } : Jvm.MethodName) ∈ cj_ws := cj_mem 625 (by decide +kernel) rfl
theorem cjq_627 : Jvm.Cond.methodLink "CourtJotterLaw" (97 : Nat) ({ cls := "CourtJotter", name := "mean", desc := "()I" } : Jvm.MethodName) ∈ cj_ws := cj_mem 627 (by decide +kernel) rfl
theorem cjq_628 : Jvm.Cond.instanceMethod ({ cls := "CourtJotter", name := "mean", desc := "()I" } : Jvm.MethodName) ∈ cj_ws := cj_mem 628 (by decide +kernel) rfl
theorem cjq_629 : Jvm.Cond.selects "CourtJotter" ({ cls := "CourtJotter", name := "mean", desc := "()I" } : Jvm.MethodName) ({ cls := "CourtJotter", name := "mean", desc := "()I" } : Jvm.MethodName) ∈ cj_ws := cj_mem 629 (by decide +kernel) rfl
theorem cjq_635 : Jvm.Cond.methodLink "CourtJotterLaw" (101 : Nat) ({ cls := "CourtJotter", name := "count", desc := "(I)I" } : Jvm.MethodName) ∈ cj_ws := cj_mem 635 (by decide +kernel) rfl
theorem cjq_636 : Jvm.Cond.instanceMethod ({ cls := "CourtJotter", name := "count", desc := "(I)I" } : Jvm.MethodName) ∈ cj_ws := cj_mem 636 (by decide +kernel) rfl
theorem cjq_637 : Jvm.Cond.selects "CourtJotter" ({ cls := "CourtJotter", name := "count", desc := "(I)I" } : Jvm.MethodName) ({ cls := "CourtJotter", name := "count", desc := "(I)I" } : Jvm.MethodName) ∈ cj_ws := cj_mem 637 (by decide +kernel) rfl
theorem cjq_644 : Jvm.Cond.methodLink "CourtJotterLaw" (105 : Nat) ({ cls := "CourtJotter", name := "undo", desc := "()I" } : Jvm.MethodName) ∈ cj_ws := cj_mem 644 (by decide +kernel) rfl
theorem cjq_645 : Jvm.Cond.instanceMethod ({ cls := "CourtJotter", name := "undo", desc := "()I" } : Jvm.MethodName) ∈ cj_ws := cj_mem 645 (by decide +kernel) rfl
theorem cjq_646 : Jvm.Cond.selects "CourtJotter" ({ cls := "CourtJotter", name := "undo", desc := "()I" } : Jvm.MethodName) ({ cls := "CourtJotter", name := "undo", desc := "()I" } : Jvm.MethodName) ∈ cj_ws := cj_mem 646 (by decide +kernel) rfl
theorem cjq_653 : Jvm.Cond.methodLink "CourtJotterLaw" (109 : Nat) ({ cls := "CourtJotter", name := "type", desc := "(I)I" } : Jvm.MethodName) ∈ cj_ws := cj_mem 653 (by decide +kernel) rfl
theorem cjq_654 : Jvm.Cond.instanceMethod ({ cls := "CourtJotter", name := "type", desc := "(I)I" } : Jvm.MethodName) ∈ cj_ws := cj_mem 654 (by decide +kernel) rfl
theorem cjq_655 : Jvm.Cond.selects "CourtJotter" ({ cls := "CourtJotter", name := "type", desc := "(I)I" } : Jvm.MethodName) ({ cls := "CourtJotter", name := "type", desc := "(I)I" } : Jvm.MethodName) ∈ cj_ws := cj_mem 655 (by decide +kernel) rfl
theorem cjq_664 : Jvm.Cond.methodLink "CourtJotterLaw" (113 : Nat) ({ cls := "CourtJotter", name := "clearText", desc := "()I" } : Jvm.MethodName) ∈ cj_ws := cj_mem 664 (by decide +kernel) rfl
theorem cjq_665 : Jvm.Cond.instanceMethod ({ cls := "CourtJotter", name := "clearText", desc := "()I" } : Jvm.MethodName) ∈ cj_ws := cj_mem 665 (by decide +kernel) rfl
theorem cjq_666 : Jvm.Cond.selects "CourtJotter" ({ cls := "CourtJotter", name := "clearText", desc := "()I" } : Jvm.MethodName) ({ cls := "CourtJotter", name := "clearText", desc := "()I" } : Jvm.MethodName) ∈ cj_ws := cj_mem 666 (by decide +kernel) rfl
theorem cjq_668 : Jvm.Cond.methodLink "CourtJotterLaw" (117 : Nat) ({ cls := "CourtJotter", name := "fault", desc := "(I)I" } : Jvm.MethodName) ∈ cj_ws := cj_mem 668 (by decide +kernel) rfl
theorem cjq_669 : Jvm.Cond.instanceMethod ({ cls := "CourtJotter", name := "fault", desc := "(I)I" } : Jvm.MethodName) ∈ cj_ws := cj_mem 669 (by decide +kernel) rfl
theorem cjq_670 : Jvm.Cond.selects "CourtJotter" ({ cls := "CourtJotter", name := "fault", desc := "(I)I" } : Jvm.MethodName) ({ cls := "CourtJotter", name := "fault", desc := "(I)I" } : Jvm.MethodName) ∈ cj_ws := cj_mem 670 (by decide +kernel) rfl
theorem cjq_709 : Jvm.Cond.methodLink "CourtJotterLaw" (121 : Nat) ({ cls := "CourtJotter", name := "play", desc := "()I" } : Jvm.MethodName) ∈ cj_ws := cj_mem 709 (by decide +kernel) rfl
theorem cjq_710 : Jvm.Cond.instanceMethod ({ cls := "CourtJotter", name := "play", desc := "()I" } : Jvm.MethodName) ∈ cj_ws := cj_mem 710 (by decide +kernel) rfl
theorem cjq_711 : Jvm.Cond.selects "CourtJotter" ({ cls := "CourtJotter", name := "play", desc := "()I" } : Jvm.MethodName) ({ cls := "CourtJotter", name := "play", desc := "()I" } : Jvm.MethodName) ∈ cj_ws := cj_mem 711 (by decide +kernel) rfl
theorem cjq_766 : Jvm.Cond.methodLink "CourtJotterLaw" (17 : Nat) ({ cls := "CourtJotterModel", name := "person", desc := "(II)I" } : Jvm.MethodName) ∈ cj_ws := cj_mem 766 (by decide +kernel) rfl
theorem cjq_767 : Jvm.Cond.instanceMethod ({ cls := "CourtJotterModel", name := "person", desc := "(II)I" } : Jvm.MethodName) ∈ cj_ws := cj_mem 767 (by decide +kernel) rfl
theorem cjq_768 : Jvm.Cond.selects "CourtJotterModel" ({ cls := "CourtJotterModel", name := "person", desc := "(II)I" } : Jvm.MethodName) ({ cls := "CourtJotterModel", name := "person", desc := "(II)I" } : Jvm.MethodName) ∈ cj_ws := cj_mem 768 (by decide +kernel) rfl
theorem cjq_788 : Jvm.Cond.methodLink "CourtJotterLaw" (22 : Nat) ({ cls := "CourtJotterModel", name := "turn", desc := "(III)I" } : Jvm.MethodName) ∈ cj_ws := cj_mem 788 (by decide +kernel) rfl
theorem cjq_789 : Jvm.Cond.instanceMethod ({ cls := "CourtJotterModel", name := "turn", desc := "(III)I" } : Jvm.MethodName) ∈ cj_ws := cj_mem 789 (by decide +kernel) rfl
theorem cjq_790 : Jvm.Cond.selects "CourtJotterModel" ({ cls := "CourtJotterModel", name := "turn", desc := "(III)I" } : Jvm.MethodName) ({ cls := "CourtJotterModel", name := "turn", desc := "(III)I" } : Jvm.MethodName) ∈ cj_ws := cj_mem 790 (by decide +kernel) rfl
theorem cjq_808 : Jvm.Cond.methodLink "CourtJotterLaw" (26 : Nat) ({ cls := "CourtJotterModel", name := "paper", desc := "(II)I" } : Jvm.MethodName) ∈ cj_ws := cj_mem 808 (by decide +kernel) rfl
theorem cjq_809 : Jvm.Cond.instanceMethod ({ cls := "CourtJotterModel", name := "paper", desc := "(II)I" } : Jvm.MethodName) ∈ cj_ws := cj_mem 809 (by decide +kernel) rfl
theorem cjq_810 : Jvm.Cond.selects "CourtJotterModel" ({ cls := "CourtJotterModel", name := "paper", desc := "(II)I" } : Jvm.MethodName) ({ cls := "CourtJotterModel", name := "paper", desc := "(II)I" } : Jvm.MethodName) ∈ cj_ws := cj_mem 810 (by decide +kernel) rfl
theorem cjq_812 : Jvm.Cond.methodLink "CourtJotterLaw" (31 : Nat) ({ cls := "CourtJotterModel", name := "look", desc := "(I)I" } : Jvm.MethodName) ∈ cj_ws := cj_mem 812 (by decide +kernel) rfl
theorem cjq_816 : Jvm.Cond.methodLink "CourtJotterLaw" (35 : Nat) ({ cls := "CourtJotterModel", name := "sheet", desc := "(I)I" } : Jvm.MethodName) ∈ cj_ws := cj_mem 816 (by decide +kernel) rfl
theorem cjq_820 : Jvm.Cond.methodLink "CourtJotterLaw" (39 : Nat) ({ cls := "CourtJotterModel", name := "draw", desc := "(II)I" } : Jvm.MethodName) ∈ cj_ws := cj_mem 820 (by decide +kernel) rfl
theorem cjq_844 : Jvm.Cond.methodLink "CourtJotterLaw" (43 : Nat) ({ cls := "CourtJotterModel", name := "tear", desc := "(I)I" } : Jvm.MethodName) ∈ cj_ws := cj_mem 844 (by decide +kernel) rfl
theorem cjq_845 : Jvm.Cond.instanceMethod ({ cls := "CourtJotterModel", name := "tear", desc := "(I)I" } : Jvm.MethodName) ∈ cj_ws := cj_mem 845 (by decide +kernel) rfl
theorem cjq_846 : Jvm.Cond.selects "CourtJotterModel" ({ cls := "CourtJotterModel", name := "tear", desc := "(I)I" } : Jvm.MethodName) ({ cls := "CourtJotterModel", name := "tear", desc := "(I)I" } : Jvm.MethodName) ∈ cj_ws := cj_mem 846 (by decide +kernel) rfl
theorem cjq_852 : Jvm.Cond.methodLink "CourtJotterLaw" (47 : Nat) ({ cls := "CourtJotterModel", name := "verdict", desc := "(I)I" } : Jvm.MethodName) ∈ cj_ws := cj_mem 852 (by decide +kernel) rfl
theorem cjq_868 : Jvm.Cond.methodLink "CourtJotterLaw" (51 : Nat) ({ cls := "CourtJotterModel", name := "sell", desc := "(II)I" } : Jvm.MethodName) ∈ cj_ws := cj_mem 868 (by decide +kernel) rfl
theorem cjq_900 : Jvm.Cond.methodLink "CourtJotterLaw" (55 : Nat) ({ cls := "CourtJotterModel", name := "pass", desc := "(I)I" } : Jvm.MethodName) ∈ cj_ws := cj_mem 900 (by decide +kernel) rfl
theorem cjq_912 : Jvm.Cond.methodLink "CourtJotterLaw" (59 : Nat) ({ cls := "CourtJotterModel", name := "set", desc := "(II)I" } : Jvm.MethodName) ∈ cj_ws := cj_mem 912 (by decide +kernel) rfl
theorem cjq_913 : Jvm.Cond.instanceMethod ({ cls := "CourtJotterModel", name := "set", desc := "(II)I" } : Jvm.MethodName) ∈ cj_ws := cj_mem 913 (by decide +kernel) rfl
theorem cjq_914 : Jvm.Cond.selects "CourtJotterModel" ({ cls := "CourtJotterModel", name := "set", desc := "(II)I" } : Jvm.MethodName) ({ cls := "CourtJotterModel", name := "set", desc := "(II)I" } : Jvm.MethodName) ∈ cj_ws := cj_mem 914 (by decide +kernel) rfl
theorem cjq_916 : Jvm.Cond.methodLink "CourtJotterLaw" (63 : Nat) ({ cls := "CourtJotterModel", name := "personOf", desc := "(II)I" } : Jvm.MethodName) ∈ cj_ws := cj_mem 916 (by decide +kernel) rfl
theorem cjq_917 : Jvm.Cond.instanceMethod ({ cls := "CourtJotterModel", name := "personOf", desc := "(II)I" } : Jvm.MethodName) ∈ cj_ws := cj_mem 917 (by decide +kernel) rfl
theorem cjq_918 : Jvm.Cond.selects "CourtJotterModel" ({ cls := "CourtJotterModel", name := "personOf", desc := "(II)I" } : Jvm.MethodName) ({ cls := "CourtJotterModel", name := "personOf", desc := "(II)I" } : Jvm.MethodName) ∈ cj_ws := cj_mem 918 (by decide +kernel) rfl
theorem cjq_920 : Jvm.Cond.methodLink "CourtJotterLaw" (67 : Nat) ({ cls := "CourtJotterModel", name := "sheetOf", desc := "(II)I" } : Jvm.MethodName) ∈ cj_ws := cj_mem 920 (by decide +kernel) rfl
theorem cjq_921 : Jvm.Cond.instanceMethod ({ cls := "CourtJotterModel", name := "sheetOf", desc := "(II)I" } : Jvm.MethodName) ∈ cj_ws := cj_mem 921 (by decide +kernel) rfl
theorem cjq_922 : Jvm.Cond.selects "CourtJotterModel" ({ cls := "CourtJotterModel", name := "sheetOf", desc := "(II)I" } : Jvm.MethodName) ({ cls := "CourtJotterModel", name := "sheetOf", desc := "(II)I" } : Jvm.MethodName) ∈ cj_ws := cj_mem 922 (by decide +kernel) rfl
theorem cjq_924 : Jvm.Cond.methodLink "CourtJotterLaw" (71 : Nat) ({ cls := "CourtJotterModel", name := "paperOf", desc := "(II)I" } : Jvm.MethodName) ∈ cj_ws := cj_mem 924 (by decide +kernel) rfl
theorem cjq_925 : Jvm.Cond.instanceMethod ({ cls := "CourtJotterModel", name := "paperOf", desc := "(II)I" } : Jvm.MethodName) ∈ cj_ws := cj_mem 925 (by decide +kernel) rfl
theorem cjq_926 : Jvm.Cond.selects "CourtJotterModel" ({ cls := "CourtJotterModel", name := "paperOf", desc := "(II)I" } : Jvm.MethodName) ({ cls := "CourtJotterModel", name := "paperOf", desc := "(II)I" } : Jvm.MethodName) ∈ cj_ws := cj_mem 926 (by decide +kernel) rfl
theorem cjq_928 : Jvm.Cond.methodLink "CourtJotterLaw" (75 : Nat) ({ cls := "CourtJotterModel", name := "price", desc := "(II)I" } : Jvm.MethodName) ∈ cj_ws := cj_mem 928 (by decide +kernel) rfl
theorem cjq_929 : Jvm.Cond.instanceMethod ({ cls := "CourtJotterModel", name := "price", desc := "(II)I" } : Jvm.MethodName) ∈ cj_ws := cj_mem 929 (by decide +kernel) rfl
theorem cjq_930 : Jvm.Cond.selects "CourtJotterModel" ({ cls := "CourtJotterModel", name := "price", desc := "(II)I" } : Jvm.MethodName) ({ cls := "CourtJotterModel", name := "price", desc := "(II)I" } : Jvm.MethodName) ∈ cj_ws := cj_mem 930 (by decide +kernel) rfl
theorem cjq_932 : Jvm.Cond.methodLink "CourtJotterLaw" (79 : Nat) ({ cls := "CourtJotterModel", name := "number", desc := "(I)I" } : Jvm.MethodName) ∈ cj_ws := cj_mem 932 (by decide +kernel) rfl
theorem cjq_933 : Jvm.Cond.instanceMethod ({ cls := "CourtJotterModel", name := "number", desc := "(I)I" } : Jvm.MethodName) ∈ cj_ws := cj_mem 933 (by decide +kernel) rfl
theorem cjq_934 : Jvm.Cond.selects "CourtJotterModel" ({ cls := "CourtJotterModel", name := "number", desc := "(I)I" } : Jvm.MethodName) ({ cls := "CourtJotterModel", name := "number", desc := "(I)I" } : Jvm.MethodName) ∈ cj_ws := cj_mem 934 (by decide +kernel) rfl
theorem cjq_936 : Jvm.Cond.methodLink "CourtJotterLaw" (83 : Nat) ({ cls := "CourtJotterModel", name := "seenIn", desc := "(II)I" } : Jvm.MethodName) ∈ cj_ws := cj_mem 936 (by decide +kernel) rfl
theorem cjq_937 : Jvm.Cond.instanceMethod ({ cls := "CourtJotterModel", name := "seenIn", desc := "(II)I" } : Jvm.MethodName) ∈ cj_ws := cj_mem 937 (by decide +kernel) rfl
theorem cjq_938 : Jvm.Cond.selects "CourtJotterModel" ({ cls := "CourtJotterModel", name := "seenIn", desc := "(II)I" } : Jvm.MethodName) ({ cls := "CourtJotterModel", name := "seenIn", desc := "(II)I" } : Jvm.MethodName) ∈ cj_ws := cj_mem 938 (by decide +kernel) rfl
theorem cjq_940 : Jvm.Cond.methodLink "CourtJotterLaw" (87 : Nat) ({ cls := "CourtJotterModel", name := "would", desc := "(II)I" } : Jvm.MethodName) ∈ cj_ws := cj_mem 940 (by decide +kernel) rfl
theorem cjq_941 : Jvm.Cond.instanceMethod ({ cls := "CourtJotterModel", name := "would", desc := "(II)I" } : Jvm.MethodName) ∈ cj_ws := cj_mem 941 (by decide +kernel) rfl
theorem cjq_942 : Jvm.Cond.selects "CourtJotterModel" ({ cls := "CourtJotterModel", name := "would", desc := "(II)I" } : Jvm.MethodName) ({ cls := "CourtJotterModel", name := "would", desc := "(II)I" } : Jvm.MethodName) ∈ cj_ws := cj_mem 942 (by decide +kernel) rfl
theorem cjq_947 : Jvm.Cond.methodLink "CourtJotterLaw" (91 : Nat) ({ cls := "CourtJotterModel", name := "best", desc := "(I)I" } : Jvm.MethodName) ∈ cj_ws := cj_mem 947 (by decide +kernel) rfl
theorem cjq_948 : Jvm.Cond.instanceMethod ({ cls := "CourtJotterModel", name := "best", desc := "(I)I" } : Jvm.MethodName) ∈ cj_ws := cj_mem 948 (by decide +kernel) rfl
theorem cjq_949 : Jvm.Cond.selects "CourtJotterModel" ({ cls := "CourtJotterModel", name := "best", desc := "(I)I" } : Jvm.MethodName) ({ cls := "CourtJotterModel", name := "best", desc := "(I)I" } : Jvm.MethodName) ∈ cj_ws := cj_mem 949 (by decide +kernel) rfl
theorem cjq_955 : Jvm.Cond.methodLink "CourtJotterLaw" (96 : Nat) ({ cls := "CourtJotterModel", name := "sellAll", desc := "()I" } : Jvm.MethodName) ∈ cj_ws := cj_mem 955 (by decide +kernel) rfl
theorem cjq_956 : Jvm.Cond.instanceMethod ({ cls := "CourtJotterModel", name := "sellAll", desc := "()I" } : Jvm.MethodName) ∈ cj_ws := cj_mem 956 (by decide +kernel) rfl
theorem cjq_957 : Jvm.Cond.selects "CourtJotterModel" ({ cls := "CourtJotterModel", name := "sellAll", desc := "()I" } : Jvm.MethodName) ({ cls := "CourtJotterModel", name := "sellAll", desc := "()I" } : Jvm.MethodName) ∈ cj_ws := cj_mem 957 (by decide +kernel) rfl
theorem cjq_959 : Jvm.Cond.methodLink "CourtJotterLaw" (100 : Nat) ({ cls := "CourtJotterModel", name := "mean", desc := "()I" } : Jvm.MethodName) ∈ cj_ws := cj_mem 959 (by decide +kernel) rfl
theorem cjq_960 : Jvm.Cond.instanceMethod ({ cls := "CourtJotterModel", name := "mean", desc := "()I" } : Jvm.MethodName) ∈ cj_ws := cj_mem 960 (by decide +kernel) rfl
theorem cjq_961 : Jvm.Cond.selects "CourtJotterModel" ({ cls := "CourtJotterModel", name := "mean", desc := "()I" } : Jvm.MethodName) ({ cls := "CourtJotterModel", name := "mean", desc := "()I" } : Jvm.MethodName) ∈ cj_ws := cj_mem 961 (by decide +kernel) rfl
theorem cjq_973 : Jvm.Cond.methodLink "CourtJotterLaw" (104 : Nat) ({ cls := "CourtJotterModel", name := "count", desc := "(I)I" } : Jvm.MethodName) ∈ cj_ws := cj_mem 973 (by decide +kernel) rfl
theorem cjq_974 : Jvm.Cond.instanceMethod ({ cls := "CourtJotterModel", name := "count", desc := "(I)I" } : Jvm.MethodName) ∈ cj_ws := cj_mem 974 (by decide +kernel) rfl
theorem cjq_975 : Jvm.Cond.selects "CourtJotterModel" ({ cls := "CourtJotterModel", name := "count", desc := "(I)I" } : Jvm.MethodName) ({ cls := "CourtJotterModel", name := "count", desc := "(I)I" } : Jvm.MethodName) ∈ cj_ws := cj_mem 975 (by decide +kernel) rfl
theorem cjq_977 : Jvm.Cond.methodLink "CourtJotterLaw" (108 : Nat) ({ cls := "CourtJotterModel", name := "undo", desc := "()I" } : Jvm.MethodName) ∈ cj_ws := cj_mem 977 (by decide +kernel) rfl
theorem cjq_978 : Jvm.Cond.instanceMethod ({ cls := "CourtJotterModel", name := "undo", desc := "()I" } : Jvm.MethodName) ∈ cj_ws := cj_mem 978 (by decide +kernel) rfl
theorem cjq_979 : Jvm.Cond.selects "CourtJotterModel" ({ cls := "CourtJotterModel", name := "undo", desc := "()I" } : Jvm.MethodName) ({ cls := "CourtJotterModel", name := "undo", desc := "()I" } : Jvm.MethodName) ∈ cj_ws := cj_mem 979 (by decide +kernel) rfl
theorem cjq_981 : Jvm.Cond.methodLink "CourtJotterLaw" (112 : Nat) ({ cls := "CourtJotterModel", name := "type", desc := "(I)I" } : Jvm.MethodName) ∈ cj_ws := cj_mem 981 (by decide +kernel) rfl
theorem cjq_982 : Jvm.Cond.instanceMethod ({ cls := "CourtJotterModel", name := "type", desc := "(I)I" } : Jvm.MethodName) ∈ cj_ws := cj_mem 982 (by decide +kernel) rfl
theorem cjq_983 : Jvm.Cond.selects "CourtJotterModel" ({ cls := "CourtJotterModel", name := "type", desc := "(I)I" } : Jvm.MethodName) ({ cls := "CourtJotterModel", name := "type", desc := "(I)I" } : Jvm.MethodName) ∈ cj_ws := cj_mem 983 (by decide +kernel) rfl
theorem cjq_985 : Jvm.Cond.methodLink "CourtJotterLaw" (116 : Nat) ({ cls := "CourtJotterModel", name := "clearText", desc := "()I" } : Jvm.MethodName) ∈ cj_ws := cj_mem 985 (by decide +kernel) rfl
theorem cjq_986 : Jvm.Cond.instanceMethod ({ cls := "CourtJotterModel", name := "clearText", desc := "()I" } : Jvm.MethodName) ∈ cj_ws := cj_mem 986 (by decide +kernel) rfl
theorem cjq_987 : Jvm.Cond.selects "CourtJotterModel" ({ cls := "CourtJotterModel", name := "clearText", desc := "()I" } : Jvm.MethodName) ({ cls := "CourtJotterModel", name := "clearText", desc := "()I" } : Jvm.MethodName) ∈ cj_ws := cj_mem 987 (by decide +kernel) rfl
theorem cjq_989 : Jvm.Cond.methodLink "CourtJotterLaw" (120 : Nat) ({ cls := "CourtJotterModel", name := "fault", desc := "(I)I" } : Jvm.MethodName) ∈ cj_ws := cj_mem 989 (by decide +kernel) rfl
theorem cjq_990 : Jvm.Cond.instanceMethod ({ cls := "CourtJotterModel", name := "fault", desc := "(I)I" } : Jvm.MethodName) ∈ cj_ws := cj_mem 990 (by decide +kernel) rfl
theorem cjq_991 : Jvm.Cond.selects "CourtJotterModel" ({ cls := "CourtJotterModel", name := "fault", desc := "(I)I" } : Jvm.MethodName) ({ cls := "CourtJotterModel", name := "fault", desc := "(I)I" } : Jvm.MethodName) ∈ cj_ws := cj_mem 991 (by decide +kernel) rfl
theorem cjq_1026 : Jvm.Cond.methodLink "CourtJotterLaw" (124 : Nat) ({ cls := "CourtJotterModel", name := "play", desc := "()I" } : Jvm.MethodName) ∈ cj_ws := cj_mem 1026 (by decide +kernel) rfl
theorem cjq_1027 : Jvm.Cond.instanceMethod ({ cls := "CourtJotterModel", name := "play", desc := "()I" } : Jvm.MethodName) ∈ cj_ws := cj_mem 1027 (by decide +kernel) rfl
theorem cjq_1028 : Jvm.Cond.selects "CourtJotterModel" ({ cls := "CourtJotterModel", name := "play", desc := "()I" } : Jvm.MethodName) ({ cls := "CourtJotterModel", name := "play", desc := "()I" } : Jvm.MethodName) ∈ cj_ws := cj_mem 1028 (by decide +kernel) rfl
