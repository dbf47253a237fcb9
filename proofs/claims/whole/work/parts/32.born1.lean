section CJC
variable {B : cj_BX} {Q : State → Prop} {cs cs2 : List va_E} {pc n0 m0 : Nat} {lv lv' : List (Nat × Value)} {st : List Value} {cc : ByteArray} {nL d mc ms : Nat} {own : String}
theorem cjb_putF (C : cj_BC B cc nL own d mc ms) {i k ci N index : Nat} {fs : List Value} {Cn rn nm ds : String} {T : u_T} {ty0 : Nat → FieldType} {ty : FieldType} {v : Value} (he : cs[i]? = some (.inr (ci, fs))) (hc : cj_cl[ci]? = some (Cn, T, N)) (hin : ∀ w ∈ u_ws Cn T N, w ∈ cj_ws) (hty : ∀ k, k < N → parseFieldDescriptor (T k).2.2.1 = some (ty0 k)) (hnm : ∀ a, a < N → ∀ b, b < N → a ≠ b → (T a).2.1 ≠ (T b).2.1) (hk : k < N) (hT : T k = (rn, nm, ds, true)) (hown2 : rn = own ∧ ¬ own = RL) (hl : Cond.fieldLink own index rn nm ds ∈ cj_ws) (hd : parseFieldDescriptor ds = some ty) (hn : narrow ty v = v) (hfit : fits ty v = true) (hlen : k < fs.length) (hdg : decode cc pc = .ok (.putfield index, 3)) (hcs : cs.set i (.inr (ci, fs.set k v)) = cs2) (kk : cj_B B Q cs2 (pc + 3) lv st n0 m0) : cj_B B Q cs pc lv (v :: .ref (B.2.2.2 + i) :: st) n0 m0 := by
  intro H locs ls hz hP hS hL
  obtain ⟨hx, hb, hml, hown, hts, hKA, hin2, hlk, hret, hRf, hRl, hRc, hRs⟩ := id C
  have hK := hKA.1.1
  have hap := va_apart (own := own) hts hin ty0 hty hnm hK hc
  obtain ⟨q, h2, cell, q1, q2, q3, q4⟩ := hP i _ he
  have hr : q = (Cn, T, N) := Option.some.inj (h2.symm.trans hc)
  subst hr
  obtain ⟨hSl, hfc, kC, hkC, hkind⟩ := hK.1 ci _ hc
  obtain ⟨cf, kf, fi, f, hi, hsl⟩ := hSl k hk
  have hlay := hts _ (hin _ (u_in_lay hk))
  unfold u_lay at hlay
  rw [if_pos (by rw [hT])] at hlay
  have hst := (u_facts hfc hkC (u_lays hts hin hk) hi).1
  have hcf : B.1.2.2.2.2.2.1.cls = cf := by
    obtain ⟨_, _, c', _, _, _, -, -, hf', -, -, -, hown3, -⟩ := Cond.laysFinal_spec hlay
    have e1 : c' = cf := by have := hi.symm.trans hf'; simp at this; exact this.1.symm
    rw [show (T k).1 = own by rw [hT]; exact hown2.1] at hown3
    rw [← e1]; exact Option.some.inj (hown.symm.trans hown3)
  have h6 := u_fits hfc hkC hkind (Or.inr hlay) hi (by rw [hT]; exact hd) hn hfit
  have hlk2 : (Cond.fieldLink own index (T k).1 (T k).2.1 (T k).2.2.1).before B.1.2.2.2.2.2.2.1 B.1.2.2.2.2.1 = true := by rw [hT]; exact hts _ hl
  refine W.putFinK hx hb hown hlk2 hi hst hcf (hin2.resolve_left hown2.2) (by rw [q2]; exact h6) q1 q3 (by rw [hsl]; exact k2_hasslot (q4 k hk)) rfl rfl hdg fun H' e1 e2 e3 => ?_
  rw [hsl] at e1 ⊢
  have hset := cjb_set (e1 := .inr (ci, fs.set k v)) hP he ⟨_, hc, t_OB.to (V := updV (vp_V fs) k v) ⟨_, e1, q2, q3, t_set q4 hap hk v⟩ (fun j _ => vp_updV_set hlen v j)⟩ e3
  rw [hcs] at hset
  exact kk H' _ ls (by rw [e2, hz, ← hcs, List.length_set]) hset (hS.put e2 e3 (Nat.le_add_right _ _)) hL
theorem cjb_put (C : cj_BC B cc nL own d mc ms) {i k ci N index : Nat} {fs : List Value} {Cn rn nm ds : String} {T : u_T} {ty0 : Nat → FieldType} {ty : FieldType} {v : Value} (he : cs[i]? = some (.inr (ci, fs))) (hc : cj_cl[ci]? = some (Cn, T, N)) (hin : ∀ w ∈ u_ws Cn T N, w ∈ cj_ws) (hty : ∀ k, k < N → parseFieldDescriptor (T k).2.2.1 = some (ty0 k)) (hnm : ∀ a, a < N → ∀ b, b < N → a ≠ b → (T a).2.1 ≠ (T b).2.1) (hk : k < N) (hT : T k = (rn, nm, ds, false)) (hl : Cond.fieldLink own index rn nm ds ∈ cj_ws) (hd : parseFieldDescriptor ds = some ty) (hn : narrow ty v = v) (hfit : fits ty v = true) (hlen : k < fs.length) (hdg : decode cc pc = .ok (.putfield index, 3)) (hcs : cs.set i (.inr (ci, fs.set k v)) = cs2) (kk : cj_B B Q cs2 (pc + 3) lv st n0 m0) : cj_B B Q cs pc lv (v :: .ref (B.2.2.2 + i) :: st) n0 m0 := by
  intro H locs ls hz hP hS hL
  obtain ⟨hx, hb, hml, hown, hts, hKA, hin2, hlk, hret, hRf, hRl, hRc, hRs⟩ := id C
  have hK := hKA.1.1
  have hap := va_apart (own := own) hts hin ty0 hty hnm hK hc
  obtain ⟨q, h2, cell, q1, q2, q3, q4⟩ := hP i _ he
  have hr : q = (Cn, T, N) := Option.some.inj (h2.symm.trans hc)
  subst hr
  obtain ⟨hSl, hfc, kC, hkC, hkind⟩ := hK.1 ci _ hc
  obtain ⟨cf, kf, fi, f, hi, hsl⟩ := hSl k hk
  have hlay := hts _ (hin _ (u_in_lay hk))
  unfold u_lay at hlay
  rw [if_neg (by rw [hT]; exact Bool.false_ne_true)] at hlay
  have hst := (u_facts hfc hkC (u_lays hts hin hk) hi).1
  have h6 := u_store hfc hkC hkind hlay hi (by rw [hT]; exact hd) hn hfit
  have hlk2 : (Cond.fieldLink own index (T k).1 (T k).2.1 (T k).2.2.1).before B.1.2.2.2.2.2.2.1 B.1.2.2.2.2.1 = true := by rw [hT]; exact hts _ hl
  refine W.putK hx hb (f := f) ⟨hown, hlk2, ⟨_, _, _, hi⟩, hst⟩ (by rw [q2]; exact h6) q1 q3 (by rw [hsl]; exact k2_hasslot (q4 k hk)) rfl rfl hdg fun H' e1 e2 e3 => ?_
  rw [hsl] at e1 ⊢
  have hset := cjb_set (e1 := .inr (ci, fs.set k v)) hP he ⟨_, hc, t_OB.to (V := updV (vp_V fs) k v) ⟨_, e1, q2, q3, t_set q4 hap hk v⟩ (fun j _ => vp_updV_set hlen v j)⟩ e3
  rw [hcs] at hset
  exact kk H' _ ls (by rw [e2, hz, ← hcs, List.length_set]) hset (hS.put e2 e3 (Nat.le_add_right _ _)) hL
theorem cjb_get (C : cj_BC B cc nL own d mc ms) {i k ci N index : Nat} {fs : List Value} {Cn rn nm ds : String} {fn : Bool} {T : u_T} {v : Value} (he : cs[i]? = some (.inr (ci, fs))) (hc : cj_cl[ci]? = some (Cn, T, N)) (hin : ∀ w ∈ u_ws Cn T N, w ∈ cj_ws) (hk : k < N) (hT : T k = (rn, nm, ds, fn)) (hl : Cond.fieldLink own index rn nm ds ∈ cj_ws) (hv : fs[k]? = some v) (hdg : decode cc pc = .ok (.getfield index, 3)) (kk : cj_B B Q cs (pc + 3) lv (v :: st) n0 m0) : cj_B B Q cs pc lv (.ref (B.2.2.2 + i) :: st) n0 m0 := by
  intro H locs ls hz hP hS hL
  obtain ⟨hx, hb, hml, hown, hts, hKA, hin2, hlk, hret, hRf, hRl, hRc, hRs⟩ := id C
  exact va_get (D := B.2.1) (ref := rn) (tys := cj_ty B.2.2.1) hx hb hts hin hown hKA.1.1 (cj_sg (hP i _ he)) 0 rfl hc k hk (by rw [hT]; exact hts _ hl) (by rw [hT]; exact fun _ h => h) hv hdg (kk H locs ls hz hP hS hL)
theorem cjb_alen (C : cj_BC B cc nL own d mc ms) {i t0 N : Nat} {cA : ClassId} {ty : FieldType} {x : (Nat → Int32) ⊕ (Nat → Int64) ⊕ (Nat → UInt32) ⊕ (Nat → UInt64) ⊕ (Nat → Option Nat)} {v : Int32} (he : cs[i]? = some (.inl (cA, N, x))) (ht : (cj_ty B.2.2.1)[t0]? = some (cA, ty)) (hv : Int32.ofNat N = v) (hdg : decode cc pc = .ok (.arraylength, 1)) (kk : cj_B B Q cs (pc + 1) lv (.int v :: st) n0 m0) : cj_B B Q cs pc lv (.ref (B.2.2.2 + i) :: st) n0 m0 := by
  intro H locs ls hz hP hS hL
  obtain ⟨hx, hb, hml, hown, hts, hKA, hin2, hlk, hret, hRf, hRl, hRc, hRs⟩ := id C
  exact va_alen (D := B.2.1) (tys := cj_ty B.2.2.1) hx hb hKA.1.1 (cj_sg (hP i _ he)) 0 t0 rfl ht hv hdg (kk H locs ls hz hP hS hL)
theorem cjb_iast (C : cj_BC B cc nL own d mc ms) {i N : Nat} {f : Nat → Int32} {j x : Int32} (he : cs[i]? = some (.inl (B.2.2.1.1, N, .inl f))) (hin : vp_in j N) (hdg : decode cc pc = .ok (.iastore, 1)) (hcs : cs.set i (.inl (B.2.2.1.1, N, .inl (upd f j.toNatClampNeg x))) = cs2) (kk : cj_B B Q cs2 (pc + 1) lv st n0 m0) : cj_B B Q cs pc lv (.int x :: .int j :: .ref (B.2.2.2 + i) :: st) n0 m0 := by
  intro H locs ls hz hP hS hL
  obtain ⟨hx, hb, hml, hown, hts, hKA, hin2, hlk, hret, hRf, hRl, hRc, hRs⟩ := id C
  have h1 : H[B.2.2.2 + i]? = some (vp_cell B.2.2.1.1 (N, .inl f)) := hP i _ he
  refine W.iast hx hb h1 ((hKA.1.1.2 0 _ rfl).1 N (fun j => .int (f j))) (fun q => by cases q) (by show ¬ (j < 0 ∨ (arrV _ _ _).slots.size ≤ _); rw [arrV_size]; exact hin) rfl rfl hdg fun H1 e z oq => ?_
  have hset := cjb_set (e1 := .inl (B.2.2.1.1, N, .inl (upd f j.toNatClampNeg x))) hP he (show H1[_]? = some (vp_cell _ _) by rw [e, cj_arr]) oq
  rw [hcs] at hset
  exact kk H1 _ ls (by rw [z, hz, ← hcs, List.length_set]) hset (hS.put z oq (Nat.le_add_right _ _)) hL
theorem cjb_aast (C : cj_BC B cc nL own d mc ms) {i N iv ci : Nat} {q : Nat → Option Nat} {fs : List Value} {j : Int32} (he : cs[i]? = some (.inl (B.2.2.1.2.2, N, .inr (.inr (.inr (.inr q)))))) (hv : cs[iv]? = some (.inr (ci, fs))) (hc : cj_cl[ci]? = some (RX0, TX0, 10)) (hin : vp_in j N) (hdg : decode cc pc = .ok (.aastore, 1)) (hcs : cs.set i (.inl (B.2.2.1.2.2, N, .inr (.inr (.inr (.inr (va_up q j.toNatClampNeg (some (B.2.2.2 + iv)))))))) = cs2) (kk : cj_B B Q cs2 (pc + 1) lv st n0 m0) : cj_B B Q cs pc lv (.ref (B.2.2.2 + iv) :: .int j :: .ref (B.2.2.2 + i) :: st) n0 m0 := by
  intro H locs ls hz hP hS hL
  obtain ⟨hx, hb, hml, hown, hts, hKA, hin2, hlk, hret, hRf, hRl, hRc, hRs⟩ := id C
  have hlt : j.toNatClampNeg < N := Nat.not_le.mp fun q => hin (Or.inr q)
  have h0 : ¬ j < 0 := fun q => hin (Or.inl q)
  have h1 : H[B.2.2.2 + i]? = some (vp_cell B.2.2.1.2.2 (N, .inr (.inr (.inr (.inr q))))) := hP i _ he
  obtain ⟨r', hr', cellV, g1, g2, g3, -⟩ := hP iv _ hv
  have hcls := (hKA.1.1.1 ci _ hc).2
  obtain ⟨kA, comp, k1, k2, k3, -⟩ := (hKA.1.1.2 2 _ rfl).2
  have hcomp : comp = B.2.1.1 ci := Option.some.inj (k3.symm.trans hcls.1)
  subst hcomp
  obtain ⟨kC, hkC, -⟩ := id hcls.2
  refine W.aast hx hb h1 (fun q h => by cases h) (fun h => by cases h) k1 k2 rfl hkC ⟨h0, by show _ < (arrV _ _ _).slots.size; rw [arrV_size]; exact hlt⟩ g1 (fun q h => by rw [g3] at h; cases h) (by rw [g2]; exact hkC) (by rw [g2]; exact va_assign hcls) rfl rfl hdg fun H1 e z oq => ?_
  have hcell : H1[B.2.2.2 + i]? = some (vp_cell B.2.2.1.2.2 (N, .inr (.inr (.inr (.inr (va_up q j.toNatClampNeg (some (B.2.2.2 + iv)))))))) := by
    rw [e, vp_cell_q, vp_cell_q, arrV_store]
    congr 2
    funext x
    by_cases hq : x = j.toNatClampNeg
    · subst hq
      simp [updV, va_up, va_rf]
    · simp [updV, va_up, hq]
  have hset := cjb_set (e1 := .inl (B.2.2.1.2.2, N, .inr (.inr (.inr (.inr (va_up q j.toNatClampNeg (some (B.2.2.2 + iv)))))))) hP he hcell oq
  rw [hcs] at hset
  exact kk H1 _ ls (by rw [z, hz, ← hcs, List.length_set]) hset (hS.put z oq (Nat.le_add_right _ _)) hL
theorem cjb_blind {D : va_G} {z : cj_Zc} {base : Nat} {e0 : va_E} : FrameBlind (cj_BP D z base e0) := fun a U g mk q => ⟨q.1, q.2.1, q.2.2.1, cj_AO.same (u := U) (U := U.calling g mk a) rfl q.2.2.2⟩
theorem cjb_after {mc' ms' : Nat} {e0 : va_E} {cs' : List va_E} {stk : List Value} {args' : Array Value} {H : Heap} {locs : List Loc} {ls : Array Slot} (hz : H.size = B.2.2.2 + (cs ++ [e0]).length) (hP : ∀ i e, (cs ++ [e0])[i]? = some e → va_at B.2.1 cj_cl (B.2.2.2 + i, e) H) (hS : va_S (fun q : Nat => B.2.2.2 ≤ q) B.1.2.2.2.2.1.heap H locs) (hL : lv_has ls B.1.2.2.2.2.2.2.2.2.2.maxLocals lv)
    (hr : va_Run B.1.1 B.1.2.1 B.1.2.2.1 B.1.2.2.2.1 B.1.2.2.2.2.1 B.1.2.2.2.2.2.1 B.1.2.2.2.2.2.2.1 B.1.2.2.2.2.2.2.2.1 B.1.2.2.2.2.2.2.2.2.1 B.1.2.2.2.2.2.2.2.2.2 H locs n0 m0 mc' ms' (F0 B.1.2.2.2.2.2.1 pc ls stk) st (cj_BQ B.2.1 (B.2.2.2 + cs.length) cs' args') (fun q => B.2.2.2 + cs.length ≤ q)) (kk : cj_B B Q (cs ++ cs') (pc + 3) lv st (n0 + mc') (m0 + ms')) :
    W B.1.1 B.1.2.1 B.1.2.2.1 B.1.2.2.2.1 B.1.2.2.2.2.1 B.1.2.2.2.2.2.1 B.1.2.2.2.2.2.2.1 B.1.2.2.2.2.2.2.2.1 B.1.2.2.2.2.2.2.2.2.1 B.1.2.2.2.2.2.2.2.2.2 H locs n0 m0 Q (F0 B.1.2.2.2.2.2.1 pc ls stk) := by
  intro T hT XS
  obtain ⟨v', st₀, t, T', L, h0, X', hLf, e1, e2, ⟨hv, hsz, hcells, hz2, hk⟩, stp⟩ := hr T hT XS
  cases hv
  rw [h0] at hz2 hk
  have hle : ∀ q, q < B.2.2.2 + cs.length → T'.heap[q]? = H[q]? := fun q hq => by
    rw [e1]
    exact hk q (by rw [hz, List.length_append]; exact Nat.lt_of_lt_of_le hq (by omega)) (by show ¬ _ ≤ q; omega)
  obtain ⟨t2, a1, b1⟩ := kk T'.heap (locs ++ L) ls (by rw [e1, hsz, List.length_append]; omega) (fun i e hi => by
      rcases Nat.lt_or_ge i cs.length with h | h
      · rw [List.getElem?_append_left h] at hi
        exact (hP i e (by rw [List.getElem?_append_left h]; exact hi)).kept (hle _ (by show B.2.2.2 + i < _; omega))
      · rw [List.getElem?_append_right h] at hi
        have := hcells _ _ hi
        rw [show B.2.2.2 + cs.length + (i - cs.length) = B.2.2.2 + i by omega] at this
        rw [e1]
        exact this) ⟨Nat.le_trans hS.1 (by rw [e1]; exact hz2), fun q h1 h2 => by
      have h2' : q < B.2.2.2 := Nat.not_le.mp h2
      rw [hle q (by omega)]; exact hS.2.1 q h1 h2, fun q hq => by
      rcases List.mem_append.mp hq with h | h
      · exact hS.2.2 q h
      · have : B.2.2.2 + cs.length ≤ q.base := hLf q h
        show B.2.2.2 ≤ q.base
        omega⟩ hL T' rfl X'
  exact ⟨t2, stp t2 a1, b1⟩
theorem cjb_callI (C : cj_BC B cc nL own d mc ms) {y : MethodName} {bytes : ByteArray} {maxL d' mc' ms' index n : Nat} {e0 : va_E} {cs' : List va_E} (hw : cj_cw y bytes maxL 0 none) (hM : cj_Bt B.1.2.1 B.2.1 B.2.2.1 y bytes maxL d' mc' ms' (B.2.2.2 + n) e0 cs') (hn : cs.length = n) (hy1 : y.name = "<init>") (hi : Cond.instanceMethod y ∈ cj_ws) (hl : Cond.methodLink own index y ∈ cj_ws) (hd : d' + 1 ≤ d ∧ 8 + (maxL + 11) + 37 * d' ≤ 37 * d) (hcat : (st.map fun v => v.category).sum ≤ 8) (hcells : n0 + mc' ≤ mc) (hslots : m0 + ms' ≤ ms) (hdg : decode cc pc = .ok (.invokespecial index, 3)) (kk : cj_B B Q (cs ++ cs') (pc + 3) lv st (n0 + mc') (m0 + ms')) : cj_B B Q (cs ++ [e0]) pc lv (.ref (B.2.2.2 + n) :: st) n0 m0 := by
  intro H locs ls hz hP hS hL
  subst hn
  obtain ⟨hx, hb, hml, hown, hts, hKA, hin2, hlk, hret, hRf, hRl, hRc, hRs⟩ := id C
  exact cjb_after hz hP hS hL (va_runI (As := []) (rest := st) ⟨hx, hb, hml, hown, hts⟩ hM ⟨callB_of 0 hts (cj_gi hw) rfl rfl rfl (hts _ hw.2.1) (hts _ hl) hw.2.2 (by rw [hRf, hRl]; exact hd), hy1, hts _ hi⟩ ⟨cjb_blind, fun U hU hWU => ⟨rfl, by rw [hU, hz, List.length_append]; rfl, by rw [hU]; exact hP cs.length e0 (by simp), hKA.warm hWU⟩⟩ rfl rfl (hL.1.trans hml) rfl (lv_room hcat) hdg ⟨by rw [hRc]; exact hcells, by rw [hRs]; exact hslots⟩) kk
theorem cjb_callN (C : cj_BC B cc nL own d mc ms) {y : MethodName} {bytes : ByteArray} {maxL d' mc' ms' index n : Nat} {host : String} {e0 : va_E} {cs' : List va_E} (hw : cj_cw y bytes maxL 0 none) (hM : cj_Bt B.1.2.1 B.2.1 B.2.2.1 y bytes maxL d' mc' ms' (B.2.2.2 + n) e0 cs') (hn : cs.length = n) (hy1 : y.name = "<init>") (hi : Cond.instanceMethod y ∈ cj_ws) (hl : (own, index, y, host) ∈ cj_nst) (hd : d' + 1 ≤ d ∧ 8 + (maxL + 11) + 37 * d' ≤ 37 * d) (hcat : (st.map fun v => v.category).sum ≤ 8) (hcells : n0 + mc' ≤ mc) (hslots : m0 + ms' ≤ ms) (hdg : decode cc pc = .ok (.invokespecial index, 3)) (kk : cj_B B Q (cs ++ cs') (pc + 3) lv st (n0 + mc') (m0 + ms')) : cj_B B Q (cs ++ [e0]) pc lv (.ref (B.2.2.2 + n) :: st) n0 m0 := by
  intro H locs ls hz hP hS hL
  subst hn
  obtain ⟨hx, hb, hml, hown, hts, hKA, hin2, hlk, hret, hRf, hRl, hRc, hRs⟩ := id C
  exact cjb_after hz hP hS hL (va_runIN (As := []) (rest := st) (host := host) ⟨hx, hb, hml, hown, hts⟩ hM ⟨va_cnB 0 hts (cj_gi hw) rfl rfl rfl (hKA.1.2 _ hl) (hts _ hw.2.1) hw.2.2 (by rw [hRf, hRl]; exact hd), hy1, hts _ hi⟩ ⟨cjb_blind, fun U hU hWU => ⟨rfl, by rw [hU, hz, List.length_append]; rfl, by rw [hU]; exact hP cs.length e0 (by simp), hKA.warm hWU⟩⟩ rfl rfl (hL.1.trans hml) rfl (lv_room hcat) hdg ⟨by rw [hRc]; exact hcells, by rw [hRs]; exact hslots⟩) kk
theorem cjb_ret (hno : ¬ own = RL) {D : va_G} {z : cj_Zc} {base : Nat} {X : cj_X} (C : cj_BC (X, D, z, base) cc nL own d mc ms) (h1 : n0 = mc) (h2 : m0 = ms) (hdg : decode cc pc = .ok (.return_, 1)) : cj_B (X, D, z, base) (MQ X.2.2.2.2.2.2.2.1 (cj_BQ D base cs) X.2.2.2.2.2.2.1 X.2.2.2.2.1 mc ms (fun q => base ≤ q)) cs pc lv [] n0 m0 := by
  subst h1
  subst h2
  intro H locs ls hz hP hS hL
  obtain ⟨hx, hb, hml, hown, hts, hKA, hin2, hlk, hret, hRf, hRl, hRc, hRs⟩ := id C
  exact W.vret hx hb (hret.resolve_left hno) (fun t ht _ => ⟨rfl, by rw [ht]; exact hz, by rw [ht]; exact hP, hS.F ht⟩) hS.2.2 hdg (hlocks := hlk)
end CJC
