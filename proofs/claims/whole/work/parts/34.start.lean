theorem cjq_46 : Jvm.Cond.classLink "CourtJotterLaw" (7 : Nat) "CourtJotter" ∈ cj_ws := cj_mem 46 (by decide +kernel) rfl
theorem cjq_47 : Jvm.Cond.instantiable "CourtJotter" (6 : Nat) ∈ cj_ws := cj_mem 47 (by decide +kernel) rfl
theorem cjq_48 : Jvm.Cond.methodLink "CourtJotterLaw" (9 : Nat) ({ cls := "CourtJotter", name := "<init>", desc := "()V" } : Jvm.MethodName) ∈ cj_ws := cj_mem 48 (by decide +kernel) rfl
theorem cjq_49 : Jvm.Cond.instanceMethod ({ cls := "CourtJotter", name := "<init>", desc := "()V" } : Jvm.MethodName) ∈ cj_ws := cj_mem 49 (by decide +kernel) rfl
theorem cjq_714 : Jvm.Cond.classLink "CourtJotterLaw" (10 : Nat) "CourtJotterModel" ∈ cj_ws := cj_mem 714 (by decide +kernel) rfl
theorem cjq_715 : Jvm.Cond.instantiable "CourtJotterModel" (15 : Nat) ∈ cj_ws := cj_mem 715 (by decide +kernel) rfl
theorem cjq_716 : Jvm.Cond.methodLink "CourtJotterLaw" (12 : Nat) ({ cls := "CourtJotterModel", name := "<init>", desc := "()V" } : Jvm.MethodName) ∈ cj_ws := cj_mem 716 (by decide +kernel) rfl
theorem cjq_717 : Jvm.Cond.instanceMethod ({ cls := "CourtJotterModel", name := "<init>", desc := "()V" } : Jvm.MethodName) ∈ cj_ws := cj_mem 717 (by decide +kernel) rfl
/-! the law's start: both systems made, their worlds as cells in a row -/
def cj_off (g : Nat) : Nat := [0, 43, 150, 152, 153, 1, 22, 45, 66, 87, 108, 129].getD g 0
def cj_siz (g : Nat) : Nat := [1, 2, 2, 1, 1, 21, 21, 21, 21, 21, 21, 21].getD g 0
def cj_ad0 (J : Nat) : cj_Ad := fun g k => J + cj_off g + k
def cj_bd0 (M : Nat) : cj_Ad := fun _ k => M + k
def cj_c0 : cj_S := fun k => match k with
  | 0 => fun j => if j = 3 then 40 else if j = 4 then 10 else if j = 6 then (-1) else 0
  | 6 => cj_fl 6
  | 8 => cj_fl 72
  | _ => fun _ => 0
def cj_mu0 : cj_Mm := fun g => match g with
  | _ + 5 => cj_c0
  | _ => fun _ _ => 0
def cj_nu0 : cj_S := fun k => match k with
  | 1 => upd (upd (upd (fun _ => 0) 5 (-1)) 9 40) 10 10
  | _ => fun _ => 0
def cj_blk (D : va_G) (H : Heap) (b : Nat) (L : List va_E) : Prop := ∀ i e, L[i]? = some e → va_at D cj_cl (b + i, e) H
theorem cj_blk_app {D : va_G} {H : Heap} {b : Nat} {L1 L2 : List va_E} (h : cj_blk D H b (L1 ++ L2)) : cj_blk D H b L1 ∧ cj_blk D H (b + L1.length) L2 := by
  refine ⟨fun i e hi => h i e ?_, fun i e hi => ?_⟩
  · rw [List.getElem?_append_left (List.getElem?_eq_some_iff.mp hi).1]
    exact hi
  · have := h (L1.length + i) e (by rw [List.getElem?_append_right (Nat.le_add_right _ _), Nat.add_sub_cancel_left]; exact hi)
    rw [← Nat.add_assoc] at this
    exact this
theorem cj_blk_co {D : va_G} {z : cj_Zc} {H : Heap} {b : Nat} (h : cj_blk D H b (cj_lC z b)) : ∀ k F, cj_co z (fun k => b + k) k = some F → va_at D cj_cl (b + k, F (cj_c0 k)) H := by
  intro k F he
  match k, he with
  | 0, he => cases he; exact h 0 _ rfl
  | 1, he => cases he; exact h 1 _ rfl
  | 2, he => cases he; exact h 2 _ rfl
  | 3, he => cases he; exact h 3 _ rfl
  | 4, he => cases he; exact h 4 _ rfl
  | 5, he => cases he; exact h 5 _ rfl
  | 6, he => cases he; exact h 6 _ rfl
  | 7, he => cases he; exact h 7 _ rfl
  | 8, he => cases he; exact h 8 _ rfl
  | 9, he => cases he; exact h 9 _ rfl
  | 10, he => cases he; exact h 10 _ rfl
  | 11, he => cases he; exact h 11 _ rfl
  | 12, he => cases he; exact h 12 _ rfl
  | 13, he => cases he; exact h 13 _ rfl
  | 14, he => cases he; exact h 14 _ rfl
  | 15, he => cases he; exact h 15 _ rfl
  | 16, he => cases he; exact h 16 _ rfl
  | 17, he => cases he; exact h 17 _ rfl
  | 18, he => cases he; exact h 18 _ rfl
  | 19, he => cases he; exact h 19 _ rfl
  | 20, he => cases he; exact h 20 _ rfl
  | k + 21, he => cases he
theorem cj_co_lt {z : cj_Zc} {a : Nat → Nat} {k : Nat} {F : cj_Fc} (he : cj_co z a k = some F) : k < 21 := by
  match k, he with
  | 0, _ | 1, _ | 2, _ | 3, _ | 4, _ | 5, _ | 6, _ | 7, _ | 8, _ | 9, _ | 10, _ | 11, _ | 12, _ | 13, _ | 14, _ | 15, _ | 16, _ | 17, _ | 18, _ | 19, _ | 20, _ => decide
  | k + 21, he => cases he
theorem cj_EL_lt {z : cj_Zc} {ad : cj_Ad} {g k : Nat} {F : cj_Fc} (he : cj_EL z ad g k = some F) : g < 12 ∧ k < cj_siz g := by
  match g, he with
  | 0, he => match k, he with
    | 0, _ => decide
    | k + 1, he => cases he
  | 1, he => match k, he with
    | 0, _ | 1, _ => decide
    | k + 2, he => cases he
  | 2, he => match k, he with
    | 0, _ | 1, _ => decide
    | k + 2, he => cases he
  | 3, he => match k, he with
    | 0, _ => decide
    | k + 1, he => cases he
  | 4, he => match k, he with
    | 0, _ => decide
    | k + 1, he => cases he
  | g + 5, he =>
    have he2 : (if g < 7 then cj_co z (ad (g + 5)) else fun _ => none) k = some F := he
    by_cases hg : g < 7
    · rw [if_pos hg] at he2
      have hk := cj_co_lt he2
      refine ⟨by omega, ?_⟩
      match g, hg with
      | 0, _ | 1, _ | 2, _ | 3, _ | 4, _ | 5, _ | 6, _ => exact hk
      | g + 7, hg => exact absurd hg (by omega)
    · rw [if_neg hg] at he2
      cases he2
theorem cj_EM_lt {z : cj_Zc} {ad : cj_Ad} {g k : Nat} {F : cj_Fc} (he : cj_EM z ad g k = some F) : g = 0 ∧ k < 7 := by
  match g, he with
  | 0, he => match k, he with
    | 0, _ | 1, _ | 2, _ | 3, _ | 4, _ | 5, _ | 6, _ => decide
    | k + 7, he => cases he
  | g + 1, he => cases he
theorem cj_apart : ∀ g, g < 12 → ∀ g', g' < 12 → g ≠ g' → cj_off g + cj_siz g ≤ cj_off g' ∨ cj_off g' + cj_siz g' ≤ cj_off g := by decide +kernel
theorem cj_top : ∀ g, g < 12 → cj_off g + cj_siz g ≤ 154 := by decide +kernel
theorem cj_Ij_L {z : cj_Zc} {J : Nat} : cj_Ij (cj_EL z) (cj_ad0 J) := by
  intro g k g' k' F F' h1 h2 he
  obtain ⟨a1, b1⟩ := cj_EL_lt h1
  obtain ⟨a2, b2⟩ := cj_EL_lt h2
  unfold cj_ad0 at he
  by_cases hg : g = g'
  · subst hg
    exact ⟨rfl, by omega⟩
  · rcases cj_apart g a1 g' a2 hg with q | q <;> omega
theorem cj_Ij_M {z : cj_Zc} {M : Nat} : cj_Ij (cj_EM z) (cj_bd0 M) := by
  intro g k g' k' F F' h1 h2 he
  obtain ⟨a1, b1⟩ := cj_EM_lt h1
  obtain ⟨a2, b2⟩ := cj_EM_lt h2
  unfold cj_bd0 at he
  exact ⟨by omega, by omega⟩
theorem cj_A_L {z : cj_Zc} {J q : Nat} (h : cj_A (cj_EL z) (cj_ad0 J) q) : J ≤ q ∧ q < J + 154 := by
  obtain ⟨g, k, F, he, rfl⟩ := h
  obtain ⟨a1, b1⟩ := cj_EL_lt he
  have := cj_top g a1
  unfold cj_ad0
  omega
theorem cj_A_M {z : cj_Zc} {M q : Nat} (h : cj_A (cj_EM z) (cj_bd0 M) q) : M ≤ q := by
  obtain ⟨g, k, F, he, rfl⟩ := h
  unfold cj_bd0
  omega
theorem cj_arx {c : ClassId} {N : Nat} {f g : Nat → Value} (h : ∀ j, j < N → f j = g j) : arrV c N f = arrV c N g := by
  unfold arrV
  congr 1
  congr 1
  funext j
  exact h j j.2
theorem cj_sfs {D : va_G} {c : ClassId} {q b : Nat} {H : Heap} (h : va_at D cj_cl (q, .inl (c, 5, .inr (.inr (.inr (.inr (cj_sf b)))))) H) {f : Nat → Option Nat} (hf : ∀ j, j < 5 → f j = cj_sf b j) : va_at D cj_cl (q, .inl (c, 5, .inr (.inr (.inr (.inr f))))) H := by
  have h1 : H[q]? = some (vp_cell c (5, .inr (.inr (.inr (.inr (cj_sf b)))))) := h
  show H[q]? = some (vp_cell c (5, .inr (.inr (.inr (.inr f)))))
  rw [h1, vp_cell_q, vp_cell_q]
  have e : ∀ j, j < 5 → va_rf (cj_sf b j) = va_rf (f j) := fun j hj => by rw [hf j hj]
  rw [cj_arx e]
theorem cj_sf5 (b : Nat) : ∀ j, j < 5 → (fun j => some (b + 2 + 21 * j)) j = cj_sf b j := by
  intro j hj
  match j, hj with
  | 0, _ | 1, _ | 2, _ | 3, _ | 4, _ => rfl
  | j + 5, hj => exact absurd hj (by omega)
theorem cj_Wd_L {D : va_G} {z : cj_Zc} {H : Heap} {J : Nat} (h : cj_blk D H J (cj_lJ z J)) : cj_Wd (cj_EL z) D (cj_ad0 J) cj_mu0 H := by
  unfold cj_lJ at h
  obtain ⟨h, hs⟩ := cj_blk_app h
  obtain ⟨h, hr⟩ := cj_blk_app h
  obtain ⟨h, ht⟩ := cj_blk_app h
  obtain ⟨h, hh⟩ := cj_blk_app h
  obtain ⟨h, hc2⟩ := cj_blk_app h
  obtain ⟨hj, hc1⟩ := cj_blk_app h
  have hh : cj_blk D H (J + 43) (cj_lH z (J + 43)) := hh
  unfold cj_lH at hh
  obtain ⟨hh, h5⟩ := cj_blk_app hh
  obtain ⟨hh, h4⟩ := cj_blk_app hh
  obtain ⟨hh, h3⟩ := cj_blk_app hh
  obtain ⟨hh, h2⟩ := cj_blk_app hh
  obtain ⟨hh, h1⟩ := cj_blk_app hh
  have c1 : cj_blk D H (J + 1) (cj_lC z (J + 1)) := hc1
  have c2 : cj_blk D H (J + 22) (cj_lC z (J + 22)) := hc2
  have d1 : cj_blk D H (J + 45) (cj_lC z (J + 45)) := h1
  have d2 : cj_blk D H (J + 66) (cj_lC z (J + 66)) := h2
  have d3 : cj_blk D H (J + 87) (cj_lC z (J + 87)) := h3
  have d4 : cj_blk D H (J + 108) (cj_lC z (J + 108)) := h4
  have d5 : cj_blk D H (J + 129) (cj_lC z (J + 129)) := h5
  intro g k F he
  match g, he with
  | 0, he => match k, he with
    | 0, he => cases he; exact hj 0 _ rfl
    | k + 1, he => cases he
  | 1, he => match k, he with
    | 0, he => cases he; exact hh 0 _ rfl
    | 1, he =>
      cases he
      exact cj_sfs (b := J + 43) (hh 1 _ rfl) (fun j hj => by
        match j, hj with
        | 0, _ | 1, _ | 2, _ | 3, _ | 4, _ => rfl
        | j + 5, hj => exact absurd hj (by omega))
    | k + 2, he => cases he
  | 2, he => match k, he with
    | 0, he => cases he; exact ht 0 _ rfl
    | 1, he => cases he; exact ht 1 _ rfl
    | k + 2, he => cases he
  | 3, he => match k, he with
    | 0, he => cases he; exact hr 0 _ rfl
    | k + 1, he => cases he
  | 4, he => match k, he with
    | 0, he => cases he; exact hs 0 _ rfl
    | k + 1, he => cases he
  | g + 5, he =>
    have he2 : (if g < 7 then cj_co z (cj_ad0 J (g + 5)) else fun _ => none) k = some F := he
    by_cases hg : g < 7
    · rw [if_pos hg] at he2
      match g, hg, he2 with
      | 0, _, he2 => exact cj_blk_co c1 k F he2
      | 1, _, he2 => exact cj_blk_co c2 k F he2
      | 2, _, he2 => exact cj_blk_co d1 k F he2
      | 3, _, he2 => exact cj_blk_co d2 k F he2
      | 4, _, he2 => exact cj_blk_co d3 k F he2
      | 5, _, he2 => exact cj_blk_co d4 k F he2
      | 6, _, he2 => exact cj_blk_co d5 k F he2
      | g + 7, hg, _ => exact absurd hg (by omega)
    · rw [if_neg hg] at he2
      cases he2
theorem cj_Wd_M {D : va_G} {z : cj_Zc} {H : Heap} {M : Nat} (h : cj_blk D H M (cj_lM z M)) : cj_Wd (cj_EM z) D (cj_bd0 M) (fun _ => cj_nu0) H := by
  intro g k F he
  match g, he with
  | 0, he => match k, he with
    | 0, he => cases he; exact h 0 _ rfl
    | 1, he => cases he; exact h 1 _ rfl
    | 2, he => cases he; exact h 2 _ rfl
    | 3, he => cases he; exact h 3 _ rfl
    | 4, he => cases he; exact h 4 _ rfl
    | 5, he => cases he; exact h 5 _ rfl
    | 6, he => cases he; exact h 6 _ rfl
    | k + 7, he => cases he
  | g + 1, he => cases he
/-- the classes' numbers at the start -/
theorem cj_tab {args : Array Value} {s : State} (hts : ∀ w ∈ lw_tbl, w.before args s = true) : ∃ (D : va_G) (z : cj_Zc), cj_AO D z s := by
  have hw : ∀ w ∈ cj_ws, w.before args s = true := fun w h => hts w (List.mem_filter.mp h).1
  obtain ⟨c0, i0, k0⟩ := u_known (C := RX0) (T := TX0) (N := 10) (n := 10) hw cj_in0 (hw _ cjq_55)
  obtain ⟨c1, i1, k1⟩ := u_known (C := RX1) (T := TX1) (N := 3) (n := 3) hw cj_in1 (hw _ cjq_203)
  obtain ⟨c2, i2, k2⟩ := u_known (C := RX2) (T := TX2) (N := 7) (n := 7) hw cj_in2 (hw _ cjq_133)
  obtain ⟨c3, i3, k3⟩ := u_known (C := RX3) (T := TX3) (N := 8) (n := 8) hw cj_in3 (hw _ cjq_61)
  obtain ⟨c4, i4, k4⟩ := u_known (C := RX4) (T := TX4) (N := 4) (n := 4) hw cj_in4 (hw _ cjq_255)
  obtain ⟨c5, i5, k5⟩ := u_known (C := RX5) (T := TX5) (N := 3) (n := 3) hw cj_in5 (hw _ cjq_278)
  obtain ⟨c6, i6, k6⟩ := u_known (C := RX6) (T := TX6) (N := 6) (n := 6) hw cj_in6 (hw _ cjq_100)
  obtain ⟨c7, i7, k7⟩ := u_known (C := RX7) (T := TX7) (N := 6) (n := 6) hw cj_in7 (hw _ cjq_223)
  obtain ⟨c8, i8, k8⟩ := u_known (C := RX8) (T := TX8) (N := 6) (n := 6) hw cj_in8 (hw _ cjq_47)
  obtain ⟨c9, i9, k9⟩ := u_known (C := RX9) (T := TX9) (N := 15) (n := 15) hw cj_in9 (hw _ cjq_715)
  obtain ⟨a1, m1, p1, f1, g1, h1⟩ := Cond.arrayClass_spec (hw _ cjq_98)
  obtain ⟨a2, m2, p2, f2, g2, h2⟩ := Cond.arrayClass_spec (hw _ cjq_253)
  have hao : (Cond.arrayOver (.object RX0)).before args s = true := hts _ (List.mem_of_getElem? (i := 209) (by decide +kernel))
  obtain ⟨p3, a3, m3, f3, e3, g3, h3, n3⟩ := Cond.arrayOver_spec hao
  refine ⟨(fun k => [c0, c1, c2, c3, c4, c5, c6, c7, c8, c9].getD k 0, fun k => [i0, i1, i2, i3, i4, i5, i6, i7, i8, i9].getD k i0), (a1, a2, a3), ⟨⟨fun k q hq => ?_, fun k q hq => ?_⟩, ?_⟩, ?_⟩
  · match k, hq with
    | 0, hq => cases hq; exact k0
    | 1, hq => cases hq; exact k1
    | 2, hq => cases hq; exact k2
    | 3, hq => cases hq; exact k3
    | 4, hq => cases hq; exact k4
    | 5, hq => cases hq; exact k5
    | 6, hq => cases hq; exact k6
    | 7, hq => cases hq; exact k7
    | 8, hq => cases hq; exact k8
    | 9, hq => cases hq; exact k9
    | k + 10, hq => cases hq
  · match k, hq with
    | 0, hq => cases hq; exact ⟨fun n z => ⟨fun k h => (by cases h), m1, g1, p1, h1⟩, f1⟩
    | 1, hq => cases hq; exact ⟨fun n z => ⟨fun k h => (by cases h), m2, g2, p2, h2⟩, f2⟩
    | 2, hq => cases hq; exact ⟨fun n z => ⟨fun k h => (by cases h), m3, g3, p3, h3⟩, m3, p3, g3, h3, f3, n3⟩
    | k + 3, hq => cases hq
  · intro q hq
    exact va_Nw.of rfl (hts _ (cj_nst_tbl q hq))
  · exact hao
set_option maxHeartbeats 8000000 in
set_option maxRecDepth 100000 in
/-- the law from its entry, over what the pure part owes -/
theorem cj_start (R : Nat → cj_Mm → cj_S → Prop) (hR : ∀ (n : Nat) (μ : cj_Mm) (σ : cj_S), n < 512 → R n μ σ → R (n + 1) μ σ ∧ cj_Ow (R (n + 1)) μ σ) (h0 : R 0 cj_mu0 cj_nu0) {p : Program} {e : Env} {s : State} {m : MethodId} {below : List Frame} {meth : Method} {c : Code} (l : Launch) {b L : Nat} {xs : Nat → Int32} (hL : L ≤ 2048) (C0 : lw_At p s m meth c b L xs) : W p l e room_1 s m #[Value.ref b] below meth c s.heap [] 0 0 (lw_Z below #[Value.ref b] s) (entryFrame m ([Value.ref b] : List Value).toArray 4) := by
  obtain ⟨hx, hb, hr, hml, hown, hts, hX, hbl, hlocks, hgv⟩ := id C0
  obtain ⟨D, z, hAO⟩ := cj_tab hts
  have hw : ∀ w ∈ cj_ws, w.before #[Value.ref b] s = true := fun w h => hts w (List.mem_filter.mp h).1
  have C : cj_BC ((p, l, e, room_1, s, m, #[Value.ref b], below, meth, c), D, z, s.heap.size) cL_law 4 RL 12 600000 7302250 := ⟨hx, hb, hml, hown, hw, hAO, Or.inl rfl, hlocks, Or.inl rfl, rfl, rfl, rfl, rfl⟩
  have hl := lv_entry ([.ref b]) (n := 4) (Nat.le_of_ble_eq_true rfl)
  rw [lg_entry_eq]
  have K : cj_B ((p, l, e, room_1, s, m, #[Value.ref b], below, meth, c), D, z, s.heap.size) (lw_Z below #[Value.ref b] s) [] 0 [(0, .ref b)] [] 0 0 := by
    refine cjb_new (ci := 8) (n := 0) (fs := [.null, .null, .null, .null, .null, .null]) C rfl cj_in8 tyX8 tyX8_ok cjq_46 cjq_47 cjq_32 (fun j hj => by rcases (show j = 0 ∨ j = 1 ∨ j = 2 ∨ j = 3 ∨ j = 4 ∨ j = 5 by omega) with rfl | rfl | rfl | rfl | rfl | rfl <;> rfl) rfl (Nat.le_of_ble_eq_true rfl) (Nat.le_of_ble_eq_true rfl) dL_law_0 ?_
    refine cjb_dup C dL_law_3 rfl ?_
    refine cjb_callI C cw_X8_init (ct_X8_init (s.heap.size + 0)) rfl rfl cjq_49 cjq_48 ⟨Nat.le_of_ble_eq_true rfl, Nat.le_of_ble_eq_true rfl⟩ (Nat.le_of_ble_eq_true rfl) (Nat.le_of_ble_eq_true rfl) (Nat.le_of_ble_eq_true rfl) dL_law_4 ?_
    refine cjb_astore_n (lv' := [(1, .ref (s.heap.size + 0)), (0, .ref b)]) C dL_law_7 rfl (by decide) rfl ?_
    refine cjb_new (ci := 9) (n := 154) (fs := [.null, .null, .null, .null, .int 0, .int 0, .null, .int 0, .int 0, .int 0, .int 0, .int 0, .int 0, .int 0, .null]) C rfl cj_in9 tyX9 tyX9_ok cjq_714 cjq_715 cjq_41 (fun j hj => by rcases (show j = 0 ∨ j = 1 ∨ j = 2 ∨ j = 3 ∨ j = 4 ∨ j = 5 ∨ j = 6 ∨ j = 7 ∨ j = 8 ∨ j = 9 ∨ j = 10 ∨ j = 11 ∨ j = 12 ∨ j = 13 ∨ j = 14 by omega) with rfl | rfl | rfl | rfl | rfl | rfl | rfl | rfl | rfl | rfl | rfl | rfl | rfl | rfl | rfl <;> rfl) rfl (Nat.le_of_ble_eq_true rfl) (Nat.le_of_ble_eq_true rfl) dL_law_8 ?_
    refine cjb_dup C dL_law_11 rfl ?_
    refine cjb_callI C cw_X9_init (ct_X9_init (s.heap.size + 154)) rfl rfl cjq_717 cjq_716 ⟨Nat.le_of_ble_eq_true rfl, Nat.le_of_ble_eq_true rfl⟩ (Nat.le_of_ble_eq_true rfl) (Nat.le_of_ble_eq_true rfl) (Nat.le_of_ble_eq_true rfl) dL_law_12 ?_
    refine cjb_astore_n (lv' := [(2, .ref (s.heap.size + 154)), (1, .ref (s.heap.size + 0)), (0, .ref b)]) C dL_law_15 rfl (by decide) rfl ?_
    refine cjb_iconst C 0 dL_law_16 rfl ?_
    refine cjb_istore_n (lv' := [(3, .int 0), (2, .ref (s.heap.size + 154)), (1, .ref (s.heap.size + 0)), (0, .ref b)]) C dL_law_17 rfl (by decide) rfl ?_
    refine cjb_sub [3, 2, 1, 0] rfl ?_
    intro H locs ls hz hP hS hL2
    have hall : cj_blk D H s.heap.size (([] ++ cj_lJ z (s.heap.size + 0)) ++ cj_lM z (s.heap.size + 154)) := hP
    obtain ⟨b1, b2⟩ := cj_blk_app hall
    have b1 : cj_blk D H s.heap.size (cj_lJ z s.heap.size) := b1
    have b2 : cj_blk D H (s.heap.size + 154) (cj_lM z (s.heap.size + 154)) := b2
    have CL : cj_LC D z (cj_ad0 s.heap.size) (cj_bd0 (s.heap.size + 154)) (p, l, e, room_1, s, m, #[Value.ref b], below, meth, c) b L xs (0 + 1 + 153 + 1 + 6) (0 + 6 + 1502 + 15 + 1343) := ⟨hx, hb, hml, hown, hw, hAO.1, cj_Ij_L, cj_Ij_M, fun q h1 h2 => by have := cj_A_L h1; have := cj_A_M h2; omega, fun q h => (cj_A_L h).1, fun q h => by have := cj_A_M h; exact Nat.le_trans (Nat.le_add_right _ _) this, hX, hbl, hlocks, hr, Nat.le_of_ble_eq_true rfl, Nat.le_of_ble_eq_true rfl⟩
    have KK := law_loop CL hL hR 513 0 cj_mu0 (fun _ => cj_nu0) rfl h0
    exact KK H locs ls (cj_Wd_L b1) (cj_Wd_M b2) hS (by rw [hml] at hL2; exact hL2)
  exact K s.heap [] _ rfl (fun i e h => by cases h) va_S.rf (by rw [hml]; exact hl)
