/-! functions' words: a guard of an index, a name for a value, what comes behind a call -/
def cj_gd {α : Type} (i : Int32) (n : Nat) (k : Option α) : Option α := if i < 0 ∨ n ≤ i.toNatClampNeg then none else k
theorem cj_gd_s {α : Type} {i : Int32} {n : Nat} {k : Option α} {r : α} (h : cj_gd i n k = some r) : vp_in i n ∧ k = some r := by
  unfold cj_gd at h
  by_cases q : i < 0 ∨ n ≤ i.toNatClampNeg
  · rw [if_pos q] at h; cases h
  · rw [if_neg q] at h; exact ⟨q, h⟩
def cj_gp {α : Type} (p : Prop) [Decidable p] (k : Option α) : Option α := if p then k else none
theorem cj_gp_s {α : Type} {p : Prop} [Decidable p] {k : Option α} {r : α} (h : cj_gp p k = some r) : p ∧ k = some r := by
  unfold cj_gp at h
  by_cases q : p
  · rw [if_pos q] at h; exact ⟨q, h⟩
  · rw [if_neg q] at h; cases h
def cj_lt {α : Type} {β : Type} (v : α) (K : α → β) : β := K v
def cj_bd {α : Type} {β : Type} (x : Option α) (k : α → Option β) : Option β := x.bind k
theorem cj_bd_s {α : Type} {β : Type} {x : Option α} {k : α → Option β} {r : β} (h : cj_bd x k = some r) : ∃ a, x = some a ∧ k a = some r := by
  unfold cj_bd at h
  exact Option.bind_eq_some_iff.mp h
def cj_bp {α : Type} {β : Type} {γ : Type} (x : Option (α × β)) (k : α → β → Option γ) : Option γ := x.bind (fun p => k p.1 p.2)
theorem cj_bp_s {α : Type} {β : Type} {γ : Type} {x : Option (α × β)} {k : α → β → Option γ} {r : γ} (h : cj_bp x k = some r) : ∃ a b, x = some (a, b) ∧ k a b = some r := by
  unfold cj_bp at h
  obtain ⟨⟨a, b⟩, h1, h2⟩ := Option.bind_eq_some_iff.mp h
  exact ⟨a, b, h1, h2⟩
theorem cj_by {α : Type} {P : Prop} {x v : Int32} {A B : Option α} {r : α} (hf : (if x = v then A else B) = some r) (kt : x = v → A = some r → P) (kf : ¬ x = v → B = some r → P) : P := by
  by_cases q : x = v
  · rw [if_pos q] at hf; exact kt q hf
  · rw [if_neg q] at hf; exact kf q hf
/-! memories -/
def cj_upr (σ : Nat → Nat → Int32) (k : Nat) (f : Nat → Int32) : Nat → Nat → Int32 := fun a => if a = k then f else σ a
def cj_up2 (σ : Nat → Nat → Int32) (k j : Nat) (v : Int32) : Nat → Nat → Int32 := cj_upr σ k (upd (σ k) j v)
def cj_upG (μ : cj_Mm) (g : Nat) (σ : Nat → Nat → Int32) : cj_Mm := fun x => if x = g then σ else μ x
theorem cj_upr_s (σ : Nat → Nat → Int32) (k : Nat) (f : Nat → Int32) : cj_upr σ k f k = f := if_pos rfl
theorem cj_upr_o {σ : Nat → Nat → Int32} {k a : Nat} {f : Nat → Int32} (h : ¬ a = k) : cj_upr σ k f a = σ a := if_neg h
theorem cj_upG_s (μ : cj_Mm) (g : Nat) (σ : Nat → Nat → Int32) : cj_upG μ g σ g = σ := if_pos rfl
theorem cj_upG_o {μ : cj_Mm} {g x : Nat} {σ : Nat → Nat → Int32} (h : ¬ x = g) : cj_upG μ g σ x = μ x := if_neg h
theorem cj_upG_i (μ : cj_Mm) (g : Nat) : cj_upG μ g (μ g) = μ := by
  funext x
  unfold cj_upG
  by_cases h : x = g
  · rw [if_pos h, h]
  · rw [if_neg h]
theorem cj_upG_u (μ : cj_Mm) (g : Nat) (σ τ : Nat → Nat → Int32) : cj_upG (cj_upG μ g σ) g τ = cj_upG μ g τ := by
  funext x
  unfold cj_upG
  by_cases h : x = g
  · rw [if_pos h, if_pos h]
  · rw [if_neg h, if_neg h, if_neg h]
theorem cj_Wd.put {E : cj_En} {D : va_G} {ad : cj_Ad} {μ : cj_Mm} {H H1 : Heap} {g k : Nat} {F : cj_Fc} {f : Nat → Int32} (hW : cj_Wd E D ad μ H) (hI : cj_Ij E ad) (he : E ad g k = some F) (h1 : va_at D cj_cl (ad g k, F f) H1) (oq : ∀ q : Nat, q ≠ ad g k → H1[q]? = H[q]?) : cj_Wd E D ad (cj_upG μ g (cj_upr (μ g) k f)) H1 := by
  intro g' k' F' he'
  by_cases h : g' = g ∧ k' = k
  · obtain ⟨rfl, rfl⟩ := h
    rw [cj_upG_s, cj_upr_s]
    rw [he] at he'
    cases he'
    exact h1
  · have hne : ad g' k' ≠ ad g k := fun e => h (hI g' k' g k F' F he' he e)
    have hs : cj_upG μ g (cj_upr (μ g) k f) g' k' = μ g' k' := by
      by_cases hg : g' = g
      · subst hg
        rw [cj_upG_s, cj_upr_o (fun e => h ⟨rfl, e⟩)]
      · rw [cj_upG_o hg]
    rw [hs]
    exact (hW g' k' F' he').kept (oq _ hne)
section CJ2
variable {Y : cj_Y} {X : cj_X} {o : Option Value × cj_Mm} {μ : cj_Mm} {pc : Nat} {lv lv' : List (Nat × Value)} {st : List Value} {cc : ByteArray} {nL d : Nat} {own : String} {ret : Option FieldType} {α : Type} {A B : Option α} {r : α}
theorem cj_if_eq (C : cj_C Y X cc nL own d ret) {x : Int32} {off : Int} (tgt : Nat) (hdg : decode cc pc = .ok (.ifCond .eq off, 3)) (ht : (pc : Int) + off = (tgt : Int)) (hf : (if x = 0 then A else B) = some r) (kt : A = some r → cj_G Y X o μ tgt lv st) (kf : B = some r → cj_G Y X o μ (pc + 3) lv st) : cj_G Y X o μ pc lv (.int x :: st) :=
  fun H locs ls hW hS hL => lv_if_eq C.1 C.2.1 hdg ht (fun h => kt (by rw [if_pos h] at hf; exact hf) H locs ls hW hS hL) (fun h => kf (by rw [if_neg h] at hf; exact hf) H locs ls hW hS hL)
theorem cj_if_ne (C : cj_C Y X cc nL own d ret) {x : Int32} {off : Int} (tgt : Nat) (hdg : decode cc pc = .ok (.ifCond .ne off, 3)) (ht : (pc : Int) + off = (tgt : Int)) (hf : (if x = 0 then B else A) = some r) (kt : A = some r → cj_G Y X o μ tgt lv st) (kf : B = some r → cj_G Y X o μ (pc + 3) lv st) : cj_G Y X o μ pc lv (.int x :: st) :=
  fun H locs ls hW hS hL => lv_if_ne C.1 C.2.1 hdg ht (fun h => kt (by rw [if_neg h] at hf; exact hf) H locs ls hW hS hL) (fun h => kf (by rw [if_pos h] at hf; exact hf) H locs ls hW hS hL)
theorem cj_if_lt (C : cj_C Y X cc nL own d ret) {x : Int32} {off : Int} (tgt : Nat) (hdg : decode cc pc = .ok (.ifCond .lt off, 3)) (ht : (pc : Int) + off = (tgt : Int)) (hf : (if x < 0 then A else B) = some r) (kt : A = some r → cj_G Y X o μ tgt lv st) (kf : B = some r → cj_G Y X o μ (pc + 3) lv st) : cj_G Y X o μ pc lv (.int x :: st) :=
  fun H locs ls hW hS hL => lv_if_lt C.1 C.2.1 hdg ht (fun h => kt (by rw [if_pos h] at hf; exact hf) H locs ls hW hS hL) (fun h => kf (by rw [if_neg h] at hf; exact hf) H locs ls hW hS hL)
theorem cj_if_ge (C : cj_C Y X cc nL own d ret) {x : Int32} {off : Int} (tgt : Nat) (hdg : decode cc pc = .ok (.ifCond .ge off, 3)) (ht : (pc : Int) + off = (tgt : Int)) (hf : (if 0 ≤ x then A else B) = some r) (kt : A = some r → cj_G Y X o μ tgt lv st) (kf : B = some r → cj_G Y X o μ (pc + 3) lv st) : cj_G Y X o μ pc lv (.int x :: st) :=
  fun H locs ls hW hS hL => lv_if_ge C.1 C.2.1 hdg ht (fun h => kt (by rw [if_pos h] at hf; exact hf) H locs ls hW hS hL) (fun h => kf (by rw [if_neg h] at hf; exact hf) H locs ls hW hS hL)
theorem cj_if_gt (C : cj_C Y X cc nL own d ret) {x : Int32} {off : Int} (tgt : Nat) (hdg : decode cc pc = .ok (.ifCond .gt off, 3)) (ht : (pc : Int) + off = (tgt : Int)) (hf : (if 0 < x then A else B) = some r) (kt : A = some r → cj_G Y X o μ tgt lv st) (kf : B = some r → cj_G Y X o μ (pc + 3) lv st) : cj_G Y X o μ pc lv (.int x :: st) :=
  fun H locs ls hW hS hL => lv_if_gt C.1 C.2.1 hdg ht (fun h => kt (by rw [if_pos h] at hf; exact hf) H locs ls hW hS hL) (fun h => kf (by rw [if_neg h] at hf; exact hf) H locs ls hW hS hL)
theorem cj_if_le (C : cj_C Y X cc nL own d ret) {x : Int32} {off : Int} (tgt : Nat) (hdg : decode cc pc = .ok (.ifCond .le off, 3)) (ht : (pc : Int) + off = (tgt : Int)) (hf : (if x ≤ 0 then A else B) = some r) (kt : A = some r → cj_G Y X o μ tgt lv st) (kf : B = some r → cj_G Y X o μ (pc + 3) lv st) : cj_G Y X o μ pc lv (.int x :: st) :=
  fun H locs ls hW hS hL => lv_if_le C.1 C.2.1 hdg ht (fun h => kt (by rw [if_pos h] at hf; exact hf) H locs ls hW hS hL) (fun h => kf (by rw [if_neg h] at hf; exact hf) H locs ls hW hS hL)
theorem cj_ic_eq (C : cj_C Y X cc nL own d ret) {x y : Int32} {off : Int} (tgt : Nat) (hdg : decode cc pc = .ok (.if_icmp .eq off, 3)) (ht : (pc : Int) + off = (tgt : Int)) (hf : (if x = y then A else B) = some r) (kt : A = some r → cj_G Y X o μ tgt lv st) (kf : B = some r → cj_G Y X o μ (pc + 3) lv st) : cj_G Y X o μ pc lv (.int y :: .int x :: st) :=
  fun H locs ls hW hS hL => lv_icmp_eq C.1 C.2.1 hdg ht (fun h => kt (by rw [if_pos h] at hf; exact hf) H locs ls hW hS hL) (fun h => kf (by rw [if_neg h] at hf; exact hf) H locs ls hW hS hL)
theorem cj_ic_ne (C : cj_C Y X cc nL own d ret) {x y : Int32} {off : Int} (tgt : Nat) (hdg : decode cc pc = .ok (.if_icmp .ne off, 3)) (ht : (pc : Int) + off = (tgt : Int)) (hf : (if x = y then B else A) = some r) (kt : A = some r → cj_G Y X o μ tgt lv st) (kf : B = some r → cj_G Y X o μ (pc + 3) lv st) : cj_G Y X o μ pc lv (.int y :: .int x :: st) :=
  fun H locs ls hW hS hL => lv_icmp_ne C.1 C.2.1 hdg ht (fun h => kt (by rw [if_neg h] at hf; exact hf) H locs ls hW hS hL) (fun h => kf (by rw [if_pos h] at hf; exact hf) H locs ls hW hS hL)
theorem cj_ic_lt (C : cj_C Y X cc nL own d ret) {x y : Int32} {off : Int} (tgt : Nat) (hdg : decode cc pc = .ok (.if_icmp .lt off, 3)) (ht : (pc : Int) + off = (tgt : Int)) (hf : (if x < y then A else B) = some r) (kt : A = some r → cj_G Y X o μ tgt lv st) (kf : B = some r → cj_G Y X o μ (pc + 3) lv st) : cj_G Y X o μ pc lv (.int y :: .int x :: st) :=
  fun H locs ls hW hS hL => lv_icmp_lt C.1 C.2.1 hdg ht (fun h => kt (by rw [if_pos h] at hf; exact hf) H locs ls hW hS hL) (fun h => kf (by rw [if_neg h] at hf; exact hf) H locs ls hW hS hL)
theorem cj_ic_ge (C : cj_C Y X cc nL own d ret) {x y : Int32} {off : Int} (tgt : Nat) (hdg : decode cc pc = .ok (.if_icmp .ge off, 3)) (ht : (pc : Int) + off = (tgt : Int)) (hf : (if y ≤ x then A else B) = some r) (kt : A = some r → cj_G Y X o μ tgt lv st) (kf : B = some r → cj_G Y X o μ (pc + 3) lv st) : cj_G Y X o μ pc lv (.int y :: .int x :: st) :=
  fun H locs ls hW hS hL => lv_icmp_ge C.1 C.2.1 hdg ht (fun h => kt (by rw [if_pos h] at hf; exact hf) H locs ls hW hS hL) (fun h => kf (by rw [if_neg h] at hf; exact hf) H locs ls hW hS hL)
theorem cj_ic_gt (C : cj_C Y X cc nL own d ret) {x y : Int32} {off : Int} (tgt : Nat) (hdg : decode cc pc = .ok (.if_icmp .gt off, 3)) (ht : (pc : Int) + off = (tgt : Int)) (hf : (if y < x then A else B) = some r) (kt : A = some r → cj_G Y X o μ tgt lv st) (kf : B = some r → cj_G Y X o μ (pc + 3) lv st) : cj_G Y X o μ pc lv (.int y :: .int x :: st) :=
  fun H locs ls hW hS hL => lv_icmp_gt C.1 C.2.1 hdg ht (fun h => kt (by rw [if_pos h] at hf; exact hf) H locs ls hW hS hL) (fun h => kf (by rw [if_neg h] at hf; exact hf) H locs ls hW hS hL)
theorem cj_ic_le (C : cj_C Y X cc nL own d ret) {x y : Int32} {off : Int} (tgt : Nat) (hdg : decode cc pc = .ok (.if_icmp .le off, 3)) (ht : (pc : Int) + off = (tgt : Int)) (hf : (if x ≤ y then A else B) = some r) (kt : A = some r → cj_G Y X o μ tgt lv st) (kf : B = some r → cj_G Y X o μ (pc + 3) lv st) : cj_G Y X o μ pc lv (.int y :: .int x :: st) :=
  fun H locs ls hW hS hL => lv_icmp_le C.1 C.2.1 hdg ht (fun h => kt (by rw [if_pos h] at hf; exact hf) H locs ls hW hS hL) (fun h => kf (by rw [if_neg h] at hf; exact hf) H locs ls hW hS hL)
theorem cj_ifnull (C : cj_C Y X cc nL own d ret) {x : Nat} {off : Int} (hdg : decode cc pc = .ok (.ifnull off, 3)) (kk : cj_G Y X o μ (pc + 3) lv st) : cj_G Y X o μ pc lv (.ref x :: st) := fun H locs ls hW hS hL => lv_ifnull C.1 C.2.1 hdg (kk H locs ls hW hS hL)
theorem cj_dup2 (C : cj_C Y X cc nL own d ret) {a b : Value} (hdg : decode cc pc = .ok (.dup2, 1)) (ha : a.category = 1) (hb : b.category = 1) (kk : cj_G Y X o μ (pc + 1) lv (a :: b :: a :: b :: st)) : cj_G Y X o μ pc lv (a :: b :: st) := fun H locs ls hW hS hL => lv_dup2_11 C.1 C.2.1 hdg ha hb (kk H locs ls hW hS hL)
theorem cj_fconst0 (C : cj_C Y X cc nL own d ret) (hdg : decode cc pc = .ok (.fconst 0, 1)) (kk : cj_G Y X o μ (pc + 1) lv (.float FP.fconst0 :: st)) : cj_G Y X o μ pc lv st := fun H locs ls hW hS hL => lv_fconst0 C.1 C.2.1 hdg (kk H locs ls hW hS hL)
theorem cj_fconst1 (C : cj_C Y X cc nL own d ret) (hdg : decode cc pc = .ok (.fconst 1, 1)) (kk : cj_G Y X o μ (pc + 1) lv (.float FP.fconst1 :: st)) : cj_G Y X o μ pc lv st := fun H locs ls hW hS hL => lv_fconst1 C.1 C.2.1 hdg (kk H locs ls hW hS hL)
theorem cj_fconst2 (C : cj_C Y X cc nL own d ret) (hdg : decode cc pc = .ok (.fconst 2, 1)) (kk : cj_G Y X o μ (pc + 1) lv (.float FP.fconst2 :: st)) : cj_G Y X o μ pc lv st := fun H locs ls hW hS hL => lv_fconst2 C.1 C.2.1 hdg (kk H locs ls hW hS hL)
theorem cj_fdiv (C : cj_C Y X cc nL own d ret) {x y : UInt32} (hdg : decode cc pc = .ok (.fdiv, 1)) (hf : cj_gp (FP.fdiv x y &&& 0x7fffffff ≤ 0x7f800000) A = some r) (kk : A = some r → cj_G Y X o μ (pc + 1) lv (.float (FP.fdiv x y) :: st)) : cj_G Y X o μ pc lv (.float y :: .float x :: st) := fun H locs ls hW hS hL => lv_fdiv C.1 C.2.1 hdg (cj_gp_s hf).1 (kk (cj_gp_s hf).2 H locs ls hW hS hL)
theorem cj_fmul (C : cj_C Y X cc nL own d ret) {x y : UInt32} (hdg : decode cc pc = .ok (.fmul, 1)) (hf : cj_gp (FP.fmul x y &&& 0x7fffffff ≤ 0x7f800000) A = some r) (kk : A = some r → cj_G Y X o μ (pc + 1) lv (.float (FP.fmul x y) :: st)) : cj_G Y X o μ pc lv (.float y :: .float x :: st) := fun H locs ls hW hS hL => lv_fmul C.1 C.2.1 hdg (cj_gp_s hf).1 (kk (cj_gp_s hf).2 H locs ls hW hS hL)
theorem cj_fsub (C : cj_C Y X cc nL own d ret) {x y : UInt32} (hdg : decode cc pc = .ok (.fsub, 1)) (hf : cj_gp (FP.fsub x y &&& 0x7fffffff ≤ 0x7f800000) A = some r) (kk : A = some r → cj_G Y X o μ (pc + 1) lv (.float (FP.fsub x y) :: st)) : cj_G Y X o μ pc lv (.float y :: .float x :: st) := fun H locs ls hW hS hL => lv_fsub C.1 C.2.1 hdg (cj_gp_s hf).1 (kk (cj_gp_s hf).2 H locs ls hW hS hL)
/-! switches -/
theorem cj_tabI (C : cj_C Y X cc nL own d ret) {dflt lo hi : Int} {offs : Array Int} {len : Nat} {x v : Int32} {off : Int} (tgt : Nat) (h : x = v) (hdg : decode cc pc = .ok (.tableswitch dflt lo hi offs, len)) (h1 : ¬ v.toInt < lo) (h2 : ¬ hi < v.toInt) (ho : offs[(v.toInt - lo).toNat]? = some off) (ht : (pc : Int) + off = (tgt : Int)) (kk : cj_G Y X o μ tgt lv st) : cj_G Y X o μ pc lv (.int x :: st) := by
  subst h
  exact fun H locs ls hW hS hL => lv_tableIn C.1 C.2.1 hdg h1 h2 ho ht (kk H locs ls hW hS hL)
def cj_tck (pc tgt : Nat) (lo hi : Int) (offs : Array Int) (cs : List Int32) : Bool := (List.range (hi + 1 - lo).toNat).all fun k => cs.contains (Int32.ofInt (lo + k)) || (match offs[k]? with | some off => decide ((pc : Int) + off = (tgt : Int)) | none => false)
theorem cj_tabD (C : cj_C Y X cc nL own d ret) {dflt lo hi : Int} {offs : Array Int} {len : Nat} {x : Int32} (tgt : Nat) (cs : List Int32) (hn : ∀ v ∈ cs, ¬ x = v) (hdg : decode cc pc = .ok (.tableswitch dflt lo hi offs, len)) (hck : cj_tck pc tgt lo hi offs cs = true) (ht : (pc : Int) + dflt = (tgt : Int)) (kk : cj_G Y X o μ tgt lv st) : cj_G Y X o μ pc lv (.int x :: st) := by
  intro H locs ls hW hS hL
  by_cases h : x.toInt < lo ∨ hi < x.toInt
  · exact lv_tableOut C.1 C.2.1 hdg h ht (kk H locs ls hW hS hL)
  · have h1 : ¬ x.toInt < lo := fun q => h (Or.inl q)
    have h2 : ¬ hi < x.toInt := fun q => h (Or.inr q)
    have hk : (x.toInt - lo).toNat < (hi + 1 - lo).toNat := by omega
    have h3 := List.all_eq_true.mp hck _ (List.mem_range.mpr hk)
    have e1 : lo + ((x.toInt - lo).toNat : Int) = x.toInt := by omega
    rw [e1, Bool.or_eq_true] at h3
    rcases h3 with h3 | h3
    · have e2 : Int32.ofInt x.toInt = x := by simp
      rw [e2] at h3
      exact absurd rfl (hn x (by simpa using h3))
    · cases ho : offs[(x.toInt - lo).toNat]? with
      | none => rw [ho] at h3; cases h3
      | some off =>
        rw [ho] at h3
        exact lv_tableIn C.1 C.2.1 hdg h1 h2 ho (of_decide_eq_true h3) (kk H locs ls hW hS hL)
theorem cj_lkI (C : cj_C Y X cc nL own d ret) {dflt : Int} {ps : Array (Int × Int)} {len : Nat} {x v : Int32} {off : Int} (tgt : Nat) (h : x = v) (hdg : decode cc pc = .ok (.lookupswitch dflt ps, len)) (hp : (ps.toList.zip (ps.toList.drop 1)).all (fun (a, next) => a.1 < next.1) = true) (ho : Op.lookupswitch.offset ps.toList dflt v.toInt = off) (ht : (pc : Int) + off = (tgt : Int)) (kk : cj_G Y X o μ tgt lv st) : cj_G Y X o μ pc lv (.int x :: st) := by
  subst h
  exact fun H locs ls hW hS hL => lv_lookup C.1 C.2.1 hdg hp ho ht (kk H locs ls hW hS hL)
theorem cj_lkO (x : Int32) (dflt : Int) (cs : List Int32) (hn : ∀ v ∈ cs, ¬ x = v) : ∀ ps : List (Int × Int), ps.all (fun p => cs.contains (Int32.ofInt p.1)) = true → Op.lookupswitch.offset ps dflt x.toInt = dflt
  | [], _ => rfl
  | (a, b) :: ps, h => by
    rw [List.all_cons, Bool.and_eq_true] at h
    rw [Op.lookupswitch.offset_cons, if_neg, cj_lkO x dflt cs hn ps h.2]
    intro e
    have h1 := h.1
    simp only [e] at h1
    have e2 : Int32.ofInt x.toInt = x := by simp
    rw [e2] at h1
    exact absurd rfl (hn x (by simpa using h1))
theorem cj_lkD (C : cj_C Y X cc nL own d ret) {dflt : Int} {ps : Array (Int × Int)} {len : Nat} {x : Int32} (tgt : Nat) (cs : List Int32) (hn : ∀ v ∈ cs, ¬ x = v) (hdg : decode cc pc = .ok (.lookupswitch dflt ps, len)) (hp : (ps.toList.zip (ps.toList.drop 1)).all (fun (a, next) => a.1 < next.1) = true) (hck : ps.toList.all (fun p => cs.contains (Int32.ofInt p.1)) = true) (ht : (pc : Int) + dflt = (tgt : Int)) (kk : cj_G Y X o μ tgt lv st) : cj_G Y X o μ pc lv (.int x :: st) :=
  fun H locs ls hW hS hL => lv_lookup C.1 C.2.1 hdg hp (cj_lkO x dflt cs hn _ hck) ht (kk H locs ls hW hS hL)
/-! ends -/
theorem cj_iret (C : cj_C Y X cc nL own d (some .int)) {v : Int32} (ho : o = (some (.int v), μ)) (hdg : decode cc pc = .ok (.ireturn, 1)) : cj_G Y X o μ pc lv [.int v] := by
  subst ho
  exact fun H locs ls hW hS hL => W.iret C.1 C.2.1 C.2.2.2.2.2.2.2.2.1 (fun t ht _ => ⟨rfl, by rw [ht]; exact hW, hS.F ht⟩) hS.2.2 hdg (hlocks := C.2.2.2.2.2.2.2.1)
theorem cj_zret (C : cj_C Y X cc nL own d ret) {ty : FieldType} {v : Int32} (hr : ret = some ty) (hn : narrow ty (.int v) = .int v) (ho : o = (some (.int v), μ)) (hdg : decode cc pc = .ok (.ireturn, 1)) : cj_G Y X o μ pc lv [.int v] := by
  subst ho
  exact fun H locs ls hW hS hL => W.zret C.1 C.2.1 (by rw [← hr]; exact C.2.2.2.2.2.2.2.2.1) hn (fun t ht _ => ⟨rfl, by rw [ht]; exact hW, hS.F ht⟩) hS.2.2 hdg (hlocks := C.2.2.2.2.2.2.2.1)
theorem cj_vret (C : cj_C Y X cc nL own d none) (ho : o = (none, μ)) (hdg : decode cc pc = .ok (.return_, 1)) : cj_G Y X o μ pc lv [] := by
  subst ho
  exact fun H locs ls hW hS hL => W.vret C.1 C.2.1 C.2.2.2.2.2.2.2.2.1 (fun t ht _ => ⟨rfl, by rw [ht]; exact hW, hS.F ht⟩) hS.2.2 hdg (hlocks := C.2.2.2.2.2.2.2.1)
end CJ2
