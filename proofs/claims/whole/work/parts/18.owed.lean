/-! what the pure part owes: for related memories every call answers alike and leaves related memories -/
def cj_Tmm (R : cj_Mm → cj_S → Prop) (_ : cj_Mm) (_ : cj_S) (a : Option (Int32 × cj_Mm)) (b : Option (Int32 × cj_S)) : Prop := ∃ (r : Int32) (μ2 : cj_Mm) (σ2 : cj_S), a = some (r, μ2) ∧ b = some (r, σ2) ∧ R μ2 σ2
def cj_Tpm (R : cj_Mm → cj_S → Prop) (μ : cj_Mm) (_ : cj_S) (a : Option Int32) (b : Option (Int32 × cj_S)) : Prop := ∃ (r : Int32) (σ2 : cj_S), a = some r ∧ b = some (r, σ2) ∧ R μ σ2
def cj_Tmp (R : cj_Mm → cj_S → Prop) (_ : cj_Mm) (σ : cj_S) (a : Option (Int32 × cj_Mm)) (b : Option Int32) : Prop := ∃ (r : Int32) (μ2 : cj_Mm), a = some (r, μ2) ∧ b = some r ∧ R μ2 σ
def cj_Tpp (R : cj_Mm → cj_S → Prop) (μ : cj_Mm) (σ : cj_S) (a b : Option Int32) : Prop := ∃ (r : Int32), a = some r ∧ b = some r ∧ R μ σ
def cj_O0 (R : cj_Mm → cj_S → Prop) (μ : cj_Mm) (σ : cj_S) : Prop := ∀ a1 a2 : Int32, cj_Tmm R μ σ (f_X8_person μ a1 a2) (f_X9_person σ a1 a2)
def cj_O1 (R : cj_Mm → cj_S → Prop) (μ : cj_Mm) (σ : cj_S) : Prop := ∀ a1 a2 a3 : Int32, cj_Tmm R μ σ (f_X8_turn μ a1 a2 a3) (f_X9_turn σ a1 a2 a3)
def cj_O2 (R : cj_Mm → cj_S → Prop) (μ : cj_Mm) (σ : cj_S) : Prop := ∀ a1 a2 : Int32, cj_Tmm R μ σ (f_X8_paper μ a1 a2) (f_X9_paper σ a1 a2)
def cj_O3 (R : cj_Mm → cj_S → Prop) (μ : cj_Mm) (σ : cj_S) : Prop := ∀ a1 : Int32, cj_Tmm R μ σ (f_X8_look μ a1) (f_X9_look σ a1)
def cj_O4 (R : cj_Mm → cj_S → Prop) (μ : cj_Mm) (σ : cj_S) : Prop := ∀ a1 : Int32, cj_Tmm R μ σ (f_X8_sheet μ a1) (f_X9_sheet σ a1)
def cj_O5 (R : cj_Mm → cj_S → Prop) (μ : cj_Mm) (σ : cj_S) : Prop := ∀ a1 a2 : Int32, cj_Tmm R μ σ (f_X8_draw μ a1 a2) (f_X9_draw σ a1 a2)
def cj_O6 (R : cj_Mm → cj_S → Prop) (μ : cj_Mm) (σ : cj_S) : Prop := ∀ a1 : Int32, cj_Tmm R μ σ (f_X8_tear μ a1) (f_X9_tear σ a1)
def cj_O7 (R : cj_Mm → cj_S → Prop) (μ : cj_Mm) (σ : cj_S) : Prop := ∀ a1 : Int32, cj_Tmm R μ σ (f_X8_verdict μ a1) (f_X9_verdict σ a1)
def cj_O8 (R : cj_Mm → cj_S → Prop) (μ : cj_Mm) (σ : cj_S) : Prop := ∀ a1 a2 : Int32, cj_Tmm R μ σ (f_X8_sell μ a1 a2) (f_X9_sell σ a1 a2)
def cj_O9 (R : cj_Mm → cj_S → Prop) (μ : cj_Mm) (σ : cj_S) : Prop := ∀ a1 : Int32, cj_Tmm R μ σ (f_X8_pass μ a1) (f_X9_pass σ a1)
def cj_O10 (R : cj_Mm → cj_S → Prop) (μ : cj_Mm) (σ : cj_S) : Prop := ∀ a1 a2 : Int32, cj_Tmm R μ σ (f_X8_set μ a1 a2) (f_X9_set σ a1 a2)
def cj_O11 (R : cj_Mm → cj_S → Prop) (μ : cj_Mm) (σ : cj_S) : Prop := ∀ a1 a2 : Int32, cj_Tpp R μ σ (f_X8_personOf μ a1 a2) (f_X9_personOf σ a1 a2)
def cj_O12 (R : cj_Mm → cj_S → Prop) (μ : cj_Mm) (σ : cj_S) : Prop := ∀ a1 a2 : Int32, cj_Tpp R μ σ (f_X8_sheetOf μ a1 a2) (f_X9_sheetOf σ a1 a2)
def cj_O13 (R : cj_Mm → cj_S → Prop) (μ : cj_Mm) (σ : cj_S) : Prop := ∀ a1 a2 : Int32, cj_Tpp R μ σ (f_X8_paperOf μ a1 a2) (f_X9_paperOf σ a1 a2)
def cj_O14 (R : cj_Mm → cj_S → Prop) (μ : cj_Mm) (σ : cj_S) : Prop := ∀ a1 a2 : Int32, cj_Tpp R μ σ (f_X8_price μ a1 a2) (f_X9_price σ a1 a2)
def cj_O15 (R : cj_Mm → cj_S → Prop) (μ : cj_Mm) (σ : cj_S) : Prop := ∀ a1 : Int32, cj_Tpp R μ σ (f_X8_number μ a1) (f_X9_number σ a1)
def cj_O16 (R : cj_Mm → cj_S → Prop) (μ : cj_Mm) (σ : cj_S) : Prop := ∀ a1 a2 : Int32, cj_Tpp R μ σ (f_X8_seenIn μ a1 a2) (f_X9_seenIn σ a1 a2)
def cj_O17 (R : cj_Mm → cj_S → Prop) (μ : cj_Mm) (σ : cj_S) : Prop := ∀ a1 a2 : Int32, cj_Tmm R μ σ (f_X8_would μ a1 a2) (f_X9_would σ a1 a2)
def cj_O18 (R : cj_Mm → cj_S → Prop) (μ : cj_Mm) (σ : cj_S) : Prop := ∀ a1 : Int32, cj_Tmp R μ σ (f_X8_best μ a1) (f_X9_best σ a1)
def cj_O19 (R : cj_Mm → cj_S → Prop) (μ : cj_Mm) (σ : cj_S) : Prop := cj_Tmm R μ σ (f_X8_sellAll μ) (f_X9_sellAll σ)
def cj_O20 (R : cj_Mm → cj_S → Prop) (μ : cj_Mm) (σ : cj_S) : Prop := cj_Tpp R μ σ (f_X8_mean μ) (f_X9_mean σ)
def cj_O21 (R : cj_Mm → cj_S → Prop) (μ : cj_Mm) (σ : cj_S) : Prop := ∀ a1 : Int32, cj_Tpp R μ σ (f_X8_count μ a1) (f_X9_count σ a1)
def cj_O22 (R : cj_Mm → cj_S → Prop) (μ : cj_Mm) (σ : cj_S) : Prop := cj_Tmm R μ σ (f_X8_undo μ) (f_X9_undo σ)
def cj_O23 (R : cj_Mm → cj_S → Prop) (μ : cj_Mm) (σ : cj_S) : Prop := ∀ a1 : Int32, cj_Tmm R μ σ (f_X8_type μ a1) (f_X9_type σ a1)
def cj_O24 (R : cj_Mm → cj_S → Prop) (μ : cj_Mm) (σ : cj_S) : Prop := cj_Tmm R μ σ (f_X8_clearText μ) (f_X9_clearText σ)
def cj_O25 (R : cj_Mm → cj_S → Prop) (μ : cj_Mm) (σ : cj_S) : Prop := ∀ a1 : Int32, cj_Tmm R μ σ (f_X8_fault μ a1) (f_X9_fault σ a1)
def cj_O26 (R : cj_Mm → cj_S → Prop) (μ : cj_Mm) (σ : cj_S) : Prop := cj_Tmm R μ σ (f_X8_play μ) (f_X9_play σ)
def cj_Ow (R : cj_Mm → cj_S → Prop) (μ : cj_Mm) (σ : cj_S) : Prop := cj_O0 R μ σ ∧ cj_O1 R μ σ ∧ cj_O2 R μ σ ∧ cj_O3 R μ σ ∧ cj_O4 R μ σ ∧ cj_O5 R μ σ ∧ cj_O6 R μ σ ∧ cj_O7 R μ σ ∧ cj_O8 R μ σ ∧ cj_O9 R μ σ ∧ cj_O10 R μ σ ∧ cj_O11 R μ σ ∧ cj_O12 R μ σ ∧ cj_O13 R μ σ ∧ cj_O14 R μ σ ∧ cj_O15 R μ σ ∧ cj_O16 R μ σ ∧ cj_O17 R μ σ ∧ cj_O18 R μ σ ∧ cj_O19 R μ σ ∧ cj_O20 R μ σ ∧ cj_O21 R μ σ ∧ cj_O22 R μ σ ∧ cj_O23 R μ σ ∧ cj_O24 R μ σ ∧ cj_O25 R μ σ ∧ cj_O26 R μ σ
