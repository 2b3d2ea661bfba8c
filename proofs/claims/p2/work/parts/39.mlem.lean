theorem MI.maNm {e0 : Nat} {cO : ClassId} {L : List Nat} {f : Nat → va_E} {τ : MT} (h : MI e0 cO L f τ) {i : Nat} (hi : i < mt_n τ) : mt_ma τ i ≠ mt_m τ := fun e => by
  have h1 := h.2.2.2.2.2.2 (3 + 3 * i) 1 (by omega) (by omega) (by rw [mt_lam, mt_la1]; exact e)
  omega
/-- what the model's implement and method answer -/
def t_impR (τ : MT) (x1 x2 : Int32) : Int32 := match t_ati τ x1 with
  | none => -14
  | some i => match t_ati τ x2 with
    | none => -14
    | some k => if ¬ x1 = nI (mt_n τ - 1) ∨ x2 = x1 ∨ mt_fc τ k = 0 then -14 else if 0 < nI (mt_cnt τ (mt_ma τ i)) ∨ t_hasF τ i k (mt_cnt τ (mt_fa τ i)) 0 = true then -1 else if nI (mt_cnt τ (mt_fa τ i)) = nI 20 then -12 else nI (mt_cnt τ (mt_fa τ i) + 1)
def t_fl1 (x : Int32) : Int32 := if (x &&& nI 1) = nI 1 then nI 1 else nI 0
def t_fl2 (x : Int32) : Int32 := if ((x >>> (nI 1 &&& 31)) &&& nI 1) = nI 1 then nI 1 else nI 0
def t_fl3 (x : Int32) : Int32 := if ((x >>> (nI 2 &&& 31)) &&& nI 1) = nI 1 then nI 1 else nI 0
def t_metR (τ : MT) (x1 x2 x3 x4 : Int32) : Int32 := if x1 < nI 1 ∨ ¬ x1 = nI (mt_n τ - 1) then -14 else if t_isName x2 = false ∨ x3 < 0 ∨ nI 3 < x3 ∨ x4 < 0 ∨ nI 7 < x4 ∨ (t_idx τ (mt_n τ - 1) x2).isSome = true then -1 else if nI 4 < x4 ∨ (x4 = nI 4 ∧ x3 = nI 3) then -1 else if ¬ mt_fc τ (mt_n τ - 1) = 0 ∧ (¬ x3 = nI 1 ∨ (¬ x4 = 0 ∧ ¬ x4 = nI 4)) then -1 else if nI (mt_mn τ) = nI 400 then -12 else nI (mt_mn τ)
theorem gr1 : ¬ nI 1 < 0 := by decide
theorem gr2 : ¬ nI 3 < nI 1 := by decide
theorem gr3 : ¬ nI 7 < 0 := by decide
theorem gr4 : ¬ nI 4 < 0 := by decide
theorem gr5 : ¬ (0 : Int32) = nI 4 := by decide
theorem gr6 : ¬ nI 1 = nI 3 := by decide
theorem gr7 : ¬ nI 7 < nI 4 := by decide
theorem gr8 : ¬ nI 4 = 0 := by decide
theorem gr9 : ¬ nI 4 < nI 4 := by decide
theorem gr10 : ¬ nI 3 < 0 := by decide
theorem gr11 : ¬ nI 3 < nI 3 := by decide
theorem gr12 : ¬ nI 3 = nI 1 := by decide
