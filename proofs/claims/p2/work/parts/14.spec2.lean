theorem kpred (n : Nat) : nI (n + 1) - nI 1 = nI n := nI_pred n
theorem kdec (n : Nat) : nI n + Int32.ofInt (-1) = nI n - nI 1 := by
  show nI n + (-1) = nI n - 1
  rw [Int32.sub_eq_add_neg]
/-! what the class's own methods answer -/
def s_fits (x y f : Int32) : Bool := !decide (x < 0) && (!decide (nI 3 < x) && (!decide (y < 0) && (decide (y ≤ nI 4) && (if f = 0 then (!decide (y = nI 4) || !decide (x = nI 3)) else (decide (x = nI 1) && (decide (y = 0) || decide (y = nI 4)))))))
def s_isBelow (σ : CS) (x y : Int32) : Bool := s_exists σ x && (s_exists σ y && (decide (x = y) || s_below σ x.toNatClampNeg y.toNatClampNeg))
def s_faceI (σ : CS) (x y : Int32) : Int32 := if s_exists σ x = true ∧ ¬ y < 0 ∧ y < nI (cs_fam σ x.toNatClampNeg) then nI (s_faceAt σ x.toNatClampNeg y.toNatClampNeg) else -1
def r_could (σ : CS) (a b : Nat) : Bool := !decide (nI a = nI b) && (decide (cs_nm σ a = cs_nm σ b) && (m_virtual σ a && m_virtual σ b))
def r_between (σ : CS) (fr g : Nat) (x : Int32) : Nat → Bool
  | 0 => false
  | n + 1 => if s_inRow σ fr n = true then (if nI n = nI g then false else if ¬ m_inClass σ n x = -1 ∧ cs_pack σ n = cs_pack σ g ∧ m_virtual σ (m_inClass σ n x).toNatClampNeg = true ∧ m_pp σ (m_inClass σ n x).toNatClampNeg = true then true else r_between σ fr g x n) else r_between σ fr g x n
def r_bw (σ : CS) (a b : Nat) : Bool := r_between σ (cs_ow σ a) (cs_ow σ b) (cs_nm σ a) (cs_ow σ a)
def r_repl (σ : CS) (a b : Nat) : Bool := r_could σ a b && (m_pp σ b || (decide (cs_pack σ (cs_ow σ a) = cs_pack σ (cs_ow σ b)) || r_bw σ a b))
def s_overrides (σ : CS) (x y : Int32) : Bool := m_exists σ x && (m_exists σ y && r_repl σ x.toNatClampNeg y.toNatClampNeg)
def r_fin (σ : CS) (m : Nat) : Nat → Bool
  | 0 => false
  | n + 1 => if s_inRow σ (cs_ow σ m) n = true ∧ ¬ m_inClass σ n (cs_nm σ m) = -1 ∧ m_final σ (m_inClass σ n (cs_nm σ m)).toNatClampNeg = true ∧ r_repl σ m (m_inClass σ n (cs_nm σ m)).toNatClampNeg = true then true else r_fin σ m n
def r_final (σ : CS) (m : Nat) : Bool := r_fin σ m (cs_ow σ m)
def r_brk (σ : CS) : Nat → Nat → Int32
  | 0, _ => -1
  | n + 1, i => if r_final σ i = true then nI i else r_brk σ n (i + 1)
def s_broken (σ : CS) (x : Int32) : Int32 := if s_exists σ x = true then r_brk σ (cs_am σ x.toNatClampNeg) (cs_fi σ x.toNatClampNeg) else -1
def r_from (σ : CS) (x m : Nat) : Bool := s_below σ (cs_ow σ x) (cs_ow σ m) && r_repl σ x m
def r_plain (σ : CS) (m x : Nat) : Bool := decide (cs_face σ (cs_ow σ x) = 0) && r_repl σ m x
def r_kin (σ : CS) (m : Nat) : Nat → Nat → Nat → Nat
  | 0, _, k => k
  | n + 1, i, k => if r_from σ i m = true ∨ r_plain σ m i = true then r_kin σ m n (i + 1) (k + 1) else r_kin σ m n (i + 1) k
def s_kin (σ : CS) (x : Int32) : Int32 := if m_exists σ x = true then nI (r_kin σ x.toNatClampNeg (cs_m σ) 0 0) else -1
def a_add (σ : CS) (x y z : Int32) : Int32 × CS := if s_isPlain σ x = true then (if ¬ y < 0 ∧ ¬ nI 10 ≤ y ∧ ¬ z < 0 ∧ ¬ nI 1 < z ∧ (z = nI 1 → x = 0) then (if nI (cs_n σ) < nI 60 then (nI (cs_n σ), s_append σ x.toNatClampNeg y (decide (z = nI 1))) else (-12, σ)) else (-1, σ)) else (-14, σ)
def a_impl (σ : CS) (x y : Int32) : Int32 × CS := if s_isLatest σ x = true ∧ ¬ y = x ∧ s_isFace σ y = true then (if s_holds (cs_own σ) y.toNatClampNeg = false ∧ nI (cs_am σ (cs_n σ - 1)) ≤ 0 then (if j_bits (cs_own σ) < nI 20 then (j_bits (cs_own (s_giveFace σ (cs_n σ - 1) y.toNatClampNeg)), s_giveFace σ (cs_n σ - 1) y.toNatClampNeg) else (-12, σ)) else (-1, σ)) else (-14, σ)
def a_meth (σ : CS) (x y z w : Int32) : Int32 × CS := if s_isLatest σ x = true ∧ ¬ x = 0 then (if ¬ y < 0 ∧ ¬ nI 32 ≤ y ∧ s_fits z w (cs_face σ (cs_n σ - 1)) = true then (if m_inClass σ (cs_n σ - 1) y = -1 then (if nI (cs_m σ) < nI 400 then (nI (cs_m σ), m_append σ (cs_n σ - 1) y z w) else (-12, σ)) else (-1, σ)) else (-1, σ)) else (-14, σ)
theorem s_isPlain_of {σ : CS} (hok : cok σ) {x : Int32} (h : s_isPlain σ x = true) : ∃ j : Nat, j < cs_n σ ∧ x = nI j := s_exists_of hok (by unfold s_isPlain at h; simp only [Bool.and_eq_true] at h; exact h.1)
theorem s_isFace_of {σ : CS} (hok : cok σ) {x : Int32} (h : s_isFace σ x = true) : ∃ j : Nat, j < cs_n σ ∧ x = nI j := s_exists_of hok (by unfold s_isFace at h; simp only [Bool.and_eq_true] at h; exact h.1)
theorem s_isLatest_of {σ : CS} (hok : cok σ) {x : Int32} (h : s_isLatest σ x = true) : x = nI (cs_n σ - 1) := by
  have h1 : x = nI (cs_n σ) - nI 1 := of_decide_eq_true h
  rw [h1, pk_sub hok.1.1]
