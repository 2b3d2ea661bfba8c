/-! what the class's methods answer, as functions of its state -/
def s_holds (w : Int64) (k : Nat) : Bool := decide (¬ (ushL w (nI k) &&& (1 : Int64)) = (0 : Int64))
def s_exists (σ : CS) (x : Int32) : Bool := !decide (x < 0) && !decide (nI (cs_n σ) ≤ x)
def s_isFace (σ : CS) (x : Int32) : Bool := s_exists σ x && !decide (cs_face σ x.toNatClampNeg = 0)
def s_isPlain (σ : CS) (x : Int32) : Bool := s_exists σ x && decide (cs_face σ x.toNatClampNeg = 0)
def s_isLatest (σ : CS) (x : Int32) : Bool := decide (x = nI (cs_n σ) - nI 1)
def s_below (σ : CS) (c k : Nat) : Bool := s_holds (cs_abv σ c) k
def s_inRow (σ : CS) (c k : Nat) : Bool := decide (nI c = nI k) || (decide (cs_face σ c = 0) && (decide (cs_face σ k = 0) && s_below σ c k))
def s_faceAt (σ : CS) (c i : Nat) : Nat := cs_fls σ (cs_fst σ c + i)
def m_exists (σ : CS) (x : Int32) : Bool := !decide (x < 0) && !decide (nI (cs_m σ) ≤ x)
def m_static (σ : CS) (m : Nat) : Bool := !decide ((cs_ki σ m &&& nI 1) = 0)
def m_final (σ : CS) (m : Nat) : Bool := !decide ((cs_ki σ m &&& nI 2) = 0)
def m_abstract (σ : CS) (m : Nat) : Bool := !decide ((cs_ki σ m &&& nI 4) = 0)
def m_private (σ : CS) (m : Nat) : Bool := decide (cs_si σ m = nI 3)
def m_virtual (σ : CS) (m : Nat) : Bool := !m_static σ m && !m_private σ m
def m_pp (σ : CS) (m : Nat) : Bool := decide (cs_si σ m = nI 1) || decide (cs_si σ m = nI 2)
def m_scan (f : Nat → Int32) (x : Int32) : Nat → Nat → Int32
  | 0, _ => -1
  | n + 1, i => if f i = x then nI i else m_scan f x n (i + 1)
def m_inClass (σ : CS) (c : Nat) (x : Int32) : Int32 := m_scan (cs_nm σ) x (cs_am σ c) (cs_fi σ c)
/-- the bounds that keep every index inside its row -/
def cok (σ : CS) : Prop := (1 ≤ cs_n σ ∧ cs_n σ ≤ 60 ∧ cs_m σ ≤ 400) ∧ (∀ c, c < 60 → cs_fi σ c + cs_am σ c ≤ cs_m σ) ∧ (∀ m, m < 400 → cs_ow σ m < 60) ∧ (∀ c, c < 60 → cs_fst σ c + cs_fam σ c ≤ 1800) ∧ (∀ j, j < 1800 → cs_fls σ j < 60) ∧ (∀ c, c < 60 → cs_par σ c < 60) ∧ (∀ c, cs_n σ ≤ c → cs_fam σ c = 0) ∧ cs_fst σ (cs_n σ - 1) + cs_opt σ ≤ 1800
theorem ix_of {x : Int32} {n : Nat} (hn : n < 2 ^ 31) (h : (!decide (x < 0) && !decide (nI n ≤ x)) = true) : ∃ j : Nat, j < n ∧ x = nI j := by
  simp only [Bool.and_eq_true, Bool.not_eq_true', decide_eq_false_iff_not] at h
  rcases pk_ix x hn with h1 | h1 | h1
  · exact absurd h1 h.1
  · exact absurd h1 h.2
  · exact h1
theorem s_exists_of {σ : CS} (hok : cok σ) {x : Int32} (h : s_exists σ x = true) : ∃ j : Nat, j < cs_n σ ∧ x = nI j := ix_of (by have := hok.1; omega) h
theorem m_exists_of {σ : CS} (hok : cok σ) {x : Int32} (h : m_exists σ x = true) : ∃ j : Nat, j < cs_m σ ∧ x = nI j := ix_of (by have := hok.1; omega) h
theorem m_scan_of (f : Nat → Int32) (x : Int32) : ∀ n i, m_scan f x n i = -1 ∨ ∃ j, i ≤ j ∧ j < i + n ∧ m_scan f x n i = nI j
  | 0, _ => Or.inl rfl
  | n + 1, i => by
    by_cases h : f i = x
    · exact Or.inr ⟨i, Nat.le_refl _, by omega, by simp [m_scan, h]⟩
    · rcases m_scan_of f x n (i + 1) with h1 | ⟨j, h1, h2, h3⟩
      · exact Or.inl (by simp [m_scan, h, h1])
      · exact Or.inr ⟨j, by omega, by omega, by simp [m_scan, h, h3]⟩
theorem m_inClass_of {σ : CS} (hok : cok σ) {c : Nat} (hc : c < 60) (x : Int32) : m_inClass σ c x = -1 ∨ ∃ j, j < cs_m σ ∧ m_inClass σ c x = nI j := by
  have h1 := hok.2.1 c hc
  rcases m_scan_of (cs_nm σ) x (cs_am σ c) (cs_fi σ c) with h | ⟨j, h2, h3, h4⟩
  · exact Or.inl h
  · exact Or.inr ⟨j, by omega, h4⟩
