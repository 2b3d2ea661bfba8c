/-! finding and choosing -/
def f_row (σ : CS) (c : Nat) (x : Int32) : Nat → Int32
  | 0 => -1
  | n + 1 => if s_inRow σ c n = true ∧ ¬ m_inClass σ n x = -1 then m_inClass σ n x else f_row σ c x n
def s_firstInRow (σ : CS) (c : Nat) (x : Int32) : Int32 := f_row σ c x (c + 1)
def f_inst (σ : CS) (c : Nat) (x : Int32) : Nat → Int32
  | 0 => -1
  | n + 1 => if s_inRow σ c n = true ∧ ¬ m_inClass σ n x = -1 ∧ m_static σ (m_inClass σ n x).toNatClampNeg = false then m_inClass σ n x else f_inst σ c x n
def s_firstInst (σ : CS) (c : Nat) (x : Int32) : Int32 := f_inst σ c x (c + 1)
def f_repl (σ : CS) (c m : Nat) : Nat → Int32
  | 0 => -1
  | n + 1 => if s_inRow σ c n = true ∧ ¬ m_inClass σ n (cs_nm σ m) = -1 ∧ (m_inClass σ n (cs_nm σ m) = nI m ∨ r_repl σ (m_inClass σ n (cs_nm σ m)).toNatClampNeg m = true) then m_inClass σ n (cs_nm σ m) else f_repl σ c m n
def s_firstRepl (σ : CS) (c m : Nat) : Int32 := f_repl σ c m (c + 1)
def f_faces (σ : CS) (c : Nat) (x : Int32) : Nat → Nat → Int32
  | 0, _ => -1
  | n + 1, i => if ¬ m_inClass σ (s_faceAt σ c i) x = -1 then m_inClass σ (s_faceAt σ c i) x else f_faces σ c x n (i + 1)
def s_inFaces (σ : CS) (c : Nat) (x : Int32) : Int32 := f_faces σ c x (cs_fam σ c) 0
def h_faces (σ : CS) (c : Nat) (x : Int32) : Nat → Nat → Int64 → Int64
  | 0, _, w => w
  | n + 1, i, w => if m_inClass σ (s_faceAt σ c i) x = -1 then h_faces σ c x n (i + 1) w else h_faces σ c x n (i + 1) (w ||| cs_abv σ (s_faceAt σ c i))
def s_hidden (σ : CS) (c : Nat) (x : Int32) : Int64 := h_faces σ c x (cs_fam σ c) 0 0
def n_at (σ : CS) (c : Nat) (x : Int32) (i : Nat) (w : Int64) : Int32 := if s_holds w (s_faceAt σ c i) = true then -1 else m_inClass σ (s_faceAt σ c i) x
def o_only (σ : CS) (c : Nat) (x : Int32) (w : Int64) : Nat → Nat → Int32 → Int32
  | 0, _, r => r
  | n + 1, i, r => if ¬ n_at σ c x i w = -1 ∧ m_abstract σ (n_at σ c x i w).toNatClampNeg = false then (if r = -1 then o_only σ c x w n (i + 1) (n_at σ c x i w) else -26) else o_only σ c x w n (i + 1) r
def s_only (σ : CS) (c : Nat) (x : Int32) : Int32 := o_only σ c x (s_hidden σ c x) (cs_fam σ c) 0 (-1)
def n_near (σ : CS) (c : Nat) (x : Int32) (w : Int64) (t : Int32) : Nat → Nat → Nat → Int32
  | 0, _, _ => -1
  | n + 1, i, q => if n_at σ c x i w = -1 then n_near σ c x w t n (i + 1) q else if nI q = t then n_at σ c x i w else n_near σ c x w t n (i + 1) (q + 1)
def s_nearest (σ : CS) (x y z : Int32) : Int32 := if s_exists σ x = true ∧ 0 ≤ z then n_near σ x.toNatClampNeg y (s_hidden σ x.toNatClampNeg y) z (cs_fam σ x.toNatClampNeg) 0 0 else -1
def u_abs (σ : CS) (m : Nat) : Int32 := if m_abstract σ m = true then -25 else nI m
def s_find (σ : CS) (x y : Int32) : Int32 := if s_exists σ x = true then (if s_firstInRow σ x.toNatClampNeg y = -1 then (if s_only σ x.toNatClampNeg y < 0 then s_inFaces σ x.toNatClampNeg y else s_only σ x.toNatClampNeg y) else s_firstInRow σ x.toNatClampNeg y) else -14
def s_choose (σ : CS) (x y : Int32) : Int32 := if s_isPlain σ x = true ∧ m_exists σ y = true ∧ m_static σ y.toNatClampNeg = false ∧ s_isBelow σ x (nI (cs_ow σ y.toNatClampNeg)) = true then (if m_private σ y.toNatClampNeg = true then y else if s_firstRepl σ x.toNatClampNeg y.toNatClampNeg = -1 then (if s_only σ x.toNatClampNeg (cs_nm σ y.toNatClampNeg) = -1 then -25 else s_only σ x.toNatClampNeg (cs_nm σ y.toNatClampNeg)) else u_abs σ (s_firstRepl σ x.toNatClampNeg y.toNatClampNeg).toNatClampNeg) else -14
def sp_tail (σ : CS) (c : Nat) (x : Int32) : Int32 := if s_firstInst σ c x = -1 then (if s_only σ c x < 0 then -25 else s_only σ c x) else u_abs σ (s_firstInst σ c x).toNatClampNeg
def s_special (σ : CS) (x y z : Int32) : Int32 := if s_isPlain σ x = true ∧ s_isPlain σ y = true then (if 0 ≤ s_find σ y z then (if m_static σ (s_find σ y z).toNatClampNeg = true then -21 else if m_private σ (s_find σ y z).toNatClampNeg = true ∨ s_below σ x.toNatClampNeg y.toNatClampNeg = false then sp_tail σ y.toNatClampNeg z else sp_tail σ (cs_par σ x.toNatClampNeg) z) else -12) else -14
/-- an answer that is a method or -1 -/
def mres (σ : CS) (r : Int32) : Prop := r = -1 ∨ ∃ j : Nat, j < cs_m σ ∧ r = nI j
theorem f_row_of {σ : CS} (hok : cok σ) (c : Nat) (x : Int32) : ∀ n, n ≤ 60 → mres σ (f_row σ c x n)
  | 0, _ => Or.inl rfl
  | n + 1, h => by
    unfold f_row
    split
    · exact m_inClass_of hok (by omega) x
    · exact f_row_of hok c x n (by omega)
theorem f_inst_of {σ : CS} (hok : cok σ) (c : Nat) (x : Int32) : ∀ n, n ≤ 60 → mres σ (f_inst σ c x n)
  | 0, _ => Or.inl rfl
  | n + 1, h => by
    unfold f_inst
    split
    · exact m_inClass_of hok (by omega) x
    · exact f_inst_of hok c x n (by omega)
theorem f_repl_of {σ : CS} (hok : cok σ) (c m : Nat) : ∀ n, n ≤ 60 → mres σ (f_repl σ c m n)
  | 0, _ => Or.inl rfl
  | n + 1, h => by
    unfold f_repl
    split
    · exact m_inClass_of hok (by omega) _
    · exact f_repl_of hok c m n (by omega)
theorem s_faceAt_lt {σ : CS} (hok : cok σ) {c i : Nat} (hc : c < 60) (hi : i < cs_fam σ c) : s_faceAt σ c i < 60 := hok.2.1.2.2.2.2.1 _ (by have := hok.2.1.2.2.2.1 c hc; omega)
theorem f_faces_of {σ : CS} (hok : cok σ) {c : Nat} (hc : c < 60) (x : Int32) : ∀ n i, i + n ≤ cs_fam σ c → mres σ (f_faces σ c x n i)
  | 0, _, _ => Or.inl rfl
  | n + 1, i, h => by
    unfold f_faces
    split
    · exact m_inClass_of hok (s_faceAt_lt hok hc (by omega)) x
    · exact f_faces_of hok hc x n (i + 1) (by omega)
theorem n_at_of {σ : CS} (hok : cok σ) {c i : Nat} (hc : c < 60) (hi : i < cs_fam σ c) (x : Int32) (w : Int64) : mres σ (n_at σ c x i w) := by
  unfold n_at
  split
  · exact Or.inl rfl
  · exact m_inClass_of hok (s_faceAt_lt hok hc hi) x
theorem o_only_of {σ : CS} (hok : cok σ) {c : Nat} (hc : c < 60) (x : Int32) (w : Int64) : ∀ n i r, i + n ≤ cs_fam σ c → mres σ r → mres σ (o_only σ c x w n i r) ∨ o_only σ c x w n i r = -26
  | 0, _, _, _, h => Or.inl h
  | n + 1, i, r, hi, h => by
    unfold o_only
    split
    · split
      · exact o_only_of hok hc x w n (i + 1) _ (by omega) (n_at_of hok hc (by omega) x w)
      · exact Or.inr rfl
    · exact o_only_of hok hc x w n (i + 1) r (by omega) h
theorem s_only_of {σ : CS} (hok : cok σ) {c : Nat} (hc : c < 60) (x : Int32) : mres σ (s_only σ c x) ∨ s_only σ c x = -26 := o_only_of hok hc x _ _ _ _ (by omega) (Or.inl rfl)
theorem s_find_of {σ : CS} (hok : cok σ) {x y : Int32} (h : 0 ≤ s_find σ x y) : ∃ j : Nat, j < cs_m σ ∧ s_find σ x y = nI j := by
  have fin : ∀ r : Int32, mres σ r → 0 ≤ r → ∃ j : Nat, j < cs_m σ ∧ r = nI j := fun r hr h0 => by
    rcases hr with e | hr
    · subst e; exact absurd h0 (by decide)
    · exact hr
  by_cases hx : s_exists σ x = true
  · obtain ⟨j, hj, e⟩ := s_exists_of hok hx
    have hj6 : j < 60 := by have := hok.1; omega
    have ec : x.toNatClampNeg = j := by rw [e]; exact nI_clamp (by omega)
    unfold s_find at h ⊢
    rw [if_pos hx, ec] at h ⊢
    by_cases h1 : s_firstInRow σ j y = -1
    · rw [if_pos h1] at h ⊢
      by_cases h2 : s_only σ j y < 0
      · rw [if_pos h2] at h ⊢
        exact fin _ (f_faces_of hok hj6 y _ _ (by omega)) h
      · rw [if_neg h2] at h ⊢
        rcases s_only_of hok hj6 y with h3 | h3
        · exact fin _ h3 h
        · rw [h3] at h2; exact absurd (by decide) h2
    · rw [if_neg h1] at h ⊢
      exact fin _ (f_row_of hok j y _ (by omega)) h
  · unfold s_find at h
    rw [if_neg hx] at h
    exact absurd h (by decide)
