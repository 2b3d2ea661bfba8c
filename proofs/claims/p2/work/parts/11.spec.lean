/-! what the class's methods answer, as functions of its state -/
def s_holds (w : Int64) (k : Nat) : Bool := decide (¬ (ushL w (nI k) &&& (1 : Int64)) = (0 : Int64))
def s_exists (σ : CS) (x : Int32) : Bool := !decide (x < 0) && !decide (nI (cs_n σ) ≤ x)
def s_isFace (σ : CS) (x : Int32) : Bool := s_exists σ x && !decide (cs_face σ x.toNatClampNeg = 0)
def s_isPlain (σ : CS) (x : Int32) : Bool := s_exists σ x && decide (cs_face σ x.toNatClampNeg = 0)
def s_isLatest (σ : CS) (x : Int32) : Bool := decide (x = nI (cs_n σ) - nI 1)
def s_below (σ : CS) (c k : Nat) : Bool := s_holds (cs_abv σ c) k
def s_inRow (σ : CS) (c k : Nat) : Bool := decide (nI c = nI k) || (decide (cs_face σ c = 0) && (decide (cs_face σ k = 0) && s_below σ c k))
def s_faceAt (σ : CS) (c i : Nat) : Nat := cs_fls σ (cs_fst σ c + i)
def m_exists (σ : CS) (x : Int32) : Bool := !decide (x < 0) && !decide (nI (cs_m σ) ≤ x)
def m_static (σ : CS) (m : Nat) : Bool := !decide ((cs_ki σ m &&& nI 1) = 0)
def m_final (σ : CS) (m : Nat) : Bool := !decide ((cs_ki σ m &&& nI 2) = 0)
def m_abstract (σ : CS) (m : Nat) : Bool := !decide ((cs_ki σ m &&& nI 4) = 0)
def m_private (σ : CS) (m : Nat) : Bool := decide (cs_si σ m = nI 3)
def m_virtual (σ : CS) (m : Nat) : Bool := !m_static σ m && !m_private σ m
def m_pp (σ : CS) (m : Nat) : Bool := decide (cs_si σ m = nI 1) || decide (cs_si σ m = nI 2)
def m_scan (f : Nat → Int32) (x : Int32) : Nat → Nat → Int32
  | 0, _ => -1
  | n + 1, i => if f i = x then nI i else m_scan f x n (i + 1)
def m_inClass (σ : CS) (c : Nat) (x : Int32) : Int32 := m_scan (cs_nm σ) x (cs_am σ c) (cs_fi σ c)
/-- the bounds that keep every index inside its row -/
def bok (σ : CS) : Prop := (cs_n σ ≤ 60 ∧ cs_m σ ≤ 400) ∧ (∀ c, c < 60 → cs_fi σ c + cs_am σ c ≤ cs_m σ) ∧ (∀ m, m < 400 → cs_ow σ m < 60) ∧ (∀ c, c < 60 → cs_fst σ c + cs_fam σ c ≤ 1800) ∧ (∀ j, j < 1800 → cs_fls σ j < 60) ∧ (∀ c, c < 60 → cs_par σ c < 60)
def cok (σ : CS) : Prop := (1 ≤ cs_n σ ∧ cs_n σ ≤ 60 ∧ cs_m σ ≤ 400) ∧ bok σ ∧ (∀ c, cs_n σ ≤ c → cs_fam σ c = 0) ∧ cs_fst σ (cs_n σ - 1) + cs_opt σ ≤ 1800
theorem ix_of {x : Int32} {n : Nat} (hn : n < 2 ^ 31) (h : (!decide (x < 0) && !decide (nI n ≤ x)) = true) : ∃ j : Nat, j < n ∧ x = nI j := by
  simp only [Bool.and_eq_true, Bool.not_eq_true', decide_eq_false_iff_not] at h
  rcases pk_ix x hn with h1 | h1 | h1
  · exact absurd h1 h.1
  · exact absurd h1 h.2
  · exact h1
theorem s_exists_of {σ : CS} (hok : cok σ) {x : Int32} (h : s_exists σ x = true) : ∃ j : Nat, j < cs_n σ ∧ x = nI j := ix_of (by have := hok.1; omega) h
theorem m_exists_of {σ : CS} (hok : cok σ) {x : Int32} (h : m_exists σ x = true) : ∃ j : Nat, j < cs_m σ ∧ x = nI j := ix_of (by have := hok.1; omega) h
theorem m_scan_of (f : Nat → Int32) (x : Int32) : ∀ n i, m_scan f x n i = -1 ∨ ∃ j, i ≤ j ∧ j < i + n ∧ m_scan f x n i = nI j
  | 0, _ => Or.inl rfl
  | n + 1, i => by
    by_cases h : f i = x
    · exact Or.inr ⟨i, Nat.le_refl _, by omega, by simp [m_scan, h]⟩
    · rcases m_scan_of f x n (i + 1) with h1 | ⟨j, h1, h2, h3⟩
      · exact Or.inl (by simp [m_scan, h, h1])
      · exact Or.inr ⟨j, by omega, by omega, by simp [m_scan, h, h3]⟩
theorem m_inClass_of {σ : CS} (hok : cok σ) {c : Nat} (hc : c < 60) (x : Int32) : m_inClass σ c x = -1 ∨ ∃ j, j < cs_m σ ∧ m_inClass σ c x = nI j := by
  have h1 := hok.2.1.2.1 c hc
  rcases m_scan_of (cs_nm σ) x (cs_am σ c) (cs_fi σ c) with h | ⟨j, h2, h3, h4⟩
  · exact Or.inl h
  · exact Or.inr ⟨j, by omega, h4⟩
theorem nlt {a b : Nat} (ha : a < 2 ^ 31) (hb : b < 2 ^ 31) (h : ¬ nI b ≤ nI a) : a < b := Nat.lt_of_not_le (fun h2 => h ((nI_leI hb ha).mpr h2))
theorem nle {a b : Nat} (ha : a < 2 ^ 31) (hb : b < 2 ^ 31) (h : nI b ≤ nI a) : b ≤ a := (nI_leI hb ha).mp h
/-! the writers -/
def l_has (g : Nat → Nat) (f : Nat) : Nat → Nat → Bool
  | 0, _ => false
  | n + 1, i => if nI (g i) = nI f then true else l_has g f n (i + 1)
def s_listFace (σ : CS) (c f : Nat) : CS := if l_has (s_faceAt σ c) f (cs_fam σ c) 0 = true then σ else if cs_fst σ c + cs_fam σ c < 1800 then cs_mk (cs_n σ) (cs_par σ) (cs_pack σ) (cs_face σ) (cs_abv σ) (va_up (cs_fam σ) c (cs_fam σ c + 1)) (cs_fst σ) (va_up (cs_fls σ) (cs_fst σ c + cs_fam σ c) f) (cs_own σ) (cs_opt σ) (cs_m σ) (cs_ow σ) (cs_nm σ) (cs_fi σ) (cs_am σ) (cs_si σ) (cs_ki σ) else σ
def s_listAll (c d : Nat) : Nat → Nat → CS → CS
  | 0, _, σ => σ
  | n + 1, i, σ => s_listAll c d n (i + 1) (s_listFace σ c (s_faceAt σ d i))
def s_listFacesOf (σ : CS) (c d : Nat) : CS := s_listAll c d (cs_fam σ d) 0 σ
/-- what listFace leaves -/
def lf_keep (σ τ : CS) : Prop := cs_n τ = cs_n σ ∧ cs_par τ = cs_par σ ∧ cs_pack τ = cs_pack σ ∧ cs_face τ = cs_face σ ∧ cs_abv τ = cs_abv σ ∧ cs_fst τ = cs_fst σ ∧ cs_own τ = cs_own σ ∧ cs_opt τ = cs_opt σ ∧ τ.2.2 = σ.2.2
theorem lf_keep.rf (σ : CS) : lf_keep σ σ := ⟨rfl, rfl, rfl, rfl, rfl, rfl, rfl, rfl, rfl⟩
theorem lf_keep.tr {σ τ υ : CS} (h : lf_keep σ τ) (g : lf_keep τ υ) : lf_keep σ υ := by
  obtain ⟨h1, h2, h3, h4, h5, h6, h7, h8, h9⟩ := h
  obtain ⟨g1, g2, g3, g4, g5, g6, g7, g8, g9⟩ := g
  exact ⟨g1.trans h1, g2.trans h2, g3.trans h3, g4.trans h4, g5.trans h5, g6.trans h6, g7.trans h7, g8.trans h8, g9.trans h9⟩
theorem s_listFace_keep (σ : CS) (c f : Nat) : lf_keep σ (s_listFace σ c f) ∧ ∀ d, d ≠ c → cs_fam (s_listFace σ c f) d = cs_fam σ d := by
  unfold s_listFace
  split
  · exact ⟨lf_keep.rf σ, fun _ _ => rfl⟩
  · split
    · exact ⟨⟨rfl, rfl, rfl, rfl, rfl, rfl, rfl, rfl, rfl⟩, fun d h => va_up_ne _ _ h⟩
    · exact ⟨lf_keep.rf σ, fun _ _ => rfl⟩
theorem s_listFace_bok {σ : CS} (h : bok σ) {c f : Nat} (hc : c < 60) (hf : f < 60) : bok (s_listFace σ c f) := by
  unfold s_listFace
  split
  · exact h
  · split
    · rename_i hp
      obtain ⟨h1, h2, h3, h4, h5, h6⟩ := h
      refine ⟨h1, h2, h3, fun d hd => ?_, fun j hj => ?_, h6⟩
      · show cs_fst σ d + va_up (cs_fam σ) c (cs_fam σ c + 1) d ≤ 1800
        by_cases e : d = c
        · subst e; rw [va_up_self]; omega
        · rw [va_up_ne _ _ e]; exact h4 d hd
      · show va_up (cs_fls σ) (cs_fst σ c + cs_fam σ c) f j < 60
        by_cases e : j = cs_fst σ c + cs_fam σ c
        · subst e; rw [va_up_self]; exact hf
        · rw [va_up_ne _ _ e]; exact h5 j hj
    · exact h
theorem s_listAll_ok {c d : Nat} (hc : c < 60) (hd : d < 60) : ∀ (n i : Nat) (σ : CS), bok σ → cs_fst σ d + i + n ≤ 1800 → bok (s_listAll c d n i σ) ∧ lf_keep σ (s_listAll c d n i σ) ∧ ∀ x, x ≠ c → cs_fam (s_listAll c d n i σ) x = cs_fam σ x
  | 0, _, σ, h, _ => ⟨h, lf_keep.rf σ, fun _ _ => rfl⟩
  | n + 1, i, σ, h, hi => by
    have hf : s_faceAt σ d i < 60 := h.2.2.2.2.1 _ (by omega)
    obtain ⟨k1, k2⟩ := s_listFace_keep σ c (s_faceAt σ d i)
    have e : cs_fst (s_listFace σ c (s_faceAt σ d i)) = cs_fst σ := k1.2.2.2.2.2.1
    obtain ⟨r1, r2, r3⟩ := s_listAll_ok hc hd n (i + 1) (s_listFace σ c (s_faceAt σ d i)) (s_listFace_bok h hc hf) (by rw [e]; omega)
    exact ⟨r1, k1.tr r2, fun x hx => (r3 x hx).trans (k2 x hx)⟩
theorem s_listFacesOf_ok {σ : CS} {c d : Nat} (h : bok σ) (hc : c < 60) (hd : d < 60) : bok (s_listFacesOf σ c d) ∧ lf_keep σ (s_listFacesOf σ c d) ∧ ∀ x, x ≠ c → cs_fam (s_listFacesOf σ c d) x = cs_fam σ x :=
  s_listAll_ok hc hd _ 0 σ h (by have := h.2.2.2.1 d hd; omega)
/-- Methods.append -/
def m_append (σ : CS) (c : Nat) (x y z : Int32) : CS := cs_mk (cs_n σ) (cs_par σ) (cs_pack σ) (cs_face σ) (cs_abv σ) (cs_fam σ) (cs_fst σ) (cs_fls σ) (cs_own σ) (cs_opt σ) (cs_m σ + 1) (va_up (cs_ow σ) (cs_m σ) c) (upd (cs_nm σ) (cs_m σ) x) (if nI (cs_am σ c) = 0 then va_up (cs_fi σ) c (cs_m σ) else cs_fi σ) (va_up (cs_am σ) c (cs_am σ c + 1)) (upd (cs_si σ) (cs_m σ) y) (upd (cs_ki σ) (cs_m σ) z)
theorem m_append_bok {σ : CS} (h : bok σ) {c : Nat} (hc : c < 60) (hm : cs_m σ < 400) (x y z : Int32) : bok (m_append σ c x y z) := by
  obtain ⟨h1, h2, h3, h4, h5, h6⟩ := h
  refine ⟨⟨h1.1, by show cs_m σ + 1 ≤ 400; omega⟩, fun d hd => ?_, fun m hm' => ?_, h4, h5, h6⟩
  · show (if nI (cs_am σ c) = 0 then va_up (cs_fi σ) c (cs_m σ) else cs_fi σ) d + va_up (cs_am σ) c (cs_am σ c + 1) d ≤ cs_m σ + 1
    have hcb := h2 c hc
    have hdb := h2 d hd
    by_cases e : d = c
    · subst e
      rw [va_up_self]
      split
      · rename_i e0
        have : cs_am σ d = 0 := by
          rcases Nat.eq_zero_or_pos (cs_am σ d) with q | q
          · exact q
          · exact absurd e0 (nI_ne0 q (by omega))
        rw [va_up_self, this]
        omega
      · omega
    · rw [va_up_ne _ _ e]
      split
      · rw [va_up_ne _ _ e]; omega
      · omega
  · show va_up (cs_ow σ) (cs_m σ) c m < 60
    by_cases e : m = cs_m σ
    · subst e; rw [va_up_self]; exact hc
    · rw [va_up_ne _ _ e]; exact h3 m hm'
/-- Classes.append: what stands before its faces are listed, and the whole -/
def s_app0 (σ : CS) (d : Nat) (x : Int32) (b : Bool) : CS := cs_mk (cs_n σ) (va_up (cs_par σ) (cs_n σ) d) (upd (cs_pack σ) (cs_n σ) x) (upd (cs_face σ) (cs_n σ) (bI b)) (vp_updL (cs_abv σ) (cs_n σ) (cs_abv σ d ||| shlL 1 (nI d))) (cs_fam σ) (va_up (cs_fst σ) (cs_n σ) (cs_fst σ (cs_n σ - 1) + cs_fam σ (cs_n σ - 1))) (cs_fls σ) 0 0 (cs_m σ) (cs_ow σ) (cs_nm σ) (cs_fi σ) (cs_am σ) (cs_si σ) (cs_ki σ)
def s_append (σ : CS) (d : Nat) (x : Int32) (b : Bool) : CS := ((cs_n (s_listFacesOf (s_app0 σ d x b) (cs_n σ) d) + 1, (s_listFacesOf (s_app0 σ d x b) (cs_n σ) d).1.2), (s_listFacesOf (s_app0 σ d x b) (cs_n σ) d).2)
theorem s_app0_bok {σ : CS} (h : cok σ) {d : Nat} (hd : d < 60) (hn : cs_n σ < 60) (x : Int32) (b : Bool) : bok (s_app0 σ d x b) := by
  obtain ⟨⟨n1, n2, n3⟩, ⟨h1, h2, h3, h4, h5, h6⟩, h7, h8⟩ := h
  refine ⟨h1, h2, h3, fun c hc => ?_, h5, fun c hc => ?_⟩
  · show va_up (cs_fst σ) (cs_n σ) (cs_fst σ (cs_n σ - 1) + cs_fam σ (cs_n σ - 1)) c + cs_fam σ c ≤ 1800
    by_cases e : c = cs_n σ
    · rw [e, va_up_self, h7 (cs_n σ) (Nat.le_refl _)]
      have := h4 (cs_n σ - 1) (by omega)
      omega
    · rw [va_up_ne _ _ e]; exact h4 c hc
  · show va_up (cs_par σ) (cs_n σ) d c < 60
    by_cases e : c = cs_n σ
    · rw [e, va_up_self]; exact hd
    · rw [va_up_ne _ _ e]; exact h6 c hc
theorem s_append_ok {σ : CS} (h : cok σ) {d : Nat} (hd : d < 60) (hn : cs_n σ < 60) (x : Int32) (b : Bool) : cok (s_append σ d x b) ∧ cs_n (s_append σ d x b) = cs_n σ + 1 ∧ cs_face (s_append σ d x b) = upd (cs_face σ) (cs_n σ) (bI b) := by
  obtain ⟨r1, r2, r3⟩ := s_listFacesOf_ok (s_app0_bok h hd hn x b) hn hd
  obtain ⟨k1, k2, k3, k4, k5, k6, k7, k8, k9⟩ := r2
  have en : cs_n (s_append σ d x b) = cs_n σ + 1 := by
    show cs_n (s_listFacesOf (s_app0 σ d x b) (cs_n σ) d) + 1 = cs_n σ + 1
    rw [k1]
    rfl
  obtain ⟨⟨n1, n2, n3⟩, hb, h7, h8⟩ := h
  obtain ⟨h1, h2, h3, h4, h5, h6⟩ := r1
  have em : cs_m (s_append σ d x b) = cs_m σ := by
    show (s_listFacesOf (s_app0 σ d x b) (cs_n σ) d).2.2.1 = cs_m σ
    rw [k9]
    rfl
  refine ⟨⟨⟨by omega, by omega, by omega⟩, ⟨⟨by omega, by omega⟩, h2, h3, h4, h5, h6⟩, fun c hc => ?_, ?_⟩, en, k4⟩
  · show cs_fam (s_listFacesOf (s_app0 σ d x b) (cs_n σ) d) c = 0
    rw [r3 c (by omega)]
    exact h7 c (by omega)
  · rw [en]
    show cs_fst (s_listFacesOf (s_app0 σ d x b) (cs_n σ) d) (cs_n σ + 1 - 1) + cs_opt (s_listFacesOf (s_app0 σ d x b) (cs_n σ) d) ≤ 1800
    rw [k8]
    have := h4 (cs_n σ) hn
    show cs_fst (s_listFacesOf (s_app0 σ d x b) (cs_n σ) d) (cs_n σ + 1 - 1) + 0 ≤ 1800
    rw [Nat.add_sub_cancel]
    omega
/-- Classes.giveFace -/
def s_give0 (σ : CS) (c f : Nat) : CS := cs_mk (cs_n σ) (cs_par σ) (cs_pack σ) (cs_face σ) (vp_updL (cs_abv σ) c (cs_abv σ c ||| (cs_abv σ f ||| shlL 1 (nI f)))) (va_up (cs_fam σ) c (cs_opt σ)) (cs_fst σ) (cs_fls σ) (cs_own σ ||| shlL 1 (nI f)) (cs_opt σ) (cs_m σ) (cs_ow σ) (cs_nm σ) (cs_fi σ) (cs_am σ) (cs_si σ) (cs_ki σ)
def s_give1 (σ : CS) (c f : Nat) : CS := s_listFacesOf (s_listFace (s_give0 σ c f) c f) c f
def s_give2 (τ : CS) (c : Nat) : CS := (τ.1, (cs_fam τ, cs_fst τ, cs_fls τ, cs_own τ, cs_fam τ c), τ.2.2)
def s_giveFace (σ : CS) (c f : Nat) : CS := s_listFacesOf (s_give2 (s_give1 σ c f) c) c (cs_par (s_give2 (s_give1 σ c f) c) c)
theorem s_give0_bok {σ : CS} (h : cok σ) {c f : Nat} (hc : c = cs_n σ - 1) : bok (s_give0 σ c f) := by
  obtain ⟨⟨n1, n2, n3⟩, ⟨h1, h2, h3, h4, h5, h6⟩, h7, h8⟩ := h
  refine ⟨h1, h2, h3, fun d hd => ?_, h5, h6⟩
  show cs_fst σ d + va_up (cs_fam σ) c (cs_opt σ) d ≤ 1800
  by_cases e : d = c
  · rw [e, va_up_self, hc]; exact h8
  · rw [va_up_ne _ _ e]; exact h4 d hd
theorem s_give1_ok {σ : CS} (h : cok σ) {c f : Nat} (hc : c = cs_n σ - 1) (hf : f < 60) : bok (s_give1 σ c f) ∧ lf_keep (s_give0 σ c f) (s_give1 σ c f) ∧ ∀ x, x ≠ c → cs_fam (s_give1 σ c f) x = cs_fam σ x := by
  have hc6 : c < 60 := by have := h.1; omega
  obtain ⟨k1, k2⟩ := s_listFace_keep (s_give0 σ c f) c f
  obtain ⟨r1, r2, r3⟩ := s_listFacesOf_ok (d := f) (s_listFace_bok (f := f) (s_give0_bok (f := f) h hc) hc6 hf) hc6 hf
  exact ⟨r1, k1.tr r2, fun x hx => (r3 x hx).trans ((k2 x hx).trans (by show va_up (cs_fam σ) c (cs_opt σ) x = _; rw [va_up_ne _ _ hx]))⟩
theorem s_give2_bok {τ : CS} (h : bok τ) (c : Nat) : bok (s_give2 τ c) := h
theorem s_giveFace_ok {σ : CS} (h : cok σ) {c f : Nat} (hc : c = cs_n σ - 1) (hf : f < 60) : cok (s_giveFace σ c f) ∧ cs_n (s_giveFace σ c f) = cs_n σ ∧ cs_face (s_giveFace σ c f) = cs_face σ ∧ cs_own (s_giveFace σ c f) = (cs_own σ ||| shlL 1 (nI f)) ∧ (s_giveFace σ c f).2.2 = σ.2.2 := by
  have hc6 : c < 60 := by have := h.1; omega
  obtain ⟨r1, r2, r3⟩ := s_give1_ok h hc hf
  have hp : cs_par (s_give2 (s_give1 σ c f) c) c < 60 := r1.2.2.2.2.2 c hc6
  obtain ⟨q1, q2, q3⟩ := s_listFacesOf_ok (d := cs_par (s_give2 (s_give1 σ c f) c) c) (s_give2_bok r1 c) hc6 hp
  obtain ⟨k1, k2, k3, k4, k5, k6, k7, k8, k9⟩ := r2
  obtain ⟨j1, j2, j3, j4, j5, j6, j7, j8, j9⟩ := q2
  have en : cs_n (s_giveFace σ c f) = cs_n σ := j1.trans k1
  have em : (s_giveFace σ c f).2.2 = σ.2.2 := j9.trans k9
  obtain ⟨⟨n1, n2, n3⟩, hb, h7, h8⟩ := h
  have em1 : cs_m (s_giveFace σ c f) = cs_m σ := congrArg (fun z => z.1) em
  refine ⟨⟨⟨by omega, by omega, by omega⟩, q1, fun x hx => ?_, ?_⟩, en, j4.trans k4, j7.trans k7, em⟩
  · have hxc : x ≠ c := by omega
    have e1 : cs_fam (s_giveFace σ c f) x = cs_fam (s_give2 (s_give1 σ c f) c) x := q3 x hxc
    rw [e1]
    show cs_fam (s_give1 σ c f) x = 0
    rw [r3 x hxc]
    exact h7 x (by omega)
  · rw [en, ← hc]
    have e1 : cs_fst (s_giveFace σ c f) c = cs_fst (s_give1 σ c f) c := congrFun j6 c
    have e2 : cs_opt (s_giveFace σ c f) = cs_fam (s_give1 σ c f) c := j8
    rw [e1, e2]
    exact r1.2.2.2.1 c hc6
/-- Long.bitCount, as the JDK has it -/
def bc1 (w : Int64) : Int64 := w - (ushL w (nI 1) &&& 6148914691236517205)
def bc2 (w : Int64) : Int64 := (w &&& 3689348814741910323) + (ushL w (nI 2) &&& 3689348814741910323)
def bc3 (w : Int64) : Int64 := (w + ushL w (nI 4)) &&& 1085102592571150095
def bc4 (w : Int64) : Int64 := w + ushL w (nI 8)
def bc5 (w : Int64) : Int64 := w + ushL w (nI 16)
def bc6 (w : Int64) : Int64 := w + ushL w (nI 32)
def j_bits (w : Int64) : Int32 := (bc6 (bc5 (bc4 (bc3 (bc2 (bc1 w)))))).toInt32 &&& nI 127
