/-! the layer of lists: where each ArrayList's data lies, how many elements it has, its room, what they are -/
abbrev LSt : Type := (Nat → Nat) × (Nat → Nat) × (Nat → Nat) × (Nat → Nat → Nat)
abbrev ls_dat (s : LSt) : Nat → Nat := s.1
abbrev ls_cnt (s : LSt) : Nat → Nat := s.2.1
abbrev ls_cap (s : LSt) : Nat → Nat := s.2.2.1
abbrev ls_con (s : LSt) : Nat → Nat → Nat := s.2.2.2
def isAL (f : Nat → va_E) (b : Nat) : Prop := ∃ fs, f b = .inr (0, fs)
/-- what the next growth of a list takes -/
def ls_grow (s : LSt) (b : Nat) : Nat := if ls_cap s b = 0 then 10 else ls_cap s b + ls_cap s b / 2
def LY (e0 : Nat) (cO : ClassId) (L : List Nat) (f : Nat → va_E) (s : LSt) : Prop :=
  e0 ∉ L ∧
  (∀ b, b ∈ L → isAL f b → (∃ mc, f b = alc mc (ls_dat s b) (ls_cnt s b)) ∧ ((ls_dat s b = e0 ∧ ls_cnt s b = 0 ∧ ls_cap s b = 0) ∨ (ls_dat s b ∈ L ∧ 2 ≤ ls_cap s b ∧ ls_cap s b ≤ 600 ∧ ls_cnt s b ≤ ls_cap s b ∧ ∃ g, f (ls_dat s b) = refs (ls_cap s b) g cO ∧ ∀ i, i < ls_cnt s b → g i = some (ls_con s b i))) ∧ ∀ i, i < ls_cnt s b → mobj L f (ls_con s b i)) ∧
  (∀ b b', b ∈ L → b' ∈ L → isAL f b → isAL f b' → ls_dat s b = ls_dat s b' → ls_dat s b ≠ e0 → b = b')
theorem LY.raw {e0 : Nat} {cO : ClassId} {L : List Nat} {f : Nat → va_E} {s : LSt} (h : LY e0 cO L f s) {b : Nat} (hb : b ∈ L) (hl : isAL f b) : ∃ (mc : Int32) (g : Nat → Option Nat), f b = alc mc (ls_dat s b) (ls_cnt s b) ∧ alG e0 cO L f (ls_dat s b) (ls_cnt s b) (ls_cap s b) (ls_grow s b) g ∧ ∀ i, i < ls_cnt s b → g i = some (ls_con s b i) := by
  obtain ⟨⟨mc, h1⟩, h2, h3⟩ := h.2.1 b hb hl
  rcases h2 with ⟨h4, h5, h6⟩ | ⟨h4, h5, h6, h7, g, h8, h9⟩
  · exact ⟨mc, fun _ => none, h1, Or.inl ⟨h4, h5, h6, by simp [ls_grow, h6]⟩, fun i hi => absurd hi (by omega)⟩
  · refine ⟨mc, g, h1, Or.inr ⟨h4, h8, h5, by omega, h7, by rw [ls_grow, if_neg (by omega)], fun i hi y hy => ?_⟩, h9⟩
    have e := (h9 i hi).symm.trans hy
    rw [← Option.some.inj e]
    exact h3 i hi
def ls_add (s : LSt) (b x d2 n2 : Nat) : LSt := (va_up (ls_dat s) b d2, va_up (ls_cnt s) b (ls_cnt s b + 1), va_up (ls_cap s) b n2, va_up (ls_con s) b (va_up (ls_con s b) (ls_cnt s b) x))
theorem LY.add {e0 : Nat} {cO : ClassId} {L : List Nat} {f : Nat → va_E} {s : LSt} (h : LY e0 cO L f s) {b x sz : Nat} {mc mc0 : Int32} {g : Nat → Option Nat} {u : PS} (hb : b ∈ L) (hf : f b = alc mc0 (ls_dat s b) (ls_cnt s b)) (hg : ∀ i, i < ls_cnt s b → g i = some (ls_con s b i)) (hx : mobj L f x) (he : e0 < sz) (hp : pext L sz u.1) (hk : ls_cnt s b < 400) (hu : alPost cO L f b (ls_dat s b) (ls_cnt s b) (ls_cap s b) (ls_grow s b) g mc x u) : ∃ d2 n2, LY e0 cO u.1 u.2 (ls_add s b x d2 n2) ∧ ((n2 = ls_cap s b ∧ ls_cnt s b < ls_cap s b) ∨ (n2 = ls_grow s b ∧ ls_cnt s b = ls_cap s b)) ∧ (∀ y, y ∈ L → ¬ isAL f y → (∀ n g, f y ≠ refs n g cO) → u.2 y = f y) ∧ (∀ y, y ∈ u.1 → isAL u.2 y → y ∈ L ∧ isAL f y) := by
  obtain ⟨d2, n2, g2, hL, ha, hd, hc, h1, h2, h3⟩ := hu
  have hal : isAL f b := ⟨_, hf⟩
  obtain ⟨H0, H1, H2⟩ := h
  have hsub : ∀ y, y ∈ L → y ∈ u.1 := fun y hy => hp.mem hy
  -- where d2 lies
  have hd2 : d2 ∈ u.1 := by
    rcases hL with ⟨e1, e2, -, e4⟩ | ⟨e1, -⟩
    · rw [e1, e2]; exact e4
    · rw [e1]; exact List.mem_append_right _ (List.mem_singleton.mpr rfl)
  have hd2e : d2 ≠ e0 := by
    rcases hL with ⟨-, e2, -, e4⟩ | ⟨e1, e2, -, -⟩
    · rw [e2]; exact fun q => H0 (q ▸ e4)
    · intro q
      have hq := hp.in hd2
      rcases hq with hq | hq
      · exact e2 hq
      · omega
  have inL : ∀ y, y ∈ u.1 → y ≠ d2 → y ∈ L := by
    intro y hy hne
    rcases hL with ⟨e1, -⟩ | ⟨e1, -⟩
    · rw [e1] at hy; exact hy
    · rw [e1] at hy
      rcases List.mem_append.mp hy with q | q
      · exact q
      · exact absurd (List.mem_singleton.mp q) hne
  have ald : ∀ y, isAL u.2 y → y ≠ d2 := by
    intro y ⟨fs, hy⟩ e
    rw [e, hd] at hy
    cases hy
  -- an old cell that is d2 is the list's own data
  have old : ∀ y, y ∈ L → y = d2 → y = ls_dat s b ∧ ls_dat s b ≠ e0 := by
    intro y hy e
    rcases hL with ⟨-, e2, -, e4⟩ | ⟨-, e2, -, -⟩
    · exact ⟨e.trans e2, fun q => H0 (q ▸ e4)⟩
    · exact absurd (e ▸ hy) e2
  have arr : ls_dat s b ≠ e0 → ∃ n g, f (ls_dat s b) = refs n g cO := by
    intro hne
    rcases (H1 b hb hal).2.1 with ⟨q, -⟩ | ⟨-, -, -, -, g, q, -⟩
    · exact absurd q hne
    · exact ⟨_, g, q⟩
  have keep : ∀ y, y ∈ L → y ≠ b → (∀ n g, f y ≠ refs n g cO) → u.2 y = f y := by
    intro y hy hyb hna
    refine h3 y hyb (fun e => ?_)
    obtain ⟨e1, e2⟩ := old y hy e
    obtain ⟨n, g, q⟩ := arr e2
    exact hna n g (by rw [e1]; exact q)
  have mo : ∀ y, mobj L f y → mobj u.1 u.2 y := by
    intro y hy
    obtain ⟨q1, ci, fs, q2, q3⟩ := id hy
    refine ⟨hsub y q1, ci, fs, ?_, q3⟩
    rw [keep y q1 (hy.neal hf) (fun n g q => hy.nearr q rfl)]
    exact q2
  have back : ∀ y, y ∈ u.1 → isAL u.2 y → y ∈ L ∧ isAL f y := by
    intro y hy hal2
    have hyL := inL y hy (ald y hal2)
    by_cases e : y = b
    · rw [e]; exact ⟨hb, hal⟩
    · obtain ⟨fs, q⟩ := hal2
      rw [h3 y e (ald y ⟨fs, q⟩)] at q
      exact ⟨hyL, fs, q⟩
  have n2ok : 2 ≤ n2 ∧ n2 ≤ 600 ∧ ((n2 = ls_cap s b ∧ ls_cnt s b < ls_cap s b) ∨ (n2 = ls_grow s b ∧ ls_cnt s b = ls_cap s b)) := by
    rcases hL with ⟨-, -, e3, e4⟩ | ⟨-, -, e3, e5⟩
    · rcases (H1 b hb hal).2.1 with ⟨q, -⟩ | ⟨-, q1, q2, -⟩
      · exact absurd (q ▸ e4) H0
      · exact ⟨by omega, by omega, Or.inl ⟨e3, by omega⟩⟩
    · refine ⟨?_, ?_, Or.inr ⟨e3, e5⟩⟩
      · rw [e3]
        unfold ls_grow
        split
        · omega
        · rcases (H1 b hb hal).2.1 with ⟨-, -, q⟩ | ⟨-, q1, -⟩
          · omega
          · omega
      · rw [e3]
        unfold ls_grow
        split
        · omega
        · omega
  refine ⟨d2, n2, ⟨fun q => ?_, fun y hy hal2 => ?_, fun y y' hy hy' ha1 ha2 e1 e2 => ?_⟩, n2ok.2.2, fun y hy hna hnr => keep y hy (fun e => hna (e ▸ hal)) hnr, back⟩
  · exact H0 (inL e0 q (fun e => hd2e e.symm))
  · obtain ⟨hyL, hyA⟩ := back y hy hal2
    by_cases e : y = b
    · subst e
      simp only [ls_add, ls_dat, ls_cnt, ls_cap, ls_con, va_up_self]
      refine ⟨⟨mc, ha⟩, Or.inr ⟨hd2, n2ok.1, n2ok.2.1, hc, g2, hd, fun i hi => ?_⟩, fun i hi => ?_⟩
      · have hi2 : i < ls_cnt s y + 1 := hi
        by_cases ei : i = ls_cnt s y
        · rw [ei, va_up_self]; exact h2
        · rw [va_up_ne _ _ ei]
          exact (h1 i (by omega)).trans (hg i (by omega))
      · have hi2 : i < ls_cnt s y + 1 := hi
        by_cases ei : i = ls_cnt s y
        · rw [ei, va_up_self]; exact mo x hx
        · rw [va_up_ne _ _ ei]
          exact mo _ ((H1 y hyL hyA).2.2 i (by omega))
    · obtain ⟨⟨mc1, q1⟩, q2, q3⟩ := H1 y hyL hyA
      simp only [ls_add, ls_dat, ls_cnt, ls_cap, ls_con, va_up_ne _ _ e]
      refine ⟨⟨mc1, by rw [h3 y e (ald y hal2)]; exact q1⟩, ?_, fun i hi => mo _ (q3 i hi)⟩
      rcases q2 with q2 | ⟨p1, p2, p3, p4, g1, p5, p6⟩
      · exact Or.inl q2
      · refine Or.inr ⟨hsub _ p1, p2, p3, p4, g1, ?_, p6⟩
        have n1 : s.1 y ≠ b := fun z => by rw [show ls_dat s y = b from z, hf] at p5; cases p5
        have n2' : s.1 y ≠ d2 := fun z => by
          obtain ⟨z1, z2⟩ := old _ p1 z
          exact e (H2 y b hyL hb hyA hal z1 (by rw [z1]; exact z2))
        rw [h3 _ n1 n2']
        exact p5
  · obtain ⟨yL, yA⟩ := back y hy ha1
    obtain ⟨yL', yA'⟩ := back y' hy' ha2
    by_cases e : y = b
    · by_cases e' : y' = b
      · rw [e, e']
      · subst e
        simp only [ls_add, ls_dat, va_up_self, va_up_ne _ _ e'] at e1
        have p1 : ls_dat s y' ∈ L ∨ ls_dat s y' = e0 := by
          rcases (H1 y' yL' yA').2.1 with ⟨q, -⟩ | ⟨q, -⟩
          · exact Or.inr q
          · exact Or.inl q
        rcases p1 with p1 | p1
        · obtain ⟨z1, z2⟩ := old _ p1 e1.symm
          exact (H2 y' y yL' hb yA' hal z1 (by rw [z1]; exact z2)).symm
        · exact absurd (e1.trans p1) hd2e
    · by_cases e' : y' = b
      · subst e'
        simp only [ls_add, ls_dat, va_up_self, va_up_ne _ _ e] at e1
        have p1 : ls_dat s y ∈ L ∨ ls_dat s y = e0 := by
          rcases (H1 y yL yA).2.1 with ⟨q, -⟩ | ⟨q, -⟩
          · exact Or.inr q
          · exact Or.inl q
        rcases p1 with p1 | p1
        · obtain ⟨z1, z2⟩ := old _ p1 e1
          exact H2 y y' yL hb yA hal z1 (by rw [z1]; exact z2)
        · exact absurd (e1.symm.trans p1) hd2e
      · simp only [ls_add, ls_dat, va_up_ne _ _ e, va_up_ne _ _ e'] at e1 e2
        exact H2 y y' yL yL' yA yA' e1 e2
