/-! one object's fields change: what stays of the picture -/
theorem isAL_up {f : Nat → va_E} {a ci : Nat} {fs fs' : List Value} (hf : f a = .inr (ci, fs)) (hc : ci ≠ 0) (b : Nat) : isAL (va_up f a (.inr (ci, fs'))) b ↔ isAL f b := by
  by_cases e : b = a
  · subst e
    constructor
    · rintro ⟨gs, h⟩
      rw [va_up_self] at h
      have h2 := congrArg (fun z => match z with | Sum.inr q => q.1 | Sum.inl _ => 9) h
      exact absurd h2 hc
    · rintro ⟨gs, h⟩
      rw [hf] at h
      have h2 := congrArg (fun z => match z with | Sum.inr q => q.1 | Sum.inl _ => 9) h
      exact absurd h2 hc
  · unfold isAL
    rw [va_up_ne _ _ e]
theorem mobj_up {L : List Nat} {f : Nat → va_E} {a ci y : Nat} {fs fs' : List Value} (hf : f a = .inr (ci, fs)) (h : mobj L f y) : mobj L (va_up f a (.inr (ci, fs'))) y := by
  obtain ⟨h1, cj, gs, h2, h3⟩ := h
  by_cases e : y = a
  · subst e
    rw [hf] at h2
    have h4 : ci = cj := congrArg (fun z => match z with | Sum.inr q => q.1 | Sum.inl _ => 9) h2
    exact ⟨h1, ci, fs', va_up_self _ _ _, by rw [h4]; exact h3⟩
  · exact ⟨h1, cj, gs, by rw [va_up_ne _ _ e]; exact h2, h3⟩
theorem LY.obj {e0 : Nat} {cO : ClassId} {L : List Nat} {f : Nat → va_E} {s : LSt} (h : LY e0 cO L f s) {a ci : Nat} {fs fs' : List Value} (hf : f a = .inr (ci, fs)) (hc : ci ≠ 0) : LY e0 cO L (va_up f a (.inr (ci, fs'))) s := by
  obtain ⟨h0, h1, h2⟩ := h
  refine ⟨h0, fun b hb hal => ?_, fun b b' hb hb' hal hal' e1 e2 => h2 b b' hb hb' ((isAL_up hf hc b).mp hal) ((isAL_up hf hc b').mp hal') e1 e2⟩
  have hal0 := (isAL_up hf hc b).mp hal
  obtain ⟨⟨mc, q1⟩, q2, q3⟩ := h1 b hb hal0
  have hba : b ≠ a := fun e => by
    rw [e, hf] at q1
    have h4 : ci = 0 := congrArg (fun z => match z with | Sum.inr q => q.1 | Sum.inl _ => 9) q1
    exact hc h4
  refine ⟨⟨mc, by rw [va_up_ne _ _ hba]; exact q1⟩, ?_, fun i hi => mobj_up hf (q3 i hi)⟩
  rcases q2 with q2 | ⟨p1, p2, p3, p4, g, p5, p6⟩
  · exact Or.inl q2
  · refine Or.inr ⟨p1, p2, p3, p4, g, ?_, p6⟩
    rw [va_up_ne _ _ (fun e => by rw [e, hf] at p5; cases p5)]
    exact p5
def mt_setmk (τ : MT) (g : Nat → Int32) : MT := ((τ.1.1, τ.1.2.1, τ.1.2.2.1, τ.1.2.2.2.1, τ.1.2.2.2.2.1, τ.1.2.2.2.2.2.1, (mt_pt τ, g), τ.1.2.2.2.2.2.2.2), τ.2)
def mt_setpt (τ : MT) (g : Nat → Int32) : MT := ((τ.1.1, τ.1.2.1, τ.1.2.2.1, τ.1.2.2.2.1, τ.1.2.2.2.2.1, τ.1.2.2.2.2.2.1, (g, mt_mk τ), τ.1.2.2.2.2.2.2.2), τ.2)
def mt_setmark (τ : MT) (m : Int32) : MT := (τ.1, τ.2.1, (mt_x τ, mt_c τ, mt_m τ, m), τ.2.2.2)
section MU
variable {e0 : Nat} {cO : ClassId} {L : List Nat} {f : Nat → va_E} {τ : MT}
theorem MI.ca_inj (h : MI e0 cO L f τ) {i j : Nat} (hi : i < mt_n τ) (hj : j < mt_n τ) (e : mt_ca τ i = mt_ca τ j) : i = j := by
  have h1 := (h.cl hi).2.1
  have h2 := (h.cl hj).2.1
  rw [e, h2] at h1
  have h3 := congrArg (fun z => match z with | Sum.inr q => q.2.headD .null | Sum.inl _ => Value.null) h1
  have h4 : nI j = nI i := Value.int.inj h3
  have hb := h.b
  exact ((nI_eq (by omega) (by omega)).mp h4).symm
theorem MI.xca (h : MI e0 cO L f τ) {i : Nat} (hi : i < mt_n τ) : mt_x τ ≠ mt_ca τ i := cell_ne h.x.2 (h.cl hi).2.1 (by intro e; cases e)
theorem MI.jca (h : MI e0 cO L f τ) {i j : Nat} (hi : i < mt_n τ) (hj : j < mt_mn τ) : mt_ja τ j ≠ mt_ca τ i := cell_ne (h.me hj).2.1 (h.cl hi).2.1 (by intro e; cases e)
theorem MI.jx (h : MI e0 cO L f τ) {j : Nat} (hj : j < mt_mn τ) : mt_ja τ j ≠ mt_x τ := cell_ne (h.me hj).2.1 h.x.2 (by intro e; cases e)
theorem MI.setmk (h : MI e0 cO L f τ) {i : Nat} (hi : i < mt_n τ) (m : Int32) : MI e0 cO L (va_up f (mt_ca τ i) (ccell i (mt_pk τ i) ((mt_pr τ i).map (mt_ca τ)) (mt_fc τ i) (mt_fa τ i) (mt_ma τ i) (mt_aa τ i) (mt_pt τ i) m)) (mt_setmk τ (va_up (mt_mk τ) i m)) := by
  have hf := (h.cl hi).2.1
  have H := h
  obtain ⟨h1, h2, h3, h4, h5, h6, h7⟩ := h
  refine ⟨h1.obj hf (by decide), ⟨h2.1, (va_up_ne _ _ (H.xca hi)).trans h2.2⟩, h3, fun j hj => ?_, fun j hj => ?_, fun k hk => ⟨(h6 k hk).1, (isAL_up hf (by decide) _).mpr (h6 k hk).2⟩, h7⟩
  · obtain ⟨q1, q2, q3⟩ := h4 j hj
    refine ⟨q1, ?_, q3⟩
    by_cases e : j = i
    · subst e
      show va_up f (mt_ca τ j) _ (mt_ca τ j) = ccell j (mt_pk τ j) ((mt_pr τ j).map (mt_ca τ)) (mt_fc τ j) (mt_fa τ j) (mt_ma τ j) (mt_aa τ j) (mt_pt τ j) (va_up (mt_mk τ) j m j)
      rw [va_up_self, va_up_self]
    · show va_up f (mt_ca τ i) _ (mt_ca τ j) = ccell j (mt_pk τ j) ((mt_pr τ j).map (mt_ca τ)) (mt_fc τ j) (mt_fa τ j) (mt_ma τ j) (mt_aa τ j) (mt_pt τ j) (va_up (mt_mk τ) i m j)
      rw [va_up_ne _ _ (fun e2 => e (H.ca_inj hj hi e2)), va_up_ne _ _ e]
      exact q2
  · obtain ⟨q1, q2, q3⟩ := h5 j hj
    exact ⟨q1, (va_up_ne _ _ (H.jca hi hj)).trans q2, q3⟩
theorem MI.setpt (h : MI e0 cO L f τ) {i : Nat} (hi : i < mt_n τ) (m : Int32) : MI e0 cO L (va_up f (mt_ca τ i) (ccell i (mt_pk τ i) ((mt_pr τ i).map (mt_ca τ)) (mt_fc τ i) (mt_fa τ i) (mt_ma τ i) (mt_aa τ i) m (mt_mk τ i))) (mt_setpt τ (va_up (mt_pt τ) i m)) := by
  have hf := (h.cl hi).2.1
  have H := h
  obtain ⟨h1, h2, h3, h4, h5, h6, h7⟩ := h
  refine ⟨h1.obj hf (by decide), ⟨h2.1, (va_up_ne _ _ (H.xca hi)).trans h2.2⟩, h3, fun j hj => ?_, fun j hj => ?_, fun k hk => ⟨(h6 k hk).1, (isAL_up hf (by decide) _).mpr (h6 k hk).2⟩, h7⟩
  · obtain ⟨q1, q2, q3⟩ := h4 j hj
    refine ⟨q1, ?_, q3⟩
    by_cases e : j = i
    · subst e
      show va_up f (mt_ca τ j) _ (mt_ca τ j) = ccell j (mt_pk τ j) ((mt_pr τ j).map (mt_ca τ)) (mt_fc τ j) (mt_fa τ j) (mt_ma τ j) (mt_aa τ j) (va_up (mt_pt τ) j m j) (mt_mk τ j)
      rw [va_up_self, va_up_self]
    · show va_up f (mt_ca τ i) _ (mt_ca τ j) = ccell j (mt_pk τ j) ((mt_pr τ j).map (mt_ca τ)) (mt_fc τ j) (mt_fa τ j) (mt_ma τ j) (mt_aa τ j) (va_up (mt_pt τ) i m j) (mt_mk τ j)
      rw [va_up_ne _ _ (fun e2 => e (H.ca_inj hj hi e2)), va_up_ne _ _ e]
      exact q2
  · obtain ⟨q1, q2, q3⟩ := h5 j hj
    exact ⟨q1, (va_up_ne _ _ (H.jca hi hj)).trans q2, q3⟩
theorem MI.setmark (h : MI e0 cO L f τ) (m : Int32) : MI e0 cO L (va_up f (mt_x τ) (xcell (mt_c τ) (mt_m τ) m)) (mt_setmark τ m) := by
  have hf := h.x.2
  have H := h
  obtain ⟨h1, h2, h3, h4, h5, h6, h7⟩ := h
  refine ⟨h1.obj hf (by decide), ⟨h2.1, va_up_self _ _ _⟩, h3, fun j hj => ?_, fun j hj => ?_, fun k hk => ⟨(h6 k hk).1, (isAL_up hf (by decide) _).mpr (h6 k hk).2⟩, h7⟩
  · obtain ⟨q1, q2, q3⟩ := h4 j hj
    exact ⟨q1, (va_up_ne _ _ (fun e => H.xca hj e.symm)).trans q2, q3⟩
  · obtain ⟨q1, q2, q3⟩ := h5 j hj
    exact ⟨q1, (va_up_ne _ _ (H.jx hj)).trans q2, q3⟩
end MU
/-- leadsTo, as it marks -/
def t_lf (F : Nat → (Nat → Int32) → Bool × (Nat → Int32)) (fl : Nat → Nat) : Nat → Nat → (Nat → Int32) → Bool × (Nat → Int32)
  | 0, _, km => (false, km)
  | n + 1, j, km => if (F (fl j) km).1 = true then (true, (F (fl j) km).2) else t_lf F fl n (j + 1) (F (fl j) km).2
def t_lead (τ : MT) (k : Nat) : Nat → Nat → (Nat → Int32) → Bool × (Nat → Int32)
  | 0, _, km => (false, km)
  | n + 1, c, km => if mt_ca τ c = mt_ca τ k then (true, km) else if km c = mt_mark τ ∨ ¬ nI k ≤ nI c then (false, km) else
    match mt_pr τ c with
    | none => t_lf (t_lead τ k n) (mt_fl τ c) (mt_cnt τ (mt_fa τ c)) 0 (va_up km c (mt_mark τ))
    | some p => if (t_lead τ k n p (va_up km c (mt_mark τ))).1 = true then (true, (t_lead τ k n p (va_up km c (mt_mark τ))).2) else t_lf (t_lead τ k n) (mt_fl τ c) (mt_cnt τ (mt_fa τ c)) 0 (t_lead τ k n p (va_up km c (mt_mark τ))).2
