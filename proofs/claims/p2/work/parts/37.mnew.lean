section MNEW
variable {e0 : Nat} {cO : ClassId} {L : List Nat} {f : Nat → va_E} {τ : MT}
theorem MI.cAL (h : MI e0 cO L f τ) : ∃ mc d, f (mt_c τ) = alc mc d (mt_n τ) := by
  obtain ⟨mc, g, h1, -⟩ := h.ly.raw h.c.1 h.c.2
  exact ⟨mc, _, by rw [h1, show ls_cnt (mt_ls τ) (mt_c τ) = mt_n τ from h.cs.1]⟩
theorem MI.faAL (h : MI e0 cO L f τ) {i : Nat} (hi : i < mt_n τ) : ∃ mc d, f (mt_fa τ i) = alc mc d (mt_cnt τ (mt_fa τ i)) := by
  obtain ⟨mc, g, h1, -⟩ := h.ly.raw (h.fa hi).1 (h.fa hi).2
  exact ⟨mc, _, h1⟩
theorem ls_grow_le {s : LSt} {b K : Nat} (h : ls_cnt s b < K) (hK : 10 ≤ K) : ls_cnt s b = ls_cap s b → ls_grow s b ≤ K + K / 2 := by
  intro e
  unfold ls_grow
  split
  · omega
  · omega
/-- the cells of a new class -/
def ncls (e0 : Nat) (L : List Nat) (f : Nat → va_E) (τ : MT) (q l1 l2 l3 : Nat) (pk : Int32) (pr : Option Nat) (fc : Int32) (f' : Nat → va_E) : Prop :=
  (q ∉ L ∧ l1 ∉ L ++ [q] ∧ l2 ∉ L ++ [q] ++ [l1] ∧ l3 ∉ L ++ [q] ++ [l1] ++ [l2]) ∧ (q ≠ e0 ∧ l1 ≠ e0 ∧ l2 ≠ e0 ∧ l3 ≠ e0) ∧ f' q = ccell (mt_n τ) pk (pr.map (mt_ca τ)) fc l1 l2 l3 (-1) 0 ∧ (∃ mc, f' l1 = alc mc e0 0) ∧ (∃ mc, f' l2 = alc mc e0 0) ∧ (∃ mc, f' l3 = alc mc e0 0) ∧ ∀ y, y ∈ L → f' y = f y
theorem MI.newC {q l1 l2 l3 : Nat} {pk : Int32} {pr : Option Nat} {fc : Int32} {f' : Nat → va_E} (h : MI e0 cO L f τ) (hN : ncls e0 L f τ q l1 l2 l3 pk pr fc f') : MI e0 cO (L ++ [q] ++ [l1] ++ [l2] ++ [l3]) f' (mt_setls τ (ls_ext (mt_ls τ) [q, l1, l2, l3] e0)) := by
  obtain ⟨⟨n0, n1, n2, n3⟩, ⟨m0, m1, m2, m3⟩, h0, h1, h2, h3, hr⟩ := hN
  simp only [List.mem_append, List.mem_singleton, not_or] at n1 n2 n3
  have := h.ext (E := [q, l1, l2, l3]) (f' := f') (fun y hy => by
    simp only [List.mem_cons, List.not_mem_nil, or_false] at hy
    rcases hy with e | e | e | e
    · rw [e]; exact ⟨n0, m0⟩
    · rw [e]; exact ⟨n1.1, m1⟩
    · rw [e]; exact ⟨n2.1.1, m2⟩
    · rw [e]; exact ⟨n3.1.1.1, m3⟩) hr (fun y hy hA => by
    simp only [List.mem_cons, List.not_mem_nil, or_false] at hy
    rcases hy with e | e | e | e
    · obtain ⟨fs, hA⟩ := hA
      rw [e, h0] at hA
      cases hA
    · rw [e]; exact h1
    · rw [e]; exact h2
    · rw [e]; exact h3)
  simpa only [List.append_assoc, List.cons_append, List.nil_append] using this
theorem MI.addC3 {q l1 l2 l3 : Nat} {pk : Int32} {pr : Option Nat} {fc : Int32} {f' : Nat → va_E} (h : MI e0 cO L f τ) (hn : mt_n τ < 60) (hN : ncls e0 L f τ q l1 l2 l3 pk pr fc f') (hpr : ∀ p, pr = some p → p < mt_n τ) {sz : Nat} {mc mc0 : Int32} {g : Nat → Option Nat} {u : PS} (hf : f' (mt_c τ) = alc mc0 (ls_dat (ls_ext (mt_ls τ) [q, l1, l2, l3] e0) (mt_c τ)) (ls_cnt (ls_ext (mt_ls τ) [q, l1, l2, l3] e0) (mt_c τ))) (hg : ∀ j, j < ls_cnt (ls_ext (mt_ls τ) [q, l1, l2, l3] e0) (mt_c τ) → g j = some (ls_con (ls_ext (mt_ls τ) [q, l1, l2, l3] e0) (mt_c τ) j)) (he : e0 < sz) (hp : pext (L ++ [q] ++ [l1] ++ [l2] ++ [l3]) sz u.1) (hu : alPost cO (L ++ [q] ++ [l1] ++ [l2] ++ [l3]) f' (mt_c τ) (ls_dat (ls_ext (mt_ls τ) [q, l1, l2, l3] e0) (mt_c τ)) (ls_cnt (ls_ext (mt_ls τ) [q, l1, l2, l3] e0) (mt_c τ)) (ls_cap (ls_ext (mt_ls τ) [q, l1, l2, l3] e0) (mt_c τ)) (ls_grow (ls_ext (mt_ls τ) [q, l1, l2, l3] e0) (mt_c τ)) g mc q u) : ∃ d2 n2, MI e0 cO u.1 u.2 (mt_setls (mt_addc τ q pk pr fc l1 l2 l3) (ls_add (ls_ext (mt_ls τ) [q, l1, l2, l3] e0) (mt_c τ) q d2 n2)) := by
  have H := h.newC hN
  obtain ⟨⟨n0, n1, n2, n3⟩, ⟨m0, m1, m2, m3⟩, h0, h1, h2, h3, hr⟩ := hN
  have i0 : q ∈ L ++ [q] ++ [l1] ++ [l2] ++ [l3] := by simp
  have i1 : l1 ∈ L ++ [q] ++ [l1] ++ [l2] ++ [l3] := by simp
  have i2 : l2 ∈ L ++ [q] ++ [l1] ++ [l2] ++ [l3] := by simp
  have i3 : l3 ∈ L ++ [q] ++ [l1] ++ [l2] ++ [l3] := by simp
  have a1 : isAL f' l1 := by obtain ⟨mc, q⟩ := h1; exact ⟨_, q⟩
  have a2 : isAL f' l2 := by obtain ⟨mc, q⟩ := h2; exact ⟨_, q⟩
  have a3 : isAL f' l3 := by obtain ⟨mc, q⟩ := h3; exact ⟨_, q⟩
  simp only [List.mem_append, List.mem_singleton, not_or] at n1 n2 n3
  have z : ∀ y, y ∈ [q, l1, l2, l3] → ls_cnt (ls_ext (mt_ls τ) [q, l1, l2, l3] e0) y = 0 := fun y hy => if_pos hy
  exact H.addC (q := q) (l1 := l1) (l2 := l2) (l3 := l3) (pk := pk) (pr := pr) (fc := fc) hn i0 h0 hpr ⟨⟨i1, a1⟩, z l1 (by simp)⟩ ⟨⟨i2, a2⟩, z l2 (by simp)⟩ ⟨⟨i3, a3⟩, z l3 (by simp)⟩ (fun k hk => by
    have hk' := (h.la (k := k) hk).1
    refine ⟨fun e => n1.1 ?_, fun e => n2.1.1 ?_, fun e => n3.1.1.1 ?_⟩
    · rw [← e]; exact hk'
    · rw [← e]; exact hk'
    · rw [← e]; exact hk') (fun e => n2.2 e.symm) (fun e => n3.1.2 e.symm) (fun e => n3.2 e.symm) hf hg he hp hu
/-- a new method's cell -/
theorem MI.newM {q : Nat} {fs : List Value} {f' : Nat → va_E} (h : MI e0 cO L f τ) (hq : q ∉ L ∧ q ≠ e0) (hf : f' q = .inr (5, fs)) (hr : ∀ y, y ∈ L → f' y = f y) : MI e0 cO (L ++ [q]) f' (mt_setls τ (ls_ext (mt_ls τ) [q] e0)) :=
  h.ext (E := [q]) (fun y hy => by rw [List.mem_singleton.mp hy]; exact hq) hr (fun y hy hA => by
    obtain ⟨fs, hA⟩ := hA
    rw [List.mem_singleton.mp hy, hf] at hA
    cases hA)
end MNEW
/-- what the model's add answers -/
def t_addR (τ : MT) (x1 x2 x3 : Int32) : Int32 := match t_ati τ x1 with
  | none => -14
  | some p => if ¬ mt_fc τ p = 0 then -14 else if x2 < 0 ∨ nI 9 < x2 ∨ x3 < 0 ∨ nI 1 < x3 ∨ (x3 = nI 1 ∧ ¬ x1 = 0) then -1 else if nI (mt_n τ) = nI 60 then -12 else nI (mt_n τ)
