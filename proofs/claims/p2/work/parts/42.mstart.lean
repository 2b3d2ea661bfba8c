/-- the picture of a new model -/
def mt_0 (h0 c m q : Nat) (pk fc : Int32) (l1 l2 l3 : Nat) (s : LSt) : MT := ((1, fun _ => q, fun _ => pk, fun _ => none, fun _ => fc, (fun _ => l1, fun _ => l2, fun _ => l3), (fun _ => -1, fun _ => 0), (fun _ _ => 0, fun _ _ => 0, fun _ _ => 0)), (0, fun _ => 0, fun _ => 0, fun _ => 0, fun _ => 0, fun _ => 0, fun _ => 0, fun _ => 0), (h0, c, m, 0), s)
def ls_0 (e0 : Nat) : LSt := (fun _ => e0, fun _ => 0, fun _ => 0, fun _ _ => 0)
theorem MI.start {e0 : Nat} {cO : ClassId} {h0 c m q l1 l2 l3 : Nat} {pk fc mc0 : Int32} {f : Nat → va_E} (hnd : [h0, c, m, q, l1, l2, l3].Nodup) (he : e0 ∉ [h0, c, m, q, l1, l2, l3]) (hx : f h0 = xcell c m 0) (hc : f c = alc mc0 e0 0) (hm : ∃ mc, f m = alc mc e0 0) (h1 : ∃ mc, f l1 = alc mc e0 0) (h2 : ∃ mc, f l2 = alc mc e0 0) (h3 : ∃ mc, f l3 = alc mc e0 0) (hq : f q = ccell 0 pk none fc l1 l2 l3 (-1) 0) {sz : Nat} {mc : Int32} {g : Nat → Option Nat} {u : PS} (hs : e0 < sz) (hp : pext [h0, c, m, q, l1, l2, l3] sz u.1) (hu : alPost cO [h0, c, m, q, l1, l2, l3] f c e0 0 0 10 g mc q u) : ∃ s, MI e0 cO u.1 u.2 (mt_0 h0 c m q pk fc l1 l2 l3 s) := by
  obtain ⟨L, hL⟩ : ∃ z, z = [h0, c, m, q, l1, l2, l3] := ⟨_, rfl⟩
  have i0 : h0 ∈ L := by rw [hL]; simp
  have ic : c ∈ L := by rw [hL]; simp
  have im : m ∈ L := by rw [hL]; simp
  have iq : q ∈ L := by rw [hL]; simp
  have i1 : l1 ∈ L := by rw [hL]; simp
  have i2 : l2 ∈ L := by rw [hL]; simp
  have i3 : l3 ∈ L := by rw [hL]; simp
  have hall : ∀ y, y ∈ L → isAL f y → ∃ mc, f y = alc mc e0 0 := by
    intro y hy ⟨fs, hA⟩
    rw [hL] at hy
    simp only [List.mem_cons, List.not_mem_nil, or_false] at hy
    rcases hy with e | e | e | e | e | e | e
    · rw [e, hx] at hA; cases hA
    · rw [e]; exact ⟨_, hc⟩
    · rw [e]; exact hm
    · rw [e, hq] at hA; cases hA
    · rw [e]; exact h1
    · rw [e]; exact h2
    · rw [e]; exact h3
  rw [← hL] at he hp hu
  have hly : LY e0 cO L f (ls_0 e0) := ⟨he, fun b hb hA => ⟨hall b hb hA, Or.inl ⟨rfl, rfl, rfl⟩, fun i hi => absurd hi (Nat.not_lt_zero _)⟩, fun b b' _ _ _ _ _ e2 => absurd rfl e2⟩
  obtain ⟨d2, n2, a1, -, a3, -⟩ := hly.add (b := c) (x := q) (g := g) ic hc (fun i hi => absurd hi (Nat.not_lt_zero _)) ⟨iq, 4, _, hq, Or.inl rfl⟩ hs hp (show (0 : Nat) < 400 by omega) hu
  have lk : ∀ y, y ∈ L → isAL f y → isAL u.2 y := fun y hy hA => al_keep hly ic ⟨_, hc⟩ hu hy hA
  simp only [List.nodup_cons, List.mem_cons, List.not_mem_nil, or_false, not_or] at hnd
  obtain ⟨n0, nc, nm, nq, n1, n2', -⟩ := hnd
  have am : isAL f m := by obtain ⟨z, e⟩ := hm; exact ⟨_, e⟩
  have a1' : isAL f l1 := by obtain ⟨z, e⟩ := h1; exact ⟨_, e⟩
  have a2' : isAL f l2 := by obtain ⟨z, e⟩ := h2; exact ⟨_, e⟩
  have a3' : isAL f l3 := by obtain ⟨z, e⟩ := h3; exact ⟨_, e⟩
  have zm := ls_add_ne (ls_0 e0) (x := q) (d2 := d2) (n2 := n2) (show m ≠ c from fun e => nc.1 e.symm)
  have z1 := ls_add_ne (ls_0 e0) (x := q) (d2 := d2) (n2 := n2) (show l1 ≠ c from fun e => nc.2.2.1 e.symm)
  have z2 := ls_add_ne (ls_0 e0) (x := q) (d2 := d2) (n2 := n2) (show l2 ≠ c from fun e => nc.2.2.2.1 e.symm)
  have z3 := ls_add_ne (ls_0 e0) (x := q) (d2 := d2) (n2 := n2) (show l3 ≠ c from fun e => nc.2.2.2.2 e.symm)
  have zc := ls_add_self (ls_0 e0) c q d2 n2
  refine ⟨ls_add (ls_0 e0) c q d2 n2, a1, ⟨hp.mem i0, ?_⟩, ⟨⟨Nat.le_refl _, show (1 : Nat) ≤ 60 by omega, Nat.zero_le _⟩, ⟨zc.1, fun i hi => ?_⟩, ⟨zm.1, fun j hj => absurd hj (Nat.not_lt_zero _)⟩⟩, fun i hi => ?_, fun j hj => absurd hj (Nat.not_lt_zero _), fun k hk => ?_, fun k k' hk hk' e => ?_⟩
  · refine (a3 h0 i0 ?_ ?_).trans hx
    · rintro ⟨fs, z⟩
      rw [hx] at z
      cases z
    · intro n g z
      rw [hx] at z
      cases z
  · have hi' : i < 1 := hi
    have e : i = 0 := by omega
    subst e
    show ls_con (ls_add (ls_0 e0) c q d2 n2) c 0 = q
    rw [zc.2]
    exact va_up_self _ _ _
  · have hi' : i < 1 := hi
    have e : i = 0 := by omega
    subst e
    refine ⟨hp.mem iq, ?_, fun p hp => ?_, ⟨?_, fun z hz => ?_⟩, ⟨?_, fun z hz => ?_⟩, ⟨?_, fun z hz => ?_⟩⟩
    · refine (a3 q iq ?_ ?_).trans hq
      · rintro ⟨fs, z⟩
        rw [hq] at z
        cases z
      · intro n g z
        rw [hq] at z
        cases z
    · cases hp
    · exact Nat.le_trans (Nat.le_of_eq z1.1) (Nat.zero_le _)
    · exact absurd (Nat.lt_of_lt_of_eq hz z1.1) (Nat.not_lt_zero _)
    · exact Nat.le_trans (Nat.le_of_eq z2.1) (Nat.zero_le _)
    · exact absurd (Nat.lt_of_lt_of_eq hz z2.1) (Nat.not_lt_zero _)
    · exact Nat.le_trans (Nat.le_of_eq z3.1) (Nat.zero_le _)
    · exact absurd (Nat.lt_of_lt_of_eq hz z3.1) (Nat.not_lt_zero _)
  · have hk5 : k < 5 := hk
    have hk6 : k = 0 ∨ k = 1 ∨ k = 2 ∨ k = 3 ∨ k = 4 := by omega
    rcases hk6 with rfl | rfl | rfl | rfl | rfl
    · exact ⟨hp.mem ic, lk c ic ⟨_, hc⟩⟩
    · exact ⟨hp.mem im, lk m im am⟩
    · exact ⟨hp.mem i1, lk l1 i1 a1'⟩
    · exact ⟨hp.mem i2, lk l2 i2 a2'⟩
    · exact ⟨hp.mem i3, lk l3 i3 a3'⟩
  · have hk5 : k < 5 := hk
    have hk6 : k = 0 ∨ k = 1 ∨ k = 2 ∨ k = 3 ∨ k = 4 := by omega
    have hj5 : k' < 5 := hk'
    have hj6 : k' = 0 ∨ k' = 1 ∨ k' = 2 ∨ k' = 3 ∨ k' = 4 := by omega
    rcases hk6 with rfl | rfl | rfl | rfl | rfl <;> rcases hj6 with rfl | rfl | rfl | rfl | rfl <;> first | rfl | exact absurd e nc.1 | exact absurd e nc.2.2.1 | exact absurd e nc.2.2.2.1 | exact absurd e nc.2.2.2.2 | exact absurd e nm.2.1 | exact absurd e nm.2.2.1 | exact absurd e nm.2.2.2 | exact absurd e n1.1 | exact absurd e n1.2 | exact absurd e n2' | exact absurd e.symm nc.1 | exact absurd e.symm nc.2.2.1 | exact absurd e.symm nc.2.2.2.1 | exact absurd e.symm nc.2.2.2.2 | exact absurd e.symm nm.2.1 | exact absurd e.symm nm.2.2.1 | exact absurd e.symm nm.2.2.2 | exact absurd e.symm n1.1 | exact absurd e.symm n1.2 | exact absurd e.symm n2'
