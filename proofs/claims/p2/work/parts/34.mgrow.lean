section GROW
variable {e0 : Nat} {cO : ClassId} {L : List Nat} {f : Nat → va_E} {τ : MT}
theorem MI.ext (h : MI e0 cO L f τ) {E : List Nat} {f' : Nat → va_E} (he : ∀ y, y ∈ E → y ∉ L ∧ y ≠ e0) (hf : ∀ y, y ∈ L → f' y = f y) (hn : ∀ y, y ∈ E → isAL f' y → ∃ mc, f' y = alc mc e0 0) : MI e0 cO (L ++ E) f' (mt_setls τ (ls_ext (mt_ls τ) E e0)) := by
  have cn : ∀ y, y ∈ L → ls_cnt (ls_ext (mt_ls τ) E e0) y = ls_cnt (mt_ls τ) y := fun y hy => if_neg (fun q => (he y q).1 hy)
  refine ⟨h.ly.ext he hf hn, ⟨List.mem_append_left _ h.x.1, (hf _ h.x.1).trans h.x.2⟩, ⟨h.b, ⟨(cn _ h.c.1).trans h.cs.1, h.cs.2⟩, ⟨(cn _ h.m.1).trans h.ms.1, h.ms.2⟩⟩, fun i hi => ?_, fun j hj => ?_, fun k hk => ⟨List.mem_append_left _ (h.la hk).1, ?_⟩, h.2.2.2.2.2.2⟩
  · have hi' : i < mt_n τ := hi
    obtain ⟨q1, q2, q3, q4, q5, q6⟩ := h.cl hi'
    have e1 := cn _ (h.fa hi').1
    have e2 := cn _ (h.ma hi').1
    have e3 := cn _ (h.aa hi').1
    exact ⟨List.mem_append_left _ q1, (hf _ q1).trans q2, q3, ⟨Nat.le_trans (Nat.le_of_eq e1) q4.1, fun z hz => q4.2 z (Nat.lt_of_lt_of_eq hz e1)⟩, ⟨Nat.le_trans (Nat.le_of_eq e2) q5.1, fun z hz => q5.2 z (Nat.lt_of_lt_of_eq hz e2)⟩, ⟨Nat.le_trans (Nat.le_of_eq e3) q6.1, fun z hz => q6.2 z (Nat.lt_of_lt_of_eq hz e3)⟩⟩
  · have hj' : j < mt_mn τ := hj
    obtain ⟨q1, q2, q3⟩ := h.me hj'
    exact ⟨List.mem_append_left _ q1, (hf _ q1).trans q2, q3⟩
  · obtain ⟨p1, fs, p2⟩ := h.la hk
    exact ⟨fs, (hf _ p1).trans p2⟩
/-- a class more -/
def mt_addc (τ : MT) (q : Nat) (pk : Int32) (pr : Option Nat) (fc : Int32) (l1 l2 l3 : Nat) : MT := ((mt_n τ + 1, va_up (mt_ca τ) (mt_n τ) q, va_up (mt_pk τ) (mt_n τ) pk, va_up (mt_pr τ) (mt_n τ) pr, va_up (mt_fc τ) (mt_n τ) fc, (va_up (mt_fa τ) (mt_n τ) l1, va_up (mt_ma τ) (mt_n τ) l2, va_up (mt_aa τ) (mt_n τ) l3), (va_up (mt_pt τ) (mt_n τ) (-1), va_up (mt_mk τ) (mt_n τ) 0), (mt_fl τ, mt_ml τ, mt_al τ)), τ.2)
theorem mt_la_addc (τ : MT) (q : Nat) (pk : Int32) (pr : Option Nat) (fc : Int32) (l1 l2 l3 : Nat) (k : Nat) (hk : k < 2 + 3 * (mt_n τ + 1)) : (k < 2 + 3 * mt_n τ ∧ mt_la (mt_addc τ q pk pr fc l1 l2 l3) k = mt_la τ k) ∨ (k = 2 + 3 * mt_n τ ∧ mt_la (mt_addc τ q pk pr fc l1 l2 l3) k = l1) ∨ (k = 3 + 3 * mt_n τ ∧ mt_la (mt_addc τ q pk pr fc l1 l2 l3) k = l2) ∨ (k = 4 + 3 * mt_n τ ∧ mt_la (mt_addc τ q pk pr fc l1 l2 l3) k = l3) := by
  by_cases e : k < 2 + 3 * mt_n τ
  · refine Or.inl ⟨e, ?_⟩
    unfold mt_la
    by_cases k0 : k = 0
    · rw [if_pos k0, if_pos k0]; rfl
    · rw [if_neg k0, if_neg k0]
      by_cases k1 : k = 1
      · rw [if_pos k1, if_pos k1]; rfl
      · rw [if_neg k1, if_neg k1]
        have hne : (k - 2) / 3 ≠ mt_n τ := by omega
        simp only [mt_addc, mt_fa, mt_ma, mt_aa, va_up_ne _ _ hne]
  · have e3 : k = 2 + 3 * mt_n τ ∨ k = 3 + 3 * mt_n τ ∨ k = 4 + 3 * mt_n τ := by omega
    rcases e3 with e3 | e3 | e3
    · refine Or.inr (Or.inl ⟨e3, ?_⟩)
      rw [e3, mt_laf]
      exact va_up_self _ _ _
    · refine Or.inr (Or.inr (Or.inl ⟨e3, ?_⟩))
      rw [e3, mt_lam]
      exact va_up_self _ _ _
    · refine Or.inr (Or.inr (Or.inr ⟨e3, ?_⟩))
      rw [e3, mt_laa]
      exact va_up_self _ _ _
theorem map_up {ca : Nat → Nat} {n q : Nat} {r : Option Nat} (h : ∀ p, r = some p → p < n) : r.map (va_up ca n q) = r.map ca := by
  cases r with
  | none => rfl
  | some p => exact congrArg some (va_up_ne _ _ (by have := h p rfl; omega))
theorem MI.addC (h : MI e0 cO L f τ) (hn : mt_n τ < 60) {q l1 l2 l3 : Nat} {pk : Int32} {pr : Option Nat} {fc : Int32} (hq : q ∈ L) (hfq : f q = ccell (mt_n τ) pk (pr.map (mt_ca τ)) fc l1 l2 l3 (-1) 0) (hpr : ∀ p, pr = some p → p < mt_n τ) (k1 : (l1 ∈ L ∧ isAL f l1) ∧ mt_cnt τ l1 = 0) (k2 : (l2 ∈ L ∧ isAL f l2) ∧ mt_cnt τ l2 = 0) (k3 : (l3 ∈ L ∧ isAL f l3) ∧ mt_cnt τ l3 = 0) (hd : ∀ k, k < 2 + 3 * mt_n τ → mt_la τ k ≠ l1 ∧ mt_la τ k ≠ l2 ∧ mt_la τ k ≠ l3) (d12 : l1 ≠ l2) (d13 : l1 ≠ l3) (d23 : l2 ≠ l3) {sz : Nat} {mc mc0 : Int32} {g : Nat → Option Nat} {u : PS} (hf : f (mt_c τ) = alc mc0 (ls_dat (mt_ls τ) (mt_c τ)) (ls_cnt (mt_ls τ) (mt_c τ))) (hg : ∀ j, j < ls_cnt (mt_ls τ) (mt_c τ) → g j = some (ls_con (mt_ls τ) (mt_c τ) j)) (he : e0 < sz) (hp : pext L sz u.1) (hu : alPost cO L f (mt_c τ) (ls_dat (mt_ls τ) (mt_c τ)) (ls_cnt (mt_ls τ) (mt_c τ)) (ls_cap (mt_ls τ) (mt_c τ)) (ls_grow (mt_ls τ) (mt_c τ)) g mc q u) : ∃ d2 n2, MI e0 cO u.1 u.2 (mt_setls (mt_addc τ q pk pr fc l1 l2 l3) (ls_add (mt_ls τ) (mt_c τ) q d2 n2)) := by
  have hcs := h.cs
  have hms := h.ms
  have hb := h.b
  obtain ⟨d2, n2, c1, -, c3, c4, c5, c6, c7⟩ := h.core (kb := 0) (by omega) (mt_la0 τ).symm hf hg ⟨hq, 4, _, hfq, Or.inl rfl⟩ he hp (by have : ls_cnt (mt_ls τ) (mt_c τ) = mt_n τ := hcs.1; omega) hu
  have hcL := h.c
  have nf : ∀ j, j < mt_n τ → mt_fa τ j ≠ mt_c τ := fun j hj => by have := c7 (2 + 3 * j) (by omega) (by omega); rwa [mt_laf] at this
  have nm : ∀ j, j < mt_n τ → mt_ma τ j ≠ mt_c τ := fun j hj => by have := c7 (3 + 3 * j) (by omega) (by omega); rwa [mt_lam] at this
  have na : ∀ j, j < mt_n τ → mt_aa τ j ≠ mt_c τ := fun j hj => by have := c7 (4 + 3 * j) (by omega) (by omega); rwa [mt_laa] at this
  have nM : mt_m τ ≠ mt_c τ := c7 1 (by omega) (by omega)
  have hd0 := hd 0 (by omega)
  have ql : u.2 q = f q := by
    obtain ⟨x1, x2, x3, x4, x5, x6, x7, x8, x9, xx⟩ := hu
    refine xx q (fun e => ?_) (fun e => ?_)
    · rw [e, hf] at hfq
      cases hfq
    · rcases x4 with ⟨-, y2, -, y4⟩ | ⟨-, y2, -⟩
      · rcases (h.ly.2.1 _ hcL.1 hcL.2).2.1 with ⟨p, -⟩ | ⟨-, -, -, -, g', p, -⟩
        · exact h.ly.1 (by rw [← p]; exact y4)
        · rw [e, y2, p] at hfq
          cases hfq
      · exact y2 (e ▸ hq)
  have lk : ∀ y, y ∈ L → isAL f y → isAL u.2 y := fun y hy hA => al_keep h.ly hcL.1 hcL.2 hu hy hA
  have ca' : ∀ z, z < mt_n τ → va_up (mt_ca τ) (mt_n τ) q z = mt_ca τ z := fun z hz => va_up_ne _ _ (by omega)
  refine ⟨d2, n2, c1, c3, ⟨⟨?_, ?_, hb.2.2⟩, ⟨?_, fun j hj => ?_⟩, ?_⟩, fun j hj => ?_, fun j hj => ?_, fun k hk => ?_, fun k k' hk hk' e => ?_⟩
  · show 1 ≤ mt_n τ + 1; omega
  · show mt_n τ + 1 ≤ 60; omega
  · exact (ls_add_self (mt_ls τ) (mt_c τ) q d2 n2).1.trans (congrArg (· + 1) hcs.1)
  · have hj' : j < mt_n τ + 1 := hj
    show ls_con (ls_add (mt_ls τ) (mt_c τ) q d2 n2) (mt_c τ) j = va_up (mt_ca τ) (mt_n τ) q j
    rw [(ls_add_self (mt_ls τ) (mt_c τ) q d2 n2).2, show ls_cnt (mt_ls τ) (mt_c τ) = mt_n τ from hcs.1]
    by_cases e : j = mt_n τ
    · rw [e, va_up_self, va_up_self]
    · rw [va_up_ne _ _ e, va_up_ne _ _ e]
      exact hcs.2 j (by omega)
  · have e := ls_add_ne (mt_ls τ) (x := q) (d2 := d2) (n2 := n2) nM
    exact ⟨e.1.trans hms.1, fun j hj => (congrFun e.2 j).trans (hms.2 j hj)⟩
  · have hj' : j < mt_n τ + 1 := hj
    by_cases ej : j = mt_n τ
    · subst ej
      have z1 := ls_add_ne (mt_ls τ) (x := q) (d2 := d2) (n2 := n2) (show l1 ≠ mt_c τ from fun e => hd0.1 e.symm)
      have z2 := ls_add_ne (mt_ls τ) (x := q) (d2 := d2) (n2 := n2) (show l2 ≠ mt_c τ from fun e => hd0.2.1 e.symm)
      have z3 := ls_add_ne (mt_ls τ) (x := q) (d2 := d2) (n2 := n2) (show l3 ≠ mt_c τ from fun e => hd0.2.2 e.symm)
      simp only [MIc, mt_setls, mt_addc, mt_ca, mt_pk, mt_pr, mt_fc, mt_fa, mt_ma, mt_aa, mt_pt, mt_mk, mt_cnt, mt_ls, mt_fl, mt_ml, mt_al, mt_mn, mt_n, mt_con, va_up_self]
      refine ⟨hp.mem hq, ?_, hpr, ⟨?_, fun z hz => ?_⟩, ⟨?_, fun z hz => ?_⟩, ⟨?_, fun z hz => ?_⟩⟩
      · rw [ql, hfq, map_up hpr]
      · exact Nat.le_trans (Nat.le_of_eq (z1.1.trans k1.2)) (by omega)
      · exact absurd (Nat.lt_of_lt_of_eq hz (z1.1.trans k1.2)) (by omega)
      · exact Nat.le_trans (Nat.le_of_eq (z2.1.trans k2.2)) (by omega)
      · exact absurd (Nat.lt_of_lt_of_eq hz (z2.1.trans k2.2)) (by omega)
      · exact Nat.le_trans (Nat.le_of_eq (z3.1.trans k3.2)) (by omega)
      · exact absurd (Nat.lt_of_lt_of_eq hz (z3.1.trans k3.2)) (by omega)
    · have hjn : j < mt_n τ := by omega
      obtain ⟨q1, q2, q3, q4, q5, q6⟩ := h.cl hjn
      have e1 := ls_add_ne (mt_ls τ) (x := q) (d2 := d2) (n2 := n2) (nf j hjn)
      have e2 := ls_add_ne (mt_ls τ) (x := q) (d2 := d2) (n2 := n2) (nm j hjn)
      have e3 := ls_add_ne (mt_ls τ) (x := q) (d2 := d2) (n2 := n2) (na j hjn)
      have hmu := map_up (ca := mt_ca τ) (q := q) (r := mt_pr τ j) (n := mt_n τ) (fun p hp => by have := q3 p hp; omega)
      have u1 := va_up_ne (mt_ca τ) q ej
      have u2 := va_up_ne (mt_pk τ) pk ej
      have u3 := va_up_ne (mt_pr τ) pr ej
      have u4 := va_up_ne (mt_fc τ) fc ej
      have u5 := va_up_ne (mt_fa τ) l1 ej
      have u6 := va_up_ne (mt_ma τ) l2 ej
      have u7 := va_up_ne (mt_aa τ) l3 ej
      have u8 := va_up_ne (mt_pt τ) (-1) ej
      have u9 := va_up_ne (mt_mk τ) 0 ej
      show va_up (mt_ca τ) (mt_n τ) q j ∈ u.1 ∧ u.2 (va_up (mt_ca τ) (mt_n τ) q j) = ccell j (va_up (mt_pk τ) (mt_n τ) pk j) ((va_up (mt_pr τ) (mt_n τ) pr j).map (va_up (mt_ca τ) (mt_n τ) q)) (va_up (mt_fc τ) (mt_n τ) fc j) (va_up (mt_fa τ) (mt_n τ) l1 j) (va_up (mt_ma τ) (mt_n τ) l2 j) (va_up (mt_aa τ) (mt_n τ) l3 j) (va_up (mt_pt τ) (mt_n τ) (-1) j) (va_up (mt_mk τ) (mt_n τ) 0 j) ∧ (∀ p, va_up (mt_pr τ) (mt_n τ) pr j = some p → p < j)
        ∧ (ls_cnt (ls_add (mt_ls τ) (mt_c τ) q d2 n2) (va_up (mt_fa τ) (mt_n τ) l1 j) ≤ 20 ∧ ∀ k, k < ls_cnt (ls_add (mt_ls τ) (mt_c τ) q d2 n2) (va_up (mt_fa τ) (mt_n τ) l1 j) → mt_fl τ j k < j ∧ ls_con (ls_add (mt_ls τ) (mt_c τ) q d2 n2) (va_up (mt_fa τ) (mt_n τ) l1 j) k = va_up (mt_ca τ) (mt_n τ) q (mt_fl τ j k))
        ∧ (ls_cnt (ls_add (mt_ls τ) (mt_c τ) q d2 n2) (va_up (mt_ma τ) (mt_n τ) l2 j) ≤ mt_mn τ ∧ ∀ k, k < ls_cnt (ls_add (mt_ls τ) (mt_c τ) q d2 n2) (va_up (mt_ma τ) (mt_n τ) l2 j) → mt_ml τ j k < mt_mn τ ∧ ls_con (ls_add (mt_ls τ) (mt_c τ) q d2 n2) (va_up (mt_ma τ) (mt_n τ) l2 j) k = mt_ja τ (mt_ml τ j k))
        ∧ (ls_cnt (ls_add (mt_ls τ) (mt_c τ) q d2 n2) (va_up (mt_aa τ) (mt_n τ) l3 j) ≤ 60 ∧ ∀ k, k < ls_cnt (ls_add (mt_ls τ) (mt_c τ) q d2 n2) (va_up (mt_aa τ) (mt_n τ) l3 j) → mt_al τ j k < mt_n τ + 1 ∧ ls_con (ls_add (mt_ls τ) (mt_c τ) q d2 n2) (va_up (mt_aa τ) (mt_n τ) l3 j) k = va_up (mt_ca τ) (mt_n τ) q (mt_al τ j k))
      rw [u1, u2, u3, u4, u5, u6, u7, u8, u9, e1.1, e2.1, e3.1, e1.2, e2.2, e3.2, hmu]
      refine ⟨(c4 j hjn).1, (c4 j hjn).2.trans q2, q3, ⟨q4.1, fun z hz => ?_⟩, q5, ⟨q6.1, fun z hz => ?_⟩⟩
      · obtain ⟨w1, w2⟩ := q4.2 z hz
        exact ⟨w1, w2.trans (ca' _ (by omega)).symm⟩
      · obtain ⟨w1, w2⟩ := q6.2 z hz
        exact ⟨by omega, w2.trans (ca' _ w1).symm⟩
  · have hj' : j < mt_mn τ := hj
    obtain ⟨q1, q2, q3⟩ := h.me hj'
    refine ⟨(c5 j hj').1, ?_, Nat.lt_succ_of_lt q3⟩
    show u.2 (mt_ja τ j) = mcell j (mt_nm τ j) (mt_si τ j) (va_up (mt_ca τ) (mt_n τ) q (mt_ow τ j)) (mt_st τ j) (mt_fi τ j) (mt_ab τ j)
    rw [ca' _ q3]
    exact (c5 j hj').2.trans q2
  · have hk2 : k < 2 + 3 * (mt_n τ + 1) := hk
    have hs : mt_la (mt_setls (mt_addc τ q pk pr fc l1 l2 l3) (ls_add (mt_ls τ) (mt_c τ) q d2 n2)) k = mt_la (mt_addc τ q pk pr fc l1 l2 l3) k := rfl
    rw [hs]
    rcases mt_la_addc τ q pk pr fc l1 l2 l3 k hk2 with ⟨a1, a2⟩ | ⟨a1, a2⟩ | ⟨a1, a2⟩ | ⟨a1, a2⟩
    · rw [a2]; exact c6 k a1
    · rw [a2]; exact ⟨hp.mem k1.1.1, lk _ k1.1.1 k1.1.2⟩
    · rw [a2]; exact ⟨hp.mem k2.1.1, lk _ k2.1.1 k2.1.2⟩
    · rw [a2]; exact ⟨hp.mem k3.1.1, lk _ k3.1.1 k3.1.2⟩
  · have hk2 : k < 2 + 3 * (mt_n τ + 1) := hk
    have hk3 : k' < 2 + 3 * (mt_n τ + 1) := hk'
    replace e : mt_la (mt_addc τ q pk pr fc l1 l2 l3) k = mt_la (mt_addc τ q pk pr fc l1 l2 l3) k' := e
    rcases mt_la_addc τ q pk pr fc l1 l2 l3 k hk2 with ⟨a1, a2⟩ | ⟨a1, a2⟩ | ⟨a1, a2⟩ | ⟨a1, a2⟩ <;> rcases mt_la_addc τ q pk pr fc l1 l2 l3 k' hk3 with ⟨b1, b2⟩ | ⟨b1, b2⟩ | ⟨b1, b2⟩ | ⟨b1, b2⟩ <;> rw [a2, b2] at e <;> first | exact h.2.2.2.2.2.2 k k' a1 b1 e | exact absurd e (hd k a1).1 | exact absurd e (hd k a1).2.1 | exact absurd e (hd k a1).2.2 | exact absurd e.symm (hd k' b1).1 | exact absurd e.symm (hd k' b1).2.1 | exact absurd e.symm (hd k' b1).2.2 | exact absurd e d12 | exact absurd e d13 | exact absurd e d23 | exact absurd e.symm d12 | exact absurd e.symm d13 | exact absurd e.symm d23 | omega
end GROW
