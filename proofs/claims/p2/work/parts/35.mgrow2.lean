section GROW2
variable {e0 : Nat} {cO : ClassId} {L : List Nat} {f : Nat → va_E} {τ : MT}
/-- a method more -/
def mt_addm (τ : MT) (q : Nat) (nm si : Int32) (ow : Nat) (st fi ab : Int32) : MT := (τ.1, (mt_mn τ + 1, va_up (mt_ja τ) (mt_mn τ) q, va_up (mt_nm τ) (mt_mn τ) nm, va_up (mt_si τ) (mt_mn τ) si, va_up (mt_ow τ) (mt_mn τ) ow, va_up (mt_st τ) (mt_mn τ) st, va_up (mt_fi τ) (mt_mn τ) fi, va_up (mt_ab τ) (mt_mn τ) ab), τ.2.2)
def mt_setml (τ : MT) (g : Nat → Nat → Nat) : MT := ((τ.1.1, τ.1.2.1, τ.1.2.2.1, τ.1.2.2.2.1, τ.1.2.2.2.2.1, τ.1.2.2.2.2.2.1, τ.1.2.2.2.2.2.2.1, (mt_fl τ, g, mt_al τ)), τ.2)
theorem MI.addM (h : MI e0 cO L f τ) (hn : mt_mn τ < 400) {q ow : Nat} {nm si st fi ab : Int32} (hq : q ∈ L) (hfq : f q = mcell (mt_mn τ) nm si (mt_ca τ ow) st fi ab) (how : ow < mt_n τ) {sz : Nat} {mc mc0 : Int32} {g : Nat → Option Nat} {u : PS} (hf : f (mt_m τ) = alc mc0 (ls_dat (mt_ls τ) (mt_m τ)) (ls_cnt (mt_ls τ) (mt_m τ))) (hg : ∀ j, j < ls_cnt (mt_ls τ) (mt_m τ) → g j = some (ls_con (mt_ls τ) (mt_m τ) j)) (he : e0 < sz) (hp : pext L sz u.1) (hu : alPost cO L f (mt_m τ) (ls_dat (mt_ls τ) (mt_m τ)) (ls_cnt (mt_ls τ) (mt_m τ)) (ls_cap (mt_ls τ) (mt_m τ)) (ls_grow (mt_ls τ) (mt_m τ)) g mc q u) : ∃ d2 n2, MI e0 cO u.1 u.2 (mt_setls (mt_addm τ q nm si ow st fi ab) (ls_add (mt_ls τ) (mt_m τ) q d2 n2)) := by
  have hcs := h.cs
  have hms := h.ms
  have hb := h.b
  obtain ⟨d2, n2, c1, -, c3, c4, c5, c6, c7⟩ := h.core (kb := 1) (by omega) (mt_la1 τ).symm hf hg ⟨hq, 5, _, hfq, Or.inr rfl⟩ he hp (by have : ls_cnt (mt_ls τ) (mt_m τ) = mt_mn τ := hms.1; omega) hu
  have hcL := h.m
  have nf : ∀ j, j < mt_n τ → mt_fa τ j ≠ mt_m τ := fun j hj => by have := c7 (2 + 3 * j) (by omega) (by omega); rwa [mt_laf] at this
  have nm' : ∀ j, j < mt_n τ → mt_ma τ j ≠ mt_m τ := fun j hj => by have := c7 (3 + 3 * j) (by omega) (by omega); rwa [mt_lam] at this
  have na : ∀ j, j < mt_n τ → mt_aa τ j ≠ mt_m τ := fun j hj => by have := c7 (4 + 3 * j) (by omega) (by omega); rwa [mt_laa] at this
  have nC : mt_c τ ≠ mt_m τ := c7 0 (by omega) (by omega)
  have ql : u.2 q = f q := by
    obtain ⟨x1, x2, x3, x4, x5, x6, x7, x8, x9, xx⟩ := hu
    refine xx q (fun e => ?_) (fun e => ?_)
    · rw [e, hf] at hfq
      cases hfq
    · rcases x4 with ⟨-, y2, -, y4⟩ | ⟨-, y2, -⟩
      · rcases (h.ly.2.1 _ hcL.1 hcL.2).2.1 with ⟨p, -⟩ | ⟨-, -, -, -, g', p, -⟩
        · exact h.ly.1 (by rw [← p]; exact y4)
        · rw [e, y2, p] at hfq
          cases hfq
      · exact y2 (e ▸ hq)
  have ja' : ∀ z, z < mt_mn τ → va_up (mt_ja τ) (mt_mn τ) q z = mt_ja τ z := fun z hz => va_up_ne _ _ (by omega)
  refine ⟨d2, n2, c1, c3, ⟨⟨hb.1, hb.2.1, ?_⟩, ?_, ⟨?_, fun j hj => ?_⟩⟩, fun j hj => ?_, fun j hj => ?_, c6, h.2.2.2.2.2.2⟩
  · show mt_mn τ + 1 ≤ 400; omega
  · have e := ls_add_ne (mt_ls τ) (x := q) (d2 := d2) (n2 := n2) nC
    exact ⟨e.1.trans hcs.1, fun j hj => (congrFun e.2 j).trans (hcs.2 j hj)⟩
  · exact (ls_add_self (mt_ls τ) (mt_m τ) q d2 n2).1.trans (congrArg (· + 1) hms.1)
  · have hj' : j < mt_mn τ + 1 := hj
    show ls_con (ls_add (mt_ls τ) (mt_m τ) q d2 n2) (mt_m τ) j = va_up (mt_ja τ) (mt_mn τ) q j
    rw [(ls_add_self (mt_ls τ) (mt_m τ) q d2 n2).2, show ls_cnt (mt_ls τ) (mt_m τ) = mt_mn τ from hms.1]
    by_cases e : j = mt_mn τ
    · rw [e, va_up_self, va_up_self]
    · rw [va_up_ne _ _ e, va_up_ne _ _ e]
      exact hms.2 j (by omega)
  · have hjn : j < mt_n τ := hj
    obtain ⟨q1, q2, q3, q4, q5, q6⟩ := h.cl hjn
    have e1 := ls_add_ne (mt_ls τ) (x := q) (d2 := d2) (n2 := n2) (nf j hjn)
    have e2 := ls_add_ne (mt_ls τ) (x := q) (d2 := d2) (n2 := n2) (nm' j hjn)
    have e3 := ls_add_ne (mt_ls τ) (x := q) (d2 := d2) (n2 := n2) (na j hjn)
    show mt_ca τ j ∈ u.1 ∧ u.2 (mt_ca τ j) = ccell j (mt_pk τ j) ((mt_pr τ j).map (mt_ca τ)) (mt_fc τ j) (mt_fa τ j) (mt_ma τ j) (mt_aa τ j) (mt_pt τ j) (mt_mk τ j) ∧ (∀ p, mt_pr τ j = some p → p < j)
      ∧ (ls_cnt (ls_add (mt_ls τ) (mt_m τ) q d2 n2) (mt_fa τ j) ≤ 20 ∧ ∀ k, k < ls_cnt (ls_add (mt_ls τ) (mt_m τ) q d2 n2) (mt_fa τ j) → mt_fl τ j k < j ∧ ls_con (ls_add (mt_ls τ) (mt_m τ) q d2 n2) (mt_fa τ j) k = mt_ca τ (mt_fl τ j k))
      ∧ (ls_cnt (ls_add (mt_ls τ) (mt_m τ) q d2 n2) (mt_ma τ j) ≤ mt_mn τ + 1 ∧ ∀ k, k < ls_cnt (ls_add (mt_ls τ) (mt_m τ) q d2 n2) (mt_ma τ j) → mt_ml τ j k < mt_mn τ + 1 ∧ ls_con (ls_add (mt_ls τ) (mt_m τ) q d2 n2) (mt_ma τ j) k = va_up (mt_ja τ) (mt_mn τ) q (mt_ml τ j k))
      ∧ (ls_cnt (ls_add (mt_ls τ) (mt_m τ) q d2 n2) (mt_aa τ j) ≤ 60 ∧ ∀ k, k < ls_cnt (ls_add (mt_ls τ) (mt_m τ) q d2 n2) (mt_aa τ j) → mt_al τ j k < mt_n τ ∧ ls_con (ls_add (mt_ls τ) (mt_m τ) q d2 n2) (mt_aa τ j) k = mt_ca τ (mt_al τ j k))
    rw [e1.1, e2.1, e3.1, e1.2, e2.2, e3.2]
    refine ⟨(c4 j hjn).1, (c4 j hjn).2.trans q2, q3, q4, ⟨Nat.le_succ_of_le q5.1, fun z hz => ?_⟩, q6⟩
    obtain ⟨w1, w2⟩ := q5.2 z hz
    exact ⟨Nat.lt_succ_of_lt w1, w2.trans (ja' _ w1).symm⟩
  · have hj' : j < mt_mn τ + 1 := hj
    by_cases ej : j = mt_mn τ
    · subst ej
      show va_up (mt_ja τ) (mt_mn τ) q (mt_mn τ) ∈ u.1 ∧ u.2 (va_up (mt_ja τ) (mt_mn τ) q (mt_mn τ)) = mcell (mt_mn τ) (va_up (mt_nm τ) (mt_mn τ) nm (mt_mn τ)) (va_up (mt_si τ) (mt_mn τ) si (mt_mn τ)) (mt_ca τ (va_up (mt_ow τ) (mt_mn τ) ow (mt_mn τ))) (va_up (mt_st τ) (mt_mn τ) st (mt_mn τ)) (va_up (mt_fi τ) (mt_mn τ) fi (mt_mn τ)) (va_up (mt_ab τ) (mt_mn τ) ab (mt_mn τ)) ∧ va_up (mt_ow τ) (mt_mn τ) ow (mt_mn τ) < mt_n τ
      simp only [va_up_self]
      exact ⟨hp.mem hq, ql.trans hfq, how⟩
    · have hjn : j < mt_mn τ := by omega
      obtain ⟨q1, q2, q3⟩ := h.me hjn
      show va_up (mt_ja τ) (mt_mn τ) q j ∈ u.1 ∧ u.2 (va_up (mt_ja τ) (mt_mn τ) q j) = mcell j (va_up (mt_nm τ) (mt_mn τ) nm j) (va_up (mt_si τ) (mt_mn τ) si j) (mt_ca τ (va_up (mt_ow τ) (mt_mn τ) ow j)) (va_up (mt_st τ) (mt_mn τ) st j) (va_up (mt_fi τ) (mt_mn τ) fi j) (va_up (mt_ab τ) (mt_mn τ) ab j) ∧ va_up (mt_ow τ) (mt_mn τ) ow j < mt_n τ
      simp only [va_up_ne _ _ ej]
      exact ⟨(c5 j hjn).1, (c5 j hjn).2.trans q2, q3⟩
/-- the list of own methods of class i takes method k -/
theorem MI.addN (h : MI e0 cO L f τ) {i k : Nat} (hi : i < mt_n τ) (hk : k < mt_mn τ) {sz : Nat} {mc mc0 : Int32} {g : Nat → Option Nat} {u : PS} (hf : f (mt_ma τ i) = alc mc0 (ls_dat (mt_ls τ) (mt_ma τ i)) (ls_cnt (mt_ls τ) (mt_ma τ i))) (hg : ∀ j, j < ls_cnt (mt_ls τ) (mt_ma τ i) → g j = some (ls_con (mt_ls τ) (mt_ma τ i) j)) (he : e0 < sz) (hp : pext L sz u.1) (hc : mt_cnt τ (mt_ma τ i) < mt_mn τ) (hu : alPost cO L f (mt_ma τ i) (ls_dat (mt_ls τ) (mt_ma τ i)) (ls_cnt (mt_ls τ) (mt_ma τ i)) (ls_cap (mt_ls τ) (mt_ma τ i)) (ls_grow (mt_ls τ) (mt_ma τ i)) g mc (mt_ja τ k) u) : ∃ d2 n2, MI e0 cO u.1 u.2 (mt_setls (mt_setml τ (va_up (mt_ml τ) i (va_up (mt_ml τ i) (mt_cnt τ (mt_ma τ i)) k))) (ls_add (mt_ls τ) (mt_ma τ i) (mt_ja τ k) d2 n2)) := by
  have hb := h.b
  obtain ⟨d2, n2, c1, -, c3, c4, c5, c6, c7⟩ := h.core (kb := 3 + 3 * i) (by omega) (mt_lam τ i).symm hf hg ⟨(h.me hk).1, 5, _, (h.me hk).2.1, Or.inr rfl⟩ he hp (by have : ls_cnt (mt_ls τ) (mt_ma τ i) < mt_mn τ := hc; omega) hu
  have nf : ∀ j, j < mt_n τ → mt_fa τ j ≠ mt_ma τ i := fun j hj => by have := c7 (2 + 3 * j) (by omega) (by omega); rwa [mt_laf] at this
  have na : ∀ j, j < mt_n τ → mt_aa τ j ≠ mt_ma τ i := fun j hj => by have := c7 (4 + 3 * j) (by omega) (by omega); rwa [mt_laa] at this
  have nm : ∀ j, j < mt_n τ → j ≠ i → mt_ma τ j ≠ mt_ma τ i := fun j hj hne => by have := c7 (3 + 3 * j) (by omega) (by omega); rwa [mt_lam] at this
  have nc : mt_c τ ≠ mt_ma τ i := c7 0 (by omega) (by omega)
  have nM : mt_m τ ≠ mt_ma τ i := c7 1 (by omega) (by omega)
  refine ⟨d2, n2, c1, c3, ⟨h.b, ?_, ?_⟩, fun j hj => ?_, fun j hj => ?_, c6, h.2.2.2.2.2.2⟩
  · have e := ls_add_ne (mt_ls τ) (x := mt_ja τ k) (d2 := d2) (n2 := n2) nc
    exact ⟨e.1.trans h.cs.1, fun j hj => (congrFun e.2 j).trans (h.cs.2 j hj)⟩
  · have e := ls_add_ne (mt_ls τ) (x := mt_ja τ k) (d2 := d2) (n2 := n2) nM
    exact ⟨e.1.trans h.ms.1, fun j hj => (congrFun e.2 j).trans (h.ms.2 j hj)⟩
  · have hj' : j < mt_n τ := hj
    obtain ⟨q1, q2, q3, q4, q5, q6⟩ := h.cl hj'
    have e1 := ls_add_ne (mt_ls τ) (x := mt_ja τ k) (d2 := d2) (n2 := n2) (nf j hj')
    have e2 := ls_add_ne (mt_ls τ) (x := mt_ja τ k) (d2 := d2) (n2 := n2) (na j hj')
    refine ⟨(c4 j hj').1, (c4 j hj').2.trans q2, q3, ⟨Nat.le_trans (Nat.le_of_eq e1.1) q4.1, fun z hz => ?_⟩, ?_, ⟨Nat.le_trans (Nat.le_of_eq e2.1) q6.1, fun z hz => ?_⟩⟩
    · have hz' : z < ls_cnt (mt_ls τ) (mt_fa τ j) := Nat.lt_of_lt_of_eq hz e1.1
      exact ⟨(q4.2 z hz').1, (congrFun e1.2 z).trans (q4.2 z hz').2⟩
    · by_cases e : j = i
      · subst e
        have e3 := ls_add_self (mt_ls τ) (mt_ma τ j) (mt_ja τ k) d2 n2
        refine ⟨Nat.le_trans (Nat.le_of_eq e3.1) hc, fun z hz => ?_⟩
        have hz' : z < ls_cnt (mt_ls τ) (mt_ma τ j) + 1 := Nat.lt_of_lt_of_eq hz e3.1
        show va_up (mt_ml τ) j (va_up (mt_ml τ j) (mt_cnt τ (mt_ma τ j)) k) j z < mt_mn τ ∧ ls_con (ls_add (mt_ls τ) (mt_ma τ j) (mt_ja τ k) d2 n2) (mt_ma τ j) z = mt_ja τ (va_up (mt_ml τ) j (va_up (mt_ml τ j) (mt_cnt τ (mt_ma τ j)) k) j z)
        rw [e3.2, va_up_self]
        by_cases ez : z = ls_cnt (mt_ls τ) (mt_ma τ j)
        · rw [ez, va_up_self, va_up_self]
          exact ⟨hk, rfl⟩
        · rw [va_up_ne _ _ ez, va_up_ne _ _ ez]
          exact q5.2 z (show z < ls_cnt (mt_ls τ) (mt_ma τ j) by omega)
      · have e3 := ls_add_ne (mt_ls τ) (x := mt_ja τ k) (d2 := d2) (n2 := n2) (nm j hj' e)
        refine ⟨Nat.le_trans (Nat.le_of_eq e3.1) q5.1, fun z hz => ?_⟩
        have hz' : z < ls_cnt (mt_ls τ) (mt_ma τ j) := Nat.lt_of_lt_of_eq hz e3.1
        show va_up (mt_ml τ) i _ j z < mt_mn τ ∧ ls_con (ls_add (mt_ls τ) (mt_ma τ i) (mt_ja τ k) d2 n2) (mt_ma τ j) z = mt_ja τ (va_up (mt_ml τ) i _ j z)
        rw [va_up_ne _ _ e, e3.2]
        exact q5.2 z hz'
    · have hz' : z < ls_cnt (mt_ls τ) (mt_aa τ j) := Nat.lt_of_lt_of_eq hz e2.1
      exact ⟨(q6.2 z hz').1, (congrFun e2.2 z).trans (q6.2 z hz').2⟩
  · have hj' : j < mt_mn τ := hj
    obtain ⟨q1, q2, q3⟩ := h.me hj'
    exact ⟨(c5 j hj').1, (c5 j hj').2.trans q2, q3⟩
/-- the list of all faces of class i is emptied -/
def ls_clr (s : LSt) (b : Nat) : LSt := (ls_dat s, va_up (ls_cnt s) b 0, ls_cap s, ls_con s)
theorem MI.clr (h : MI e0 cO L f τ) {i : Nat} (hi : i < mt_n τ) {mc : Int32} {u : PS} (hu : clPost cO L f (mt_aa τ i) (ls_dat (mt_ls τ) (mt_aa τ i)) (ls_cap (mt_ls τ) (mt_aa τ i)) mc u) : MI e0 cO L u.2 (mt_setls τ (ls_clr (mt_ls τ) (mt_aa τ i))) := by
  obtain ⟨hL, ha, hk, hdd⟩ := hu
  have hbL := h.aa hi
  obtain ⟨b, hbe⟩ : ∃ z, z = mt_aa τ i := ⟨_, rfl⟩
  rw [← hbe] at ha hk hdd hbL ⊢
  have hly := h.ly
  obtain ⟨h0, h1, h2⟩ := id hly
  have hB := h1 b hbL.1 hbL.2
  -- data of b: never another cell of the picture
  have hne : ∀ y, y ∈ L → (∀ n g, f y ≠ refs n g cO) → y ≠ ls_dat (mt_ls τ) b := by
    intro y hy hna e
    rcases hB.2.1 with ⟨p, -⟩ | ⟨-, -, -, -, g, p, -⟩
    · exact h0 (by rw [← p, ← e]; exact hy)
    · exact hna _ g (by rw [e]; exact p)
  have kp : ∀ y, y ∈ L → ∀ ci fs, f y = .inr (ci, fs) → y ≠ b → u.2 y = f y := by
    intro y hy ci fs hf hb'
    exact hk y hb' (hne y hy (fun n g q => by rw [hf] at q; cases q))
  have dn : ls_dat (mt_ls τ) b ≠ b := fun e => by
    rcases hB.2.1 with ⟨p, -⟩ | ⟨-, -, -, -, g, p, -⟩
    · exact h0 (by rw [← p, e]; exact hbL.1)
    · obtain ⟨⟨mc1, q⟩, -⟩ := hB
      rw [e, q] at p
      cases p
  have al1 : ∀ y, y ∈ L → isAL u.2 y → isAL f y := by
    intro y hy ⟨fs, hA⟩
    by_cases e : y = b
    · rw [e]; exact hbL.2
    · by_cases ed : y = ls_dat (mt_ls τ) b
      · obtain ⟨g2, q⟩ := hdd (ed ▸ hy)
        rw [ed, q] at hA
        cases hA
      · rw [hk y e ed] at hA
        exact ⟨fs, hA⟩
  have al2 : ∀ y, y ∈ L → isAL f y → isAL u.2 y := by
    intro y hy ⟨fs, hA⟩
    by_cases e : y = b
    · rw [e]; exact ⟨_, ha⟩
    · exact ⟨fs, (kp y hy _ _ hA e).trans hA⟩
  have mo : ∀ y, mobj L f y → mobj L u.2 y := by
    intro y hy
    obtain ⟨q1, ci, fs, q2, q3⟩ := id hy
    obtain ⟨⟨mc1, q⟩, -⟩ := hB
    exact ⟨q1, ci, fs, (kp y q1 _ _ q2 (hy.neal q)).trans q2, q3⟩
  have hly' : LY e0 cO L u.2 (ls_clr (mt_ls τ) b) := by
    refine ⟨h0, fun y hy hA => ?_, fun y y' hy hy' hA hA' e1 e2 => h2 y y' hy hy' (al1 y hy hA) (al1 y' hy' hA') e1 e2⟩
    have hA0 := al1 y hy hA
    obtain ⟨⟨mc1, q1⟩, q2, q3⟩ := h1 y hy hA0
    by_cases e : y = b
    · subst e
      simp only [ls_clr, ls_dat, ls_cnt, ls_cap, ls_con, va_up_self]
      refine ⟨⟨mc, ha⟩, ?_, fun i hi => absurd hi (by omega)⟩
      rcases q2 with ⟨p1, p2, p3⟩ | ⟨p1, p2, p3, p4, g, p5, p6⟩
      · exact Or.inl ⟨p1, trivial, p3⟩
      · obtain ⟨g2, q⟩ := hdd p1
        exact Or.inr ⟨p1, p2, p3, Nat.zero_le _, g2, q, fun i hi => absurd hi (by omega)⟩
    · simp only [ls_clr, ls_dat, ls_cnt, ls_cap, ls_con, va_up_ne _ _ e]
      refine ⟨⟨mc1, (kp y hy _ _ q1 e).trans q1⟩, ?_, fun i hi => mo _ (q3 i hi)⟩
      rcases q2 with q2 | ⟨p1, p2, p3, p4, g, p5, p6⟩
      · exact Or.inl q2
      · refine Or.inr ⟨p1, p2, p3, p4, g, ?_, p6⟩
        have n1 : ls_dat (mt_ls τ) y ≠ b := fun z => by
          obtain ⟨fs, q⟩ := hbL.2
          rw [z, q] at p5
          cases p5
        have n2 : ls_dat (mt_ls τ) y ≠ ls_dat (mt_ls τ) b := fun z => e (h2 y b hy hbL.1 hA0 hbL.2 z (fun z2 => h0 (by rw [← z2]; exact p1)))
        exact (hk _ n1 n2).trans p5
  have c7 : ∀ k, k < 2 + 3 * mt_n τ → k ≠ 4 + 3 * i → mt_la τ k ≠ b := fun k hk hne e => hne (h.2.2.2.2.2.2 k (4 + 3 * i) hk (by omega) (by rw [e, mt_laa, hbe]))
  have nf : ∀ j, j < mt_n τ → mt_fa τ j ≠ b := fun j hj => by have := c7 (2 + 3 * j) (by omega) (by omega); rwa [mt_laf] at this
  have nm : ∀ j, j < mt_n τ → mt_ma τ j ≠ b := fun j hj => by have := c7 (3 + 3 * j) (by omega) (by omega); rwa [mt_lam] at this
  have nc : mt_c τ ≠ b := c7 0 (by omega) (by omega)
  have nM : mt_m τ ≠ b := c7 1 (by omega) (by omega)
  have cn : ∀ y, y ≠ b → ls_cnt (ls_clr (mt_ls τ) b) y = ls_cnt (mt_ls τ) y := fun y hy => va_up_ne _ _ hy
  have cl : ∀ y, ls_cnt (ls_clr (mt_ls τ) b) y ≤ ls_cnt (mt_ls τ) y := fun y => by
    by_cases e : y = b
    · rw [e, show ls_cnt (ls_clr (mt_ls τ) b) b = 0 from va_up_self _ _ _]; exact Nat.zero_le _
    · rw [cn y e]; exact Nat.le_refl _
  have cne : ∀ {y : Nat} {ci : Nat} {fs : List Value}, f y = .inr (ci, fs) → ci ≠ 0 → y ≠ b := fun hf hc e => by
    obtain ⟨fs, q⟩ := hbL.2
    rw [e, q] at hf
    have h4 := congrArg (fun z => match z with | Sum.inr q => q.1 | Sum.inl _ => 9) hf
    exact hc h4.symm
  refine ⟨hly', ⟨h.x.1, (kp _ h.x.1 _ _ h.x.2 (cne h.x.2 (by decide))).trans h.x.2⟩, ⟨h.b, ⟨(cn _ nc).trans h.cs.1, h.cs.2⟩, ⟨(cn _ nM).trans h.ms.1, h.ms.2⟩⟩, fun j hj => ?_, fun j hj => ?_, fun k hk' => ⟨(h.la hk').1, al2 _ (h.la hk').1 (h.la hk').2⟩, h.2.2.2.2.2.2⟩
  · have hj' : j < mt_n τ := hj
    obtain ⟨q1, q2, q3, q4, q5, q6⟩ := h.cl hj'
    exact ⟨q1, (kp _ q1 _ _ q2 (cne q2 (by decide))).trans q2, q3, ⟨Nat.le_trans (cl _) q4.1, fun z hz => q4.2 z (Nat.lt_of_lt_of_le hz (cl _))⟩, ⟨Nat.le_trans (cl _) q5.1, fun z hz => q5.2 z (Nat.lt_of_lt_of_le hz (cl _))⟩, ⟨Nat.le_trans (cl _) q6.1, fun z hz => q6.2 z (Nat.lt_of_lt_of_le hz (cl _))⟩⟩
  · have hj' : j < mt_mn τ := hj
    obtain ⟨q1, q2, q3⟩ := h.me hj'
    exact ⟨q1, (kp _ q1 _ _ q2 (cne q2 (by decide))).trans q2, q3⟩
end GROW2
