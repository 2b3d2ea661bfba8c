/-! the pool grows: new cells, a list's next element -/
theorem jc.lt {e0 sz : Nat} {L : List Nat} {U : State} {H : Heap} (h : jc e0 (mA L sz) U H) : e0 ∉ L ∧ e0 < sz := by
  obtain ⟨-, _, -, -, -, -, -, -, h⟩ := h
  exact ⟨fun q => h (Or.inl q), Nat.lt_of_not_le (fun q => h (Or.inr q))⟩
def ls_ext (s : LSt) (E : List Nat) (e0 : Nat) : LSt := (fun y => if y ∈ E then e0 else ls_dat s y, fun y => if y ∈ E then 0 else ls_cnt s y, fun y => if y ∈ E then 0 else ls_cap s y, ls_con s)
theorem LY.ext {e0 : Nat} {cO : ClassId} {L : List Nat} {f : Nat → va_E} {s : LSt} (h : LY e0 cO L f s) {E : List Nat} {f' : Nat → va_E} (he : ∀ y, y ∈ E → y ∉ L ∧ y ≠ e0) (hf : ∀ y, y ∈ L → f' y = f y) (hn : ∀ y, y ∈ E → isAL f' y → ∃ mc, f' y = alc mc e0 0) : LY e0 cO (L ++ E) f' (ls_ext s E e0) := by
  obtain ⟨h0, h1, h2⟩ := h
  have ne : ∀ y, y ∈ L → ¬ y ∈ E := fun y hy hE => (he y hE).1 hy
  have al : ∀ y, y ∈ L → isAL f' y → isAL f y := fun y hy hA => by
    obtain ⟨fs, q⟩ := hA
    exact ⟨fs, by rw [← hf y hy]; exact q⟩
  have mo : ∀ y, mobj L f y → mobj (L ++ E) f' y := by
    intro y ⟨q1, ci, fs, q2, q3⟩
    exact ⟨List.mem_append_left _ q1, ci, fs, by rw [hf y q1]; exact q2, q3⟩
  refine ⟨fun q => ?_, fun b hb hA => ?_, fun b b' hb hb' hA hA' e1 e2 => ?_⟩
  · rcases List.mem_append.mp q with q | q
    · exact h0 q
    · exact (he _ q).2 rfl
  · rcases List.mem_append.mp hb with q | q
    · obtain ⟨⟨mc, q1⟩, q2, q3⟩ := h1 b q (al b q hA)
      simp only [ls_ext, ls_dat, ls_cnt, ls_cap, ls_con, if_neg (ne b q)]
      refine ⟨⟨mc, by rw [hf b q]; exact q1⟩, ?_, fun i hi => mo _ (q3 i hi)⟩
      rcases q2 with q2 | ⟨p1, p2, p3, p4, g, p5, p6⟩
      · exact Or.inl q2
      · exact Or.inr ⟨List.mem_append_left _ p1, p2, p3, p4, g, by rw [hf _ p1]; exact p5, p6⟩
    · obtain ⟨mc, q1⟩ := hn b q hA
      simp only [ls_ext, ls_dat, ls_cnt, ls_cap, ls_con, if_pos q]
      exact ⟨⟨mc, q1⟩, Or.inl (by simp), fun i hi => absurd hi (by omega)⟩
  · have inL : ∀ y, y ∈ L ++ E → ls_dat (ls_ext s E e0) y ≠ e0 → y ∈ L := by
      intro y hy hne
      rcases List.mem_append.mp hy with q | q
      · exact q
      · exact absurd (show ls_dat (ls_ext s E e0) y = e0 by simp only [ls_ext, ls_dat, if_pos q]) hne
    have b1 := inL b hb e2
    have b2 := inL b' hb' (by rw [← e1]; exact e2)
    simp only [ls_ext, ls_dat, if_neg (ne b b1), if_neg (ne b' b2)] at e1 e2
    exact h2 b b' b1 b2 (al b b1 hA) (al b' b2 hA') e1 e2
/-- the cells that a list's add leaves as they are -/
theorem al_keep {e0 : Nat} {cO : ClassId} {L : List Nat} {f : Nat → va_E} {s : LSt} (h : LY e0 cO L f s) {b x k n : Nat} {mc : Int32} {g : Nat → Option Nat} {u : PS} (hb : b ∈ L) (hal : isAL f b) (hu : alPost cO L f b (ls_dat s b) (ls_cnt s b) n k g mc x u) {y : Nat} (hy : y ∈ L) (hA : isAL f y) : isAL u.2 y := by
  obtain ⟨d2, n2, g2, hL, ha, hd, hc, h1, h2, h3⟩ := hu
  by_cases e : y = b
  · rw [e]; exact ⟨_, ha⟩
  · have hyd : y ≠ d2 := by
      rcases hL with ⟨-, e2, -, e4⟩ | ⟨-, e2, -, -⟩
      · intro q
        rcases (h.2.1 b hb hal).2.1 with ⟨p, -⟩ | ⟨-, -, -, -, g', p, -⟩
        · exact h.1 (by rw [← p]; exact e4)
        · obtain ⟨fs, hA⟩ := hA
          rw [q, e2, p] at hA
          cases hA
      · intro q
        exact e2 (q ▸ hy)
    obtain ⟨fs, hA⟩ := hA
    exact ⟨fs, by rw [h3 y e hyd]; exact hA⟩
def mt_setls (τ : MT) (s : LSt) : MT := (τ.1, τ.2.1, τ.2.2.1, s)
def mt_setal (τ : MT) (g : Nat → Nat → Nat) : MT := ((τ.1.1, τ.1.2.1, τ.1.2.2.1, τ.1.2.2.2.1, τ.1.2.2.2.2.1, τ.1.2.2.2.2.2.1, τ.1.2.2.2.2.2.2.1, (mt_fl τ, mt_ml τ, g)), τ.2)
def mt_setfl (τ : MT) (g : Nat → Nat → Nat) : MT := ((τ.1.1, τ.1.2.1, τ.1.2.2.1, τ.1.2.2.2.1, τ.1.2.2.2.2.1, τ.1.2.2.2.2.2.1, τ.1.2.2.2.2.2.2.1, (g, mt_ml τ, mt_al τ)), τ.2)
theorem MI.core {e0 : Nat} {cO : ClassId} {L : List Nat} {f : Nat → va_E} {τ : MT} (h : MI e0 cO L f τ) {kb : Nat} (hkb : kb < 2 + 3 * mt_n τ) {b x sz : Nat} (hbe : b = mt_la τ kb) {mc mc0 : Int32} {g : Nat → Option Nat} {u : PS} (hf : f b = alc mc0 (ls_dat (mt_ls τ) b) (ls_cnt (mt_ls τ) b)) (hg : ∀ i, i < ls_cnt (mt_ls τ) b → g i = some (ls_con (mt_ls τ) b i)) (hx : mobj L f x) (he : e0 < sz) (hp : pext L sz u.1) (hk : ls_cnt (mt_ls τ) b < 400) (hu : alPost cO L f b (ls_dat (mt_ls τ) b) (ls_cnt (mt_ls τ) b) (ls_cap (mt_ls τ) b) (ls_grow (mt_ls τ) b) g mc x u) : ∃ d2 n2, LY e0 cO u.1 u.2 (ls_add (mt_ls τ) b x d2 n2) ∧ ((n2 = ls_cap (mt_ls τ) b ∧ ls_cnt (mt_ls τ) b < ls_cap (mt_ls τ) b) ∨ (n2 = ls_grow (mt_ls τ) b ∧ ls_cnt (mt_ls τ) b = ls_cap (mt_ls τ) b)) ∧ (mt_x τ ∈ u.1 ∧ u.2 (mt_x τ) = xcell (mt_c τ) (mt_m τ) (mt_mark τ)) ∧ (∀ i, i < mt_n τ → mt_ca τ i ∈ u.1 ∧ u.2 (mt_ca τ i) = f (mt_ca τ i)) ∧ (∀ j, j < mt_mn τ → mt_ja τ j ∈ u.1 ∧ u.2 (mt_ja τ j) = f (mt_ja τ j)) ∧ (∀ k, k < 2 + 3 * mt_n τ → mt_la τ k ∈ u.1 ∧ isAL u.2 (mt_la τ k)) ∧ (∀ k, k < 2 + 3 * mt_n τ → k ≠ kb → mt_la τ k ≠ b) := by
  have hbL := h.la hkb
  rw [← hbe] at hbL
  obtain ⟨d2, n2, q1, q2, q3, q4⟩ := h.ly.add hbL.1 hf hg hx he hp hk hu
  refine ⟨d2, n2, q1, q2, ⟨hp.mem h.x.1, ?_⟩, fun i hi => ⟨hp.mem (h.cl hi).1, ?_⟩, fun j hj => ⟨hp.mem (h.me hj).1, ?_⟩, fun k hk => ⟨hp.mem (h.la hk).1, al_keep h.ly hbL.1 hbL.2 hu (h.la hk).1 (h.la hk).2⟩, fun k hk hne e => hne (h.2.2.2.2.2.2 k kb hk hkb (e.trans hbe))⟩
  · refine (q3 _ h.x.1 ?_ ?_).trans h.x.2
    · rintro ⟨fs, q⟩
      rw [h.x.2] at q
      cases q
    · intro n g q
      rw [h.x.2] at q
      cases q
  · refine q3 _ (h.cl hi).1 ?_ ?_
    · rintro ⟨fs, q⟩
      rw [(h.cl hi).2.1] at q
      cases q
    · intro n g q
      rw [(h.cl hi).2.1] at q
      cases q
  · refine q3 _ (h.me hj).1 ?_ ?_
    · rintro ⟨fs, q⟩
      rw [(h.me hj).2.1] at q
      cases q
    · intro n g q
      rw [(h.me hj).2.1] at q
      cases q
section ADDS
variable {e0 : Nat} {cO : ClassId} {L : List Nat} {f : Nat → va_E} {τ : MT}
theorem MI.mca (h : MI e0 cO L f τ) {i : Nat} (hi : i < mt_n τ) : mobj L f (mt_ca τ i) := ⟨(h.cl hi).1, 4, _, (h.cl hi).2.1, Or.inl rfl⟩
theorem ls_add_ne (s : LSt) {b x d2 n2 y : Nat} (hy : y ≠ b) : ls_cnt (ls_add s b x d2 n2) y = ls_cnt s y ∧ ls_con (ls_add s b x d2 n2) y = ls_con s y := ⟨va_up_ne _ _ hy, va_up_ne _ _ hy⟩
theorem ls_add_self (s : LSt) (b x d2 n2 : Nat) : ls_cnt (ls_add s b x d2 n2) b = ls_cnt s b + 1 ∧ ls_con (ls_add s b x d2 n2) b = va_up (ls_con s b) (ls_cnt s b) x := ⟨va_up_self _ _ _, va_up_self _ _ _⟩
/-- the list of all faces of class i takes class k -/
theorem MI.addA (h : MI e0 cO L f τ) {i k : Nat} (hi : i < mt_n τ) (hk : k < mt_n τ) {sz : Nat} {mc mc0 : Int32} {g : Nat → Option Nat} {u : PS} (hf : f (mt_aa τ i) = alc mc0 (ls_dat (mt_ls τ) (mt_aa τ i)) (ls_cnt (mt_ls τ) (mt_aa τ i))) (hg : ∀ j, j < ls_cnt (mt_ls τ) (mt_aa τ i) → g j = some (ls_con (mt_ls τ) (mt_aa τ i) j)) (he : e0 < sz) (hp : pext L sz u.1) (hc : mt_cnt τ (mt_aa τ i) < 60) (hu : alPost cO L f (mt_aa τ i) (ls_dat (mt_ls τ) (mt_aa τ i)) (ls_cnt (mt_ls τ) (mt_aa τ i)) (ls_cap (mt_ls τ) (mt_aa τ i)) (ls_grow (mt_ls τ) (mt_aa τ i)) g mc (mt_ca τ k) u) : ∃ d2 n2, MI e0 cO u.1 u.2 (mt_setls (mt_setal τ (va_up (mt_al τ) i (va_up (mt_al τ i) (mt_cnt τ (mt_aa τ i)) k))) (ls_add (mt_ls τ) (mt_aa τ i) (mt_ca τ k) d2 n2)) := by
  obtain ⟨d2, n2, c1, -, c3, c4, c5, c6, c7⟩ := h.core (kb := 4 + 3 * i) (by omega) (mt_laa τ i).symm hf hg (h.mca hk) he hp (by have : ls_cnt (mt_ls τ) (mt_aa τ i) < 60 := hc; omega) hu
  have nf : ∀ j, j < mt_n τ → mt_fa τ j ≠ mt_aa τ i := fun j hj => by have := c7 (2 + 3 * j) (by omega) (by omega); rwa [mt_laf] at this
  have nm : ∀ j, j < mt_n τ → mt_ma τ j ≠ mt_aa τ i := fun j hj => by have := c7 (3 + 3 * j) (by omega) (by omega); rwa [mt_lam] at this
  have na : ∀ j, j < mt_n τ → j ≠ i → mt_aa τ j ≠ mt_aa τ i := fun j hj hne => by have := c7 (4 + 3 * j) (by omega) (by omega); rwa [mt_laa] at this
  have nc : mt_c τ ≠ mt_aa τ i := c7 0 (by omega) (by omega)
  have nM : mt_m τ ≠ mt_aa τ i := c7 1 (by omega) (by omega)
  refine ⟨d2, n2, c1, c3, ⟨h.b, ?_, ?_⟩, fun j hj => ?_, fun j hj => ?_, c6, h.2.2.2.2.2.2⟩
  · have e := ls_add_ne (mt_ls τ) (x := mt_ca τ k) (d2 := d2) (n2 := n2) nc
    exact ⟨e.1.trans h.cs.1, fun j hj => (congrFun e.2 j).trans (h.cs.2 j hj)⟩
  · have e := ls_add_ne (mt_ls τ) (x := mt_ca τ k) (d2 := d2) (n2 := n2) nM
    exact ⟨e.1.trans h.ms.1, fun j hj => (congrFun e.2 j).trans (h.ms.2 j hj)⟩
  · have hj' : j < mt_n τ := hj
    obtain ⟨q1, q2, q3, q4, q5, q6⟩ := h.cl hj'
    have e1 := ls_add_ne (mt_ls τ) (x := mt_ca τ k) (d2 := d2) (n2 := n2) (nf j hj')
    have e2 := ls_add_ne (mt_ls τ) (x := mt_ca τ k) (d2 := d2) (n2 := n2) (nm j hj')
    refine ⟨(c4 j hj').1, (c4 j hj').2.trans q2, q3, ⟨Nat.le_trans (Nat.le_of_eq e1.1) q4.1, fun z hz => ?_⟩, ⟨Nat.le_trans (Nat.le_of_eq e2.1) q5.1, fun z hz => ?_⟩, ?_⟩
    · have hz' : z < ls_cnt (mt_ls τ) (mt_fa τ j) := Nat.lt_of_lt_of_eq hz e1.1
      exact ⟨(q4.2 z hz').1, (congrFun e1.2 z).trans (q4.2 z hz').2⟩
    · have hz' : z < ls_cnt (mt_ls τ) (mt_ma τ j) := Nat.lt_of_lt_of_eq hz e2.1
      exact ⟨(q5.2 z hz').1, (congrFun e2.2 z).trans (q5.2 z hz').2⟩
    · by_cases e : j = i
      · subst e
        have e3 := ls_add_self (mt_ls τ) (mt_aa τ j) (mt_ca τ k) d2 n2
        refine ⟨Nat.le_trans (Nat.le_of_eq e3.1) hc, fun z hz => ?_⟩
        have hz' : z < ls_cnt (mt_ls τ) (mt_aa τ j) + 1 := Nat.lt_of_lt_of_eq hz e3.1
        show va_up (mt_al τ) j (va_up (mt_al τ j) (mt_cnt τ (mt_aa τ j)) k) j z < mt_n τ ∧ ls_con (ls_add (mt_ls τ) (mt_aa τ j) (mt_ca τ k) d2 n2) (mt_aa τ j) z = mt_ca τ (va_up (mt_al τ) j (va_up (mt_al τ j) (mt_cnt τ (mt_aa τ j)) k) j z)
        rw [e3.2, va_up_self]
        by_cases ez : z = ls_cnt (mt_ls τ) (mt_aa τ j)
        · rw [ez, va_up_self, va_up_self]
          exact ⟨hk, rfl⟩
        · rw [va_up_ne _ _ ez, va_up_ne _ _ ez]
          exact q6.2 z (show z < ls_cnt (mt_ls τ) (mt_aa τ j) by omega)
      · have e3 := ls_add_ne (mt_ls τ) (x := mt_ca τ k) (d2 := d2) (n2 := n2) (na j hj' e)
        refine ⟨Nat.le_trans (Nat.le_of_eq e3.1) q6.1, fun z hz => ?_⟩
        have hz' : z < ls_cnt (mt_ls τ) (mt_aa τ j) := Nat.lt_of_lt_of_eq hz e3.1
        show va_up (mt_al τ) i _ j z < mt_n τ ∧ ls_con (ls_add (mt_ls τ) (mt_aa τ i) (mt_ca τ k) d2 n2) (mt_aa τ j) z = mt_ca τ (va_up (mt_al τ) i _ j z)
        rw [va_up_ne _ _ e, e3.2]
        exact q6.2 z hz'
  · have hj' : j < mt_mn τ := hj
    obtain ⟨q1, q2, q3⟩ := h.me hj'
    exact ⟨(c5 j hj').1, (c5 j hj').2.trans q2, q3⟩
/-- the list of own faces of class i takes class k -/
theorem MI.addF (h : MI e0 cO L f τ) {i k : Nat} (hi : i < mt_n τ) (hk : k < i) {sz : Nat} {mc mc0 : Int32} {g : Nat → Option Nat} {u : PS} (hf : f (mt_fa τ i) = alc mc0 (ls_dat (mt_ls τ) (mt_fa τ i)) (ls_cnt (mt_ls τ) (mt_fa τ i))) (hg : ∀ j, j < ls_cnt (mt_ls τ) (mt_fa τ i) → g j = some (ls_con (mt_ls τ) (mt_fa τ i) j)) (he : e0 < sz) (hp : pext L sz u.1) (hc : mt_cnt τ (mt_fa τ i) < 20) (hu : alPost cO L f (mt_fa τ i) (ls_dat (mt_ls τ) (mt_fa τ i)) (ls_cnt (mt_ls τ) (mt_fa τ i)) (ls_cap (mt_ls τ) (mt_fa τ i)) (ls_grow (mt_ls τ) (mt_fa τ i)) g mc (mt_ca τ k) u) : ∃ d2 n2, MI e0 cO u.1 u.2 (mt_setls (mt_setfl τ (va_up (mt_fl τ) i (va_up (mt_fl τ i) (mt_cnt τ (mt_fa τ i)) k))) (ls_add (mt_ls τ) (mt_fa τ i) (mt_ca τ k) d2 n2)) := by
  obtain ⟨d2, n2, c1, -, c3, c4, c5, c6, c7⟩ := h.core (kb := 2 + 3 * i) (by omega) (mt_laf τ i).symm hf hg (h.mca (by omega)) he hp (by have : ls_cnt (mt_ls τ) (mt_fa τ i) < 20 := hc; omega) hu
  have na : ∀ j, j < mt_n τ → mt_aa τ j ≠ mt_fa τ i := fun j hj => by have := c7 (4 + 3 * j) (by omega) (by omega); rwa [mt_laa] at this
  have nm : ∀ j, j < mt_n τ → mt_ma τ j ≠ mt_fa τ i := fun j hj => by have := c7 (3 + 3 * j) (by omega) (by omega); rwa [mt_lam] at this
  have nf : ∀ j, j < mt_n τ → j ≠ i → mt_fa τ j ≠ mt_fa τ i := fun j hj hne => by have := c7 (2 + 3 * j) (by omega) (by omega); rwa [mt_laf] at this
  have nc : mt_c τ ≠ mt_fa τ i := c7 0 (by omega) (by omega)
  have nM : mt_m τ ≠ mt_fa τ i := c7 1 (by omega) (by omega)
  refine ⟨d2, n2, c1, c3, ⟨h.b, ?_, ?_⟩, fun j hj => ?_, fun j hj => ?_, c6, h.2.2.2.2.2.2⟩
  · have e := ls_add_ne (mt_ls τ) (x := mt_ca τ k) (d2 := d2) (n2 := n2) nc
    exact ⟨e.1.trans h.cs.1, fun j hj => (congrFun e.2 j).trans (h.cs.2 j hj)⟩
  · have e := ls_add_ne (mt_ls τ) (x := mt_ca τ k) (d2 := d2) (n2 := n2) nM
    exact ⟨e.1.trans h.ms.1, fun j hj => (congrFun e.2 j).trans (h.ms.2 j hj)⟩
  · have hj' : j < mt_n τ := hj
    obtain ⟨q1, q2, q3, q4, q5, q6⟩ := h.cl hj'
    have e1 := ls_add_ne (mt_ls τ) (x := mt_ca τ k) (d2 := d2) (n2 := n2) (na j hj')
    have e2 := ls_add_ne (mt_ls τ) (x := mt_ca τ k) (d2 := d2) (n2 := n2) (nm j hj')
    refine ⟨(c4 j hj').1, (c4 j hj').2.trans q2, q3, ?_, ⟨Nat.le_trans (Nat.le_of_eq e2.1) q5.1, fun z hz => ?_⟩, ⟨Nat.le_trans (Nat.le_of_eq e1.1) q6.1, fun z hz => ?_⟩⟩
    · by_cases e : j = i
      · subst e
        have e3 := ls_add_self (mt_ls τ) (mt_fa τ j) (mt_ca τ k) d2 n2
        refine ⟨Nat.le_trans (Nat.le_of_eq e3.1) hc, fun z hz => ?_⟩
        have hz' : z < ls_cnt (mt_ls τ) (mt_fa τ j) + 1 := Nat.lt_of_lt_of_eq hz e3.1
        show va_up (mt_fl τ) j (va_up (mt_fl τ j) (mt_cnt τ (mt_fa τ j)) k) j z < j ∧ ls_con (ls_add (mt_ls τ) (mt_fa τ j) (mt_ca τ k) d2 n2) (mt_fa τ j) z = mt_ca τ (va_up (mt_fl τ) j (va_up (mt_fl τ j) (mt_cnt τ (mt_fa τ j)) k) j z)
        rw [e3.2, va_up_self]
        by_cases ez : z = ls_cnt (mt_ls τ) (mt_fa τ j)
        · rw [ez, va_up_self, va_up_self]
          exact ⟨hk, rfl⟩
        · rw [va_up_ne _ _ ez, va_up_ne _ _ ez]
          exact q4.2 z (show z < ls_cnt (mt_ls τ) (mt_fa τ j) by omega)
      · have e3 := ls_add_ne (mt_ls τ) (x := mt_ca τ k) (d2 := d2) (n2 := n2) (nf j hj' e)
        refine ⟨Nat.le_trans (Nat.le_of_eq e3.1) q4.1, fun z hz => ?_⟩
        have hz' : z < ls_cnt (mt_ls τ) (mt_fa τ j) := Nat.lt_of_lt_of_eq hz e3.1
        show va_up (mt_fl τ) i _ j z < j ∧ ls_con (ls_add (mt_ls τ) (mt_fa τ i) (mt_ca τ k) d2 n2) (mt_fa τ j) z = mt_ca τ (va_up (mt_fl τ) i _ j z)
        rw [va_up_ne _ _ e, e3.2]
        exact q4.2 z hz'
    · have hz' : z < ls_cnt (mt_ls τ) (mt_ma τ j) := Nat.lt_of_lt_of_eq hz e2.1
      exact ⟨(q5.2 z hz').1, (congrFun e2.2 z).trans (q5.2 z hz').2⟩
    · have hz' : z < ls_cnt (mt_ls τ) (mt_aa τ j) := Nat.lt_of_lt_of_eq hz e1.1
      exact ⟨(q6.2 z hz').1, (congrFun e1.2 z).trans (q6.2 z hz').2⟩
  · have hj' : j < mt_mn τ := hj
    obtain ⟨q1, q2, q3⟩ := h.me hj'
    exact ⟨(c5 j hj').1, (c5 j hj').2.trans q2, q3⟩
end ADDS
