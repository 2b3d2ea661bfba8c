section LR
variable {p : Program} {l : Launch} {e : Env} {R : Room} {s : State} {m : MethodId} {args : Array Value} {below : List Frame} {meth : Method} {c : Code} {H : Heap} {locs : List Loc} {cells slots : Nat} {Q : State → Prop} {cc : ByteArray} {pc : Nat} {ls : Array Slot} {rest : List Value}
theorem lv_astore_nR (hexec : p.tables.exec = Jvm.exec) (hb : c.code = cc) {k : Fin 4} {i nL : Nat} {r : Option Nat} {lv lv' : List (Nat × Value)} (hdg : decode cc pc = .ok (.astore_n k, 1)) (hi : (k : Nat) = i) (h : lv_has ls nL lv) (hn : i < nL) (hl : (i, va_rf r) :: lv.filter (fun q => !(q.1 == i) && !(q.1 + 1 == i && q.2.category == 2)) = lv')
    (kk : ∀ ls' : Array Slot, lv_has ls' nL lv' → W p l e R s m args below meth c H locs cells slots Q (F0 m (pc + 1) ls' rest)) : W p l e R s m args below meth c H locs cells slots Q (F0 m pc ls (va_rf r :: rest)) := by
  cases r with
  | none => exact lv_astore_nN hexec hb hdg hi h hn hl kk
  | some x => exact lv_astore_n hexec hb hdg hi h hn hl kk
theorem lv_astoreR (hexec : p.tables.exec = Jvm.exec) (hb : c.code = cc) {i nL : Nat} {r : Option Nat} {lv lv' : List (Nat × Value)} (hdg : decode cc pc = .ok (.astore i, 2)) (h : lv_has ls nL lv) (hn : i < nL) (hl : (i, va_rf r) :: lv.filter (fun q => !(q.1 == i) && !(q.1 + 1 == i && q.2.category == 2)) = lv')
    (kk : ∀ ls' : Array Slot, lv_has ls' nL lv' → W p l e R s m args below meth c H locs cells slots Q (F0 m (pc + 2) ls' rest)) : W p l e R s m args below meth c H locs cells slots Q (F0 m pc ls (va_rf r :: rest)) := by
  cases r with
  | none => exact lv_astoreN hexec hb hdg h hn hl kk
  | some x => exact lv_astore hexec hb hdg h hn hl kk
theorem lv_aload_nR (hexec : p.tables.exec = Jvm.exec) (hb : c.code = cc) {k : Fin 4} {i : Nat} {r : Option Nat} (hdg : decode cc pc = .ok (.aload_n k, 1)) (hi : (k : Nat) = i) (hl : ls[i]? = some (.val (va_rf r)))
    (kk : W p l e R s m args below meth c H locs cells slots Q (F0 m (pc + 1) ls (va_rf r :: rest))) : W p l e R s m args below meth c H locs cells slots Q (F0 m pc ls (rest)) := by
  cases r with
  | none => exact lv_aload_nN hexec hb hdg hi hl kk
  | some x => exact lv_aload_n hexec hb hdg hi hl kk
theorem lv_aloadR (hexec : p.tables.exec = Jvm.exec) (hb : c.code = cc) {i : Nat} {r : Option Nat} (hdg : decode cc pc = .ok (.aload i, 2)) (hl : ls[i]? = some (.val (va_rf r)))
    (kk : W p l e R s m args below meth c H locs cells slots Q (F0 m (pc + 2) ls (va_rf r :: rest))) : W p l e R s m args below meth c H locs cells slots Q (F0 m pc ls (rest)) := by
  cases r with
  | none => exact lv_aloadN hexec hb hdg hl kk
  | some x => exact lv_aload hexec hb hdg hl kk
end LR
/-! the model's picture -/
abbrev ccell (i : Nat) (pk : Int32) (pr : Option Nat) (fc : Int32) (fa ma aa : Nat) (pt mk : Int32) : va_E := .inr (4, [.int (nI i), .int pk, va_rf pr, .int fc, .ref fa, .ref ma, .ref aa, .int pt, .int mk])
abbrev mcell (j : Nat) (nm si : Int32) (ow : Nat) (st fi ab : Int32) : va_E := .inr (5, [.int (nI j), .int nm, .int si, .ref ow, .int st, .int fi, .int ab])
abbrev xcell (c0 m0 : Nat) (mk : Int32) : va_E := .inr (6, [.ref c0, .ref m0, .int mk])
/-- classes: how many, where, package, parent, face, faces' list, methods' list, all's list, put, mark, and what these lists hold by number -/
abbrev MTc : Type := Nat × (Nat → Nat) × (Nat → Int32) × (Nat → Option Nat) × (Nat → Int32) × ((Nat → Nat) × (Nat → Nat) × (Nat → Nat)) × ((Nat → Int32) × (Nat → Int32)) × ((Nat → Nat → Nat) × (Nat → Nat → Nat) × (Nat → Nat → Nat))
/-- methods: how many, where, name, sight, owner, static, final, abstract -/
abbrev MTm : Type := Nat × (Nat → Nat) × (Nat → Int32) × (Nat → Int32) × (Nat → Nat) × (Nat → Int32) × (Nat → Int32) × (Nat → Int32)
/-- the object, its two lists, its mark; the lists -/
abbrev MT : Type := MTc × MTm × (Nat × Nat × Nat × Int32) × LSt
abbrev mt_n (τ : MT) : Nat := τ.1.1
abbrev mt_ca (τ : MT) : Nat → Nat := τ.1.2.1
abbrev mt_pk (τ : MT) : Nat → Int32 := τ.1.2.2.1
abbrev mt_pr (τ : MT) : Nat → Option Nat := τ.1.2.2.2.1
abbrev mt_fc (τ : MT) : Nat → Int32 := τ.1.2.2.2.2.1
abbrev mt_fa (τ : MT) : Nat → Nat := τ.1.2.2.2.2.2.1.1
abbrev mt_ma (τ : MT) : Nat → Nat := τ.1.2.2.2.2.2.1.2.1
abbrev mt_aa (τ : MT) : Nat → Nat := τ.1.2.2.2.2.2.1.2.2
abbrev mt_pt (τ : MT) : Nat → Int32 := τ.1.2.2.2.2.2.2.1.1
abbrev mt_mk (τ : MT) : Nat → Int32 := τ.1.2.2.2.2.2.2.1.2
abbrev mt_fl (τ : MT) : Nat → Nat → Nat := τ.1.2.2.2.2.2.2.2.1
abbrev mt_ml (τ : MT) : Nat → Nat → Nat := τ.1.2.2.2.2.2.2.2.2.1
abbrev mt_al (τ : MT) : Nat → Nat → Nat := τ.1.2.2.2.2.2.2.2.2.2
abbrev mt_mn (τ : MT) : Nat := τ.2.1.1
abbrev mt_ja (τ : MT) : Nat → Nat := τ.2.1.2.1
abbrev mt_nm (τ : MT) : Nat → Int32 := τ.2.1.2.2.1
abbrev mt_si (τ : MT) : Nat → Int32 := τ.2.1.2.2.2.1
abbrev mt_ow (τ : MT) : Nat → Nat := τ.2.1.2.2.2.2.1
abbrev mt_st (τ : MT) : Nat → Int32 := τ.2.1.2.2.2.2.2.1
abbrev mt_fi (τ : MT) : Nat → Int32 := τ.2.1.2.2.2.2.2.2.1
abbrev mt_ab (τ : MT) : Nat → Int32 := τ.2.1.2.2.2.2.2.2.2
abbrev mt_x (τ : MT) : Nat := τ.2.2.1.1
abbrev mt_c (τ : MT) : Nat := τ.2.2.1.2.1
abbrev mt_m (τ : MT) : Nat := τ.2.2.1.2.2.1
abbrev mt_mark (τ : MT) : Int32 := τ.2.2.1.2.2.2
abbrev mt_ls (τ : MT) : LSt := τ.2.2.2
abbrev mt_cnt (τ : MT) (b : Nat) : Nat := ls_cnt (mt_ls τ) b
abbrev mt_con (τ : MT) (b i : Nat) : Nat := ls_con (mt_ls τ) b i
/-- the lists by number: 0 the classes, 1 the methods, 2 + 3 i .. of class i -/
def mt_la (τ : MT) (k : Nat) : Nat := if k = 0 then mt_c τ else if k = 1 then mt_m τ else if (k - 2) % 3 = 0 then mt_fa τ ((k - 2) / 3) else if (k - 2) % 3 = 1 then mt_ma τ ((k - 2) / 3) else mt_aa τ ((k - 2) / 3)
def MIc (L : List Nat) (f : Nat → va_E) (τ : MT) (i : Nat) : Prop :=
  mt_ca τ i ∈ L ∧ f (mt_ca τ i) = ccell i (mt_pk τ i) ((mt_pr τ i).map (mt_ca τ)) (mt_fc τ i) (mt_fa τ i) (mt_ma τ i) (mt_aa τ i) (mt_pt τ i) (mt_mk τ i) ∧ (∀ p, mt_pr τ i = some p → p < i)
  ∧ (mt_cnt τ (mt_fa τ i) ≤ 20 ∧ ∀ k, k < mt_cnt τ (mt_fa τ i) → mt_fl τ i k < i ∧ mt_con τ (mt_fa τ i) k = mt_ca τ (mt_fl τ i k))
  ∧ (mt_cnt τ (mt_ma τ i) ≤ mt_mn τ ∧ ∀ k, k < mt_cnt τ (mt_ma τ i) → mt_ml τ i k < mt_mn τ ∧ mt_con τ (mt_ma τ i) k = mt_ja τ (mt_ml τ i k))
  ∧ (mt_cnt τ (mt_aa τ i) ≤ 60 ∧ ∀ k, k < mt_cnt τ (mt_aa τ i) → mt_al τ i k < mt_n τ ∧ mt_con τ (mt_aa τ i) k = mt_ca τ (mt_al τ i k))
def MIm (L : List Nat) (f : Nat → va_E) (τ : MT) (j : Nat) : Prop :=
  mt_ja τ j ∈ L ∧ f (mt_ja τ j) = mcell j (mt_nm τ j) (mt_si τ j) (mt_ca τ (mt_ow τ j)) (mt_st τ j) (mt_fi τ j) (mt_ab τ j) ∧ mt_ow τ j < mt_n τ
/-- the pool holds the model with the picture τ -/
def MI (e0 : Nat) (cO : ClassId) (L : List Nat) (f : Nat → va_E) (τ : MT) : Prop :=
  LY e0 cO L f (mt_ls τ) ∧ (mt_x τ ∈ L ∧ f (mt_x τ) = xcell (mt_c τ) (mt_m τ) (mt_mark τ))
  ∧ ((1 ≤ mt_n τ ∧ mt_n τ ≤ 60 ∧ mt_mn τ ≤ 400) ∧ (mt_cnt τ (mt_c τ) = mt_n τ ∧ ∀ i, i < mt_n τ → mt_con τ (mt_c τ) i = mt_ca τ i) ∧ (mt_cnt τ (mt_m τ) = mt_mn τ ∧ ∀ j, j < mt_mn τ → mt_con τ (mt_m τ) j = mt_ja τ j))
  ∧ (∀ i, i < mt_n τ → MIc L f τ i) ∧ (∀ j, j < mt_mn τ → MIm L f τ j)
  ∧ (∀ k, k < 2 + 3 * mt_n τ → mt_la τ k ∈ L ∧ isAL f (mt_la τ k)) ∧ (∀ k k', k < 2 + 3 * mt_n τ → k' < 2 + 3 * mt_n τ → mt_la τ k = mt_la τ k' → k = k')
theorem mt_la0 (τ : MT) : mt_la τ 0 = mt_c τ := rfl
theorem mt_la1 (τ : MT) : mt_la τ 1 = mt_m τ := rfl
theorem mt_laf (τ : MT) (i : Nat) : mt_la τ (2 + 3 * i) = mt_fa τ i := by
  unfold mt_la
  rw [if_neg (by omega), if_neg (by omega), if_pos (by omega), show (2 + 3 * i - 2) / 3 = i by omega]
theorem mt_lam (τ : MT) (i : Nat) : mt_la τ (3 + 3 * i) = mt_ma τ i := by
  unfold mt_la
  rw [if_neg (by omega), if_neg (by omega), if_neg (by omega), if_pos (by omega), show (3 + 3 * i - 2) / 3 = i by omega]
theorem mt_laa (τ : MT) (i : Nat) : mt_la τ (4 + 3 * i) = mt_aa τ i := by
  unfold mt_la
  rw [if_neg (by omega), if_neg (by omega), if_neg (by omega), if_neg (by omega), show (4 + 3 * i - 2) / 3 = i by omega]
section MIA
variable {e0 : Nat} {cO : ClassId} {L : List Nat} {f : Nat → va_E} {τ : MT}
theorem MI.ly (h : MI e0 cO L f τ) : LY e0 cO L f (mt_ls τ) := h.1
theorem MI.x (h : MI e0 cO L f τ) : mt_x τ ∈ L ∧ f (mt_x τ) = xcell (mt_c τ) (mt_m τ) (mt_mark τ) := h.2.1
theorem MI.b (h : MI e0 cO L f τ) : 1 ≤ mt_n τ ∧ mt_n τ ≤ 60 ∧ mt_mn τ ≤ 400 := h.2.2.1.1
theorem MI.cs (h : MI e0 cO L f τ) : mt_cnt τ (mt_c τ) = mt_n τ ∧ ∀ i, i < mt_n τ → mt_con τ (mt_c τ) i = mt_ca τ i := h.2.2.1.2.1
theorem MI.ms (h : MI e0 cO L f τ) : mt_cnt τ (mt_m τ) = mt_mn τ ∧ ∀ j, j < mt_mn τ → mt_con τ (mt_m τ) j = mt_ja τ j := h.2.2.1.2.2
theorem MI.cl (h : MI e0 cO L f τ) {i : Nat} (hi : i < mt_n τ) : MIc L f τ i := h.2.2.2.1 i hi
theorem MI.me (h : MI e0 cO L f τ) {j : Nat} (hj : j < mt_mn τ) : MIm L f τ j := h.2.2.2.2.1 j hj
theorem MI.la (h : MI e0 cO L f τ) {k : Nat} (hk : k < 2 + 3 * mt_n τ) : mt_la τ k ∈ L ∧ isAL f (mt_la τ k) := h.2.2.2.2.2.1 k hk
theorem MI.c (h : MI e0 cO L f τ) : mt_c τ ∈ L ∧ isAL f (mt_c τ) := h.la (k := 0) (by omega)
theorem MI.m (h : MI e0 cO L f τ) : mt_m τ ∈ L ∧ isAL f (mt_m τ) := h.la (k := 1) (by omega)
theorem MI.fa (h : MI e0 cO L f τ) {i : Nat} (hi : i < mt_n τ) : mt_fa τ i ∈ L ∧ isAL f (mt_fa τ i) := by
  have := h.la (k := 2 + 3 * i) (by omega)
  rwa [mt_laf] at this
theorem MI.ma (h : MI e0 cO L f τ) {i : Nat} (hi : i < mt_n τ) : mt_ma τ i ∈ L ∧ isAL f (mt_ma τ i) := by
  have := h.la (k := 3 + 3 * i) (by omega)
  rwa [mt_lam] at this
theorem MI.aa (h : MI e0 cO L f τ) {i : Nat} (hi : i < mt_n τ) : mt_aa τ i ∈ L ∧ isAL f (mt_aa τ i) := by
  have := h.la (k := 4 + 3 * i) (by omega)
  rwa [mt_laa] at this
end MIA
/-- what a list's get needs -/
theorem LY.get {e0 : Nat} {cO : ClassId} {L : List Nat} {f : Nat → va_E} {s : LSt} (h : LY e0 cO L f s) {b i : Nat} (hb : b ∈ L) (hl : isAL f b) (hi : i < ls_cnt s b) : ∃ (mc : Int32) (g : Nat → Option Nat), f b = alc mc (ls_dat s b) (ls_cnt s b) ∧ ls_dat s b ∈ L ∧ f (ls_dat s b) = refs (ls_cap s b) g cO ∧ ls_cnt s b ≤ ls_cap s b ∧ ls_cap s b < 2 ^ 27 ∧ g i = some (ls_con s b i) := by
  obtain ⟨⟨mc, h1⟩, h2, -⟩ := h.2.1 b hb hl
  rcases h2 with ⟨-, h5, -⟩ | ⟨h4, h5, h6, h7, g, h8, h9⟩
  · omega
  · exact ⟨mc, g, h1, h4, h8, h7, by omega, h9 i hi⟩
/-- what the model's readers answer -/
def t_ati (τ : MT) (x : Int32) : Option Nat := if ¬ x < 0 ∧ ¬ nI (mt_n τ) ≤ x then some x.toNatClampNeg else none
def t_meti (τ : MT) (x : Int32) : Option Nat := if ¬ x < 0 ∧ ¬ nI (mt_mn τ) ≤ x then some x.toNatClampNeg else none
def t_at (τ : MT) (x : Int32) : Option Nat := (t_ati τ x).map (mt_ca τ)
def t_met (τ : MT) (x : Int32) : Option Nat := (t_meti τ x).map (mt_ja τ)
theorem t_ix {n j : Nat} {x : Int32} (hn : n < 2 ^ 31) (h : (if ¬ x < 0 ∧ ¬ nI n ≤ x then some x.toNatClampNeg else none) = some j) : j < n ∧ x = nI j := by
  split at h
  · rename_i hc
    obtain ⟨k, hk, e⟩ := ix_of (x := x) hn (by simp [hc.1, hc.2])
    have e2 := Option.some.inj h
    rw [e, nI_clamp (by omega)] at e2
    subst e2
    exact ⟨hk, e⟩
  · cases h
theorem t_ati_lt {e0 : Nat} {cO : ClassId} {L : List Nat} {f : Nat → va_E} {τ : MT} (hM : MI e0 cO L f τ) {x : Int32} {j : Nat} (h : t_ati τ x = some j) : j < mt_n τ := (t_ix (by have := hM.b; omega) h).1
theorem t_meti_lt {e0 : Nat} {cO : ClassId} {L : List Nat} {f : Nat → va_E} {τ : MT} (hM : MI e0 cO L f τ) {x : Int32} {j : Nat} (h : t_meti τ x = some j) : j < mt_mn τ := (t_ix (by have := hM.b; omega) h).1
def t_isName (x : Int32) : Bool := !decide (x < 0) && !decide (nI 32 ≤ x)
def t_scan (τ : MT) (i : Nat) (x : Int32) : Nat → Nat → Option Nat
  | 0, _ => none
  | n + 1, k => if mt_nm τ (mt_ml τ i k) = x then some (mt_ml τ i k) else t_scan τ i x n (k + 1)
/-- the method of a name in class i, by number; and its address -/
def t_idx (τ : MT) (i : Nat) (x : Int32) : Option Nat := t_scan τ i x (mt_cnt τ (mt_ma τ i)) 0
def t_named (τ : MT) (i : Nat) (x : Int32) : Option Nat := (t_idx τ i x).map (mt_ja τ)
theorem t_scan_lt {e0 : Nat} {cO : ClassId} {L : List Nat} {f : Nat → va_E} {τ : MT} (hM : MI e0 cO L f τ) {i : Nat} (hi : i < mt_n τ) (x : Int32) : ∀ n k, k + n ≤ mt_cnt τ (mt_ma τ i) → ∀ j, t_scan τ i x n k = some j → j < mt_mn τ
  | 0, _, _, _, h => by cases h
  | n + 1, k, hk, j, h => by
    unfold t_scan at h
    split at h
    · rw [← Option.some.inj h]
      exact ((hM.cl hi).2.2.2.2.1.2 k (by omega)).1
    · exact t_scan_lt hM hi x n (k + 1) (by omega) j h
theorem t_idx_lt {e0 : Nat} {cO : ClassId} {L : List Nat} {f : Nat → va_E} {τ : MT} (hM : MI e0 cO L f τ) {i : Nat} (hi : i < mt_n τ) {x : Int32} {j : Nat} (h : t_idx τ i x = some j) : j < mt_mn τ := t_scan_lt hM hi x _ 0 (by omega) j h
def t_hasF (τ : MT) (i y : Nat) : Nat → Nat → Bool
  | 0, _ => false
  | n + 1, k => if mt_ca τ (mt_fl τ i k) = mt_ca τ y then true else t_hasF τ i y n (k + 1)
def t_free (τ : MT) (j : Nat) : Bool := decide (mt_st τ j = 0) && !decide (mt_si τ j = nI 3)
/-- the walk up the parents in goesOver -/
def t_go (τ : MT) (b : Nat) (x : Int32) : Nat → Option Nat → Int32 → Bool
  | 0, _, _ => false
  | _ + 1, none, _ => false
  | n + 1, some p, q => if mt_ca τ p = mt_ca τ (mt_ow τ b) then false else match t_idx τ p x with
    | none => t_go τ b x n (mt_pr τ p) q
    | some j => if t_free τ j = false then t_go τ b x n (mt_pr τ p) q else if ¬ mt_si τ j = nI 1 ∧ ¬ mt_si τ j = nI 2 ∧ ((q >>> (mt_pk τ p &&& 31)) &&& nI 1) = 0 then t_go τ b x n (mt_pr τ p) q else if mt_pk τ p = mt_pk τ (mt_ow τ b) then true else t_go τ b x n (mt_pr τ p) (q ||| (nI 1 <<< (mt_pk τ p &&& 31)))
def t_over (τ : MT) (a b : Nat) : Bool := if ¬ mt_ca τ (mt_ow τ a) = mt_ca τ (mt_ow τ b) ∧ mt_nm τ a = mt_nm τ b ∧ t_free τ a = true ∧ t_free τ b = true then (if mt_si τ b = nI 1 ∨ mt_si τ b = nI 2 ∨ mt_pk τ (mt_ow τ a) = mt_pk τ (mt_ow τ b) then true else t_go τ b (mt_nm τ a) 61 (mt_pr τ (mt_ow τ a)) (nI 1 <<< (mt_pk τ (mt_ow τ a) &&& 31))) else false
def t_overrides (τ : MT) (x y : Int32) : Bool := match t_meti τ x with
  | none => false
  | some a => match t_meti τ y with
    | none => false
    | some b => t_over τ a b
def t_bp (τ : MT) (a : Nat) : Nat → Option Nat → Bool
  | 0, _ => false
  | _ + 1, none => false
  | n + 1, some p => match t_idx τ p (mt_nm τ a) with
    | none => t_bp τ a n (mt_pr τ p)
    | some b => if ¬ mt_fi τ b = 0 ∧ t_over τ a b = true then true else t_bp τ a n (mt_pr τ p)
def t_bo (τ : MT) (i : Nat) : Nat → Nat → Int32
  | 0, _ => -1
  | n + 1, k => if t_bp τ (mt_ml τ i k) 61 (mt_pr τ i) = true then nI (mt_ml τ i k) else t_bo τ i n (k + 1)
def t_broken (τ : MT) (x : Int32) : Int32 := match t_ati τ x with
  | none => -1
  | some i => t_bo τ i (mt_cnt τ (mt_ma τ i)) 0
