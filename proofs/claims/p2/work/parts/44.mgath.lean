/-- marks, the lists of all faces and the lists' layer change -/
def mt_g (τ : MT) (km : Nat → Int32) (al : Nat → Nat → Nat) (ls : LSt) : MT := mt_setls (mt_setal (mt_setmk τ km) al) ls
theorem MI.faNaa {e0 : Nat} {cO : ClassId} {L : List Nat} {f : Nat → va_E} {τ : MT} (h : MI e0 cO L f τ) {i j : Nat} (hi : i < mt_n τ) (hj : j < mt_n τ) : mt_fa τ i ≠ mt_aa τ j := fun e => by
  have h1 := h.2.2.2.2.2.2 (2 + 3 * i) (4 + 3 * j) (by omega) (by omega) (by rw [mt_laf, mt_laa]; exact e)
  omega
/-- how many classes are not marked -/
def um (m : Int32) (km : Nat → Int32) : Nat → Nat
  | 0 => 0
  | n + 1 => um m km n + (if km n = m then 0 else 1)
theorem um_congr {m : Int32} {km km' : Nat → Int32} : ∀ (n : Nat), (∀ i, i < n → km i = km' i) → um m km n = um m km' n
  | 0, _ => rfl
  | n + 1, h => by rw [um, um, um_congr n (fun i hi => h i (by omega)), h n (by omega)]
theorem um_up {m : Int32} {km : Nat → Int32} {i : Nat} (hk : ¬ km i = m) : ∀ (n : Nat), i < n → um m (va_up km i m) n + 1 = um m km n
  | 0, h => absurd h (by omega)
  | n + 1, h => by
    rw [um, um]
    by_cases e : i = n
    · subst e
      rw [va_up_self, if_pos rfl, if_neg hk, um_congr (km := va_up km i m) (km' := km) i (fun j hj => va_up_ne _ _ (by omega))]
    · rw [va_up_ne _ _ (show n ≠ i by omega)]
      have := um_up hk n (by omega)
      omega
/-- gather, as it marks; the classes it adds -/
def t_gf (F : Nat → (Nat → Int32) → (Nat → Int32) × List Nat) (m : Int32) (fl : Nat → Nat) : Nat → Nat → (Nat → Int32) → (Nat → Int32) × List Nat
  | 0, _, km => (km, [])
  | n + 1, j, km => if km (fl j) = m then t_gf F m fl n (j + 1) km else ((t_gf F m fl n (j + 1) (F (fl j) (va_up km (fl j) m)).1).1, (fl j :: (F (fl j) (va_up km (fl j) m)).2) ++ (t_gf F m fl n (j + 1) (F (fl j) (va_up km (fl j) m)).1).2)
def t_gath (τ : MT) : Nat → Nat → (Nat → Int32) → (Nat → Int32) × List Nat
  | 0, _, km => (km, [])
  | d + 1, c, km => match mt_pr τ c with
    | none => t_gf (t_gath τ d) (mt_mark τ) (mt_fl τ c) (mt_cnt τ (mt_fa τ c)) 0 km
    | some p => ((t_gath τ d p (t_gf (t_gath τ d) (mt_mark τ) (mt_fl τ c) (mt_cnt τ (mt_fa τ c)) 0 km).1).1, (t_gf (t_gath τ d) (mt_mark τ) (mt_fl τ c) (mt_cnt τ (mt_fa τ c)) 0 km).2 ++ (t_gath τ d p (t_gf (t_gath τ d) (mt_mark τ) (mt_fl τ c) (mt_cnt τ (mt_fa τ c)) 0 km).1).2)
