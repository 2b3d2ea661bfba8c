theorem um_le (m : Int32) (km : Nat → Int32) : ∀ n, um m km n ≤ n
  | 0 => Nat.le_refl _
  | n + 1 => by
    rw [um]
    have := um_le m km n
    split <;> omega
theorem t_gf_len {F : Nat → (Nat → Int32) → (Nat → Int32) × List Nat} {m : Int32} {fl : Nat → Nat} {n : Nat} (hF : ∀ c km, c < n → (F c km).2.length + um m (F c km).1 n = um m km n) : ∀ (zn zj : Nat) (km : Nat → Int32), (∀ j, zj ≤ j → j < zj + zn → fl j < n) → (t_gf F m fl zn zj km).2.length + um m (t_gf F m fl zn zj km).1 n = um m km n
  | 0, _, km, _ => by simp [t_gf]
  | zn + 1, zj, km, h => by
    have h0 := h zj (Nat.le_refl _) (by omega)
    rw [t_gf]
    by_cases e : km (fl zj) = m
    · rw [if_pos e]
      exact t_gf_len hF zn (zj + 1) km (fun j h1 h2 => h j (by omega) (by omega))
    · rw [if_neg e]
      have h1 := um_up e n h0
      have h2 := hF (fl zj) (va_up km (fl zj) m) h0
      have h3 := t_gf_len hF zn (zj + 1) (F (fl zj) (va_up km (fl zj) m)).1 (fun j h1 h2 => h j (by omega) (by omega))
      simp only [List.length_append, List.length_cons]
      omega
theorem t_gath_len (τ : MT) (hst : ∀ c, c < mt_n τ → (∀ j, j < mt_cnt τ (mt_fa τ c) → mt_fl τ c j < mt_n τ) ∧ ∀ p, mt_pr τ c = some p → p < mt_n τ) : ∀ (d c : Nat) (km : Nat → Int32), c < mt_n τ → (t_gath τ d c km).2.length + um (mt_mark τ) (t_gath τ d c km).1 (mt_n τ) = um (mt_mark τ) km (mt_n τ)
  | 0, _, km, _ => by simp [t_gath]
  | d + 1, c, km, hc => by
    have h1 := t_gf_len (F := t_gath τ d) (m := mt_mark τ) (fl := mt_fl τ c) (n := mt_n τ) (fun c' km' hc' => t_gath_len τ hst d c' km' hc') (mt_cnt τ (mt_fa τ c)) 0 km (fun j _ h2 => (hst c hc).1 j (by omega))
    rcases hp : mt_pr τ c with _ | p
    · simp only [t_gath, hp]
      exact h1
    · simp only [t_gath, hp]
      have h2 := t_gath_len τ hst d p (t_gf (t_gath τ d) (mt_mark τ) (mt_fl τ c) (mt_cnt τ (mt_fa τ c)) 0 km).1 ((hst c hc).2 p hp)
      rw [List.length_append]
      omega
/-- what facesOf changes -/
def mt_f (τ : MT) (pt : Nat → Int32) (m : Int32) (km : Nat → Int32) (al : Nat → Nat → Nat) (ls : LSt) : MT := mt_g (mt_setmark (mt_setpt τ pt) m) km al ls
def fpost (e0 : Nat) (cO : ClassId) (τ : MT) (zi : Nat) (u : PS) : Prop := ∃ (pt : Nat → Int32) (m : Int32) (km : Nat → Int32) (al : Nat → Nat → Nat) (ls : LSt), MI e0 cO u.1 u.2 (mt_f τ pt m km al ls) ∧ pt zi = nI (mt_cnt τ (mt_fa τ zi)) ∧ ∀ b, b ≠ mt_aa τ zi → ls_cnt ls b = ls_cnt (mt_ls τ) b
theorem c_gath61 (l : Launch) (D : va_G) (cO : ClassId) (mi e0 : Nat) (L : List Nat) (f : Nat → va_E) (sz : Nat) (hnd : L.Nodup) (τ : MT) (zi : Nat) (hzi : zi < mt_n τ) (km : Nat → Int32) (al : Nat → Nat → Nat) (ls0 : LSt) (hM : MI e0 cO L f (mt_g τ km al ls0)) (hlq : ∀ b, b ≠ mt_aa τ zi → ls_cnt ls0 b = ls_cnt (mt_ls τ) b) (hz : ls_cnt ls0 (mt_aa τ zi) = 0) : Met l yX5_gather wsX5_gather { frames := 68, cells := (t_gath τ 61 zi km).2.length, slots := 90 * (t_gath τ 61 zi km).2.length, locals := 1664 } (mW D cO mi e0 L f sz [.ref (mt_x τ), .ref (mt_ca τ zi), .ref (mt_aa τ zi)]) (wQv D L sz (fun u => ∃ (za : Nat → Nat → Nat) (zl : LSt), MI e0 cO u.1 u.2 (mt_g τ (t_gath τ 61 zi km).1 za zl) ∧ (∀ b, b ≠ mt_aa τ zi → ls_cnt zl b = ls_cnt (mt_ls τ) b) ∧ ls_cnt zl (mt_aa τ zi) + um (mt_mark τ) (t_gath τ 61 zi km).1 (mt_n τ) = ls_cnt ls0 (mt_aa τ zi) + um (mt_mark τ) km (mt_n τ))) ((t_gath τ 61 zi km).2.length) (90 * (t_gath τ 61 zi km).2.length) (mA L sz) := by
  have hb9 : 1 ≤ mt_n τ ∧ mt_n τ ≤ 60 ∧ mt_mn τ ≤ 400 := hM.b
  exact c_X5_gather l D cO mi e0 τ zi hzi 61 L f sz hnd km al ls0 hM hlq (by have := um_le (mt_mark τ) km (mt_n τ); omega) zi hzi (by omega)
