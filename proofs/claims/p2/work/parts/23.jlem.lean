theorem sh1 {n : Nat} (hn : n < 2 ^ 31) : nI n >>> (nI 1 &&& 31) = nI (n / 2) := by
  have k := pk_shrN (n := n) hn (nI 1 &&& 31) 1 (by decide)
  rw [Nat.pow_one] at k
  exact k
theorem mx1 {h : Nat} (h1 : 1 ≤ h) (h2 : h < 2 ^ 31) : (if nI 1 < nI h then nI h else nI 1) = nI h := by
  by_cases e : h = 1
  · subst e; decide
  · rw [if_pos (nI_lt (by omega) h2)]
theorem mn1 {n k : Nat} (h1 : n ≤ k) (h2 : k < 2 ^ 31) : (if nI k < nI n then nI k else nI n) = nI n := if_neg (nI_nlt h1 h2)
theorem va_rf_nar (t : FieldType) (r : Option Nat) (h : ∀ v : Value, (v = .null ∨ ∃ a, v = .ref a) → narrow t v = v) : narrow t (va_rf r) = va_rf r := h _ (va_rf_or r)
/-- an object of the model's, as an element of an array of Objects -/
def mobj (L : List Nat) (f : Nat → va_E) (x : Nat) : Prop := x ∈ L ∧ ∃ (ci : Nat) (fs : List Value), f x = .inr (ci, fs) ∧ (ci = 4 ∨ ci = 5)
theorem mobj.any {D : va_G} {cO : ClassId} {mi : Nat} {s : State} {H : Heap} {L : List Nat} {f : Nat → va_E} {x : Nat} (hK : mK D cO mi s) (hP : va_P D vwCl (va_pl L f) H) (h : mobj L f x) : va_Any "java/lang/Object" s H x := by
  obtain ⟨hx, ci, fs, hf, hci⟩ := h
  obtain ⟨k, hk⟩ := pl_ix (f := f) hx
  rw [hf] at hk
  rcases hci with e | e
  · subst e
    exact va_rAny hK.1 hP hk rfl (fun comp c0 h1 h2 => vb_asgC hK.2.2.2.2.1 comp c0 h1 h2)
  · subst e
    exact va_rAny hK.1 hP hk rfl (fun comp c0 h1 h2 => vb_asgC hK.2.2.2.2.2.1 comp c0 h1 h2)
theorem mobj.up {L : List Nat} {f : Nat → va_E} {x a : Nat} {e : va_E} {M : List Nat} (h : mobj L f x) (hM : ∀ y, y ∈ L → y ∈ M) (hne : x ≠ a) : mobj M (va_up f a e) x := by
  obtain ⟨hx, ci, fs, hf, hci⟩ := h
  exact ⟨hM x hx, ci, fs, by rw [va_up_ne _ _ hne]; exact hf, hci⟩
theorem mobj.nearr {L : List Nat} {f : Nat → va_E} {x a n : Nat} {g : Nat → Option Nat} {cO : ClassId} (h : mobj L f x) (hf : f a = refs n g cO) : x ≠ a := by
  intro e
  obtain ⟨-, ci, fs, h1, -⟩ := h
  rw [e, hf] at h1
  cases h1
theorem mobj.neal {L : List Nat} {f : Nat → va_E} {x a d c : Nat} {mc : Int32} (h : mobj L f x) (hf : f a = alc mc d c) : x ≠ a := by
  intro e
  obtain ⟨-, ci, fs, h1, h2⟩ := h
  rw [e, hf] at h1
  have h3 := congrArg (fun z => match z with | Sum.inr q => q.1 | Sum.inl _ => 9) h1
  simp at h3
  omega
theorem pl_arrc {D : va_G} {cO : ClassId} {mi : Nat} {s : State} {H : Heap} {L : List Nat} {f : Nat → va_E} {a n : Nat} {g : Nat → Option Nat} (hK : mK D cO mi s) (hP : va_P D vwCl (va_pl L f) H) (ha : a ∈ L) (hf : f a = refs n g cO) : ∃ cell : Cell, H[a]? = some cell ∧ cell.vm.isStatics = false ∧ s.vm.findClass "[Ljava/lang/Object;" = some cell.cls := by
  obtain ⟨k, hk⟩ := pl_ix (f := f) ha
  rw [hf] at hk
  have h1 : H[a]? = some (vp_cell cO (n, .inr (.inr (.inr (.inr g))))) := hP k _ hk
  exact ⟨_, h1, rfl, va_nmO (hK.1.2 0 _ rfl).2 rfl⟩
theorem cell_ne {f : Nat → va_E} {y x : Nat} {A B : va_E} (hy : f y = A) (hx : f x = B) (h : A ≠ B) : y ≠ x := fun e => h (by rw [← hy, e, hx])
