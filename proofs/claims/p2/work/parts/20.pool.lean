/-! the model's side: one pool of cells, by addresses; rows on pooled cells -/
abbrev refs (n : Nat) (g : Nat → Option Nat) (cO : ClassId) : va_E := .inl (cO, n, .inr (.inr (.inr (.inr g))))
theorem pl_ix {L : List Nat} {f : Nat → va_E} {a : Nat} (h : a ∈ L) : ∃ k : Nat, (va_pl L f)[k]? = some (a, f a) := by
  obtain ⟨k, hk⟩ := va_pl_get (X := []) (f := f) h
  exact ⟨k, hk⟩
theorem pl_st {A : Nat → Prop} {L : List Nat} {f : Nat → va_E} {a k : Nat} {e : va_E} (hD : va_D A (va_pl L f)) (h : a ∈ L) (hk : (va_pl L f)[k]? = some (a, f a)) : (va_pl L f).set k (a, e) = va_pl L (va_up f a e) := va_pl_set (X := []) hD h hk
/-- what a method may change: the pool's cells, and those that it makes -/
def mA (L : List Nat) (sz : Nat) : Nat → Prop := fun q => q ∈ L ∨ sz ≤ q
/-- a pool that has grown by new cells -/
def pext (L : List Nat) (sz : Nat) (M : List Nat) : Prop := ∃ N : List Nat, M = L ++ N ∧ M.Nodup ∧ ∀ q ∈ N, sz ≤ q
theorem pext.rf {L : List Nat} {sz : Nat} (h : L.Nodup) : pext L sz L := ⟨[], by simp, h, fun _ q => absurd q List.not_mem_nil⟩
theorem pext.nd {L M : List Nat} {sz : Nat} (h : pext L sz M) : M.Nodup := by
  obtain ⟨N, -, h, -⟩ := h
  exact h
theorem pext.tr {L M O : List Nat} {sz sz1 : Nat} (h : pext L sz M) (hs : sz ≤ sz1) (g : pext M sz1 O) : pext L sz O := by
  obtain ⟨N, e1, h1, h2⟩ := h
  obtain ⟨N2, e2, g1, g2⟩ := g
  refine ⟨N ++ N2, by rw [e2, e1, List.append_assoc], g1, fun q hq => ?_⟩
  rcases List.mem_append.mp hq with q1 | q1
  · exact h2 q q1
  · exact Nat.le_trans hs (g2 q q1)
theorem pext.mem {L M : List Nat} {sz : Nat} (h : pext L sz M) {a : Nat} (ha : a ∈ L) : a ∈ M := by
  obtain ⟨N, e, -, -⟩ := h
  rw [e]
  exact List.mem_append_left _ ha
theorem pext.in {L M : List Nat} {sz : Nat} (h : pext L sz M) {a : Nat} (ha : a ∈ M) : mA L sz a := by
  obtain ⟨N, e, -, h2⟩ := h
  rw [e] at ha
  rcases List.mem_append.mp ha with q | q
  · exact Or.inl q
  · exact Or.inr (h2 a q)
theorem pext.sub {L M : List Nat} {sz sz1 : Nat} (h : pext L sz M) (hs : sz ≤ sz1) : ∀ q, mA M sz1 q → mA L sz q := fun q hq => by
  rcases hq with hq | hq
  · exact h.in hq
  · exact Or.inr (Nat.le_trans hs hq)
theorem pext.one {L : List Nat} {sz q : Nat} (h : L.Nodup) (hq : q ∉ L) (hs : sz ≤ q) : pext L sz (L ++ [q]) := by
  refine ⟨[q], rfl, ?_, fun x hx => by rw [List.mem_singleton.mp hx]; exact hs⟩
  rw [List.nodup_append]
  exact ⟨h, by simp, fun a ha b hb => by rw [List.mem_singleton.mp hb]; exact fun e => hq (e ▸ ha)⟩
theorem pl_at {L : List Nat} {f : Nat → va_E} {k : Nat} {q : Nat × va_E} (h : (va_pl L f)[k]? = some q) : L[k]? = some q.1 ∧ q.2 = f q.1 := by
  simp only [va_pl, List.getElem?_map] at h
  cases hb : L[k]? with
  | none => rw [hb] at h; cases h
  | some b =>
    rw [hb] at h
    have := Option.some.inj h
    subst this
    exact ⟨rfl, rfl⟩
theorem pl_D {A : Nat → Prop} {L : List Nat} {f : Nat → va_E} (h : L.Nodup) (hA : ∀ a, a ∈ L → A a) : va_D A (va_pl L f) := by
  refine ⟨fun i j p q hp hq e => ?_, fun k q hk => ?_⟩
  · obtain ⟨h1, -⟩ := pl_at hp
    obtain ⟨h2, -⟩ := pl_at hq
    rw [e] at h1
    exact (List.getElem?_inj (List.getElem?_eq_some_iff.mp h1).1 h).mp (h1.trans h2.symm)
  · obtain ⟨h1, -⟩ := pl_at hk
    exact hA _ (List.mem_of_getElem? h1)
theorem pext.D {L M : List Nat} {sz : Nat} {f : Nat → va_E} (h : pext L sz M) : va_D (mA L sz) (va_pl M f) := pl_D h.nd (fun _ ha => h.in ha)
section POOL
variable {p : Program} {l : Launch} {e : Env} {R : Room} {s : State} {m : MethodId} {args : Array Value} {below : List Frame} {meth : Method} {c : Code} {H : Heap} {locs : List Loc} {cells slots : Nat} {Q : State → Prop}
variable {cc : ByteArray} {pc : Nat} {ls : Array Slot} {rest : List Value} {D : va_G} {cl : List vw_C} {A : Nat → Prop} {a : Nat} {tys : List (ClassId × FieldType)} {L : List Nat} {f : Nat → va_E} {H0 : Heap}
theorem pl_get (hexec : p.tables.exec = Jvm.exec) (hb : c.code = cc) {own ref C : String} {T : u_T} {N ci index : Nat} {Ts : List Cond} (hts : ∀ w ∈ Ts, w.before args s = true) (hin : ∀ w ∈ u_ws C T N, w ∈ Ts) (hown : s.vm.findClass own = some m.cls) (hK : va_K D cl tys s) (hP : va_P D cl (va_pl L f) H) (ha : a ∈ L) {fs : List Value} (hf : f a = .inr (ci, fs)) (hc : cl[ci]? = some (C, T, N)) (k : Nat) (hk : k < N) (hlink : (Cond.fieldLink own index ref (T k).2.1 (T k).2.2.1).before args s = true) (hsame : ∀ x, s.fieldFound? (T k).1 (T k).2.1 (T k).2.2.1 = some x → s.fieldFound? ref (T k).2.1 (T k).2.2.1 = some x) {v : Value} (hv : fs[k]? = some v) (hdg : decode cc pc = .ok (.getfield index, 3))
    (kk : W p l e R s m args below meth c H locs cells slots Q (F0 m (pc + 3) ls (v :: rest))) : W p l e R s m args below meth c H locs cells slots Q (F0 m pc ls (.ref a :: rest)) := by
  obtain ⟨q0, hq⟩ := pl_ix (f := f) ha
  rw [hf] at hq
  exact va_get hexec hb hts hin hown hK hP q0 hq hc k hk hlink hsame hv hdg kk
theorem pl_put (hexec : p.tables.exec = Jvm.exec) (hb : c.code = cc) {own ref C : String} {T : u_T} {N ci index : Nat} {Ts : List Cond} (hts : ∀ w ∈ Ts, w.before args s = true) (hin : ∀ w ∈ u_ws C T N, w ∈ Ts) (ty0 : Nat → FieldType) (hty : ∀ k, k < N → parseFieldDescriptor (T k).2.2.1 = some (ty0 k)) (hnm : ∀ a, a < N → ∀ b, b < N → a ≠ b → (T a).2.1 ≠ (T b).2.1) (hown : s.vm.findClass own = some m.cls) (hK : va_K D cl tys s) (hP : va_P D cl (va_pl L f) H) (hD : va_D A (va_pl L f)) (hS0 : va_S A H0 H locs) (ha : a ∈ L) {fs : List Value} (hf : f a = .inr (ci, fs)) (hc : cl[ci]? = some (C, T, N)) (k : Nat) (hk : k < N) (hlink : (Cond.fieldLink own index ref (T k).2.1 (T k).2.2.1).before args s = true) (hsame : ∀ x, s.fieldFound? (T k).1 (T k).2.1 (T k).2.2.1 = some x → s.fieldFound? ref (T k).2.1 (T k).2.2.1 = some x) (hfin : (T k).2.2.2 = false) {ty : FieldType} {v : Value} (hd : parseFieldDescriptor (T k).2.2.1 = some ty) (hn : narrow ty v = v) (hfit : fits ty v = true) (hl : k < fs.length)
    (hdg : decode cc pc = .ok (.putfield index, 3)) (kk : ∀ (H1 : Heap) (locs1 : List Loc), va_P D cl (va_pl L (va_up f a (.inr (ci, fs.set k v)))) H1 → va_S A H0 H1 locs1 → W p l e R s m args below meth c H1 locs1 cells slots Q (F0 m (pc + 3) ls rest)) : W p l e R s m args below meth c H locs cells slots Q (F0 m pc ls (v :: .ref a :: rest)) := by
  obtain ⟨q0, hq⟩ := pl_ix (f := f) ha
  have hq2 := hq
  rw [hf] at hq2
  refine va_put hexec hb hts hin ty0 hty hnm hown hK hP hD hS0 q0 hq2 hc k hk hlink hsame hfin hd hn hfit hl hdg (fun H1 locs1 h1 h2 h3 => ?_)
  rw [pl_st hD ha hq] at h1
  exact kk H1 locs1 h1 h3
theorem pl_putF (hexec : p.tables.exec = Jvm.exec) (hb : c.code = cc) {own ref C : String} {T : u_T} {N ci index : Nat} {Ts : List Cond} (hts : ∀ w ∈ Ts, w.before args s = true) (hin : ∀ w ∈ u_ws C T N, w ∈ Ts) (ty0 : Nat → FieldType) (hty : ∀ k, k < N → parseFieldDescriptor (T k).2.2.1 = some (ty0 k)) (hnm : ∀ a, a < N → ∀ b, b < N → a ≠ b → (T a).2.1 ≠ (T b).2.1) (hown : s.vm.findClass own = some m.cls) (hK : va_K D cl tys s) (hP : va_P D cl (va_pl L f) H) (hD : va_D A (va_pl L f)) (hS0 : va_S A H0 H locs) (ha : a ∈ L) {fs : List Value} (hf : f a = .inr (ci, fs)) (hc : cl[ci]? = some (C, T, N)) (k : Nat) (hk : k < N) (hlink : (Cond.fieldLink own index ref (T k).2.1 (T k).2.2.1).before args s = true) (hsame : ∀ x, s.fieldFound? (T k).1 (T k).2.1 (T k).2.2.1 = some x → s.fieldFound? ref (T k).2.1 (T k).2.2.1 = some x) (hfin : (T k).2.2.2 = true) (hin2 : meth.name = "<init>") (hdecl : (T k).1 = own) {ty : FieldType} {v : Value} (hd : parseFieldDescriptor (T k).2.2.1 = some ty) (hn : narrow ty v = v) (hfit : fits ty v = true) (hl : k < fs.length)
    (hdg : decode cc pc = .ok (.putfield index, 3)) (kk : ∀ (H1 : Heap) (locs1 : List Loc), va_P D cl (va_pl L (va_up f a (.inr (ci, fs.set k v)))) H1 → va_S A H0 H1 locs1 → W p l e R s m args below meth c H1 locs1 cells slots Q (F0 m (pc + 3) ls rest)) : W p l e R s m args below meth c H locs cells slots Q (F0 m pc ls (v :: .ref a :: rest)) := by
  obtain ⟨q0, hq⟩ := pl_ix (f := f) ha
  have hq2 := hq
  rw [hf] at hq2
  refine va_putF hexec hb hts hin ty0 hty hnm hown hK hP hD hS0 q0 hq2 hc k hk hlink hsame hfin hin2 hdecl hd hn hfit hl hdg (fun H1 locs1 h1 h2 h3 => ?_)
  rw [pl_st hD ha hq] at h1
  exact kk H1 locs1 h1 h3
theorem pl_aald (hexec : p.tables.exec = Jvm.exec) (hb : c.code = cc) (hK : va_K D cl tys s) (hP : va_P D cl (va_pl L f) H) (t0 : Nat) (ha : a ∈ L) {cA : ClassId} {C : String} {n : Nat} {g : Nat → Option Nat} (hf : f a = refs n g cA) (ht : tys[t0]? = some (cA, .object C)) {i : Nat} (hi : i < n) (hn : n < 2 ^ 31) (hdg : decode cc pc = .ok (.aaload, 1))
    (kk : W p l e R s m args below meth c H locs cells slots Q (F0 m (pc + 1) ls (va_rf (g i) :: rest))) : W p l e R s m args below meth c H locs cells slots Q (F0 m pc ls (.int (nI i) :: .ref a :: rest)) := by
  obtain ⟨q0, hq⟩ := pl_ix (f := f) ha
  rw [hf] at hq
  exact va_aldq hexec hb hK hP q0 t0 hq ht (vp_in_nI hi hn) hdg (by rw [nI_clamp (by omega)]; exact kk)
theorem pl_aast (hexec : p.tables.exec = Jvm.exec) (hb : c.code = cc) (hK : va_K D cl tys s) (hP : va_P D cl (va_pl L f) H) (hD : va_D A (va_pl L f)) (hS : va_S A H0 H locs) (t0 : Nat) (ha : a ∈ L) {E : String} {cA : ClassId} {n v : Nat} {g : Nat → Option Nat} (hf : f a = refs n g cA) (ht : tys[t0]? = some (cA, .object E)) (hr : va_Any E s H v) {i : Nat} (hi : i < n) (hn : n < 2 ^ 31) (hdg : decode cc pc = .ok (.aastore, 1))
    (kk : ∀ (H1 : Heap) (locs1 : List Loc), va_P D cl (va_pl L (va_up f a (refs n (va_up g i (some v)) cA))) H1 → va_S A H0 H1 locs1 → W p l e R s m args below meth c H1 locs1 cells slots Q (F0 m (pc + 1) ls rest)) : W p l e R s m args below meth c H locs cells slots Q (F0 m pc ls (.ref v :: .int (nI i) :: .ref a :: rest)) := by
  obtain ⟨q0, hq⟩ := pl_ix (f := f) ha
  have hq2 := hq
  rw [hf] at hq2
  refine va_astqM hexec hb hK hP hD hS q0 t0 hq2 ht hr (vp_in_nI hi hn) hdg (fun H1 locs1 h1 h2 h3 => ?_)
  rw [pl_st hD ha hq, nI_clamp (by omega)] at h1
  exact kk H1 locs1 h1 h3
theorem pl_aastN (hexec : p.tables.exec = Jvm.exec) (hb : c.code = cc) (hK : va_K D cl tys s) (hP : va_P D cl (va_pl L f) H) (hD : va_D A (va_pl L f)) (hS : va_S A H0 H locs) (t0 : Nat) (ha : a ∈ L) {E : String} {cA : ClassId} {n : Nat} {g : Nat → Option Nat} (hf : f a = refs n g cA) (ht : tys[t0]? = some (cA, .object E)) {i : Nat} (hi : i < n) (hn : n < 2 ^ 31) (hdg : decode cc pc = .ok (.aastore, 1))
    (kk : ∀ (H1 : Heap) (locs1 : List Loc), va_P D cl (va_pl L (va_up f a (refs n (va_up g i none) cA))) H1 → va_S A H0 H1 locs1 → W p l e R s m args below meth c H1 locs1 cells slots Q (F0 m (pc + 1) ls rest)) : W p l e R s m args below meth c H locs cells slots Q (F0 m pc ls (.null :: .int (nI i) :: .ref a :: rest)) := by
  obtain ⟨q0, hq⟩ := pl_ix (f := f) ha
  have hq2 := hq
  rw [hf] at hq2
  refine va_astqN hexec hb hK hP hD hS q0 t0 hq2 ht (vp_in_nI hi hn) hdg (fun H1 locs1 h1 h2 h3 => ?_)
  rw [pl_st hD ha hq, nI_clamp (by omega)] at h1
  exact kk H1 locs1 h1 h3
theorem pl_alen (hexec : p.tables.exec = Jvm.exec) (hb : c.code = cc) (hK : va_K D cl tys s) (hP : va_P D cl (va_pl L f) H) (t0 : Nat) (ha : a ∈ L) {cA : ClassId} {n : Nat} {g : Nat → Option Nat} (hf : f a = refs n g cA) {ty : FieldType} (ht : tys[t0]? = some (cA, ty)) (hdg : decode cc pc = .ok (.arraylength, 1))
    (kk : W p l e R s m args below meth c H locs cells slots Q (F0 m (pc + 1) ls (.int (nI n) :: rest))) : W p l e R s m args below meth c H locs cells slots Q (F0 m pc ls (.ref a :: rest)) := by
  obtain ⟨q0, hq⟩ := pl_ix (f := f) ha
  rw [hf] at hq
  exact va_alen (v := nI n) hexec hb hK hP q0 t0 hq ht rfl hdg kk
theorem pl_new {c0 : Code} (hexec : p.tables.exec = Jvm.exec) (hb : c0.code = cc) {own C : String} {T : u_T} {N ci index : Nat} {Ts : List Cond} (hts : ∀ w ∈ Ts, w.before args s = true) (hin : ∀ w ∈ u_ws C T N, w ∈ Ts) (ty : Nat → FieldType) (hty : ∀ k, k < N → parseFieldDescriptor (T k).2.2.1 = some (ty k)) (hown : s.vm.findClass own = some m.cls) (hcl : (Cond.classLink own index C).before args s = true) (hinst : (Cond.instantiable C N).before args s = true) (hini : (Cond.initialized C).before args s = true)
    (hK : va_K D cl tys s) (hP : va_P D cl (va_pl L f) H) (hD : va_D A (va_pl L f)) (hS : va_S A H0 H locs) (hA : ∀ q, H0.size ≤ q → A q) (hc : cl[ci]? = some (C, T, N)) {fs : List Value} (hfs : ∀ j, j < N → defaultValue (ty j) = vp_V fs j) (hcells : cells + 1 ≤ R.cells) (hslots : slots + N ≤ R.slots) (hdg : decode cc pc = .ok (.new index, 3))
    (kk : ∀ (q : Nat) (H1 : Heap), q ∉ L → A q → va_P D cl (va_pl (L ++ [q]) (va_up f q (.inr (ci, fs)))) H1 → va_S A H0 H1 locs → W p l e R s m args below meth c0 H1 locs (cells + 1) (slots + N) Q (F0 m (pc + 3) ls (.ref q :: rest))) : W p l e R s m args below meth c0 H locs cells slots Q (F0 m pc ls rest) := by
  refine va_new hexec hb hts hin ty hty hown hcl hinst hini hK hP hD hS hA hc hfs hcells hslots hdg (fun q H1 h1 h2 h3 => ?_)
  have hq : q ∉ L := va_pl_fresh2 (X := []) h2
  have hAq : A q := h2.2 (va_pl L f).length (q, .inr (ci, fs)) (by rw [List.getElem?_append_right (Nat.le_refl _), Nat.sub_self]; rfl)
  rw [va_pl_push hq] at h1
  exact kk q H1 hq hAq h1 h3
/-- two array classes over one type are one -/
theorem ra_eq {C : String} {x y : ClassId} (h : va_RA s x (.object C)) (g : va_RA s y (.object C)) : x = y := by
  obtain ⟨_, _, -, -, -, h4⟩ := h
  obtain ⟨_, _, -, -, -, g4⟩ := g
  exact Option.some.inj (h4.symm.trans g4)
theorem pl_newq (hexec : p.tables.exec = Jvm.exec) (hb : c.code = cc) {own C : String} {index : Nat} (hown : s.vm.findClass own = some m.cls) (hclink : (Cond.classLink own index C).before args s = true) (hover : va_AO C s) {cO : ClassId} (hK : va_K D cl [(cO, .object C)] s) (hP : va_P D cl (va_pl L f) H) (hD : va_D A (va_pl L f)) (hS : va_S A H0 H locs) (hA : ∀ q, H0.size ≤ q → A q)
    {n : Nat} (hn : n < 2 ^ 27) (hcells : cells + 1 ≤ R.cells) (hslots : slots + n ≤ R.slots) (hdg : decode cc pc = .ok (.anewarray index, 3))
    (kk : ∀ (q : Nat) (H1 : Heap), q ∉ L → A q → va_P D cl (va_pl (L ++ [q]) (va_up f q (refs n (fun _ => none) cO))) H1 → va_S A H0 H1 locs → W p l e R s m args below meth c H1 locs (cells + 1) (slots + n) Q (F0 m (pc + 3) ls (.ref q :: rest))) : W p l e R s m args below meth c H locs cells slots Q (F0 m pc ls (.int (nI n) :: rest)) := by
  refine va_newq hexec hb hown hclink hover hK hP hD hS hA (nI_pos (by omega)) (nI_clamp (by omega)) (by omega) hcells hslots hdg (fun q cA H1 k1 h1 h2 h3 => ?_)
  have e : cA = cO := ra_eq (k1.2 1 _ rfl).2 (k1.2 0 _ rfl).2
  subst e
  have hq : q ∉ L := va_pl_fresh2 (X := []) h2
  have hAq : A q := h2.2 (va_pl L f).length (q, _) (by rw [List.getElem?_append_right (Nat.le_refl _), Nat.sub_self]; rfl)
  rw [va_pl_push hq] at h1
  exact kk q H1 hq hAq h1 h3
end POOL
