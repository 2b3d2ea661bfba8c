/-! base rows: numbers as nI, a truth as an int, array rows at a place nI i, the class's world and its static facts -/
abbrev ushL (x : Int64) (y : Int32) : Int64 := (x.toUInt64 >>> (y.toInt64.toUInt64 &&& Int64.toUInt64 63)).toInt64
abbrev shlL (x : Int64) (y : Int32) : Int64 := x <<< (y.toInt64 &&& 63)
def bI (b : Bool) : Int32 := if b then nI 1 else nI 0
theorem bI_t : bI true = nI 1 := rfl
theorem bI_f : bI false = nI 0 := rfl
theorem bI_0 {b : Bool} : bI b = 0 ↔ b = false := by cases b <;> decide
theorem bI_n0 {b : Bool} : ¬ bI b = 0 ↔ b = true := by cases b <;> decide
theorem bI_nar (b : Bool) : narrow .boolean (.int (bI b)) = .int (bI b) := by cases b <;> rfl
theorem bI_vnar (b : Bool) : vp_nar .boolean (bI b) = bI b := by cases b <;> rfl
theorem nI_zero : nI 0 = (0 : Int32) := rfl
theorem upd_N (g : Nat → Nat) (i v : Nat) : upd (fun j => nI (g j)) i (nI v) = fun j => nI (va_up g i v j) := by
  funext j
  by_cases h : j = i
  · simp [upd, va_up, h]
  · simp [upd, va_up, h]
section BASE
variable {p : Program} {l : Launch} {e : Env} {R : Room} {s : State} {m : MethodId} {args : Array Value} {below : List Frame} {meth : Method} {c : Code} {H : Heap} {locs : List Loc} {cells slots : Nat} {Q : State → Prop}
variable {cc : ByteArray} {pc : Nat} {ls : Array Slot} {rest : List Value} {D : va_G} {cl : List vw_C} {A : Nat → Prop} {a : Nat} {tys : List (ClassId × FieldType)} {ws : va_W} {H0 : Heap}
theorem lv_iaddN (hexec : p.tables.exec = Jvm.exec) (hb : c.code = cc) {x y : Nat} (hdg : decode cc pc = .ok (.iadd, 1)) (k : W p l e R s m args below meth c H locs cells slots Q (F0 m (pc + 1) ls (.int (nI (x + y)) :: rest))) : W p l e R s m args below meth c H locs cells slots Q (F0 m pc ls (.int (nI y) :: .int (nI x) :: rest)) :=
  lv_iadd hexec hb hdg (by rw [nI_add]; exact k)
theorem lv_isubN (hexec : p.tables.exec = Jvm.exec) (hb : c.code = cc) {x y : Nat} (hdg : decode cc pc = .ok (.isub, 1)) (h : y ≤ x) (k : W p l e R s m args below meth c H locs cells slots Q (F0 m (pc + 1) ls (.int (nI (x - y)) :: rest))) : W p l e R s m args below meth c H locs cells slots Q (F0 m pc ls (.int (nI y) :: .int (nI x) :: rest)) :=
  lv_isub hexec hb hdg (by rw [pk_sub h]; exact k)
theorem na_iald (hexec : p.tables.exec = Jvm.exec) (hb : c.code = cc) (hK : va_K D cl tys s) (hP : va_P D cl ws H) (q0 t0 : Nat) {cA : ClassId} {n : Nat} {f : Nat → Int32} (ha : ws[q0]? = some (a, .inl (cA, n, .inl f))) (ht : tys[t0]? = some (cA, .int)) {i : Nat} (hi : i < n) (hn : n < 2 ^ 31) (hdg : decode cc pc = .ok (.iaload, 1))
    (kk : W p l e R s m args below meth c H locs cells slots Q (F0 m (pc + 1) ls (.int (f i) :: rest))) : W p l e R s m args below meth c H locs cells slots Q (F0 m pc ls (.int (nI i) :: .ref a :: rest)) :=
  va_iald hexec hb hK hP q0 t0 ha ht (vp_in_nI hi hn) hdg (by rw [nI_clamp (by omega)]; exact kk)
theorem na_zald (hexec : p.tables.exec = Jvm.exec) (hb : c.code = cc) (hK : va_K D cl tys s) (hP : va_P D cl ws H) (q0 t0 : Nat) {cA : ClassId} {n : Nat} {f : Nat → Int32} (ha : ws[q0]? = some (a, .inl (cA, n, .inl f))) (ht : tys[t0]? = some (cA, .boolean)) {i : Nat} (hi : i < n) (hn : n < 2 ^ 31) (hdg : decode cc pc = .ok (.baload, 1))
    (kk : W p l e R s m args below meth c H locs cells slots Q (F0 m (pc + 1) ls (.int (f i) :: rest))) : W p l e R s m args below meth c H locs cells slots Q (F0 m pc ls (.int (nI i) :: .ref a :: rest)) :=
  va_zald hexec hb hK hP q0 t0 ha ht (vp_in_nI hi hn) hdg (by rw [nI_clamp (by omega)]; exact kk)
theorem na_lald (hexec : p.tables.exec = Jvm.exec) (hb : c.code = cc) (hK : va_K D cl tys s) (hP : va_P D cl ws H) (q0 t0 : Nat) {cA : ClassId} {n : Nat} {f : Nat → Int64} (ha : ws[q0]? = some (a, .inl (cA, n, .inr (.inl f)))) (ht : tys[t0]? = some (cA, .long)) {i : Nat} (hi : i < n) (hn : n < 2 ^ 31) (hdg : decode cc pc = .ok (.laload, 1))
    (kk : W p l e R s m args below meth c H locs cells slots Q (F0 m (pc + 1) ls (.long (f i) :: rest))) : W p l e R s m args below meth c H locs cells slots Q (F0 m pc ls (.int (nI i) :: .ref a :: rest)) :=
  va_lald hexec hb hK hP q0 t0 ha ht (vp_in_nI hi hn) hdg (by rw [nI_clamp (by omega)]; exact kk)
theorem na_iastN (hexec : p.tables.exec = Jvm.exec) (hb : c.code = cc) (hK : va_K D cl tys s) (hP : va_P D cl ws H) (hD : va_D A ws) (hS : va_S A H0 H locs) (q0 t0 : Nat) {cA : ClassId} {n : Nat} {g : Nat → Nat} (ha : ws[q0]? = some (a, .inl (cA, n, .inl (fun j => nI (g j))))) (ht : tys[t0]? = some (cA, .int)) {i v : Nat} (hi : i < n) (hn : n < 2 ^ 31) (hdg : decode cc pc = .ok (.iastore, 1))
    (kk : ∀ (H1 : Heap) (locs1 : List Loc), va_P D cl (ws.set q0 (a, .inl (cA, n, .inl (fun j => nI (va_up g i v j))))) H1 → va_D A (ws.set q0 (a, .inl (cA, n, .inl (fun j => nI (va_up g i v j))))) → va_S A H0 H1 locs1 → W p l e R s m args below meth c H1 locs1 cells slots Q (F0 m (pc + 1) ls rest)) : W p l e R s m args below meth c H locs cells slots Q (F0 m pc ls (.int (nI v) :: .int (nI i) :: .ref a :: rest)) :=
  va_iast hexec hb hK hP hD hS q0 t0 ha ht (vp_in_nI hi hn) hdg (fun H1 locs1 => by rw [nI_clamp (by omega), upd_N]; exact kk H1 locs1)
theorem na_iast (hexec : p.tables.exec = Jvm.exec) (hb : c.code = cc) (hK : va_K D cl tys s) (hP : va_P D cl ws H) (hD : va_D A ws) (hS : va_S A H0 H locs) (q0 t0 : Nat) {cA : ClassId} {n : Nat} {f : Nat → Int32} (ha : ws[q0]? = some (a, .inl (cA, n, .inl f))) (ht : tys[t0]? = some (cA, .int)) {i : Nat} {x : Int32} (hi : i < n) (hn : n < 2 ^ 31) (hdg : decode cc pc = .ok (.iastore, 1))
    (kk : ∀ (H1 : Heap) (locs1 : List Loc), va_P D cl (ws.set q0 (a, .inl (cA, n, .inl (upd f i x)))) H1 → va_D A (ws.set q0 (a, .inl (cA, n, .inl (upd f i x)))) → va_S A H0 H1 locs1 → W p l e R s m args below meth c H1 locs1 cells slots Q (F0 m (pc + 1) ls rest)) : W p l e R s m args below meth c H locs cells slots Q (F0 m pc ls (.int x :: .int (nI i) :: .ref a :: rest)) :=
  va_iast hexec hb hK hP hD hS q0 t0 ha ht (vp_in_nI hi hn) hdg (fun H1 locs1 => by rw [nI_clamp (by omega)]; exact kk H1 locs1)
theorem na_zast (hexec : p.tables.exec = Jvm.exec) (hb : c.code = cc) (hK : va_K D cl tys s) (hP : va_P D cl ws H) (hD : va_D A ws) (hS : va_S A H0 H locs) (q0 t0 : Nat) {cA : ClassId} {n : Nat} {f : Nat → Int32} (ha : ws[q0]? = some (a, .inl (cA, n, .inl f))) (ht : tys[t0]? = some (cA, .boolean)) {i : Nat} {x : Int32} (hi : i < n) (hn : n < 2 ^ 31) (hxx : vp_nar .boolean x = x) (hdg : decode cc pc = .ok (.bastore, 1))
    (kk : ∀ (H1 : Heap) (locs1 : List Loc), va_P D cl (ws.set q0 (a, .inl (cA, n, .inl (upd f i x)))) H1 → va_D A (ws.set q0 (a, .inl (cA, n, .inl (upd f i x)))) → va_S A H0 H1 locs1 → W p l e R s m args below meth c H1 locs1 cells slots Q (F0 m (pc + 1) ls rest)) : W p l e R s m args below meth c H locs cells slots Q (F0 m pc ls (.int x :: .int (nI i) :: .ref a :: rest)) :=
  va_zast hexec hb hK hP hD hS q0 t0 ha ht (vp_in_nI hi hn) hdg (fun H1 locs1 => by rw [nI_clamp (by omega), hxx]; exact kk H1 locs1)
theorem na_last (hexec : p.tables.exec = Jvm.exec) (hb : c.code = cc) (hK : va_K D cl tys s) (hP : va_P D cl ws H) (hD : va_D A ws) (hS : va_S A H0 H locs) (q0 t0 : Nat) {cA : ClassId} {n : Nat} {f : Nat → Int64} (ha : ws[q0]? = some (a, .inl (cA, n, .inr (.inl f)))) (ht : tys[t0]? = some (cA, .long)) {i : Nat} {x : Int64} (hi : i < n) (hn : n < 2 ^ 31) (hdg : decode cc pc = .ok (.lastore, 1))
    (kk : ∀ (H1 : Heap) (locs1 : List Loc), va_P D cl (ws.set q0 (a, .inl (cA, n, .inr (.inl (vp_updL f i x))))) H1 → va_D A (ws.set q0 (a, .inl (cA, n, .inr (.inl (vp_updL f i x))))) → va_S A H0 H1 locs1 → W p l e R s m args below meth c H1 locs1 cells slots Q (F0 m (pc + 1) ls rest)) : W p l e R s m args below meth c H locs cells slots Q (F0 m pc ls (.long x :: .int (nI i) :: .ref a :: rest)) :=
  va_last hexec hb hK hP hD hS q0 t0 ha ht (vp_in_nI hi hn) hdg (fun H1 locs1 => by rw [nI_clamp (by omega)]; exact kk H1 locs1)
theorem gen_start {g : JFrame} (k : ∀ (H : Heap) (locs : List Loc), va_P D cl ws H → va_S A s.heap H locs → W p l e R s m args below meth c H locs cells slots Q g) (hP : va_P D cl ws s.heap) : W p l e R s m args below meth c s.heap [] cells slots Q g := k s.heap [] hP va_S.rf
end BASE
/-- the class's state: classes (count, parent, pack, face, above), (faceAmount, faceStart, faceList, ownFaces, ownPart), methods (count, owner, name, first, amount, sight, kind) -/
abbrev CS : Type := (Nat × (Nat → Nat) × (Nat → Int32) × (Nat → Int32) × (Nat → Int64)) × ((Nat → Nat) × (Nat → Nat) × (Nat → Nat) × Int64 × Nat) × (Nat × (Nat → Nat) × (Nat → Int32) × (Nat → Nat) × (Nat → Nat) × (Nat → Int32) × (Nat → Int32))
abbrev cs_mk (n : Nat) (par : Nat → Nat) (pack face : Nat → Int32) (abv : Nat → Int64) (fam fst fls : Nat → Nat) (own : Int64) (opt : Nat) (m : Nat) (ow : Nat → Nat) (nm : Nat → Int32) (fi am : Nat → Nat) (si ki : Nat → Int32) : CS := ((n, par, pack, face, abv), (fam, fst, fls, own, opt), (m, ow, nm, fi, am, si, ki))
abbrev cs_n (σ : CS) : Nat := σ.1.1
abbrev cs_par (σ : CS) : Nat → Nat := σ.1.2.1
abbrev cs_pack (σ : CS) : Nat → Int32 := σ.1.2.2.1
abbrev cs_face (σ : CS) : Nat → Int32 := σ.1.2.2.2.1
abbrev cs_abv (σ : CS) : Nat → Int64 := σ.1.2.2.2.2
abbrev cs_fam (σ : CS) : Nat → Nat := σ.2.1.1
abbrev cs_fst (σ : CS) : Nat → Nat := σ.2.1.2.1
abbrev cs_fls (σ : CS) : Nat → Nat := σ.2.1.2.2.1
abbrev cs_own (σ : CS) : Int64 := σ.2.1.2.2.2.1
abbrev cs_opt (σ : CS) : Nat := σ.2.1.2.2.2.2
abbrev cs_m (σ : CS) : Nat := σ.2.2.1
abbrev cs_ow (σ : CS) : Nat → Nat := σ.2.2.2.1
abbrev cs_nm (σ : CS) : Nat → Int32 := σ.2.2.2.2.1
abbrev cs_fi (σ : CS) : Nat → Nat := σ.2.2.2.2.2.1
abbrev cs_am (σ : CS) : Nat → Nat := σ.2.2.2.2.2.2.1
abbrev cs_si (σ : CS) : Nat → Int32 := σ.2.2.2.2.2.2.2.1
abbrev cs_ki (σ : CS) : Nat → Int32 := σ.2.2.2.2.2.2.2.2
/-- the cells of the class's object -/
def cw (a : Nat → Nat) (k : Nat → ClassId) (σ : CS) : va_W := [
  (a 0, .inr (3, [.ref (a 1), .ref (a 2)])),
  (a 1, .inr (1, [.int (nI (cs_n σ)), .ref (a 3), .ref (a 4), .ref (a 5), .ref (a 6), .ref (a 7), .ref (a 8), .ref (a 9), .long (cs_own σ), .int (nI (cs_opt σ))])),
  (a 2, .inr (2, [.int (nI (cs_m σ)), .ref (a 10), .ref (a 11), .ref (a 12), .ref (a 13), .ref (a 14), .ref (a 15)])),
  (a 3, .inl (k 3, 60, .inl (fun j => nI (cs_par σ j)))),
  (a 4, .inl (k 4, 60, .inl (cs_pack σ))),
  (a 5, .inl (k 5, 60, .inl (cs_face σ))),
  (a 6, .inl (k 6, 60, .inr (.inl (cs_abv σ)))),
  (a 7, .inl (k 7, 60, .inl (fun j => nI (cs_fam σ j)))),
  (a 8, .inl (k 8, 60, .inl (fun j => nI (cs_fst σ j)))),
  (a 9, .inl (k 9, 1800, .inl (fun j => nI (cs_fls σ j)))),
  (a 10, .inl (k 10, 400, .inl (fun j => nI (cs_ow σ j)))),
  (a 11, .inl (k 11, 400, .inl (cs_nm σ))),
  (a 12, .inl (k 12, 60, .inl (fun j => nI (cs_fi σ j)))),
  (a 13, .inl (k 13, 60, .inl (fun j => nI (cs_am σ j)))),
  (a 14, .inl (k 14, 400, .inl (cs_si σ))),
  (a 15, .inl (k 15, 400, .inl (cs_ki σ)))]
def tysC (k : Nat → ClassId) : List (ClassId × FieldType) := [(k 3, .int), (k 4, .int), (k 5, .boolean), (k 6, .long), (k 7, .int), (k 8, .int), (k 9, .int), (k 10, .int), (k 11, .int), (k 12, .int), (k 13, .int), (k 14, .int), (k 15, .int)]
def ca (a : Nat → Nat) : Nat → Prop := fun q => ∃ i, i < 16 ∧ q = a i
theorem cw_ad (a : Nat → Nat) (k : Nat → ClassId) (σ : CS) : ∀ i, i < 16 → ((cw a k σ)[i]?).map (fun q => q.1) = some (a i)
  | 0, _ => rfl | 1, _ => rfl | 2, _ => rfl | 3, _ => rfl | 4, _ => rfl | 5, _ => rfl | 6, _ => rfl | 7, _ => rfl | 8, _ => rfl | 9, _ => rfl | 10, _ => rfl | 11, _ => rfl | 12, _ => rfl | 13, _ => rfl | 14, _ => rfl | 15, _ => rfl
  | n + 16, h => absurd h (by omega)
theorem cw_at (a : Nat → Nat) (k : Nat → ClassId) (σ : CS) {i : Nat} {q : Nat × va_E} (h : (cw a k σ)[i]? = some q) : i < 16 ∧ q.1 = a i := by
  have hi : i < 16 := (List.getElem?_eq_some_iff.mp h).1
  have h2 := cw_ad a k σ i hi
  rw [h] at h2
  exact ⟨hi, Option.some.inj h2⟩
def cInj (a : Nat → Nat) : Prop := ∀ i j, i < 16 → j < 16 → a i = a j → i = j
theorem cw_D {a : Nat → Nat} {k : Nat → ClassId} {σ : CS} (h : cInj a) : va_D (ca a) (cw a k σ) := by
  refine ⟨fun i j p q hp hq e => ?_, fun i q hq => ?_⟩
  · obtain ⟨i1, i2⟩ := cw_at a k σ hp
    obtain ⟨j1, j2⟩ := cw_at a k σ hq
    exact h i j i1 j1 (by rw [← i2, ← j2]; exact e)
  · obtain ⟨i1, i2⟩ := cw_at a k σ hq
    exact ⟨i, i1, i2⟩
/-- the static facts of the class's side -/
def cK (D : va_G) (k : Nat → ClassId) (U : State) : Prop := va_K D vwCl (tysC k) U ∧ va_Nw (.methodLinkNest RX0 50 yX2_holds RX2) U
theorem cK.warm {D : va_G} {k : Nat → ClassId} {s U : State} (hW : s.WarmedH U.vm) (h : cK D k s) : cK D k U := ⟨va_K.moved hW.alike h.1, va_Nw.warmM hW h.2⟩
theorem cK.call {D : va_G} {k : Nat → ClassId} {U : State} {g : JFrame} {mk : MethodId} {v : Array Value} (h : cK D k U) : cK D k (U.calling g mk v) := ⟨va_K.moved (u := U) (U := U.calling g mk v) (Vm.Alike.refl U.vm) h.1, va_Nw.same rfl (u := U) (U := U.calling g mk v) rfl h.2⟩
/-- a method's start: the class's cells with the state σ -/
def cP (D : va_G) (a : Nat → Nat) (k : Nat → ClassId) (σ : CS) (av : List Value) : Array Value → State → Prop := va_Pc av (fun U => va_P D vwCl (cw a k σ) U.heap ∧ cK D k U)
theorem cP_blind {D : va_G} {a : Nat → Nat} {k : Nat → ClassId} {σ : CS} {av : List Value} : FrameBlind (cP D a k σ av) := fun _ _ _ _ q => ⟨q.1, q.2.1, q.2.2.call⟩
theorem cP_V {D : va_G} {a : Nat → Nat} {k : Nat → ClassId} {σ : CS} {s : State} {H : Heap} (hK : cK D k s) (hP : va_P D vwCl (cw a k σ) H) (ci q0 : Nat) {q : vw_C} {b : Nat} {fs : List Value} {As : List Value} (hc : vwCl[ci]? = some q) (he : (cw a k σ)[q0]? = some (b, .inr (ci, fs))) : PreV s H q.1 b (cP D a k σ (.ref b :: As)) As :=
  ⟨cP_blind, va_recv hK.1 hP hc he, fun _ hU hW => ⟨rfl, by rw [hU]; exact hP, hK.warm hW⟩⟩
theorem cP_S {D : va_G} {a : Nat → Nat} {k : Nat → ClassId} {σ : CS} {s : State} {H : Heap} (hK : cK D k s) (hP : va_P D vwCl (cw a k σ) H) {As : List Value} : PreS s H (cP D a k σ As) As :=
  ⟨cP_blind, fun _ hU hW => ⟨rfl, by rw [hU]; exact hP, hK.warm hW⟩⟩
theorem ro_kept {D : va_G} {cl : List vw_C} {ws : va_W} {H H1 : Heap} (hP : va_P D cl ws H) (hk : ∀ q : Nat, q < H.size → ¬ False → H1[q]? = H[q]?) : va_P D cl ws H1 := hP.kept (fun k q hq => hk _ ((hP k q hq).lt) id)
/-- ends: an int (a truth) and no change; a long and no change; an int, or nothing, and a new state -/
def roQ (v : Int32) : Array Value → State → Outcome → State → Prop := va_Qi (fun r (_ : Unit) => r = v) (fun _ _ => True) (fun _ => False)
def roL (v : Int64) : Array Value → State → Outcome → State → Prop := va_Ql (fun r (_ : Unit) => r = v) (fun _ _ => True) (fun _ => False)
def wrI (D : va_G) (a : Nat → Nat) (k : Nat → ClassId) (v : Int32) (σ : CS) : Array Value → State → Outcome → State → Prop := va_Qi (fun r (_ : Unit) => r = v) (fun _ t => va_P D vwCl (cw a k σ) t.heap) (ca a)
def wrV (D : va_G) (a : Nat → Nat) (k : Nat → ClassId) (σ : CS) : Array Value → State → Outcome → State → Prop := va_Qv (fun (_ : Unit) => True) (fun _ t => va_P D vwCl (cw a k σ) t.heap) (ca a)
abbrev rmC (f n : Nat) : Room := { frames := f, cells := 0, slots := 0, locals := n }
