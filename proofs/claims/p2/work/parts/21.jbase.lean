/-! the model's side: static facts, the JDK's constants, starts and ends -/
def mK (D : va_G) (cO : ClassId) (mi : Nat) (U : State) : Prop := va_K D vwCl [(cO, .object "java/lang/Object")] U ∧ va_AO "java/lang/Object" U ∧ va_Mi "[Ljava/lang/Object;" mi U ∧ va_Dc U ∧ va_Nw (.castable RX3 "java/lang/Object") U ∧ va_Nw (.castable RX4 "java/lang/Object") U ∧ va_Nw (.castable RX3 RX3) U ∧ va_Nw (.castable RX4 RX4) U
theorem mK.warm {D : va_G} {cO : ClassId} {mi : Nat} {s U : State} (hW : s.WarmedH U.vm) (h : mK D cO mi s) : mK D cO mi U := by
  obtain ⟨h1, h2, h3, h4, h5, h6, h7, h8⟩ := h
  exact ⟨va_K.moved hW.alike h1, va_AO.moved hW.alike h2, va_Mi.moved hW.alike h3, va_Dc.moved hW.alike h4, va_Nw.warmC hW h5, va_Nw.warmC hW h6, va_Nw.warmC hW h7, va_Nw.warmC hW h8⟩
theorem mK.call {D : va_G} {cO : ClassId} {mi : Nat} {U : State} {g : JFrame} {mk : MethodId} {v : Array Value} (h : mK D cO mi U) : mK D cO mi (U.calling g mk v) := by
  obtain ⟨h1, h2, h3, h4, h5, h6, h7, h8⟩ := h
  have hA : U.vm.Alike (U.calling g mk v).vm := Vm.Alike.refl U.vm
  exact ⟨va_K.moved hA h1, va_AO.moved hA h2, va_Mi.moved hA h3, va_Dc.moved hA h4, va_Nw.same rfl (u := U) rfl h5, va_Nw.same rfl (u := U) rfl h6, va_Nw.same rfl (u := U) rfl h7, va_Nw.same rfl (u := U) rfl h8⟩
/-- ArrayList's own empty array, a constant of the machine -/
def jc (e0 : Nat) (A : Nat → Prop) (U : State) (H : Heap) : Prop := va_Z "java/util/ArrayList" "DEFAULTCAPACITY_EMPTY_ELEMENTDATA" "[Ljava/lang/Object;" (.ref e0) A U H ∧ va_T (.object "java/lang/Object") e0 0 (fun _ => .null) A U H
theorem jc.to {e0 : Nat} {A B : Nat → Prop} {s U : State} {H : Heap} {locs : List Loc} (h : jc e0 A s s.heap) (hS : va_S A s.heap H locs) (hvm : s.vm.Alike U.vm) (hAB : ∀ q, B q → A q) : jc e0 B U H :=
  ⟨va_Z.narrow (va_Z.moved hvm (va_Z.kept h.1 hS.2.1)) hAB, va_T.narrow (va_T.moved hvm (va_T.kept h.2 hS.2.1)) hAB⟩
theorem jc.call {e0 : Nat} {A : Nat → Prop} {U : State} {H : Heap} {g : JFrame} {mk : MethodId} {v : Array Value} (h : jc e0 A U H) : jc e0 A (U.calling g mk v) H := ⟨va_Z.moved (u := U) (U := U.calling g mk v) (Vm.Alike.refl U.vm) h.1, va_T.moved (u := U) (U := U.calling g mk v) (Vm.Alike.refl U.vm) h.2⟩
/-- a reader's start -/
def mP (D : va_G) (cO : ClassId) (mi : Nat) (L : List Nat) (f : Nat → va_E) (av : List Value) : Array Value → State → Prop := va_Pc av (fun U => va_P D vwCl (va_pl L f) U.heap ∧ mK D cO mi U)
theorem mP_blind {D : va_G} {cO : ClassId} {mi : Nat} {L : List Nat} {f : Nat → va_E} {av : List Value} : FrameBlind (mP D cO mi L f av) := fun _ _ _ _ q => ⟨q.1, q.2.1, q.2.2.call⟩
theorem pl_recv {D : va_G} {tys : List (ClassId × FieldType)} {s : State} {H : Heap} {L : List Nat} {f : Nat → va_E} {b ci : Nat} {q : vw_C} {fs : List Value} (hK : va_K D vwCl tys s) (hP : va_P D vwCl (va_pl L f) H) (hc : vwCl[ci]? = some q) (hb : b ∈ L) (hf : f b = .inr (ci, fs)) : ∃ cell : Cell, H[b]? = some cell ∧ cell.vm.isStatics = false ∧ s.vm.findClass q.1 = some cell.cls := by
  obtain ⟨k, hk⟩ := pl_ix (f := f) hb
  rw [hf] at hk
  exact va_recv hK hP hc hk
theorem mP_V {D : va_G} {cO : ClassId} {mi : Nat} {L : List Nat} {f : Nat → va_E} {s : State} {H : Heap} (hK : mK D cO mi s) (hP : va_P D vwCl (va_pl L f) H) (ci : Nat) {q : vw_C} {b : Nat} {fs : List Value} {As : List Value} (hc : vwCl[ci]? = some q) (hb : b ∈ L) (hf : f b = .inr (ci, fs)) : PreV s H q.1 b (mP D cO mi L f (.ref b :: As)) As :=
  ⟨mP_blind, pl_recv hK.1 hP hc hb hf, fun _ hU hW => ⟨rfl, by rw [hU]; exact hP, hK.warm hW⟩⟩
theorem mP_S {D : va_G} {cO : ClassId} {mi : Nat} {L : List Nat} {f : Nat → va_E} {s : State} {H : Heap} (hK : mK D cO mi s) (hP : va_P D vwCl (va_pl L f) H) {As : List Value} : PreS s H (mP D cO mi L f As) As := ⟨mP_blind, fun _ hU hW => ⟨rfl, by rw [hU]; exact hP, hK.warm hW⟩⟩
/-- a reader's answer that is a cell or null -/
def roR (v : Option Nat) : Array Value → State → Outcome → State → Prop := va_Qq (fun r (_ : Unit) => r = v) (fun _ _ => True) (fun _ => False)
/-- a writer's start and ends -/
def mW (D : va_G) (cO : ClassId) (mi e0 : Nat) (L : List Nat) (f : Nat → va_E) (sz : Nat) (av : List Value) : Array Value → State → Prop := va_Pc av (fun U => U.heap.size = sz ∧ va_P D vwCl (va_pl L f) U.heap ∧ mK D cO mi U ∧ jc e0 (mA L sz) U U.heap)
theorem mW_blind {D : va_G} {cO : ClassId} {mi e0 : Nat} {L : List Nat} {f : Nat → va_E} {sz : Nat} {av : List Value} : FrameBlind (mW D cO mi e0 L f sz av) := fun _ _ _ _ q => ⟨q.1, q.2.1, q.2.2.1, q.2.2.2.1.call, q.2.2.2.2.call⟩
theorem mW_V {D : va_G} {cO : ClassId} {mi e0 : Nat} {L : List Nat} {f : Nat → va_E} {A : Nat → Prop} {s : State} {H : Heap} {locs : List Loc} (hK : mK D cO mi s) (hJ : jc e0 A s s.heap) (hS : va_S A s.heap H locs) (hAB : ∀ q, mA L H.size q → A q) (hP : va_P D vwCl (va_pl L f) H) (ci : Nat) {q : vw_C} {b : Nat} {fs : List Value} {As : List Value} (hc : vwCl[ci]? = some q) (hb : b ∈ L) (hf : f b = .inr (ci, fs)) : PreV s H q.1 b (mW D cO mi e0 L f H.size (.ref b :: As)) As :=
  ⟨mW_blind, pl_recv hK.1 hP hc hb hf, fun U hU hW => ⟨rfl, by rw [hU], by rw [hU]; exact hP, hK.warm hW, by rw [hU]; exact hJ.to hS hW.alike hAB⟩⟩
theorem mW_S {D : va_G} {cO : ClassId} {mi e0 : Nat} {L : List Nat} {f : Nat → va_E} {A : Nat → Prop} {s : State} {H : Heap} {locs : List Loc} (hK : mK D cO mi s) (hJ : jc e0 A s s.heap) (hS : va_S A s.heap H locs) (hAB : ∀ q, mA L H.size q → A q) (hP : va_P D vwCl (va_pl L f) H) {As : List Value} : PreS s H (mW D cO mi e0 L f H.size As) As :=
  ⟨mW_blind, fun U hU hW => ⟨rfl, by rw [hU], by rw [hU]; exact hP, hK.warm hW, by rw [hU]; exact hJ.to hS hW.alike hAB⟩⟩
abbrev PS : Type := List Nat × (Nat → va_E)
def wQi (D : va_G) (L : List Nat) (sz : Nat) (post : Int32 → PS → Prop) : Array Value → State → Outcome → State → Prop := va_Qi (fun r (u : PS) => post r u ∧ pext L sz u.1) (fun u t => va_P D vwCl (va_pl u.1 u.2) t.heap) (mA L sz)
def wQv (D : va_G) (L : List Nat) (sz : Nat) (post : PS → Prop) : Array Value → State → Outcome → State → Prop := va_Qv (fun (u : PS) => post u ∧ pext L sz u.1) (fun u t => va_P D vwCl (va_pl u.1 u.2) t.heap) (mA L sz)
def wQq (D : va_G) (L : List Nat) (sz : Nat) (post : Option Nat → PS → Prop) : Array Value → State → Outcome → State → Prop := va_Qq (fun r (u : PS) => post r u ∧ pext L sz u.1) (fun u t => va_P D vwCl (va_pl u.1 u.2) t.heap) (mA L sz)
/-- an ArrayList's own cell -/
abbrev alc (mc : Int32) (d c : Nat) : va_E := .inr (0, [.int mc, .ref d, .int (nI c)])
section JB
variable {p : Program} {l : Launch} {e : Env} {R : Room} {s : State} {m : MethodId} {args : Array Value} {below : List Frame} {meth : Method} {c : Code} {H : Heap} {locs : List Loc} {cells slots : Nat} {Q : State → Prop}
theorem gen_startW {D : va_G} {cl : List vw_C} {ws : va_W} {A : Nat → Prop} {sz : Nat} {g : JFrame} (k : ∀ (H : Heap) (locs : List Loc), va_P D cl ws H → va_S A s.heap H locs → sz ≤ H.size → W p l e R s m args below meth c H locs cells slots Q g) (hP : va_P D cl ws s.heap) (hsz : s.heap.size = sz) : W p l e R s m args below meth c s.heap [] cells slots Q g := k s.heap [] hP va_S.rf (by omega)
end JB
