set_option maxHeartbeats 4000000 in
set_option maxRecDepth 100000 in
theorem c_J7_copyOf_1904c (l : Launch) (D : va_G) (cO : ClassId) (mi e0 : Nat) (L : List Nat) (f : Nat → va_E) (sz : Nat) (hnd : L.Nodup) (d n k : Nat) (hd : d ∈ L) (g : Nat → Option Nat) (hfd : f d = refs n g cO) (hnk : n ≤ k) (hk : k < 2 ^ 27) (hel : ∀ i, i < n → ∀ y, g i = some y → mobj L f y) : Met l yJ7_copyOf_1904c wsJ7_copyOf_1904c { frames := 2, cells := 1, slots := k, locals := 83 } (mW D cO mi e0 L f sz [.ref d, .int (nI k)]) (wQq D L sz (fun r u => ∃ (q : Nat) (g2 : Nat → Option Nat), r = some q ∧ q ∉ L ∧ u = (L ++ [q], va_up f q (refs k g2 cO)) ∧ (∀ i, i < n → g2 i = g i))) 1 k (mA L sz) := by
  refine Met.ofW (cc := cJ7_copyOf_1904c) (maxL := 2) (ret := (some (.array (.object "java/lang/Object")))) (by decide) rfl ?_
  intro p e s m args below meth cq s₁ B hml hv
  obtain ⟨rfl, hsz, hP, hK, hJ⟩ := hv
  have hx := B.exec
  have hb := B.bytes
  have hr := B.returns
  have hts := atoms_spec (ws := wsJ7_copyOf_1904c) B.pre
  have hown : s.vm.findClass RJ7 = some m.cls := findClass_of_methodNamed B.named
  have hlocks := B.notSynchronized
  have hin := (name_of_methodNamed B.named B.method).1
  clear B
  have hl := lv_entry ([.ref d, .int (nI k)]) (n := 2) (Nat.le_of_ble_eq_true rfl)
  rw [lg_entry_eq]
  generalize (lg_sl ([.ref d, .int (nI k)]) ++ List.replicate (2 - (lg_sl ([.ref d, .int (nI k)])).length) Slot.unset).toArray = ls at hl ⊢
  replace hl : lv_has ls 2 [(0, .ref d), (1, .int (nI k))] := hl
  have hA : ∀ q : Nat, s.heap.size ≤ q → mA L sz q := fun q h => Or.inr (by omega)
  have hE : pext L sz L := pext.rf hnd
  have hD : va_D (mA L sz) (va_pl L f) := hE.D
  refine gen_start (A := mA L sz) (fun H locs hP hS => ?_) hP
  refine lv_aload_n hx hb dJ7_copyOf_1904c_0 rfl (lv_at hl 0 rfl) ?_
  refine lv_iload_n hx hb dJ7_copyOf_1904c_1 rfl (lv_at hl 1 rfl) ?_
  refine lv_aload_n hx hb dJ7_copyOf_1904c_2 rfl (lv_at hl 0 rfl) ?_
  refine va_getC hx hb (by rw [hml]; exact hl.1.symm) hown (hts (.methodLink RJ7 86 ⟨"java/lang/Object", "getClass", "()Ljava/lang/Class;"⟩) (by decide +kernel)) (va_Dc.use hK.2.2.2.1) (hts (.selects "[Ljava/lang/Object;" ⟨"java/lang/Object", "getClass", "()Ljava/lang/Class;"⟩ ⟨"java/lang/Object", "getClass", "()Ljava/lang/Class;"⟩) (by decide +kernel)) (hts (.instanceMethod ⟨"java/lang/Object", "getClass", "()Ljava/lang/Class;"⟩) (by decide +kernel)) (hts (.native ⟨"java/lang/Object", "getClass", "()Ljava/lang/Class;"⟩) (by decide +kernel)) hK.2.2.1 (pl_arrc hK hP hd hfd) (Nat.le_of_ble_eq_true rfl) (Nat.le_of_ble_eq_true rfl) dJ7_copyOf_1904c_3 ?_
  have hszH : sz ≤ H.size := by have := hS.1; omega
  have hPold := hP
  refine va_callq (va_runS (As := [.ref d, .int (nI k), .ref mi]) (rest := []) ⟨hx, hb, hml, hown, hts⟩ (c_J7_copyOf_6403c l D cO mi e0 L f H.size hE.nd d n k hd g hfd hnk hk hel) (va_cwS 3 hts gJ7_copyOf_1904c_J7_copyOf_6403c rfl rfl rfl (by decide +kernel) ⟨Nat.le_of_ble_eq_true rfl, Nat.le_of_ble_eq_true rfl⟩) (mW_S hK hJ hS (hE.sub (by have := hS.1; omega)) hP) rfl rfl hl.1 rfl (lv_room (Nat.le_of_ble_eq_true rfl)) dJ7_copyOf_1904c_6 ⟨Nat.le_refl _, by show 0 + k ≤ k; omega⟩) hS (fun q _ h => (hE.sub (by have := hS.1; omega)) q h) (hE.sub (by have := hS.1; omega)) (fun r_1 u t H1 locs ht hvm hw hB hz1 hk1 hS => ?_)
  obtain ⟨L1, f1⟩ := u
  obtain ⟨hw, hE1⟩ := hw
  replace hB : va_P D vwCl (va_pl L1 f1) t.heap := hB
  rw [ht] at hB
  replace hE : pext L sz L1 := hE.tr (hszH) hE1
  obtain ⟨q, g2, hr1, hq, hu, hg2⟩ := hw
  subst hr1
  cases hu
  clear hPold hP hk1 hz1 hvm ht hszH hE1
  have hP := hB
  clear hB
  generalize H1 = H at hP hS ⊢
  have hD : va_D (mA L sz) (va_pl (L ++ [q]) (va_up f q (refs k g2 cO))) := hE.D
  refine W.widen (k := 1) (n := k) (by first | exact Nat.le_refl _ | omega) (by omega) ?_
  exact W.aret (v := va_rf (some q)) hx hb hr (Or.inr ⟨_, rfl⟩) (va_rf_or _) (fun t ht hW => ⟨⟨(some q), ((L ++ [q]), (va_up f q (refs k g2 cO))), rfl, ⟨⟨q, g2, rfl, hq, rfl, hg2⟩, hE⟩, show va_P D vwCl (va_pl _ _) t.heap from (by rw [ht]; exact hP)⟩, hS.F ht⟩) hS.2.2 dJ7_copyOf_1904c_9
set_option maxHeartbeats 4000000 in
set_option maxRecDepth 100000 in
theorem c_Jx4a65c_grow_92f84 (l : Launch) (D : va_G) (cO : ClassId) (mi e0 : Nat) (L : List Nat) (f : Nat → va_E) (sz : Nat) (hnd : L.Nodup) (a : Nat) (ha : a ∈ L) (mc : Int32) (d c : Nat) (hf : f a = alc mc d c) (g : Nat → Option Nat) (k : Nat) (hg : (d = e0 ∧ c = 0 ∧ k = 10) ∨ (d ∈ L ∧ f d = refs c g cO ∧ 2 ≤ c ∧ c ≤ 10000 ∧ k = c + c / 2 ∧ ∀ i, i < c → ∀ y, g i = some y → mobj L f y)) : Met l yJx4a65c_grow_92f84 wsJx4a65c_grow_92f84 { frames := 3, cells := 1, slots := k, locals := 104 } (mW D cO mi e0 L f sz [.ref a, .int (nI (c + 1))]) (wQq D L sz (fun r u => ∃ (q : Nat) (g2 : Nat → Option Nat), r = some q ∧ q ∉ L ∧ u = (L ++ [q], va_up (va_up f q (refs k g2 cO)) a (alc mc q c)) ∧ (∀ i, i < c → g2 i = g i))) 1 k (mA L sz) := by
  refine Met.ofW (cc := cJx4a65c_grow_92f84) (maxL := 4) (ret := (some (.array (.object "java/lang/Object")))) (by decide) rfl ?_
  intro p e s m args below meth cq s₁ B hml hv
  obtain ⟨rfl, hsz, hP, hK, hJ⟩ := hv
  have hx := B.exec
  have hb := B.bytes
  have hr := B.returns
  have hts := atoms_spec (ws := wsJx4a65c_grow_92f84) B.pre
  have hown : s.vm.findClass RJx4a65c = some m.cls := findClass_of_methodNamed B.named
  have hlocks := B.notSynchronized
  have hin := (name_of_methodNamed B.named B.method).1
  clear B
  have hl := lv_entry ([.ref a, .int (nI (c + 1))]) (n := 4) (Nat.le_of_ble_eq_true rfl)
  rw [lg_entry_eq]
  generalize (lg_sl ([.ref a, .int (nI (c + 1))]) ++ List.replicate (4 - (lg_sl ([.ref a, .int (nI (c + 1))])).length) Slot.unset).toArray = ls at hl ⊢
  replace hl : lv_has ls 4 [(0, .ref a), (1, .int (nI (c + 1)))] := hl
  have hA : ∀ q : Nat, s.heap.size ≤ q → mA L sz q := fun q h => Or.inr (by omega)
  have hE : pext L sz L := pext.rf hnd
  have hD : va_D (mA L sz) (va_pl L f) := hE.D
  refine gen_start (A := mA L sz) (fun H locs hP hS => ?_) hP
  rcases hg with ⟨e1, e2, e3⟩ | ⟨hd, hfd, hc2, hc3, e3, hel⟩
  · subst e1; subst e2; subst e3
    replace hl : lv_has ls 4 [(0, .ref a), (1, .int (nI 1))] := hl
    refine lv_aload_n hx hb dJx4a65c_grow_92f84_0 rfl (lv_at hl 0 rfl) ?_
    refine pl_get (D := D) (ci := 0) (v := .ref d) (C := RJx4a65c) (T := TJx4a65c) (N := 3) hx hb hts (by decide +kernel) hown hK.1 hP ha hf rfl 1 (by decide) (hts (.fieldLink RJx4a65c 9 "java/util/ArrayList" "elementData" "[Ljava/lang/Object;") (by decide +kernel)) (fun _ h9 => h9) rfl dJx4a65c_grow_92f84_1 ?_
    refine va_tlen (v := nI 0) hx hb hJ.2 hS rfl dJx4a65c_grow_92f84_4 ?_
    refine lv_istore_n (lv' := [(2, .int (nI 0)), (0, .ref a), (1, .int (nI 1))]) hx hb dJx4a65c_grow_92f84_5 rfl hl (by decide) rfl (fun ls hl => ?_)
    refine lv_iload_n hx hb dJx4a65c_grow_92f84_6 rfl (lv_at hl 0 rfl) ?_
    refine lv_if_gt (tgt := 20) hx hb dJx4a65c_grow_92f84_7 (by decide) (fun c_1 => ?_) (fun c_1 => ?_)
    · exact absurd c_1 (by decide)
    · refine lv_aload_n hx hb dJx4a65c_grow_92f84_10 rfl (lv_at hl 1 rfl) ?_
      refine pl_get (D := D) (ci := 0) (v := .ref d) (C := RJx4a65c) (T := TJx4a65c) (N := 3) hx hb hts (by decide +kernel) hown hK.1 hP ha hf rfl 1 (by decide) (hts (.fieldLink RJx4a65c 9 "java/util/ArrayList" "elementData" "[Ljava/lang/Object;") (by decide +kernel)) (fun _ h9 => h9) rfl dJx4a65c_grow_92f84_11 ?_
      refine va_gets (v := .ref d) hx hb hJ.1 hS hown (hts (.fieldLink RJx4a65c 39 "java/util/ArrayList" "DEFAULTCAPACITY_EMPTY_ELEMENTDATA" "[Ljava/lang/Object;") (by decide +kernel)) (fun _ h9 => h9) dJx4a65c_grow_92f84_14 ?_
      refine lv_acmp_eq (rx := (some d)) (ry := (some d)) (tgt := 45) hx hb dJx4a65c_grow_92f84_17 (by decide) (fun c_2 => ?_) (fun c_2 => ?_)
      · refine lv_aload_n hx hb dJx4a65c_grow_92f84_45 rfl (lv_at hl 1 rfl) ?_
        refine lv_bipush (v := (nI 10)) hx hb dJx4a65c_grow_92f84_46 (by decide) ?_
        refine lv_iload_n hx hb dJx4a65c_grow_92f84_48 rfl (lv_at hl 2 rfl) ?_
        refine va_mmax hx hb (by rw [hml]; exact hl.1.symm) hown (hts (.methodLink RJx4a65c 79 Lib.Math.max.name) (by decide +kernel)) (hts (.static Lib.Math.max.name) (by decide +kernel)) (hts (.initialized "java/lang/Math") (by decide +kernel)) (hts (.code Lib.Math.max.name Lib.Math.max.code 2 (some .int)) (List.mem_of_getElem? (i := 6) rfl)) (Nat.le_of_ble_eq_true rfl) (Nat.le_of_ble_eq_true rfl) (Nat.zero_le _) (Nat.zero_le _) dJx4a65c_grow_92f84_49 ?_
        rw [show (if nI 10 < nI 1 then nI 1 else nI 10) = nI 10 from by decide]
        refine pl_newq (D := D) hx hb hown (hts (.classLink RJx4a65c 7 "java/lang/Object") (by decide +kernel)) hK.2.1 hK.1 hP hD hS hA (n := 10) (by omega) (Nat.le_refl _) (by show 0 + 10 ≤ 10; omega) dJx4a65c_grow_92f84_52 (fun q52 H hq hAq hP hS => ?_)
        have hqs : sz ≤ q52 := hAq.resolve_left (fun z => hq (hE.mem z))
        obtain ⟨f3, hf3⟩ : ∃ z, z = va_up f q52 (refs 10 (fun _ => none) cO) := ⟨_, rfl⟩
        rw [← hf3] at hP
        have F_a_3 : f3 a = .inr (0, [.int mc, .ref d, .int (nI 0)]) := by rw [hf3, va_up_ne _ _ (show a ≠ q52 from fun e9 => hq (e9 ▸ ha))]; exact hf
        have M_a_3 := List.mem_append_left [q52] ha
        have F_q52_3 : f3 q52 = refs 10 (fun _ => none) cO := by rw [hf3]; exact va_up_self _ _ _
        have M_q52_3 : q52 ∈ L ++ [q52] := List.mem_append_right _ (List.mem_singleton.mpr rfl)
        replace hE : pext L sz (L ++ [q52]) := hE.tr (Nat.le_refl _) (pext.one hE.nd hq hqs)
        have hD : va_D (mA L sz) (va_pl (L ++ [q52]) f3) := hE.D
        refine lv_dup_x1 hx hb dJx4a65c_grow_92f84_55 rfl rfl ?_
        refine pl_put (D := D) (ci := 0) (v := .ref q52) (ty := .array (.object "java/lang/Object")) (C := RJx4a65c) (T := TJx4a65c) (N := 3) hx hb hts (by decide +kernel) tyJx4a65c tyJx4a65c_ok nmJx4a65c hown hK.1 hP hD hS M_a_3 F_a_3 rfl 1 (by decide) (hts (.fieldLink RJx4a65c 9 "java/util/ArrayList" "elementData" "[Ljava/lang/Object;") (by decide +kernel)) (fun _ h9 => h9) rfl (by decide +kernel) rfl rfl (Nat.le_of_ble_eq_true rfl) dJx4a65c_grow_92f84_56 (fun H locs hP hS => ?_)
        replace hP : va_P D vwCl (va_pl (L ++ [q52]) (va_up f3 a (.inr (0, [.int mc, .ref q52, .int (nI 0)])))) H := hP
        obtain ⟨f4, hf4⟩ : ∃ z, z = va_up f3 a (.inr (0, [.int mc, .ref q52, .int (nI 0)])) := ⟨_, rfl⟩
        rw [← hf4] at hP
        have F_q52_4 : f4 q52 = refs 10 (fun _ => none) cO := by rw [hf4, va_up_ne _ _ (show q52 ≠ a from (cell_ne F_q52_3 F_a_3 (by intro e8; first | (cases e8; done) | (simp at e8; done))))]; exact F_q52_3
        have F_a_4 : f4 a = .inr (0, [.int mc, .ref q52, .int (nI 0)]) := by rw [hf4]; exact va_up_self _ _ _
        have hD : va_D (mA L sz) (va_pl (L ++ [q52]) f4) := hE.D
        refine W.widen (k := 1) (n := 10) (by first | exact Nat.le_refl _ | omega) (Nat.le_refl _) ?_
        exact W.aret (v := va_rf (some q52)) hx hb hr (Or.inr ⟨_, rfl⟩) (va_rf_or _) (fun t ht hW => ⟨⟨(some q52), ((L ++ [q52]), f4), rfl, ⟨⟨q52, _, rfl, hq, by rw [hf4, hf3], fun i hi => absurd hi (by omega)⟩, hE⟩, show va_P D vwCl (va_pl _ _) t.heap from (by rw [ht]; exact hP)⟩, hS.F ht⟩) hS.2.2 dJx4a65c_grow_92f84_59
      · exact absurd rfl c_2
  · have hx2 := hx
    subst e3
    refine lv_aload_n hx hb dJx4a65c_grow_92f84_0 rfl (lv_at hl 0 rfl) ?_
    refine pl_get (D := D) (ci := 0) (v := .ref d) (C := RJx4a65c) (T := TJx4a65c) (N := 3) hx hb hts (by decide +kernel) hown hK.1 hP ha hf rfl 1 (by decide) (hts (.fieldLink RJx4a65c 9 "java/util/ArrayList" "elementData" "[Ljava/lang/Object;") (by decide +kernel)) (fun _ h9 => h9) rfl dJx4a65c_grow_92f84_1 ?_
    refine pl_alen (D := D) hx hb hK.1 hP 0 hd hfd rfl dJx4a65c_grow_92f84_4 ?_
    refine lv_istore_n (lv' := [(2, .int (nI c)), (0, .ref a), (1, .int (nI (c + 1)))]) hx hb dJx4a65c_grow_92f84_5 rfl hl (by decide) rfl (fun ls hl => ?_)
    refine lv_iload_n hx hb dJx4a65c_grow_92f84_6 rfl (lv_at hl 0 rfl) ?_
    refine lv_if_gt (tgt := 20) hx hb dJx4a65c_grow_92f84_7 (by decide) (fun c_5 => ?_) (fun c_5 => ?_)
    · refine lv_iload_n hx hb dJx4a65c_grow_92f84_20 rfl (lv_at hl 0 rfl) ?_
      refine lv_iload_n hx hb dJx4a65c_grow_92f84_21 rfl (lv_at hl 2 rfl) ?_
      refine lv_iload_n hx hb dJx4a65c_grow_92f84_22 rfl (lv_at hl 0 rfl) ?_
      refine lv_isubN hx hb dJx4a65c_grow_92f84_23 (by omega) ?_
      rw [show c + 1 - c = 1 by omega]
      refine lv_iload_n hx hb dJx4a65c_grow_92f84_24 rfl (lv_at hl 0 rfl) ?_
      refine lv_iconst (v := (nI 1)) hx hb dJx4a65c_grow_92f84_25 (by decide) ?_
      refine lv_ishr hx hb dJx4a65c_grow_92f84_26 ?_
      rw [sh1 (by omega)]
      refine va_calli (va_runS (As := [.int (nI c), .int (nI 1), .int (nI (c / 2))]) (rest := []) ⟨hx, hb, hml, hown, hts⟩ (c_J8_newLength_cabcc l D cO mi L f c (c / 2) (by omega) (by omega)) (va_cwS 3 hts gJx4a65c_grow_92f84_J8_newLength_cabcc rfl rfl rfl (by decide +kernel) ⟨Nat.le_of_ble_eq_true rfl, Nat.le_of_ble_eq_true rfl⟩) (mP_S hK hP) rfl rfl hl.1 rfl (lv_room (Nat.le_of_ble_eq_true rfl)) dJx4a65c_grow_92f84_27 ⟨Nat.zero_le _, Nat.zero_le _⟩) hS (fun _ _ h => h.elim) (fun _ h => h.elim) (fun r_6 u t H1 locs ht hvm hw hB hz1 hk1 hS => ?_)
      replace hP := ro_kept hP hk1
      obtain rfl : r_6 = _ := hw
      clear hk1 hz1 hvm ht hB
      generalize H1 = H at hP hS ⊢
      refine lv_istore_n (lv' := [(3, .int (nI (c + c / 2))), (2, .int (nI c)), (0, .ref a), (1, .int (nI (c + 1)))]) hx hb dJx4a65c_grow_92f84_30 rfl hl (by decide) rfl (fun ls hl => ?_)
      refine lv_aload_n hx hb dJx4a65c_grow_92f84_31 rfl (lv_at hl 2 rfl) ?_
      refine lv_aload_n hx hb dJx4a65c_grow_92f84_32 rfl (lv_at hl 2 rfl) ?_
      refine pl_get (D := D) (ci := 0) (v := .ref d) (C := RJx4a65c) (T := TJx4a65c) (N := 3) hx hb hts (by decide +kernel) hown hK.1 hP ha hf rfl 1 (by decide) (hts (.fieldLink RJx4a65c 9 "java/util/ArrayList" "elementData" "[Ljava/lang/Object;") (by decide +kernel)) (fun _ h9 => h9) rfl dJx4a65c_grow_92f84_33 ?_
      refine lv_iload_n hx hb dJx4a65c_grow_92f84_36 rfl (lv_at hl 0 rfl) ?_
      have hszH : sz ≤ H.size := by have := hS.1; omega
      have hPold := hP
      refine va_callq (va_runS (As := [.ref d, .int (nI (c + c / 2))]) (rest := [.ref a]) ⟨hx, hb, hml, hown, hts⟩ (c_J7_copyOf_1904c l D cO mi e0 L f H.size hE.nd d c (c + c / 2) hd g hfd (by omega) (by omega) hel) (va_cwS 2 hts gJx4a65c_grow_92f84_J7_copyOf_1904c rfl rfl rfl (by decide +kernel) ⟨Nat.le_of_ble_eq_true rfl, Nat.le_of_ble_eq_true rfl⟩) (mW_S hK hJ hS (hE.sub (by have := hS.1; omega)) hP) rfl rfl hl.1 rfl (lv_room (Nat.le_of_ble_eq_true rfl)) dJx4a65c_grow_92f84_37 ⟨Nat.le_refl _, by show 0 + 0 + (c + c / 2) ≤ c + c / 2; omega⟩) hS (fun q _ h => (hE.sub (by have := hS.1; omega)) q h) (hE.sub (by have := hS.1; omega)) (fun r_7 u t H1 locs ht hvm hw hB hz1 hk1 hS => ?_)
      obtain ⟨L7, f7⟩ := u
      obtain ⟨hw, hE1⟩ := hw
      replace hB : va_P D vwCl (va_pl L7 f7) t.heap := hB
      rw [ht] at hB
      replace hE : pext L sz L7 := hE.tr (hszH) hE1
      obtain ⟨q, g2, hr1, hq, hu, hg2⟩ := hw
      subst hr1
      cases hu
      have Fa2 : va_up f q (refs (c + c / 2) g2 cO) a = alc mc d c := by rw [va_up_ne _ _ (show a ≠ q from fun e9 => hq (e9 ▸ ha))]; exact hf
      have Ma2 := List.mem_append_left [q] ha
      clear hPold hP hk1 hz1 hvm ht hszH hE1
      have hP := hB
      clear hB
      generalize H1 = H at hP hS ⊢
      have hD : va_D (mA L sz) (va_pl (L ++ [q]) (va_up f q (refs (c + c / 2) g2 cO))) := hE.D
      refine lv_dup_x1 hx hb dJx4a65c_grow_92f84_40 rfl rfl ?_
      refine pl_put (D := D) (ci := 0) (v := .ref q) (ty := .array (.object "java/lang/Object")) (C := RJx4a65c) (T := TJx4a65c) (N := 3) hx hb hts (by decide +kernel) tyJx4a65c tyJx4a65c_ok nmJx4a65c hown hK.1 hP hD hS Ma2 Fa2 rfl 1 (by decide) (hts (.fieldLink RJx4a65c 9 "java/util/ArrayList" "elementData" "[Ljava/lang/Object;") (by decide +kernel)) (fun _ h9 => h9) rfl (by decide +kernel) rfl rfl (Nat.le_of_ble_eq_true rfl) dJx4a65c_grow_92f84_41 (fun H locs hP hS => ?_)
      replace hP : va_P D vwCl (va_pl (L ++ [q]) (va_up (va_up f q (refs (c + c / 2) g2 cO)) a (.inr (0, [.int mc, .ref q, .int (nI c)])))) H := hP
      obtain ⟨f8, hf8⟩ : ∃ z, z = va_up (va_up f q (refs (c + c / 2) g2 cO)) a (.inr (0, [.int mc, .ref q, .int (nI c)])) := ⟨_, rfl⟩
      rw [← hf8] at hP
      have F_a_8 : f8 a = .inr (0, [.int mc, .ref q, .int (nI c)]) := by rw [hf8]; exact va_up_self _ _ _
      have hD : va_D (mA L sz) (va_pl (L ++ [q]) f8) := hE.D
      refine W.widen (k := 1) (n := (c + c / 2)) (by first | exact Nat.le_refl _ | omega) (by omega) ?_
      exact W.aret (v := va_rf (some q)) hx hb hr (Or.inr ⟨_, rfl⟩) (va_rf_or _) (fun t ht hW => ⟨⟨(some q), ((L ++ [q]), f8), rfl, ⟨⟨q, g2, rfl, hq, by rw [hf8], hg2⟩, hE⟩, show va_P D vwCl (va_pl _ _) t.heap from (by rw [ht]; exact hP)⟩, hS.F ht⟩) hS.2.2 dJx4a65c_grow_92f84_44
    · exact absurd (nI_lt (a := 0) (b := c) (by omega) (by omega)) c_5
set_option maxHeartbeats 4000000 in
set_option maxRecDepth 100000 in
theorem c_Jx4a65c_grow_d5877 (l : Launch) (D : va_G) (cO : ClassId) (mi e0 : Nat) (L : List Nat) (f : Nat → va_E) (sz : Nat) (hnd : L.Nodup) (a : Nat) (ha : a ∈ L) (mc : Int32) (d c : Nat) (hf : f a = alc mc d c) (g : Nat → Option Nat) (k : Nat) (hg : (d = e0 ∧ c = 0 ∧ k = 10) ∨ (d ∈ L ∧ f d = refs c g cO ∧ 2 ≤ c ∧ c ≤ 10000 ∧ k = c + c / 2 ∧ ∀ i, i < c → ∀ y, g i = some y → mobj L f y)) : Met l yJx4a65c_grow_d5877 wsJx4a65c_grow_d5877 { frames := 4, cells := 1, slots := k, locals := 127 } (mW D cO mi e0 L f sz [.ref a]) (wQq D L sz (fun r u => ∃ (q : Nat) (g2 : Nat → Option Nat), r = some q ∧ q ∉ L ∧ u = (L ++ [q], va_up (va_up f q (refs k g2 cO)) a (alc mc q c)) ∧ (∀ i, i < c → g2 i = g i))) 1 k (mA L sz) := by
  refine Met.ofW (cc := cJx4a65c_grow_d5877) (maxL := 1) (ret := (some (.array (.object "java/lang/Object")))) (by decide) rfl ?_
  intro p e s m args below meth cq s₁ B hml hv
  obtain ⟨rfl, hsz, hP, hK, hJ⟩ := hv
  have hx := B.exec
  have hb := B.bytes
  have hr := B.returns
  have hts := atoms_spec (ws := wsJx4a65c_grow_d5877) B.pre
  have hown : s.vm.findClass RJx4a65c = some m.cls := findClass_of_methodNamed B.named
  have hlocks := B.notSynchronized
  have hin := (name_of_methodNamed B.named B.method).1
  clear B
  have hl := lv_entry ([.ref a]) (n := 1) (Nat.le_of_ble_eq_true rfl)
  rw [lg_entry_eq]
  generalize (lg_sl ([.ref a]) ++ List.replicate (1 - (lg_sl ([.ref a])).length) Slot.unset).toArray = ls at hl ⊢
  replace hl : lv_has ls 1 [(0, .ref a)] := hl
  have hA : ∀ q : Nat, s.heap.size ≤ q → mA L sz q := fun q h => Or.inr (by omega)
  have hE : pext L sz L := pext.rf hnd
  have hD : va_D (mA L sz) (va_pl L f) := hE.D
  refine gen_start (A := mA L sz) (fun H locs hP hS => ?_) hP
  refine lv_aload_n hx hb dJx4a65c_grow_d5877_0 rfl (lv_at hl 0 rfl) ?_
  refine lv_aload_n hx hb dJx4a65c_grow_d5877_1 rfl (lv_at hl 0 rfl) ?_
  refine pl_get (D := D) (ci := 0) (v := .int (nI c)) (C := RJx4a65c) (T := TJx4a65c) (N := 3) hx hb hts (by decide +kernel) hown hK.1 hP ha hf rfl 2 (by decide) (hts (.fieldLink RJx4a65c 48 "java/util/ArrayList" "size" "I") (by decide +kernel)) (fun _ h9 => h9) rfl dJx4a65c_grow_d5877_2 ?_
  refine lv_iconst (v := (nI 1)) hx hb dJx4a65c_grow_d5877_5 (by decide) ?_
  refine lv_iaddN hx hb dJx4a65c_grow_d5877_6 ?_
  have hszH : sz ≤ H.size := by have := hS.1; omega
  have hPold := hP
  refine va_callq (va_runV (As := [.int (nI (c + 1))]) (rest := []) ⟨hx, hb, hml, hown, hts⟩ (c_Jx4a65c_grow_92f84 l D cO mi e0 L f H.size hE.nd a ha mc d c hf g k hg) (cwV 1 hts gJx4a65c_grow_d5877_Jx4a65c_grow_92f84 rfl rfl rfl (by decide +kernel) ⟨Nat.le_of_ble_eq_true rfl, Nat.le_of_ble_eq_true rfl⟩) (mW_V hK hJ hS (hE.sub (by have := hS.1; omega)) hP 0 rfl ha hf) rfl rfl hl.1 rfl (lv_room (Nat.le_of_ble_eq_true rfl)) dJx4a65c_grow_d5877_7 ⟨Nat.le_refl _, by show 0 + k ≤ k; omega⟩) hS (fun q _ h => (hE.sub (by have := hS.1; omega)) q h) (hE.sub (by have := hS.1; omega)) (fun r_1 u t H1 locs ht hvm hw hB hz1 hk1 hS => ?_)
  obtain ⟨L1, f1⟩ := u
  obtain ⟨hw, hE1⟩ := hw
  replace hB : va_P D vwCl (va_pl L1 f1) t.heap := hB
  rw [ht] at hB
  replace hE : pext L sz L1 := hE.tr (hszH) hE1
  obtain ⟨q, g2, hr1, hq, hu, hg2⟩ := hw
  subst hr1
  cases hu
  clear hPold hP hk1 hz1 hvm ht hszH hE1
  have hP := hB
  clear hB
  generalize H1 = H at hP hS ⊢
  have hD : va_D (mA L sz) (va_pl (L ++ [q]) (va_up (va_up f q (refs k g2 cO)) a (alc mc q c))) := hE.D
  refine W.widen (k := 1) (n := k) (by first | exact Nat.le_refl _ | omega) (by omega) ?_
  exact W.aret (v := va_rf (some q)) hx hb hr (Or.inr ⟨_, rfl⟩) (va_rf_or _) (fun t ht hW => ⟨⟨(some q), ((L ++ [q]), (va_up (va_up f q (refs k g2 cO)) a (alc mc q c))), rfl, ⟨⟨q, g2, rfl, hq, rfl, hg2⟩, hE⟩, show va_P D vwCl (va_pl _ _) t.heap from (by rw [ht]; exact hP)⟩, hS.F ht⟩) hS.2.2 dJx4a65c_grow_d5877_10
