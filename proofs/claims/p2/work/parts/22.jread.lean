set_option maxHeartbeats 4000000 in
set_option maxRecDepth 100000 in
theorem c_Jx4a65c_size_8abf5 (l : Launch) (D : va_G) (cO : ClassId) (mi : Nat) (L : List Nat) (f : Nat → va_E) (a : Nat) (ha : a ∈ L) (mc : Int32) (d c : Nat) (hf : f a = alc mc d c) : Met l yJx4a65c_size_8abf5 wsJx4a65c_size_8abf5 (rmC 0 0) (mP D cO mi L f [.ref a]) (roQ (nI c)) 0 0 (fun _ => False) := by
  refine Met.ofW (cc := cJx4a65c_size_8abf5) (maxL := 1) (ret := (some .int)) (by decide) rfl ?_
  intro p e s m args below meth cq s₁ B hml hv
  obtain ⟨rfl, hP, hK⟩ := hv
  have hx := B.exec
  have hb := B.bytes
  have hr := B.returns
  have hts := atoms_spec (ws := wsJx4a65c_size_8abf5) B.pre
  have hown : s.vm.findClass RJx4a65c = some m.cls := findClass_of_methodNamed B.named
  have hlocks := B.notSynchronized
  clear B
  have hl := lv_entry ([.ref a]) (n := 1) (Nat.le_of_ble_eq_true rfl)
  rw [lg_entry_eq]
  generalize (lg_sl ([.ref a]) ++ List.replicate (1 - (lg_sl ([.ref a])).length) Slot.unset).toArray = ls at hl ⊢
  replace hl : lv_has ls 1 [(0, .ref a)] := hl
  refine gen_start (A := fun _ => False) (fun H locs hP hS => ?_) hP
  refine lv_aload_n hx hb dJx4a65c_size_8abf5_0 rfl (lv_at hl 0 rfl) ?_
  refine pl_get (D := D) (ci := 0) (v := .int (nI c)) (C := RJx4a65c) (T := TJx4a65c) (N := 3) hx hb hts (by decide +kernel) hown hK.1 hP ha hf rfl 2 (by decide) (hts (.fieldLink RJx4a65c 48 "java/util/ArrayList" "size" "I") (by decide +kernel)) (fun _ h9 => h9) rfl dJx4a65c_size_8abf5_1 ?_
  exact W.iret (v := (nI c)) hx hb hr (fun t ht hW => ⟨⟨(nI c), (), rfl, rfl, trivial⟩, hS.F ht⟩) hS.2.2 dJx4a65c_size_8abf5_4
set_option maxHeartbeats 4000000 in
set_option maxRecDepth 100000 in
theorem c_Jx4a65c_elementData_915e3 (l : Launch) (D : va_G) (cO : ClassId) (mi : Nat) (L : List Nat) (f : Nat → va_E) (a : Nat) (ha : a ∈ L) (mc : Int32) (d c : Nat) (hf : f a = alc mc d c) (hd : d ∈ L) (n : Nat) (g : Nat → Option Nat) (hfd : f d = refs n g cO) (hc : c ≤ n) (hn : n < 2 ^ 27) (i : Nat) (hi : i < c) : Met l yJx4a65c_elementData_915e3 wsJx4a65c_elementData_915e3 (rmC 0 0) (mP D cO mi L f [.ref a, .int (nI i)]) (roR (g i)) 0 0 (fun _ => False) := by
  refine Met.ofW (cc := cJx4a65c_elementData_915e3) (maxL := 2) (ret := (some (.object "java/lang/Object"))) (by decide) rfl ?_
  intro p e s m args below meth cq s₁ B hml hv
  obtain ⟨rfl, hP, hK⟩ := hv
  have hx := B.exec
  have hb := B.bytes
  have hr := B.returns
  have hts := atoms_spec (ws := wsJx4a65c_elementData_915e3) B.pre
  have hown : s.vm.findClass RJx4a65c = some m.cls := findClass_of_methodNamed B.named
  have hlocks := B.notSynchronized
  clear B
  have hl := lv_entry ([.ref a, .int (nI i)]) (n := 2) (Nat.le_of_ble_eq_true rfl)
  rw [lg_entry_eq]
  generalize (lg_sl ([.ref a, .int (nI i)]) ++ List.replicate (2 - (lg_sl ([.ref a, .int (nI i)])).length) Slot.unset).toArray = ls at hl ⊢
  replace hl : lv_has ls 2 [(0, .ref a), (1, .int (nI i))] := hl
  refine gen_start (A := fun _ => False) (fun H locs hP hS => ?_) hP
  refine lv_aload_n hx hb dJx4a65c_elementData_915e3_0 rfl (lv_at hl 0 rfl) ?_
  refine pl_get (D := D) (ci := 0) (v := .ref d) (C := RJx4a65c) (T := TJx4a65c) (N := 3) hx hb hts (by decide +kernel) hown hK.1 hP ha hf rfl 1 (by decide) (hts (.fieldLink RJx4a65c 9 "java/util/ArrayList" "elementData" "[Ljava/lang/Object;") (by decide +kernel)) (fun _ h9 => h9) rfl dJx4a65c_elementData_915e3_1 ?_
  refine lv_iload_n hx hb dJx4a65c_elementData_915e3_4 rfl (lv_at hl 1 rfl) ?_
  refine pl_aald (D := D) hx hb hK.1 hP 0 hd hfd rfl (i := i) (by omega) (by omega) dJx4a65c_elementData_915e3_5 ?_
  exact W.aret (v := va_rf (g i)) hx hb hr (Or.inl ⟨_, rfl⟩) (va_rf_or _) (fun t ht hW => ⟨⟨(g i), (), rfl, rfl, trivial⟩, hS.F ht⟩) hS.2.2 dJx4a65c_elementData_915e3_6
set_option maxHeartbeats 4000000 in
set_option maxRecDepth 100000 in
theorem c_J3_checkIndex_8e157 (l : Launch) (D : va_G) (cO : ClassId) (mi : Nat) (L : List Nat) (f : Nat → va_E) (i c : Nat) (hi : i < c) (hc : c < 2 ^ 31) : Met l yJ3_checkIndex_8e157 wsJ3_checkIndex_8e157 (rmC 0 0) (mP D cO mi L f [.int (nI i), .int (nI c), .null]) (roQ (nI i)) 0 0 (fun _ => False) := by
  refine Met.ofW (cc := cJ3_checkIndex_8e157) (maxL := 3) (ret := (some .int)) (by decide) rfl ?_
  intro p e s m args below meth cq s₁ B hml hv
  obtain ⟨rfl, hP, hK⟩ := hv
  have hx := B.exec
  have hb := B.bytes
  have hr := B.returns
  have hts := atoms_spec (ws := wsJ3_checkIndex_8e157) B.pre
  have hown : s.vm.findClass RJ3 = some m.cls := findClass_of_methodNamed B.named
  have hlocks := B.notSynchronized
  clear B
  have hl := lv_entry ([.int (nI i), .int (nI c), .null]) (n := 3) (Nat.le_of_ble_eq_true rfl)
  rw [lg_entry_eq]
  generalize (lg_sl ([.int (nI i), .int (nI c), .null]) ++ List.replicate (3 - (lg_sl ([.int (nI i), .int (nI c), .null])).length) Slot.unset).toArray = ls at hl ⊢
  replace hl : lv_has ls 3 [(0, .int (nI i)), (1, .int (nI c)), (2, .null)] := hl
  refine gen_start (A := fun _ => False) (fun H locs hP hS => ?_) hP
  refine lv_iload_n hx hb dJ3_checkIndex_8e157_0 rfl (lv_at hl 0 rfl) ?_
  refine lv_if_lt (tgt := 9) hx hb dJ3_checkIndex_8e157_1 (by decide) (fun c_1 => ?_) (fun c_1 => ?_)
  · exact absurd c_1 (nI_pos (by omega))
  · refine lv_iload_n hx hb dJ3_checkIndex_8e157_4 rfl (lv_at hl 0 rfl) ?_
    refine lv_iload_n hx hb dJ3_checkIndex_8e157_5 rfl (lv_at hl 1 rfl) ?_
    refine lv_icmp_lt (tgt := 16) hx hb dJ3_checkIndex_8e157_6 (by decide) (fun c_2 => ?_) (fun c_2 => ?_)
    · refine lv_iload_n hx hb dJ3_checkIndex_8e157_16 rfl (lv_at hl 0 rfl) ?_
      exact W.iret (v := (nI i)) hx hb hr (fun t ht hW => ⟨⟨(nI i), (), rfl, rfl, trivial⟩, hS.F ht⟩) hS.2.2 dJ3_checkIndex_8e157_17
    · exact absurd (nI_lt hi hc) c_2
set_option maxHeartbeats 4000000 in
set_option maxRecDepth 100000 in
theorem c_J15_checkIndex_7cf53 (l : Launch) (D : va_G) (cO : ClassId) (mi : Nat) (L : List Nat) (f : Nat → va_E) (i c : Nat) (hi : i < c) (hc : c < 2 ^ 31) : Met l yJ15_checkIndex_7cf53 wsJ15_checkIndex_7cf53 (rmC 1 22) (mP D cO mi L f [.int (nI i), .int (nI c)]) (roQ (nI i)) 0 0 (fun _ => False) := by
  refine Met.ofW (cc := cJ15_checkIndex_7cf53) (maxL := 2) (ret := (some .int)) (by decide) rfl ?_
  intro p e s m args below meth cq s₁ B hml hv
  obtain ⟨rfl, hP, hK⟩ := hv
  have hx := B.exec
  have hb := B.bytes
  have hr := B.returns
  have hts := atoms_spec (ws := wsJ15_checkIndex_7cf53) B.pre
  have hown : s.vm.findClass RJ15 = some m.cls := findClass_of_methodNamed B.named
  have hlocks := B.notSynchronized
  clear B
  have hl := lv_entry ([.int (nI i), .int (nI c)]) (n := 2) (Nat.le_of_ble_eq_true rfl)
  rw [lg_entry_eq]
  generalize (lg_sl ([.int (nI i), .int (nI c)]) ++ List.replicate (2 - (lg_sl ([.int (nI i), .int (nI c)])).length) Slot.unset).toArray = ls at hl ⊢
  replace hl : lv_has ls 2 [(0, .int (nI i)), (1, .int (nI c))] := hl
  refine gen_start (A := fun _ => False) (fun H locs hP hS => ?_) hP
  refine lv_iload_n hx hb dJ15_checkIndex_7cf53_0 rfl (lv_at hl 0 rfl) ?_
  refine lv_iload_n hx hb dJ15_checkIndex_7cf53_1 rfl (lv_at hl 1 rfl) ?_
  refine lv_null hx hb dJ15_checkIndex_7cf53_2 ?_
  refine va_calli (va_runS (As := [.int (nI i), .int (nI c), .null]) (rest := []) ⟨hx, hb, hml, hown, hts⟩ (c_J3_checkIndex_8e157 l D cO mi L f i c hi hc) (va_cwS 3 hts gJ15_checkIndex_7cf53_J3_checkIndex_8e157 rfl rfl rfl (by decide +kernel) ⟨Nat.le_of_ble_eq_true rfl, Nat.le_of_ble_eq_true rfl⟩) (mP_S hK hP) rfl rfl hl.1 rfl (lv_room (Nat.le_of_ble_eq_true rfl)) dJ15_checkIndex_7cf53_3 ⟨Nat.le_of_ble_eq_true rfl, Nat.le_of_ble_eq_true rfl⟩) hS (fun _ _ h => h.elim) (fun _ h => h.elim) (fun r_1 u t H1 locs ht hvm hw hB hz1 hk1 hS => ?_)
  replace hP := ro_kept hP hk1
  obtain rfl : r_1 = _ := hw
  clear hk1 hz1 hvm ht hB
  generalize H1 = H at hP hS ⊢
  exact W.iret (v := (nI i)) hx hb hr (fun t ht hW => ⟨⟨(nI i), (), rfl, rfl, trivial⟩, hS.F ht⟩) hS.2.2 dJ15_checkIndex_7cf53_6
set_option maxHeartbeats 4000000 in
set_option maxRecDepth 100000 in
theorem c_Jx4a65c_get_915e3 (l : Launch) (D : va_G) (cO : ClassId) (mi : Nat) (L : List Nat) (f : Nat → va_E) (a : Nat) (ha : a ∈ L) (mc : Int32) (d c : Nat) (hf : f a = alc mc d c) (hd : d ∈ L) (n : Nat) (g : Nat → Option Nat) (hfd : f d = refs n g cO) (hc : c ≤ n) (hn : n < 2 ^ 27) (i : Nat) (hi : i < c) : Met l yJx4a65c_get_915e3 wsJx4a65c_get_915e3 (rmC 2 43) (mP D cO mi L f [.ref a, .int (nI i)]) (roR (g i)) 0 0 (fun _ => False) := by
  refine Met.ofW (cc := cJx4a65c_get_915e3) (maxL := 2) (ret := (some (.object "java/lang/Object"))) (by decide) rfl ?_
  intro p e s m args below meth cq s₁ B hml hv
  obtain ⟨rfl, hP, hK⟩ := hv
  have hx := B.exec
  have hb := B.bytes
  have hr := B.returns
  have hts := atoms_spec (ws := wsJx4a65c_get_915e3) B.pre
  have hown : s.vm.findClass RJx4a65c = some m.cls := findClass_of_methodNamed B.named
  have hlocks := B.notSynchronized
  clear B
  have hl := lv_entry ([.ref a, .int (nI i)]) (n := 2) (Nat.le_of_ble_eq_true rfl)
  rw [lg_entry_eq]
  generalize (lg_sl ([.ref a, .int (nI i)]) ++ List.replicate (2 - (lg_sl ([.ref a, .int (nI i)])).length) Slot.unset).toArray = ls at hl ⊢
  replace hl : lv_has ls 2 [(0, .ref a), (1, .int (nI i))] := hl
  refine gen_start (A := fun _ => False) (fun H locs hP hS => ?_) hP
  refine lv_iload_n hx hb dJx4a65c_get_915e3_0 rfl (lv_at hl 1 rfl) ?_
  refine lv_aload_n hx hb dJx4a65c_get_915e3_1 rfl (lv_at hl 0 rfl) ?_
  refine pl_get (D := D) (ci := 0) (v := .int (nI c)) (C := RJx4a65c) (T := TJx4a65c) (N := 3) hx hb hts (by decide +kernel) hown hK.1 hP ha hf rfl 2 (by decide) (hts (.fieldLink RJx4a65c 48 "java/util/ArrayList" "size" "I") (by decide +kernel)) (fun _ h9 => h9) rfl dJx4a65c_get_915e3_2 ?_
  refine va_calli (va_runS (As := [.int (nI i), .int (nI c)]) (rest := []) ⟨hx, hb, hml, hown, hts⟩ (c_J15_checkIndex_7cf53 l D cO mi L f i c hi (by omega)) (va_cwS 2 hts gJx4a65c_get_915e3_J15_checkIndex_7cf53 rfl rfl rfl (by decide +kernel) ⟨Nat.le_of_ble_eq_true rfl, Nat.le_of_ble_eq_true rfl⟩) (mP_S hK hP) rfl rfl hl.1 rfl (lv_room (Nat.le_of_ble_eq_true rfl)) dJx4a65c_get_915e3_5 ⟨Nat.le_of_ble_eq_true rfl, Nat.le_of_ble_eq_true rfl⟩) hS (fun _ _ h => h.elim) (fun _ h => h.elim) (fun r_1 u t H1 locs ht hvm hw hB hz1 hk1 hS => ?_)
  replace hP := ro_kept hP hk1
  obtain rfl : r_1 = _ := hw
  clear hk1 hz1 hvm ht hB
  generalize H1 = H at hP hS ⊢
  refine lv_pop hx hb dJx4a65c_get_915e3_8 rfl ?_
  refine lv_aload_n hx hb dJx4a65c_get_915e3_9 rfl (lv_at hl 0 rfl) ?_
  refine lv_iload_n hx hb dJx4a65c_get_915e3_10 rfl (lv_at hl 1 rfl) ?_
  refine va_callq (va_runV (As := [.int (nI i)]) (rest := []) ⟨hx, hb, hml, hown, hts⟩ (c_Jx4a65c_elementData_915e3 l D cO mi L f a ha mc d c hf hd n g hfd hc hn i hi) (cwV 1 hts gJx4a65c_get_915e3_Jx4a65c_elementData_915e3 rfl rfl rfl (by decide +kernel) ⟨Nat.le_of_ble_eq_true rfl, Nat.le_of_ble_eq_true rfl⟩) (mP_V hK hP 0 rfl ha hf) rfl rfl hl.1 rfl (lv_room (Nat.le_of_ble_eq_true rfl)) dJx4a65c_get_915e3_11 ⟨Nat.le_of_ble_eq_true rfl, Nat.le_of_ble_eq_true rfl⟩) hS (fun _ _ h => h.elim) (fun _ h => h.elim) (fun r_2 u t H1 locs ht hvm hw hB hz1 hk1 hS => ?_)
  replace hP := ro_kept hP hk1
  obtain rfl : r_2 = _ := hw
  clear hk1 hz1 hvm ht hB
  generalize H1 = H at hP hS ⊢
  exact W.aret (v := va_rf (g i)) hx hb hr (Or.inl ⟨_, rfl⟩) (va_rf_or _) (fun t ht hW => ⟨⟨(g i), (), rfl, rfl, trivial⟩, hS.F ht⟩) hS.2.2 dJx4a65c_get_915e3_14
