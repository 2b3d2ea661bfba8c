set_option maxHeartbeats 4000000 in
set_option maxRecDepth 100000 in
theorem c_X2_holds (l : Launch) (D : va_G) (a : Nat → Nat) (k : Nat → ClassId) (σ : CS) (zw1 : Int64) (zn1 : Nat) : Met l yX2_holds wsX2_holds (rmC 0 0) (cP D a k σ [.long zw1, .int (nI zn1)]) (roQ (bI (s_holds zw1 zn1))) 0 0 (fun _ => False) := by
  refine Met.ofW (cc := cX2_holds) (maxL := 3) (ret := (some .boolean)) (by decide) rfl ?_
  intro p e s m args below meth c s₁ B hml hv
  obtain ⟨rfl, hP, hK⟩ := hv
  have hx := B.exec
  have hb := B.bytes
  have hr := B.returns
  have hts := atoms_spec (ws := wsX2_holds) B.pre
  have hown : s.vm.findClass RX2 = some m.cls := findClass_of_methodNamed B.named
  have hlocks := B.notSynchronized
  clear B
  have hl := lv_entry ([.long zw1, .int (nI zn1)]) (n := 3) (Nat.le_of_ble_eq_true rfl)
  rw [lg_entry_eq]
  generalize (lg_sl ([.long zw1, .int (nI zn1)]) ++ List.replicate (3 - (lg_sl ([.long zw1, .int (nI zn1)])).length) Slot.unset).toArray = ls at hl ⊢
  replace hl : lv_has ls 3 [(0, .long zw1), (2, .int (nI zn1))] := hl
  refine gen_start (A := (fun _ => False)) (fun H locs hP hS => ?_) hP
  refine lv_lload_n hx hb dX2_holds_0 rfl (lv_at hl 0 rfl) ?_
  refine lv_iload_n hx hb dX2_holds_1 rfl (lv_at hl 1 rfl) ?_
  refine lv_lushr (v := (ushL zw1 (nI zn1))) hx hb dX2_holds_2 rfl ?_
  refine lv_lconst (v := 1) hx hb dX2_holds_3 (by decide) ?_
  refine lv_land hx hb dX2_holds_4 ?_
  refine lv_lconst (v := 0) hx hb dX2_holds_5 (by decide) ?_
  refine W.lcmp hx hb dX2_holds_6 ?_
  refine lv_if_eq (tgt := 14) hx hb dX2_holds_7 (by decide) (fun c_1 => ?_) (fun c_1 => ?_)
  · have he := (lg_cmp_eq _ _).mp c_1
    refine lv_iconst (v := (nI 0)) hx hb dX2_holds_14 (by decide) ?_
    exact W.zret (v := (nI 0)) hx hb hr rfl (fun t ht hW => ⟨⟨(nI 0), (), rfl, (by simp [s_holds, bI, he]), trivial⟩, hS.F ht⟩) hS.2.2 dX2_holds_15
  · have he : ¬ (ushL zw1 (nI zn1) &&& (1 : Int64)) = (0 : Int64) := fun h => c_1 ((lg_cmp_eq _ _).mpr h)
    refine lv_iconst (v := (nI 1)) hx hb dX2_holds_10 (by decide) ?_
    refine lv_goto (tgt := 15) hx hb dX2_holds_11 (by decide) ?_
    exact W.zret (v := (nI 1)) hx hb hr rfl (fun t ht hW => ⟨⟨(nI 1), (), rfl, (by simp [s_holds, bI, he]), trivial⟩, hS.F ht⟩) hS.2.2 dX2_holds_15
set_option maxHeartbeats 4000000 in
set_option maxRecDepth 100000 in
theorem c_X1_exists (l : Launch) (D : va_G) (a : Nat → Nat) (k : Nat → ClassId) (σ : CS) (zx1 : Int32) : Met l yX1_exists wsX1_exists (rmC 0 0) (cP D a k σ [.ref (a 2), .int zx1]) (roQ (bI (m_exists σ zx1))) 0 0 (fun _ => False) := by
  refine Met.ofW (cc := cX1_exists) (maxL := 2) (ret := (some .boolean)) (by decide) rfl ?_
  intro p e s m args below meth c s₁ B hml hv
  obtain ⟨rfl, hP, hK⟩ := hv
  have hx := B.exec
  have hb := B.bytes
  have hr := B.returns
  have hts := atoms_spec (ws := wsX1_exists) B.pre
  have hown : s.vm.findClass RX1 = some m.cls := findClass_of_methodNamed B.named
  have hlocks := B.notSynchronized
  clear B
  have hl := lv_entry ([.ref (a 2), .int zx1]) (n := 2) (Nat.le_of_ble_eq_true rfl)
  rw [lg_entry_eq]
  generalize (lg_sl ([.ref (a 2), .int zx1]) ++ List.replicate (2 - (lg_sl ([.ref (a 2), .int zx1])).length) Slot.unset).toArray = ls at hl ⊢
  replace hl : lv_has ls 2 [(0, .ref (a 2)), (1, .int zx1)] := hl
  refine gen_start (A := (fun _ => False)) (fun H locs hP hS => ?_) hP
  refine lv_iload_n hx hb dX1_exists_0 rfl (lv_at hl 1 rfl) ?_
  refine lv_if_lt (tgt := 16) hx hb dX1_exists_1 (by decide) (fun c_1 => ?_) (fun c_1 => ?_)
  · refine lv_iconst (v := (nI 0)) hx hb dX1_exists_16 (by decide) ?_
    exact W.zret (v := (nI 0)) hx hb hr rfl (fun t ht hW => ⟨⟨(nI 0), (), rfl, (by simp [m_exists, bI, c_1]), trivial⟩, hS.F ht⟩) hS.2.2 dX1_exists_17
  · refine lv_iload_n hx hb dX1_exists_4 rfl (lv_at hl 1 rfl) ?_
    refine lv_aload_n hx hb dX1_exists_5 rfl (lv_at hl 0 rfl) ?_
    refine va_get (D := D) (ci := 2) (v := .int (nI (cs_m σ))) (C := RX1) (T := TX1) (N := 7) hx hb hts (by decide +kernel) hown hK.1 hP 2 rfl rfl 0 (by decide) (hts (.fieldLink RX1 9 "ChooseTree$Methods" "count" "I") (by decide +kernel)) (fun _ h9 => h9) rfl dX1_exists_6 ?_
    refine lv_icmp_ge (tgt := 16) hx hb dX1_exists_9 (by decide) (fun c_2 => ?_) (fun c_2 => ?_)
    · refine lv_iconst (v := (nI 0)) hx hb dX1_exists_16 (by decide) ?_
      exact W.zret (v := (nI 0)) hx hb hr rfl (fun t ht hW => ⟨⟨(nI 0), (), rfl, (by simp [m_exists, bI, c_1, c_2]), trivial⟩, hS.F ht⟩) hS.2.2 dX1_exists_17
    · refine lv_iconst (v := (nI 1)) hx hb dX1_exists_12 (by decide) ?_
      refine lv_goto (tgt := 17) hx hb dX1_exists_13 (by decide) ?_
      exact W.zret (v := (nI 1)) hx hb hr rfl (fun t ht hW => ⟨⟨(nI 1), (), rfl, (by simp [m_exists, bI, c_1, c_2]), trivial⟩, hS.F ht⟩) hS.2.2 dX1_exists_17
set_option maxHeartbeats 4000000 in
set_option maxRecDepth 100000 in
theorem c_X1_isStatic (l : Launch) (D : va_G) (a : Nat → Nat) (k : Nat → ClassId) (σ : CS) (zn1 : Nat) (hn1 : zn1 < 400) : Met l yX1_isStatic wsX1_isStatic (rmC 0 0) (cP D a k σ [.ref (a 2), .int (nI zn1)]) (roQ (bI (m_static σ zn1))) 0 0 (fun _ => False) := by
  refine Met.ofW (cc := cX1_isStatic) (maxL := 2) (ret := (some .boolean)) (by decide) rfl ?_
  intro p e s m args below meth c s₁ B hml hv
  obtain ⟨rfl, hP, hK⟩ := hv
  have hx := B.exec
  have hb := B.bytes
  have hr := B.returns
  have hts := atoms_spec (ws := wsX1_isStatic) B.pre
  have hown : s.vm.findClass RX1 = some m.cls := findClass_of_methodNamed B.named
  have hlocks := B.notSynchronized
  clear B
  have hl := lv_entry ([.ref (a 2), .int (nI zn1)]) (n := 2) (Nat.le_of_ble_eq_true rfl)
  rw [lg_entry_eq]
  generalize (lg_sl ([.ref (a 2), .int (nI zn1)]) ++ List.replicate (2 - (lg_sl ([.ref (a 2), .int (nI zn1)])).length) Slot.unset).toArray = ls at hl ⊢
  replace hl : lv_has ls 2 [(0, .ref (a 2)), (1, .int (nI zn1))] := hl
  refine gen_start (A := (fun _ => False)) (fun H locs hP hS => ?_) hP
  refine lv_aload_n hx hb dX1_isStatic_0 rfl (lv_at hl 0 rfl) ?_
  refine va_get (D := D) (ci := 2) (v := .ref (a 15)) (C := RX1) (T := TX1) (N := 7) hx hb hts (by decide +kernel) hown hK.1 hP 2 rfl rfl 6 (by decide) (hts (.fieldLink RX1 31 "ChooseTree$Methods" "kind" "[I") (by decide +kernel)) (fun _ h9 => h9) rfl dX1_isStatic_1 ?_
  refine lv_iload_n hx hb dX1_isStatic_4 rfl (lv_at hl 1 rfl) ?_
  refine na_iald (D := D) hx hb hK.1 hP 15 12 rfl rfl (i := zn1) (by omega) (by decide) dX1_isStatic_5 ?_
  refine lv_iconst (v := (nI 1)) hx hb dX1_isStatic_6 (by decide) ?_
  refine lv_iand hx hb dX1_isStatic_7 ?_
  refine lv_if_eq (tgt := 15) hx hb dX1_isStatic_8 (by decide) (fun c_1 => ?_) (fun c_1 => ?_)
  · refine lv_iconst (v := (nI 0)) hx hb dX1_isStatic_15 (by decide) ?_
    exact W.zret (v := (nI 0)) hx hb hr rfl (fun t ht hW => ⟨⟨(nI 0), (), rfl, (by simp [m_static, bI, c_1]), trivial⟩, hS.F ht⟩) hS.2.2 dX1_isStatic_16
  · refine lv_iconst (v := (nI 1)) hx hb dX1_isStatic_11 (by decide) ?_
    refine lv_goto (tgt := 16) hx hb dX1_isStatic_12 (by decide) ?_
    exact W.zret (v := (nI 1)) hx hb hr rfl (fun t ht hW => ⟨⟨(nI 1), (), rfl, (by simp [m_static, bI, c_1]), trivial⟩, hS.F ht⟩) hS.2.2 dX1_isStatic_16
set_option maxHeartbeats 4000000 in
set_option maxRecDepth 100000 in
theorem c_X1_isFinal (l : Launch) (D : va_G) (a : Nat → Nat) (k : Nat → ClassId) (σ : CS) (zn1 : Nat) (hn1 : zn1 < 400) : Met l yX1_isFinal wsX1_isFinal (rmC 0 0) (cP D a k σ [.ref (a 2), .int (nI zn1)]) (roQ (bI (m_final σ zn1))) 0 0 (fun _ => False) := by
  refine Met.ofW (cc := cX1_isFinal) (maxL := 2) (ret := (some .boolean)) (by decide) rfl ?_
  intro p e s m args below meth c s₁ B hml hv
  obtain ⟨rfl, hP, hK⟩ := hv
  have hx := B.exec
  have hb := B.bytes
  have hr := B.returns
  have hts := atoms_spec (ws := wsX1_isFinal) B.pre
  have hown : s.vm.findClass RX1 = some m.cls := findClass_of_methodNamed B.named
  have hlocks := B.notSynchronized
  clear B
  have hl := lv_entry ([.ref (a 2), .int (nI zn1)]) (n := 2) (Nat.le_of_ble_eq_true rfl)
  rw [lg_entry_eq]
  generalize (lg_sl ([.ref (a 2), .int (nI zn1)]) ++ List.replicate (2 - (lg_sl ([.ref (a 2), .int (nI zn1)])).length) Slot.unset).toArray = ls at hl ⊢
  replace hl : lv_has ls 2 [(0, .ref (a 2)), (1, .int (nI zn1))] := hl
  refine gen_start (A := (fun _ => False)) (fun H locs hP hS => ?_) hP
  refine lv_aload_n hx hb dX1_isFinal_0 rfl (lv_at hl 0 rfl) ?_
  refine va_get (D := D) (ci := 2) (v := .ref (a 15)) (C := RX1) (T := TX1) (N := 7) hx hb hts (by decide +kernel) hown hK.1 hP 2 rfl rfl 6 (by decide) (hts (.fieldLink RX1 31 "ChooseTree$Methods" "kind" "[I") (by decide +kernel)) (fun _ h9 => h9) rfl dX1_isFinal_1 ?_
  refine lv_iload_n hx hb dX1_isFinal_4 rfl (lv_at hl 1 rfl) ?_
  refine na_iald (D := D) hx hb hK.1 hP 15 12 rfl rfl (i := zn1) (by omega) (by decide) dX1_isFinal_5 ?_
  refine lv_iconst (v := (nI 2)) hx hb dX1_isFinal_6 (by decide) ?_
  refine lv_iand hx hb dX1_isFinal_7 ?_
  refine lv_if_eq (tgt := 15) hx hb dX1_isFinal_8 (by decide) (fun c_1 => ?_) (fun c_1 => ?_)
  · refine lv_iconst (v := (nI 0)) hx hb dX1_isFinal_15 (by decide) ?_
    exact W.zret (v := (nI 0)) hx hb hr rfl (fun t ht hW => ⟨⟨(nI 0), (), rfl, (by simp [m_final, bI, c_1]), trivial⟩, hS.F ht⟩) hS.2.2 dX1_isFinal_16
  · refine lv_iconst (v := (nI 1)) hx hb dX1_isFinal_11 (by decide) ?_
    refine lv_goto (tgt := 16) hx hb dX1_isFinal_12 (by decide) ?_
    exact W.zret (v := (nI 1)) hx hb hr rfl (fun t ht hW => ⟨⟨(nI 1), (), rfl, (by simp [m_final, bI, c_1]), trivial⟩, hS.F ht⟩) hS.2.2 dX1_isFinal_16
set_option maxHeartbeats 4000000 in
set_option maxRecDepth 100000 in
theorem c_X1_isAbstract (l : Launch) (D : va_G) (a : Nat → Nat) (k : Nat → ClassId) (σ : CS) (zn1 : Nat) (hn1 : zn1 < 400) : Met l yX1_isAbstract wsX1_isAbstract (rmC 0 0) (cP D a k σ [.ref (a 2), .int (nI zn1)]) (roQ (bI (m_abstract σ zn1))) 0 0 (fun _ => False) := by
  refine Met.ofW (cc := cX1_isAbstract) (maxL := 2) (ret := (some .boolean)) (by decide) rfl ?_
  intro p e s m args below meth c s₁ B hml hv
  obtain ⟨rfl, hP, hK⟩ := hv
  have hx := B.exec
  have hb := B.bytes
  have hr := B.returns
  have hts := atoms_spec (ws := wsX1_isAbstract) B.pre
  have hown : s.vm.findClass RX1 = some m.cls := findClass_of_methodNamed B.named
  have hlocks := B.notSynchronized
  clear B
  have hl := lv_entry ([.ref (a 2), .int (nI zn1)]) (n := 2) (Nat.le_of_ble_eq_true rfl)
  rw [lg_entry_eq]
  generalize (lg_sl ([.ref (a 2), .int (nI zn1)]) ++ List.replicate (2 - (lg_sl ([.ref (a 2), .int (nI zn1)])).length) Slot.unset).toArray = ls at hl ⊢
  replace hl : lv_has ls 2 [(0, .ref (a 2)), (1, .int (nI zn1))] := hl
  refine gen_start (A := (fun _ => False)) (fun H locs hP hS => ?_) hP
  refine lv_aload_n hx hb dX1_isAbstract_0 rfl (lv_at hl 0 rfl) ?_
  refine va_get (D := D) (ci := 2) (v := .ref (a 15)) (C := RX1) (T := TX1) (N := 7) hx hb hts (by decide +kernel) hown hK.1 hP 2 rfl rfl 6 (by decide) (hts (.fieldLink RX1 31 "ChooseTree$Methods" "kind" "[I") (by decide +kernel)) (fun _ h9 => h9) rfl dX1_isAbstract_1 ?_
  refine lv_iload_n hx hb dX1_isAbstract_4 rfl (lv_at hl 1 rfl) ?_
  refine na_iald (D := D) hx hb hK.1 hP 15 12 rfl rfl (i := zn1) (by omega) (by decide) dX1_isAbstract_5 ?_
  refine lv_iconst (v := (nI 4)) hx hb dX1_isAbstract_6 (by decide) ?_
  refine lv_iand hx hb dX1_isAbstract_7 ?_
  refine lv_if_eq (tgt := 15) hx hb dX1_isAbstract_8 (by decide) (fun c_1 => ?_) (fun c_1 => ?_)
  · refine lv_iconst (v := (nI 0)) hx hb dX1_isAbstract_15 (by decide) ?_
    exact W.zret (v := (nI 0)) hx hb hr rfl (fun t ht hW => ⟨⟨(nI 0), (), rfl, (by simp [m_abstract, bI, c_1]), trivial⟩, hS.F ht⟩) hS.2.2 dX1_isAbstract_16
  · refine lv_iconst (v := (nI 1)) hx hb dX1_isAbstract_11 (by decide) ?_
    refine lv_goto (tgt := 16) hx hb dX1_isAbstract_12 (by decide) ?_
    exact W.zret (v := (nI 1)) hx hb hr rfl (fun t ht hW => ⟨⟨(nI 1), (), rfl, (by simp [m_abstract, bI, c_1]), trivial⟩, hS.F ht⟩) hS.2.2 dX1_isAbstract_16
set_option maxHeartbeats 4000000 in
set_option maxRecDepth 100000 in
theorem c_X1_isPrivate (l : Launch) (D : va_G) (a : Nat → Nat) (k : Nat → ClassId) (σ : CS) (zn1 : Nat) (hn1 : zn1 < 400) : Met l yX1_isPrivate wsX1_isPrivate (rmC 0 0) (cP D a k σ [.ref (a 2), .int (nI zn1)]) (roQ (bI (m_private σ zn1))) 0 0 (fun _ => False) := by
  refine Met.ofW (cc := cX1_isPrivate) (maxL := 2) (ret := (some .boolean)) (by decide) rfl ?_
  intro p e s m args below meth c s₁ B hml hv
  obtain ⟨rfl, hP, hK⟩ := hv
  have hx := B.exec
  have hb := B.bytes
  have hr := B.returns
  have hts := atoms_spec (ws := wsX1_isPrivate) B.pre
  have hown : s.vm.findClass RX1 = some m.cls := findClass_of_methodNamed B.named
  have hlocks := B.notSynchronized
  clear B
  have hl := lv_entry ([.ref (a 2), .int (nI zn1)]) (n := 2) (Nat.le_of_ble_eq_true rfl)
  rw [lg_entry_eq]
  generalize (lg_sl ([.ref (a 2), .int (nI zn1)]) ++ List.replicate (2 - (lg_sl ([.ref (a 2), .int (nI zn1)])).length) Slot.unset).toArray = ls at hl ⊢
  replace hl : lv_has ls 2 [(0, .ref (a 2)), (1, .int (nI zn1))] := hl
  refine gen_start (A := (fun _ => False)) (fun H locs hP hS => ?_) hP
  refine lv_aload_n hx hb dX1_isPrivate_0 rfl (lv_at hl 0 rfl) ?_
  refine va_get (D := D) (ci := 2) (v := .ref (a 14)) (C := RX1) (T := TX1) (N := 7) hx hb hts (by decide +kernel) hown hK.1 hP 2 rfl rfl 5 (by decide) (hts (.fieldLink RX1 28 "ChooseTree$Methods" "sight" "[I") (by decide +kernel)) (fun _ h9 => h9) rfl dX1_isPrivate_1 ?_
  refine lv_iload_n hx hb dX1_isPrivate_4 rfl (lv_at hl 1 rfl) ?_
  refine na_iald (D := D) hx hb hK.1 hP 14 11 rfl rfl (i := zn1) (by omega) (by decide) dX1_isPrivate_5 ?_
  refine lv_iconst (v := (nI 3)) hx hb dX1_isPrivate_6 (by decide) ?_
  refine lv_icmp_ne (tgt := 14) hx hb dX1_isPrivate_7 (by decide) (fun c_1 => ?_) (fun c_1 => ?_)
  · refine lv_iconst (v := (nI 0)) hx hb dX1_isPrivate_14 (by decide) ?_
    exact W.zret (v := (nI 0)) hx hb hr rfl (fun t ht hW => ⟨⟨(nI 0), (), rfl, (by simp [m_private, bI, c_1]), trivial⟩, hS.F ht⟩) hS.2.2 dX1_isPrivate_15
  · refine lv_iconst (v := (nI 1)) hx hb dX1_isPrivate_10 (by decide) ?_
    refine lv_goto (tgt := 15) hx hb dX1_isPrivate_11 (by decide) ?_
    exact W.zret (v := (nI 1)) hx hb hr rfl (fun t ht hW => ⟨⟨(nI 1), (), rfl, (by simp [m_private, bI, c_1]), trivial⟩, hS.F ht⟩) hS.2.2 dX1_isPrivate_15
set_option maxHeartbeats 4000000 in
set_option maxRecDepth 100000 in
theorem c_X1_isVirtual (l : Launch) (D : va_G) (a : Nat → Nat) (k : Nat → ClassId) (σ : CS) (zn1 : Nat) (hn1 : zn1 < 400) : Met l yX1_isVirtual wsX1_isVirtual (rmC 1 21) (cP D a k σ [.ref (a 2), .int (nI zn1)]) (roQ (bI (m_virtual σ zn1))) 0 0 (fun _ => False) := by
  refine Met.ofW (cc := cX1_isVirtual) (maxL := 2) (ret := (some .boolean)) (by decide) rfl ?_
  intro p e s m args below meth c s₁ B hml hv
  obtain ⟨rfl, hP, hK⟩ := hv
  have hx := B.exec
  have hb := B.bytes
  have hr := B.returns
  have hts := atoms_spec (ws := wsX1_isVirtual) B.pre
  have hown : s.vm.findClass RX1 = some m.cls := findClass_of_methodNamed B.named
  have hlocks := B.notSynchronized
  clear B
  have hl := lv_entry ([.ref (a 2), .int (nI zn1)]) (n := 2) (Nat.le_of_ble_eq_true rfl)
  rw [lg_entry_eq]
  generalize (lg_sl ([.ref (a 2), .int (nI zn1)]) ++ List.replicate (2 - (lg_sl ([.ref (a 2), .int (nI zn1)])).length) Slot.unset).toArray = ls at hl ⊢
  replace hl : lv_has ls 2 [(0, .ref (a 2)), (1, .int (nI zn1))] := hl
  refine gen_start (A := (fun _ => False)) (fun H locs hP hS => ?_) hP
  refine lv_aload_n hx hb dX1_isVirtual_0 rfl (lv_at hl 0 rfl) ?_
  refine lv_iload_n hx hb dX1_isVirtual_1 rfl (lv_at hl 1 rfl) ?_
  refine va_calli (va_runV (As := [.int (nI zn1)]) (rest := []) ⟨hx, hb, hml, hown, hts⟩ (c_X1_isStatic l D a k σ zn1 hn1) (cwV 1 hts gX1_isVirtual_X1_isStatic rfl rfl rfl (by decide +kernel) ⟨Nat.le_of_ble_eq_true rfl, Nat.le_of_ble_eq_true rfl⟩) (cP_V hK hP 2 2 rfl rfl) rfl rfl hl.1 rfl (lv_room (Nat.le_of_ble_eq_true rfl)) dX1_isVirtual_2 ⟨Nat.le_of_ble_eq_true rfl, Nat.le_of_ble_eq_true rfl⟩) hS (fun _ _ h => h.elim) (fun _ h => h.elim) (fun r_1 u t H1 locs ht hvm hw hB hz1 hk1 hS => ?_)
  replace hP := ro_kept hP hk1
  obtain rfl : r_1 = _ := hw
  clear hk1 hz1 hvm ht hB
  generalize H1 = H at hP hS ⊢
  refine lv_if_ne (tgt := 20) hx hb dX1_isVirtual_5 (by decide) (fun c_2 => ?_) (fun c_2 => ?_)
  · have he5 := bI_n0.mp c_2
    refine lv_iconst (v := (nI 0)) hx hb dX1_isVirtual_20 (by decide) ?_
    exact W.zret (v := (nI 0)) hx hb hr rfl (fun t ht hW => ⟨⟨(nI 0), (), rfl, (by first | (simp [m_virtual, bI, he5, he13]; done) | (simp [m_virtual, bI, he5]; done)), trivial⟩, hS.F ht⟩) hS.2.2 dX1_isVirtual_21
  · have he5 := bI_0.mp c_2
    refine lv_aload_n hx hb dX1_isVirtual_8 rfl (lv_at hl 0 rfl) ?_
    refine lv_iload_n hx hb dX1_isVirtual_9 rfl (lv_at hl 1 rfl) ?_
    refine va_calli (va_runV (As := [.int (nI zn1)]) (rest := []) ⟨hx, hb, hml, hown, hts⟩ (c_X1_isPrivate l D a k σ zn1 hn1) (cwV 1 hts gX1_isVirtual_X1_isPrivate rfl rfl rfl (by decide +kernel) ⟨Nat.le_of_ble_eq_true rfl, Nat.le_of_ble_eq_true rfl⟩) (cP_V hK hP 2 2 rfl rfl) rfl rfl hl.1 rfl (lv_room (Nat.le_of_ble_eq_true rfl)) dX1_isVirtual_10 ⟨Nat.le_of_ble_eq_true rfl, Nat.le_of_ble_eq_true rfl⟩) hS (fun _ _ h => h.elim) (fun _ h => h.elim) (fun r_3 u t H1 locs ht hvm hw hB hz1 hk1 hS => ?_)
    replace hP := ro_kept hP hk1
    obtain rfl : r_3 = _ := hw
    clear hk1 hz1 hvm ht hB
    generalize H1 = H at hP hS ⊢
    refine lv_if_ne (tgt := 20) hx hb dX1_isVirtual_13 (by decide) (fun c_4 => ?_) (fun c_4 => ?_)
    · have he13 := bI_n0.mp c_4
      refine lv_iconst (v := (nI 0)) hx hb dX1_isVirtual_20 (by decide) ?_
      exact W.zret (v := (nI 0)) hx hb hr rfl (fun t ht hW => ⟨⟨(nI 0), (), rfl, (by first | (simp [m_virtual, bI, he5, he13]; done) | (simp [m_virtual, bI, he5]; done)), trivial⟩, hS.F ht⟩) hS.2.2 dX1_isVirtual_21
    · have he13 := bI_0.mp c_4
      refine lv_iconst (v := (nI 1)) hx hb dX1_isVirtual_16 (by decide) ?_
      refine lv_goto (tgt := 21) hx hb dX1_isVirtual_17 (by decide) ?_
      exact W.zret (v := (nI 1)) hx hb hr rfl (fun t ht hW => ⟨⟨(nI 1), (), rfl, (by first | (simp [m_virtual, bI, he5, he13]; done) | (simp [m_virtual, bI, he5]; done)), trivial⟩, hS.F ht⟩) hS.2.2 dX1_isVirtual_21
set_option maxHeartbeats 4000000 in
set_option maxRecDepth 100000 in
theorem c_X1_isPublicOrProtected (l : Launch) (D : va_G) (a : Nat → Nat) (k : Nat → ClassId) (σ : CS) (zn1 : Nat) (hn1 : zn1 < 400) : Met l yX1_isPublicOrProtected wsX1_isPublicOrProtected (rmC 0 0) (cP D a k σ [.ref (a 2), .int (nI zn1)]) (roQ (bI (m_pp σ zn1))) 0 0 (fun _ => False) := by
  refine Met.ofW (cc := cX1_isPublicOrProtected) (maxL := 2) (ret := (some .boolean)) (by decide) rfl ?_
  intro p e s m args below meth c s₁ B hml hv
  obtain ⟨rfl, hP, hK⟩ := hv
  have hx := B.exec
  have hb := B.bytes
  have hr := B.returns
  have hts := atoms_spec (ws := wsX1_isPublicOrProtected) B.pre
  have hown : s.vm.findClass RX1 = some m.cls := findClass_of_methodNamed B.named
  have hlocks := B.notSynchronized
  clear B
  have hl := lv_entry ([.ref (a 2), .int (nI zn1)]) (n := 2) (Nat.le_of_ble_eq_true rfl)
  rw [lg_entry_eq]
  generalize (lg_sl ([.ref (a 2), .int (nI zn1)]) ++ List.replicate (2 - (lg_sl ([.ref (a 2), .int (nI zn1)])).length) Slot.unset).toArray = ls at hl ⊢
  replace hl : lv_has ls 2 [(0, .ref (a 2)), (1, .int (nI zn1))] := hl
  refine gen_start (A := (fun _ => False)) (fun H locs hP hS => ?_) hP
  refine lv_aload_n hx hb dX1_isPublicOrProtected_0 rfl (lv_at hl 0 rfl) ?_
  refine va_get (D := D) (ci := 2) (v := .ref (a 14)) (C := RX1) (T := TX1) (N := 7) hx hb hts (by decide +kernel) hown hK.1 hP 2 rfl rfl 5 (by decide) (hts (.fieldLink RX1 28 "ChooseTree$Methods" "sight" "[I") (by decide +kernel)) (fun _ h9 => h9) rfl dX1_isPublicOrProtected_1 ?_
  refine lv_iload_n hx hb dX1_isPublicOrProtected_4 rfl (lv_at hl 1 rfl) ?_
  refine na_iald (D := D) hx hb hK.1 hP 14 11 rfl rfl (i := zn1) (by omega) (by decide) dX1_isPublicOrProtected_5 ?_
  refine lv_iconst (v := (nI 1)) hx hb dX1_isPublicOrProtected_6 (by decide) ?_
  refine lv_icmp_eq (tgt := 20) hx hb dX1_isPublicOrProtected_7 (by decide) (fun c_1 => ?_) (fun c_1 => ?_)
  · refine lv_iconst (v := (nI 1)) hx hb dX1_isPublicOrProtected_20 (by decide) ?_
    refine lv_goto (tgt := 25) hx hb dX1_isPublicOrProtected_21 (by decide) ?_
    exact W.zret (v := (nI 1)) hx hb hr rfl (fun t ht hW => ⟨⟨(nI 1), (), rfl, (by simp [m_pp, bI, c_1]), trivial⟩, hS.F ht⟩) hS.2.2 dX1_isPublicOrProtected_25
  · refine lv_aload_n hx hb dX1_isPublicOrProtected_10 rfl (lv_at hl 0 rfl) ?_
    refine va_get (D := D) (ci := 2) (v := .ref (a 14)) (C := RX1) (T := TX1) (N := 7) hx hb hts (by decide +kernel) hown hK.1 hP 2 rfl rfl 5 (by decide) (hts (.fieldLink RX1 28 "ChooseTree$Methods" "sight" "[I") (by decide +kernel)) (fun _ h9 => h9) rfl dX1_isPublicOrProtected_11 ?_
    refine lv_iload_n hx hb dX1_isPublicOrProtected_14 rfl (lv_at hl 1 rfl) ?_
    refine na_iald (D := D) hx hb hK.1 hP 14 11 rfl rfl (i := zn1) (by omega) (by decide) dX1_isPublicOrProtected_15 ?_
    refine lv_iconst (v := (nI 2)) hx hb dX1_isPublicOrProtected_16 (by decide) ?_
    refine lv_icmp_ne (tgt := 24) hx hb dX1_isPublicOrProtected_17 (by decide) (fun c_2 => ?_) (fun c_2 => ?_)
    · refine lv_iconst (v := (nI 0)) hx hb dX1_isPublicOrProtected_24 (by decide) ?_
      exact W.zret (v := (nI 0)) hx hb hr rfl (fun t ht hW => ⟨⟨(nI 0), (), rfl, (by simp [m_pp, bI, c_1, c_2]), trivial⟩, hS.F ht⟩) hS.2.2 dX1_isPublicOrProtected_25
    · refine lv_iconst (v := (nI 1)) hx hb dX1_isPublicOrProtected_20 (by decide) ?_
      refine lv_goto (tgt := 25) hx hb dX1_isPublicOrProtected_21 (by decide) ?_
      exact W.zret (v := (nI 1)) hx hb hr rfl (fun t ht hW => ⟨⟨(nI 1), (), rfl, (by simp [m_pp, bI, c_1, c_2]), trivial⟩, hS.F ht⟩) hS.2.2 dX1_isPublicOrProtected_25
set_option maxHeartbeats 4000000 in
set_option maxRecDepth 100000 in
theorem c_X1_inClass (l : Launch) (D : va_G) (a : Nat → Nat) (k : Nat → ClassId) (σ : CS) (hok : cok σ) (zn1 : Nat) (hn1 : zn1 < 60) (zx2 : Int32) : Met l yX1_inClass wsX1_inClass (rmC 0 0) (cP D a k σ [.ref (a 2), .int (nI zn1), .int zx2]) (roQ (m_inClass σ zn1 zx2)) 0 0 (fun _ => False) := by
  refine Met.ofW (cc := cX1_inClass) (maxL := 5) (ret := (some .int)) (by decide) rfl ?_
  intro p e s m args below meth c s₁ B hml hv
  obtain ⟨rfl, hP, hK⟩ := hv
  have hx := B.exec
  have hb := B.bytes
  have hr := B.returns
  have hts := atoms_spec (ws := wsX1_inClass) B.pre
  have hown : s.vm.findClass RX1 = some m.cls := findClass_of_methodNamed B.named
  have hlocks := B.notSynchronized
  clear B
  have hl := lv_entry ([.ref (a 2), .int (nI zn1), .int zx2]) (n := 5) (Nat.le_of_ble_eq_true rfl)
  rw [lg_entry_eq]
  generalize (lg_sl ([.ref (a 2), .int (nI zn1), .int zx2]) ++ List.replicate (5 - (lg_sl ([.ref (a 2), .int (nI zn1), .int zx2])).length) Slot.unset).toArray = ls at hl ⊢
  replace hl : lv_has ls 5 [(0, .ref (a 2)), (1, .int (nI zn1)), (2, .int zx2)] := hl
  refine gen_start (A := (fun _ => False)) (fun H locs hP hS => ?_) hP
  obtain ⟨hb0, ⟨hb1, hb2, hb3, hb4, hb5, hb6⟩, hb7, hb8⟩ := id hok
  have hq1 := hb2 zn1 hn1
  refine lv_aload_n hx hb dX1_inClass_0 rfl (lv_at hl 0 rfl) ?_
  refine va_get (D := D) (ci := 2) (v := .ref (a 12)) (C := RX1) (T := TX1) (N := 7) hx hb hts (by decide +kernel) hown hK.1 hP 2 rfl rfl 3 (by decide) (hts (.fieldLink RX1 22 "ChooseTree$Methods" "first" "[I") (by decide +kernel)) (fun _ h9 => h9) rfl dX1_inClass_1 ?_
  refine lv_iload_n hx hb dX1_inClass_4 rfl (lv_at hl 1 rfl) ?_
  refine na_iald (D := D) hx hb hK.1 hP 12 9 rfl rfl (i := zn1) (by omega) (by decide) dX1_inClass_5 ?_
  refine lv_aload_n hx hb dX1_inClass_6 rfl (lv_at hl 0 rfl) ?_
  refine va_get (D := D) (ci := 2) (v := .ref (a 13)) (C := RX1) (T := TX1) (N := 7) hx hb hts (by decide +kernel) hown hK.1 hP 2 rfl rfl 4 (by decide) (hts (.fieldLink RX1 25 "ChooseTree$Methods" "amount" "[I") (by decide +kernel)) (fun _ h9 => h9) rfl dX1_inClass_7 ?_
  refine lv_iload_n hx hb dX1_inClass_10 rfl (lv_at hl 1 rfl) ?_
  refine na_iald (D := D) hx hb hK.1 hP 13 10 rfl rfl (i := zn1) (by omega) (by decide) dX1_inClass_11 ?_
  refine lv_iaddN hx hb dX1_inClass_12 ?_
  refine lv_istore_n (lv' := [(3, .int (nI (((cs_fi σ) zn1) + ((cs_am σ) zn1)))), (0, .ref (a 2)), (1, .int (nI zn1)), (2, .int zx2)]) hx hb dX1_inClass_13 rfl hl (by decide) rfl (fun ls hl => ?_)
  refine lv_aload_n hx hb dX1_inClass_14 rfl (lv_at hl 1 rfl) ?_
  refine va_get (D := D) (ci := 2) (v := .ref (a 12)) (C := RX1) (T := TX1) (N := 7) hx hb hts (by decide +kernel) hown hK.1 hP 2 rfl rfl 3 (by decide) (hts (.fieldLink RX1 22 "ChooseTree$Methods" "first" "[I") (by decide +kernel)) (fun _ h9 => h9) rfl dX1_inClass_15 ?_
  refine lv_iload_n hx hb dX1_inClass_18 rfl (lv_at hl 2 rfl) ?_
  refine na_iald (D := D) hx hb hK.1 hP 12 9 rfl rfl (i := zn1) (by omega) (by decide) dX1_inClass_19 ?_
  refine lv_istore (lv' := [(4, .int (nI ((cs_fi σ) zn1))), (3, .int (nI (((cs_fi σ) zn1) + ((cs_am σ) zn1)))), (0, .ref (a 2)), (1, .int (nI zn1)), (2, .int zx2)]) hx hb dX1_inClass_20 hl (by decide) rfl (fun ls hl => ?_)
  obtain ⟨n, hn⟩ : ∃ n, n = cs_am σ zn1 := ⟨_, rfl⟩
  obtain ⟨i, hi⟩ : ∃ i, i = cs_fi σ zn1 := ⟨_, rfl⟩
  have hE : i + n = cs_fi σ zn1 + cs_am σ zn1 := by rw [hn, hi]
  have hres : m_scan (cs_nm σ) zx2 n i = m_inClass σ zn1 zx2 := by rw [hn, hi]; rfl
  replace hl : lv_has ls 5 [(4, .int (nI i)), (3, .int (nI ((cs_fi σ) zn1 + (cs_am σ) zn1))), (0, .ref (a 2)), (1, .int (nI zn1)), (2, .int zx2)] := by rw [hi]; exact hl
  clear hn hi
  revert hl
  revert hres
  revert hE
  revert hS
  revert hP
  revert ls
  revert locs
  revert H
  revert i
  induction n with
  | zero =>
    intro i H locs ls hP hS hE hres hl
    refine lv_iload hx hb dX1_inClass_22 (lv_at hl 0 rfl) ?_
    refine lv_iload_n hx hb dX1_inClass_24 rfl (lv_at hl 1 rfl) ?_
    refine lv_icmp_ge (tgt := 48) hx hb dX1_inClass_25 (by decide) (fun c_1 => ?_) (fun c_1 => ?_)
    · refine lv_iconst (v := (-1)) hx hb dX1_inClass_48 (by decide) ?_
      exact W.iret (v := (-1)) hx hb hr (fun t ht hW => ⟨⟨(-1), (), rfl, (by rw [← hres]; rfl), trivial⟩, hS.F ht⟩) hS.2.2 dX1_inClass_49
    · exact absurd (nI_le (by omega) (by omega)) c_1
  | succ n ih =>
    intro i H locs ls hP hS hE hres hl
    refine lv_iload hx hb dX1_inClass_22 (lv_at hl 0 rfl) ?_
    refine lv_iload_n hx hb dX1_inClass_24 rfl (lv_at hl 1 rfl) ?_
    refine lv_icmp_ge (tgt := 48) hx hb dX1_inClass_25 (by decide) (fun c_2 => ?_) (fun c_2 => ?_)
    · exact absurd c_2 (nI_ge (by omega) (by omega))
    · refine lv_aload_n hx hb dX1_inClass_28 rfl (lv_at hl 2 rfl) ?_
      refine va_get (D := D) (ci := 2) (v := .ref (a 11)) (C := RX1) (T := TX1) (N := 7) hx hb hts (by decide +kernel) hown hK.1 hP 2 rfl rfl 2 (by decide) (hts (.fieldLink RX1 19 "ChooseTree$Methods" "name" "[I") (by decide +kernel)) (fun _ h9 => h9) rfl dX1_inClass_29 ?_
      refine lv_iload hx hb dX1_inClass_32 (lv_at hl 0 rfl) ?_
      refine na_iald (D := D) hx hb hK.1 hP 11 8 rfl rfl (i := i) (by omega) (by decide) dX1_inClass_34 ?_
      refine lv_iload_n hx hb dX1_inClass_35 rfl (lv_at hl 4 rfl) ?_
      refine lv_icmp_ne (tgt := 42) hx hb dX1_inClass_36 (by decide) (fun c_3 => ?_) (fun c_3 => ?_)
      · refine lv_iinc (v := (nI (i + 1))) (lv' := [(4, .int (nI (i + 1))), (3, .int (nI ((cs_fi σ) zn1 + (cs_am σ) zn1))), (0, .ref (a 2)), (1, .int (nI zn1)), (2, .int zx2)]) hx hb dX1_inClass_42 hl (k := 0) rfl (nI_1 _) (by decide) rfl (fun ls hl => ?_)
        refine lv_goto (tgt := 22) hx hb dX1_inClass_45 (by decide) ?_
        exact ih (i + 1) H locs ls hP hS (by omega) (by rw [← hres, m_scan, if_neg c_3]) (lv_sub hl [0, 1, 2, 3, 4] rfl)
      · refine lv_iload hx hb dX1_inClass_39 (lv_at hl 0 rfl) ?_
        exact W.iret (v := (nI i)) hx hb hr (fun t ht hW => ⟨⟨(nI i), (), rfl, (by rw [← hres, m_scan, if_pos c_3]), trivial⟩, hS.F ht⟩) hS.2.2 dX1_inClass_41
set_option maxHeartbeats 4000000 in
set_option maxRecDepth 100000 in
theorem c_X0_exists (l : Launch) (D : va_G) (a : Nat → Nat) (k : Nat → ClassId) (σ : CS) (zx1 : Int32) : Met l yX0_exists wsX0_exists (rmC 0 0) (cP D a k σ [.ref (a 1), .int zx1]) (roQ (bI (s_exists σ zx1))) 0 0 (fun _ => False) := by
  refine Met.ofW (cc := cX0_exists) (maxL := 2) (ret := (some .boolean)) (by decide) rfl ?_
  intro p e s m args below meth c s₁ B hml hv
  obtain ⟨rfl, hP, hK⟩ := hv
  have hx := B.exec
  have hb := B.bytes
  have hr := B.returns
  have hts := atoms_spec (ws := wsX0_exists) B.pre
  have hown : s.vm.findClass RX0 = some m.cls := findClass_of_methodNamed B.named
  have hlocks := B.notSynchronized
  clear B
  have hl := lv_entry ([.ref (a 1), .int zx1]) (n := 2) (Nat.le_of_ble_eq_true rfl)
  rw [lg_entry_eq]
  generalize (lg_sl ([.ref (a 1), .int zx1]) ++ List.replicate (2 - (lg_sl ([.ref (a 1), .int zx1])).length) Slot.unset).toArray = ls at hl ⊢
  replace hl : lv_has ls 2 [(0, .ref (a 1)), (1, .int zx1)] := hl
  refine gen_start (A := (fun _ => False)) (fun H locs hP hS => ?_) hP
  refine lv_iload_n hx hb dX0_exists_0 rfl (lv_at hl 1 rfl) ?_
  refine lv_if_lt (tgt := 16) hx hb dX0_exists_1 (by decide) (fun c_1 => ?_) (fun c_1 => ?_)
  · refine lv_iconst (v := (nI 0)) hx hb dX0_exists_16 (by decide) ?_
    exact W.zret (v := (nI 0)) hx hb hr rfl (fun t ht hW => ⟨⟨(nI 0), (), rfl, (by simp [s_exists, bI, c_1]), trivial⟩, hS.F ht⟩) hS.2.2 dX0_exists_17
  · refine lv_iload_n hx hb dX0_exists_4 rfl (lv_at hl 1 rfl) ?_
    refine lv_aload_n hx hb dX0_exists_5 rfl (lv_at hl 0 rfl) ?_
    refine va_get (D := D) (ci := 1) (v := .int (nI (cs_n σ))) (C := RX0) (T := TX0) (N := 10) hx hb hts (by decide +kernel) hown hK.1 hP 1 rfl rfl 0 (by decide) (hts (.fieldLink RX0 9 "ChooseTree$Classes" "count" "I") (by decide +kernel)) (fun _ h9 => h9) rfl dX0_exists_6 ?_
    refine lv_icmp_ge (tgt := 16) hx hb dX0_exists_9 (by decide) (fun c_2 => ?_) (fun c_2 => ?_)
    · refine lv_iconst (v := (nI 0)) hx hb dX0_exists_16 (by decide) ?_
      exact W.zret (v := (nI 0)) hx hb hr rfl (fun t ht hW => ⟨⟨(nI 0), (), rfl, (by simp [s_exists, bI, c_1, c_2]), trivial⟩, hS.F ht⟩) hS.2.2 dX0_exists_17
    · refine lv_iconst (v := (nI 1)) hx hb dX0_exists_12 (by decide) ?_
      refine lv_goto (tgt := 17) hx hb dX0_exists_13 (by decide) ?_
      exact W.zret (v := (nI 1)) hx hb hr rfl (fun t ht hW => ⟨⟨(nI 1), (), rfl, (by simp [s_exists, bI, c_1, c_2]), trivial⟩, hS.F ht⟩) hS.2.2 dX0_exists_17
set_option maxHeartbeats 4000000 in
set_option maxRecDepth 100000 in
theorem c_X0_isFace (l : Launch) (D : va_G) (a : Nat → Nat) (k : Nat → ClassId) (σ : CS) (hok : cok σ) (zx1 : Int32) : Met l yX0_isFace wsX0_isFace (rmC 1 21) (cP D a k σ [.ref (a 1), .int zx1]) (roQ (bI (s_isFace σ zx1))) 0 0 (fun _ => False) := by
  refine Met.ofW (cc := cX0_isFace) (maxL := 2) (ret := (some .boolean)) (by decide) rfl ?_
  intro p e s m args below meth c s₁ B hml hv
  obtain ⟨rfl, hP, hK⟩ := hv
  have hx := B.exec
  have hb := B.bytes
  have hr := B.returns
  have hts := atoms_spec (ws := wsX0_isFace) B.pre
  have hown : s.vm.findClass RX0 = some m.cls := findClass_of_methodNamed B.named
  have hlocks := B.notSynchronized
  clear B
  have hl := lv_entry ([.ref (a 1), .int zx1]) (n := 2) (Nat.le_of_ble_eq_true rfl)
  rw [lg_entry_eq]
  generalize (lg_sl ([.ref (a 1), .int zx1]) ++ List.replicate (2 - (lg_sl ([.ref (a 1), .int zx1])).length) Slot.unset).toArray = ls at hl ⊢
  replace hl : lv_has ls 2 [(0, .ref (a 1)), (1, .int zx1)] := hl
  refine gen_start (A := (fun _ => False)) (fun H locs hP hS => ?_) hP
  obtain ⟨hb0, ⟨hb1, hb2, hb3, hb4, hb5, hb6⟩, hb7, hb8⟩ := id hok
  refine lv_aload_n hx hb dX0_isFace_0 rfl (lv_at hl 0 rfl) ?_
  refine lv_iload_n hx hb dX0_isFace_1 rfl (lv_at hl 1 rfl) ?_
  refine va_calli (va_runV (As := [.int zx1]) (rest := []) ⟨hx, hb, hml, hown, hts⟩ (c_X0_exists l D a k σ zx1) (cwV 1 hts gX0_isFace_X0_exists rfl rfl rfl (by decide +kernel) ⟨Nat.le_of_ble_eq_true rfl, Nat.le_of_ble_eq_true rfl⟩) (cP_V hK hP 1 1 rfl rfl) rfl rfl hl.1 rfl (lv_room (Nat.le_of_ble_eq_true rfl)) dX0_isFace_2 ⟨Nat.le_of_ble_eq_true rfl, Nat.le_of_ble_eq_true rfl⟩) hS (fun _ _ h => h.elim) (fun _ h => h.elim) (fun r_1 u t H1 locs ht hvm hw hB hz1 hk1 hS => ?_)
  replace hP := ro_kept hP hk1
  obtain rfl : r_1 = _ := hw
  clear hk1 hz1 hvm ht hB
  generalize H1 = H at hP hS ⊢
  refine lv_if_eq (tgt := 21) hx hb dX0_isFace_5 (by decide) (fun c_2 => ?_) (fun c_2 => ?_)
  · have he := bI_0.mp c_2
    refine lv_iconst (v := (nI 0)) hx hb dX0_isFace_21 (by decide) ?_
    exact W.zret (v := (nI 0)) hx hb hr rfl (fun t ht hW => ⟨⟨(nI 0), (), rfl, (by first | (simp [s_isFace, bI, he]; done) | (simp [s_isFace, bI, he, hcl, c_2]; done)), trivial⟩, hS.F ht⟩) hS.2.2 dX0_isFace_22
  · have he := bI_n0.mp c_2
    obtain ⟨j, hj, rfl⟩ := s_exists_of hok he
    have hcl := nI_clamp (n := j) (by omega)
    refine lv_aload_n hx hb dX0_isFace_8 rfl (lv_at hl 0 rfl) ?_
    refine va_get (D := D) (ci := 1) (v := .ref (a 5)) (C := RX0) (T := TX0) (N := 10) hx hb hts (by decide +kernel) hown hK.1 hP 1 rfl rfl 3 (by decide) (hts (.fieldLink RX0 22 "ChooseTree$Classes" "face" "[Z") (by decide +kernel)) (fun _ h9 => h9) rfl dX0_isFace_9 ?_
    refine lv_iload_n hx hb dX0_isFace_12 rfl (lv_at hl 1 rfl) ?_
    refine na_zald (D := D) hx hb hK.1 hP 5 2 rfl rfl (i := j) (by omega) (by decide) dX0_isFace_13 ?_
    refine lv_if_eq (tgt := 21) hx hb dX0_isFace_14 (by decide) (fun c_3 => ?_) (fun c_3 => ?_)
    · refine lv_iconst (v := (nI 0)) hx hb dX0_isFace_21 (by decide) ?_
      exact W.zret (v := (nI 0)) hx hb hr rfl (fun t ht hW => ⟨⟨(nI 0), (), rfl, (by first | (simp [s_isFace, bI, he]; done) | (simp [s_isFace, bI, he, hcl, c_2, c_3]; done)), trivial⟩, hS.F ht⟩) hS.2.2 dX0_isFace_22
    · refine lv_iconst (v := (nI 1)) hx hb dX0_isFace_17 (by decide) ?_
      refine lv_goto (tgt := 22) hx hb dX0_isFace_18 (by decide) ?_
      exact W.zret (v := (nI 1)) hx hb hr rfl (fun t ht hW => ⟨⟨(nI 1), (), rfl, (by first | (simp [s_isFace, bI, he]; done) | (simp [s_isFace, bI, he, hcl, c_2, c_3]; done)), trivial⟩, hS.F ht⟩) hS.2.2 dX0_isFace_22
set_option maxHeartbeats 4000000 in
set_option maxRecDepth 100000 in
theorem c_X0_isPlain (l : Launch) (D : va_G) (a : Nat → Nat) (k : Nat → ClassId) (σ : CS) (hok : cok σ) (zx1 : Int32) : Met l yX0_isPlain wsX0_isPlain (rmC 1 21) (cP D a k σ [.ref (a 1), .int zx1]) (roQ (bI (s_isPlain σ zx1))) 0 0 (fun _ => False) := by
  refine Met.ofW (cc := cX0_isPlain) (maxL := 2) (ret := (some .boolean)) (by decide) rfl ?_
  intro p e s m args below meth c s₁ B hml hv
  obtain ⟨rfl, hP, hK⟩ := hv
  have hx := B.exec
  have hb := B.bytes
  have hr := B.returns
  have hts := atoms_spec (ws := wsX0_isPlain) B.pre
  have hown : s.vm.findClass RX0 = some m.cls := findClass_of_methodNamed B.named
  have hlocks := B.notSynchronized
  clear B
  have hl := lv_entry ([.ref (a 1), .int zx1]) (n := 2) (Nat.le_of_ble_eq_true rfl)
  rw [lg_entry_eq]
  generalize (lg_sl ([.ref (a 1), .int zx1]) ++ List.replicate (2 - (lg_sl ([.ref (a 1), .int zx1])).length) Slot.unset).toArray = ls at hl ⊢
  replace hl : lv_has ls 2 [(0, .ref (a 1)), (1, .int zx1)] := hl
  refine gen_start (A := (fun _ => False)) (fun H locs hP hS => ?_) hP
  obtain ⟨hb0, ⟨hb1, hb2, hb3, hb4, hb5, hb6⟩, hb7, hb8⟩ := id hok
  refine lv_aload_n hx hb dX0_isPlain_0 rfl (lv_at hl 0 rfl) ?_
  refine lv_iload_n hx hb dX0_isPlain_1 rfl (lv_at hl 1 rfl) ?_
  refine va_calli (va_runV (As := [.int zx1]) (rest := []) ⟨hx, hb, hml, hown, hts⟩ (c_X0_exists l D a k σ zx1) (cwV 1 hts gX0_isPlain_X0_exists rfl rfl rfl (by decide +kernel) ⟨Nat.le_of_ble_eq_true rfl, Nat.le_of_ble_eq_true rfl⟩) (cP_V hK hP 1 1 rfl rfl) rfl rfl hl.1 rfl (lv_room (Nat.le_of_ble_eq_true rfl)) dX0_isPlain_2 ⟨Nat.le_of_ble_eq_true rfl, Nat.le_of_ble_eq_true rfl⟩) hS (fun _ _ h => h.elim) (fun _ h => h.elim) (fun r_1 u t H1 locs ht hvm hw hB hz1 hk1 hS => ?_)
  replace hP := ro_kept hP hk1
  obtain rfl : r_1 = _ := hw
  clear hk1 hz1 hvm ht hB
  generalize H1 = H at hP hS ⊢
  refine lv_if_eq (tgt := 21) hx hb dX0_isPlain_5 (by decide) (fun c_2 => ?_) (fun c_2 => ?_)
  · have he := bI_0.mp c_2
    refine lv_iconst (v := (nI 0)) hx hb dX0_isPlain_21 (by decide) ?_
    exact W.zret (v := (nI 0)) hx hb hr rfl (fun t ht hW => ⟨⟨(nI 0), (), rfl, (by first | (simp [s_isPlain, bI, he]; done) | (simp [s_isPlain, bI, he, hcl, c_2]; done)), trivial⟩, hS.F ht⟩) hS.2.2 dX0_isPlain_22
  · have he := bI_n0.mp c_2
    obtain ⟨j, hj, rfl⟩ := s_exists_of hok he
    have hcl := nI_clamp (n := j) (by omega)
    refine lv_aload_n hx hb dX0_isPlain_8 rfl (lv_at hl 0 rfl) ?_
    refine va_get (D := D) (ci := 1) (v := .ref (a 5)) (C := RX0) (T := TX0) (N := 10) hx hb hts (by decide +kernel) hown hK.1 hP 1 rfl rfl 3 (by decide) (hts (.fieldLink RX0 22 "ChooseTree$Classes" "face" "[Z") (by decide +kernel)) (fun _ h9 => h9) rfl dX0_isPlain_9 ?_
    refine lv_iload_n hx hb dX0_isPlain_12 rfl (lv_at hl 1 rfl) ?_
    refine na_zald (D := D) hx hb hK.1 hP 5 2 rfl rfl (i := j) (by omega) (by decide) dX0_isPlain_13 ?_
    refine lv_if_ne (tgt := 21) hx hb dX0_isPlain_14 (by decide) (fun c_3 => ?_) (fun c_3 => ?_)
    · refine lv_iconst (v := (nI 0)) hx hb dX0_isPlain_21 (by decide) ?_
      exact W.zret (v := (nI 0)) hx hb hr rfl (fun t ht hW => ⟨⟨(nI 0), (), rfl, (by first | (simp [s_isPlain, bI, he]; done) | (simp [s_isPlain, bI, he, hcl, c_2, c_3]; done)), trivial⟩, hS.F ht⟩) hS.2.2 dX0_isPlain_22
    · refine lv_iconst (v := (nI 1)) hx hb dX0_isPlain_17 (by decide) ?_
      refine lv_goto (tgt := 22) hx hb dX0_isPlain_18 (by decide) ?_
      exact W.zret (v := (nI 1)) hx hb hr rfl (fun t ht hW => ⟨⟨(nI 1), (), rfl, (by first | (simp [s_isPlain, bI, he]; done) | (simp [s_isPlain, bI, he, hcl, c_2, c_3]; done)), trivial⟩, hS.F ht⟩) hS.2.2 dX0_isPlain_22
set_option maxHeartbeats 4000000 in
set_option maxRecDepth 100000 in
theorem c_X0_isLatest (l : Launch) (D : va_G) (a : Nat → Nat) (k : Nat → ClassId) (σ : CS) (zx1 : Int32) : Met l yX0_isLatest wsX0_isLatest (rmC 0 0) (cP D a k σ [.ref (a 1), .int zx1]) (roQ (bI (s_isLatest σ zx1))) 0 0 (fun _ => False) := by
  refine Met.ofW (cc := cX0_isLatest) (maxL := 2) (ret := (some .boolean)) (by decide) rfl ?_
  intro p e s m args below meth c s₁ B hml hv
  obtain ⟨rfl, hP, hK⟩ := hv
  have hx := B.exec
  have hb := B.bytes
  have hr := B.returns
  have hts := atoms_spec (ws := wsX0_isLatest) B.pre
  have hown : s.vm.findClass RX0 = some m.cls := findClass_of_methodNamed B.named
  have hlocks := B.notSynchronized
  clear B
  have hl := lv_entry ([.ref (a 1), .int zx1]) (n := 2) (Nat.le_of_ble_eq_true rfl)
  rw [lg_entry_eq]
  generalize (lg_sl ([.ref (a 1), .int zx1]) ++ List.replicate (2 - (lg_sl ([.ref (a 1), .int zx1])).length) Slot.unset).toArray = ls at hl ⊢
  replace hl : lv_has ls 2 [(0, .ref (a 1)), (1, .int zx1)] := hl
  refine gen_start (A := (fun _ => False)) (fun H locs hP hS => ?_) hP
  refine lv_iload_n hx hb dX0_isLatest_0 rfl (lv_at hl 1 rfl) ?_
  refine lv_aload_n hx hb dX0_isLatest_1 rfl (lv_at hl 0 rfl) ?_
  refine va_get (D := D) (ci := 1) (v := .int (nI (cs_n σ))) (C := RX0) (T := TX0) (N := 10) hx hb hts (by decide +kernel) hown hK.1 hP 1 rfl rfl 0 (by decide) (hts (.fieldLink RX0 9 "ChooseTree$Classes" "count" "I") (by decide +kernel)) (fun _ h9 => h9) rfl dX0_isLatest_2 ?_
  refine lv_iconst (v := (nI 1)) hx hb dX0_isLatest_5 (by decide) ?_
  refine lv_isub hx hb dX0_isLatest_6 ?_
  refine lv_icmp_ne (tgt := 14) hx hb dX0_isLatest_7 (by decide) (fun c_1 => ?_) (fun c_1 => ?_)
  · refine lv_iconst (v := (nI 0)) hx hb dX0_isLatest_14 (by decide) ?_
    exact W.zret (v := (nI 0)) hx hb hr rfl (fun t ht hW => ⟨⟨(nI 0), (), rfl, (by simp [s_isLatest, bI, c_1]), trivial⟩, hS.F ht⟩) hS.2.2 dX0_isLatest_15
  · refine lv_iconst (v := (nI 1)) hx hb dX0_isLatest_10 (by decide) ?_
    refine lv_goto (tgt := 15) hx hb dX0_isLatest_11 (by decide) ?_
    exact W.zret (v := (nI 1)) hx hb hr rfl (fun t ht hW => ⟨⟨(nI 1), (), rfl, (by simp [s_isLatest, bI, c_1]), trivial⟩, hS.F ht⟩) hS.2.2 dX0_isLatest_15
set_option maxHeartbeats 4000000 in
set_option maxRecDepth 100000 in
theorem c_X0_below (l : Launch) (D : va_G) (a : Nat → Nat) (k : Nat → ClassId) (σ : CS) (zn1 zn2 : Nat) (hn1 : zn1 < 60) : Met l yX0_below wsX0_below (rmC 1 22) (cP D a k σ [.ref (a 1), .int (nI zn1), .int (nI zn2)]) (roQ (bI (s_below σ zn1 zn2))) 0 0 (fun _ => False) := by
  refine Met.ofW (cc := cX0_below) (maxL := 3) (ret := (some .boolean)) (by decide) rfl ?_
  intro p e s m args below meth c s₁ B hml hv
  obtain ⟨rfl, hP, hK⟩ := hv
  have hx := B.exec
  have hb := B.bytes
  have hr := B.returns
  have hts := atoms_spec (ws := wsX0_below) B.pre
  have hown : s.vm.findClass RX0 = some m.cls := findClass_of_methodNamed B.named
  have hlocks := B.notSynchronized
  clear B
  have hl := lv_entry ([.ref (a 1), .int (nI zn1), .int (nI zn2)]) (n := 3) (Nat.le_of_ble_eq_true rfl)
  rw [lg_entry_eq]
  generalize (lg_sl ([.ref (a 1), .int (nI zn1), .int (nI zn2)]) ++ List.replicate (3 - (lg_sl ([.ref (a 1), .int (nI zn1), .int (nI zn2)])).length) Slot.unset).toArray = ls at hl ⊢
  replace hl : lv_has ls 3 [(0, .ref (a 1)), (1, .int (nI zn1)), (2, .int (nI zn2))] := hl
  refine gen_start (A := (fun _ => False)) (fun H locs hP hS => ?_) hP
  refine lv_aload_n hx hb dX0_below_0 rfl (lv_at hl 0 rfl) ?_
  refine va_get (D := D) (ci := 1) (v := .ref (a 6)) (C := RX0) (T := TX0) (N := 10) hx hb hts (by decide +kernel) hown hK.1 hP 1 rfl rfl 4 (by decide) (hts (.fieldLink RX0 26 "ChooseTree$Classes" "above" "[J") (by decide +kernel)) (fun _ h9 => h9) rfl dX0_below_1 ?_
  refine lv_iload_n hx hb dX0_below_4 rfl (lv_at hl 1 rfl) ?_
  refine na_lald (D := D) hx hb hK.1 hP 6 3 rfl rfl (i := zn1) (by omega) (by decide) dX0_below_5 ?_
  refine lv_iload_n hx hb dX0_below_6 rfl (lv_at hl 2 rfl) ?_
  refine va_calli (va_runSN (As := [.long ((cs_abv σ) zn1), .int (nI zn2)]) (rest := []) ⟨hx, hb, hml, hown, hts⟩ (c_X2_holds l D a k σ (cs_abv σ zn1) zn2) ⟨va_cnB 2 hts gX0_below_X2_holds_n50 rfl rfl rfl hK.2 (hts (.initialized RX2) (by decide +kernel)) (by decide +kernel) ⟨Nat.le_of_ble_eq_true rfl, Nat.le_of_ble_eq_true rfl⟩, hts (.static yX2_holds) (by decide +kernel), trivial⟩ (cP_S hK hP) rfl rfl hl.1 rfl (lv_room (Nat.le_of_ble_eq_true rfl)) dX0_below_7 ⟨Nat.le_of_ble_eq_true rfl, Nat.le_of_ble_eq_true rfl⟩) hS (fun _ _ h => h.elim) (fun _ h => h.elim) (fun r_1 u t H1 locs ht hvm hw hB hz1 hk1 hS => ?_)
  replace hP := ro_kept hP hk1
  obtain rfl : r_1 = _ := hw
  clear hk1 hz1 hvm ht hB
  generalize H1 = H at hP hS ⊢
  exact W.zret (v := (bI (s_holds (cs_abv σ zn1) zn2))) hx hb hr (bI_nar _) (fun t ht hW => ⟨⟨(bI (s_holds (cs_abv σ zn1) zn2)), (), rfl, rfl, trivial⟩, hS.F ht⟩) hS.2.2 dX0_below_10
set_option maxHeartbeats 4000000 in
set_option maxRecDepth 100000 in
theorem c_X0_inRow (l : Launch) (D : va_G) (a : Nat → Nat) (k : Nat → ClassId) (σ : CS) (zn1 zn2 : Nat) (hn1 : zn1 < 60) (hn2 : zn2 < 60) : Met l yX0_inRow wsX0_inRow (rmC 2 44) (cP D a k σ [.ref (a 1), .int (nI zn1), .int (nI zn2)]) (roQ (bI (s_inRow σ zn1 zn2))) 0 0 (fun _ => False) := by
  refine Met.ofW (cc := cX0_inRow) (maxL := 3) (ret := (some .boolean)) (by decide) rfl ?_
  intro p e s m args below meth c s₁ B hml hv
  obtain ⟨rfl, hP, hK⟩ := hv
  have hx := B.exec
  have hb := B.bytes
  have hr := B.returns
  have hts := atoms_spec (ws := wsX0_inRow) B.pre
  have hown : s.vm.findClass RX0 = some m.cls := findClass_of_methodNamed B.named
  have hlocks := B.notSynchronized
  clear B
  have hl := lv_entry ([.ref (a 1), .int (nI zn1), .int (nI zn2)]) (n := 3) (Nat.le_of_ble_eq_true rfl)
  rw [lg_entry_eq]
  generalize (lg_sl ([.ref (a 1), .int (nI zn1), .int (nI zn2)]) ++ List.replicate (3 - (lg_sl ([.ref (a 1), .int (nI zn1), .int (nI zn2)])).length) Slot.unset).toArray = ls at hl ⊢
  replace hl : lv_has ls 3 [(0, .ref (a 1)), (1, .int (nI zn1)), (2, .int (nI zn2))] := hl
  refine gen_start (A := (fun _ => False)) (fun H locs hP hS => ?_) hP
  refine lv_iload_n hx hb dX0_inRow_0 rfl (lv_at hl 1 rfl) ?_
  refine lv_iload_n hx hb dX0_inRow_1 rfl (lv_at hl 2 rfl) ?_
  refine lv_icmp_eq (tgt := 32) hx hb dX0_inRow_2 (by decide) (fun c_1 => ?_) (fun c_1 => ?_)
  · refine lv_iconst (v := (nI 1)) hx hb dX0_inRow_32 (by decide) ?_
    refine lv_goto (tgt := 37) hx hb dX0_inRow_33 (by decide) ?_
    exact W.zret (v := (nI 1)) hx hb hr rfl (fun t ht hW => ⟨⟨(nI 1), (), rfl, (by first | (simp [s_inRow, bI, c_1]; done) | (simp [s_inRow, bI, he, c_1]; done)), trivial⟩, hS.F ht⟩) hS.2.2 dX0_inRow_37
  · refine lv_aload_n hx hb dX0_inRow_5 rfl (lv_at hl 0 rfl) ?_
    refine va_get (D := D) (ci := 1) (v := .ref (a 5)) (C := RX0) (T := TX0) (N := 10) hx hb hts (by decide +kernel) hown hK.1 hP 1 rfl rfl 3 (by decide) (hts (.fieldLink RX0 22 "ChooseTree$Classes" "face" "[Z") (by decide +kernel)) (fun _ h9 => h9) rfl dX0_inRow_6 ?_
    refine lv_iload_n hx hb dX0_inRow_9 rfl (lv_at hl 1 rfl) ?_
    refine na_zald (D := D) hx hb hK.1 hP 5 2 rfl rfl (i := zn1) (by omega) (by decide) dX0_inRow_10 ?_
    refine lv_if_ne (tgt := 36) hx hb dX0_inRow_11 (by decide) (fun c_2 => ?_) (fun c_2 => ?_)
    · refine lv_iconst (v := (nI 0)) hx hb dX0_inRow_36 (by decide) ?_
      exact W.zret (v := (nI 0)) hx hb hr rfl (fun t ht hW => ⟨⟨(nI 0), (), rfl, (by first | (simp [s_inRow, bI, c_1, c_2]; done) | (simp [s_inRow, bI, he, c_1, c_2]; done)), trivial⟩, hS.F ht⟩) hS.2.2 dX0_inRow_37
    · refine lv_aload_n hx hb dX0_inRow_14 rfl (lv_at hl 0 rfl) ?_
      refine va_get (D := D) (ci := 1) (v := .ref (a 5)) (C := RX0) (T := TX0) (N := 10) hx hb hts (by decide +kernel) hown hK.1 hP 1 rfl rfl 3 (by decide) (hts (.fieldLink RX0 22 "ChooseTree$Classes" "face" "[Z") (by decide +kernel)) (fun _ h9 => h9) rfl dX0_inRow_15 ?_
      refine lv_iload_n hx hb dX0_inRow_18 rfl (lv_at hl 2 rfl) ?_
      refine na_zald (D := D) hx hb hK.1 hP 5 2 rfl rfl (i := zn2) (by omega) (by decide) dX0_inRow_19 ?_
      refine lv_if_ne (tgt := 36) hx hb dX0_inRow_20 (by decide) (fun c_3 => ?_) (fun c_3 => ?_)
      · refine lv_iconst (v := (nI 0)) hx hb dX0_inRow_36 (by decide) ?_
        exact W.zret (v := (nI 0)) hx hb hr rfl (fun t ht hW => ⟨⟨(nI 0), (), rfl, (by first | (simp [s_inRow, bI, c_1, c_2, c_3]; done) | (simp [s_inRow, bI, he, c_1, c_2, c_3]; done)), trivial⟩, hS.F ht⟩) hS.2.2 dX0_inRow_37
      · refine lv_aload_n hx hb dX0_inRow_23 rfl (lv_at hl 0 rfl) ?_
        refine lv_iload_n hx hb dX0_inRow_24 rfl (lv_at hl 1 rfl) ?_
        refine lv_iload_n hx hb dX0_inRow_25 rfl (lv_at hl 2 rfl) ?_
        refine va_calli (va_runV (As := [.int (nI zn1), .int (nI zn2)]) (rest := []) ⟨hx, hb, hml, hown, hts⟩ (c_X0_below l D a k σ zn1 zn2 hn1) (cwV 2 hts gX0_inRow_X0_below rfl rfl rfl (by decide +kernel) ⟨Nat.le_of_ble_eq_true rfl, Nat.le_of_ble_eq_true rfl⟩) (cP_V hK hP 1 1 rfl rfl) rfl rfl hl.1 rfl (lv_room (Nat.le_of_ble_eq_true rfl)) dX0_inRow_26 ⟨Nat.le_of_ble_eq_true rfl, Nat.le_of_ble_eq_true rfl⟩) hS (fun _ _ h => h.elim) (fun _ h => h.elim) (fun r_4 u t H1 locs ht hvm hw hB hz1 hk1 hS => ?_)
        replace hP := ro_kept hP hk1
        obtain rfl : r_4 = _ := hw
        clear hk1 hz1 hvm ht hB
        generalize H1 = H at hP hS ⊢
        refine lv_if_eq (tgt := 36) hx hb dX0_inRow_29 (by decide) (fun c_5 => ?_) (fun c_5 => ?_)
        · have he := bI_0.mp c_5
          refine lv_iconst (v := (nI 0)) hx hb dX0_inRow_36 (by decide) ?_
          exact W.zret (v := (nI 0)) hx hb hr rfl (fun t ht hW => ⟨⟨(nI 0), (), rfl, (by first | (simp [s_inRow, bI, c_1, c_2, c_3, c_5]; done) | (simp [s_inRow, bI, he, c_1, c_2, c_3, c_5]; done)), trivial⟩, hS.F ht⟩) hS.2.2 dX0_inRow_37
        · have he := bI_n0.mp c_5
          refine lv_iconst (v := (nI 1)) hx hb dX0_inRow_32 (by decide) ?_
          refine lv_goto (tgt := 37) hx hb dX0_inRow_33 (by decide) ?_
          exact W.zret (v := (nI 1)) hx hb hr rfl (fun t ht hW => ⟨⟨(nI 1), (), rfl, (by first | (simp [s_inRow, bI, c_1, c_2, c_3, c_5]; done) | (simp [s_inRow, bI, he, c_1, c_2, c_3, c_5]; done)), trivial⟩, hS.F ht⟩) hS.2.2 dX0_inRow_37
set_option maxHeartbeats 4000000 in
set_option maxRecDepth 100000 in
theorem c_X0_faceAt (l : Launch) (D : va_G) (a : Nat → Nat) (k : Nat → ClassId) (σ : CS) (zn1 zn2 : Nat) (hn1 : zn1 < 60) (hn2 : (cs_fst σ) zn1 + zn2 < 1800) : Met l yX0_faceAt wsX0_faceAt (rmC 0 0) (cP D a k σ [.ref (a 1), .int (nI zn1), .int (nI zn2)]) (roQ (nI (s_faceAt σ zn1 zn2))) 0 0 (fun _ => False) := by
  refine Met.ofW (cc := cX0_faceAt) (maxL := 3) (ret := (some .int)) (by decide) rfl ?_
  intro p e s m args below meth c s₁ B hml hv
  obtain ⟨rfl, hP, hK⟩ := hv
  have hx := B.exec
  have hb := B.bytes
  have hr := B.returns
  have hts := atoms_spec (ws := wsX0_faceAt) B.pre
  have hown : s.vm.findClass RX0 = some m.cls := findClass_of_methodNamed B.named
  have hlocks := B.notSynchronized
  clear B
  have hl := lv_entry ([.ref (a 1), .int (nI zn1), .int (nI zn2)]) (n := 3) (Nat.le_of_ble_eq_true rfl)
  rw [lg_entry_eq]
  generalize (lg_sl ([.ref (a 1), .int (nI zn1), .int (nI zn2)]) ++ List.replicate (3 - (lg_sl ([.ref (a 1), .int (nI zn1), .int (nI zn2)])).length) Slot.unset).toArray = ls at hl ⊢
  replace hl : lv_has ls 3 [(0, .ref (a 1)), (1, .int (nI zn1)), (2, .int (nI zn2))] := hl
  refine gen_start (A := (fun _ => False)) (fun H locs hP hS => ?_) hP
  refine lv_aload_n hx hb dX0_faceAt_0 rfl (lv_at hl 0 rfl) ?_
  refine va_get (D := D) (ci := 1) (v := .ref (a 9)) (C := RX0) (T := TX0) (N := 10) hx hb hts (by decide +kernel) hown hK.1 hP 1 rfl rfl 7 (by decide) (hts (.fieldLink RX0 36 "ChooseTree$Classes" "faceList" "[I") (by decide +kernel)) (fun _ h9 => h9) rfl dX0_faceAt_1 ?_
  refine lv_aload_n hx hb dX0_faceAt_4 rfl (lv_at hl 0 rfl) ?_
  refine va_get (D := D) (ci := 1) (v := .ref (a 8)) (C := RX0) (T := TX0) (N := 10) hx hb hts (by decide +kernel) hown hK.1 hP 1 rfl rfl 6 (by decide) (hts (.fieldLink RX0 33 "ChooseTree$Classes" "faceStart" "[I") (by decide +kernel)) (fun _ h9 => h9) rfl dX0_faceAt_5 ?_
  refine lv_iload_n hx hb dX0_faceAt_8 rfl (lv_at hl 1 rfl) ?_
  refine na_iald (D := D) hx hb hK.1 hP 8 5 rfl rfl (i := zn1) (by omega) (by decide) dX0_faceAt_9 ?_
  refine lv_iload_n hx hb dX0_faceAt_10 rfl (lv_at hl 2 rfl) ?_
  refine lv_iaddN hx hb dX0_faceAt_11 ?_
  refine na_iald (D := D) hx hb hK.1 hP 9 6 rfl rfl (i := (((cs_fst σ) zn1) + zn2)) (by omega) (by decide) dX0_faceAt_12 ?_
  exact W.iret (v := (nI ((cs_fls σ) (((cs_fst σ) zn1) + zn2)))) hx hb hr (fun t ht hW => ⟨⟨(nI ((cs_fls σ) (((cs_fst σ) zn1) + zn2))), (), rfl, rfl, trivial⟩, hS.F ht⟩) hS.2.2 dX0_faceAt_13
