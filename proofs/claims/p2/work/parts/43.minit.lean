set_option maxHeartbeats 4000000 in
set_option maxRecDepth 100000 in
theorem c_X5_init (l : Launch) (D : va_G) (cO : ClassId) (mi e0 : Nat) (L : List Nat) (f : Nat → va_E) (sz : Nat) (hnd : L.Nodup) (h0 : Nat) (hL0 : L = [h0]) (hh0 : h0 ∈ L) (hf : f h0 = .inr (6, [.null, .null, .int 0])) : Met l yX5_init wsX5_init { frames := 7, cells := 7, slots := 34, locals := 191 } (mW D cO mi e0 L f sz [.ref h0]) (wQv D L sz (fun u => ∃ c m q l1 l2 l3 s, MI e0 cO u.1 u.2 (mt_0 h0 c m q (nI 0) (bI false) l1 l2 l3 s))) 7 34 (mA L sz) := by
  refine Met.ofW (cc := cX5_init) (maxL := 1) (ret := none) (by decide) rfl ?_
  intro p e s m args below meth cq s₁ B hml hv
  obtain ⟨rfl, hsz, hP, hK, hJ⟩ := hv
  have hx := B.exec
  have hb := B.bytes
  have hr := B.returns
  have hts := atoms_spec (ws := wsX5_init) B.pre
  have hown : s.vm.findClass RX5 = some m.cls := findClass_of_methodNamed B.named
  have hlocks := B.notSynchronized
  have hin := (name_of_methodNamed B.named B.method).1
  clear B
  have hl := lv_entry ([.ref h0]) (n := 1) (Nat.le_of_ble_eq_true rfl)
  rw [lg_entry_eq]
  generalize (lg_sl ([.ref h0]) ++ List.replicate (1 - (lg_sl ([.ref h0])).length) Slot.unset).toArray = ls at hl ⊢
  replace hl : lv_has ls 1 [(0, .ref h0)] := hl
  have hA : ∀ q : Nat, s.heap.size ≤ q → mA L sz q := fun q h => Or.inr (by omega)
  have hE : pext L sz L := pext.rf hnd
  have hD : va_D (mA L sz) (va_pl L f) := hE.D
  refine gen_start (A := mA L sz) (fun H locs hP hS => ?_) hP
  refine lv_aload_n hx hb dX5_init_0 rfl (lv_at hl 0 rfl) ?_
  refine W.objInit hx hb hown (hts (.methodLink RX5 1 objectInit) (by decide +kernel)) (hts (.instanceMethod objectInit) (by decide +kernel)) (hts _ (List.mem_of_getElem? (i := 3) rfl)) rfl (by rw [hml]; exact hl.1) rfl dX5_init_1 (Nat.le_of_ble_eq_true rfl) (Nat.le_of_ble_eq_true rfl) ?_
  refine W.eq (g2 := F0 m 4 ls []) rfl ?_
  refine lv_aload_n hx hb dX5_init_4 rfl (lv_at hl 0 rfl) ?_
  refine pl_new (D := D) (ci := 0) (fs := [.int 0, .null, .int 0]) (C := RJx4a65c) (T := TJx4a65c) (N := 3) hx hb hts (by decide +kernel) tyJx4a65c tyJx4a65c_ok hown (hts (.classLink RX5 7 RJx4a65c) (by decide +kernel)) (hts (.instantiable RJx4a65c 3) (by decide +kernel)) (hts (.initialized RJx4a65c) (by decide +kernel)) hK.1 hP hD hS hA rfl (by decide) (Nat.le_of_ble_eq_true rfl) (Nat.le_of_ble_eq_true rfl) dX5_init_5 (fun q5 H hq hAq hP hS => ?_)
  have hqs : sz ≤ q5 := hAq.resolve_left (fun z => hq (hE.mem z))
  obtain ⟨f1, hf1⟩ : ∃ z, z = va_up f q5 (.inr (0, [.int 0, .null, .int 0])) := ⟨_, rfl⟩
  rw [← hf1] at hP
  have F_h0_1 : f1 h0 = .inr (6, [.null, .null, .int 0]) := by rw [hf1, va_up_ne _ _ (show h0 ≠ q5 from fun e9 => hq (e9 ▸ hh0))]; exact hf
  have M_h0_1 := List.mem_append_left [q5] hh0
  have F_q5_1 : f1 q5 = .inr (0, [.int 0, .null, .int 0]) := by rw [hf1]; exact va_up_self _ _ _
  have M_q5_1 : q5 ∈ L ++ [q5] := List.mem_append_right _ (List.mem_singleton.mpr rfl)
  replace hE : pext L sz (L ++ [q5]) := hE.tr (Nat.le_refl _) (pext.one hE.nd hq hqs)
  have hD : va_D (mA L sz) (va_pl (L ++ [q5]) f1) := hE.D
  have hqq5 := hq
  have hqsq5 := hqs
  clear hq hqs hAq
  refine lv_dup hx hb dX5_init_8 rfl ?_
  have hszH : sz ≤ H.size := by have := hS.1; omega
  have hPold := hP
  refine va_callv (va_runI (As := []) (rest := [.ref q5, .ref h0]) ⟨hx, hb, hml, hown, hts⟩ (c_Jx4a65c_init_da8c8 l D cO mi e0 (L ++ [q5]) f1 H.size hE.nd q5 M_q5_1 F_q5_1) (cwI 0 hts gX5_init_Jx4a65c_init_da8c8 rfl rfl rfl (hts (.initialized RJx4a65c) (by decide +kernel)) (hts (.methodLink RX5 9 yJx4a65c_init_da8c8) (by decide +kernel)) (hts (.instanceMethod yJx4a65c_init_da8c8) (by decide +kernel)) rfl (by decide +kernel) ⟨Nat.le_of_ble_eq_true rfl, Nat.le_of_ble_eq_true rfl⟩) (mW_S hK hJ hS (hE.sub (by have := hS.1; omega)) hP) rfl rfl hl.1 rfl (lv_room (Nat.le_of_ble_eq_true rfl)) dX5_init_9 ⟨Nat.le_of_ble_eq_true rfl, Nat.le_of_ble_eq_true rfl⟩) hS (fun q _ h => (hE.sub (by have := hS.1; omega)) q h) (hE.sub (by have := hS.1; omega)) (fun u t H1 locs ht hvm hw hB hz1 hk1 hS => ?_)
  obtain ⟨L2, f2⟩ := u
  obtain ⟨hw, hE1⟩ := hw
  replace hB : va_P D vwCl (va_pl L2 f2) t.heap := hB
  rw [ht] at hB
  replace hE : pext L sz L2 := hE.tr (hszH) hE1
  obtain ⟨hL1, hf2⟩ := Prod.mk.inj hw
  replace hL1 : L2 = (L ++ [q5]) := hL1
  subst hL1
  have F_h0_f2 : f2 h0 = .inr (6, [.null, .null, .int 0]) := by rw [hf2, va_up_ne _ _ (show h0 ≠ q5 from cell_ne F_h0_1 F_q5_1 (by intro e8; first | (cases e8; done) | (simp at e8; done)))]; exact F_h0_1
  have F_q5_f2 : f2 q5 = alc (nI 0) e0 0 := by rw [hf2]; exact va_up_self _ _ _
  clear hPold hP hk1 hz1 hvm ht hszH hE1
  have hP := hB
  clear hB
  generalize H1 = H at hP hS ⊢
  have hD : va_D (mA L sz) (va_pl (L ++ [q5]) f2) := hE.D
  refine pl_putF (D := D) (ci := 6) (v := .ref q5) (ty := .object "java/util/ArrayList") (C := RX5) (T := TX5) (N := 3) hx hb hts (by decide +kernel) tyX5 tyX5_ok nmX5 hown hK.1 hP hD hS M_h0_1 F_h0_f2 rfl 0 (by decide) (hts (.fieldLink RX5 10 "ChooseTreeModel" "classes" "Ljava/util/ArrayList;") (by decide +kernel)) (fun _ h9 => h9) rfl hin rfl (by decide +kernel) rfl rfl (Nat.le_of_ble_eq_true rfl) dX5_init_12 (fun H locs hP hS => ?_)
  replace hP : va_P D vwCl (va_pl (L ++ [q5]) (va_up f2 h0 (.inr (6, [.ref q5, .null, .int 0])))) H := hP
  obtain ⟨f3, hf3⟩ : ∃ z, z = va_up f2 h0 (.inr (6, [.ref q5, .null, .int 0])) := ⟨_, rfl⟩
  rw [← hf3] at hP
  have F_q5_3 : f3 q5 = .inr (0, [.int (nI 0), .ref e0, .int (nI 0)]) := by rw [hf3, va_up_ne _ _ (show q5 ≠ h0 from (cell_ne F_q5_f2 F_h0_f2 (by intro e8; first | (cases e8; done) | (simp at e8; done))))]; exact F_q5_f2
  have F_h0_3 : f3 h0 = .inr (6, [.ref q5, .null, .int 0]) := by rw [hf3]; exact va_up_self _ _ _
  have hD : va_D (mA L sz) (va_pl (L ++ [q5]) f3) := hE.D
  refine lv_aload_n hx hb dX5_init_15 rfl (lv_at hl 0 rfl) ?_
  refine pl_new (D := D) (ci := 0) (fs := [.int 0, .null, .int 0]) (C := RJx4a65c) (T := TJx4a65c) (N := 3) hx hb hts (by decide +kernel) tyJx4a65c tyJx4a65c_ok hown (hts (.classLink RX5 7 RJx4a65c) (by decide +kernel)) (hts (.instantiable RJx4a65c 3) (by decide +kernel)) (hts (.initialized RJx4a65c) (by decide +kernel)) hK.1 hP hD hS hA rfl (by decide) (Nat.le_of_ble_eq_true rfl) (Nat.le_of_ble_eq_true rfl) dX5_init_16 (fun q16 H hq hAq hP hS => ?_)
  have hqs : sz ≤ q16 := hAq.resolve_left (fun z => hq (hE.mem z))
  obtain ⟨f4, hf4⟩ : ∃ z, z = va_up f3 q16 (.inr (0, [.int 0, .null, .int 0])) := ⟨_, rfl⟩
  rw [← hf4] at hP
  have F_h0_4 : f4 h0 = .inr (6, [.ref q5, .null, .int 0]) := by rw [hf4, va_up_ne _ _ (show h0 ≠ q16 from fun e9 => hq (e9 ▸ M_h0_1))]; exact F_h0_3
  have M_h0_4 := List.mem_append_left [q16] M_h0_1
  have F_q5_4 : f4 q5 = .inr (0, [.int (nI 0), .ref e0, .int (nI 0)]) := by rw [hf4, va_up_ne _ _ (show q5 ≠ q16 from fun e9 => hq (e9 ▸ M_q5_1))]; exact F_q5_3
  have M_q5_4 := List.mem_append_left [q16] M_q5_1
  have F_q16_4 : f4 q16 = .inr (0, [.int 0, .null, .int 0]) := by rw [hf4]; exact va_up_self _ _ _
  have M_q16_4 : q16 ∈ (L ++ [q5]) ++ [q16] := List.mem_append_right _ (List.mem_singleton.mpr rfl)
  replace hE : pext L sz ((L ++ [q5]) ++ [q16]) := hE.tr (Nat.le_refl _) (pext.one hE.nd hq hqs)
  have hD : va_D (mA L sz) (va_pl ((L ++ [q5]) ++ [q16]) f4) := hE.D
  have hqq16 := hq
  have hqsq16 := hqs
  clear hq hqs hAq
  refine lv_dup hx hb dX5_init_19 rfl ?_
  have hszH : sz ≤ H.size := by have := hS.1; omega
  have hPold := hP
  refine va_callv (va_runI (As := []) (rest := [.ref q16, .ref h0]) ⟨hx, hb, hml, hown, hts⟩ (c_Jx4a65c_init_da8c8 l D cO mi e0 ((L ++ [q5]) ++ [q16]) f4 H.size hE.nd q16 M_q16_4 F_q16_4) (cwI 0 hts gX5_init_Jx4a65c_init_da8c8 rfl rfl rfl (hts (.initialized RJx4a65c) (by decide +kernel)) (hts (.methodLink RX5 9 yJx4a65c_init_da8c8) (by decide +kernel)) (hts (.instanceMethod yJx4a65c_init_da8c8) (by decide +kernel)) rfl (by decide +kernel) ⟨Nat.le_of_ble_eq_true rfl, Nat.le_of_ble_eq_true rfl⟩) (mW_S hK hJ hS (hE.sub (by have := hS.1; omega)) hP) rfl rfl hl.1 rfl (lv_room (Nat.le_of_ble_eq_true rfl)) dX5_init_20 ⟨Nat.le_of_ble_eq_true rfl, Nat.le_of_ble_eq_true rfl⟩) hS (fun q _ h => (hE.sub (by have := hS.1; omega)) q h) (hE.sub (by have := hS.1; omega)) (fun u t H1 locs ht hvm hw hB hz1 hk1 hS => ?_)
  obtain ⟨L5, f5⟩ := u
  obtain ⟨hw, hE1⟩ := hw
  replace hB : va_P D vwCl (va_pl L5 f5) t.heap := hB
  rw [ht] at hB
  replace hE : pext L sz L5 := hE.tr (hszH) hE1
  obtain ⟨hL1, hf5⟩ := Prod.mk.inj hw
  replace hL1 : L5 = ((L ++ [q5]) ++ [q16]) := hL1
  subst hL1
  have F_h0_f5 : f5 h0 = .inr (6, [.ref q5, .null, .int 0]) := by rw [hf5, va_up_ne _ _ (show h0 ≠ q16 from cell_ne F_h0_4 F_q16_4 (by intro e8; first | (cases e8; done) | (simp at e8; done)))]; exact F_h0_4
  have F_q5_f5 : f5 q5 = .inr (0, [.int (nI 0), .ref e0, .int (nI 0)]) := by rw [hf5, va_up_ne _ _ (show q5 ≠ q16 from cell_ne F_q5_4 F_q16_4 (by intro e8; first | (cases e8; done) | (simp at e8; done)))]; exact F_q5_4
  have F_q16_f5 : f5 q16 = alc (nI 0) e0 0 := by rw [hf5]; exact va_up_self _ _ _
  clear hPold hP hk1 hz1 hvm ht hszH hE1
  have hP := hB
  clear hB
  generalize H1 = H at hP hS ⊢
  have hD : va_D (mA L sz) (va_pl ((L ++ [q5]) ++ [q16]) f5) := hE.D
  refine pl_putF (D := D) (ci := 6) (v := .ref q16) (ty := .object "java/util/ArrayList") (C := RX5) (T := TX5) (N := 3) hx hb hts (by decide +kernel) tyX5 tyX5_ok nmX5 hown hK.1 hP hD hS M_h0_4 F_h0_f5 rfl 1 (by decide) (hts (.fieldLink RX5 16 "ChooseTreeModel" "methods" "Ljava/util/ArrayList;") (by decide +kernel)) (fun _ h9 => h9) rfl hin rfl (by decide +kernel) rfl rfl (Nat.le_of_ble_eq_true rfl) dX5_init_23 (fun H locs hP hS => ?_)
  replace hP : va_P D vwCl (va_pl ((L ++ [q5]) ++ [q16]) (va_up f5 h0 (.inr (6, [.ref q5, .ref q16, .int 0])))) H := hP
  obtain ⟨f6, hf6⟩ : ∃ z, z = va_up f5 h0 (.inr (6, [.ref q5, .ref q16, .int 0])) := ⟨_, rfl⟩
  rw [← hf6] at hP
  have F_q5_6 : f6 q5 = .inr (0, [.int (nI 0), .ref e0, .int (nI 0)]) := by rw [hf6, va_up_ne _ _ (show q5 ≠ h0 from (cell_ne F_q5_f5 F_h0_f5 (by intro e8; first | (cases e8; done) | (simp at e8; done))))]; exact F_q5_f5
  have F_q16_6 : f6 q16 = .inr (0, [.int (nI 0), .ref e0, .int (nI 0)]) := by rw [hf6, va_up_ne _ _ (show q16 ≠ h0 from (cell_ne F_q16_f5 F_h0_f5 (by intro e8; first | (cases e8; done) | (simp at e8; done))))]; exact F_q16_f5
  have F_h0_6 : f6 h0 = .inr (6, [.ref q5, .ref q16, .int 0]) := by rw [hf6]; exact va_up_self _ _ _
  have hD : va_D (mA L sz) (va_pl ((L ++ [q5]) ++ [q16]) f6) := hE.D
  refine lv_aload_n hx hb dX5_init_26 rfl (lv_at hl 0 rfl) ?_
  refine pl_get (D := D) (ci := 6) (v := .ref q5) (C := RX5) (T := TX5) (N := 3) hx hb hts (by decide +kernel) hown hK.1 hP M_h0_4 F_h0_6 rfl 0 (by decide) (hts (.fieldLink RX5 10 "ChooseTreeModel" "classes" "Ljava/util/ArrayList;") (by decide +kernel)) (fun _ h9 => h9) rfl dX5_init_27 ?_
  refine pl_new (D := D) (ci := 4) (fs := [.int 0, .int 0, .null, .int 0, .null, .null, .null, .int 0, .int 0]) (C := RX3) (T := TX3) (N := 9) hx hb hts (by decide +kernel) tyX3 tyX3_ok hown (hts (.classLink RX5 19 RX3) (by decide +kernel)) (hts (.instantiable RX3 9) (by decide +kernel)) (hts (.initialized RX3) (by decide +kernel)) hK.1 hP hD hS hA rfl (by decide) (Nat.le_of_ble_eq_true rfl) (Nat.le_of_ble_eq_true rfl) dX5_init_30 (fun q30 H hq hAq hP hS => ?_)
  have hqs : sz ≤ q30 := hAq.resolve_left (fun z => hq (hE.mem z))
  obtain ⟨f7, hf7⟩ : ∃ z, z = va_up f6 q30 (.inr (4, [.int 0, .int 0, .null, .int 0, .null, .null, .null, .int 0, .int 0])) := ⟨_, rfl⟩
  rw [← hf7] at hP
  have F_h0_7 : f7 h0 = .inr (6, [.ref q5, .ref q16, .int 0]) := by rw [hf7, va_up_ne _ _ (show h0 ≠ q30 from fun e9 => hq (e9 ▸ M_h0_4))]; exact F_h0_6
  have M_h0_7 := List.mem_append_left [q30] M_h0_4
  have F_q5_7 : f7 q5 = .inr (0, [.int (nI 0), .ref e0, .int (nI 0)]) := by rw [hf7, va_up_ne _ _ (show q5 ≠ q30 from fun e9 => hq (e9 ▸ M_q5_4))]; exact F_q5_6
  have M_q5_7 := List.mem_append_left [q30] M_q5_4
  have F_q16_7 : f7 q16 = .inr (0, [.int (nI 0), .ref e0, .int (nI 0)]) := by rw [hf7, va_up_ne _ _ (show q16 ≠ q30 from fun e9 => hq (e9 ▸ M_q16_4))]; exact F_q16_6
  have M_q16_7 := List.mem_append_left [q30] M_q16_4
  have F_q30_7 : f7 q30 = .inr (4, [.int 0, .int 0, .null, .int 0, .null, .null, .null, .int 0, .int 0]) := by rw [hf7]; exact va_up_self _ _ _
  have M_q30_7 : q30 ∈ ((L ++ [q5]) ++ [q16]) ++ [q30] := List.mem_append_right _ (List.mem_singleton.mpr rfl)
  replace hE : pext L sz (((L ++ [q5]) ++ [q16]) ++ [q30]) := hE.tr (Nat.le_refl _) (pext.one hE.nd hq hqs)
  have hD : va_D (mA L sz) (va_pl (((L ++ [q5]) ++ [q16]) ++ [q30]) f7) := hE.D
  have hqq30 := hq
  have hqsq30 := hqs
  clear hq hqs hAq
  refine lv_dup hx hb dX5_init_33 rfl ?_
  refine lv_iconst (v := (nI 0)) hx hb dX5_init_34 (by decide) ?_
  refine lv_null hx hb dX5_init_35 ?_
  refine lv_iconst (v := (nI 0)) hx hb dX5_init_36 (by decide) ?_
  refine lv_iconst (v := (nI 0)) hx hb dX5_init_37 (by decide) ?_
  have hszH : sz ≤ H.size := by have := hS.1; omega
  have hPold := hP
  refine va_callv (va_runI (As := [.int (nI 0), .null, .int (nI 0), .int (nI 0)]) (rest := [.ref q30, .ref q5]) ⟨hx, hb, hml, hown, hts⟩ (c_X3_init l D cO mi e0 (((L ++ [q5]) ++ [q16]) ++ [q30]) f7 H.size hE.nd q30 M_q30_7 (nI 0) none (nI 0) false F_q30_7) (cwI 4 hts gX5_init_X3_init rfl rfl rfl (hts (.initialized RX3) (by decide +kernel)) (hts (.methodLink RX5 21 yX3_init) (by decide +kernel)) (hts (.instanceMethod yX3_init) (by decide +kernel)) rfl (by decide +kernel) ⟨Nat.le_of_ble_eq_true rfl, Nat.le_of_ble_eq_true rfl⟩) (mW_S hK hJ hS (hE.sub (by have := hS.1; omega)) hP) rfl rfl hl.1 rfl (lv_room (Nat.le_of_ble_eq_true rfl)) dX5_init_38 ⟨Nat.le_of_ble_eq_true rfl, Nat.le_of_ble_eq_true rfl⟩) hS (fun q _ h => (hE.sub (by have := hS.1; omega)) q h) (hE.sub (by have := hS.1; omega)) (fun u t H1 locs ht hvm hw hB hz1 hk1 hS => ?_)
  obtain ⟨L8, f8⟩ := u
  obtain ⟨hw, hE1⟩ := hw
  replace hB : va_P D vwCl (va_pl L8 f8) t.heap := hB
  rw [ht] at hB
  replace hE : pext L sz L8 := hE.tr (hszH) hE1
  obtain ⟨l1, l2, l3, hL1, ⟨hn1, hn2, hn3⟩, ⟨hs1, hs2, hs3⟩, hcq, hc1, hc2, hc3, hrest⟩ := hw
  replace hL1 : L8 = ((((L ++ [q5]) ++ [q16]) ++ [q30]) ++ [l1] ++ [l2] ++ [l3]) := hL1
  subst hL1
  replace hs1 : sz ≤ l1 := Nat.le_trans hszH hs1
  replace hs2 : sz ≤ l2 := Nat.le_trans hszH hs2
  replace hs3 : sz ≤ l3 := Nat.le_trans hszH hs3
  have G_h0 : f8 h0 = .inr (6, [.ref q5, .ref q16, .int 0]) := (hrest h0 M_h0_7 (cell_ne F_h0_7 F_q30_7 (by intro e8; first | (cases e8; done) | (simp at e8; done)))).trans F_h0_7
  have N_h0 : h0 ∈ ((((L ++ [q5]) ++ [q16]) ++ [q30]) ++ [l1] ++ [l2] ++ [l3]) := List.mem_append_left _ (List.mem_append_left _ (List.mem_append_left _ M_h0_7))
  have G_q5 : f8 q5 = .inr (0, [.int (nI 0), .ref e0, .int (nI 0)]) := (hrest q5 M_q5_7 (cell_ne F_q5_7 F_q30_7 (by intro e8; first | (cases e8; done) | (simp at e8; done)))).trans F_q5_7
  have N_q5 : q5 ∈ ((((L ++ [q5]) ++ [q16]) ++ [q30]) ++ [l1] ++ [l2] ++ [l3]) := List.mem_append_left _ (List.mem_append_left _ (List.mem_append_left _ M_q5_7))
  have G_q16 : f8 q16 = .inr (0, [.int (nI 0), .ref e0, .int (nI 0)]) := (hrest q16 M_q16_7 (cell_ne F_q16_7 F_q30_7 (by intro e8; first | (cases e8; done) | (simp at e8; done)))).trans F_q16_7
  have N_q16 : q16 ∈ ((((L ++ [q5]) ++ [q16]) ++ [q30]) ++ [l1] ++ [l2] ++ [l3]) := List.mem_append_left _ (List.mem_append_left _ (List.mem_append_left _ M_q16_7))
  have hmq : mobj ((((L ++ [q5]) ++ [q16]) ++ [q30]) ++ [l1] ++ [l2] ++ [l3]) f8 q30 := ⟨List.mem_append_left _ (List.mem_append_left _ (List.mem_append_left _ M_q30_7)), 4, _, hcq, Or.inl rfl⟩
  clear hPold hP hk1 hz1 hvm ht hszH hE1
  have hP := hB
  clear hB
  generalize H1 = H at hP hS ⊢
  have hD : va_D (mA L sz) (va_pl ((((L ++ [q5]) ++ [q16]) ++ [q30]) ++ [l1] ++ [l2] ++ [l3]) f8) := hE.D
  have hnd9 := hE.nd
  have hszH : sz ≤ H.size := by have := hS.1; omega
  have hPold := hP
  refine va_calli (va_runV (As := [.ref q30]) (rest := []) ⟨hx, hb, hml, hown, hts⟩ (c_Jx4a65c_addU l D cO mi e0 ((((L ++ [q5]) ++ [q16]) ++ [q30]) ++ [l1] ++ [l2] ++ [l3]) f8 H.size hE.nd q5 N_q5 (nI 0) e0 0 G_q5 q30 hmq 0 10 (fun _ => none) (Or.inl ⟨rfl, rfl, rfl, rfl⟩) 10 (fun _ => Nat.le_refl _)) (cwV 1 hts gX5_init_Jx4a65c_add_9ea2d rfl rfl rfl (by decide +kernel) ⟨Nat.le_of_ble_eq_true rfl, Nat.le_of_ble_eq_true rfl⟩) (mW_V hK hJ hS (hE.sub (by have := hS.1; omega)) hP 0 rfl N_q5 G_q5) rfl rfl hl.1 rfl (lv_room (Nat.le_of_ble_eq_true rfl)) dX5_init_41 ⟨Nat.le_of_ble_eq_true rfl, Nat.le_of_ble_eq_true rfl⟩) hS (fun q _ h => (hE.sub (by have := hS.1; omega)) q h) (hE.sub (by have := hS.1; omega)) (fun r_9 u t H1 locs ht hvm hw hB hz1 hk1 hS => ?_)
  obtain ⟨L9, f9⟩ := u
  obtain ⟨hw, hE1⟩ := hw
  replace hB : va_P D vwCl (va_pl L9 f9) t.heap := hB
  rw [ht] at hB
  replace hE : pext L sz L9 := hE.tr (hszH) hE1
  have he9 : e0 < H.size := Nat.lt_of_lt_of_le hJ.lt.2 hszH
  obtain ⟨hr1, hw⟩ := hw
  subst hr1
  have hM9 : ∃ s9, MI e0 cO L9 f9 (mt_0 h0 q5 q16 q30 (nI 0) (bI false) l1 l2 l3 s9) := by
    have he8 := hJ.lt
    have hsz9 : sz ≤ H.size := hszH
    subst hL0
    refine MI.start (mc0 := nI 0) (u := (L9, f9)) hnd9 ?_ G_h0 G_q5 ⟨_, G_q16⟩ ⟨_, hc1⟩ ⟨_, hc2⟩ ⟨_, hc3⟩ hcq he9 hE1 hw
    intro h9
    simp only [List.mem_cons, List.not_mem_nil, or_false] at h9 he8
    omega
  obtain ⟨s9, hM9⟩ := hM9
  clear he9
  clear hPold hP hk1 hz1 hvm ht hszH hE1
  have hP := hB
  clear hB
  generalize H1 = H at hP hS ⊢
  have hD : va_D (mA L sz) (va_pl L9 f9) := hE.D
  refine lv_pop hx hb dX5_init_44 rfl ?_
  refine W.widen (k := 7) (n := 34) (by first | exact Nat.le_refl _ | omega) (by first | exact Nat.le_refl _ | omega) ?_
  exact W.vret hx hb hr (fun t ht hW => ⟨⟨(L9, f9), rfl, ⟨⟨q5, q16, q30, l1, l2, l3, s9, hM9⟩, hE⟩, show va_P D vwCl (va_pl _ _) t.heap from (by rw [ht]; exact hP)⟩, hS.F ht⟩) hS.2.2 dX5_init_45
