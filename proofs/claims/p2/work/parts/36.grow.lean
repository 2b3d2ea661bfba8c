set_option maxHeartbeats 4000000 in
set_option maxRecDepth 100000 in
theorem c_Jx4a65c_addU (l : Launch) (D : va_G) (cO : ClassId) (mi e0 : Nat) (L : List Nat) (f : Nat → va_E) (sz : Nat) (hnd : L.Nodup) (a : Nat) (ha : a ∈ L) (mc : Int32) (d c : Nat) (hf : f a = alc mc d c) (x : Nat) (hxo : mobj L f x) (n k : Nat) (g : Nat → Option Nat) (hg : alG e0 cO L f d c n k g) (zK : Nat) (hkK : c = n → k ≤ zK) : Met l yJx4a65c_add_9ea2d wsJx4a65c_add_9ea2d { frames := 6, cells := 1, slots := zK, locals := 170 } (mW D cO mi e0 L f sz [.ref a, .ref x]) (wQi D L sz (fun r u => r = nI 1 ∧ alPost cO L f a d c n k g (mc + nI 1) x u)) 1 zK (mA L sz) := by
  refine Met.ofW (cc := cJx4a65c_add_9ea2d) (maxL := 2) (ret := (some .boolean)) (by decide) rfl ?_
  intro p e s m args below meth cq s₁ B hml hv
  obtain ⟨rfl, hsz, hP, hK, hJ⟩ := hv
  have hx := B.exec
  have hb := B.bytes
  have hr := B.returns
  have hts := atoms_spec (ws := wsJx4a65c_add_9ea2d) B.pre
  have hown : s.vm.findClass RJx4a65c = some m.cls := findClass_of_methodNamed B.named
  have hlocks := B.notSynchronized
  have hin := (name_of_methodNamed B.named B.method).1
  clear B
  have hl := lv_entry ([.ref a, .ref x]) (n := 2) (Nat.le_of_ble_eq_true rfl)
  rw [lg_entry_eq]
  generalize (lg_sl ([.ref a, .ref x]) ++ List.replicate (2 - (lg_sl ([.ref a, .ref x])).length) Slot.unset).toArray = ls at hl ⊢
  replace hl : lv_has ls 2 [(0, .ref a), (1, .ref x)] := hl
  have hA : ∀ q : Nat, s.heap.size ≤ q → mA L sz q := fun q h => Or.inr (by omega)
  have hE : pext L sz L := pext.rf hnd
  have hD : va_D (mA L sz) (va_pl L f) := hE.D
  refine gen_start (A := mA L sz) (fun H locs hP hS => ?_) hP
  rcases (show c < n ∨ c = n from by rcases hg with ⟨e1, e2, e3, e4⟩ | ⟨hd, hfd, hn2, hn3, hcn, e4, hel⟩ <;> omega) with hcn9 | hcn9
  · have hzz := hcn9
    refine lv_aload_n hx hb dJx4a65c_add_9ea2d_0 rfl (lv_at hl 0 rfl) ?_
    refine lv_dup hx hb dJx4a65c_add_9ea2d_1 rfl ?_
    refine pl_get (D := D) (ci := 0) (v := .int mc) (C := RJx4a65c) (T := TJx4a65c) (N := 3) hx hb hts (by decide +kernel) hown hK.1 hP ha hf rfl 0 (by decide) (hts (.fieldLink RJx4a65c 63 "java/util/ArrayList" "modCount" "I") (by decide +kernel)) (fun x9 h9 => u_same (hts (.sameField "java/util/ArrayList" "java/util/AbstractList" "modCount" "I") (by decide +kernel)) x9 h9) rfl dJx4a65c_add_9ea2d_2 ?_
    refine lv_iconst (v := (nI 1)) hx hb dJx4a65c_add_9ea2d_5 (by decide) ?_
    refine lv_iadd hx hb dJx4a65c_add_9ea2d_6 ?_
    refine pl_put (D := D) (ci := 0) (v := .int (mc + (nI 1))) (ty := .int) (C := RJx4a65c) (T := TJx4a65c) (N := 3) hx hb hts (by decide +kernel) tyJx4a65c tyJx4a65c_ok nmJx4a65c hown hK.1 hP hD hS ha hf rfl 0 (by decide) (hts (.fieldLink RJx4a65c 63 "java/util/ArrayList" "modCount" "I") (by decide +kernel)) (fun x9 h9 => u_same (hts (.sameField "java/util/ArrayList" "java/util/AbstractList" "modCount" "I") (by decide +kernel)) x9 h9) rfl (by decide +kernel) rfl rfl (Nat.le_of_ble_eq_true rfl) dJx4a65c_add_9ea2d_7 (fun H locs hP hS => ?_)
    replace hP : va_P D vwCl (va_pl L (va_up f a (.inr (0, [.int (mc + (nI 1)), .ref d, .int (nI c)])))) H := hP
    obtain ⟨f1, hf1⟩ : ∃ z, z = va_up f a (.inr (0, [.int (mc + (nI 1)), .ref d, .int (nI c)])) := ⟨_, rfl⟩
    rw [← hf1] at hP
    have F_a_1 : f1 a = .inr (0, [.int (mc + (nI 1)), .ref d, .int (nI c)]) := by rw [hf1]; exact va_up_self _ _ _
    have hD : va_D (mA L sz) (va_pl L f1) := hE.D
    refine lv_aload_n hx hb dJx4a65c_add_9ea2d_10 rfl (lv_at hl 0 rfl) ?_
    refine lv_aload_n hx hb dJx4a65c_add_9ea2d_11 rfl (lv_at hl 1 rfl) ?_
    refine lv_aload_n hx hb dJx4a65c_add_9ea2d_12 rfl (lv_at hl 0 rfl) ?_
    refine pl_get (D := D) (ci := 0) (v := .ref d) (C := RJx4a65c) (T := TJx4a65c) (N := 3) hx hb hts (by decide +kernel) hown hK.1 hP ha F_a_1 rfl 1 (by decide) (hts (.fieldLink RJx4a65c 9 "java/util/ArrayList" "elementData" "[Ljava/lang/Object;") (by decide +kernel)) (fun _ h9 => h9) rfl dJx4a65c_add_9ea2d_13 ?_
    refine lv_aload_n hx hb dJx4a65c_add_9ea2d_16 rfl (lv_at hl 0 rfl) ?_
    refine pl_get (D := D) (ci := 0) (v := .int (nI c)) (C := RJx4a65c) (T := TJx4a65c) (N := 3) hx hb hts (by decide +kernel) hown hK.1 hP ha F_a_1 rfl 2 (by decide) (hts (.fieldLink RJx4a65c 48 "java/util/ArrayList" "size" "I") (by decide +kernel)) (fun _ h9 => h9) rfl dJx4a65c_add_9ea2d_17 ?_
    have hszH : sz ≤ H.size := by have := hS.1; omega
    have hPold := hP
    refine va_callv (va_runV (As := [.ref x, .ref d, .int (nI c)]) (rest := []) ⟨hx, hb, hml, hown, hts⟩ (c_Jx4a65c_add3N l D cO mi e0 L f1 H.size hE.nd a ha (mc + nI 1) d c F_a_1 x (by rw [hf1]; exact hxo.up (fun _ z => z) (hxo.neal hf)) n k g (by rw [hf1]; exact hg.up hf) hcn9) (cwV 3 hts gJx4a65c_add_9ea2d_Jx4a65c_add_72be8 rfl rfl rfl (by decide +kernel) ⟨Nat.le_of_ble_eq_true rfl, Nat.le_of_ble_eq_true rfl⟩) (mW_V hK hJ hS (hE.sub (by have := hS.1; omega)) hP 0 rfl ha F_a_1) rfl rfl hl.1 rfl (lv_room (Nat.le_of_ble_eq_true rfl)) dJx4a65c_add_9ea2d_20 ⟨by show 0 + 0 ≤ 1; omega, by show 0 + 0 ≤ zK; omega⟩) hS (fun q _ h => (hE.sub (by have := hS.1; omega)) q h) (hE.sub (by have := hS.1; omega)) (fun u t H1 locs ht hvm hw hB hz1 hk1 hS => ?_)
    obtain ⟨L2, f2⟩ := u
    obtain ⟨hw, hE1⟩ := hw
    replace hB : va_P D vwCl (va_pl L2 f2) t.heap := hB
    rw [ht] at hB
    replace hE : pext L sz L2 := hE.tr (hszH) hE1
    obtain ⟨d2, n2, g2, hw1, hw2, hw3, hw4, hw5, hw6, hw7⟩ := hw
    clear hPold hP hk1 hz1 hvm ht hszH hE1
    have hP := hB
    clear hB
    generalize H1 = H at hP hS ⊢
    have hD : va_D (mA L sz) (va_pl L2 f2) := hE.D
    refine lv_iconst (v := (nI 1)) hx hb dJx4a65c_add_9ea2d_23 (by decide) ?_
    refine W.widen (k := 1) (n := zK) (by omega) (by omega) ?_
    exact W.zret (v := (nI 1)) hx hb hr rfl (fun t ht hW => ⟨⟨(nI 1), (L2, f2), rfl, ⟨⟨rfl, d2, n2, g2, hw1, hw2, hw3, hw4, hw5, hw6, fun b h1 h2 => (hw7 b h1 h2).trans (by rw [hf1, va_up_ne _ _ h1])⟩, hE⟩, show va_P D vwCl (va_pl _ _) t.heap from (by rw [ht]; exact hP)⟩, hS.F ht⟩) hS.2.2 dJx4a65c_add_9ea2d_24
  · have hzz := hcn9
    refine lv_aload_n hx hb dJx4a65c_add_9ea2d_0 rfl (lv_at hl 0 rfl) ?_
    refine lv_dup hx hb dJx4a65c_add_9ea2d_1 rfl ?_
    refine pl_get (D := D) (ci := 0) (v := .int mc) (C := RJx4a65c) (T := TJx4a65c) (N := 3) hx hb hts (by decide +kernel) hown hK.1 hP ha hf rfl 0 (by decide) (hts (.fieldLink RJx4a65c 63 "java/util/ArrayList" "modCount" "I") (by decide +kernel)) (fun x9 h9 => u_same (hts (.sameField "java/util/ArrayList" "java/util/AbstractList" "modCount" "I") (by decide +kernel)) x9 h9) rfl dJx4a65c_add_9ea2d_2 ?_
    refine lv_iconst (v := (nI 1)) hx hb dJx4a65c_add_9ea2d_5 (by decide) ?_
    refine lv_iadd hx hb dJx4a65c_add_9ea2d_6 ?_
    refine pl_put (D := D) (ci := 0) (v := .int (mc + (nI 1))) (ty := .int) (C := RJx4a65c) (T := TJx4a65c) (N := 3) hx hb hts (by decide +kernel) tyJx4a65c tyJx4a65c_ok nmJx4a65c hown hK.1 hP hD hS ha hf rfl 0 (by decide) (hts (.fieldLink RJx4a65c 63 "java/util/ArrayList" "modCount" "I") (by decide +kernel)) (fun x9 h9 => u_same (hts (.sameField "java/util/ArrayList" "java/util/AbstractList" "modCount" "I") (by decide +kernel)) x9 h9) rfl (by decide +kernel) rfl rfl (Nat.le_of_ble_eq_true rfl) dJx4a65c_add_9ea2d_7 (fun H locs hP hS => ?_)
    replace hP : va_P D vwCl (va_pl L (va_up f a (.inr (0, [.int (mc + (nI 1)), .ref d, .int (nI c)])))) H := hP
    obtain ⟨f3, hf3⟩ : ∃ z, z = va_up f a (.inr (0, [.int (mc + (nI 1)), .ref d, .int (nI c)])) := ⟨_, rfl⟩
    rw [← hf3] at hP
    have F_a_3 : f3 a = .inr (0, [.int (mc + (nI 1)), .ref d, .int (nI c)]) := by rw [hf3]; exact va_up_self _ _ _
    have hD : va_D (mA L sz) (va_pl L f3) := hE.D
    refine lv_aload_n hx hb dJx4a65c_add_9ea2d_10 rfl (lv_at hl 0 rfl) ?_
    refine lv_aload_n hx hb dJx4a65c_add_9ea2d_11 rfl (lv_at hl 1 rfl) ?_
    refine lv_aload_n hx hb dJx4a65c_add_9ea2d_12 rfl (lv_at hl 0 rfl) ?_
    refine pl_get (D := D) (ci := 0) (v := .ref d) (C := RJx4a65c) (T := TJx4a65c) (N := 3) hx hb hts (by decide +kernel) hown hK.1 hP ha F_a_3 rfl 1 (by decide) (hts (.fieldLink RJx4a65c 9 "java/util/ArrayList" "elementData" "[Ljava/lang/Object;") (by decide +kernel)) (fun _ h9 => h9) rfl dJx4a65c_add_9ea2d_13 ?_
    refine lv_aload_n hx hb dJx4a65c_add_9ea2d_16 rfl (lv_at hl 0 rfl) ?_
    refine pl_get (D := D) (ci := 0) (v := .int (nI c)) (C := RJx4a65c) (T := TJx4a65c) (N := 3) hx hb hts (by decide +kernel) hown hK.1 hP ha F_a_3 rfl 2 (by decide) (hts (.fieldLink RJx4a65c 48 "java/util/ArrayList" "size" "I") (by decide +kernel)) (fun _ h9 => h9) rfl dJx4a65c_add_9ea2d_17 ?_
    have hszH : sz ≤ H.size := by have := hS.1; omega
    have hPold := hP
    refine va_callv (va_runV (As := [.ref x, .ref d, .int (nI c)]) (rest := []) ⟨hx, hb, hml, hown, hts⟩ (c_Jx4a65c_add3G l D cO mi e0 L f3 H.size hE.nd a ha (mc + nI 1) d c F_a_3 x (by rw [hf3]; exact hxo.up (fun _ z => z) (hxo.neal hf)) n k g (by rw [hf3]; exact hg.up hf) hcn9) (cwV 3 hts gJx4a65c_add_9ea2d_Jx4a65c_add_72be8 rfl rfl rfl (by decide +kernel) ⟨Nat.le_of_ble_eq_true rfl, Nat.le_of_ble_eq_true rfl⟩) (mW_V hK hJ hS (hE.sub (by have := hS.1; omega)) hP 0 rfl ha F_a_3) rfl rfl hl.1 rfl (lv_room (Nat.le_of_ble_eq_true rfl)) dJx4a65c_add_9ea2d_20 ⟨Nat.le_refl _, by have := hkK hcn9; show 0 + k ≤ zK; omega⟩) hS (fun q _ h => (hE.sub (by have := hS.1; omega)) q h) (hE.sub (by have := hS.1; omega)) (fun u t H1 locs ht hvm hw hB hz1 hk1 hS => ?_)
    obtain ⟨L4, f4⟩ := u
    obtain ⟨hw, hE1⟩ := hw
    replace hB : va_P D vwCl (va_pl L4 f4) t.heap := hB
    rw [ht] at hB
    replace hE : pext L sz L4 := hE.tr (hszH) hE1
    obtain ⟨d2, n2, g2, hw1, hw2, hw3, hw4, hw5, hw6, hw7⟩ := hw
    clear hPold hP hk1 hz1 hvm ht hszH hE1
    have hP := hB
    clear hB
    generalize H1 = H at hP hS ⊢
    have hD : va_D (mA L sz) (va_pl L4 f4) := hE.D
    refine lv_iconst (v := (nI 1)) hx hb dJx4a65c_add_9ea2d_23 (by decide) ?_
    refine W.widen (k := 1) (n := zK) (by omega) (by have := hkK; omega) ?_
    exact W.zret (v := (nI 1)) hx hb hr rfl (fun t ht hW => ⟨⟨(nI 1), (L4, f4), rfl, ⟨⟨rfl, d2, n2, g2, hw1, hw2, hw3, hw4, hw5, hw6, fun b h1 h2 => (hw7 b h1 h2).trans (by rw [hf3, va_up_ne _ _ h1])⟩, hE⟩, show va_P D vwCl (va_pl _ _) t.heap from (by rw [ht]; exact hP)⟩, hS.F ht⟩) hS.2.2 dJx4a65c_add_9ea2d_24
set_option maxHeartbeats 4000000 in
set_option maxRecDepth 100000 in
theorem c_X4_init (l : Launch) (D : va_G) (cO : ClassId) (mi e0 : Nat) (L : List Nat) (f : Nat → va_E) (sz : Nat) (hnd : L.Nodup) (h0 : Nat) (hh0 : h0 ∈ L) (zi : Int32) (zow : Nat) (znm zsi zfl : Int32) (hf : f h0 = .inr (5, [.int 0, .int 0, .int 0, .null, .int 0, .int 0, .int 0])) : Met l yX4_init wsX4_init { frames := 1, cells := 0, slots := 0, locals := 20 } (mW D cO mi e0 L f sz [.ref h0, .int zi, .ref zow, .int znm, .int zsi, .int zfl]) (wQv D L sz (fun u => u = (L, va_up f h0 (.inr (5, [.int zi, .int znm, .int zsi, .ref zow, .int (if (zfl &&& nI 1) = nI 1 then nI 1 else nI 0), .int (if ((zfl >>> (nI 1 &&& 31)) &&& nI 1) = nI 1 then nI 1 else nI 0), .int (if ((zfl >>> (nI 2 &&& 31)) &&& nI 1) = nI 1 then nI 1 else nI 0)]))))) 0 0 (mA L sz) := by
  refine Met.ofW (cc := cX4_init) (maxL := 6) (ret := none) (by decide) rfl ?_
  intro p e s m args below meth cq s₁ B hml hv
  obtain ⟨rfl, hsz, hP, hK, hJ⟩ := hv
  have hx := B.exec
  have hb := B.bytes
  have hr := B.returns
  have hts := atoms_spec (ws := wsX4_init) B.pre
  have hown : s.vm.findClass RX4 = some m.cls := findClass_of_methodNamed B.named
  have hlocks := B.notSynchronized
  have hin := (name_of_methodNamed B.named B.method).1
  clear B
  have hl := lv_entry ([.ref h0, .int zi, .ref zow, .int znm, .int zsi, .int zfl]) (n := 6) (Nat.le_of_ble_eq_true rfl)
  rw [lg_entry_eq]
  generalize (lg_sl ([.ref h0, .int zi, .ref zow, .int znm, .int zsi, .int zfl]) ++ List.replicate (6 - (lg_sl ([.ref h0, .int zi, .ref zow, .int znm, .int zsi, .int zfl])).length) Slot.unset).toArray = ls at hl ⊢
  replace hl : lv_has ls 6 [(0, .ref h0), (1, .int zi), (2, .ref zow), (3, .int znm), (4, .int zsi), (5, .int zfl)] := hl
  have hA : ∀ q : Nat, s.heap.size ≤ q → mA L sz q := fun q h => Or.inr (by omega)
  have hE : pext L sz L := pext.rf hnd
  have hD : va_D (mA L sz) (va_pl L f) := hE.D
  refine gen_start (A := mA L sz) (fun H locs hP hS => ?_) hP
  refine lv_aload_n hx hb dX4_init_0 rfl (lv_at hl 0 rfl) ?_
  refine W.objInit hx hb hown (hts (.methodLink RX4 1 objectInit) (by decide +kernel)) (hts (.instanceMethod objectInit) (by decide +kernel)) (hts _ (List.mem_of_getElem? (i := 3) rfl)) rfl (by rw [hml]; exact hl.1) rfl dX4_init_1 (Nat.le_of_ble_eq_true rfl) (Nat.le_of_ble_eq_true rfl) ?_
  refine W.eq (g2 := F0 m 4 ls []) rfl ?_
  refine lv_aload_n hx hb dX4_init_4 rfl (lv_at hl 0 rfl) ?_
  refine lv_iload_n hx hb dX4_init_5 rfl (lv_at hl 1 rfl) ?_
  refine pl_putF (D := D) (ci := 5) (v := .int zi) (ty := .int) (C := RX4) (T := TX4) (N := 7) hx hb hts (by decide +kernel) tyX4 tyX4_ok nmX4 hown hK.1 hP hD hS hh0 hf rfl 0 (by decide) (hts (.fieldLink RX4 7 "ChooseTreeModel$Met" "number" "I") (by decide +kernel)) (fun _ h9 => h9) rfl hin rfl (by decide +kernel) rfl rfl (Nat.le_of_ble_eq_true rfl) dX4_init_6 (fun H locs hP hS => ?_)
  replace hP : va_P D vwCl (va_pl L (va_up f h0 (.inr (5, [.int zi, .int 0, .int 0, .null, .int 0, .int 0, .int 0])))) H := hP
  obtain ⟨f1, hf1⟩ : ∃ z, z = va_up f h0 (.inr (5, [.int zi, .int 0, .int 0, .null, .int 0, .int 0, .int 0])) := ⟨_, rfl⟩
  rw [← hf1] at hP
  have F_h0_1 : f1 h0 = .inr (5, [.int zi, .int 0, .int 0, .null, .int 0, .int 0, .int 0]) := by rw [hf1]; exact va_up_self _ _ _
  have hD : va_D (mA L sz) (va_pl L f1) := hE.D
  refine lv_aload_n hx hb dX4_init_9 rfl (lv_at hl 0 rfl) ?_
  refine lv_aload_n hx hb dX4_init_10 rfl (lv_at hl 2 rfl) ?_
  refine pl_putF (D := D) (ci := 5) (v := .ref zow) (ty := .object "ChooseTreeModel$Cls") (C := RX4) (T := TX4) (N := 7) hx hb hts (by decide +kernel) tyX4 tyX4_ok nmX4 hown hK.1 hP hD hS hh0 F_h0_1 rfl 3 (by decide) (hts (.fieldLink RX4 13 "ChooseTreeModel$Met" "owner" "LChooseTreeModel$Cls;") (by decide +kernel)) (fun _ h9 => h9) rfl hin rfl (by decide +kernel) rfl rfl (Nat.le_of_ble_eq_true rfl) dX4_init_11 (fun H locs hP hS => ?_)
  replace hP : va_P D vwCl (va_pl L (va_up f1 h0 (.inr (5, [.int zi, .int 0, .int 0, .ref zow, .int 0, .int 0, .int 0])))) H := hP
  obtain ⟨f2, hf2⟩ : ∃ z, z = va_up f1 h0 (.inr (5, [.int zi, .int 0, .int 0, .ref zow, .int 0, .int 0, .int 0])) := ⟨_, rfl⟩
  rw [← hf2] at hP
  have F_h0_2 : f2 h0 = .inr (5, [.int zi, .int 0, .int 0, .ref zow, .int 0, .int 0, .int 0]) := by rw [hf2]; exact va_up_self _ _ _
  have hD : va_D (mA L sz) (va_pl L f2) := hE.D
  refine lv_aload_n hx hb dX4_init_14 rfl (lv_at hl 0 rfl) ?_
  refine lv_iload_n hx hb dX4_init_15 rfl (lv_at hl 3 rfl) ?_
  refine pl_putF (D := D) (ci := 5) (v := .int znm) (ty := .int) (C := RX4) (T := TX4) (N := 7) hx hb hts (by decide +kernel) tyX4 tyX4_ok nmX4 hown hK.1 hP hD hS hh0 F_h0_2 rfl 1 (by decide) (hts (.fieldLink RX4 17 "ChooseTreeModel$Met" "name" "I") (by decide +kernel)) (fun _ h9 => h9) rfl hin rfl (by decide +kernel) rfl rfl (Nat.le_of_ble_eq_true rfl) dX4_init_16 (fun H locs hP hS => ?_)
  replace hP : va_P D vwCl (va_pl L (va_up f2 h0 (.inr (5, [.int zi, .int znm, .int 0, .ref zow, .int 0, .int 0, .int 0])))) H := hP
  obtain ⟨f3, hf3⟩ : ∃ z, z = va_up f2 h0 (.inr (5, [.int zi, .int znm, .int 0, .ref zow, .int 0, .int 0, .int 0])) := ⟨_, rfl⟩
  rw [← hf3] at hP
  have F_h0_3 : f3 h0 = .inr (5, [.int zi, .int znm, .int 0, .ref zow, .int 0, .int 0, .int 0]) := by rw [hf3]; exact va_up_self _ _ _
  have hD : va_D (mA L sz) (va_pl L f3) := hE.D
  refine lv_aload_n hx hb dX4_init_19 rfl (lv_at hl 0 rfl) ?_
  refine lv_iload hx hb dX4_init_20 (lv_at hl 4 rfl) ?_
  refine pl_putF (D := D) (ci := 5) (v := .int zsi) (ty := .int) (C := RX4) (T := TX4) (N := 7) hx hb hts (by decide +kernel) tyX4 tyX4_ok nmX4 hown hK.1 hP hD hS hh0 F_h0_3 rfl 2 (by decide) (hts (.fieldLink RX4 20 "ChooseTreeModel$Met" "sight" "I") (by decide +kernel)) (fun _ h9 => h9) rfl hin rfl (by decide +kernel) rfl rfl (Nat.le_of_ble_eq_true rfl) dX4_init_22 (fun H locs hP hS => ?_)
  replace hP : va_P D vwCl (va_pl L (va_up f3 h0 (.inr (5, [.int zi, .int znm, .int zsi, .ref zow, .int 0, .int 0, .int 0])))) H := hP
  obtain ⟨f4, hf4⟩ : ∃ z, z = va_up f3 h0 (.inr (5, [.int zi, .int znm, .int zsi, .ref zow, .int 0, .int 0, .int 0])) := ⟨_, rfl⟩
  rw [← hf4] at hP
  have F_h0_4 : f4 h0 = .inr (5, [.int zi, .int znm, .int zsi, .ref zow, .int 0, .int 0, .int 0]) := by rw [hf4]; exact va_up_self _ _ _
  have hD : va_D (mA L sz) (va_pl L f4) := hE.D
  refine lv_aload_n hx hb dX4_init_25 rfl (lv_at hl 0 rfl) ?_
  refine lv_iload hx hb dX4_init_26 (lv_at hl 5 rfl) ?_
  refine lv_iconst (v := (nI 1)) hx hb dX4_init_28 (by decide) ?_
  refine lv_iand hx hb dX4_init_29 ?_
  refine lv_iconst (v := (nI 1)) hx hb dX4_init_30 (by decide) ?_
  refine lv_icmp_ne (tgt := 38) hx hb dX4_init_31 (by decide) (fun c_5 => ?_) (fun c_5 => ?_)
  · refine lv_iconst (v := (nI 0)) hx hb dX4_init_38 (by decide) ?_
    refine pl_putF (D := D) (ci := 5) (v := .int (nI 0)) (ty := .boolean) (C := RX4) (T := TX4) (N := 7) hx hb hts (by decide +kernel) tyX4 tyX4_ok nmX4 hown hK.1 hP hD hS hh0 F_h0_4 rfl 4 (by decide) (hts (.fieldLink RX4 23 "ChooseTreeModel$Met" "isStatic" "Z") (by decide +kernel)) (fun _ h9 => h9) rfl hin rfl (by decide +kernel) rfl rfl (Nat.le_of_ble_eq_true rfl) dX4_init_39 (fun H locs hP hS => ?_)
    replace hP : va_P D vwCl (va_pl L (va_up f4 h0 (.inr (5, [.int zi, .int znm, .int zsi, .ref zow, .int (nI 0), .int 0, .int 0])))) H := hP
    obtain ⟨f6, hf6⟩ : ∃ z, z = va_up f4 h0 (.inr (5, [.int zi, .int znm, .int zsi, .ref zow, .int (nI 0), .int 0, .int 0])) := ⟨_, rfl⟩
    rw [← hf6] at hP
    have F_h0_6 : f6 h0 = .inr (5, [.int zi, .int znm, .int zsi, .ref zow, .int (nI 0), .int 0, .int 0]) := by rw [hf6]; exact va_up_self _ _ _
    have hD : va_D (mA L sz) (va_pl L f6) := hE.D
    refine lv_aload_n hx hb dX4_init_42 rfl (lv_at hl 0 rfl) ?_
    refine lv_iload hx hb dX4_init_43 (lv_at hl 5 rfl) ?_
    refine lv_iconst (v := (nI 1)) hx hb dX4_init_45 (by decide) ?_
    refine lv_ishr hx hb dX4_init_46 ?_
    refine lv_iconst (v := (nI 1)) hx hb dX4_init_47 (by decide) ?_
    refine lv_iand hx hb dX4_init_48 ?_
    refine lv_iconst (v := (nI 1)) hx hb dX4_init_49 (by decide) ?_
    refine lv_icmp_ne (tgt := 57) hx hb dX4_init_50 (by decide) (fun c_7 => ?_) (fun c_7 => ?_)
    · refine lv_iconst (v := (nI 0)) hx hb dX4_init_57 (by decide) ?_
      refine pl_putF (D := D) (ci := 5) (v := .int (nI 0)) (ty := .boolean) (C := RX4) (T := TX4) (N := 7) hx hb hts (by decide +kernel) tyX4 tyX4_ok nmX4 hown hK.1 hP hD hS hh0 F_h0_6 rfl 5 (by decide) (hts (.fieldLink RX4 27 "ChooseTreeModel$Met" "isFinal" "Z") (by decide +kernel)) (fun _ h9 => h9) rfl hin rfl (by decide +kernel) rfl rfl (Nat.le_of_ble_eq_true rfl) dX4_init_58 (fun H locs hP hS => ?_)
      replace hP : va_P D vwCl (va_pl L (va_up f6 h0 (.inr (5, [.int zi, .int znm, .int zsi, .ref zow, .int (nI 0), .int (nI 0), .int 0])))) H := hP
      obtain ⟨f8, hf8⟩ : ∃ z, z = va_up f6 h0 (.inr (5, [.int zi, .int znm, .int zsi, .ref zow, .int (nI 0), .int (nI 0), .int 0])) := ⟨_, rfl⟩
      rw [← hf8] at hP
      have F_h0_8 : f8 h0 = .inr (5, [.int zi, .int znm, .int zsi, .ref zow, .int (nI 0), .int (nI 0), .int 0]) := by rw [hf8]; exact va_up_self _ _ _
      have hD : va_D (mA L sz) (va_pl L f8) := hE.D
      refine lv_aload_n hx hb dX4_init_61 rfl (lv_at hl 0 rfl) ?_
      refine lv_iload hx hb dX4_init_62 (lv_at hl 5 rfl) ?_
      refine lv_iconst (v := (nI 2)) hx hb dX4_init_64 (by decide) ?_
      refine lv_ishr hx hb dX4_init_65 ?_
      refine lv_iconst (v := (nI 1)) hx hb dX4_init_66 (by decide) ?_
      refine lv_iand hx hb dX4_init_67 ?_
      refine lv_iconst (v := (nI 1)) hx hb dX4_init_68 (by decide) ?_
      refine lv_icmp_ne (tgt := 76) hx hb dX4_init_69 (by decide) (fun c_9 => ?_) (fun c_9 => ?_)
      · refine lv_iconst (v := (nI 0)) hx hb dX4_init_76 (by decide) ?_
        refine pl_putF (D := D) (ci := 5) (v := .int (nI 0)) (ty := .boolean) (C := RX4) (T := TX4) (N := 7) hx hb hts (by decide +kernel) tyX4 tyX4_ok nmX4 hown hK.1 hP hD hS hh0 F_h0_8 rfl 6 (by decide) (hts (.fieldLink RX4 30 "ChooseTreeModel$Met" "isAbstract" "Z") (by decide +kernel)) (fun _ h9 => h9) rfl hin rfl (by decide +kernel) rfl rfl (Nat.le_of_ble_eq_true rfl) dX4_init_77 (fun H locs hP hS => ?_)
        replace hP : va_P D vwCl (va_pl L (va_up f8 h0 (.inr (5, [.int zi, .int znm, .int zsi, .ref zow, .int (nI 0), .int (nI 0), .int (nI 0)])))) H := hP
        obtain ⟨f10, hf10⟩ : ∃ z, z = va_up f8 h0 (.inr (5, [.int zi, .int znm, .int zsi, .ref zow, .int (nI 0), .int (nI 0), .int (nI 0)])) := ⟨_, rfl⟩
        rw [← hf10] at hP
        have F_h0_10 : f10 h0 = .inr (5, [.int zi, .int znm, .int zsi, .ref zow, .int (nI 0), .int (nI 0), .int (nI 0)]) := by rw [hf10]; exact va_up_self _ _ _
        have hD : va_D (mA L sz) (va_pl L f10) := hE.D
        refine W.widen (k := 0) (n := 0) (by first | exact Nat.le_refl _ | omega) (by first | exact Nat.le_refl _ | omega) ?_
        exact W.vret hx hb hr (fun t ht hW => ⟨⟨(L, f10), rfl, ⟨(by rw [hf10, hf8, hf6, hf4, hf3, hf2, hf1]; simp [bx_uu, c_5, c_7, c_9]), hE⟩, show va_P D vwCl (va_pl _ _) t.heap from (by rw [ht]; exact hP)⟩, hS.F ht⟩) hS.2.2 dX4_init_80
      · refine lv_iconst (v := (nI 1)) hx hb dX4_init_72 (by decide) ?_
        refine lv_goto (tgt := 77) hx hb dX4_init_73 (by decide) ?_
        refine pl_putF (D := D) (ci := 5) (v := .int (nI 1)) (ty := .boolean) (C := RX4) (T := TX4) (N := 7) hx hb hts (by decide +kernel) tyX4 tyX4_ok nmX4 hown hK.1 hP hD hS hh0 F_h0_8 rfl 6 (by decide) (hts (.fieldLink RX4 30 "ChooseTreeModel$Met" "isAbstract" "Z") (by decide +kernel)) (fun _ h9 => h9) rfl hin rfl (by decide +kernel) rfl rfl (Nat.le_of_ble_eq_true rfl) dX4_init_77 (fun H locs hP hS => ?_)
        replace hP : va_P D vwCl (va_pl L (va_up f8 h0 (.inr (5, [.int zi, .int znm, .int zsi, .ref zow, .int (nI 0), .int (nI 0), .int (nI 1)])))) H := hP
        obtain ⟨f11, hf11⟩ : ∃ z, z = va_up f8 h0 (.inr (5, [.int zi, .int znm, .int zsi, .ref zow, .int (nI 0), .int (nI 0), .int (nI 1)])) := ⟨_, rfl⟩
        rw [← hf11] at hP
        have F_h0_11 : f11 h0 = .inr (5, [.int zi, .int znm, .int zsi, .ref zow, .int (nI 0), .int (nI 0), .int (nI 1)]) := by rw [hf11]; exact va_up_self _ _ _
        have hD : va_D (mA L sz) (va_pl L f11) := hE.D
        refine W.widen (k := 0) (n := 0) (by first | exact Nat.le_refl _ | omega) (by first | exact Nat.le_refl _ | omega) ?_
        exact W.vret hx hb hr (fun t ht hW => ⟨⟨(L, f11), rfl, ⟨(by rw [hf11, hf8, hf6, hf4, hf3, hf2, hf1]; simp [bx_uu, c_5, c_7, c_9]), hE⟩, show va_P D vwCl (va_pl _ _) t.heap from (by rw [ht]; exact hP)⟩, hS.F ht⟩) hS.2.2 dX4_init_80
    · refine lv_iconst (v := (nI 1)) hx hb dX4_init_53 (by decide) ?_
      refine lv_goto (tgt := 58) hx hb dX4_init_54 (by decide) ?_
      refine pl_putF (D := D) (ci := 5) (v := .int (nI 1)) (ty := .boolean) (C := RX4) (T := TX4) (N := 7) hx hb hts (by decide +kernel) tyX4 tyX4_ok nmX4 hown hK.1 hP hD hS hh0 F_h0_6 rfl 5 (by decide) (hts (.fieldLink RX4 27 "ChooseTreeModel$Met" "isFinal" "Z") (by decide +kernel)) (fun _ h9 => h9) rfl hin rfl (by decide +kernel) rfl rfl (Nat.le_of_ble_eq_true rfl) dX4_init_58 (fun H locs hP hS => ?_)
      replace hP : va_P D vwCl (va_pl L (va_up f6 h0 (.inr (5, [.int zi, .int znm, .int zsi, .ref zow, .int (nI 0), .int (nI 1), .int 0])))) H := hP
      obtain ⟨f12, hf12⟩ : ∃ z, z = va_up f6 h0 (.inr (5, [.int zi, .int znm, .int zsi, .ref zow, .int (nI 0), .int (nI 1), .int 0])) := ⟨_, rfl⟩
      rw [← hf12] at hP
      have F_h0_12 : f12 h0 = .inr (5, [.int zi, .int znm, .int zsi, .ref zow, .int (nI 0), .int (nI 1), .int 0]) := by rw [hf12]; exact va_up_self _ _ _
      have hD : va_D (mA L sz) (va_pl L f12) := hE.D
      refine lv_aload_n hx hb dX4_init_61 rfl (lv_at hl 0 rfl) ?_
      refine lv_iload hx hb dX4_init_62 (lv_at hl 5 rfl) ?_
      refine lv_iconst (v := (nI 2)) hx hb dX4_init_64 (by decide) ?_
      refine lv_ishr hx hb dX4_init_65 ?_
      refine lv_iconst (v := (nI 1)) hx hb dX4_init_66 (by decide) ?_
      refine lv_iand hx hb dX4_init_67 ?_
      refine lv_iconst (v := (nI 1)) hx hb dX4_init_68 (by decide) ?_
      refine lv_icmp_ne (tgt := 76) hx hb dX4_init_69 (by decide) (fun c_13 => ?_) (fun c_13 => ?_)
      · refine lv_iconst (v := (nI 0)) hx hb dX4_init_76 (by decide) ?_
        refine pl_putF (D := D) (ci := 5) (v := .int (nI 0)) (ty := .boolean) (C := RX4) (T := TX4) (N := 7) hx hb hts (by decide +kernel) tyX4 tyX4_ok nmX4 hown hK.1 hP hD hS hh0 F_h0_12 rfl 6 (by decide) (hts (.fieldLink RX4 30 "ChooseTreeModel$Met" "isAbstract" "Z") (by decide +kernel)) (fun _ h9 => h9) rfl hin rfl (by decide +kernel) rfl rfl (Nat.le_of_ble_eq_true rfl) dX4_init_77 (fun H locs hP hS => ?_)
        replace hP : va_P D vwCl (va_pl L (va_up f12 h0 (.inr (5, [.int zi, .int znm, .int zsi, .ref zow, .int (nI 0), .int (nI 1), .int (nI 0)])))) H := hP
        obtain ⟨f14, hf14⟩ : ∃ z, z = va_up f12 h0 (.inr (5, [.int zi, .int znm, .int zsi, .ref zow, .int (nI 0), .int (nI 1), .int (nI 0)])) := ⟨_, rfl⟩
        rw [← hf14] at hP
        have F_h0_14 : f14 h0 = .inr (5, [.int zi, .int znm, .int zsi, .ref zow, .int (nI 0), .int (nI 1), .int (nI 0)]) := by rw [hf14]; exact va_up_self _ _ _
        have hD : va_D (mA L sz) (va_pl L f14) := hE.D
        refine W.widen (k := 0) (n := 0) (by first | exact Nat.le_refl _ | omega) (by first | exact Nat.le_refl _ | omega) ?_
        exact W.vret hx hb hr (fun t ht hW => ⟨⟨(L, f14), rfl, ⟨(by rw [hf14, hf12, hf6, hf4, hf3, hf2, hf1]; simp [bx_uu, c_5, c_7, c_13]), hE⟩, show va_P D vwCl (va_pl _ _) t.heap from (by rw [ht]; exact hP)⟩, hS.F ht⟩) hS.2.2 dX4_init_80
      · refine lv_iconst (v := (nI 1)) hx hb dX4_init_72 (by decide) ?_
        refine lv_goto (tgt := 77) hx hb dX4_init_73 (by decide) ?_
        refine pl_putF (D := D) (ci := 5) (v := .int (nI 1)) (ty := .boolean) (C := RX4) (T := TX4) (N := 7) hx hb hts (by decide +kernel) tyX4 tyX4_ok nmX4 hown hK.1 hP hD hS hh0 F_h0_12 rfl 6 (by decide) (hts (.fieldLink RX4 30 "ChooseTreeModel$Met" "isAbstract" "Z") (by decide +kernel)) (fun _ h9 => h9) rfl hin rfl (by decide +kernel) rfl rfl (Nat.le_of_ble_eq_true rfl) dX4_init_77 (fun H locs hP hS => ?_)
        replace hP : va_P D vwCl (va_pl L (va_up f12 h0 (.inr (5, [.int zi, .int znm, .int zsi, .ref zow, .int (nI 0), .int (nI 1), .int (nI 1)])))) H := hP
        obtain ⟨f15, hf15⟩ : ∃ z, z = va_up f12 h0 (.inr (5, [.int zi, .int znm, .int zsi, .ref zow, .int (nI 0), .int (nI 1), .int (nI 1)])) := ⟨_, rfl⟩
        rw [← hf15] at hP
        have F_h0_15 : f15 h0 = .inr (5, [.int zi, .int znm, .int zsi, .ref zow, .int (nI 0), .int (nI 1), .int (nI 1)]) := by rw [hf15]; exact va_up_self _ _ _
        have hD : va_D (mA L sz) (va_pl L f15) := hE.D
        refine W.widen (k := 0) (n := 0) (by first | exact Nat.le_refl _ | omega) (by first | exact Nat.le_refl _ | omega) ?_
        exact W.vret hx hb hr (fun t ht hW => ⟨⟨(L, f15), rfl, ⟨(by rw [hf15, hf12, hf6, hf4, hf3, hf2, hf1]; simp [bx_uu, c_5, c_7, c_13]), hE⟩, show va_P D vwCl (va_pl _ _) t.heap from (by rw [ht]; exact hP)⟩, hS.F ht⟩) hS.2.2 dX4_init_80
  · refine lv_iconst (v := (nI 1)) hx hb dX4_init_34 (by decide) ?_
    refine lv_goto (tgt := 39) hx hb dX4_init_35 (by decide) ?_
    refine pl_putF (D := D) (ci := 5) (v := .int (nI 1)) (ty := .boolean) (C := RX4) (T := TX4) (N := 7) hx hb hts (by decide +kernel) tyX4 tyX4_ok nmX4 hown hK.1 hP hD hS hh0 F_h0_4 rfl 4 (by decide) (hts (.fieldLink RX4 23 "ChooseTreeModel$Met" "isStatic" "Z") (by decide +kernel)) (fun _ h9 => h9) rfl hin rfl (by decide +kernel) rfl rfl (Nat.le_of_ble_eq_true rfl) dX4_init_39 (fun H locs hP hS => ?_)
    replace hP : va_P D vwCl (va_pl L (va_up f4 h0 (.inr (5, [.int zi, .int znm, .int zsi, .ref zow, .int (nI 1), .int 0, .int 0])))) H := hP
    obtain ⟨f16, hf16⟩ : ∃ z, z = va_up f4 h0 (.inr (5, [.int zi, .int znm, .int zsi, .ref zow, .int (nI 1), .int 0, .int 0])) := ⟨_, rfl⟩
    rw [← hf16] at hP
    have F_h0_16 : f16 h0 = .inr (5, [.int zi, .int znm, .int zsi, .ref zow, .int (nI 1), .int 0, .int 0]) := by rw [hf16]; exact va_up_self _ _ _
    have hD : va_D (mA L sz) (va_pl L f16) := hE.D
    refine lv_aload_n hx hb dX4_init_42 rfl (lv_at hl 0 rfl) ?_
    refine lv_iload hx hb dX4_init_43 (lv_at hl 5 rfl) ?_
    refine lv_iconst (v := (nI 1)) hx hb dX4_init_45 (by decide) ?_
    refine lv_ishr hx hb dX4_init_46 ?_
    refine lv_iconst (v := (nI 1)) hx hb dX4_init_47 (by decide) ?_
    refine lv_iand hx hb dX4_init_48 ?_
    refine lv_iconst (v := (nI 1)) hx hb dX4_init_49 (by decide) ?_
    refine lv_icmp_ne (tgt := 57) hx hb dX4_init_50 (by decide) (fun c_17 => ?_) (fun c_17 => ?_)
    · refine lv_iconst (v := (nI 0)) hx hb dX4_init_57 (by decide) ?_
      refine pl_putF (D := D) (ci := 5) (v := .int (nI 0)) (ty := .boolean) (C := RX4) (T := TX4) (N := 7) hx hb hts (by decide +kernel) tyX4 tyX4_ok nmX4 hown hK.1 hP hD hS hh0 F_h0_16 rfl 5 (by decide) (hts (.fieldLink RX4 27 "ChooseTreeModel$Met" "isFinal" "Z") (by decide +kernel)) (fun _ h9 => h9) rfl hin rfl (by decide +kernel) rfl rfl (Nat.le_of_ble_eq_true rfl) dX4_init_58 (fun H locs hP hS => ?_)
      replace hP : va_P D vwCl (va_pl L (va_up f16 h0 (.inr (5, [.int zi, .int znm, .int zsi, .ref zow, .int (nI 1), .int (nI 0), .int 0])))) H := hP
      obtain ⟨f18, hf18⟩ : ∃ z, z = va_up f16 h0 (.inr (5, [.int zi, .int znm, .int zsi, .ref zow, .int (nI 1), .int (nI 0), .int 0])) := ⟨_, rfl⟩
      rw [← hf18] at hP
      have F_h0_18 : f18 h0 = .inr (5, [.int zi, .int znm, .int zsi, .ref zow, .int (nI 1), .int (nI 0), .int 0]) := by rw [hf18]; exact va_up_self _ _ _
      have hD : va_D (mA L sz) (va_pl L f18) := hE.D
      refine lv_aload_n hx hb dX4_init_61 rfl (lv_at hl 0 rfl) ?_
      refine lv_iload hx hb dX4_init_62 (lv_at hl 5 rfl) ?_
      refine lv_iconst (v := (nI 2)) hx hb dX4_init_64 (by decide) ?_
      refine lv_ishr hx hb dX4_init_65 ?_
      refine lv_iconst (v := (nI 1)) hx hb dX4_init_66 (by decide) ?_
      refine lv_iand hx hb dX4_init_67 ?_
      refine lv_iconst (v := (nI 1)) hx hb dX4_init_68 (by decide) ?_
      refine lv_icmp_ne (tgt := 76) hx hb dX4_init_69 (by decide) (fun c_19 => ?_) (fun c_19 => ?_)
      · refine lv_iconst (v := (nI 0)) hx hb dX4_init_76 (by decide) ?_
        refine pl_putF (D := D) (ci := 5) (v := .int (nI 0)) (ty := .boolean) (C := RX4) (T := TX4) (N := 7) hx hb hts (by decide +kernel) tyX4 tyX4_ok nmX4 hown hK.1 hP hD hS hh0 F_h0_18 rfl 6 (by decide) (hts (.fieldLink RX4 30 "ChooseTreeModel$Met" "isAbstract" "Z") (by decide +kernel)) (fun _ h9 => h9) rfl hin rfl (by decide +kernel) rfl rfl (Nat.le_of_ble_eq_true rfl) dX4_init_77 (fun H locs hP hS => ?_)
        replace hP : va_P D vwCl (va_pl L (va_up f18 h0 (.inr (5, [.int zi, .int znm, .int zsi, .ref zow, .int (nI 1), .int (nI 0), .int (nI 0)])))) H := hP
        obtain ⟨f20, hf20⟩ : ∃ z, z = va_up f18 h0 (.inr (5, [.int zi, .int znm, .int zsi, .ref zow, .int (nI 1), .int (nI 0), .int (nI 0)])) := ⟨_, rfl⟩
        rw [← hf20] at hP
        have F_h0_20 : f20 h0 = .inr (5, [.int zi, .int znm, .int zsi, .ref zow, .int (nI 1), .int (nI 0), .int (nI 0)]) := by rw [hf20]; exact va_up_self _ _ _
        have hD : va_D (mA L sz) (va_pl L f20) := hE.D
        refine W.widen (k := 0) (n := 0) (by first | exact Nat.le_refl _ | omega) (by first | exact Nat.le_refl _ | omega) ?_
        exact W.vret hx hb hr (fun t ht hW => ⟨⟨(L, f20), rfl, ⟨(by rw [hf20, hf18, hf16, hf4, hf3, hf2, hf1]; simp [bx_uu, c_5, c_17, c_19]), hE⟩, show va_P D vwCl (va_pl _ _) t.heap from (by rw [ht]; exact hP)⟩, hS.F ht⟩) hS.2.2 dX4_init_80
      · refine lv_iconst (v := (nI 1)) hx hb dX4_init_72 (by decide) ?_
        refine lv_goto (tgt := 77) hx hb dX4_init_73 (by decide) ?_
        refine pl_putF (D := D) (ci := 5) (v := .int (nI 1)) (ty := .boolean) (C := RX4) (T := TX4) (N := 7) hx hb hts (by decide +kernel) tyX4 tyX4_ok nmX4 hown hK.1 hP hD hS hh0 F_h0_18 rfl 6 (by decide) (hts (.fieldLink RX4 30 "ChooseTreeModel$Met" "isAbstract" "Z") (by decide +kernel)) (fun _ h9 => h9) rfl hin rfl (by decide +kernel) rfl rfl (Nat.le_of_ble_eq_true rfl) dX4_init_77 (fun H locs hP hS => ?_)
        replace hP : va_P D vwCl (va_pl L (va_up f18 h0 (.inr (5, [.int zi, .int znm, .int zsi, .ref zow, .int (nI 1), .int (nI 0), .int (nI 1)])))) H := hP
        obtain ⟨f21, hf21⟩ : ∃ z, z = va_up f18 h0 (.inr (5, [.int zi, .int znm, .int zsi, .ref zow, .int (nI 1), .int (nI 0), .int (nI 1)])) := ⟨_, rfl⟩
        rw [← hf21] at hP
        have F_h0_21 : f21 h0 = .inr (5, [.int zi, .int znm, .int zsi, .ref zow, .int (nI 1), .int (nI 0), .int (nI 1)]) := by rw [hf21]; exact va_up_self _ _ _
        have hD : va_D (mA L sz) (va_pl L f21) := hE.D
        refine W.widen (k := 0) (n := 0) (by first | exact Nat.le_refl _ | omega) (by first | exact Nat.le_refl _ | omega) ?_
        exact W.vret hx hb hr (fun t ht hW => ⟨⟨(L, f21), rfl, ⟨(by rw [hf21, hf18, hf16, hf4, hf3, hf2, hf1]; simp [bx_uu, c_5, c_17, c_19]), hE⟩, show va_P D vwCl (va_pl _ _) t.heap from (by rw [ht]; exact hP)⟩, hS.F ht⟩) hS.2.2 dX4_init_80
    · refine lv_iconst (v := (nI 1)) hx hb dX4_init_53 (by decide) ?_
      refine lv_goto (tgt := 58) hx hb dX4_init_54 (by decide) ?_
      refine pl_putF (D := D) (ci := 5) (v := .int (nI 1)) (ty := .boolean) (C := RX4) (T := TX4) (N := 7) hx hb hts (by decide +kernel) tyX4 tyX4_ok nmX4 hown hK.1 hP hD hS hh0 F_h0_16 rfl 5 (by decide) (hts (.fieldLink RX4 27 "ChooseTreeModel$Met" "isFinal" "Z") (by decide +kernel)) (fun _ h9 => h9) rfl hin rfl (by decide +kernel) rfl rfl (Nat.le_of_ble_eq_true rfl) dX4_init_58 (fun H locs hP hS => ?_)
      replace hP : va_P D vwCl (va_pl L (va_up f16 h0 (.inr (5, [.int zi, .int znm, .int zsi, .ref zow, .int (nI 1), .int (nI 1), .int 0])))) H := hP
      obtain ⟨f22, hf22⟩ : ∃ z, z = va_up f16 h0 (.inr (5, [.int zi, .int znm, .int zsi, .ref zow, .int (nI 1), .int (nI 1), .int 0])) := ⟨_, rfl⟩
      rw [← hf22] at hP
      have F_h0_22 : f22 h0 = .inr (5, [.int zi, .int znm, .int zsi, .ref zow, .int (nI 1), .int (nI 1), .int 0]) := by rw [hf22]; exact va_up_self _ _ _
      have hD : va_D (mA L sz) (va_pl L f22) := hE.D
      refine lv_aload_n hx hb dX4_init_61 rfl (lv_at hl 0 rfl) ?_
      refine lv_iload hx hb dX4_init_62 (lv_at hl 5 rfl) ?_
      refine lv_iconst (v := (nI 2)) hx hb dX4_init_64 (by decide) ?_
      refine lv_ishr hx hb dX4_init_65 ?_
      refine lv_iconst (v := (nI 1)) hx hb dX4_init_66 (by decide) ?_
      refine lv_iand hx hb dX4_init_67 ?_
      refine lv_iconst (v := (nI 1)) hx hb dX4_init_68 (by decide) ?_
      refine lv_icmp_ne (tgt := 76) hx hb dX4_init_69 (by decide) (fun c_23 => ?_) (fun c_23 => ?_)
      · refine lv_iconst (v := (nI 0)) hx hb dX4_init_76 (by decide) ?_
        refine pl_putF (D := D) (ci := 5) (v := .int (nI 0)) (ty := .boolean) (C := RX4) (T := TX4) (N := 7) hx hb hts (by decide +kernel) tyX4 tyX4_ok nmX4 hown hK.1 hP hD hS hh0 F_h0_22 rfl 6 (by decide) (hts (.fieldLink RX4 30 "ChooseTreeModel$Met" "isAbstract" "Z") (by decide +kernel)) (fun _ h9 => h9) rfl hin rfl (by decide +kernel) rfl rfl (Nat.le_of_ble_eq_true rfl) dX4_init_77 (fun H locs hP hS => ?_)
        replace hP : va_P D vwCl (va_pl L (va_up f22 h0 (.inr (5, [.int zi, .int znm, .int zsi, .ref zow, .int (nI 1), .int (nI 1), .int (nI 0)])))) H := hP
        obtain ⟨f24, hf24⟩ : ∃ z, z = va_up f22 h0 (.inr (5, [.int zi, .int znm, .int zsi, .ref zow, .int (nI 1), .int (nI 1), .int (nI 0)])) := ⟨_, rfl⟩
        rw [← hf24] at hP
        have F_h0_24 : f24 h0 = .inr (5, [.int zi, .int znm, .int zsi, .ref zow, .int (nI 1), .int (nI 1), .int (nI 0)]) := by rw [hf24]; exact va_up_self _ _ _
        have hD : va_D (mA L sz) (va_pl L f24) := hE.D
        refine W.widen (k := 0) (n := 0) (by first | exact Nat.le_refl _ | omega) (by first | exact Nat.le_refl _ | omega) ?_
        exact W.vret hx hb hr (fun t ht hW => ⟨⟨(L, f24), rfl, ⟨(by rw [hf24, hf22, hf16, hf4, hf3, hf2, hf1]; simp [bx_uu, c_5, c_17, c_23]), hE⟩, show va_P D vwCl (va_pl _ _) t.heap from (by rw [ht]; exact hP)⟩, hS.F ht⟩) hS.2.2 dX4_init_80
      · refine lv_iconst (v := (nI 1)) hx hb dX4_init_72 (by decide) ?_
        refine lv_goto (tgt := 77) hx hb dX4_init_73 (by decide) ?_
        refine pl_putF (D := D) (ci := 5) (v := .int (nI 1)) (ty := .boolean) (C := RX4) (T := TX4) (N := 7) hx hb hts (by decide +kernel) tyX4 tyX4_ok nmX4 hown hK.1 hP hD hS hh0 F_h0_22 rfl 6 (by decide) (hts (.fieldLink RX4 30 "ChooseTreeModel$Met" "isAbstract" "Z") (by decide +kernel)) (fun _ h9 => h9) rfl hin rfl (by decide +kernel) rfl rfl (Nat.le_of_ble_eq_true rfl) dX4_init_77 (fun H locs hP hS => ?_)
        replace hP : va_P D vwCl (va_pl L (va_up f22 h0 (.inr (5, [.int zi, .int znm, .int zsi, .ref zow, .int (nI 1), .int (nI 1), .int (nI 1)])))) H := hP
        obtain ⟨f25, hf25⟩ : ∃ z, z = va_up f22 h0 (.inr (5, [.int zi, .int znm, .int zsi, .ref zow, .int (nI 1), .int (nI 1), .int (nI 1)])) := ⟨_, rfl⟩
        rw [← hf25] at hP
        have F_h0_25 : f25 h0 = .inr (5, [.int zi, .int znm, .int zsi, .ref zow, .int (nI 1), .int (nI 1), .int (nI 1)]) := by rw [hf25]; exact va_up_self _ _ _
        have hD : va_D (mA L sz) (va_pl L f25) := hE.D
        refine W.widen (k := 0) (n := 0) (by first | exact Nat.le_refl _ | omega) (by first | exact Nat.le_refl _ | omega) ?_
        exact W.vret hx hb hr (fun t ht hW => ⟨⟨(L, f25), rfl, ⟨(by rw [hf25, hf22, hf16, hf4, hf3, hf2, hf1]; simp [bx_uu, c_5, c_17, c_23]), hE⟩, show va_P D vwCl (va_pl _ _) t.heap from (by rw [ht]; exact hP)⟩, hS.F ht⟩) hS.2.2 dX4_init_80
set_option maxHeartbeats 4000000 in
set_option maxRecDepth 100000 in
theorem c_X3_init0 (l : Launch) (D : va_G) (cO : ClassId) (mi e0 : Nat) (L : List Nat) (f : Nat → va_E) (sz : Nat) (hnd : L.Nodup) (h0 : Nat) (hh0 : h0 ∈ L) (zi : Int32)  (zpk : Int32) (zb : Bool) (hf : f h0 = .inr (4, [.int 0, .int 0, .null, .int 0, .null, .null, .null, .int 0, .int 0])) : Met l yX3_init wsX3_init { frames := 4, cells := 3, slots := 9, locals := 72 } (mW D cO mi e0 L f sz [.ref h0, .int zi, .null, .int zpk, .int (bI zb)]) (wQv D L sz (fun u => ∃ l1 l2 l3 : Nat, u.1 = L ++ [l1] ++ [l2] ++ [l3] ∧ (l1 ∉ L ∧ l2 ∉ L ++ [l1] ∧ l3 ∉ L ++ [l1] ++ [l2]) ∧ (sz ≤ l1 ∧ sz ≤ l2 ∧ sz ≤ l3) ∧ u.2 h0 = .inr (4, [.int zi, .int zpk, .null, .int (bI zb), .ref l1, .ref l2, .ref l3, .int (-1), .int 0]) ∧ u.2 l1 = alc (nI 0) e0 0 ∧ u.2 l2 = alc (nI 0) e0 0 ∧ u.2 l3 = alc (nI 0) e0 0 ∧ ∀ y, y ∈ L → y ≠ h0 → u.2 y = f y)) 3 9 (mA L sz) := by
  refine Met.ofW (cc := cX3_init) (maxL := 5) (ret := none) (by decide) rfl ?_
  intro p e s m args below meth cq s₁ B hml hv
  obtain ⟨rfl, hsz, hP, hK, hJ⟩ := hv
  have hx := B.exec
  have hb := B.bytes
  have hr := B.returns
  have hts := atoms_spec (ws := wsX3_init) B.pre
  have hown : s.vm.findClass RX3 = some m.cls := findClass_of_methodNamed B.named
  have hlocks := B.notSynchronized
  have hin := (name_of_methodNamed B.named B.method).1
  clear B
  have hl := lv_entry ([.ref h0, .int zi, .null, .int zpk, .int (bI zb)]) (n := 5) (Nat.le_of_ble_eq_true rfl)
  rw [lg_entry_eq]
  generalize (lg_sl ([.ref h0, .int zi, .null, .int zpk, .int (bI zb)]) ++ List.replicate (5 - (lg_sl ([.ref h0, .int zi, .null, .int zpk, .int (bI zb)])).length) Slot.unset).toArray = ls at hl ⊢
  replace hl : lv_has ls 5 [(0, .ref h0), (1, .int zi), (2, .null), (3, .int zpk), (4, .int (bI zb))] := hl
  have hA : ∀ q : Nat, s.heap.size ≤ q → mA L sz q := fun q h => Or.inr (by omega)
  have hE : pext L sz L := pext.rf hnd
  have hD : va_D (mA L sz) (va_pl L f) := hE.D
  refine gen_start (A := mA L sz) (fun H locs hP hS => ?_) hP
  refine lv_aload_n hx hb dX3_init_0 rfl (lv_at hl 0 rfl) ?_
  refine W.objInit hx hb hown (hts (.methodLink RX3 1 objectInit) (by decide +kernel)) (hts (.instanceMethod objectInit) (by decide +kernel)) (hts _ (List.mem_of_getElem? (i := 3) rfl)) rfl (by rw [hml]; exact hl.1) rfl dX3_init_1 (Nat.le_of_ble_eq_true rfl) (Nat.le_of_ble_eq_true rfl) ?_
  refine W.eq (g2 := F0 m 4 ls []) rfl ?_
  refine lv_aload_n hx hb dX3_init_4 rfl (lv_at hl 0 rfl) ?_
  refine pl_new (D := D) (ci := 0) (fs := [.int 0, .null, .int 0]) (C := RJx4a65c) (T := TJx4a65c) (N := 3) hx hb hts (by decide +kernel) tyJx4a65c tyJx4a65c_ok hown (hts (.classLink RX3 7 RJx4a65c) (by decide +kernel)) (hts (.instantiable RJx4a65c 3) (by decide +kernel)) (hts (.initialized RJx4a65c) (by decide +kernel)) hK.1 hP hD hS hA rfl (by decide) (Nat.le_of_ble_eq_true rfl) (Nat.le_of_ble_eq_true rfl) dX3_init_5 (fun q5 H hq hAq hP hS => ?_)
  have hqs : sz ≤ q5 := hAq.resolve_left (fun z => hq (hE.mem z))
  obtain ⟨f1, hf1⟩ : ∃ z, z = va_up f q5 (.inr (0, [.int 0, .null, .int 0])) := ⟨_, rfl⟩
  rw [← hf1] at hP
  have F_h0_1 : f1 h0 = .inr (4, [.int 0, .int 0, .null, .int 0, .null, .null, .null, .int 0, .int 0]) := by rw [hf1, va_up_ne _ _ (show h0 ≠ q5 from fun e9 => hq (e9 ▸ hh0))]; exact hf
  have M_h0_1 := List.mem_append_left [q5] hh0
  have F_q5_1 : f1 q5 = .inr (0, [.int 0, .null, .int 0]) := by rw [hf1]; exact va_up_self _ _ _
  have M_q5_1 : q5 ∈ L ++ [q5] := List.mem_append_right _ (List.mem_singleton.mpr rfl)
  replace hE : pext L sz (L ++ [q5]) := hE.tr (Nat.le_refl _) (pext.one hE.nd hq hqs)
  have hD : va_D (mA L sz) (va_pl (L ++ [q5]) f1) := hE.D
  have hqq5 := hq
  have hqsq5 := hqs
  clear hq hqs hAq
  refine lv_dup hx hb dX3_init_8 rfl ?_
  have hszH : sz ≤ H.size := by have := hS.1; omega
  have hPold := hP
  refine va_callv (va_runI (As := []) (rest := [.ref q5, .ref h0]) ⟨hx, hb, hml, hown, hts⟩ (c_Jx4a65c_init_da8c8 l D cO mi e0 (L ++ [q5]) f1 H.size hE.nd q5 M_q5_1 F_q5_1) (cwI 0 hts gX3_init_Jx4a65c_init_da8c8 rfl rfl rfl (hts (.initialized RJx4a65c) (by decide +kernel)) (hts (.methodLink RX3 9 yJx4a65c_init_da8c8) (by decide +kernel)) (hts (.instanceMethod yJx4a65c_init_da8c8) (by decide +kernel)) rfl (by decide +kernel) ⟨Nat.le_of_ble_eq_true rfl, Nat.le_of_ble_eq_true rfl⟩) (mW_S hK hJ hS (hE.sub (by have := hS.1; omega)) hP) rfl rfl hl.1 rfl (lv_room (Nat.le_of_ble_eq_true rfl)) dX3_init_9 ⟨Nat.le_of_ble_eq_true rfl, Nat.le_of_ble_eq_true rfl⟩) hS (fun q _ h => (hE.sub (by have := hS.1; omega)) q h) (hE.sub (by have := hS.1; omega)) (fun u t H1 locs ht hvm hw hB hz1 hk1 hS => ?_)
  obtain ⟨L2, f2⟩ := u
  obtain ⟨hw, hE1⟩ := hw
  replace hB : va_P D vwCl (va_pl L2 f2) t.heap := hB
  rw [ht] at hB
  replace hE : pext L sz L2 := hE.tr (hszH) hE1
  obtain ⟨hL1, hf2⟩ := Prod.mk.inj hw
  replace hL1 : L2 = (L ++ [q5]) := hL1
  subst hL1
  have F_h0_f2 : f2 h0 = .inr (4, [.int 0, .int 0, .null, .int 0, .null, .null, .null, .int 0, .int 0]) := by rw [hf2, va_up_ne _ _ (show h0 ≠ q5 from cell_ne F_h0_1 F_q5_1 (by intro e8; first | (cases e8; done) | (simp at e8; done)))]; exact F_h0_1
  have F_q5_f2 : f2 q5 = alc (nI 0) e0 0 := by rw [hf2]; exact va_up_self _ _ _
  clear hPold hP hk1 hz1 hvm ht hszH hE1
  have hP := hB
  clear hB
  generalize H1 = H at hP hS ⊢
  have hD : va_D (mA L sz) (va_pl (L ++ [q5]) f2) := hE.D
  refine pl_putF (D := D) (ci := 4) (v := .ref q5) (ty := .object "java/util/ArrayList") (C := RX3) (T := TX3) (N := 9) hx hb hts (by decide +kernel) tyX3 tyX3_ok nmX3 hown hK.1 hP hD hS M_h0_1 F_h0_f2 rfl 4 (by decide) (hts (.fieldLink RX3 10 "ChooseTreeModel$Cls" "faces" "Ljava/util/ArrayList;") (by decide +kernel)) (fun _ h9 => h9) rfl hin rfl (by decide +kernel) rfl rfl (Nat.le_of_ble_eq_true rfl) dX3_init_12 (fun H locs hP hS => ?_)
  replace hP : va_P D vwCl (va_pl (L ++ [q5]) (va_up f2 h0 (.inr (4, [.int 0, .int 0, .null, .int 0, .ref q5, .null, .null, .int 0, .int 0])))) H := hP
  obtain ⟨f3, hf3⟩ : ∃ z, z = va_up f2 h0 (.inr (4, [.int 0, .int 0, .null, .int 0, .ref q5, .null, .null, .int 0, .int 0])) := ⟨_, rfl⟩
  rw [← hf3] at hP
  have F_q5_3 : f3 q5 = .inr (0, [.int (nI 0), .ref e0, .int (nI 0)]) := by rw [hf3, va_up_ne _ _ (show q5 ≠ h0 from (cell_ne F_q5_f2 F_h0_f2 (by intro e8; first | (cases e8; done) | (simp at e8; done))))]; exact F_q5_f2
  have F_h0_3 : f3 h0 = .inr (4, [.int 0, .int 0, .null, .int 0, .ref q5, .null, .null, .int 0, .int 0]) := by rw [hf3]; exact va_up_self _ _ _
  have hD : va_D (mA L sz) (va_pl (L ++ [q5]) f3) := hE.D
  refine lv_aload_n hx hb dX3_init_15 rfl (lv_at hl 0 rfl) ?_
  refine pl_new (D := D) (ci := 0) (fs := [.int 0, .null, .int 0]) (C := RJx4a65c) (T := TJx4a65c) (N := 3) hx hb hts (by decide +kernel) tyJx4a65c tyJx4a65c_ok hown (hts (.classLink RX3 7 RJx4a65c) (by decide +kernel)) (hts (.instantiable RJx4a65c 3) (by decide +kernel)) (hts (.initialized RJx4a65c) (by decide +kernel)) hK.1 hP hD hS hA rfl (by decide) (Nat.le_of_ble_eq_true rfl) (Nat.le_of_ble_eq_true rfl) dX3_init_16 (fun q16 H hq hAq hP hS => ?_)
  have hqs : sz ≤ q16 := hAq.resolve_left (fun z => hq (hE.mem z))
  obtain ⟨f4, hf4⟩ : ∃ z, z = va_up f3 q16 (.inr (0, [.int 0, .null, .int 0])) := ⟨_, rfl⟩
  rw [← hf4] at hP
  have F_h0_4 : f4 h0 = .inr (4, [.int 0, .int 0, .null, .int 0, .ref q5, .null, .null, .int 0, .int 0]) := by rw [hf4, va_up_ne _ _ (show h0 ≠ q16 from fun e9 => hq (e9 ▸ M_h0_1))]; exact F_h0_3
  have M_h0_4 := List.mem_append_left [q16] M_h0_1
  have F_q5_4 : f4 q5 = .inr (0, [.int (nI 0), .ref e0, .int (nI 0)]) := by rw [hf4, va_up_ne _ _ (show q5 ≠ q16 from fun e9 => hq (e9 ▸ M_q5_1))]; exact F_q5_3
  have M_q5_4 := List.mem_append_left [q16] M_q5_1
  have F_q16_4 : f4 q16 = .inr (0, [.int 0, .null, .int 0]) := by rw [hf4]; exact va_up_self _ _ _
  have M_q16_4 : q16 ∈ (L ++ [q5]) ++ [q16] := List.mem_append_right _ (List.mem_singleton.mpr rfl)
  replace hE : pext L sz ((L ++ [q5]) ++ [q16]) := hE.tr (Nat.le_refl _) (pext.one hE.nd hq hqs)
  have hD : va_D (mA L sz) (va_pl ((L ++ [q5]) ++ [q16]) f4) := hE.D
  have hqq16 := hq
  have hqsq16 := hqs
  clear hq hqs hAq
  refine lv_dup hx hb dX3_init_19 rfl ?_
  have hszH : sz ≤ H.size := by have := hS.1; omega
  have hPold := hP
  refine va_callv (va_runI (As := []) (rest := [.ref q16, .ref h0]) ⟨hx, hb, hml, hown, hts⟩ (c_Jx4a65c_init_da8c8 l D cO mi e0 ((L ++ [q5]) ++ [q16]) f4 H.size hE.nd q16 M_q16_4 F_q16_4) (cwI 0 hts gX3_init_Jx4a65c_init_da8c8 rfl rfl rfl (hts (.initialized RJx4a65c) (by decide +kernel)) (hts (.methodLink RX3 9 yJx4a65c_init_da8c8) (by decide +kernel)) (hts (.instanceMethod yJx4a65c_init_da8c8) (by decide +kernel)) rfl (by decide +kernel) ⟨Nat.le_of_ble_eq_true rfl, Nat.le_of_ble_eq_true rfl⟩) (mW_S hK hJ hS (hE.sub (by have := hS.1; omega)) hP) rfl rfl hl.1 rfl (lv_room (Nat.le_of_ble_eq_true rfl)) dX3_init_20 ⟨Nat.le_of_ble_eq_true rfl, Nat.le_of_ble_eq_true rfl⟩) hS (fun q _ h => (hE.sub (by have := hS.1; omega)) q h) (hE.sub (by have := hS.1; omega)) (fun u t H1 locs ht hvm hw hB hz1 hk1 hS => ?_)
  obtain ⟨L5, f5⟩ := u
  obtain ⟨hw, hE1⟩ := hw
  replace hB : va_P D vwCl (va_pl L5 f5) t.heap := hB
  rw [ht] at hB
  replace hE : pext L sz L5 := hE.tr (hszH) hE1
  obtain ⟨hL1, hf5⟩ := Prod.mk.inj hw
  replace hL1 : L5 = ((L ++ [q5]) ++ [q16]) := hL1
  subst hL1
  have F_h0_f5 : f5 h0 = .inr (4, [.int 0, .int 0, .null, .int 0, .ref q5, .null, .null, .int 0, .int 0]) := by rw [hf5, va_up_ne _ _ (show h0 ≠ q16 from cell_ne F_h0_4 F_q16_4 (by intro e8; first | (cases e8; done) | (simp at e8; done)))]; exact F_h0_4
  have F_q5_f5 : f5 q5 = .inr (0, [.int (nI 0), .ref e0, .int (nI 0)]) := by rw [hf5, va_up_ne _ _ (show q5 ≠ q16 from cell_ne F_q5_4 F_q16_4 (by intro e8; first | (cases e8; done) | (simp at e8; done)))]; exact F_q5_4
  have F_q16_f5 : f5 q16 = alc (nI 0) e0 0 := by rw [hf5]; exact va_up_self _ _ _
  clear hPold hP hk1 hz1 hvm ht hszH hE1
  have hP := hB
  clear hB
  generalize H1 = H at hP hS ⊢
  have hD : va_D (mA L sz) (va_pl ((L ++ [q5]) ++ [q16]) f5) := hE.D
  refine pl_putF (D := D) (ci := 4) (v := .ref q16) (ty := .object "java/util/ArrayList") (C := RX3) (T := TX3) (N := 9) hx hb hts (by decide +kernel) tyX3 tyX3_ok nmX3 hown hK.1 hP hD hS M_h0_4 F_h0_f5 rfl 5 (by decide) (hts (.fieldLink RX3 16 "ChooseTreeModel$Cls" "methods" "Ljava/util/ArrayList;") (by decide +kernel)) (fun _ h9 => h9) rfl hin rfl (by decide +kernel) rfl rfl (Nat.le_of_ble_eq_true rfl) dX3_init_23 (fun H locs hP hS => ?_)
  replace hP : va_P D vwCl (va_pl ((L ++ [q5]) ++ [q16]) (va_up f5 h0 (.inr (4, [.int 0, .int 0, .null, .int 0, .ref q5, .ref q16, .null, .int 0, .int 0])))) H := hP
  obtain ⟨f6, hf6⟩ : ∃ z, z = va_up f5 h0 (.inr (4, [.int 0, .int 0, .null, .int 0, .ref q5, .ref q16, .null, .int 0, .int 0])) := ⟨_, rfl⟩
  rw [← hf6] at hP
  have F_q5_6 : f6 q5 = .inr (0, [.int (nI 0), .ref e0, .int (nI 0)]) := by rw [hf6, va_up_ne _ _ (show q5 ≠ h0 from (cell_ne F_q5_f5 F_h0_f5 (by intro e8; first | (cases e8; done) | (simp at e8; done))))]; exact F_q5_f5
  have F_q16_6 : f6 q16 = .inr (0, [.int (nI 0), .ref e0, .int (nI 0)]) := by rw [hf6, va_up_ne _ _ (show q16 ≠ h0 from (cell_ne F_q16_f5 F_h0_f5 (by intro e8; first | (cases e8; done) | (simp at e8; done))))]; exact F_q16_f5
  have F_h0_6 : f6 h0 = .inr (4, [.int 0, .int 0, .null, .int 0, .ref q5, .ref q16, .null, .int 0, .int 0]) := by rw [hf6]; exact va_up_self _ _ _
  have hD : va_D (mA L sz) (va_pl ((L ++ [q5]) ++ [q16]) f6) := hE.D
  refine lv_aload_n hx hb dX3_init_26 rfl (lv_at hl 0 rfl) ?_
  refine pl_new (D := D) (ci := 0) (fs := [.int 0, .null, .int 0]) (C := RJx4a65c) (T := TJx4a65c) (N := 3) hx hb hts (by decide +kernel) tyJx4a65c tyJx4a65c_ok hown (hts (.classLink RX3 7 RJx4a65c) (by decide +kernel)) (hts (.instantiable RJx4a65c 3) (by decide +kernel)) (hts (.initialized RJx4a65c) (by decide +kernel)) hK.1 hP hD hS hA rfl (by decide) (Nat.le_of_ble_eq_true rfl) (Nat.le_of_ble_eq_true rfl) dX3_init_27 (fun q27 H hq hAq hP hS => ?_)
  have hqs : sz ≤ q27 := hAq.resolve_left (fun z => hq (hE.mem z))
  obtain ⟨f7, hf7⟩ : ∃ z, z = va_up f6 q27 (.inr (0, [.int 0, .null, .int 0])) := ⟨_, rfl⟩
  rw [← hf7] at hP
  have F_h0_7 : f7 h0 = .inr (4, [.int 0, .int 0, .null, .int 0, .ref q5, .ref q16, .null, .int 0, .int 0]) := by rw [hf7, va_up_ne _ _ (show h0 ≠ q27 from fun e9 => hq (e9 ▸ M_h0_4))]; exact F_h0_6
  have M_h0_7 := List.mem_append_left [q27] M_h0_4
  have F_q5_7 : f7 q5 = .inr (0, [.int (nI 0), .ref e0, .int (nI 0)]) := by rw [hf7, va_up_ne _ _ (show q5 ≠ q27 from fun e9 => hq (e9 ▸ M_q5_4))]; exact F_q5_6
  have M_q5_7 := List.mem_append_left [q27] M_q5_4
  have F_q16_7 : f7 q16 = .inr (0, [.int (nI 0), .ref e0, .int (nI 0)]) := by rw [hf7, va_up_ne _ _ (show q16 ≠ q27 from fun e9 => hq (e9 ▸ M_q16_4))]; exact F_q16_6
  have M_q16_7 := List.mem_append_left [q27] M_q16_4
  have F_q27_7 : f7 q27 = .inr (0, [.int 0, .null, .int 0]) := by rw [hf7]; exact va_up_self _ _ _
  have M_q27_7 : q27 ∈ ((L ++ [q5]) ++ [q16]) ++ [q27] := List.mem_append_right _ (List.mem_singleton.mpr rfl)
  replace hE : pext L sz (((L ++ [q5]) ++ [q16]) ++ [q27]) := hE.tr (Nat.le_refl _) (pext.one hE.nd hq hqs)
  have hD : va_D (mA L sz) (va_pl (((L ++ [q5]) ++ [q16]) ++ [q27]) f7) := hE.D
  have hqq27 := hq
  have hqsq27 := hqs
  clear hq hqs hAq
  refine lv_dup hx hb dX3_init_30 rfl ?_
  have hszH : sz ≤ H.size := by have := hS.1; omega
  have hPold := hP
  refine va_callv (va_runI (As := []) (rest := [.ref q27, .ref h0]) ⟨hx, hb, hml, hown, hts⟩ (c_Jx4a65c_init_da8c8 l D cO mi e0 (((L ++ [q5]) ++ [q16]) ++ [q27]) f7 H.size hE.nd q27 M_q27_7 F_q27_7) (cwI 0 hts gX3_init_Jx4a65c_init_da8c8 rfl rfl rfl (hts (.initialized RJx4a65c) (by decide +kernel)) (hts (.methodLink RX3 9 yJx4a65c_init_da8c8) (by decide +kernel)) (hts (.instanceMethod yJx4a65c_init_da8c8) (by decide +kernel)) rfl (by decide +kernel) ⟨Nat.le_of_ble_eq_true rfl, Nat.le_of_ble_eq_true rfl⟩) (mW_S hK hJ hS (hE.sub (by have := hS.1; omega)) hP) rfl rfl hl.1 rfl (lv_room (Nat.le_of_ble_eq_true rfl)) dX3_init_31 ⟨Nat.le_of_ble_eq_true rfl, Nat.le_of_ble_eq_true rfl⟩) hS (fun q _ h => (hE.sub (by have := hS.1; omega)) q h) (hE.sub (by have := hS.1; omega)) (fun u t H1 locs ht hvm hw hB hz1 hk1 hS => ?_)
  obtain ⟨L8, f8⟩ := u
  obtain ⟨hw, hE1⟩ := hw
  replace hB : va_P D vwCl (va_pl L8 f8) t.heap := hB
  rw [ht] at hB
  replace hE : pext L sz L8 := hE.tr (hszH) hE1
  obtain ⟨hL1, hf8⟩ := Prod.mk.inj hw
  replace hL1 : L8 = (((L ++ [q5]) ++ [q16]) ++ [q27]) := hL1
  subst hL1
  have F_h0_f8 : f8 h0 = .inr (4, [.int 0, .int 0, .null, .int 0, .ref q5, .ref q16, .null, .int 0, .int 0]) := by rw [hf8, va_up_ne _ _ (show h0 ≠ q27 from cell_ne F_h0_7 F_q27_7 (by intro e8; first | (cases e8; done) | (simp at e8; done)))]; exact F_h0_7
  have F_q5_f8 : f8 q5 = .inr (0, [.int (nI 0), .ref e0, .int (nI 0)]) := by rw [hf8, va_up_ne _ _ (show q5 ≠ q27 from cell_ne F_q5_7 F_q27_7 (by intro e8; first | (cases e8; done) | (simp at e8; done)))]; exact F_q5_7
  have F_q16_f8 : f8 q16 = .inr (0, [.int (nI 0), .ref e0, .int (nI 0)]) := by rw [hf8, va_up_ne _ _ (show q16 ≠ q27 from cell_ne F_q16_7 F_q27_7 (by intro e8; first | (cases e8; done) | (simp at e8; done)))]; exact F_q16_7
  have F_q27_f8 : f8 q27 = alc (nI 0) e0 0 := by rw [hf8]; exact va_up_self _ _ _
  clear hPold hP hk1 hz1 hvm ht hszH hE1
  have hP := hB
  clear hB
  generalize H1 = H at hP hS ⊢
  have hD : va_D (mA L sz) (va_pl (((L ++ [q5]) ++ [q16]) ++ [q27]) f8) := hE.D
  refine pl_putF (D := D) (ci := 4) (v := .ref q27) (ty := .object "java/util/ArrayList") (C := RX3) (T := TX3) (N := 9) hx hb hts (by decide +kernel) tyX3 tyX3_ok nmX3 hown hK.1 hP hD hS M_h0_7 F_h0_f8 rfl 6 (by decide) (hts (.fieldLink RX3 19 "ChooseTreeModel$Cls" "all" "Ljava/util/ArrayList;") (by decide +kernel)) (fun _ h9 => h9) rfl hin rfl (by decide +kernel) rfl rfl (Nat.le_of_ble_eq_true rfl) dX3_init_34 (fun H locs hP hS => ?_)
  replace hP : va_P D vwCl (va_pl (((L ++ [q5]) ++ [q16]) ++ [q27]) (va_up f8 h0 (.inr (4, [.int 0, .int 0, .null, .int 0, .ref q5, .ref q16, .ref q27, .int 0, .int 0])))) H := hP
  obtain ⟨f9, hf9⟩ : ∃ z, z = va_up f8 h0 (.inr (4, [.int 0, .int 0, .null, .int 0, .ref q5, .ref q16, .ref q27, .int 0, .int 0])) := ⟨_, rfl⟩
  rw [← hf9] at hP
  have F_q5_9 : f9 q5 = .inr (0, [.int (nI 0), .ref e0, .int (nI 0)]) := by rw [hf9, va_up_ne _ _ (show q5 ≠ h0 from (cell_ne F_q5_f8 F_h0_f8 (by intro e8; first | (cases e8; done) | (simp at e8; done))))]; exact F_q5_f8
  have F_q16_9 : f9 q16 = .inr (0, [.int (nI 0), .ref e0, .int (nI 0)]) := by rw [hf9, va_up_ne _ _ (show q16 ≠ h0 from (cell_ne F_q16_f8 F_h0_f8 (by intro e8; first | (cases e8; done) | (simp at e8; done))))]; exact F_q16_f8
  have F_q27_9 : f9 q27 = .inr (0, [.int (nI 0), .ref e0, .int (nI 0)]) := by rw [hf9, va_up_ne _ _ (show q27 ≠ h0 from (cell_ne F_q27_f8 F_h0_f8 (by intro e8; first | (cases e8; done) | (simp at e8; done))))]; exact F_q27_f8
  have F_h0_9 : f9 h0 = .inr (4, [.int 0, .int 0, .null, .int 0, .ref q5, .ref q16, .ref q27, .int 0, .int 0]) := by rw [hf9]; exact va_up_self _ _ _
  have hD : va_D (mA L sz) (va_pl (((L ++ [q5]) ++ [q16]) ++ [q27]) f9) := hE.D
  refine lv_aload_n hx hb dX3_init_37 rfl (lv_at hl 0 rfl) ?_
  refine lv_iconst (v := (-1)) hx hb dX3_init_38 (by decide) ?_
  refine pl_put (D := D) (ci := 4) (v := .int (-1)) (ty := .int) (C := RX3) (T := TX3) (N := 9) hx hb hts (by decide +kernel) tyX3 tyX3_ok nmX3 hown hK.1 hP hD hS M_h0_7 F_h0_9 rfl 7 (by decide) (hts (.fieldLink RX3 22 "ChooseTreeModel$Cls" "put" "I") (by decide +kernel)) (fun _ h9 => h9) rfl (by decide +kernel) rfl rfl (Nat.le_of_ble_eq_true rfl) dX3_init_39 (fun H locs hP hS => ?_)
  replace hP : va_P D vwCl (va_pl (((L ++ [q5]) ++ [q16]) ++ [q27]) (va_up f9 h0 (.inr (4, [.int 0, .int 0, .null, .int 0, .ref q5, .ref q16, .ref q27, .int (-1), .int 0])))) H := hP
  obtain ⟨f10, hf10⟩ : ∃ z, z = va_up f9 h0 (.inr (4, [.int 0, .int 0, .null, .int 0, .ref q5, .ref q16, .ref q27, .int (-1), .int 0])) := ⟨_, rfl⟩
  rw [← hf10] at hP
  have F_q5_10 : f10 q5 = .inr (0, [.int (nI 0), .ref e0, .int (nI 0)]) := by rw [hf10, va_up_ne _ _ (show q5 ≠ h0 from (cell_ne F_q5_9 F_h0_9 (by intro e8; first | (cases e8; done) | (simp at e8; done))))]; exact F_q5_9
  have F_q16_10 : f10 q16 = .inr (0, [.int (nI 0), .ref e0, .int (nI 0)]) := by rw [hf10, va_up_ne _ _ (show q16 ≠ h0 from (cell_ne F_q16_9 F_h0_9 (by intro e8; first | (cases e8; done) | (simp at e8; done))))]; exact F_q16_9
  have F_q27_10 : f10 q27 = .inr (0, [.int (nI 0), .ref e0, .int (nI 0)]) := by rw [hf10, va_up_ne _ _ (show q27 ≠ h0 from (cell_ne F_q27_9 F_h0_9 (by intro e8; first | (cases e8; done) | (simp at e8; done))))]; exact F_q27_9
  have F_h0_10 : f10 h0 = .inr (4, [.int 0, .int 0, .null, .int 0, .ref q5, .ref q16, .ref q27, .int (-1), .int 0]) := by rw [hf10]; exact va_up_self _ _ _
  have hD : va_D (mA L sz) (va_pl (((L ++ [q5]) ++ [q16]) ++ [q27]) f10) := hE.D
  refine lv_aload_n hx hb dX3_init_42 rfl (lv_at hl 0 rfl) ?_
  refine lv_iload_n hx hb dX3_init_43 rfl (lv_at hl 1 rfl) ?_
  refine pl_putF (D := D) (ci := 4) (v := .int zi) (ty := .int) (C := RX3) (T := TX3) (N := 9) hx hb hts (by decide +kernel) tyX3 tyX3_ok nmX3 hown hK.1 hP hD hS M_h0_7 F_h0_10 rfl 0 (by decide) (hts (.fieldLink RX3 26 "ChooseTreeModel$Cls" "number" "I") (by decide +kernel)) (fun _ h9 => h9) rfl hin rfl (by decide +kernel) rfl rfl (Nat.le_of_ble_eq_true rfl) dX3_init_44 (fun H locs hP hS => ?_)
  replace hP : va_P D vwCl (va_pl (((L ++ [q5]) ++ [q16]) ++ [q27]) (va_up f10 h0 (.inr (4, [.int zi, .int 0, .null, .int 0, .ref q5, .ref q16, .ref q27, .int (-1), .int 0])))) H := hP
  obtain ⟨f11, hf11⟩ : ∃ z, z = va_up f10 h0 (.inr (4, [.int zi, .int 0, .null, .int 0, .ref q5, .ref q16, .ref q27, .int (-1), .int 0])) := ⟨_, rfl⟩
  rw [← hf11] at hP
  have F_q5_11 : f11 q5 = .inr (0, [.int (nI 0), .ref e0, .int (nI 0)]) := by rw [hf11, va_up_ne _ _ (show q5 ≠ h0 from (cell_ne F_q5_10 F_h0_10 (by intro e8; first | (cases e8; done) | (simp at e8; done))))]; exact F_q5_10
  have F_q16_11 : f11 q16 = .inr (0, [.int (nI 0), .ref e0, .int (nI 0)]) := by rw [hf11, va_up_ne _ _ (show q16 ≠ h0 from (cell_ne F_q16_10 F_h0_10 (by intro e8; first | (cases e8; done) | (simp at e8; done))))]; exact F_q16_10
  have F_q27_11 : f11 q27 = .inr (0, [.int (nI 0), .ref e0, .int (nI 0)]) := by rw [hf11, va_up_ne _ _ (show q27 ≠ h0 from (cell_ne F_q27_10 F_h0_10 (by intro e8; first | (cases e8; done) | (simp at e8; done))))]; exact F_q27_10
  have F_h0_11 : f11 h0 = .inr (4, [.int zi, .int 0, .null, .int 0, .ref q5, .ref q16, .ref q27, .int (-1), .int 0]) := by rw [hf11]; exact va_up_self _ _ _
  have hD : va_D (mA L sz) (va_pl (((L ++ [q5]) ++ [q16]) ++ [q27]) f11) := hE.D
  refine lv_aload_n hx hb dX3_init_47 rfl (lv_at hl 0 rfl) ?_
  refine lv_aload_nN hx hb dX3_init_48 rfl (lv_at hl 2 rfl) ?_
  refine pl_putF (D := D) (ci := 4) (v := .null) (ty := .object "ChooseTreeModel$Cls") (C := RX3) (T := TX3) (N := 9) hx hb hts (by decide +kernel) tyX3 tyX3_ok nmX3 hown hK.1 hP hD hS M_h0_7 F_h0_11 rfl 2 (by decide) (hts (.fieldLink RX3 29 "ChooseTreeModel$Cls" "parent" "LChooseTreeModel$Cls;") (by decide +kernel)) (fun _ h9 => h9) rfl hin rfl (by decide +kernel) rfl rfl (Nat.le_of_ble_eq_true rfl) dX3_init_49 (fun H locs hP hS => ?_)
  replace hP : va_P D vwCl (va_pl (((L ++ [q5]) ++ [q16]) ++ [q27]) (va_up f11 h0 (.inr (4, [.int zi, .int 0, .null, .int 0, .ref q5, .ref q16, .ref q27, .int (-1), .int 0])))) H := hP
  obtain ⟨f12, hf12⟩ : ∃ z, z = va_up f11 h0 (.inr (4, [.int zi, .int 0, .null, .int 0, .ref q5, .ref q16, .ref q27, .int (-1), .int 0])) := ⟨_, rfl⟩
  rw [← hf12] at hP
  have F_q5_12 : f12 q5 = .inr (0, [.int (nI 0), .ref e0, .int (nI 0)]) := by rw [hf12, va_up_ne _ _ (show q5 ≠ h0 from (cell_ne F_q5_11 F_h0_11 (by intro e8; first | (cases e8; done) | (simp at e8; done))))]; exact F_q5_11
  have F_q16_12 : f12 q16 = .inr (0, [.int (nI 0), .ref e0, .int (nI 0)]) := by rw [hf12, va_up_ne _ _ (show q16 ≠ h0 from (cell_ne F_q16_11 F_h0_11 (by intro e8; first | (cases e8; done) | (simp at e8; done))))]; exact F_q16_11
  have F_q27_12 : f12 q27 = .inr (0, [.int (nI 0), .ref e0, .int (nI 0)]) := by rw [hf12, va_up_ne _ _ (show q27 ≠ h0 from (cell_ne F_q27_11 F_h0_11 (by intro e8; first | (cases e8; done) | (simp at e8; done))))]; exact F_q27_11
  have F_h0_12 : f12 h0 = .inr (4, [.int zi, .int 0, .null, .int 0, .ref q5, .ref q16, .ref q27, .int (-1), .int 0]) := by rw [hf12]; exact va_up_self _ _ _
  have hD : va_D (mA L sz) (va_pl (((L ++ [q5]) ++ [q16]) ++ [q27]) f12) := hE.D
  refine lv_aload_n hx hb dX3_init_52 rfl (lv_at hl 0 rfl) ?_
  refine lv_iload_n hx hb dX3_init_53 rfl (lv_at hl 3 rfl) ?_
  refine pl_putF (D := D) (ci := 4) (v := .int zpk) (ty := .int) (C := RX3) (T := TX3) (N := 9) hx hb hts (by decide +kernel) tyX3 tyX3_ok nmX3 hown hK.1 hP hD hS M_h0_7 F_h0_12 rfl 1 (by decide) (hts (.fieldLink RX3 33 "ChooseTreeModel$Cls" "pack" "I") (by decide +kernel)) (fun _ h9 => h9) rfl hin rfl (by decide +kernel) rfl rfl (Nat.le_of_ble_eq_true rfl) dX3_init_54 (fun H locs hP hS => ?_)
  replace hP : va_P D vwCl (va_pl (((L ++ [q5]) ++ [q16]) ++ [q27]) (va_up f12 h0 (.inr (4, [.int zi, .int zpk, .null, .int 0, .ref q5, .ref q16, .ref q27, .int (-1), .int 0])))) H := hP
  obtain ⟨f13, hf13⟩ : ∃ z, z = va_up f12 h0 (.inr (4, [.int zi, .int zpk, .null, .int 0, .ref q5, .ref q16, .ref q27, .int (-1), .int 0])) := ⟨_, rfl⟩
  rw [← hf13] at hP
  have F_q5_13 : f13 q5 = .inr (0, [.int (nI 0), .ref e0, .int (nI 0)]) := by rw [hf13, va_up_ne _ _ (show q5 ≠ h0 from (cell_ne F_q5_12 F_h0_12 (by intro e8; first | (cases e8; done) | (simp at e8; done))))]; exact F_q5_12
  have F_q16_13 : f13 q16 = .inr (0, [.int (nI 0), .ref e0, .int (nI 0)]) := by rw [hf13, va_up_ne _ _ (show q16 ≠ h0 from (cell_ne F_q16_12 F_h0_12 (by intro e8; first | (cases e8; done) | (simp at e8; done))))]; exact F_q16_12
  have F_q27_13 : f13 q27 = .inr (0, [.int (nI 0), .ref e0, .int (nI 0)]) := by rw [hf13, va_up_ne _ _ (show q27 ≠ h0 from (cell_ne F_q27_12 F_h0_12 (by intro e8; first | (cases e8; done) | (simp at e8; done))))]; exact F_q27_12
  have F_h0_13 : f13 h0 = .inr (4, [.int zi, .int zpk, .null, .int 0, .ref q5, .ref q16, .ref q27, .int (-1), .int 0]) := by rw [hf13]; exact va_up_self _ _ _
  have hD : va_D (mA L sz) (va_pl (((L ++ [q5]) ++ [q16]) ++ [q27]) f13) := hE.D
  refine lv_aload_n hx hb dX3_init_57 rfl (lv_at hl 0 rfl) ?_
  refine lv_iload hx hb dX3_init_58 (lv_at hl 4 rfl) ?_
  refine pl_putF (D := D) (ci := 4) (v := .int (bI zb)) (ty := .boolean) (C := RX3) (T := TX3) (N := 9) hx hb hts (by decide +kernel) tyX3 tyX3_ok nmX3 hown hK.1 hP hD hS M_h0_7 F_h0_13 rfl 3 (by decide) (hts (.fieldLink RX3 36 "ChooseTreeModel$Cls" "isFace" "Z") (by decide +kernel)) (fun _ h9 => h9) rfl hin rfl (by decide +kernel) (bI_nar _) (by cases zb <;> rfl) (Nat.le_of_ble_eq_true rfl) dX3_init_60 (fun H locs hP hS => ?_)
  replace hP : va_P D vwCl (va_pl (((L ++ [q5]) ++ [q16]) ++ [q27]) (va_up f13 h0 (.inr (4, [.int zi, .int zpk, .null, .int (bI zb), .ref q5, .ref q16, .ref q27, .int (-1), .int 0])))) H := hP
  obtain ⟨f14, hf14⟩ : ∃ z, z = va_up f13 h0 (.inr (4, [.int zi, .int zpk, .null, .int (bI zb), .ref q5, .ref q16, .ref q27, .int (-1), .int 0])) := ⟨_, rfl⟩
  rw [← hf14] at hP
  have F_q5_14 : f14 q5 = .inr (0, [.int (nI 0), .ref e0, .int (nI 0)]) := by rw [hf14, va_up_ne _ _ (show q5 ≠ h0 from (cell_ne F_q5_13 F_h0_13 (by intro e8; first | (cases e8; done) | (simp at e8; done))))]; exact F_q5_13
  have F_q16_14 : f14 q16 = .inr (0, [.int (nI 0), .ref e0, .int (nI 0)]) := by rw [hf14, va_up_ne _ _ (show q16 ≠ h0 from (cell_ne F_q16_13 F_h0_13 (by intro e8; first | (cases e8; done) | (simp at e8; done))))]; exact F_q16_13
  have F_q27_14 : f14 q27 = .inr (0, [.int (nI 0), .ref e0, .int (nI 0)]) := by rw [hf14, va_up_ne _ _ (show q27 ≠ h0 from (cell_ne F_q27_13 F_h0_13 (by intro e8; first | (cases e8; done) | (simp at e8; done))))]; exact F_q27_13
  have F_h0_14 : f14 h0 = .inr (4, [.int zi, .int zpk, .null, .int (bI zb), .ref q5, .ref q16, .ref q27, .int (-1), .int 0]) := by rw [hf14]; exact va_up_self _ _ _
  have hD : va_D (mA L sz) (va_pl (((L ++ [q5]) ++ [q16]) ++ [q27]) f14) := hE.D
  refine W.widen (k := 3) (n := 9) (by first | exact Nat.le_refl _ | omega) (by first | exact Nat.le_refl _ | omega) ?_
  exact W.vret hx hb hr (fun t ht hW => ⟨⟨((((L ++ [q5]) ++ [q16]) ++ [q27]), f14), rfl, ⟨⟨q5, q16, q27, rfl, ⟨hqq5, hqq16, hqq27⟩, ⟨hqsq5, hqsq16, hqsq27⟩, F_h0_14, F_q5_14, F_q16_14, F_q27_14, fun y hy hne => by show f14 y = f y; rw [hf14, va_up_ne _ _ hne, hf13, va_up_ne _ _ hne, hf12, va_up_ne _ _ hne, hf11, va_up_ne _ _ hne, hf10, va_up_ne _ _ hne, hf9, va_up_ne _ _ hne, hf8, va_up_ne _ _ (fun e9 : y = q27 => hqq27 (e9 ▸ (List.mem_append_left _ (List.mem_append_left _ hy) : y ∈ L ++ [q5] ++ [q16]))), hf7, va_up_ne _ _ (fun e9 : y = q27 => hqq27 (e9 ▸ (List.mem_append_left _ (List.mem_append_left _ hy) : y ∈ L ++ [q5] ++ [q16]))), hf6, va_up_ne _ _ hne, hf5, va_up_ne _ _ (fun e9 : y = q16 => hqq16 (e9 ▸ (List.mem_append_left _ hy : y ∈ L ++ [q5]))), hf4, va_up_ne _ _ (fun e9 : y = q16 => hqq16 (e9 ▸ (List.mem_append_left _ hy : y ∈ L ++ [q5]))), hf3, va_up_ne _ _ hne, hf2, va_up_ne _ _ (fun e9 : y = q5 => hqq5 (e9 ▸ hy)), hf1, va_up_ne _ _ (fun e9 : y = q5 => hqq5 (e9 ▸ hy))]⟩, hE⟩, show va_P D vwCl (va_pl _ _) t.heap from (by rw [ht]; exact hP)⟩, hS.F ht⟩) hS.2.2 dX3_init_63
set_option maxHeartbeats 4000000 in
set_option maxRecDepth 100000 in
theorem c_X3_init1 (l : Launch) (D : va_G) (cO : ClassId) (mi e0 : Nat) (L : List Nat) (f : Nat → va_E) (sz : Nat) (hnd : L.Nodup) (h0 : Nat) (hh0 : h0 ∈ L) (zi : Int32) (zpr1 : Nat) (zpk : Int32) (zb : Bool) (hf : f h0 = .inr (4, [.int 0, .int 0, .null, .int 0, .null, .null, .null, .int 0, .int 0])) : Met l yX3_init wsX3_init { frames := 4, cells := 3, slots := 9, locals := 72 } (mW D cO mi e0 L f sz [.ref h0, .int zi, .ref zpr1, .int zpk, .int (bI zb)]) (wQv D L sz (fun u => ∃ l1 l2 l3 : Nat, u.1 = L ++ [l1] ++ [l2] ++ [l3] ∧ (l1 ∉ L ∧ l2 ∉ L ++ [l1] ∧ l3 ∉ L ++ [l1] ++ [l2]) ∧ (sz ≤ l1 ∧ sz ≤ l2 ∧ sz ≤ l3) ∧ u.2 h0 = .inr (4, [.int zi, .int zpk, .ref zpr1, .int (bI zb), .ref l1, .ref l2, .ref l3, .int (-1), .int 0]) ∧ u.2 l1 = alc (nI 0) e0 0 ∧ u.2 l2 = alc (nI 0) e0 0 ∧ u.2 l3 = alc (nI 0) e0 0 ∧ ∀ y, y ∈ L → y ≠ h0 → u.2 y = f y)) 3 9 (mA L sz) := by
  refine Met.ofW (cc := cX3_init) (maxL := 5) (ret := none) (by decide) rfl ?_
  intro p e s m args below meth cq s₁ B hml hv
  obtain ⟨rfl, hsz, hP, hK, hJ⟩ := hv
  have hx := B.exec
  have hb := B.bytes
  have hr := B.returns
  have hts := atoms_spec (ws := wsX3_init) B.pre
  have hown : s.vm.findClass RX3 = some m.cls := findClass_of_methodNamed B.named
  have hlocks := B.notSynchronized
  have hin := (name_of_methodNamed B.named B.method).1
  clear B
  have hl := lv_entry ([.ref h0, .int zi, .ref zpr1, .int zpk, .int (bI zb)]) (n := 5) (Nat.le_of_ble_eq_true rfl)
  rw [lg_entry_eq]
  generalize (lg_sl ([.ref h0, .int zi, .ref zpr1, .int zpk, .int (bI zb)]) ++ List.replicate (5 - (lg_sl ([.ref h0, .int zi, .ref zpr1, .int zpk, .int (bI zb)])).length) Slot.unset).toArray = ls at hl ⊢
  replace hl : lv_has ls 5 [(0, .ref h0), (1, .int zi), (2, .ref zpr1), (3, .int zpk), (4, .int (bI zb))] := hl
  have hA : ∀ q : Nat, s.heap.size ≤ q → mA L sz q := fun q h => Or.inr (by omega)
  have hE : pext L sz L := pext.rf hnd
  have hD : va_D (mA L sz) (va_pl L f) := hE.D
  refine gen_start (A := mA L sz) (fun H locs hP hS => ?_) hP
  refine lv_aload_n hx hb dX3_init_0 rfl (lv_at hl 0 rfl) ?_
  refine W.objInit hx hb hown (hts (.methodLink RX3 1 objectInit) (by decide +kernel)) (hts (.instanceMethod objectInit) (by decide +kernel)) (hts _ (List.mem_of_getElem? (i := 3) rfl)) rfl (by rw [hml]; exact hl.1) rfl dX3_init_1 (Nat.le_of_ble_eq_true rfl) (Nat.le_of_ble_eq_true rfl) ?_
  refine W.eq (g2 := F0 m 4 ls []) rfl ?_
  refine lv_aload_n hx hb dX3_init_4 rfl (lv_at hl 0 rfl) ?_
  refine pl_new (D := D) (ci := 0) (fs := [.int 0, .null, .int 0]) (C := RJx4a65c) (T := TJx4a65c) (N := 3) hx hb hts (by decide +kernel) tyJx4a65c tyJx4a65c_ok hown (hts (.classLink RX3 7 RJx4a65c) (by decide +kernel)) (hts (.instantiable RJx4a65c 3) (by decide +kernel)) (hts (.initialized RJx4a65c) (by decide +kernel)) hK.1 hP hD hS hA rfl (by decide) (Nat.le_of_ble_eq_true rfl) (Nat.le_of_ble_eq_true rfl) dX3_init_5 (fun q5 H hq hAq hP hS => ?_)
  have hqs : sz ≤ q5 := hAq.resolve_left (fun z => hq (hE.mem z))
  obtain ⟨f1, hf1⟩ : ∃ z, z = va_up f q5 (.inr (0, [.int 0, .null, .int 0])) := ⟨_, rfl⟩
  rw [← hf1] at hP
  have F_h0_1 : f1 h0 = .inr (4, [.int 0, .int 0, .null, .int 0, .null, .null, .null, .int 0, .int 0]) := by rw [hf1, va_up_ne _ _ (show h0 ≠ q5 from fun e9 => hq (e9 ▸ hh0))]; exact hf
  have M_h0_1 := List.mem_append_left [q5] hh0
  have F_q5_1 : f1 q5 = .inr (0, [.int 0, .null, .int 0]) := by rw [hf1]; exact va_up_self _ _ _
  have M_q5_1 : q5 ∈ L ++ [q5] := List.mem_append_right _ (List.mem_singleton.mpr rfl)
  replace hE : pext L sz (L ++ [q5]) := hE.tr (Nat.le_refl _) (pext.one hE.nd hq hqs)
  have hD : va_D (mA L sz) (va_pl (L ++ [q5]) f1) := hE.D
  have hqq5 := hq
  have hqsq5 := hqs
  clear hq hqs hAq
  refine lv_dup hx hb dX3_init_8 rfl ?_
  have hszH : sz ≤ H.size := by have := hS.1; omega
  have hPold := hP
  refine va_callv (va_runI (As := []) (rest := [.ref q5, .ref h0]) ⟨hx, hb, hml, hown, hts⟩ (c_Jx4a65c_init_da8c8 l D cO mi e0 (L ++ [q5]) f1 H.size hE.nd q5 M_q5_1 F_q5_1) (cwI 0 hts gX3_init_Jx4a65c_init_da8c8 rfl rfl rfl (hts (.initialized RJx4a65c) (by decide +kernel)) (hts (.methodLink RX3 9 yJx4a65c_init_da8c8) (by decide +kernel)) (hts (.instanceMethod yJx4a65c_init_da8c8) (by decide +kernel)) rfl (by decide +kernel) ⟨Nat.le_of_ble_eq_true rfl, Nat.le_of_ble_eq_true rfl⟩) (mW_S hK hJ hS (hE.sub (by have := hS.1; omega)) hP) rfl rfl hl.1 rfl (lv_room (Nat.le_of_ble_eq_true rfl)) dX3_init_9 ⟨Nat.le_of_ble_eq_true rfl, Nat.le_of_ble_eq_true rfl⟩) hS (fun q _ h => (hE.sub (by have := hS.1; omega)) q h) (hE.sub (by have := hS.1; omega)) (fun u t H1 locs ht hvm hw hB hz1 hk1 hS => ?_)
  obtain ⟨L2, f2⟩ := u
  obtain ⟨hw, hE1⟩ := hw
  replace hB : va_P D vwCl (va_pl L2 f2) t.heap := hB
  rw [ht] at hB
  replace hE : pext L sz L2 := hE.tr (hszH) hE1
  obtain ⟨hL1, hf2⟩ := Prod.mk.inj hw
  replace hL1 : L2 = (L ++ [q5]) := hL1
  subst hL1
  have F_h0_f2 : f2 h0 = .inr (4, [.int 0, .int 0, .null, .int 0, .null, .null, .null, .int 0, .int 0]) := by rw [hf2, va_up_ne _ _ (show h0 ≠ q5 from cell_ne F_h0_1 F_q5_1 (by intro e8; first | (cases e8; done) | (simp at e8; done)))]; exact F_h0_1
  have F_q5_f2 : f2 q5 = alc (nI 0) e0 0 := by rw [hf2]; exact va_up_self _ _ _
  clear hPold hP hk1 hz1 hvm ht hszH hE1
  have hP := hB
  clear hB
  generalize H1 = H at hP hS ⊢
  have hD : va_D (mA L sz) (va_pl (L ++ [q5]) f2) := hE.D
  refine pl_putF (D := D) (ci := 4) (v := .ref q5) (ty := .object "java/util/ArrayList") (C := RX3) (T := TX3) (N := 9) hx hb hts (by decide +kernel) tyX3 tyX3_ok nmX3 hown hK.1 hP hD hS M_h0_1 F_h0_f2 rfl 4 (by decide) (hts (.fieldLink RX3 10 "ChooseTreeModel$Cls" "faces" "Ljava/util/ArrayList;") (by decide +kernel)) (fun _ h9 => h9) rfl hin rfl (by decide +kernel) rfl rfl (Nat.le_of_ble_eq_true rfl) dX3_init_12 (fun H locs hP hS => ?_)
  replace hP : va_P D vwCl (va_pl (L ++ [q5]) (va_up f2 h0 (.inr (4, [.int 0, .int 0, .null, .int 0, .ref q5, .null, .null, .int 0, .int 0])))) H := hP
  obtain ⟨f3, hf3⟩ : ∃ z, z = va_up f2 h0 (.inr (4, [.int 0, .int 0, .null, .int 0, .ref q5, .null, .null, .int 0, .int 0])) := ⟨_, rfl⟩
  rw [← hf3] at hP
  have F_q5_3 : f3 q5 = .inr (0, [.int (nI 0), .ref e0, .int (nI 0)]) := by rw [hf3, va_up_ne _ _ (show q5 ≠ h0 from (cell_ne F_q5_f2 F_h0_f2 (by intro e8; first | (cases e8; done) | (simp at e8; done))))]; exact F_q5_f2
  have F_h0_3 : f3 h0 = .inr (4, [.int 0, .int 0, .null, .int 0, .ref q5, .null, .null, .int 0, .int 0]) := by rw [hf3]; exact va_up_self _ _ _
  have hD : va_D (mA L sz) (va_pl (L ++ [q5]) f3) := hE.D
  refine lv_aload_n hx hb dX3_init_15 rfl (lv_at hl 0 rfl) ?_
  refine pl_new (D := D) (ci := 0) (fs := [.int 0, .null, .int 0]) (C := RJx4a65c) (T := TJx4a65c) (N := 3) hx hb hts (by decide +kernel) tyJx4a65c tyJx4a65c_ok hown (hts (.classLink RX3 7 RJx4a65c) (by decide +kernel)) (hts (.instantiable RJx4a65c 3) (by decide +kernel)) (hts (.initialized RJx4a65c) (by decide +kernel)) hK.1 hP hD hS hA rfl (by decide) (Nat.le_of_ble_eq_true rfl) (Nat.le_of_ble_eq_true rfl) dX3_init_16 (fun q16 H hq hAq hP hS => ?_)
  have hqs : sz ≤ q16 := hAq.resolve_left (fun z => hq (hE.mem z))
  obtain ⟨f4, hf4⟩ : ∃ z, z = va_up f3 q16 (.inr (0, [.int 0, .null, .int 0])) := ⟨_, rfl⟩
  rw [← hf4] at hP
  have F_h0_4 : f4 h0 = .inr (4, [.int 0, .int 0, .null, .int 0, .ref q5, .null, .null, .int 0, .int 0]) := by rw [hf4, va_up_ne _ _ (show h0 ≠ q16 from fun e9 => hq (e9 ▸ M_h0_1))]; exact F_h0_3
  have M_h0_4 := List.mem_append_left [q16] M_h0_1
  have F_q5_4 : f4 q5 = .inr (0, [.int (nI 0), .ref e0, .int (nI 0)]) := by rw [hf4, va_up_ne _ _ (show q5 ≠ q16 from fun e9 => hq (e9 ▸ M_q5_1))]; exact F_q5_3
  have M_q5_4 := List.mem_append_left [q16] M_q5_1
  have F_q16_4 : f4 q16 = .inr (0, [.int 0, .null, .int 0]) := by rw [hf4]; exact va_up_self _ _ _
  have M_q16_4 : q16 ∈ (L ++ [q5]) ++ [q16] := List.mem_append_right _ (List.mem_singleton.mpr rfl)
  replace hE : pext L sz ((L ++ [q5]) ++ [q16]) := hE.tr (Nat.le_refl _) (pext.one hE.nd hq hqs)
  have hD : va_D (mA L sz) (va_pl ((L ++ [q5]) ++ [q16]) f4) := hE.D
  have hqq16 := hq
  have hqsq16 := hqs
  clear hq hqs hAq
  refine lv_dup hx hb dX3_init_19 rfl ?_
  have hszH : sz ≤ H.size := by have := hS.1; omega
  have hPold := hP
  refine va_callv (va_runI (As := []) (rest := [.ref q16, .ref h0]) ⟨hx, hb, hml, hown, hts⟩ (c_Jx4a65c_init_da8c8 l D cO mi e0 ((L ++ [q5]) ++ [q16]) f4 H.size hE.nd q16 M_q16_4 F_q16_4) (cwI 0 hts gX3_init_Jx4a65c_init_da8c8 rfl rfl rfl (hts (.initialized RJx4a65c) (by decide +kernel)) (hts (.methodLink RX3 9 yJx4a65c_init_da8c8) (by decide +kernel)) (hts (.instanceMethod yJx4a65c_init_da8c8) (by decide +kernel)) rfl (by decide +kernel) ⟨Nat.le_of_ble_eq_true rfl, Nat.le_of_ble_eq_true rfl⟩) (mW_S hK hJ hS (hE.sub (by have := hS.1; omega)) hP) rfl rfl hl.1 rfl (lv_room (Nat.le_of_ble_eq_true rfl)) dX3_init_20 ⟨Nat.le_of_ble_eq_true rfl, Nat.le_of_ble_eq_true rfl⟩) hS (fun q _ h => (hE.sub (by have := hS.1; omega)) q h) (hE.sub (by have := hS.1; omega)) (fun u t H1 locs ht hvm hw hB hz1 hk1 hS => ?_)
  obtain ⟨L5, f5⟩ := u
  obtain ⟨hw, hE1⟩ := hw
  replace hB : va_P D vwCl (va_pl L5 f5) t.heap := hB
  rw [ht] at hB
  replace hE : pext L sz L5 := hE.tr (hszH) hE1
  obtain ⟨hL1, hf5⟩ := Prod.mk.inj hw
  replace hL1 : L5 = ((L ++ [q5]) ++ [q16]) := hL1
  subst hL1
  have F_h0_f5 : f5 h0 = .inr (4, [.int 0, .int 0, .null, .int 0, .ref q5, .null, .null, .int 0, .int 0]) := by rw [hf5, va_up_ne _ _ (show h0 ≠ q16 from cell_ne F_h0_4 F_q16_4 (by intro e8; first | (cases e8; done) | (simp at e8; done)))]; exact F_h0_4
  have F_q5_f5 : f5 q5 = .inr (0, [.int (nI 0), .ref e0, .int (nI 0)]) := by rw [hf5, va_up_ne _ _ (show q5 ≠ q16 from cell_ne F_q5_4 F_q16_4 (by intro e8; first | (cases e8; done) | (simp at e8; done)))]; exact F_q5_4
  have F_q16_f5 : f5 q16 = alc (nI 0) e0 0 := by rw [hf5]; exact va_up_self _ _ _
  clear hPold hP hk1 hz1 hvm ht hszH hE1
  have hP := hB
  clear hB
  generalize H1 = H at hP hS ⊢
  have hD : va_D (mA L sz) (va_pl ((L ++ [q5]) ++ [q16]) f5) := hE.D
  refine pl_putF (D := D) (ci := 4) (v := .ref q16) (ty := .object "java/util/ArrayList") (C := RX3) (T := TX3) (N := 9) hx hb hts (by decide +kernel) tyX3 tyX3_ok nmX3 hown hK.1 hP hD hS M_h0_4 F_h0_f5 rfl 5 (by decide) (hts (.fieldLink RX3 16 "ChooseTreeModel$Cls" "methods" "Ljava/util/ArrayList;") (by decide +kernel)) (fun _ h9 => h9) rfl hin rfl (by decide +kernel) rfl rfl (Nat.le_of_ble_eq_true rfl) dX3_init_23 (fun H locs hP hS => ?_)
  replace hP : va_P D vwCl (va_pl ((L ++ [q5]) ++ [q16]) (va_up f5 h0 (.inr (4, [.int 0, .int 0, .null, .int 0, .ref q5, .ref q16, .null, .int 0, .int 0])))) H := hP
  obtain ⟨f6, hf6⟩ : ∃ z, z = va_up f5 h0 (.inr (4, [.int 0, .int 0, .null, .int 0, .ref q5, .ref q16, .null, .int 0, .int 0])) := ⟨_, rfl⟩
  rw [← hf6] at hP
  have F_q5_6 : f6 q5 = .inr (0, [.int (nI 0), .ref e0, .int (nI 0)]) := by rw [hf6, va_up_ne _ _ (show q5 ≠ h0 from (cell_ne F_q5_f5 F_h0_f5 (by intro e8; first | (cases e8; done) | (simp at e8; done))))]; exact F_q5_f5
  have F_q16_6 : f6 q16 = .inr (0, [.int (nI 0), .ref e0, .int (nI 0)]) := by rw [hf6, va_up_ne _ _ (show q16 ≠ h0 from (cell_ne F_q16_f5 F_h0_f5 (by intro e8; first | (cases e8; done) | (simp at e8; done))))]; exact F_q16_f5
  have F_h0_6 : f6 h0 = .inr (4, [.int 0, .int 0, .null, .int 0, .ref q5, .ref q16, .null, .int 0, .int 0]) := by rw [hf6]; exact va_up_self _ _ _
  have hD : va_D (mA L sz) (va_pl ((L ++ [q5]) ++ [q16]) f6) := hE.D
  refine lv_aload_n hx hb dX3_init_26 rfl (lv_at hl 0 rfl) ?_
  refine pl_new (D := D) (ci := 0) (fs := [.int 0, .null, .int 0]) (C := RJx4a65c) (T := TJx4a65c) (N := 3) hx hb hts (by decide +kernel) tyJx4a65c tyJx4a65c_ok hown (hts (.classLink RX3 7 RJx4a65c) (by decide +kernel)) (hts (.instantiable RJx4a65c 3) (by decide +kernel)) (hts (.initialized RJx4a65c) (by decide +kernel)) hK.1 hP hD hS hA rfl (by decide) (Nat.le_of_ble_eq_true rfl) (Nat.le_of_ble_eq_true rfl) dX3_init_27 (fun q27 H hq hAq hP hS => ?_)
  have hqs : sz ≤ q27 := hAq.resolve_left (fun z => hq (hE.mem z))
  obtain ⟨f7, hf7⟩ : ∃ z, z = va_up f6 q27 (.inr (0, [.int 0, .null, .int 0])) := ⟨_, rfl⟩
  rw [← hf7] at hP
  have F_h0_7 : f7 h0 = .inr (4, [.int 0, .int 0, .null, .int 0, .ref q5, .ref q16, .null, .int 0, .int 0]) := by rw [hf7, va_up_ne _ _ (show h0 ≠ q27 from fun e9 => hq (e9 ▸ M_h0_4))]; exact F_h0_6
  have M_h0_7 := List.mem_append_left [q27] M_h0_4
  have F_q5_7 : f7 q5 = .inr (0, [.int (nI 0), .ref e0, .int (nI 0)]) := by rw [hf7, va_up_ne _ _ (show q5 ≠ q27 from fun e9 => hq (e9 ▸ M_q5_4))]; exact F_q5_6
  have M_q5_7 := List.mem_append_left [q27] M_q5_4
  have F_q16_7 : f7 q16 = .inr (0, [.int (nI 0), .ref e0, .int (nI 0)]) := by rw [hf7, va_up_ne _ _ (show q16 ≠ q27 from fun e9 => hq (e9 ▸ M_q16_4))]; exact F_q16_6
  have M_q16_7 := List.mem_append_left [q27] M_q16_4
  have F_q27_7 : f7 q27 = .inr (0, [.int 0, .null, .int 0]) := by rw [hf7]; exact va_up_self _ _ _
  have M_q27_7 : q27 ∈ ((L ++ [q5]) ++ [q16]) ++ [q27] := List.mem_append_right _ (List.mem_singleton.mpr rfl)
  replace hE : pext L sz (((L ++ [q5]) ++ [q16]) ++ [q27]) := hE.tr (Nat.le_refl _) (pext.one hE.nd hq hqs)
  have hD : va_D (mA L sz) (va_pl (((L ++ [q5]) ++ [q16]) ++ [q27]) f7) := hE.D
  have hqq27 := hq
  have hqsq27 := hqs
  clear hq hqs hAq
  refine lv_dup hx hb dX3_init_30 rfl ?_
  have hszH : sz ≤ H.size := by have := hS.1; omega
  have hPold := hP
  refine va_callv (va_runI (As := []) (rest := [.ref q27, .ref h0]) ⟨hx, hb, hml, hown, hts⟩ (c_Jx4a65c_init_da8c8 l D cO mi e0 (((L ++ [q5]) ++ [q16]) ++ [q27]) f7 H.size hE.nd q27 M_q27_7 F_q27_7) (cwI 0 hts gX3_init_Jx4a65c_init_da8c8 rfl rfl rfl (hts (.initialized RJx4a65c) (by decide +kernel)) (hts (.methodLink RX3 9 yJx4a65c_init_da8c8) (by decide +kernel)) (hts (.instanceMethod yJx4a65c_init_da8c8) (by decide +kernel)) rfl (by decide +kernel) ⟨Nat.le_of_ble_eq_true rfl, Nat.le_of_ble_eq_true rfl⟩) (mW_S hK hJ hS (hE.sub (by have := hS.1; omega)) hP) rfl rfl hl.1 rfl (lv_room (Nat.le_of_ble_eq_true rfl)) dX3_init_31 ⟨Nat.le_of_ble_eq_true rfl, Nat.le_of_ble_eq_true rfl⟩) hS (fun q _ h => (hE.sub (by have := hS.1; omega)) q h) (hE.sub (by have := hS.1; omega)) (fun u t H1 locs ht hvm hw hB hz1 hk1 hS => ?_)
  obtain ⟨L8, f8⟩ := u
  obtain ⟨hw, hE1⟩ := hw
  replace hB : va_P D vwCl (va_pl L8 f8) t.heap := hB
  rw [ht] at hB
  replace hE : pext L sz L8 := hE.tr (hszH) hE1
  obtain ⟨hL1, hf8⟩ := Prod.mk.inj hw
  replace hL1 : L8 = (((L ++ [q5]) ++ [q16]) ++ [q27]) := hL1
  subst hL1
  have F_h0_f8 : f8 h0 = .inr (4, [.int 0, .int 0, .null, .int 0, .ref q5, .ref q16, .null, .int 0, .int 0]) := by rw [hf8, va_up_ne _ _ (show h0 ≠ q27 from cell_ne F_h0_7 F_q27_7 (by intro e8; first | (cases e8; done) | (simp at e8; done)))]; exact F_h0_7
  have F_q5_f8 : f8 q5 = .inr (0, [.int (nI 0), .ref e0, .int (nI 0)]) := by rw [hf8, va_up_ne _ _ (show q5 ≠ q27 from cell_ne F_q5_7 F_q27_7 (by intro e8; first | (cases e8; done) | (simp at e8; done)))]; exact F_q5_7
  have F_q16_f8 : f8 q16 = .inr (0, [.int (nI 0), .ref e0, .int (nI 0)]) := by rw [hf8, va_up_ne _ _ (show q16 ≠ q27 from cell_ne F_q16_7 F_q27_7 (by intro e8; first | (cases e8; done) | (simp at e8; done)))]; exact F_q16_7
  have F_q27_f8 : f8 q27 = alc (nI 0) e0 0 := by rw [hf8]; exact va_up_self _ _ _
  clear hPold hP hk1 hz1 hvm ht hszH hE1
  have hP := hB
  clear hB
  generalize H1 = H at hP hS ⊢
  have hD : va_D (mA L sz) (va_pl (((L ++ [q5]) ++ [q16]) ++ [q27]) f8) := hE.D
  refine pl_putF (D := D) (ci := 4) (v := .ref q27) (ty := .object "java/util/ArrayList") (C := RX3) (T := TX3) (N := 9) hx hb hts (by decide +kernel) tyX3 tyX3_ok nmX3 hown hK.1 hP hD hS M_h0_7 F_h0_f8 rfl 6 (by decide) (hts (.fieldLink RX3 19 "ChooseTreeModel$Cls" "all" "Ljava/util/ArrayList;") (by decide +kernel)) (fun _ h9 => h9) rfl hin rfl (by decide +kernel) rfl rfl (Nat.le_of_ble_eq_true rfl) dX3_init_34 (fun H locs hP hS => ?_)
  replace hP : va_P D vwCl (va_pl (((L ++ [q5]) ++ [q16]) ++ [q27]) (va_up f8 h0 (.inr (4, [.int 0, .int 0, .null, .int 0, .ref q5, .ref q16, .ref q27, .int 0, .int 0])))) H := hP
  obtain ⟨f9, hf9⟩ : ∃ z, z = va_up f8 h0 (.inr (4, [.int 0, .int 0, .null, .int 0, .ref q5, .ref q16, .ref q27, .int 0, .int 0])) := ⟨_, rfl⟩
  rw [← hf9] at hP
  have F_q5_9 : f9 q5 = .inr (0, [.int (nI 0), .ref e0, .int (nI 0)]) := by rw [hf9, va_up_ne _ _ (show q5 ≠ h0 from (cell_ne F_q5_f8 F_h0_f8 (by intro e8; first | (cases e8; done) | (simp at e8; done))))]; exact F_q5_f8
  have F_q16_9 : f9 q16 = .inr (0, [.int (nI 0), .ref e0, .int (nI 0)]) := by rw [hf9, va_up_ne _ _ (show q16 ≠ h0 from (cell_ne F_q16_f8 F_h0_f8 (by intro e8; first | (cases e8; done) | (simp at e8; done))))]; exact F_q16_f8
  have F_q27_9 : f9 q27 = .inr (0, [.int (nI 0), .ref e0, .int (nI 0)]) := by rw [hf9, va_up_ne _ _ (show q27 ≠ h0 from (cell_ne F_q27_f8 F_h0_f8 (by intro e8; first | (cases e8; done) | (simp at e8; done))))]; exact F_q27_f8
  have F_h0_9 : f9 h0 = .inr (4, [.int 0, .int 0, .null, .int 0, .ref q5, .ref q16, .ref q27, .int 0, .int 0]) := by rw [hf9]; exact va_up_self _ _ _
  have hD : va_D (mA L sz) (va_pl (((L ++ [q5]) ++ [q16]) ++ [q27]) f9) := hE.D
  refine lv_aload_n hx hb dX3_init_37 rfl (lv_at hl 0 rfl) ?_
  refine lv_iconst (v := (-1)) hx hb dX3_init_38 (by decide) ?_
  refine pl_put (D := D) (ci := 4) (v := .int (-1)) (ty := .int) (C := RX3) (T := TX3) (N := 9) hx hb hts (by decide +kernel) tyX3 tyX3_ok nmX3 hown hK.1 hP hD hS M_h0_7 F_h0_9 rfl 7 (by decide) (hts (.fieldLink RX3 22 "ChooseTreeModel$Cls" "put" "I") (by decide +kernel)) (fun _ h9 => h9) rfl (by decide +kernel) rfl rfl (Nat.le_of_ble_eq_true rfl) dX3_init_39 (fun H locs hP hS => ?_)
  replace hP : va_P D vwCl (va_pl (((L ++ [q5]) ++ [q16]) ++ [q27]) (va_up f9 h0 (.inr (4, [.int 0, .int 0, .null, .int 0, .ref q5, .ref q16, .ref q27, .int (-1), .int 0])))) H := hP
  obtain ⟨f10, hf10⟩ : ∃ z, z = va_up f9 h0 (.inr (4, [.int 0, .int 0, .null, .int 0, .ref q5, .ref q16, .ref q27, .int (-1), .int 0])) := ⟨_, rfl⟩
  rw [← hf10] at hP
  have F_q5_10 : f10 q5 = .inr (0, [.int (nI 0), .ref e0, .int (nI 0)]) := by rw [hf10, va_up_ne _ _ (show q5 ≠ h0 from (cell_ne F_q5_9 F_h0_9 (by intro e8; first | (cases e8; done) | (simp at e8; done))))]; exact F_q5_9
  have F_q16_10 : f10 q16 = .inr (0, [.int (nI 0), .ref e0, .int (nI 0)]) := by rw [hf10, va_up_ne _ _ (show q16 ≠ h0 from (cell_ne F_q16_9 F_h0_9 (by intro e8; first | (cases e8; done) | (simp at e8; done))))]; exact F_q16_9
  have F_q27_10 : f10 q27 = .inr (0, [.int (nI 0), .ref e0, .int (nI 0)]) := by rw [hf10, va_up_ne _ _ (show q27 ≠ h0 from (cell_ne F_q27_9 F_h0_9 (by intro e8; first | (cases e8; done) | (simp at e8; done))))]; exact F_q27_9
  have F_h0_10 : f10 h0 = .inr (4, [.int 0, .int 0, .null, .int 0, .ref q5, .ref q16, .ref q27, .int (-1), .int 0]) := by rw [hf10]; exact va_up_self _ _ _
  have hD : va_D (mA L sz) (va_pl (((L ++ [q5]) ++ [q16]) ++ [q27]) f10) := hE.D
  refine lv_aload_n hx hb dX3_init_42 rfl (lv_at hl 0 rfl) ?_
  refine lv_iload_n hx hb dX3_init_43 rfl (lv_at hl 1 rfl) ?_
  refine pl_putF (D := D) (ci := 4) (v := .int zi) (ty := .int) (C := RX3) (T := TX3) (N := 9) hx hb hts (by decide +kernel) tyX3 tyX3_ok nmX3 hown hK.1 hP hD hS M_h0_7 F_h0_10 rfl 0 (by decide) (hts (.fieldLink RX3 26 "ChooseTreeModel$Cls" "number" "I") (by decide +kernel)) (fun _ h9 => h9) rfl hin rfl (by decide +kernel) rfl rfl (Nat.le_of_ble_eq_true rfl) dX3_init_44 (fun H locs hP hS => ?_)
  replace hP : va_P D vwCl (va_pl (((L ++ [q5]) ++ [q16]) ++ [q27]) (va_up f10 h0 (.inr (4, [.int zi, .int 0, .null, .int 0, .ref q5, .ref q16, .ref q27, .int (-1), .int 0])))) H := hP
  obtain ⟨f11, hf11⟩ : ∃ z, z = va_up f10 h0 (.inr (4, [.int zi, .int 0, .null, .int 0, .ref q5, .ref q16, .ref q27, .int (-1), .int 0])) := ⟨_, rfl⟩
  rw [← hf11] at hP
  have F_q5_11 : f11 q5 = .inr (0, [.int (nI 0), .ref e0, .int (nI 0)]) := by rw [hf11, va_up_ne _ _ (show q5 ≠ h0 from (cell_ne F_q5_10 F_h0_10 (by intro e8; first | (cases e8; done) | (simp at e8; done))))]; exact F_q5_10
  have F_q16_11 : f11 q16 = .inr (0, [.int (nI 0), .ref e0, .int (nI 0)]) := by rw [hf11, va_up_ne _ _ (show q16 ≠ h0 from (cell_ne F_q16_10 F_h0_10 (by intro e8; first | (cases e8; done) | (simp at e8; done))))]; exact F_q16_10
  have F_q27_11 : f11 q27 = .inr (0, [.int (nI 0), .ref e0, .int (nI 0)]) := by rw [hf11, va_up_ne _ _ (show q27 ≠ h0 from (cell_ne F_q27_10 F_h0_10 (by intro e8; first | (cases e8; done) | (simp at e8; done))))]; exact F_q27_10
  have F_h0_11 : f11 h0 = .inr (4, [.int zi, .int 0, .null, .int 0, .ref q5, .ref q16, .ref q27, .int (-1), .int 0]) := by rw [hf11]; exact va_up_self _ _ _
  have hD : va_D (mA L sz) (va_pl (((L ++ [q5]) ++ [q16]) ++ [q27]) f11) := hE.D
  refine lv_aload_n hx hb dX3_init_47 rfl (lv_at hl 0 rfl) ?_
  refine lv_aload_n hx hb dX3_init_48 rfl (lv_at hl 2 rfl) ?_
  refine pl_putF (D := D) (ci := 4) (v := .ref zpr1) (ty := .object "ChooseTreeModel$Cls") (C := RX3) (T := TX3) (N := 9) hx hb hts (by decide +kernel) tyX3 tyX3_ok nmX3 hown hK.1 hP hD hS M_h0_7 F_h0_11 rfl 2 (by decide) (hts (.fieldLink RX3 29 "ChooseTreeModel$Cls" "parent" "LChooseTreeModel$Cls;") (by decide +kernel)) (fun _ h9 => h9) rfl hin rfl (by decide +kernel) rfl rfl (Nat.le_of_ble_eq_true rfl) dX3_init_49 (fun H locs hP hS => ?_)
  replace hP : va_P D vwCl (va_pl (((L ++ [q5]) ++ [q16]) ++ [q27]) (va_up f11 h0 (.inr (4, [.int zi, .int 0, .ref zpr1, .int 0, .ref q5, .ref q16, .ref q27, .int (-1), .int 0])))) H := hP
  obtain ⟨f12, hf12⟩ : ∃ z, z = va_up f11 h0 (.inr (4, [.int zi, .int 0, .ref zpr1, .int 0, .ref q5, .ref q16, .ref q27, .int (-1), .int 0])) := ⟨_, rfl⟩
  rw [← hf12] at hP
  have F_q5_12 : f12 q5 = .inr (0, [.int (nI 0), .ref e0, .int (nI 0)]) := by rw [hf12, va_up_ne _ _ (show q5 ≠ h0 from (cell_ne F_q5_11 F_h0_11 (by intro e8; first | (cases e8; done) | (simp at e8; done))))]; exact F_q5_11
  have F_q16_12 : f12 q16 = .inr (0, [.int (nI 0), .ref e0, .int (nI 0)]) := by rw [hf12, va_up_ne _ _ (show q16 ≠ h0 from (cell_ne F_q16_11 F_h0_11 (by intro e8; first | (cases e8; done) | (simp at e8; done))))]; exact F_q16_11
  have F_q27_12 : f12 q27 = .inr (0, [.int (nI 0), .ref e0, .int (nI 0)]) := by rw [hf12, va_up_ne _ _ (show q27 ≠ h0 from (cell_ne F_q27_11 F_h0_11 (by intro e8; first | (cases e8; done) | (simp at e8; done))))]; exact F_q27_11
  have F_h0_12 : f12 h0 = .inr (4, [.int zi, .int 0, .ref zpr1, .int 0, .ref q5, .ref q16, .ref q27, .int (-1), .int 0]) := by rw [hf12]; exact va_up_self _ _ _
  have hD : va_D (mA L sz) (va_pl (((L ++ [q5]) ++ [q16]) ++ [q27]) f12) := hE.D
  refine lv_aload_n hx hb dX3_init_52 rfl (lv_at hl 0 rfl) ?_
  refine lv_iload_n hx hb dX3_init_53 rfl (lv_at hl 3 rfl) ?_
  refine pl_putF (D := D) (ci := 4) (v := .int zpk) (ty := .int) (C := RX3) (T := TX3) (N := 9) hx hb hts (by decide +kernel) tyX3 tyX3_ok nmX3 hown hK.1 hP hD hS M_h0_7 F_h0_12 rfl 1 (by decide) (hts (.fieldLink RX3 33 "ChooseTreeModel$Cls" "pack" "I") (by decide +kernel)) (fun _ h9 => h9) rfl hin rfl (by decide +kernel) rfl rfl (Nat.le_of_ble_eq_true rfl) dX3_init_54 (fun H locs hP hS => ?_)
  replace hP : va_P D vwCl (va_pl (((L ++ [q5]) ++ [q16]) ++ [q27]) (va_up f12 h0 (.inr (4, [.int zi, .int zpk, .ref zpr1, .int 0, .ref q5, .ref q16, .ref q27, .int (-1), .int 0])))) H := hP
  obtain ⟨f13, hf13⟩ : ∃ z, z = va_up f12 h0 (.inr (4, [.int zi, .int zpk, .ref zpr1, .int 0, .ref q5, .ref q16, .ref q27, .int (-1), .int 0])) := ⟨_, rfl⟩
  rw [← hf13] at hP
  have F_q5_13 : f13 q5 = .inr (0, [.int (nI 0), .ref e0, .int (nI 0)]) := by rw [hf13, va_up_ne _ _ (show q5 ≠ h0 from (cell_ne F_q5_12 F_h0_12 (by intro e8; first | (cases e8; done) | (simp at e8; done))))]; exact F_q5_12
  have F_q16_13 : f13 q16 = .inr (0, [.int (nI 0), .ref e0, .int (nI 0)]) := by rw [hf13, va_up_ne _ _ (show q16 ≠ h0 from (cell_ne F_q16_12 F_h0_12 (by intro e8; first | (cases e8; done) | (simp at e8; done))))]; exact F_q16_12
  have F_q27_13 : f13 q27 = .inr (0, [.int (nI 0), .ref e0, .int (nI 0)]) := by rw [hf13, va_up_ne _ _ (show q27 ≠ h0 from (cell_ne F_q27_12 F_h0_12 (by intro e8; first | (cases e8; done) | (simp at e8; done))))]; exact F_q27_12
  have F_h0_13 : f13 h0 = .inr (4, [.int zi, .int zpk, .ref zpr1, .int 0, .ref q5, .ref q16, .ref q27, .int (-1), .int 0]) := by rw [hf13]; exact va_up_self _ _ _
  have hD : va_D (mA L sz) (va_pl (((L ++ [q5]) ++ [q16]) ++ [q27]) f13) := hE.D
  refine lv_aload_n hx hb dX3_init_57 rfl (lv_at hl 0 rfl) ?_
  refine lv_iload hx hb dX3_init_58 (lv_at hl 4 rfl) ?_
  refine pl_putF (D := D) (ci := 4) (v := .int (bI zb)) (ty := .boolean) (C := RX3) (T := TX3) (N := 9) hx hb hts (by decide +kernel) tyX3 tyX3_ok nmX3 hown hK.1 hP hD hS M_h0_7 F_h0_13 rfl 3 (by decide) (hts (.fieldLink RX3 36 "ChooseTreeModel$Cls" "isFace" "Z") (by decide +kernel)) (fun _ h9 => h9) rfl hin rfl (by decide +kernel) (bI_nar _) (by cases zb <;> rfl) (Nat.le_of_ble_eq_true rfl) dX3_init_60 (fun H locs hP hS => ?_)
  replace hP : va_P D vwCl (va_pl (((L ++ [q5]) ++ [q16]) ++ [q27]) (va_up f13 h0 (.inr (4, [.int zi, .int zpk, .ref zpr1, .int (bI zb), .ref q5, .ref q16, .ref q27, .int (-1), .int 0])))) H := hP
  obtain ⟨f14, hf14⟩ : ∃ z, z = va_up f13 h0 (.inr (4, [.int zi, .int zpk, .ref zpr1, .int (bI zb), .ref q5, .ref q16, .ref q27, .int (-1), .int 0])) := ⟨_, rfl⟩
  rw [← hf14] at hP
  have F_q5_14 : f14 q5 = .inr (0, [.int (nI 0), .ref e0, .int (nI 0)]) := by rw [hf14, va_up_ne _ _ (show q5 ≠ h0 from (cell_ne F_q5_13 F_h0_13 (by intro e8; first | (cases e8; done) | (simp at e8; done))))]; exact F_q5_13
  have F_q16_14 : f14 q16 = .inr (0, [.int (nI 0), .ref e0, .int (nI 0)]) := by rw [hf14, va_up_ne _ _ (show q16 ≠ h0 from (cell_ne F_q16_13 F_h0_13 (by intro e8; first | (cases e8; done) | (simp at e8; done))))]; exact F_q16_13
  have F_q27_14 : f14 q27 = .inr (0, [.int (nI 0), .ref e0, .int (nI 0)]) := by rw [hf14, va_up_ne _ _ (show q27 ≠ h0 from (cell_ne F_q27_13 F_h0_13 (by intro e8; first | (cases e8; done) | (simp at e8; done))))]; exact F_q27_13
  have F_h0_14 : f14 h0 = .inr (4, [.int zi, .int zpk, .ref zpr1, .int (bI zb), .ref q5, .ref q16, .ref q27, .int (-1), .int 0]) := by rw [hf14]; exact va_up_self _ _ _
  have hD : va_D (mA L sz) (va_pl (((L ++ [q5]) ++ [q16]) ++ [q27]) f14) := hE.D
  refine W.widen (k := 3) (n := 9) (by first | exact Nat.le_refl _ | omega) (by first | exact Nat.le_refl _ | omega) ?_
  exact W.vret hx hb hr (fun t ht hW => ⟨⟨((((L ++ [q5]) ++ [q16]) ++ [q27]), f14), rfl, ⟨⟨q5, q16, q27, rfl, ⟨hqq5, hqq16, hqq27⟩, ⟨hqsq5, hqsq16, hqsq27⟩, F_h0_14, F_q5_14, F_q16_14, F_q27_14, fun y hy hne => by show f14 y = f y; rw [hf14, va_up_ne _ _ hne, hf13, va_up_ne _ _ hne, hf12, va_up_ne _ _ hne, hf11, va_up_ne _ _ hne, hf10, va_up_ne _ _ hne, hf9, va_up_ne _ _ hne, hf8, va_up_ne _ _ (fun e9 : y = q27 => hqq27 (e9 ▸ (List.mem_append_left _ (List.mem_append_left _ hy) : y ∈ L ++ [q5] ++ [q16]))), hf7, va_up_ne _ _ (fun e9 : y = q27 => hqq27 (e9 ▸ (List.mem_append_left _ (List.mem_append_left _ hy) : y ∈ L ++ [q5] ++ [q16]))), hf6, va_up_ne _ _ hne, hf5, va_up_ne _ _ (fun e9 : y = q16 => hqq16 (e9 ▸ (List.mem_append_left _ hy : y ∈ L ++ [q5]))), hf4, va_up_ne _ _ (fun e9 : y = q16 => hqq16 (e9 ▸ (List.mem_append_left _ hy : y ∈ L ++ [q5]))), hf3, va_up_ne _ _ hne, hf2, va_up_ne _ _ (fun e9 : y = q5 => hqq5 (e9 ▸ hy)), hf1, va_up_ne _ _ (fun e9 : y = q5 => hqq5 (e9 ▸ hy))]⟩, hE⟩, show va_P D vwCl (va_pl _ _) t.heap from (by rw [ht]; exact hP)⟩, hS.F ht⟩) hS.2.2 dX3_init_63
theorem c_X3_init (l : Launch) (D : va_G) (cO : ClassId) (mi e0 : Nat) (L : List Nat) (f : Nat → va_E) (sz : Nat) (hnd : L.Nodup) (h0 : Nat) (hh0 : h0 ∈ L) (zi : Int32) (zpr : Option Nat) (zpk : Int32) (zb : Bool) (hf : f h0 = .inr (4, [.int 0, .int 0, .null, .int 0, .null, .null, .null, .int 0, .int 0])) : Met l yX3_init wsX3_init { frames := 4, cells := 3, slots := 9, locals := 72 } (mW D cO mi e0 L f sz [.ref h0, .int zi, va_rf zpr, .int zpk, .int (bI zb)]) (wQv D L sz (fun u => ∃ l1 l2 l3 : Nat, u.1 = L ++ [l1] ++ [l2] ++ [l3] ∧ (l1 ∉ L ∧ l2 ∉ L ++ [l1] ∧ l3 ∉ L ++ [l1] ++ [l2]) ∧ (sz ≤ l1 ∧ sz ≤ l2 ∧ sz ≤ l3) ∧ u.2 h0 = .inr (4, [.int zi, .int zpk, va_rf zpr, .int (bI zb), .ref l1, .ref l2, .ref l3, .int (-1), .int 0]) ∧ u.2 l1 = alc (nI 0) e0 0 ∧ u.2 l2 = alc (nI 0) e0 0 ∧ u.2 l3 = alc (nI 0) e0 0 ∧ ∀ y, y ∈ L → y ≠ h0 → u.2 y = f y)) 3 9 (mA L sz) := by
  cases zpr with
  | none => exact c_X3_init0 l D cO mi e0 L f sz hnd h0 hh0 zi zpk zb hf
  | some zp => exact c_X3_init1 l D cO mi e0 L f sz hnd h0 hh0 zi zp zpk zb hf
