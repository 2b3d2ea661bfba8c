set_option maxHeartbeats 4000000 in
set_option maxRecDepth 100000 in
theorem c_X5_isName (l : Launch) (D : va_G) (cO : ClassId) (mi : Nat) (L : List Nat) (f : Nat → va_E) (zx1 : Int32) : Met l yX5_isName wsX5_isName (rmC 0 0) (mP D cO mi L f [.int zx1]) (roQ (bI (t_isName zx1))) 0 0 (fun _ => False) := by
  refine Met.ofW (cc := cX5_isName) (maxL := 1) (ret := (some .boolean)) (by decide) rfl ?_
  intro p e s m args below meth cq s₁ B hml hv
  obtain ⟨rfl, hP, hK⟩ := hv
  have hx := B.exec
  have hb := B.bytes
  have hr := B.returns
  have hts := atoms_spec (ws := wsX5_isName) B.pre
  have hown : s.vm.findClass RX5 = some m.cls := findClass_of_methodNamed B.named
  have hlocks := B.notSynchronized
  clear B
  have hl := lv_entry ([.int zx1]) (n := 1) (Nat.le_of_ble_eq_true rfl)
  rw [lg_entry_eq]
  generalize (lg_sl ([.int zx1]) ++ List.replicate (1 - (lg_sl ([.int zx1])).length) Slot.unset).toArray = ls at hl ⊢
  replace hl : lv_has ls 1 [(0, .int zx1)] := hl
  refine gen_start (A := fun _ => False) (fun H locs hP hS => ?_) hP
  refine lv_iload_n hx hb dX5_isName_0 rfl (lv_at hl 0 rfl) ?_
  refine lv_if_lt (tgt := 14) hx hb dX5_isName_1 (by decide) (fun c_1 => ?_) (fun c_1 => ?_)
  · refine lv_iconst (v := (nI 0)) hx hb dX5_isName_14 (by decide) ?_
    exact W.zret (v := (nI 0)) hx hb hr rfl (fun t ht hW => ⟨⟨(nI 0), (), rfl, (by simp [t_isName, bI, c_1]), trivial⟩, hS.F ht⟩) hS.2.2 dX5_isName_15
  · refine lv_iload_n hx hb dX5_isName_4 rfl (lv_at hl 0 rfl) ?_
    refine lv_bipush (v := (nI 32)) hx hb dX5_isName_5 (by decide) ?_
    refine lv_icmp_ge (tgt := 14) hx hb dX5_isName_7 (by decide) (fun c_2 => ?_) (fun c_2 => ?_)
    · refine lv_iconst (v := (nI 0)) hx hb dX5_isName_14 (by decide) ?_
      exact W.zret (v := (nI 0)) hx hb hr rfl (fun t ht hW => ⟨⟨(nI 0), (), rfl, (by simp [t_isName, bI, c_1, c_2]), trivial⟩, hS.F ht⟩) hS.2.2 dX5_isName_15
    · refine lv_iconst (v := (nI 1)) hx hb dX5_isName_10 (by decide) ?_
      refine lv_goto (tgt := 15) hx hb dX5_isName_11 (by decide) ?_
      exact W.zret (v := (nI 1)) hx hb hr rfl (fun t ht hW => ⟨⟨(nI 1), (), rfl, (by simp [t_isName, bI, c_1, c_2]), trivial⟩, hS.F ht⟩) hS.2.2 dX5_isName_15
set_option maxHeartbeats 4000000 in
set_option maxRecDepth 100000 in
theorem c_X5_at (l : Launch) (D : va_G) (cO : ClassId) (mi : Nat) (L : List Nat) (f : Nat → va_E) (e0 : Nat) (τ : MT) (hM : MI e0 cO L f τ) (zx1 : Int32) : Met l yX5_at wsX5_at (rmC 3 64) (mP D cO mi L f [.ref (mt_x τ), .int zx1]) (roR (t_at τ zx1)) 0 0 (fun _ => False) := by
  refine Met.ofW (cc := cX5_at) (maxL := 2) (ret := (some (.object "ChooseTreeModel$Cls"))) (by decide) rfl ?_
  intro p e s m args below meth cq s₁ B hml hv
  obtain ⟨rfl, hP, hK⟩ := hv
  have hx := B.exec
  have hb := B.bytes
  have hr := B.returns
  have hts := atoms_spec (ws := wsX5_at) B.pre
  have hown : s.vm.findClass RX5 = some m.cls := findClass_of_methodNamed B.named
  have hlocks := B.notSynchronized
  clear B
  have hl := lv_entry ([.ref (mt_x τ), .int zx1]) (n := 2) (Nat.le_of_ble_eq_true rfl)
  rw [lg_entry_eq]
  generalize (lg_sl ([.ref (mt_x τ), .int zx1]) ++ List.replicate (2 - (lg_sl ([.ref (mt_x τ), .int zx1])).length) Slot.unset).toArray = ls at hl ⊢
  replace hl : lv_has ls 2 [(0, .ref (mt_x τ)), (1, .int zx1)] := hl
  refine gen_start (A := fun _ => False) (fun H locs hP hS => ?_) hP
  have hMb := hM.b
  refine lv_iload_n hx hb dX5_at_0 rfl (lv_at hl 1 rfl) ?_
  refine lv_if_lt (tgt := 29) hx hb dX5_at_1 (by decide) (fun c_1 => ?_) (fun c_1 => ?_)
  · refine lv_null hx hb dX5_at_29 ?_
    exact W.aret (v := va_rf none) hx hb hr (Or.inl ⟨_, rfl⟩) (va_rf_or _) (fun t ht hW => ⟨⟨none, (), rfl, (by simp [t_at, c_1]), trivial⟩, hS.F ht⟩) hS.2.2 dX5_at_30
  · refine lv_iload_n hx hb dX5_at_4 rfl (lv_at hl 1 rfl) ?_
    refine lv_aload_n hx hb dX5_at_5 rfl (lv_at hl 0 rfl) ?_
    refine pl_get (D := D) (ci := 6) (v := .ref (mt_c τ)) (C := RX5) (T := TX5) (N := 3) hx hb hts (by decide +kernel) hown hK.1 hP hM.x.1 hM.x.2 rfl 0 (by decide) (hts (.fieldLink RX5 10 "ChooseTreeModel" "classes" "Ljava/util/ArrayList;") (by decide +kernel)) (fun _ h9 => h9) rfl dX5_at_6 ?_
    obtain ⟨mcz2, gz2, hfz2, hgz2, hcz2⟩ := hM.ly.raw (b := (mt_c τ)) hM.c.1 hM.c.2
    refine va_calli (va_runV (As := []) (rest := [.int zx1]) ⟨hx, hb, hml, hown, hts⟩ (c_Jx4a65c_size_8abf5 l D cO mi L f (mt_c τ) hM.c.1 mcz2 (ls_dat (mt_ls τ) (mt_c τ)) (mt_cnt τ (mt_c τ)) hfz2) (cwV 0 hts gX5_at_Jx4a65c_size_8abf5 rfl rfl rfl (by decide +kernel) ⟨Nat.le_of_ble_eq_true rfl, Nat.le_of_ble_eq_true rfl⟩) (mP_V hK hP 0 rfl hM.c.1 hfz2) rfl rfl hl.1 rfl (lv_room (Nat.le_of_ble_eq_true rfl)) dX5_at_9 ⟨Nat.le_of_ble_eq_true rfl, Nat.le_of_ble_eq_true rfl⟩) hS (fun _ _ h => h.elim) (fun _ h => h.elim) (fun r_3 u t H1 locs ht hvm hw hB hz1 hk1 hS => ?_)
    replace hP := ro_kept hP hk1
    obtain rfl : r_3 = _ := hw
    clear hk1 hz1 hvm ht hB
    generalize H1 = H at hP hS ⊢
    rw [show (mt_cnt τ (mt_c τ)) = mt_n τ from hM.cs.1]
    clear hcz2 hgz2
    refine lv_icmp_ge (tgt := 29) hx hb dX5_at_12 (by decide) (fun c_4 => ?_) (fun c_4 => ?_)
    · refine lv_null hx hb dX5_at_29 ?_
      exact W.aret (v := va_rf none) hx hb hr (Or.inl ⟨_, rfl⟩) (va_rf_or _) (fun t ht hW => ⟨⟨none, (), rfl, (by simp [t_at, c_1, c_4]), trivial⟩, hS.F ht⟩) hS.2.2 dX5_at_30
    · obtain ⟨zj1, hzj1, ezj1⟩ := ix_of (x := zx1) (n := mt_n τ) (by omega) (by simp [c_1, c_4])
      subst ezj1
      have hclz := nI_clamp (n := zj1) (by omega)
      refine lv_aload_n hx hb dX5_at_15 rfl (lv_at hl 0 rfl) ?_
      refine pl_get (D := D) (ci := 6) (v := .ref (mt_c τ)) (C := RX5) (T := TX5) (N := 3) hx hb hts (by decide +kernel) hown hK.1 hP hM.x.1 hM.x.2 rfl 0 (by decide) (hts (.fieldLink RX5 10 "ChooseTreeModel" "classes" "Ljava/util/ArrayList;") (by decide +kernel)) (fun _ h9 => h9) rfl dX5_at_16 ?_
      refine lv_iload_n hx hb dX5_at_19 rfl (lv_at hl 1 rfl) ?_
      obtain ⟨mcz5, gz5, hfz5, hdz5, hfdz5, hcnz5, hcpz5, hgiz5⟩ := hM.ly.get (b := (mt_c τ)) (i := zj1) hM.c.1 hM.c.2 (show zj1 < (mt_cnt τ (mt_c τ)) from by rw [show (mt_cnt τ (mt_c τ)) = mt_n τ from hM.cs.1]; exact hzj1)
      replace hgiz5 : gz5 zj1 = some (mt_ca τ zj1) := hgiz5.trans (congrArg some (hM.cs.2 zj1 hzj1))
      refine va_callq (va_runV (As := [.int (nI zj1)]) (rest := []) ⟨hx, hb, hml, hown, hts⟩ (c_Jx4a65c_get_915e3 l D cO mi L f (mt_c τ) hM.c.1 mcz5 (ls_dat (mt_ls τ) (mt_c τ)) (mt_cnt τ (mt_c τ)) hfz5 hdz5 (ls_cap (mt_ls τ) (mt_c τ)) gz5 hfdz5 hcnz5 hcpz5 zj1 (show zj1 < (mt_cnt τ (mt_c τ)) from by rw [show (mt_cnt τ (mt_c τ)) = mt_n τ from hM.cs.1]; exact hzj1)) (cwV 1 hts gX5_at_Jx4a65c_get_915e3 rfl rfl rfl (by decide +kernel) ⟨Nat.le_of_ble_eq_true rfl, Nat.le_of_ble_eq_true rfl⟩) (mP_V hK hP 0 rfl hM.c.1 hfz5) rfl rfl hl.1 rfl (lv_room (Nat.le_of_ble_eq_true rfl)) dX5_at_20 ⟨Nat.le_of_ble_eq_true rfl, Nat.le_of_ble_eq_true rfl⟩) hS (fun _ _ h => h.elim) (fun _ h => h.elim) (fun r_6 u t H1 locs ht hvm hw hB hz1 hk1 hS => ?_)
      replace hP := ro_kept hP hk1
      obtain rfl : r_6 = _ := hw
      clear hk1 hz1 hvm ht hB
      generalize H1 = H at hP hS ⊢
      rw [hgiz5]
      clear hgiz5 hfdz5 hdz5 hcnz5 hcpz5
      refine va_castY (C := RX3) hx hb hown (hts (.classLink RX5 19 RX3) (by decide +kernel)) hK.2.2.2.2.2.2.1 (pl_recv (ci := 4) hK.1 hP rfl (hM.cl hzj1).1 (hM.cl hzj1).2.1) dX5_at_23 ?_
      refine lv_goto (tgt := 30) hx hb dX5_at_26 (by decide) ?_
      exact W.aret (v := va_rf (some (mt_ca τ zj1))) hx hb hr (Or.inl ⟨_, rfl⟩) (va_rf_or _) (fun t ht hW => ⟨⟨(some (mt_ca τ zj1)), (), rfl, (by simp [t_at, c_1, c_4, hclz]), trivial⟩, hS.F ht⟩) hS.2.2 dX5_at_30
set_option maxHeartbeats 4000000 in
set_option maxRecDepth 100000 in
theorem c_X5_met (l : Launch) (D : va_G) (cO : ClassId) (mi : Nat) (L : List Nat) (f : Nat → va_E) (e0 : Nat) (τ : MT) (hM : MI e0 cO L f τ) (zx1 : Int32) : Met l yX5_met wsX5_met (rmC 3 64) (mP D cO mi L f [.ref (mt_x τ), .int zx1]) (roR (t_met τ zx1)) 0 0 (fun _ => False) := by
  refine Met.ofW (cc := cX5_met) (maxL := 2) (ret := (some (.object "ChooseTreeModel$Met"))) (by decide) rfl ?_
  intro p e s m args below meth cq s₁ B hml hv
  obtain ⟨rfl, hP, hK⟩ := hv
  have hx := B.exec
  have hb := B.bytes
  have hr := B.returns
  have hts := atoms_spec (ws := wsX5_met) B.pre
  have hown : s.vm.findClass RX5 = some m.cls := findClass_of_methodNamed B.named
  have hlocks := B.notSynchronized
  clear B
  have hl := lv_entry ([.ref (mt_x τ), .int zx1]) (n := 2) (Nat.le_of_ble_eq_true rfl)
  rw [lg_entry_eq]
  generalize (lg_sl ([.ref (mt_x τ), .int zx1]) ++ List.replicate (2 - (lg_sl ([.ref (mt_x τ), .int zx1])).length) Slot.unset).toArray = ls at hl ⊢
  replace hl : lv_has ls 2 [(0, .ref (mt_x τ)), (1, .int zx1)] := hl
  refine gen_start (A := fun _ => False) (fun H locs hP hS => ?_) hP
  have hMb := hM.b
  refine lv_iload_n hx hb dX5_met_0 rfl (lv_at hl 1 rfl) ?_
  refine lv_if_lt (tgt := 29) hx hb dX5_met_1 (by decide) (fun c_1 => ?_) (fun c_1 => ?_)
  · refine lv_null hx hb dX5_met_29 ?_
    exact W.aret (v := va_rf none) hx hb hr (Or.inl ⟨_, rfl⟩) (va_rf_or _) (fun t ht hW => ⟨⟨none, (), rfl, (by simp [t_met, c_1]), trivial⟩, hS.F ht⟩) hS.2.2 dX5_met_30
  · refine lv_iload_n hx hb dX5_met_4 rfl (lv_at hl 1 rfl) ?_
    refine lv_aload_n hx hb dX5_met_5 rfl (lv_at hl 0 rfl) ?_
    refine pl_get (D := D) (ci := 6) (v := .ref (mt_m τ)) (C := RX5) (T := TX5) (N := 3) hx hb hts (by decide +kernel) hown hK.1 hP hM.x.1 hM.x.2 rfl 1 (by decide) (hts (.fieldLink RX5 16 "ChooseTreeModel" "methods" "Ljava/util/ArrayList;") (by decide +kernel)) (fun _ h9 => h9) rfl dX5_met_6 ?_
    obtain ⟨mcz2, gz2, hfz2, hgz2, hcz2⟩ := hM.ly.raw (b := (mt_m τ)) hM.m.1 hM.m.2
    refine va_calli (va_runV (As := []) (rest := [.int zx1]) ⟨hx, hb, hml, hown, hts⟩ (c_Jx4a65c_size_8abf5 l D cO mi L f (mt_m τ) hM.m.1 mcz2 (ls_dat (mt_ls τ) (mt_m τ)) (mt_cnt τ (mt_m τ)) hfz2) (cwV 0 hts gX5_met_Jx4a65c_size_8abf5 rfl rfl rfl (by decide +kernel) ⟨Nat.le_of_ble_eq_true rfl, Nat.le_of_ble_eq_true rfl⟩) (mP_V hK hP 0 rfl hM.m.1 hfz2) rfl rfl hl.1 rfl (lv_room (Nat.le_of_ble_eq_true rfl)) dX5_met_9 ⟨Nat.le_of_ble_eq_true rfl, Nat.le_of_ble_eq_true rfl⟩) hS (fun _ _ h => h.elim) (fun _ h => h.elim) (fun r_3 u t H1 locs ht hvm hw hB hz1 hk1 hS => ?_)
    replace hP := ro_kept hP hk1
    obtain rfl : r_3 = _ := hw
    clear hk1 hz1 hvm ht hB
    generalize H1 = H at hP hS ⊢
    rw [show (mt_cnt τ (mt_m τ)) = mt_mn τ from hM.ms.1]
    clear hcz2 hgz2
    refine lv_icmp_ge (tgt := 29) hx hb dX5_met_12 (by decide) (fun c_4 => ?_) (fun c_4 => ?_)
    · refine lv_null hx hb dX5_met_29 ?_
      exact W.aret (v := va_rf none) hx hb hr (Or.inl ⟨_, rfl⟩) (va_rf_or _) (fun t ht hW => ⟨⟨none, (), rfl, (by simp [t_met, c_1, c_4]), trivial⟩, hS.F ht⟩) hS.2.2 dX5_met_30
    · obtain ⟨zj1, hzj1, ezj1⟩ := ix_of (x := zx1) (n := mt_mn τ) (by omega) (by simp [c_1, c_4])
      subst ezj1
      have hclz := nI_clamp (n := zj1) (by omega)
      refine lv_aload_n hx hb dX5_met_15 rfl (lv_at hl 0 rfl) ?_
      refine pl_get (D := D) (ci := 6) (v := .ref (mt_m τ)) (C := RX5) (T := TX5) (N := 3) hx hb hts (by decide +kernel) hown hK.1 hP hM.x.1 hM.x.2 rfl 1 (by decide) (hts (.fieldLink RX5 16 "ChooseTreeModel" "methods" "Ljava/util/ArrayList;") (by decide +kernel)) (fun _ h9 => h9) rfl dX5_met_16 ?_
      refine lv_iload_n hx hb dX5_met_19 rfl (lv_at hl 1 rfl) ?_
      obtain ⟨mcz5, gz5, hfz5, hdz5, hfdz5, hcnz5, hcpz5, hgiz5⟩ := hM.ly.get (b := (mt_m τ)) (i := zj1) hM.m.1 hM.m.2 (show zj1 < (mt_cnt τ (mt_m τ)) from by rw [show (mt_cnt τ (mt_m τ)) = mt_mn τ from hM.ms.1]; exact hzj1)
      replace hgiz5 : gz5 zj1 = some (mt_ja τ zj1) := hgiz5.trans (congrArg some (hM.ms.2 zj1 hzj1))
      refine va_callq (va_runV (As := [.int (nI zj1)]) (rest := []) ⟨hx, hb, hml, hown, hts⟩ (c_Jx4a65c_get_915e3 l D cO mi L f (mt_m τ) hM.m.1 mcz5 (ls_dat (mt_ls τ) (mt_m τ)) (mt_cnt τ (mt_m τ)) hfz5 hdz5 (ls_cap (mt_ls τ) (mt_m τ)) gz5 hfdz5 hcnz5 hcpz5 zj1 (show zj1 < (mt_cnt τ (mt_m τ)) from by rw [show (mt_cnt τ (mt_m τ)) = mt_mn τ from hM.ms.1]; exact hzj1)) (cwV 1 hts gX5_met_Jx4a65c_get_915e3 rfl rfl rfl (by decide +kernel) ⟨Nat.le_of_ble_eq_true rfl, Nat.le_of_ble_eq_true rfl⟩) (mP_V hK hP 0 rfl hM.m.1 hfz5) rfl rfl hl.1 rfl (lv_room (Nat.le_of_ble_eq_true rfl)) dX5_met_20 ⟨Nat.le_of_ble_eq_true rfl, Nat.le_of_ble_eq_true rfl⟩) hS (fun _ _ h => h.elim) (fun _ h => h.elim) (fun r_6 u t H1 locs ht hvm hw hB hz1 hk1 hS => ?_)
      replace hP := ro_kept hP hk1
      obtain rfl : r_6 = _ := hw
      clear hk1 hz1 hvm ht hB
      generalize H1 = H at hP hS ⊢
      rw [hgiz5]
      clear hgiz5 hfdz5 hdz5 hcnz5 hcpz5
      refine va_castY (C := RX4) hx hb hown (hts (.classLink RX5 36 RX4) (by decide +kernel)) hK.2.2.2.2.2.2.2 (pl_recv (ci := 5) hK.1 hP rfl (hM.me hzj1).1 (hM.me hzj1).2.1) dX5_met_23 ?_
      refine lv_goto (tgt := 30) hx hb dX5_met_26 (by decide) ?_
      exact W.aret (v := va_rf (some (mt_ja τ zj1))) hx hb hr (Or.inl ⟨_, rfl⟩) (va_rf_or _) (fun t ht hW => ⟨⟨(some (mt_ja τ zj1)), (), rfl, (by simp [t_met, c_1, c_4, hclz]), trivial⟩, hS.F ht⟩) hS.2.2 dX5_met_30
set_option maxHeartbeats 4000000 in
set_option maxRecDepth 100000 in
theorem c_X3_named (l : Launch) (D : va_G) (cO : ClassId) (mi : Nat) (L : List Nat) (f : Nat → va_E) (e0 : Nat) (τ : MT) (hM : MI e0 cO L f τ) (zi : Nat) (hzi : zi < mt_n τ) (zx1 : Int32) : Met l yX3_named wsX3_named (rmC 3 64) (mP D cO mi L f [.ref (mt_ca τ zi), .int zx1]) (roR (t_named τ zi zx1)) 0 0 (fun _ => False) := by
  refine Met.ofW (cc := cX3_named) (maxL := 3) (ret := (some (.object "ChooseTreeModel$Met"))) (by decide) rfl ?_
  intro p e s m args below meth cq s₁ B hml hv
  obtain ⟨rfl, hP, hK⟩ := hv
  have hx := B.exec
  have hb := B.bytes
  have hr := B.returns
  have hts := atoms_spec (ws := wsX3_named) B.pre
  have hown : s.vm.findClass RX3 = some m.cls := findClass_of_methodNamed B.named
  have hlocks := B.notSynchronized
  clear B
  have hl := lv_entry ([.ref (mt_ca τ zi), .int zx1]) (n := 3) (Nat.le_of_ble_eq_true rfl)
  rw [lg_entry_eq]
  generalize (lg_sl ([.ref (mt_ca τ zi), .int zx1]) ++ List.replicate (3 - (lg_sl ([.ref (mt_ca τ zi), .int zx1])).length) Slot.unset).toArray = ls at hl ⊢
  replace hl : lv_has ls 3 [(0, .ref (mt_ca τ zi)), (1, .int zx1)] := hl
  refine gen_start (A := fun _ => False) (fun H locs hP hS => ?_) hP
  have hMb := hM.b
  have hMl := (hM.cl hzi).2.2.2.2.1
  refine lv_iconst (v := (nI 0)) hx hb dX3_named_0 (by decide) ?_
  refine lv_istore_n (lv' := [(2, .int (nI 0)), (0, .ref (mt_ca τ zi)), (1, .int zx1)]) hx hb dX3_named_1 rfl hl (by decide) rfl (fun ls hl => ?_)
  obtain ⟨zn, hzn⟩ : ∃ z : Nat, z = (mt_cnt τ (mt_ma τ zi)) := ⟨_, rfl⟩
  obtain ⟨zk, hzk⟩ : ∃ z : Nat, z = 0 := ⟨_, rfl⟩
  have hE9 : zk + zn = (mt_cnt τ (mt_ma τ zi)) := by omega
  have hres : t_scan τ zi zx1 zn zk = t_named τ zi zx1 := by rw [hzn, hzk]; try rfl
  replace hl : lv_has ls 3 [(2, .int (nI zk)), (0, .ref (mt_ca τ zi)), (1, .int zx1)] := by rw [hzk]; exact hl
  clear hzn hzk
  revert hl
  revert hres
  revert hE9
  revert hS
  revert hP
  revert ls
  revert locs
  revert H
  revert zk
  induction zn with
  | zero =>
    intro zk H locs ls hP hS hE9 hres hl
    refine lv_iload_n hx hb dX3_named_2 rfl (lv_at hl 0 rfl) ?_
    refine lv_aload_n hx hb dX3_named_3 rfl (lv_at hl 1 rfl) ?_
    refine pl_get (D := D) (ci := 4) (v := .ref (mt_ma τ zi)) (C := RX3) (T := TX3) (N := 9) hx hb hts (by decide +kernel) hown hK.1 hP (hM.cl hzi).1 (hM.cl hzi).2.1 rfl 5 (by decide) (hts (.fieldLink RX3 16 "ChooseTreeModel$Cls" "methods" "Ljava/util/ArrayList;") (by decide +kernel)) (fun _ h9 => h9) rfl dX3_named_4 ?_
    obtain ⟨mcz1, gz1, hfz1, hgz1, hcz1⟩ := hM.ly.raw (b := (mt_ma τ zi)) (hM.ma hzi).1 (hM.ma hzi).2
    refine va_calli (va_runV (As := []) (rest := [.int (nI zk)]) ⟨hx, hb, hml, hown, hts⟩ (c_Jx4a65c_size_8abf5 l D cO mi L f (mt_ma τ zi) (hM.ma hzi).1 mcz1 (ls_dat (mt_ls τ) (mt_ma τ zi)) (mt_cnt τ (mt_ma τ zi)) hfz1) (cwV 0 hts gX3_named_Jx4a65c_size_8abf5 rfl rfl rfl (by decide +kernel) ⟨Nat.le_of_ble_eq_true rfl, Nat.le_of_ble_eq_true rfl⟩) (mP_V hK hP 0 rfl (hM.ma hzi).1 hfz1) rfl rfl hl.1 rfl (lv_room (Nat.le_of_ble_eq_true rfl)) dX3_named_7 ⟨Nat.le_of_ble_eq_true rfl, Nat.le_of_ble_eq_true rfl⟩) hS (fun _ _ h => h.elim) (fun _ h => h.elim) (fun r_2 u t H1 locs ht hvm hw hB hz1 hk1 hS => ?_)
    replace hP := ro_kept hP hk1
    obtain rfl : r_2 = _ := hw
    clear hk1 hz1 hvm ht hB
    generalize H1 = H at hP hS ⊢
    clear hcz1 hgz1
    refine lv_icmp_ge (tgt := 49) hx hb dX3_named_10 (by decide) (fun c_3 => ?_) (fun c_3 => ?_)
    · refine lv_null hx hb dX3_named_49 ?_
      exact W.aret (v := va_rf none) hx hb hr (Or.inl ⟨_, rfl⟩) (va_rf_or _) (fun t ht hW => ⟨⟨none, (), rfl, (by rw [← hres]; rfl), trivial⟩, hS.F ht⟩) hS.2.2 dX3_named_50
    · exact absurd (nI_le (by omega) (by omega)) c_3
  | succ zn ih =>
    intro zk H locs ls hP hS hE9 hres hl
    refine lv_iload_n hx hb dX3_named_2 rfl (lv_at hl 0 rfl) ?_
    refine lv_aload_n hx hb dX3_named_3 rfl (lv_at hl 1 rfl) ?_
    refine pl_get (D := D) (ci := 4) (v := .ref (mt_ma τ zi)) (C := RX3) (T := TX3) (N := 9) hx hb hts (by decide +kernel) hown hK.1 hP (hM.cl hzi).1 (hM.cl hzi).2.1 rfl 5 (by decide) (hts (.fieldLink RX3 16 "ChooseTreeModel$Cls" "methods" "Ljava/util/ArrayList;") (by decide +kernel)) (fun _ h9 => h9) rfl dX3_named_4 ?_
    obtain ⟨mcz4, gz4, hfz4, hgz4, hcz4⟩ := hM.ly.raw (b := (mt_ma τ zi)) (hM.ma hzi).1 (hM.ma hzi).2
    refine va_calli (va_runV (As := []) (rest := [.int (nI zk)]) ⟨hx, hb, hml, hown, hts⟩ (c_Jx4a65c_size_8abf5 l D cO mi L f (mt_ma τ zi) (hM.ma hzi).1 mcz4 (ls_dat (mt_ls τ) (mt_ma τ zi)) (mt_cnt τ (mt_ma τ zi)) hfz4) (cwV 0 hts gX3_named_Jx4a65c_size_8abf5 rfl rfl rfl (by decide +kernel) ⟨Nat.le_of_ble_eq_true rfl, Nat.le_of_ble_eq_true rfl⟩) (mP_V hK hP 0 rfl (hM.ma hzi).1 hfz4) rfl rfl hl.1 rfl (lv_room (Nat.le_of_ble_eq_true rfl)) dX3_named_7 ⟨Nat.le_of_ble_eq_true rfl, Nat.le_of_ble_eq_true rfl⟩) hS (fun _ _ h => h.elim) (fun _ h => h.elim) (fun r_5 u t H1 locs ht hvm hw hB hz1 hk1 hS => ?_)
    replace hP := ro_kept hP hk1
    obtain rfl : r_5 = _ := hw
    clear hk1 hz1 hvm ht hB
    generalize H1 = H at hP hS ⊢
    clear hcz4 hgz4
    refine lv_icmp_ge (tgt := 49) hx hb dX3_named_10 (by decide) (fun c_6 => ?_) (fun c_6 => ?_)
    · exact absurd c_6 (nI_ge (by omega) (by omega))
    · refine lv_aload_n hx hb dX3_named_13 rfl (lv_at hl 1 rfl) ?_
      refine pl_get (D := D) (ci := 4) (v := .ref (mt_ma τ zi)) (C := RX3) (T := TX3) (N := 9) hx hb hts (by decide +kernel) hown hK.1 hP (hM.cl hzi).1 (hM.cl hzi).2.1 rfl 5 (by decide) (hts (.fieldLink RX3 16 "ChooseTreeModel$Cls" "methods" "Ljava/util/ArrayList;") (by decide +kernel)) (fun _ h9 => h9) rfl dX3_named_14 ?_
      refine lv_iload_n hx hb dX3_named_17 rfl (lv_at hl 0 rfl) ?_
      obtain ⟨mcz7, gz7, hfz7, hdz7, hfdz7, hcnz7, hcpz7, hgiz7⟩ := hM.ly.get (b := (mt_ma τ zi)) (i := zk) (hM.ma hzi).1 (hM.ma hzi).2 (show zk < (mt_cnt τ (mt_ma τ zi)) by omega)
      replace hgiz7 : gz7 zk = some (mt_ja τ (mt_ml τ zi zk)) := hgiz7.trans (congrArg some (hMl.2 zk (show zk < (mt_cnt τ (mt_ma τ zi)) by omega)).2)
      refine va_callq (va_runV (As := [.int (nI zk)]) (rest := []) ⟨hx, hb, hml, hown, hts⟩ (c_Jx4a65c_get_915e3 l D cO mi L f (mt_ma τ zi) (hM.ma hzi).1 mcz7 (ls_dat (mt_ls τ) (mt_ma τ zi)) (mt_cnt τ (mt_ma τ zi)) hfz7 hdz7 (ls_cap (mt_ls τ) (mt_ma τ zi)) gz7 hfdz7 hcnz7 hcpz7 zk (show zk < (mt_cnt τ (mt_ma τ zi)) by omega)) (cwV 1 hts gX3_named_Jx4a65c_get_915e3 rfl rfl rfl (by decide +kernel) ⟨Nat.le_of_ble_eq_true rfl, Nat.le_of_ble_eq_true rfl⟩) (mP_V hK hP 0 rfl (hM.ma hzi).1 hfz7) rfl rfl hl.1 rfl (lv_room (Nat.le_of_ble_eq_true rfl)) dX3_named_18 ⟨Nat.le_of_ble_eq_true rfl, Nat.le_of_ble_eq_true rfl⟩) hS (fun _ _ h => h.elim) (fun _ h => h.elim) (fun r_8 u t H1 locs ht hvm hw hB hz1 hk1 hS => ?_)
      replace hP := ro_kept hP hk1
      obtain rfl : r_8 = _ := hw
      clear hk1 hz1 hvm ht hB
      generalize H1 = H at hP hS ⊢
      rw [hgiz7]
      clear hgiz7 hfdz7 hdz7 hcnz7 hcpz7
      refine va_castY (C := RX4) hx hb hown (hts (.classLink RX3 48 RX4) (by decide +kernel)) hK.2.2.2.2.2.2.2 (pl_recv (ci := 5) hK.1 hP rfl (hM.me (hMl.2 zk (show zk < (mt_cnt τ (mt_ma τ zi)) by omega)).1).1 (hM.me (hMl.2 zk (show zk < (mt_cnt τ (mt_ma τ zi)) by omega)).1).2.1) dX3_named_21 ?_
      refine pl_get (D := D) (ci := 5) (v := .int (mt_nm τ (mt_ml τ zi zk))) (C := RX4) (T := TX4) (N := 7) hx hb hts (by decide +kernel) hown hK.1 hP (hM.me (hMl.2 zk (show zk < (mt_cnt τ (mt_ma τ zi)) by omega)).1).1 (hM.me (hMl.2 zk (show zk < (mt_cnt τ (mt_ma τ zi)) by omega)).1).2.1 rfl 1 (by decide) (hts (.fieldLink RX3 50 "ChooseTreeModel$Met" "name" "I") (by decide +kernel)) (fun _ h9 => h9) rfl dX3_named_24 ?_
      refine lv_iload_n hx hb dX3_named_27 rfl (lv_at hl 2 rfl) ?_
      refine lv_icmp_ne (tgt := 43) hx hb dX3_named_28 (by decide) (fun c_9 => ?_) (fun c_9 => ?_)
      · refine lv_iinc (v := (nI (zk + 1))) (lv' := [(2, .int (nI (zk + 1))), (0, .ref (mt_ca τ zi)), (1, .int zx1)]) hx hb dX3_named_43 hl (k := 0) rfl (nI_1 _) (by decide) rfl (fun ls hl => ?_)
        refine lv_goto (tgt := 2) hx hb dX3_named_46 (by decide) ?_
        exact ih (zk + 1) H locs ls hP hS (by omega) (by rw [← hres]; simp [t_scan, c_6, c_9]) (lv_sub hl [0, 1, 2] rfl)
      · refine lv_aload_n hx hb dX3_named_31 rfl (lv_at hl 1 rfl) ?_
        refine pl_get (D := D) (ci := 4) (v := .ref (mt_ma τ zi)) (C := RX3) (T := TX3) (N := 9) hx hb hts (by decide +kernel) hown hK.1 hP (hM.cl hzi).1 (hM.cl hzi).2.1 rfl 5 (by decide) (hts (.fieldLink RX3 16 "ChooseTreeModel$Cls" "methods" "Ljava/util/ArrayList;") (by decide +kernel)) (fun _ h9 => h9) rfl dX3_named_32 ?_
        refine lv_iload_n hx hb dX3_named_35 rfl (lv_at hl 0 rfl) ?_
        obtain ⟨mcz10, gz10, hfz10, hdz10, hfdz10, hcnz10, hcpz10, hgiz10⟩ := hM.ly.get (b := (mt_ma τ zi)) (i := zk) (hM.ma hzi).1 (hM.ma hzi).2 (show zk < (mt_cnt τ (mt_ma τ zi)) by omega)
        replace hgiz10 : gz10 zk = some (mt_ja τ (mt_ml τ zi zk)) := hgiz10.trans (congrArg some (hMl.2 zk (show zk < (mt_cnt τ (mt_ma τ zi)) by omega)).2)
        refine va_callq (va_runV (As := [.int (nI zk)]) (rest := []) ⟨hx, hb, hml, hown, hts⟩ (c_Jx4a65c_get_915e3 l D cO mi L f (mt_ma τ zi) (hM.ma hzi).1 mcz10 (ls_dat (mt_ls τ) (mt_ma τ zi)) (mt_cnt τ (mt_ma τ zi)) hfz10 hdz10 (ls_cap (mt_ls τ) (mt_ma τ zi)) gz10 hfdz10 hcnz10 hcpz10 zk (show zk < (mt_cnt τ (mt_ma τ zi)) by omega)) (cwV 1 hts gX3_named_Jx4a65c_get_915e3 rfl rfl rfl (by decide +kernel) ⟨Nat.le_of_ble_eq_true rfl, Nat.le_of_ble_eq_true rfl⟩) (mP_V hK hP 0 rfl (hM.ma hzi).1 hfz10) rfl rfl hl.1 rfl (lv_room (Nat.le_of_ble_eq_true rfl)) dX3_named_36 ⟨Nat.le_of_ble_eq_true rfl, Nat.le_of_ble_eq_true rfl⟩) hS (fun _ _ h => h.elim) (fun _ h => h.elim) (fun r_11 u t H1 locs ht hvm hw hB hz1 hk1 hS => ?_)
        replace hP := ro_kept hP hk1
        obtain rfl : r_11 = _ := hw
        clear hk1 hz1 hvm ht hB
        generalize H1 = H at hP hS ⊢
        rw [hgiz10]
        clear hgiz10 hfdz10 hdz10 hcnz10 hcpz10
        refine va_castY (C := RX4) hx hb hown (hts (.classLink RX3 48 RX4) (by decide +kernel)) hK.2.2.2.2.2.2.2 (pl_recv (ci := 5) hK.1 hP rfl (hM.me (hMl.2 zk (show zk < (mt_cnt τ (mt_ma τ zi)) by omega)).1).1 (hM.me (hMl.2 zk (show zk < (mt_cnt τ (mt_ma τ zi)) by omega)).1).2.1) dX3_named_39 ?_
        exact W.aret (v := va_rf (some (mt_ja τ (mt_ml τ zi zk)))) hx hb hr (Or.inl ⟨_, rfl⟩) (va_rf_or _) (fun t ht hW => ⟨⟨(some (mt_ja τ (mt_ml τ zi zk))), (), rfl, (by rw [← hres]; simp [t_scan, c_6, c_9]), trivial⟩, hS.F ht⟩) hS.2.2 dX3_named_42
set_option maxHeartbeats 4000000 in
set_option maxRecDepth 100000 in
theorem c_X5_hasFace (l : Launch) (D : va_G) (cO : ClassId) (mi : Nat) (L : List Nat) (f : Nat → va_E) (e0 : Nat) (τ : MT) (hM : MI e0 cO L f τ) (zi zy : Nat) (hzi : zi < mt_n τ) (hzy : zy < mt_n τ) : Met l yX5_hasFace wsX5_hasFace (rmC 3 64) (mP D cO mi L f [.ref (mt_ca τ zi), .ref (mt_ca τ zy)]) (roQ (bI (t_hasF τ zi zy (mt_cnt τ (mt_fa τ zi)) 0))) 0 0 (fun _ => False) := by
  refine Met.ofW (cc := cX5_hasFace) (maxL := 3) (ret := (some .boolean)) (by decide) rfl ?_
  intro p e s m args below meth cq s₁ B hml hv
  obtain ⟨rfl, hP, hK⟩ := hv
  have hx := B.exec
  have hb := B.bytes
  have hr := B.returns
  have hts := atoms_spec (ws := wsX5_hasFace) B.pre
  have hown : s.vm.findClass RX5 = some m.cls := findClass_of_methodNamed B.named
  have hlocks := B.notSynchronized
  clear B
  have hl := lv_entry ([.ref (mt_ca τ zi), .ref (mt_ca τ zy)]) (n := 3) (Nat.le_of_ble_eq_true rfl)
  rw [lg_entry_eq]
  generalize (lg_sl ([.ref (mt_ca τ zi), .ref (mt_ca τ zy)]) ++ List.replicate (3 - (lg_sl ([.ref (mt_ca τ zi), .ref (mt_ca τ zy)])).length) Slot.unset).toArray = ls at hl ⊢
  replace hl : lv_has ls 3 [(0, .ref (mt_ca τ zi)), (1, .ref (mt_ca τ zy))] := hl
  refine gen_start (A := fun _ => False) (fun H locs hP hS => ?_) hP
  have hMb := hM.b
  have hMl := (hM.cl hzi).2.2.2.1
  refine lv_iconst (v := (nI 0)) hx hb dX5_hasFace_0 (by decide) ?_
  refine lv_istore_n (lv' := [(2, .int (nI 0)), (0, .ref (mt_ca τ zi)), (1, .ref (mt_ca τ zy))]) hx hb dX5_hasFace_1 rfl hl (by decide) rfl (fun ls hl => ?_)
  obtain ⟨zn, hzn⟩ : ∃ z : Nat, z = (mt_cnt τ (mt_fa τ zi)) := ⟨_, rfl⟩
  obtain ⟨zk, hzk⟩ : ∃ z : Nat, z = 0 := ⟨_, rfl⟩
  have hE9 : zk + zn = (mt_cnt τ (mt_fa τ zi)) := by omega
  have hres : t_hasF τ zi zy zn zk = t_hasF τ zi zy (mt_cnt τ (mt_fa τ zi)) 0 := by rw [hzn, hzk]; try rfl
  replace hl : lv_has ls 3 [(2, .int (nI zk)), (0, .ref (mt_ca τ zi)), (1, .ref (mt_ca τ zy))] := by rw [hzk]; exact hl
  clear hzn hzk
  revert hl
  revert hres
  revert hE9
  revert hS
  revert hP
  revert ls
  revert locs
  revert H
  revert zk
  induction zn with
  | zero =>
    intro zk H locs ls hP hS hE9 hres hl
    refine lv_iload_n hx hb dX5_hasFace_2 rfl (lv_at hl 0 rfl) ?_
    refine lv_aload_n hx hb dX5_hasFace_3 rfl (lv_at hl 1 rfl) ?_
    refine pl_get (D := D) (ci := 4) (v := .ref (mt_fa τ zi)) (C := RX3) (T := TX3) (N := 9) hx hb hts (by decide +kernel) hown hK.1 hP (hM.cl hzi).1 (hM.cl hzi).2.1 rfl 4 (by decide) (hts (.fieldLink RX5 51 "ChooseTreeModel$Cls" "faces" "Ljava/util/ArrayList;") (by decide +kernel)) (fun _ h9 => h9) rfl dX5_hasFace_4 ?_
    obtain ⟨mcz1, gz1, hfz1, hgz1, hcz1⟩ := hM.ly.raw (b := (mt_fa τ zi)) (hM.fa hzi).1 (hM.fa hzi).2
    refine va_calli (va_runV (As := []) (rest := [.int (nI zk)]) ⟨hx, hb, hml, hown, hts⟩ (c_Jx4a65c_size_8abf5 l D cO mi L f (mt_fa τ zi) (hM.fa hzi).1 mcz1 (ls_dat (mt_ls τ) (mt_fa τ zi)) (mt_cnt τ (mt_fa τ zi)) hfz1) (cwV 0 hts gX5_hasFace_Jx4a65c_size_8abf5 rfl rfl rfl (by decide +kernel) ⟨Nat.le_of_ble_eq_true rfl, Nat.le_of_ble_eq_true rfl⟩) (mP_V hK hP 0 rfl (hM.fa hzi).1 hfz1) rfl rfl hl.1 rfl (lv_room (Nat.le_of_ble_eq_true rfl)) dX5_hasFace_7 ⟨Nat.le_of_ble_eq_true rfl, Nat.le_of_ble_eq_true rfl⟩) hS (fun _ _ h => h.elim) (fun _ h => h.elim) (fun r_2 u t H1 locs ht hvm hw hB hz1 hk1 hS => ?_)
    replace hP := ro_kept hP hk1
    obtain rfl : r_2 = _ := hw
    clear hk1 hz1 hvm ht hB
    generalize H1 = H at hP hS ⊢
    clear hcz1 hgz1
    refine lv_icmp_ge (tgt := 33) hx hb dX5_hasFace_10 (by decide) (fun c_3 => ?_) (fun c_3 => ?_)
    · refine lv_iconst (v := (nI 0)) hx hb dX5_hasFace_33 (by decide) ?_
      exact W.zret (v := (nI 0)) hx hb hr rfl (fun t ht hW => ⟨⟨(nI 0), (), rfl, (by rw [← hres]; rfl), trivial⟩, hS.F ht⟩) hS.2.2 dX5_hasFace_34
    · exact absurd (nI_le (by omega) (by omega)) c_3
  | succ zn ih =>
    intro zk H locs ls hP hS hE9 hres hl
    refine lv_iload_n hx hb dX5_hasFace_2 rfl (lv_at hl 0 rfl) ?_
    refine lv_aload_n hx hb dX5_hasFace_3 rfl (lv_at hl 1 rfl) ?_
    refine pl_get (D := D) (ci := 4) (v := .ref (mt_fa τ zi)) (C := RX3) (T := TX3) (N := 9) hx hb hts (by decide +kernel) hown hK.1 hP (hM.cl hzi).1 (hM.cl hzi).2.1 rfl 4 (by decide) (hts (.fieldLink RX5 51 "ChooseTreeModel$Cls" "faces" "Ljava/util/ArrayList;") (by decide +kernel)) (fun _ h9 => h9) rfl dX5_hasFace_4 ?_
    obtain ⟨mcz4, gz4, hfz4, hgz4, hcz4⟩ := hM.ly.raw (b := (mt_fa τ zi)) (hM.fa hzi).1 (hM.fa hzi).2
    refine va_calli (va_runV (As := []) (rest := [.int (nI zk)]) ⟨hx, hb, hml, hown, hts⟩ (c_Jx4a65c_size_8abf5 l D cO mi L f (mt_fa τ zi) (hM.fa hzi).1 mcz4 (ls_dat (mt_ls τ) (mt_fa τ zi)) (mt_cnt τ (mt_fa τ zi)) hfz4) (cwV 0 hts gX5_hasFace_Jx4a65c_size_8abf5 rfl rfl rfl (by decide +kernel) ⟨Nat.le_of_ble_eq_true rfl, Nat.le_of_ble_eq_true rfl⟩) (mP_V hK hP 0 rfl (hM.fa hzi).1 hfz4) rfl rfl hl.1 rfl (lv_room (Nat.le_of_ble_eq_true rfl)) dX5_hasFace_7 ⟨Nat.le_of_ble_eq_true rfl, Nat.le_of_ble_eq_true rfl⟩) hS (fun _ _ h => h.elim) (fun _ h => h.elim) (fun r_5 u t H1 locs ht hvm hw hB hz1 hk1 hS => ?_)
    replace hP := ro_kept hP hk1
    obtain rfl : r_5 = _ := hw
    clear hk1 hz1 hvm ht hB
    generalize H1 = H at hP hS ⊢
    clear hcz4 hgz4
    refine lv_icmp_ge (tgt := 33) hx hb dX5_hasFace_10 (by decide) (fun c_6 => ?_) (fun c_6 => ?_)
    · exact absurd c_6 (nI_ge (by omega) (by omega))
    · refine lv_aload_n hx hb dX5_hasFace_13 rfl (lv_at hl 1 rfl) ?_
      refine pl_get (D := D) (ci := 4) (v := .ref (mt_fa τ zi)) (C := RX3) (T := TX3) (N := 9) hx hb hts (by decide +kernel) hown hK.1 hP (hM.cl hzi).1 (hM.cl hzi).2.1 rfl 4 (by decide) (hts (.fieldLink RX5 51 "ChooseTreeModel$Cls" "faces" "Ljava/util/ArrayList;") (by decide +kernel)) (fun _ h9 => h9) rfl dX5_hasFace_14 ?_
      refine lv_iload_n hx hb dX5_hasFace_17 rfl (lv_at hl 0 rfl) ?_
      obtain ⟨mcz7, gz7, hfz7, hdz7, hfdz7, hcnz7, hcpz7, hgiz7⟩ := hM.ly.get (b := (mt_fa τ zi)) (i := zk) (hM.fa hzi).1 (hM.fa hzi).2 (show zk < (mt_cnt τ (mt_fa τ zi)) by omega)
      replace hgiz7 : gz7 zk = some (mt_ca τ (mt_fl τ zi zk)) := hgiz7.trans (congrArg some (hMl.2 zk (show zk < (mt_cnt τ (mt_fa τ zi)) by omega)).2)
      refine va_callq (va_runV (As := [.int (nI zk)]) (rest := []) ⟨hx, hb, hml, hown, hts⟩ (c_Jx4a65c_get_915e3 l D cO mi L f (mt_fa τ zi) (hM.fa hzi).1 mcz7 (ls_dat (mt_ls τ) (mt_fa τ zi)) (mt_cnt τ (mt_fa τ zi)) hfz7 hdz7 (ls_cap (mt_ls τ) (mt_fa τ zi)) gz7 hfdz7 hcnz7 hcpz7 zk (show zk < (mt_cnt τ (mt_fa τ zi)) by omega)) (cwV 1 hts gX5_hasFace_Jx4a65c_get_915e3 rfl rfl rfl (by decide +kernel) ⟨Nat.le_of_ble_eq_true rfl, Nat.le_of_ble_eq_true rfl⟩) (mP_V hK hP 0 rfl (hM.fa hzi).1 hfz7) rfl rfl hl.1 rfl (lv_room (Nat.le_of_ble_eq_true rfl)) dX5_hasFace_18 ⟨Nat.le_of_ble_eq_true rfl, Nat.le_of_ble_eq_true rfl⟩) hS (fun _ _ h => h.elim) (fun _ h => h.elim) (fun r_8 u t H1 locs ht hvm hw hB hz1 hk1 hS => ?_)
      replace hP := ro_kept hP hk1
      obtain rfl : r_8 = _ := hw
      clear hk1 hz1 hvm ht hB
      generalize H1 = H at hP hS ⊢
      rw [hgiz7]
      clear hgiz7 hfdz7 hdz7 hcnz7 hcpz7
      refine lv_aload_n hx hb dX5_hasFace_21 rfl (lv_at hl 2 rfl) ?_
      refine lv_acmp_ne (rx := (some (mt_ca τ (mt_fl τ zi zk)))) (ry := (some (mt_ca τ zy))) (tgt := 27) hx hb dX5_hasFace_22 (by decide) (fun c_9 => ?_) (fun c_9 => ?_)
      · replace c_9 : ¬ mt_ca τ (mt_fl τ zi zk) = mt_ca τ zy := fun q9 => c_9 (congrArg some q9)
        refine lv_iinc (v := (nI (zk + 1))) (lv' := [(2, .int (nI (zk + 1))), (0, .ref (mt_ca τ zi)), (1, .ref (mt_ca τ zy))]) hx hb dX5_hasFace_27 hl (k := 0) rfl (nI_1 _) (by decide) rfl (fun ls hl => ?_)
        refine lv_goto (tgt := 2) hx hb dX5_hasFace_30 (by decide) ?_
        exact ih (zk + 1) H locs ls hP hS (by omega) (by rw [← hres]; simp [t_hasF, c_6, c_9]) (lv_sub hl [0, 1, 2] rfl)
      · replace c_9 := Option.some.inj c_9
        refine lv_iconst (v := (nI 1)) hx hb dX5_hasFace_25 (by decide) ?_
        exact W.zret (v := (nI 1)) hx hb hr rfl (fun t ht hW => ⟨⟨(nI 1), (), rfl, (by rw [← hres]; simp [t_hasF, bI, c_6, c_9]), trivial⟩, hS.F ht⟩) hS.2.2 dX5_hasFace_26
