set_option maxHeartbeats 4000000 in
set_option maxRecDepth 100000 in
theorem c_X5_isName (l : Launch) (D : va_G) (cO : ClassId) (mi : Nat) (L : List Nat) (f : Nat → va_E) (zx1 : Int32) : Met l yX5_isName wsX5_isName (rmC 0 0) (mP D cO mi L f [.int zx1]) (roQ (bI (t_isName zx1))) 0 0 (fun _ => False) := by
  refine Met.ofW (cc := cX5_isName) (maxL := 1) (ret := (some .boolean)) (by decide) rfl ?_
  intro p e s m args below meth cq s₁ B hml hv
  obtain ⟨rfl, hP, hK⟩ := hv
  have hx := B.exec
  have hb := B.bytes
  have hr := B.returns
  have hts := atoms_spec (ws := wsX5_isName) B.pre
  have hown : s.vm.findClass RX5 = some m.cls := findClass_of_methodNamed B.named
  have hlocks := B.notSynchronized
  clear B
  have hl := lv_entry ([.int zx1]) (n := 1) (Nat.le_of_ble_eq_true rfl)
  rw [lg_entry_eq]
  generalize (lg_sl ([.int zx1]) ++ List.replicate (1 - (lg_sl ([.int zx1])).length) Slot.unset).toArray = ls at hl ⊢
  replace hl : lv_has ls 1 [(0, .int zx1)] := hl
  refine gen_start (A := fun _ => False) (fun H locs hP hS => ?_) hP
  refine lv_iload_n hx hb dX5_isName_0 rfl (lv_at hl 0 rfl) ?_
  refine lv_if_lt (tgt := 14) hx hb dX5_isName_1 (by decide) (fun c_1 => ?_) (fun c_1 => ?_)
  · refine lv_iconst (v := (nI 0)) hx hb dX5_isName_14 (by decide) ?_
    exact W.zret (v := (nI 0)) hx hb hr rfl (fun t ht hW => ⟨⟨(nI 0), (), rfl, (by simp [t_isName, bI, c_1]), trivial⟩, hS.F ht⟩) hS.2.2 dX5_isName_15
  · refine lv_iload_n hx hb dX5_isName_4 rfl (lv_at hl 0 rfl) ?_
    refine lv_bipush (v := (nI 32)) hx hb dX5_isName_5 (by decide) ?_
    refine lv_icmp_ge (tgt := 14) hx hb dX5_isName_7 (by decide) (fun c_2 => ?_) (fun c_2 => ?_)
    · refine lv_iconst (v := (nI 0)) hx hb dX5_isName_14 (by decide) ?_
      exact W.zret (v := (nI 0)) hx hb hr rfl (fun t ht hW => ⟨⟨(nI 0), (), rfl, (by simp [t_isName, bI, c_1, c_2]), trivial⟩, hS.F ht⟩) hS.2.2 dX5_isName_15
    · refine lv_iconst (v := (nI 1)) hx hb dX5_isName_10 (by decide) ?_
      refine lv_goto (tgt := 15) hx hb dX5_isName_11 (by decide) ?_
      exact W.zret (v := (nI 1)) hx hb hr rfl (fun t ht hW => ⟨⟨(nI 1), (), rfl, (by simp [t_isName, bI, c_1, c_2]), trivial⟩, hS.F ht⟩) hS.2.2 dX5_isName_15
set_option maxHeartbeats 4000000 in
set_option maxRecDepth 100000 in
theorem c_X5_at (l : Launch) (D : va_G) (cO : ClassId) (mi : Nat) (L : List Nat) (f : Nat → va_E) (e0 : Nat) (τ : MT) (hM : MI e0 cO L f τ) (zx1 : Int32) : Met l yX5_at wsX5_at (rmC 3 64) (mP D cO mi L f [.ref (mt_x τ), .int zx1]) (roR (t_at τ zx1)) 0 0 (fun _ => False) := by
  refine Met.ofW (cc := cX5_at) (maxL := 2) (ret := (some (.object "ChooseTreeModel$Cls"))) (by decide) rfl ?_
  intro p e s m args below meth cq s₁ B hml hv
  obtain ⟨rfl, hP, hK⟩ := hv
  have hx := B.exec
  have hb := B.bytes
  have hr := B.returns
  have hts := atoms_spec (ws := wsX5_at) B.pre
  have hown : s.vm.findClass RX5 = some m.cls := findClass_of_methodNamed B.named
  have hlocks := B.notSynchronized
  clear B
  have hl := lv_entry ([.ref (mt_x τ), .int zx1]) (n := 2) (Nat.le_of_ble_eq_true rfl)
  rw [lg_entry_eq]
  generalize (lg_sl ([.ref (mt_x τ), .int zx1]) ++ List.replicate (2 - (lg_sl ([.ref (mt_x τ), .int zx1])).length) Slot.unset).toArray = ls at hl ⊢
  replace hl : lv_has ls 2 [(0, .ref (mt_x τ)), (1, .int zx1)] := hl
  refine gen_start (A := fun _ => False) (fun H locs hP hS => ?_) hP
  have hMb := hM.b
  refine lv_iload_n hx hb dX5_at_0 rfl (lv_at hl 1 rfl) ?_
  refine lv_if_lt (tgt := 29) hx hb dX5_at_1 (by decide) (fun c_1 => ?_) (fun c_1 => ?_)
  · refine lv_null hx hb dX5_at_29 ?_
    exact W.aret (v := va_rf none) hx hb hr (Or.inl ⟨_, rfl⟩) (va_rf_or _) (fun t ht hW => ⟨⟨none, (), rfl, (by simp [t_at, t_ati, c_1]), trivial⟩, hS.F ht⟩) hS.2.2 dX5_at_30
  · refine lv_iload_n hx hb dX5_at_4 rfl (lv_at hl 1 rfl) ?_
    refine lv_aload_n hx hb dX5_at_5 rfl (lv_at hl 0 rfl) ?_
    refine pl_get (D := D) (ci := 6) (v := .ref (mt_c τ)) (C := RX5) (T := TX5) (N := 3) hx hb hts (by decide +kernel) hown hK.1 hP hM.x.1 hM.x.2 rfl 0 (by decide) (hts (.fieldLink RX5 10 "ChooseTreeModel" "classes" "Ljava/util/ArrayList;") (by decide +kernel)) (fun _ h9 => h9) rfl dX5_at_6 ?_
    obtain ⟨mcz2, gz2, hfz2, hgz2, hcz2⟩ := hM.ly.raw (b := (mt_c τ)) hM.c.1 hM.c.2
    refine va_calli (va_runV (As := []) (rest := [.int zx1]) ⟨hx, hb, hml, hown, hts⟩ (c_Jx4a65c_size_8abf5 l D cO mi L f (mt_c τ) hM.c.1 mcz2 (ls_dat (mt_ls τ) (mt_c τ)) (mt_cnt τ (mt_c τ)) hfz2) (cwV 0 hts gX5_at_Jx4a65c_size_8abf5 rfl rfl rfl (by decide +kernel) ⟨Nat.le_of_ble_eq_true rfl, Nat.le_of_ble_eq_true rfl⟩) (mP_V hK hP 0 rfl hM.c.1 hfz2) rfl rfl hl.1 rfl (lv_room (Nat.le_of_ble_eq_true rfl)) dX5_at_9 ⟨Nat.le_of_ble_eq_true rfl, Nat.le_of_ble_eq_true rfl⟩) hS (fun _ _ h => h.elim) (fun _ h => h.elim) (fun r_3 u t H1 locs ht hvm hw hB hz1 hk1 hS => ?_)
    replace hP := ro_kept hP hk1
    obtain rfl : r_3 = _ := hw
    clear hk1 hz1 hvm ht hB
    generalize H1 = H at hP hS ⊢
    rw [show (mt_cnt τ (mt_c τ)) = mt_n τ from hM.cs.1]
    clear hcz2 hgz2
    refine lv_icmp_ge (tgt := 29) hx hb dX5_at_12 (by decide) (fun c_4 => ?_) (fun c_4 => ?_)
    · refine lv_null hx hb dX5_at_29 ?_
      exact W.aret (v := va_rf none) hx hb hr (Or.inl ⟨_, rfl⟩) (va_rf_or _) (fun t ht hW => ⟨⟨none, (), rfl, (by simp [t_at, t_ati, c_1, c_4]), trivial⟩, hS.F ht⟩) hS.2.2 dX5_at_30
    · obtain ⟨zj1, hzj1, ezj1⟩ := ix_of (x := zx1) (n := mt_n τ) (by omega) (by simp [c_1, c_4])
      subst ezj1
      have hclz := nI_clamp (n := zj1) (by omega)
      refine lv_aload_n hx hb dX5_at_15 rfl (lv_at hl 0 rfl) ?_
      refine pl_get (D := D) (ci := 6) (v := .ref (mt_c τ)) (C := RX5) (T := TX5) (N := 3) hx hb hts (by decide +kernel) hown hK.1 hP hM.x.1 hM.x.2 rfl 0 (by decide) (hts (.fieldLink RX5 10 "ChooseTreeModel" "classes" "Ljava/util/ArrayList;") (by decide +kernel)) (fun _ h9 => h9) rfl dX5_at_16 ?_
      refine lv_iload_n hx hb dX5_at_19 rfl (lv_at hl 1 rfl) ?_
      obtain ⟨mcz5, gz5, hfz5, hdz5, hfdz5, hcnz5, hcpz5, hgiz5⟩ := hM.ly.get (b := (mt_c τ)) (i := zj1) hM.c.1 hM.c.2 (show zj1 < (mt_cnt τ (mt_c τ)) from by rw [show (mt_cnt τ (mt_c τ)) = mt_n τ from hM.cs.1]; exact hzj1)
      replace hgiz5 : gz5 zj1 = some (mt_ca τ zj1) := hgiz5.trans (congrArg some (hM.cs.2 zj1 hzj1))
      refine va_callq (va_runV (As := [.int (nI zj1)]) (rest := []) ⟨hx, hb, hml, hown, hts⟩ (c_Jx4a65c_get_915e3 l D cO mi L f (mt_c τ) hM.c.1 mcz5 (ls_dat (mt_ls τ) (mt_c τ)) (mt_cnt τ (mt_c τ)) hfz5 hdz5 (ls_cap (mt_ls τ) (mt_c τ)) gz5 hfdz5 hcnz5 hcpz5 zj1 (show zj1 < (mt_cnt τ (mt_c τ)) from by rw [show (mt_cnt τ (mt_c τ)) = mt_n τ from hM.cs.1]; exact hzj1)) (cwV 1 hts gX5_at_Jx4a65c_get_915e3 rfl rfl rfl (by decide +kernel) ⟨Nat.le_of_ble_eq_true rfl, Nat.le_of_ble_eq_true rfl⟩) (mP_V hK hP 0 rfl hM.c.1 hfz5) rfl rfl hl.1 rfl (lv_room (Nat.le_of_ble_eq_true rfl)) dX5_at_20 ⟨Nat.le_of_ble_eq_true rfl, Nat.le_of_ble_eq_true rfl⟩) hS (fun _ _ h => h.elim) (fun _ h => h.elim) (fun r_6 u t H1 locs ht hvm hw hB hz1 hk1 hS => ?_)
      replace hP := ro_kept hP hk1
      obtain rfl : r_6 = _ := hw
      clear hk1 hz1 hvm ht hB
      generalize H1 = H at hP hS ⊢
      rw [hgiz5]
      clear hgiz5 hfdz5 hdz5 hcnz5 hcpz5
      refine va_castY (C := RX3) hx hb hown (hts (.classLink RX5 19 RX3) (by decide +kernel)) hK.2.2.2.2.2.2.1 (pl_recv (ci := 4) hK.1 hP rfl (hM.cl hzj1).1 (hM.cl hzj1).2.1) dX5_at_23 ?_
      refine lv_goto (tgt := 30) hx hb dX5_at_26 (by decide) ?_
      exact W.aret (v := va_rf (some (mt_ca τ zj1))) hx hb hr (Or.inl ⟨_, rfl⟩) (va_rf_or _) (fun t ht hW => ⟨⟨(some (mt_ca τ zj1)), (), rfl, (by simp [t_at, t_ati, c_1, c_4, hclz]), trivial⟩, hS.F ht⟩) hS.2.2 dX5_at_30
set_option maxHeartbeats 4000000 in
set_option maxRecDepth 100000 in
theorem c_X5_met (l : Launch) (D : va_G) (cO : ClassId) (mi : Nat) (L : List Nat) (f : Nat → va_E) (e0 : Nat) (τ : MT) (hM : MI e0 cO L f τ) (zx1 : Int32) : Met l yX5_met wsX5_met (rmC 3 64) (mP D cO mi L f [.ref (mt_x τ), .int zx1]) (roR (t_met τ zx1)) 0 0 (fun _ => False) := by
  refine Met.ofW (cc := cX5_met) (maxL := 2) (ret := (some (.object "ChooseTreeModel$Met"))) (by decide) rfl ?_
  intro p e s m args below meth cq s₁ B hml hv
  obtain ⟨rfl, hP, hK⟩ := hv
  have hx := B.exec
  have hb := B.bytes
  have hr := B.returns
  have hts := atoms_spec (ws := wsX5_met) B.pre
  have hown : s.vm.findClass RX5 = some m.cls := findClass_of_methodNamed B.named
  have hlocks := B.notSynchronized
  clear B
  have hl := lv_entry ([.ref (mt_x τ), .int zx1]) (n := 2) (Nat.le_of_ble_eq_true rfl)
  rw [lg_entry_eq]
  generalize (lg_sl ([.ref (mt_x τ), .int zx1]) ++ List.replicate (2 - (lg_sl ([.ref (mt_x τ), .int zx1])).length) Slot.unset).toArray = ls at hl ⊢
  replace hl : lv_has ls 2 [(0, .ref (mt_x τ)), (1, .int zx1)] := hl
  refine gen_start (A := fun _ => False) (fun H locs hP hS => ?_) hP
  have hMb := hM.b
  refine lv_iload_n hx hb dX5_met_0 rfl (lv_at hl 1 rfl) ?_
  refine lv_if_lt (tgt := 29) hx hb dX5_met_1 (by decide) (fun c_1 => ?_) (fun c_1 => ?_)
  · refine lv_null hx hb dX5_met_29 ?_
    exact W.aret (v := va_rf none) hx hb hr (Or.inl ⟨_, rfl⟩) (va_rf_or _) (fun t ht hW => ⟨⟨none, (), rfl, (by simp [t_met, t_meti, c_1]), trivial⟩, hS.F ht⟩) hS.2.2 dX5_met_30
  · refine lv_iload_n hx hb dX5_met_4 rfl (lv_at hl 1 rfl) ?_
    refine lv_aload_n hx hb dX5_met_5 rfl (lv_at hl 0 rfl) ?_
    refine pl_get (D := D) (ci := 6) (v := .ref (mt_m τ)) (C := RX5) (T := TX5) (N := 3) hx hb hts (by decide +kernel) hown hK.1 hP hM.x.1 hM.x.2 rfl 1 (by decide) (hts (.fieldLink RX5 16 "ChooseTreeModel" "methods" "Ljava/util/ArrayList;") (by decide +kernel)) (fun _ h9 => h9) rfl dX5_met_6 ?_
    obtain ⟨mcz2, gz2, hfz2, hgz2, hcz2⟩ := hM.ly.raw (b := (mt_m τ)) hM.m.1 hM.m.2
    refine va_calli (va_runV (As := []) (rest := [.int zx1]) ⟨hx, hb, hml, hown, hts⟩ (c_Jx4a65c_size_8abf5 l D cO mi L f (mt_m τ) hM.m.1 mcz2 (ls_dat (mt_ls τ) (mt_m τ)) (mt_cnt τ (mt_m τ)) hfz2) (cwV 0 hts gX5_met_Jx4a65c_size_8abf5 rfl rfl rfl (by decide +kernel) ⟨Nat.le_of_ble_eq_true rfl, Nat.le_of_ble_eq_true rfl⟩) (mP_V hK hP 0 rfl hM.m.1 hfz2) rfl rfl hl.1 rfl (lv_room (Nat.le_of_ble_eq_true rfl)) dX5_met_9 ⟨Nat.le_of_ble_eq_true rfl, Nat.le_of_ble_eq_true rfl⟩) hS (fun _ _ h => h.elim) (fun _ h => h.elim) (fun r_3 u t H1 locs ht hvm hw hB hz1 hk1 hS => ?_)
    replace hP := ro_kept hP hk1
    obtain rfl : r_3 = _ := hw
    clear hk1 hz1 hvm ht hB
    generalize H1 = H at hP hS ⊢
    rw [show (mt_cnt τ (mt_m τ)) = mt_mn τ from hM.ms.1]
    clear hcz2 hgz2
    refine lv_icmp_ge (tgt := 29) hx hb dX5_met_12 (by decide) (fun c_4 => ?_) (fun c_4 => ?_)
    · refine lv_null hx hb dX5_met_29 ?_
      exact W.aret (v := va_rf none) hx hb hr (Or.inl ⟨_, rfl⟩) (va_rf_or _) (fun t ht hW => ⟨⟨none, (), rfl, (by simp [t_met, t_meti, c_1, c_4]), trivial⟩, hS.F ht⟩) hS.2.2 dX5_met_30
    · obtain ⟨zj1, hzj1, ezj1⟩ := ix_of (x := zx1) (n := mt_mn τ) (by omega) (by simp [c_1, c_4])
      subst ezj1
      have hclz := nI_clamp (n := zj1) (by omega)
      refine lv_aload_n hx hb dX5_met_15 rfl (lv_at hl 0 rfl) ?_
      refine pl_get (D := D) (ci := 6) (v := .ref (mt_m τ)) (C := RX5) (T := TX5) (N := 3) hx hb hts (by decide +kernel) hown hK.1 hP hM.x.1 hM.x.2 rfl 1 (by decide) (hts (.fieldLink RX5 16 "ChooseTreeModel" "methods" "Ljava/util/ArrayList;") (by decide +kernel)) (fun _ h9 => h9) rfl dX5_met_16 ?_
      refine lv_iload_n hx hb dX5_met_19 rfl (lv_at hl 1 rfl) ?_
      obtain ⟨mcz5, gz5, hfz5, hdz5, hfdz5, hcnz5, hcpz5, hgiz5⟩ := hM.ly.get (b := (mt_m τ)) (i := zj1) hM.m.1 hM.m.2 (show zj1 < (mt_cnt τ (mt_m τ)) from by rw [show (mt_cnt τ (mt_m τ)) = mt_mn τ from hM.ms.1]; exact hzj1)
      replace hgiz5 : gz5 zj1 = some (mt_ja τ zj1) := hgiz5.trans (congrArg some (hM.ms.2 zj1 hzj1))
      refine va_callq (va_runV (As := [.int (nI zj1)]) (rest := []) ⟨hx, hb, hml, hown, hts⟩ (c_Jx4a65c_get_915e3 l D cO mi L f (mt_m τ) hM.m.1 mcz5 (ls_dat (mt_ls τ) (mt_m τ)) (mt_cnt τ (mt_m τ)) hfz5 hdz5 (ls_cap (mt_ls τ) (mt_m τ)) gz5 hfdz5 hcnz5 hcpz5 zj1 (show zj1 < (mt_cnt τ (mt_m τ)) from by rw [show (mt_cnt τ (mt_m τ)) = mt_mn τ from hM.ms.1]; exact hzj1)) (cwV 1 hts gX5_met_Jx4a65c_get_915e3 rfl rfl rfl (by decide +kernel) ⟨Nat.le_of_ble_eq_true rfl, Nat.le_of_ble_eq_true rfl⟩) (mP_V hK hP 0 rfl hM.m.1 hfz5) rfl rfl hl.1 rfl (lv_room (Nat.le_of_ble_eq_true rfl)) dX5_met_20 ⟨Nat.le_of_ble_eq_true rfl, Nat.le_of_ble_eq_true rfl⟩) hS (fun _ _ h => h.elim) (fun _ h => h.elim) (fun r_6 u t H1 locs ht hvm hw hB hz1 hk1 hS => ?_)
      replace hP := ro_kept hP hk1
      obtain rfl : r_6 = _ := hw
      clear hk1 hz1 hvm ht hB
      generalize H1 = H at hP hS ⊢
      rw [hgiz5]
      clear hgiz5 hfdz5 hdz5 hcnz5 hcpz5
      refine va_castY (C := RX4) hx hb hown (hts (.classLink RX5 36 RX4) (by decide +kernel)) hK.2.2.2.2.2.2.2 (pl_recv (ci := 5) hK.1 hP rfl (hM.me hzj1).1 (hM.me hzj1).2.1) dX5_met_23 ?_
      refine lv_goto (tgt := 30) hx hb dX5_met_26 (by decide) ?_
      exact W.aret (v := va_rf (some (mt_ja τ zj1))) hx hb hr (Or.inl ⟨_, rfl⟩) (va_rf_or _) (fun t ht hW => ⟨⟨(some (mt_ja τ zj1)), (), rfl, (by simp [t_met, t_meti, c_1, c_4, hclz]), trivial⟩, hS.F ht⟩) hS.2.2 dX5_met_30
set_option maxHeartbeats 4000000 in
set_option maxRecDepth 100000 in
theorem c_X3_named (l : Launch) (D : va_G) (cO : ClassId) (mi : Nat) (L : List Nat) (f : Nat → va_E) (e0 : Nat) (τ : MT) (hM : MI e0 cO L f τ) (zi : Nat) (hzi : zi < mt_n τ) (zx1 : Int32) : Met l yX3_named wsX3_named (rmC 3 64) (mP D cO mi L f [.ref (mt_ca τ zi), .int zx1]) (roR (t_named τ zi zx1)) 0 0 (fun _ => False) := by
  refine Met.ofW (cc := cX3_named) (maxL := 3) (ret := (some (.object "ChooseTreeModel$Met"))) (by decide) rfl ?_
  intro p e s m args below meth cq s₁ B hml hv
  obtain ⟨rfl, hP, hK⟩ := hv
  have hx := B.exec
  have hb := B.bytes
  have hr := B.returns
  have hts := atoms_spec (ws := wsX3_named) B.pre
  have hown : s.vm.findClass RX3 = some m.cls := findClass_of_methodNamed B.named
  have hlocks := B.notSynchronized
  clear B
  have hl := lv_entry ([.ref (mt_ca τ zi), .int zx1]) (n := 3) (Nat.le_of_ble_eq_true rfl)
  rw [lg_entry_eq]
  generalize (lg_sl ([.ref (mt_ca τ zi), .int zx1]) ++ List.replicate (3 - (lg_sl ([.ref (mt_ca τ zi), .int zx1])).length) Slot.unset).toArray = ls at hl ⊢
  replace hl : lv_has ls 3 [(0, .ref (mt_ca τ zi)), (1, .int zx1)] := hl
  refine gen_start (A := fun _ => False) (fun H locs hP hS => ?_) hP
  have hMb := hM.b
  have hMl := (hM.cl hzi).2.2.2.2.1
  refine lv_iconst (v := (nI 0)) hx hb dX3_named_0 (by decide) ?_
  refine lv_istore_n (lv' := [(2, .int (nI 0)), (0, .ref (mt_ca τ zi)), (1, .int zx1)]) hx hb dX3_named_1 rfl hl (by decide) rfl (fun ls hl => ?_)
  obtain ⟨zn, hzn⟩ : ∃ z : Nat, z = (mt_cnt τ (mt_ma τ zi)) := ⟨_, rfl⟩
  obtain ⟨zk, hzk⟩ : ∃ z : Nat, z = 0 := ⟨_, rfl⟩
  have hE9 : zk + zn = (mt_cnt τ (mt_ma τ zi)) := by omega
  have hres : (t_scan τ zi zx1 zn zk).map (mt_ja τ) = t_named τ zi zx1 := by rw [hzn, hzk]; try rfl
  replace hl : lv_has ls 3 [(2, .int (nI zk)), (0, .ref (mt_ca τ zi)), (1, .int zx1)] := by rw [hzk]; exact hl
  clear hzn hzk
  revert hl
  revert hres
  revert hE9
  revert hS
  revert hP
  revert ls
  revert locs
  revert H
  revert zk
  induction zn with
  | zero =>
    intro zk H locs ls hP hS hE9 hres hl
    refine lv_iload_n hx hb dX3_named_2 rfl (lv_at hl 0 rfl) ?_
    refine lv_aload_n hx hb dX3_named_3 rfl (lv_at hl 1 rfl) ?_
    refine pl_get (D := D) (ci := 4) (v := .ref (mt_ma τ zi)) (C := RX3) (T := TX3) (N := 9) hx hb hts (by decide +kernel) hown hK.1 hP (hM.cl hzi).1 (hM.cl hzi).2.1 rfl 5 (by decide) (hts (.fieldLink RX3 16 "ChooseTreeModel$Cls" "methods" "Ljava/util/ArrayList;") (by decide +kernel)) (fun _ h9 => h9) rfl dX3_named_4 ?_
    obtain ⟨mcz1, gz1, hfz1, hgz1, hcz1⟩ := hM.ly.raw (b := (mt_ma τ zi)) (hM.ma hzi).1 (hM.ma hzi).2
    refine va_calli (va_runV (As := []) (rest := [.int (nI zk)]) ⟨hx, hb, hml, hown, hts⟩ (c_Jx4a65c_size_8abf5 l D cO mi L f (mt_ma τ zi) (hM.ma hzi).1 mcz1 (ls_dat (mt_ls τ) (mt_ma τ zi)) (mt_cnt τ (mt_ma τ zi)) hfz1) (cwV 0 hts gX3_named_Jx4a65c_size_8abf5 rfl rfl rfl (by decide +kernel) ⟨Nat.le_of_ble_eq_true rfl, Nat.le_of_ble_eq_true rfl⟩) (mP_V hK hP 0 rfl (hM.ma hzi).1 hfz1) rfl rfl hl.1 rfl (lv_room (Nat.le_of_ble_eq_true rfl)) dX3_named_7 ⟨Nat.le_of_ble_eq_true rfl, Nat.le_of_ble_eq_true rfl⟩) hS (fun _ _ h => h.elim) (fun _ h => h.elim) (fun r_2 u t H1 locs ht hvm hw hB hz1 hk1 hS => ?_)
    replace hP := ro_kept hP hk1
    obtain rfl : r_2 = _ := hw
    clear hk1 hz1 hvm ht hB
    generalize H1 = H at hP hS ⊢
    clear hcz1 hgz1
    refine lv_icmp_ge (tgt := 49) hx hb dX3_named_10 (by decide) (fun c_3 => ?_) (fun c_3 => ?_)
    · refine lv_null hx hb dX3_named_49 ?_
      exact W.aret (v := va_rf none) hx hb hr (Or.inl ⟨_, rfl⟩) (va_rf_or _) (fun t ht hW => ⟨⟨none, (), rfl, (by rw [← hres]; rfl), trivial⟩, hS.F ht⟩) hS.2.2 dX3_named_50
    · exact absurd (nI_le (by omega) (by omega)) c_3
  | succ zn ih =>
    intro zk H locs ls hP hS hE9 hres hl
    refine lv_iload_n hx hb dX3_named_2 rfl (lv_at hl 0 rfl) ?_
    refine lv_aload_n hx hb dX3_named_3 rfl (lv_at hl 1 rfl) ?_
    refine pl_get (D := D) (ci := 4) (v := .ref (mt_ma τ zi)) (C := RX3) (T := TX3) (N := 9) hx hb hts (by decide +kernel) hown hK.1 hP (hM.cl hzi).1 (hM.cl hzi).2.1 rfl 5 (by decide) (hts (.fieldLink RX3 16 "ChooseTreeModel$Cls" "methods" "Ljava/util/ArrayList;") (by decide +kernel)) (fun _ h9 => h9) rfl dX3_named_4 ?_
    obtain ⟨mcz4, gz4, hfz4, hgz4, hcz4⟩ := hM.ly.raw (b := (mt_ma τ zi)) (hM.ma hzi).1 (hM.ma hzi).2
    refine va_calli (va_runV (As := []) (rest := [.int (nI zk)]) ⟨hx, hb, hml, hown, hts⟩ (c_Jx4a65c_size_8abf5 l D cO mi L f (mt_ma τ zi) (hM.ma hzi).1 mcz4 (ls_dat (mt_ls τ) (mt_ma τ zi)) (mt_cnt τ (mt_ma τ zi)) hfz4) (cwV 0 hts gX3_named_Jx4a65c_size_8abf5 rfl rfl rfl (by decide +kernel) ⟨Nat.le_of_ble_eq_true rfl, Nat.le_of_ble_eq_true rfl⟩) (mP_V hK hP 0 rfl (hM.ma hzi).1 hfz4) rfl rfl hl.1 rfl (lv_room (Nat.le_of_ble_eq_true rfl)) dX3_named_7 ⟨Nat.le_of_ble_eq_true rfl, Nat.le_of_ble_eq_true rfl⟩) hS (fun _ _ h => h.elim) (fun _ h => h.elim) (fun r_5 u t H1 locs ht hvm hw hB hz1 hk1 hS => ?_)
    replace hP := ro_kept hP hk1
    obtain rfl : r_5 = _ := hw
    clear hk1 hz1 hvm ht hB
    generalize H1 = H at hP hS ⊢
    clear hcz4 hgz4
    refine lv_icmp_ge (tgt := 49) hx hb dX3_named_10 (by decide) (fun c_6 => ?_) (fun c_6 => ?_)
    · exact absurd c_6 (nI_ge (by omega) (by omega))
    · refine lv_aload_n hx hb dX3_named_13 rfl (lv_at hl 1 rfl) ?_
      refine pl_get (D := D) (ci := 4) (v := .ref (mt_ma τ zi)) (C := RX3) (T := TX3) (N := 9) hx hb hts (by decide +kernel) hown hK.1 hP (hM.cl hzi).1 (hM.cl hzi).2.1 rfl 5 (by decide) (hts (.fieldLink RX3 16 "ChooseTreeModel$Cls" "methods" "Ljava/util/ArrayList;") (by decide +kernel)) (fun _ h9 => h9) rfl dX3_named_14 ?_
      refine lv_iload_n hx hb dX3_named_17 rfl (lv_at hl 0 rfl) ?_
      obtain ⟨mcz7, gz7, hfz7, hdz7, hfdz7, hcnz7, hcpz7, hgiz7⟩ := hM.ly.get (b := (mt_ma τ zi)) (i := zk) (hM.ma hzi).1 (hM.ma hzi).2 (show zk < (mt_cnt τ (mt_ma τ zi)) by omega)
      replace hgiz7 : gz7 zk = some (mt_ja τ (mt_ml τ zi zk)) := hgiz7.trans (congrArg some (hMl.2 zk (show zk < (mt_cnt τ (mt_ma τ zi)) by omega)).2)
      refine va_callq (va_runV (As := [.int (nI zk)]) (rest := []) ⟨hx, hb, hml, hown, hts⟩ (c_Jx4a65c_get_915e3 l D cO mi L f (mt_ma τ zi) (hM.ma hzi).1 mcz7 (ls_dat (mt_ls τ) (mt_ma τ zi)) (mt_cnt τ (mt_ma τ zi)) hfz7 hdz7 (ls_cap (mt_ls τ) (mt_ma τ zi)) gz7 hfdz7 hcnz7 hcpz7 zk (show zk < (mt_cnt τ (mt_ma τ zi)) by omega)) (cwV 1 hts gX3_named_Jx4a65c_get_915e3 rfl rfl rfl (by decide +kernel) ⟨Nat.le_of_ble_eq_true rfl, Nat.le_of_ble_eq_true rfl⟩) (mP_V hK hP 0 rfl (hM.ma hzi).1 hfz7) rfl rfl hl.1 rfl (lv_room (Nat.le_of_ble_eq_true rfl)) dX3_named_18 ⟨Nat.le_of_ble_eq_true rfl, Nat.le_of_ble_eq_true rfl⟩) hS (fun _ _ h => h.elim) (fun _ h => h.elim) (fun r_8 u t H1 locs ht hvm hw hB hz1 hk1 hS => ?_)
      replace hP := ro_kept hP hk1
      obtain rfl : r_8 = _ := hw
      clear hk1 hz1 hvm ht hB
      generalize H1 = H at hP hS ⊢
      rw [hgiz7]
      clear hgiz7 hfdz7 hdz7 hcnz7 hcpz7
      refine va_castY (C := RX4) hx hb hown (hts (.classLink RX3 48 RX4) (by decide +kernel)) hK.2.2.2.2.2.2.2 (pl_recv (ci := 5) hK.1 hP rfl (hM.me (hMl.2 zk (show zk < (mt_cnt τ (mt_ma τ zi)) by omega)).1).1 (hM.me (hMl.2 zk (show zk < (mt_cnt τ (mt_ma τ zi)) by omega)).1).2.1) dX3_named_21 ?_
      refine pl_get (D := D) (ci := 5) (v := .int (mt_nm τ (mt_ml τ zi zk))) (C := RX4) (T := TX4) (N := 7) hx hb hts (by decide +kernel) hown hK.1 hP (hM.me (hMl.2 zk (show zk < (mt_cnt τ (mt_ma τ zi)) by omega)).1).1 (hM.me (hMl.2 zk (show zk < (mt_cnt τ (mt_ma τ zi)) by omega)).1).2.1 rfl 1 (by decide) (hts (.fieldLink RX3 50 "ChooseTreeModel$Met" "name" "I") (by decide +kernel)) (fun _ h9 => h9) rfl dX3_named_24 ?_
      refine lv_iload_n hx hb dX3_named_27 rfl (lv_at hl 2 rfl) ?_
      refine lv_icmp_ne (tgt := 43) hx hb dX3_named_28 (by decide) (fun c_9 => ?_) (fun c_9 => ?_)
      · refine lv_iinc (v := (nI (zk + 1))) (lv' := [(2, .int (nI (zk + 1))), (0, .ref (mt_ca τ zi)), (1, .int zx1)]) hx hb dX3_named_43 hl (k := 0) rfl (nI_1 _) (by decide) rfl (fun ls hl => ?_)
        refine lv_goto (tgt := 2) hx hb dX3_named_46 (by decide) ?_
        exact ih (zk + 1) H locs ls hP hS (by omega) (by rw [← hres]; simp [t_scan, c_6, c_9]) (lv_sub hl [0, 1, 2] rfl)
      · refine lv_aload_n hx hb dX3_named_31 rfl (lv_at hl 1 rfl) ?_
        refine pl_get (D := D) (ci := 4) (v := .ref (mt_ma τ zi)) (C := RX3) (T := TX3) (N := 9) hx hb hts (by decide +kernel) hown hK.1 hP (hM.cl hzi).1 (hM.cl hzi).2.1 rfl 5 (by decide) (hts (.fieldLink RX3 16 "ChooseTreeModel$Cls" "methods" "Ljava/util/ArrayList;") (by decide +kernel)) (fun _ h9 => h9) rfl dX3_named_32 ?_
        refine lv_iload_n hx hb dX3_named_35 rfl (lv_at hl 0 rfl) ?_
        obtain ⟨mcz10, gz10, hfz10, hdz10, hfdz10, hcnz10, hcpz10, hgiz10⟩ := hM.ly.get (b := (mt_ma τ zi)) (i := zk) (hM.ma hzi).1 (hM.ma hzi).2 (show zk < (mt_cnt τ (mt_ma τ zi)) by omega)
        replace hgiz10 : gz10 zk = some (mt_ja τ (mt_ml τ zi zk)) := hgiz10.trans (congrArg some (hMl.2 zk (show zk < (mt_cnt τ (mt_ma τ zi)) by omega)).2)
        refine va_callq (va_runV (As := [.int (nI zk)]) (rest := []) ⟨hx, hb, hml, hown, hts⟩ (c_Jx4a65c_get_915e3 l D cO mi L f (mt_ma τ zi) (hM.ma hzi).1 mcz10 (ls_dat (mt_ls τ) (mt_ma τ zi)) (mt_cnt τ (mt_ma τ zi)) hfz10 hdz10 (ls_cap (mt_ls τ) (mt_ma τ zi)) gz10 hfdz10 hcnz10 hcpz10 zk (show zk < (mt_cnt τ (mt_ma τ zi)) by omega)) (cwV 1 hts gX3_named_Jx4a65c_get_915e3 rfl rfl rfl (by decide +kernel) ⟨Nat.le_of_ble_eq_true rfl, Nat.le_of_ble_eq_true rfl⟩) (mP_V hK hP 0 rfl (hM.ma hzi).1 hfz10) rfl rfl hl.1 rfl (lv_room (Nat.le_of_ble_eq_true rfl)) dX3_named_36 ⟨Nat.le_of_ble_eq_true rfl, Nat.le_of_ble_eq_true rfl⟩) hS (fun _ _ h => h.elim) (fun _ h => h.elim) (fun r_11 u t H1 locs ht hvm hw hB hz1 hk1 hS => ?_)
        replace hP := ro_kept hP hk1
        obtain rfl : r_11 = _ := hw
        clear hk1 hz1 hvm ht hB
        generalize H1 = H at hP hS ⊢
        rw [hgiz10]
        clear hgiz10 hfdz10 hdz10 hcnz10 hcpz10
        refine va_castY (C := RX4) hx hb hown (hts (.classLink RX3 48 RX4) (by decide +kernel)) hK.2.2.2.2.2.2.2 (pl_recv (ci := 5) hK.1 hP rfl (hM.me (hMl.2 zk (show zk < (mt_cnt τ (mt_ma τ zi)) by omega)).1).1 (hM.me (hMl.2 zk (show zk < (mt_cnt τ (mt_ma τ zi)) by omega)).1).2.1) dX3_named_39 ?_
        exact W.aret (v := va_rf (some (mt_ja τ (mt_ml τ zi zk)))) hx hb hr (Or.inl ⟨_, rfl⟩) (va_rf_or _) (fun t ht hW => ⟨⟨(some (mt_ja τ (mt_ml τ zi zk))), (), rfl, (by rw [← hres]; simp [t_scan, c_6, c_9]), trivial⟩, hS.F ht⟩) hS.2.2 dX3_named_42
set_option maxHeartbeats 4000000 in
set_option maxRecDepth 100000 in
theorem c_X5_hasFace (l : Launch) (D : va_G) (cO : ClassId) (mi : Nat) (L : List Nat) (f : Nat → va_E) (e0 : Nat) (τ : MT) (hM : MI e0 cO L f τ) (zi zy : Nat) (hzi : zi < mt_n τ) (hzy : zy < mt_n τ) : Met l yX5_hasFace wsX5_hasFace (rmC 3 64) (mP D cO mi L f [.ref (mt_ca τ zi), .ref (mt_ca τ zy)]) (roQ (bI (t_hasF τ zi zy (mt_cnt τ (mt_fa τ zi)) 0))) 0 0 (fun _ => False) := by
  refine Met.ofW (cc := cX5_hasFace) (maxL := 3) (ret := (some .boolean)) (by decide) rfl ?_
  intro p e s m args below meth cq s₁ B hml hv
  obtain ⟨rfl, hP, hK⟩ := hv
  have hx := B.exec
  have hb := B.bytes
  have hr := B.returns
  have hts := atoms_spec (ws := wsX5_hasFace) B.pre
  have hown : s.vm.findClass RX5 = some m.cls := findClass_of_methodNamed B.named
  have hlocks := B.notSynchronized
  clear B
  have hl := lv_entry ([.ref (mt_ca τ zi), .ref (mt_ca τ zy)]) (n := 3) (Nat.le_of_ble_eq_true rfl)
  rw [lg_entry_eq]
  generalize (lg_sl ([.ref (mt_ca τ zi), .ref (mt_ca τ zy)]) ++ List.replicate (3 - (lg_sl ([.ref (mt_ca τ zi), .ref (mt_ca τ zy)])).length) Slot.unset).toArray = ls at hl ⊢
  replace hl : lv_has ls 3 [(0, .ref (mt_ca τ zi)), (1, .ref (mt_ca τ zy))] := hl
  refine gen_start (A := fun _ => False) (fun H locs hP hS => ?_) hP
  have hMb := hM.b
  have hMl := (hM.cl hzi).2.2.2.1
  refine lv_iconst (v := (nI 0)) hx hb dX5_hasFace_0 (by decide) ?_
  refine lv_istore_n (lv' := [(2, .int (nI 0)), (0, .ref (mt_ca τ zi)), (1, .ref (mt_ca τ zy))]) hx hb dX5_hasFace_1 rfl hl (by decide) rfl (fun ls hl => ?_)
  obtain ⟨zn, hzn⟩ : ∃ z : Nat, z = (mt_cnt τ (mt_fa τ zi)) := ⟨_, rfl⟩
  obtain ⟨zk, hzk⟩ : ∃ z : Nat, z = 0 := ⟨_, rfl⟩
  have hE9 : zk + zn = (mt_cnt τ (mt_fa τ zi)) := by omega
  have hres : t_hasF τ zi zy zn zk = t_hasF τ zi zy (mt_cnt τ (mt_fa τ zi)) 0 := by rw [hzn, hzk]; try rfl
  replace hl : lv_has ls 3 [(2, .int (nI zk)), (0, .ref (mt_ca τ zi)), (1, .ref (mt_ca τ zy))] := by rw [hzk]; exact hl
  clear hzn hzk
  revert hl
  revert hres
  revert hE9
  revert hS
  revert hP
  revert ls
  revert locs
  revert H
  revert zk
  induction zn with
  | zero =>
    intro zk H locs ls hP hS hE9 hres hl
    refine lv_iload_n hx hb dX5_hasFace_2 rfl (lv_at hl 0 rfl) ?_
    refine lv_aload_n hx hb dX5_hasFace_3 rfl (lv_at hl 1 rfl) ?_
    refine pl_get (D := D) (ci := 4) (v := .ref (mt_fa τ zi)) (C := RX3) (T := TX3) (N := 9) hx hb hts (by decide +kernel) hown hK.1 hP (hM.cl hzi).1 (hM.cl hzi).2.1 rfl 4 (by decide) (hts (.fieldLink RX5 51 "ChooseTreeModel$Cls" "faces" "Ljava/util/ArrayList;") (by decide +kernel)) (fun _ h9 => h9) rfl dX5_hasFace_4 ?_
    obtain ⟨mcz1, gz1, hfz1, hgz1, hcz1⟩ := hM.ly.raw (b := (mt_fa τ zi)) (hM.fa hzi).1 (hM.fa hzi).2
    refine va_calli (va_runV (As := []) (rest := [.int (nI zk)]) ⟨hx, hb, hml, hown, hts⟩ (c_Jx4a65c_size_8abf5 l D cO mi L f (mt_fa τ zi) (hM.fa hzi).1 mcz1 (ls_dat (mt_ls τ) (mt_fa τ zi)) (mt_cnt τ (mt_fa τ zi)) hfz1) (cwV 0 hts gX5_hasFace_Jx4a65c_size_8abf5 rfl rfl rfl (by decide +kernel) ⟨Nat.le_of_ble_eq_true rfl, Nat.le_of_ble_eq_true rfl⟩) (mP_V hK hP 0 rfl (hM.fa hzi).1 hfz1) rfl rfl hl.1 rfl (lv_room (Nat.le_of_ble_eq_true rfl)) dX5_hasFace_7 ⟨Nat.le_of_ble_eq_true rfl, Nat.le_of_ble_eq_true rfl⟩) hS (fun _ _ h => h.elim) (fun _ h => h.elim) (fun r_2 u t H1 locs ht hvm hw hB hz1 hk1 hS => ?_)
    replace hP := ro_kept hP hk1
    obtain rfl : r_2 = _ := hw
    clear hk1 hz1 hvm ht hB
    generalize H1 = H at hP hS ⊢
    clear hcz1 hgz1
    refine lv_icmp_ge (tgt := 33) hx hb dX5_hasFace_10 (by decide) (fun c_3 => ?_) (fun c_3 => ?_)
    · refine lv_iconst (v := (nI 0)) hx hb dX5_hasFace_33 (by decide) ?_
      exact W.zret (v := (nI 0)) hx hb hr rfl (fun t ht hW => ⟨⟨(nI 0), (), rfl, (by rw [← hres]; rfl), trivial⟩, hS.F ht⟩) hS.2.2 dX5_hasFace_34
    · exact absurd (nI_le (by omega) (by omega)) c_3
  | succ zn ih =>
    intro zk H locs ls hP hS hE9 hres hl
    refine lv_iload_n hx hb dX5_hasFace_2 rfl (lv_at hl 0 rfl) ?_
    refine lv_aload_n hx hb dX5_hasFace_3 rfl (lv_at hl 1 rfl) ?_
    refine pl_get (D := D) (ci := 4) (v := .ref (mt_fa τ zi)) (C := RX3) (T := TX3) (N := 9) hx hb hts (by decide +kernel) hown hK.1 hP (hM.cl hzi).1 (hM.cl hzi).2.1 rfl 4 (by decide) (hts (.fieldLink RX5 51 "ChooseTreeModel$Cls" "faces" "Ljava/util/ArrayList;") (by decide +kernel)) (fun _ h9 => h9) rfl dX5_hasFace_4 ?_
    obtain ⟨mcz4, gz4, hfz4, hgz4, hcz4⟩ := hM.ly.raw (b := (mt_fa τ zi)) (hM.fa hzi).1 (hM.fa hzi).2
    refine va_calli (va_runV (As := []) (rest := [.int (nI zk)]) ⟨hx, hb, hml, hown, hts⟩ (c_Jx4a65c_size_8abf5 l D cO mi L f (mt_fa τ zi) (hM.fa hzi).1 mcz4 (ls_dat (mt_ls τ) (mt_fa τ zi)) (mt_cnt τ (mt_fa τ zi)) hfz4) (cwV 0 hts gX5_hasFace_Jx4a65c_size_8abf5 rfl rfl rfl (by decide +kernel) ⟨Nat.le_of_ble_eq_true rfl, Nat.le_of_ble_eq_true rfl⟩) (mP_V hK hP 0 rfl (hM.fa hzi).1 hfz4) rfl rfl hl.1 rfl (lv_room (Nat.le_of_ble_eq_true rfl)) dX5_hasFace_7 ⟨Nat.le_of_ble_eq_true rfl, Nat.le_of_ble_eq_true rfl⟩) hS (fun _ _ h => h.elim) (fun _ h => h.elim) (fun r_5 u t H1 locs ht hvm hw hB hz1 hk1 hS => ?_)
    replace hP := ro_kept hP hk1
    obtain rfl : r_5 = _ := hw
    clear hk1 hz1 hvm ht hB
    generalize H1 = H at hP hS ⊢
    clear hcz4 hgz4
    refine lv_icmp_ge (tgt := 33) hx hb dX5_hasFace_10 (by decide) (fun c_6 => ?_) (fun c_6 => ?_)
    · exact absurd c_6 (nI_ge (by omega) (by omega))
    · refine lv_aload_n hx hb dX5_hasFace_13 rfl (lv_at hl 1 rfl) ?_
      refine pl_get (D := D) (ci := 4) (v := .ref (mt_fa τ zi)) (C := RX3) (T := TX3) (N := 9) hx hb hts (by decide +kernel) hown hK.1 hP (hM.cl hzi).1 (hM.cl hzi).2.1 rfl 4 (by decide) (hts (.fieldLink RX5 51 "ChooseTreeModel$Cls" "faces" "Ljava/util/ArrayList;") (by decide +kernel)) (fun _ h9 => h9) rfl dX5_hasFace_14 ?_
      refine lv_iload_n hx hb dX5_hasFace_17 rfl (lv_at hl 0 rfl) ?_
      obtain ⟨mcz7, gz7, hfz7, hdz7, hfdz7, hcnz7, hcpz7, hgiz7⟩ := hM.ly.get (b := (mt_fa τ zi)) (i := zk) (hM.fa hzi).1 (hM.fa hzi).2 (show zk < (mt_cnt τ (mt_fa τ zi)) by omega)
      replace hgiz7 : gz7 zk = some (mt_ca τ (mt_fl τ zi zk)) := hgiz7.trans (congrArg some (hMl.2 zk (show zk < (mt_cnt τ (mt_fa τ zi)) by omega)).2)
      refine va_callq (va_runV (As := [.int (nI zk)]) (rest := []) ⟨hx, hb, hml, hown, hts⟩ (c_Jx4a65c_get_915e3 l D cO mi L f (mt_fa τ zi) (hM.fa hzi).1 mcz7 (ls_dat (mt_ls τ) (mt_fa τ zi)) (mt_cnt τ (mt_fa τ zi)) hfz7 hdz7 (ls_cap (mt_ls τ) (mt_fa τ zi)) gz7 hfdz7 hcnz7 hcpz7 zk (show zk < (mt_cnt τ (mt_fa τ zi)) by omega)) (cwV 1 hts gX5_hasFace_Jx4a65c_get_915e3 rfl rfl rfl (by decide +kernel) ⟨Nat.le_of_ble_eq_true rfl, Nat.le_of_ble_eq_true rfl⟩) (mP_V hK hP 0 rfl (hM.fa hzi).1 hfz7) rfl rfl hl.1 rfl (lv_room (Nat.le_of_ble_eq_true rfl)) dX5_hasFace_18 ⟨Nat.le_of_ble_eq_true rfl, Nat.le_of_ble_eq_true rfl⟩) hS (fun _ _ h => h.elim) (fun _ h => h.elim) (fun r_8 u t H1 locs ht hvm hw hB hz1 hk1 hS => ?_)
      replace hP := ro_kept hP hk1
      obtain rfl : r_8 = _ := hw
      clear hk1 hz1 hvm ht hB
      generalize H1 = H at hP hS ⊢
      rw [hgiz7]
      clear hgiz7 hfdz7 hdz7 hcnz7 hcpz7
      refine lv_aload_n hx hb dX5_hasFace_21 rfl (lv_at hl 2 rfl) ?_
      refine lv_acmp_ne (rx := (some (mt_ca τ (mt_fl τ zi zk)))) (ry := (some (mt_ca τ zy))) (tgt := 27) hx hb dX5_hasFace_22 (by decide) (fun c_9 => ?_) (fun c_9 => ?_)
      · replace c_9 : ¬ mt_ca τ (mt_fl τ zi zk) = mt_ca τ zy := fun q9 => c_9 (congrArg some q9)
        refine lv_iinc (v := (nI (zk + 1))) (lv' := [(2, .int (nI (zk + 1))), (0, .ref (mt_ca τ zi)), (1, .ref (mt_ca τ zy))]) hx hb dX5_hasFace_27 hl (k := 0) rfl (nI_1 _) (by decide) rfl (fun ls hl => ?_)
        refine lv_goto (tgt := 2) hx hb dX5_hasFace_30 (by decide) ?_
        exact ih (zk + 1) H locs ls hP hS (by omega) (by rw [← hres]; simp [t_hasF, c_6, c_9]) (lv_sub hl [0, 1, 2] rfl)
      · replace c_9 := Option.some.inj c_9
        refine lv_iconst (v := (nI 1)) hx hb dX5_hasFace_25 (by decide) ?_
        exact W.zret (v := (nI 1)) hx hb hr rfl (fun t ht hW => ⟨⟨(nI 1), (), rfl, (by rw [← hres]; simp [t_hasF, bI, c_6, c_9]), trivial⟩, hS.F ht⟩) hS.2.2 dX5_hasFace_26
set_option maxHeartbeats 4000000 in
set_option maxRecDepth 100000 in
theorem c_X5_isFree (l : Launch) (D : va_G) (cO : ClassId) (mi : Nat) (L : List Nat) (f : Nat → va_E) (e0 : Nat) (τ : MT) (hM : MI e0 cO L f τ) (zj : Nat) (hzj : zj < mt_mn τ) : Met l yX5_isFree wsX5_isFree (rmC 0 0) (mP D cO mi L f [.ref (mt_ja τ zj)]) (roQ (bI (t_free τ zj))) 0 0 (fun _ => False) := by
  refine Met.ofW (cc := cX5_isFree) (maxL := 1) (ret := (some .boolean)) (by decide) rfl ?_
  intro p e s m args below meth cq s₁ B hml hv
  obtain ⟨rfl, hP, hK⟩ := hv
  have hx := B.exec
  have hb := B.bytes
  have hr := B.returns
  have hts := atoms_spec (ws := wsX5_isFree) B.pre
  have hown : s.vm.findClass RX5 = some m.cls := findClass_of_methodNamed B.named
  have hlocks := B.notSynchronized
  clear B
  have hl := lv_entry ([.ref (mt_ja τ zj)]) (n := 1) (Nat.le_of_ble_eq_true rfl)
  rw [lg_entry_eq]
  generalize (lg_sl ([.ref (mt_ja τ zj)]) ++ List.replicate (1 - (lg_sl ([.ref (mt_ja τ zj)])).length) Slot.unset).toArray = ls at hl ⊢
  replace hl : lv_has ls 1 [(0, .ref (mt_ja τ zj))] := hl
  refine gen_start (A := fun _ => False) (fun H locs hP hS => ?_) hP
  refine lv_aload_n hx hb dX5_isFree_0 rfl (lv_at hl 0 rfl) ?_
  refine pl_get (D := D) (ci := 5) (v := .int (mt_st τ zj)) (C := RX4) (T := TX4) (N := 7) hx hb hts (by decide +kernel) hown hK.1 hP (hM.me hzj).1 (hM.me hzj).2.1 rfl 4 (by decide) (hts (.fieldLink RX5 101 "ChooseTreeModel$Met" "isStatic" "Z") (by decide +kernel)) (fun _ h9 => h9) rfl dX5_isFree_1 ?_
  refine lv_if_ne (tgt := 19) hx hb dX5_isFree_4 (by decide) (fun c_1 => ?_) (fun c_1 => ?_)
  · refine lv_iconst (v := (nI 0)) hx hb dX5_isFree_19 (by decide) ?_
    exact W.zret (v := (nI 0)) hx hb hr rfl (fun t ht hW => ⟨⟨(nI 0), (), rfl, (by simp [t_free, bI, c_1]), trivial⟩, hS.F ht⟩) hS.2.2 dX5_isFree_20
  · refine lv_aload_n hx hb dX5_isFree_7 rfl (lv_at hl 0 rfl) ?_
    refine pl_get (D := D) (ci := 5) (v := .int (mt_si τ zj)) (C := RX4) (T := TX4) (N := 7) hx hb hts (by decide +kernel) hown hK.1 hP (hM.me hzj).1 (hM.me hzj).2.1 rfl 2 (by decide) (hts (.fieldLink RX5 104 "ChooseTreeModel$Met" "sight" "I") (by decide +kernel)) (fun _ h9 => h9) rfl dX5_isFree_8 ?_
    refine lv_iconst (v := (nI 3)) hx hb dX5_isFree_11 (by decide) ?_
    refine lv_icmp_eq (tgt := 19) hx hb dX5_isFree_12 (by decide) (fun c_2 => ?_) (fun c_2 => ?_)
    · refine lv_iconst (v := (nI 0)) hx hb dX5_isFree_19 (by decide) ?_
      exact W.zret (v := (nI 0)) hx hb hr rfl (fun t ht hW => ⟨⟨(nI 0), (), rfl, (by simp [t_free, bI, c_1, c_2]), trivial⟩, hS.F ht⟩) hS.2.2 dX5_isFree_20
    · refine lv_iconst (v := (nI 1)) hx hb dX5_isFree_15 (by decide) ?_
      refine lv_goto (tgt := 20) hx hb dX5_isFree_16 (by decide) ?_
      exact W.zret (v := (nI 1)) hx hb hr rfl (fun t ht hW => ⟨⟨(nI 1), (), rfl, (by simp [t_free, bI, c_1, c_2]), trivial⟩, hS.F ht⟩) hS.2.2 dX5_isFree_20
set_option maxHeartbeats 4000000 in
set_option maxRecDepth 100000 in
theorem c_X5_goesOver (l : Launch) (D : va_G) (cO : ClassId) (mi : Nat) (L : List Nat) (f : Nat → va_E) (e0 : Nat) (τ : MT) (hM : MI e0 cO L f τ) (za zb : Nat) (hza : za < mt_mn τ) (hzb : zb < mt_mn τ) : Met l yX5_goesOver wsX5_goesOver (rmC 4 86) (mP D cO mi L f [.ref (mt_ja τ za), .ref (mt_ja τ zb)]) (roQ (bI (t_over τ za zb))) 0 0 (fun _ => False) := by
  refine Met.ofW (cc := cX5_goesOver) (maxL := 5) (ret := (some .boolean)) (by decide) rfl ?_
  intro p e s m args below meth cq s₁ B hml hv
  obtain ⟨rfl, hP, hK⟩ := hv
  have hx := B.exec
  have hb := B.bytes
  have hr := B.returns
  have hts := atoms_spec (ws := wsX5_goesOver) B.pre
  have hown : s.vm.findClass RX5 = some m.cls := findClass_of_methodNamed B.named
  have hlocks := B.notSynchronized
  clear B
  have hl := lv_entry ([.ref (mt_ja τ za), .ref (mt_ja τ zb)]) (n := 5) (Nat.le_of_ble_eq_true rfl)
  rw [lg_entry_eq]
  generalize (lg_sl ([.ref (mt_ja τ za), .ref (mt_ja τ zb)]) ++ List.replicate (5 - (lg_sl ([.ref (mt_ja τ za), .ref (mt_ja τ zb)])).length) Slot.unset).toArray = ls at hl ⊢
  replace hl : lv_has ls 5 [(0, .ref (mt_ja τ za)), (1, .ref (mt_ja τ zb))] := hl
  refine gen_start (A := fun _ => False) (fun H locs hP hS => ?_) hP
  have hMb := hM.b
  have hoa := (hM.me hza).2.2
  have hob := (hM.me hzb).2.2
  refine lv_aload_n hx hb dX5_goesOver_0 rfl (lv_at hl 0 rfl) ?_
  refine pl_get (D := D) (ci := 5) (v := .ref (mt_ca τ (mt_ow τ za))) (C := RX4) (T := TX4) (N := 7) hx hb hts (by decide +kernel) hown hK.1 hP (hM.me hza).1 (hM.me hza).2.1 rfl 3 (by decide) (hts (.fieldLink RX5 107 "ChooseTreeModel$Met" "owner" "LChooseTreeModel$Cls;") (by decide +kernel)) (fun _ h9 => h9) rfl dX5_goesOver_1 ?_
  refine lv_aload_n hx hb dX5_goesOver_4 rfl (lv_at hl 1 rfl) ?_
  refine pl_get (D := D) (ci := 5) (v := .ref (mt_ca τ (mt_ow τ zb))) (C := RX4) (T := TX4) (N := 7) hx hb hts (by decide +kernel) hown hK.1 hP (hM.me hzb).1 (hM.me hzb).2.1 rfl 3 (by decide) (hts (.fieldLink RX5 107 "ChooseTreeModel$Met" "owner" "LChooseTreeModel$Cls;") (by decide +kernel)) (fun _ h9 => h9) rfl dX5_goesOver_5 ?_
  refine lv_acmp_eq (rx := (some (mt_ca τ (mt_ow τ za)))) (ry := (some (mt_ca τ (mt_ow τ zb)))) (tgt := 36) hx hb dX5_goesOver_8 (by decide) (fun c_1 => ?_) (fun c_1 => ?_)
  · replace c_1 := Option.some.inj c_1
    refine lv_iconst (v := (nI 0)) hx hb dX5_goesOver_36 (by decide) ?_
    exact W.zret (v := (nI 0)) hx hb hr rfl (fun t ht hW => ⟨⟨(nI 0), (), rfl, (by simp [t_over, bI, c_1]), trivial⟩, hS.F ht⟩) hS.2.2 dX5_goesOver_37
  · replace c_1 : ¬ mt_ca τ (mt_ow τ za) = mt_ca τ (mt_ow τ zb) := fun q9 => c_1 (congrArg some q9)
    refine lv_aload_n hx hb dX5_goesOver_11 rfl (lv_at hl 0 rfl) ?_
    refine pl_get (D := D) (ci := 5) (v := .int (mt_nm τ za)) (C := RX4) (T := TX4) (N := 7) hx hb hts (by decide +kernel) hown hK.1 hP (hM.me hza).1 (hM.me hza).2.1 rfl 1 (by decide) (hts (.fieldLink RX5 110 "ChooseTreeModel$Met" "name" "I") (by decide +kernel)) (fun _ h9 => h9) rfl dX5_goesOver_12 ?_
    refine lv_aload_n hx hb dX5_goesOver_15 rfl (lv_at hl 1 rfl) ?_
    refine pl_get (D := D) (ci := 5) (v := .int (mt_nm τ zb)) (C := RX4) (T := TX4) (N := 7) hx hb hts (by decide +kernel) hown hK.1 hP (hM.me hzb).1 (hM.me hzb).2.1 rfl 1 (by decide) (hts (.fieldLink RX5 110 "ChooseTreeModel$Met" "name" "I") (by decide +kernel)) (fun _ h9 => h9) rfl dX5_goesOver_16 ?_
    refine lv_icmp_ne (tgt := 36) hx hb dX5_goesOver_19 (by decide) (fun c_2 => ?_) (fun c_2 => ?_)
    · refine lv_iconst (v := (nI 0)) hx hb dX5_goesOver_36 (by decide) ?_
      exact W.zret (v := (nI 0)) hx hb hr rfl (fun t ht hW => ⟨⟨(nI 0), (), rfl, (by simp [t_over, bI, c_1, c_2]), trivial⟩, hS.F ht⟩) hS.2.2 dX5_goesOver_37
    · refine lv_aload_n hx hb dX5_goesOver_22 rfl (lv_at hl 0 rfl) ?_
      refine va_calli (va_runS (As := [.ref (mt_ja τ za)]) (rest := []) ⟨hx, hb, hml, hown, hts⟩ (c_X5_isFree l D cO mi L f e0 τ hM za hza) (va_cwS 1 hts gX5_goesOver_X5_isFree rfl rfl rfl (by decide +kernel) ⟨Nat.le_of_ble_eq_true rfl, Nat.le_of_ble_eq_true rfl⟩) (mP_S hK hP) rfl rfl hl.1 rfl (lv_room (Nat.le_of_ble_eq_true rfl)) dX5_goesOver_23 ⟨Nat.le_of_ble_eq_true rfl, Nat.le_of_ble_eq_true rfl⟩) hS (fun _ _ h => h.elim) (fun _ h => h.elim) (fun r_3 u t H1 locs ht hvm hw hB hz1 hk1 hS => ?_)
      replace hP := ro_kept hP hk1
      obtain rfl : r_3 = _ := hw
      clear hk1 hz1 hvm ht hB
      generalize H1 = H at hP hS ⊢
      refine lv_if_eq (tgt := 36) hx hb dX5_goesOver_26 (by decide) (fun c_4 => ?_) (fun c_4 => ?_)
      · replace c_4 := bI_0.mp c_4
        refine lv_iconst (v := (nI 0)) hx hb dX5_goesOver_36 (by decide) ?_
        exact W.zret (v := (nI 0)) hx hb hr rfl (fun t ht hW => ⟨⟨(nI 0), (), rfl, (by simp [t_over, bI, c_1, c_2, c_4]), trivial⟩, hS.F ht⟩) hS.2.2 dX5_goesOver_37
      · replace c_4 := bI_n0.mp c_4
        refine lv_aload_n hx hb dX5_goesOver_29 rfl (lv_at hl 1 rfl) ?_
        refine va_calli (va_runS (As := [.ref (mt_ja τ zb)]) (rest := []) ⟨hx, hb, hml, hown, hts⟩ (c_X5_isFree l D cO mi L f e0 τ hM zb hzb) (va_cwS 1 hts gX5_goesOver_X5_isFree rfl rfl rfl (by decide +kernel) ⟨Nat.le_of_ble_eq_true rfl, Nat.le_of_ble_eq_true rfl⟩) (mP_S hK hP) rfl rfl hl.1 rfl (lv_room (Nat.le_of_ble_eq_true rfl)) dX5_goesOver_30 ⟨Nat.le_of_ble_eq_true rfl, Nat.le_of_ble_eq_true rfl⟩) hS (fun _ _ h => h.elim) (fun _ h => h.elim) (fun r_5 u t H1 locs ht hvm hw hB hz1 hk1 hS => ?_)
        replace hP := ro_kept hP hk1
        obtain rfl : r_5 = _ := hw
        clear hk1 hz1 hvm ht hB
        generalize H1 = H at hP hS ⊢
        refine lv_if_ne (tgt := 38) hx hb dX5_goesOver_33 (by decide) (fun c_6 => ?_) (fun c_6 => ?_)
        · replace c_6 := bI_n0.mp c_6
          refine lv_aload_n hx hb dX5_goesOver_38 rfl (lv_at hl 1 rfl) ?_
          refine pl_get (D := D) (ci := 5) (v := .int (mt_si τ zb)) (C := RX4) (T := TX4) (N := 7) hx hb hts (by decide +kernel) hown hK.1 hP (hM.me hzb).1 (hM.me hzb).2.1 rfl 2 (by decide) (hts (.fieldLink RX5 104 "ChooseTreeModel$Met" "sight" "I") (by decide +kernel)) (fun _ h9 => h9) rfl dX5_goesOver_39 ?_
          refine lv_iconst (v := (nI 1)) hx hb dX5_goesOver_42 (by decide) ?_
          refine lv_icmp_eq (tgt := 71) hx hb dX5_goesOver_43 (by decide) (fun c_7 => ?_) (fun c_7 => ?_)
          · refine lv_iconst (v := (nI 1)) hx hb dX5_goesOver_71 (by decide) ?_
            exact W.zret (v := (nI 1)) hx hb hr rfl (fun t ht hW => ⟨⟨(nI 1), (), rfl, (by simp [t_over, bI, c_1, c_2, c_4, c_6, c_7]), trivial⟩, hS.F ht⟩) hS.2.2 dX5_goesOver_72
          · refine lv_aload_n hx hb dX5_goesOver_46 rfl (lv_at hl 1 rfl) ?_
            refine pl_get (D := D) (ci := 5) (v := .int (mt_si τ zb)) (C := RX4) (T := TX4) (N := 7) hx hb hts (by decide +kernel) hown hK.1 hP (hM.me hzb).1 (hM.me hzb).2.1 rfl 2 (by decide) (hts (.fieldLink RX5 104 "ChooseTreeModel$Met" "sight" "I") (by decide +kernel)) (fun _ h9 => h9) rfl dX5_goesOver_47 ?_
            refine lv_iconst (v := (nI 2)) hx hb dX5_goesOver_50 (by decide) ?_
            refine lv_icmp_eq (tgt := 71) hx hb dX5_goesOver_51 (by decide) (fun c_8 => ?_) (fun c_8 => ?_)
            · refine lv_iconst (v := (nI 1)) hx hb dX5_goesOver_71 (by decide) ?_
              exact W.zret (v := (nI 1)) hx hb hr rfl (fun t ht hW => ⟨⟨(nI 1), (), rfl, (by simp [t_over, bI, c_1, c_2, c_4, c_6, c_7, c_8]), trivial⟩, hS.F ht⟩) hS.2.2 dX5_goesOver_72
            · refine lv_aload_n hx hb dX5_goesOver_54 rfl (lv_at hl 0 rfl) ?_
              refine pl_get (D := D) (ci := 5) (v := .ref (mt_ca τ (mt_ow τ za))) (C := RX4) (T := TX4) (N := 7) hx hb hts (by decide +kernel) hown hK.1 hP (hM.me hza).1 (hM.me hza).2.1 rfl 3 (by decide) (hts (.fieldLink RX5 107 "ChooseTreeModel$Met" "owner" "LChooseTreeModel$Cls;") (by decide +kernel)) (fun _ h9 => h9) rfl dX5_goesOver_55 ?_
              refine pl_get (D := D) (ci := 4) (v := .int (mt_pk τ (mt_ow τ za))) (C := RX3) (T := TX3) (N := 9) hx hb hts (by decide +kernel) hown hK.1 hP (hM.cl hoa).1 (hM.cl hoa).2.1 rfl 1 (by decide) (hts (.fieldLink RX5 117 "ChooseTreeModel$Cls" "pack" "I") (by decide +kernel)) (fun _ h9 => h9) rfl dX5_goesOver_58 ?_
              refine lv_aload_n hx hb dX5_goesOver_61 rfl (lv_at hl 1 rfl) ?_
              refine pl_get (D := D) (ci := 5) (v := .ref (mt_ca τ (mt_ow τ zb))) (C := RX4) (T := TX4) (N := 7) hx hb hts (by decide +kernel) hown hK.1 hP (hM.me hzb).1 (hM.me hzb).2.1 rfl 3 (by decide) (hts (.fieldLink RX5 107 "ChooseTreeModel$Met" "owner" "LChooseTreeModel$Cls;") (by decide +kernel)) (fun _ h9 => h9) rfl dX5_goesOver_62 ?_
              refine pl_get (D := D) (ci := 4) (v := .int (mt_pk τ (mt_ow τ zb))) (C := RX3) (T := TX3) (N := 9) hx hb hts (by decide +kernel) hown hK.1 hP (hM.cl hob).1 (hM.cl hob).2.1 rfl 1 (by decide) (hts (.fieldLink RX5 117 "ChooseTreeModel$Cls" "pack" "I") (by decide +kernel)) (fun _ h9 => h9) rfl dX5_goesOver_65 ?_
              refine lv_icmp_ne (tgt := 73) hx hb dX5_goesOver_68 (by decide) (fun c_9 => ?_) (fun c_9 => ?_)
              · refine lv_iconst (v := (nI 1)) hx hb dX5_goesOver_73 (by decide) ?_
                refine lv_aload_n hx hb dX5_goesOver_74 rfl (lv_at hl 0 rfl) ?_
                refine pl_get (D := D) (ci := 5) (v := .ref (mt_ca τ (mt_ow τ za))) (C := RX4) (T := TX4) (N := 7) hx hb hts (by decide +kernel) hown hK.1 hP (hM.me hza).1 (hM.me hza).2.1 rfl 3 (by decide) (hts (.fieldLink RX5 107 "ChooseTreeModel$Met" "owner" "LChooseTreeModel$Cls;") (by decide +kernel)) (fun _ h9 => h9) rfl dX5_goesOver_75 ?_
                refine pl_get (D := D) (ci := 4) (v := .int (mt_pk τ (mt_ow τ za))) (C := RX3) (T := TX3) (N := 9) hx hb hts (by decide +kernel) hown hK.1 hP (hM.cl hoa).1 (hM.cl hoa).2.1 rfl 1 (by decide) (hts (.fieldLink RX5 117 "ChooseTreeModel$Cls" "pack" "I") (by decide +kernel)) (fun _ h9 => h9) rfl dX5_goesOver_78 ?_
                refine lv_ishl hx hb dX5_goesOver_81 ?_
                refine lv_istore_n (lv' := [(2, .int ((nI 1) <<< ((mt_pk τ (mt_ow τ za)) &&& 31))), (0, .ref (mt_ja τ za)), (1, .ref (mt_ja τ zb))]) hx hb dX5_goesOver_82 rfl hl (by decide) rfl (fun ls hl => ?_)
                refine lv_aload_n hx hb dX5_goesOver_83 rfl (lv_at hl 1 rfl) ?_
                refine pl_get (D := D) (ci := 5) (v := .ref (mt_ca τ (mt_ow τ za))) (C := RX4) (T := TX4) (N := 7) hx hb hts (by decide +kernel) hown hK.1 hP (hM.me hza).1 (hM.me hza).2.1 rfl 3 (by decide) (hts (.fieldLink RX5 107 "ChooseTreeModel$Met" "owner" "LChooseTreeModel$Cls;") (by decide +kernel)) (fun _ h9 => h9) rfl dX5_goesOver_84 ?_
                refine pl_get (D := D) (ci := 4) (v := va_rf ((mt_pr τ (mt_ow τ za)).map (mt_ca τ))) (C := RX3) (T := TX3) (N := 9) hx hb hts (by decide +kernel) hown hK.1 hP (hM.cl hoa).1 (hM.cl hoa).2.1 rfl 2 (by decide) (hts (.fieldLink RX5 77 "ChooseTreeModel$Cls" "parent" "LChooseTreeModel$Cls;") (by decide +kernel)) (fun _ h9 => h9) rfl dX5_goesOver_87 ?_
                refine lv_astore_nR (lv' := [(3, va_rf ((mt_pr τ (mt_ow τ za)).map (mt_ca τ))), (2, .int ((nI 1) <<< ((mt_pk τ (mt_ow τ za)) &&& 31))), (0, .ref (mt_ja τ za)), (1, .ref (mt_ja τ zb))]) hx hb dX5_goesOver_90 rfl hl (by decide) rfl (fun ls hl => ?_)
                obtain ⟨zk, hzk⟩ : ∃ z, z = mt_pr τ (mt_ow τ za) := ⟨_, rfl⟩
                obtain ⟨zq, hzq⟩ : ∃ z, z = (nI 1 <<< (mt_pk τ (mt_ow τ za) &&& 31)) := ⟨_, rfl⟩
                obtain ⟨zn, hzn⟩ : ∃ z : Nat, z = 60 := ⟨_, rfl⟩
                have hE9 : ∀ p, zk = some p → p < zn ∧ p < mt_n τ := fun p hp => by have := (hM.cl hoa).2.2.1 p (hzk ▸ hp); omega
                have hres : t_go τ zb (mt_nm τ za) (zn + 1) zk zq = t_over τ za zb := by rw [hzk, hzq, hzn]; simp [t_over, c_1, c_2, c_4, c_6, c_7, c_8, c_9]
                replace hl : lv_has ls 5 [(3, va_rf (zk.map (mt_ca τ))), (2, .int zq), (0, .ref (mt_ja τ za)), (1, .ref (mt_ja τ zb))] := by rw [hzk, hzq]; exact lv_sub hl [0, 1, 2, 3] rfl
                clear hzk hzq hzn
                revert hl
                revert hres
                revert hE9
                revert hS
                revert hP
                revert ls
                revert locs
                revert H
                revert zq
                revert zk
                induction zn with
                | zero =>
                  intro zk zq H locs ls hP hS hE9 hres hl
                  rcases zk with _ | zp
                  · have hdm := hE9
                    refine lv_aload_nN hx hb dX5_goesOver_91 rfl (lv_at hl 0 rfl) ?_
                    refine lv_ifnullN (tgt := 194) hx hb dX5_goesOver_92 (by decide) ?_
                    refine lv_iconst (v := (nI 0)) hx hb dX5_goesOver_194 (by decide) ?_
                    exact W.zret (v := (nI 0)) hx hb hr rfl (fun t ht hW => ⟨⟨(nI 0), (), rfl, (by rw [← hres]; rfl), trivial⟩, hS.F ht⟩) hS.2.2 dX5_goesOver_195
                  · exact absurd (hE9 zp rfl).1 (by omega)
                | succ zn ih =>
                  intro zk zq H locs ls hP hS hE9 hres hl
                  rcases zk with _ | zp
                  · have hdm := hE9
                    refine lv_aload_nN hx hb dX5_goesOver_91 rfl (lv_at hl 0 rfl) ?_
                    refine lv_ifnullN (tgt := 194) hx hb dX5_goesOver_92 (by decide) ?_
                    refine lv_iconst (v := (nI 0)) hx hb dX5_goesOver_194 (by decide) ?_
                    exact W.zret (v := (nI 0)) hx hb hr rfl (fun t ht hW => ⟨⟨(nI 0), (), rfl, (by rw [← hres]; rfl), trivial⟩, hS.F ht⟩) hS.2.2 dX5_goesOver_195
                  · obtain ⟨hpn, hzp⟩ := hE9 zp rfl
                    replace hl : lv_has ls 5 [(3, .ref (mt_ca τ zp)), (2, .int zq), (0, .ref (mt_ja τ za)), (1, .ref (mt_ja τ zb))] := hl
                    refine lv_aload_n hx hb dX5_goesOver_91 rfl (lv_at hl 0 rfl) ?_
                    refine lv_ifnull hx hb dX5_goesOver_92 ?_
                    refine lv_aload_n hx hb dX5_goesOver_95 rfl (lv_at hl 0 rfl) ?_
                    refine lv_aload_n hx hb dX5_goesOver_96 rfl (lv_at hl 3 rfl) ?_
                    refine pl_get (D := D) (ci := 5) (v := .ref (mt_ca τ (mt_ow τ zb))) (C := RX4) (T := TX4) (N := 7) hx hb hts (by decide +kernel) hown hK.1 hP (hM.me hzb).1 (hM.me hzb).2.1 rfl 3 (by decide) (hts (.fieldLink RX5 107 "ChooseTreeModel$Met" "owner" "LChooseTreeModel$Cls;") (by decide +kernel)) (fun _ h9 => h9) rfl dX5_goesOver_97 ?_
                    refine lv_acmp_eq (rx := (some (mt_ca τ zp))) (ry := (some (mt_ca τ (mt_ow τ zb)))) (tgt := 194) hx hb dX5_goesOver_100 (by decide) (fun c_10 => ?_) (fun c_10 => ?_)
                    · replace c_10 := Option.some.inj c_10
                      refine lv_iconst (v := (nI 0)) hx hb dX5_goesOver_194 (by decide) ?_
                      exact W.zret (v := (nI 0)) hx hb hr rfl (fun t ht hW => ⟨⟨(nI 0), (), rfl, (by rw [← hres]; simp [t_go, bI, c_10]), trivial⟩, hS.F ht⟩) hS.2.2 dX5_goesOver_195
                    · replace c_10 : ¬ mt_ca τ zp = mt_ca τ (mt_ow τ zb) := fun q9 => c_10 (congrArg some q9)
                      refine lv_aload_n hx hb dX5_goesOver_103 rfl (lv_at hl 0 rfl) ?_
                      refine lv_aload_n hx hb dX5_goesOver_104 rfl (lv_at hl 2 rfl) ?_
                      refine pl_get (D := D) (ci := 5) (v := .int (mt_nm τ za)) (C := RX4) (T := TX4) (N := 7) hx hb hts (by decide +kernel) hown hK.1 hP (hM.me hza).1 (hM.me hza).2.1 rfl 1 (by decide) (hts (.fieldLink RX5 110 "ChooseTreeModel$Met" "name" "I") (by decide +kernel)) (fun _ h9 => h9) rfl dX5_goesOver_105 ?_
                      refine va_callq (va_runV (As := [.int (mt_nm τ za)]) (rest := []) ⟨hx, hb, hml, hown, hts⟩ (c_X3_named l D cO mi L f e0 τ hM zp hzp (mt_nm τ za)) (cwV 1 hts gX5_goesOver_X3_named rfl rfl rfl (by decide +kernel) ⟨Nat.le_of_ble_eq_true rfl, Nat.le_of_ble_eq_true rfl⟩) (mP_V hK hP 4 rfl (hM.cl hzp).1 (hM.cl hzp).2.1) rfl rfl hl.1 rfl (lv_room (Nat.le_of_ble_eq_true rfl)) dX5_goesOver_108 ⟨Nat.le_of_ble_eq_true rfl, Nat.le_of_ble_eq_true rfl⟩) hS (fun _ _ h => h.elim) (fun _ h => h.elim) (fun r_11 u t H1 locs ht hvm hw hB hz1 hk1 hS => ?_)
                      replace hP := ro_kept hP hk1
                      obtain rfl : r_11 = _ := hw
                      clear hk1 hz1 hvm ht hB
                      generalize H1 = H at hP hS ⊢
                      rcases htj : t_idx τ zp (mt_nm τ za) with _ | zj
                      · rw [show t_named τ zp (mt_nm τ za) = none by simp [t_named, htj]]
                        refine lv_astoreN (lv' := [(4, .null), (3, .ref (mt_ca τ zp)), (2, .int zq), (0, .ref (mt_ja τ za)), (1, .ref (mt_ja τ zb))]) hx hb dX5_goesOver_111 hl (by decide) rfl (fun ls hl => ?_)
                        refine lv_aloadN hx hb dX5_goesOver_113 (lv_at hl 0 rfl) ?_
                        refine lv_ifnullN (tgt := 186) hx hb dX5_goesOver_115 (by decide) ?_
                        refine lv_aload_n hx hb dX5_goesOver_186 rfl (lv_at hl 1 rfl) ?_
                        refine pl_get (D := D) (ci := 4) (v := va_rf ((mt_pr τ zp).map (mt_ca τ))) (C := RX3) (T := TX3) (N := 9) hx hb hts (by decide +kernel) hown hK.1 hP (hM.cl hzp).1 (hM.cl hzp).2.1 rfl 2 (by decide) (hts (.fieldLink RX5 77 "ChooseTreeModel$Cls" "parent" "LChooseTreeModel$Cls;") (by decide +kernel)) (fun _ h9 => h9) rfl dX5_goesOver_187 ?_
                        refine lv_astore_nR (lv' := [(3, va_rf ((mt_pr τ zp).map (mt_ca τ))), (4, .null), (2, .int zq), (0, .ref (mt_ja τ za)), (1, .ref (mt_ja τ zb))]) hx hb dX5_goesOver_190 rfl hl (by decide) rfl (fun ls hl => ?_)
                        refine lv_goto (tgt := 91) hx hb dX5_goesOver_191 (by decide) ?_
                        exact ih (mt_pr τ zp) zq H locs ls hP hS (fun p hp => by have := (hM.cl hzp).2.2.1 p hp; omega) (by rw [← hres]; simp [t_go, c_10, htj]) (lv_sub hl [0, 2, 3, 4] rfl)
                      · rw [show t_named τ zp (mt_nm τ za) = some (mt_ja τ zj) by simp [t_named, htj]]
                        refine lv_astore (lv' := [(4, .ref (mt_ja τ zj)), (3, .ref (mt_ca τ zp)), (2, .int zq), (0, .ref (mt_ja τ za)), (1, .ref (mt_ja τ zb))]) hx hb dX5_goesOver_111 hl (by decide) rfl (fun ls hl => ?_)
                        refine lv_aload hx hb dX5_goesOver_113 (lv_at hl 0 rfl) ?_
                        refine lv_ifnull hx hb dX5_goesOver_115 ?_
                        refine lv_aload hx hb dX5_goesOver_118 (lv_at hl 0 rfl) ?_
                        refine va_calli (va_runS (As := [.ref (mt_ja τ zj)]) (rest := []) ⟨hx, hb, hml, hown, hts⟩ (c_X5_isFree l D cO mi L f e0 τ hM zj (t_idx_lt hM hzp htj)) (va_cwS 1 hts gX5_goesOver_X5_isFree rfl rfl rfl (by decide +kernel) ⟨Nat.le_of_ble_eq_true rfl, Nat.le_of_ble_eq_true rfl⟩) (mP_S hK hP) rfl rfl hl.1 rfl (lv_room (Nat.le_of_ble_eq_true rfl)) dX5_goesOver_120 ⟨Nat.le_of_ble_eq_true rfl, Nat.le_of_ble_eq_true rfl⟩) hS (fun _ _ h => h.elim) (fun _ h => h.elim) (fun r_12 u t H1 locs ht hvm hw hB hz1 hk1 hS => ?_)
                        replace hP := ro_kept hP hk1
                        obtain rfl : r_12 = _ := hw
                        clear hk1 hz1 hvm ht hB
                        generalize H1 = H at hP hS ⊢
                        refine lv_if_ne (tgt := 129) hx hb dX5_goesOver_123 (by decide) (fun c_13 => ?_) (fun c_13 => ?_)
                        · replace c_13 := bI_n0.mp c_13
                          refine lv_aload hx hb dX5_goesOver_129 (lv_at hl 0 rfl) ?_
                          refine pl_get (D := D) (ci := 5) (v := .int (mt_si τ zj)) (C := RX4) (T := TX4) (N := 7) hx hb hts (by decide +kernel) hown hK.1 hP (hM.me (t_idx_lt hM hzp htj)).1 (hM.me (t_idx_lt hM hzp htj)).2.1 rfl 2 (by decide) (hts (.fieldLink RX5 104 "ChooseTreeModel$Met" "sight" "I") (by decide +kernel)) (fun _ h9 => h9) rfl dX5_goesOver_131 ?_
                          refine lv_iconst (v := (nI 1)) hx hb dX5_goesOver_134 (by decide) ?_
                          refine lv_icmp_eq (tgt := 161) hx hb dX5_goesOver_135 (by decide) (fun c_14 => ?_) (fun c_14 => ?_)
                          · refine lv_iload_n hx hb dX5_goesOver_161 rfl (lv_at hl 2 rfl) ?_
                            refine lv_iconst (v := (nI 1)) hx hb dX5_goesOver_162 (by decide) ?_
                            refine lv_aload_n hx hb dX5_goesOver_163 rfl (lv_at hl 1 rfl) ?_
                            refine pl_get (D := D) (ci := 4) (v := .int (mt_pk τ zp)) (C := RX3) (T := TX3) (N := 9) hx hb hts (by decide +kernel) hown hK.1 hP (hM.cl hzp).1 (hM.cl hzp).2.1 rfl 1 (by decide) (hts (.fieldLink RX5 117 "ChooseTreeModel$Cls" "pack" "I") (by decide +kernel)) (fun _ h9 => h9) rfl dX5_goesOver_164 ?_
                            refine lv_ishl hx hb dX5_goesOver_167 ?_
                            refine lv_ior hx hb dX5_goesOver_168 ?_
                            refine lv_istore_n (lv' := [(2, .int (zq ||| ((nI 1) <<< ((mt_pk τ zp) &&& 31)))), (4, .ref (mt_ja τ zj)), (3, .ref (mt_ca τ zp)), (0, .ref (mt_ja τ za)), (1, .ref (mt_ja τ zb))]) hx hb dX5_goesOver_169 rfl hl (by decide) rfl (fun ls hl => ?_)
                            refine lv_aload_n hx hb dX5_goesOver_170 rfl (lv_at hl 2 rfl) ?_
                            refine pl_get (D := D) (ci := 4) (v := .int (mt_pk τ zp)) (C := RX3) (T := TX3) (N := 9) hx hb hts (by decide +kernel) hown hK.1 hP (hM.cl hzp).1 (hM.cl hzp).2.1 rfl 1 (by decide) (hts (.fieldLink RX5 117 "ChooseTreeModel$Cls" "pack" "I") (by decide +kernel)) (fun _ h9 => h9) rfl dX5_goesOver_171 ?_
                            refine lv_aload_n hx hb dX5_goesOver_174 rfl (lv_at hl 4 rfl) ?_
                            refine pl_get (D := D) (ci := 5) (v := .ref (mt_ca τ (mt_ow τ zb))) (C := RX4) (T := TX4) (N := 7) hx hb hts (by decide +kernel) hown hK.1 hP (hM.me hzb).1 (hM.me hzb).2.1 rfl 3 (by decide) (hts (.fieldLink RX5 107 "ChooseTreeModel$Met" "owner" "LChooseTreeModel$Cls;") (by decide +kernel)) (fun _ h9 => h9) rfl dX5_goesOver_175 ?_
                            refine pl_get (D := D) (ci := 4) (v := .int (mt_pk τ (mt_ow τ zb))) (C := RX3) (T := TX3) (N := 9) hx hb hts (by decide +kernel) hown hK.1 hP (hM.cl hob).1 (hM.cl hob).2.1 rfl 1 (by decide) (hts (.fieldLink RX5 117 "ChooseTreeModel$Cls" "pack" "I") (by decide +kernel)) (fun _ h9 => h9) rfl dX5_goesOver_178 ?_
                            refine lv_icmp_ne (tgt := 186) hx hb dX5_goesOver_181 (by decide) (fun c_15 => ?_) (fun c_15 => ?_)
                            · refine lv_aload_n hx hb dX5_goesOver_186 rfl (lv_at hl 2 rfl) ?_
                              refine pl_get (D := D) (ci := 4) (v := va_rf ((mt_pr τ zp).map (mt_ca τ))) (C := RX3) (T := TX3) (N := 9) hx hb hts (by decide +kernel) hown hK.1 hP (hM.cl hzp).1 (hM.cl hzp).2.1 rfl 2 (by decide) (hts (.fieldLink RX5 77 "ChooseTreeModel$Cls" "parent" "LChooseTreeModel$Cls;") (by decide +kernel)) (fun _ h9 => h9) rfl dX5_goesOver_187 ?_
                              refine lv_astore_nR (lv' := [(3, va_rf ((mt_pr τ zp).map (mt_ca τ))), (2, .int (zq ||| ((nI 1) <<< ((mt_pk τ zp) &&& 31)))), (4, .ref (mt_ja τ zj)), (0, .ref (mt_ja τ za)), (1, .ref (mt_ja τ zb))]) hx hb dX5_goesOver_190 rfl hl (by decide) rfl (fun ls hl => ?_)
                              refine lv_goto (tgt := 91) hx hb dX5_goesOver_191 (by decide) ?_
                              exact ih (mt_pr τ zp) (zq ||| ((nI 1) <<< ((mt_pk τ zp) &&& 31))) H locs ls hP hS (fun p hp => by have := (hM.cl hzp).2.2.1 p hp; omega) (by rw [← hres]; simp [t_go, c_10, htj, c_13, c_14, c_15]) (lv_sub hl [0, 1, 3, 4] rfl)
                            · refine lv_iconst (v := (nI 1)) hx hb dX5_goesOver_184 (by decide) ?_
                              exact W.zret (v := (nI 1)) hx hb hr rfl (fun t ht hW => ⟨⟨(nI 1), (), rfl, (by rw [← hres]; simp [t_go, bI, c_10, htj, c_13, c_14, c_15]), trivial⟩, hS.F ht⟩) hS.2.2 dX5_goesOver_185
                          · refine lv_aload hx hb dX5_goesOver_138 (lv_at hl 0 rfl) ?_
                            refine pl_get (D := D) (ci := 5) (v := .int (mt_si τ zj)) (C := RX4) (T := TX4) (N := 7) hx hb hts (by decide +kernel) hown hK.1 hP (hM.me (t_idx_lt hM hzp htj)).1 (hM.me (t_idx_lt hM hzp htj)).2.1 rfl 2 (by decide) (hts (.fieldLink RX5 104 "ChooseTreeModel$Met" "sight" "I") (by decide +kernel)) (fun _ h9 => h9) rfl dX5_goesOver_140 ?_
                            refine lv_iconst (v := (nI 2)) hx hb dX5_goesOver_143 (by decide) ?_
                            refine lv_icmp_eq (tgt := 161) hx hb dX5_goesOver_144 (by decide) (fun c_16 => ?_) (fun c_16 => ?_)
                            · refine lv_iload_n hx hb dX5_goesOver_161 rfl (lv_at hl 2 rfl) ?_
                              refine lv_iconst (v := (nI 1)) hx hb dX5_goesOver_162 (by decide) ?_
                              refine lv_aload_n hx hb dX5_goesOver_163 rfl (lv_at hl 1 rfl) ?_
                              refine pl_get (D := D) (ci := 4) (v := .int (mt_pk τ zp)) (C := RX3) (T := TX3) (N := 9) hx hb hts (by decide +kernel) hown hK.1 hP (hM.cl hzp).1 (hM.cl hzp).2.1 rfl 1 (by decide) (hts (.fieldLink RX5 117 "ChooseTreeModel$Cls" "pack" "I") (by decide +kernel)) (fun _ h9 => h9) rfl dX5_goesOver_164 ?_
                              refine lv_ishl hx hb dX5_goesOver_167 ?_
                              refine lv_ior hx hb dX5_goesOver_168 ?_
                              refine lv_istore_n (lv' := [(2, .int (zq ||| ((nI 1) <<< ((mt_pk τ zp) &&& 31)))), (4, .ref (mt_ja τ zj)), (3, .ref (mt_ca τ zp)), (0, .ref (mt_ja τ za)), (1, .ref (mt_ja τ zb))]) hx hb dX5_goesOver_169 rfl hl (by decide) rfl (fun ls hl => ?_)
                              refine lv_aload_n hx hb dX5_goesOver_170 rfl (lv_at hl 2 rfl) ?_
                              refine pl_get (D := D) (ci := 4) (v := .int (mt_pk τ zp)) (C := RX3) (T := TX3) (N := 9) hx hb hts (by decide +kernel) hown hK.1 hP (hM.cl hzp).1 (hM.cl hzp).2.1 rfl 1 (by decide) (hts (.fieldLink RX5 117 "ChooseTreeModel$Cls" "pack" "I") (by decide +kernel)) (fun _ h9 => h9) rfl dX5_goesOver_171 ?_
                              refine lv_aload_n hx hb dX5_goesOver_174 rfl (lv_at hl 4 rfl) ?_
                              refine pl_get (D := D) (ci := 5) (v := .ref (mt_ca τ (mt_ow τ zb))) (C := RX4) (T := TX4) (N := 7) hx hb hts (by decide +kernel) hown hK.1 hP (hM.me hzb).1 (hM.me hzb).2.1 rfl 3 (by decide) (hts (.fieldLink RX5 107 "ChooseTreeModel$Met" "owner" "LChooseTreeModel$Cls;") (by decide +kernel)) (fun _ h9 => h9) rfl dX5_goesOver_175 ?_
                              refine pl_get (D := D) (ci := 4) (v := .int (mt_pk τ (mt_ow τ zb))) (C := RX3) (T := TX3) (N := 9) hx hb hts (by decide +kernel) hown hK.1 hP (hM.cl hob).1 (hM.cl hob).2.1 rfl 1 (by decide) (hts (.fieldLink RX5 117 "ChooseTreeModel$Cls" "pack" "I") (by decide +kernel)) (fun _ h9 => h9) rfl dX5_goesOver_178 ?_
                              refine lv_icmp_ne (tgt := 186) hx hb dX5_goesOver_181 (by decide) (fun c_17 => ?_) (fun c_17 => ?_)
                              · refine lv_aload_n hx hb dX5_goesOver_186 rfl (lv_at hl 2 rfl) ?_
                                refine pl_get (D := D) (ci := 4) (v := va_rf ((mt_pr τ zp).map (mt_ca τ))) (C := RX3) (T := TX3) (N := 9) hx hb hts (by decide +kernel) hown hK.1 hP (hM.cl hzp).1 (hM.cl hzp).2.1 rfl 2 (by decide) (hts (.fieldLink RX5 77 "ChooseTreeModel$Cls" "parent" "LChooseTreeModel$Cls;") (by decide +kernel)) (fun _ h9 => h9) rfl dX5_goesOver_187 ?_
                                refine lv_astore_nR (lv' := [(3, va_rf ((mt_pr τ zp).map (mt_ca τ))), (2, .int (zq ||| ((nI 1) <<< ((mt_pk τ zp) &&& 31)))), (4, .ref (mt_ja τ zj)), (0, .ref (mt_ja τ za)), (1, .ref (mt_ja τ zb))]) hx hb dX5_goesOver_190 rfl hl (by decide) rfl (fun ls hl => ?_)
                                refine lv_goto (tgt := 91) hx hb dX5_goesOver_191 (by decide) ?_
                                exact ih (mt_pr τ zp) (zq ||| ((nI 1) <<< ((mt_pk τ zp) &&& 31))) H locs ls hP hS (fun p hp => by have := (hM.cl hzp).2.2.1 p hp; omega) (by rw [← hres]; simp [t_go, c_10, htj, c_13, c_14, c_16, c_17]) (lv_sub hl [0, 1, 3, 4] rfl)
                              · refine lv_iconst (v := (nI 1)) hx hb dX5_goesOver_184 (by decide) ?_
                                exact W.zret (v := (nI 1)) hx hb hr rfl (fun t ht hW => ⟨⟨(nI 1), (), rfl, (by rw [← hres]; simp [t_go, bI, c_10, htj, c_13, c_14, c_16, c_17]), trivial⟩, hS.F ht⟩) hS.2.2 dX5_goesOver_185
                            · refine lv_iload_n hx hb dX5_goesOver_147 rfl (lv_at hl 2 rfl) ?_
                              refine lv_aload_n hx hb dX5_goesOver_148 rfl (lv_at hl 1 rfl) ?_
                              refine pl_get (D := D) (ci := 4) (v := .int (mt_pk τ zp)) (C := RX3) (T := TX3) (N := 9) hx hb hts (by decide +kernel) hown hK.1 hP (hM.cl hzp).1 (hM.cl hzp).2.1 rfl 1 (by decide) (hts (.fieldLink RX5 117 "ChooseTreeModel$Cls" "pack" "I") (by decide +kernel)) (fun _ h9 => h9) rfl dX5_goesOver_149 ?_
                              refine lv_ishr hx hb dX5_goesOver_152 ?_
                              refine lv_iconst (v := (nI 1)) hx hb dX5_goesOver_153 (by decide) ?_
                              refine lv_iand hx hb dX5_goesOver_154 ?_
                              refine lv_if_ne (tgt := 161) hx hb dX5_goesOver_155 (by decide) (fun c_18 => ?_) (fun c_18 => ?_)
                              · refine lv_iload_n hx hb dX5_goesOver_161 rfl (lv_at hl 2 rfl) ?_
                                refine lv_iconst (v := (nI 1)) hx hb dX5_goesOver_162 (by decide) ?_
                                refine lv_aload_n hx hb dX5_goesOver_163 rfl (lv_at hl 1 rfl) ?_
                                refine pl_get (D := D) (ci := 4) (v := .int (mt_pk τ zp)) (C := RX3) (T := TX3) (N := 9) hx hb hts (by decide +kernel) hown hK.1 hP (hM.cl hzp).1 (hM.cl hzp).2.1 rfl 1 (by decide) (hts (.fieldLink RX5 117 "ChooseTreeModel$Cls" "pack" "I") (by decide +kernel)) (fun _ h9 => h9) rfl dX5_goesOver_164 ?_
                                refine lv_ishl hx hb dX5_goesOver_167 ?_
                                refine lv_ior hx hb dX5_goesOver_168 ?_
                                refine lv_istore_n (lv' := [(2, .int (zq ||| ((nI 1) <<< ((mt_pk τ zp) &&& 31)))), (4, .ref (mt_ja τ zj)), (3, .ref (mt_ca τ zp)), (0, .ref (mt_ja τ za)), (1, .ref (mt_ja τ zb))]) hx hb dX5_goesOver_169 rfl hl (by decide) rfl (fun ls hl => ?_)
                                refine lv_aload_n hx hb dX5_goesOver_170 rfl (lv_at hl 2 rfl) ?_
                                refine pl_get (D := D) (ci := 4) (v := .int (mt_pk τ zp)) (C := RX3) (T := TX3) (N := 9) hx hb hts (by decide +kernel) hown hK.1 hP (hM.cl hzp).1 (hM.cl hzp).2.1 rfl 1 (by decide) (hts (.fieldLink RX5 117 "ChooseTreeModel$Cls" "pack" "I") (by decide +kernel)) (fun _ h9 => h9) rfl dX5_goesOver_171 ?_
                                refine lv_aload_n hx hb dX5_goesOver_174 rfl (lv_at hl 4 rfl) ?_
                                refine pl_get (D := D) (ci := 5) (v := .ref (mt_ca τ (mt_ow τ zb))) (C := RX4) (T := TX4) (N := 7) hx hb hts (by decide +kernel) hown hK.1 hP (hM.me hzb).1 (hM.me hzb).2.1 rfl 3 (by decide) (hts (.fieldLink RX5 107 "ChooseTreeModel$Met" "owner" "LChooseTreeModel$Cls;") (by decide +kernel)) (fun _ h9 => h9) rfl dX5_goesOver_175 ?_
                                refine pl_get (D := D) (ci := 4) (v := .int (mt_pk τ (mt_ow τ zb))) (C := RX3) (T := TX3) (N := 9) hx hb hts (by decide +kernel) hown hK.1 hP (hM.cl hob).1 (hM.cl hob).2.1 rfl 1 (by decide) (hts (.fieldLink RX5 117 "ChooseTreeModel$Cls" "pack" "I") (by decide +kernel)) (fun _ h9 => h9) rfl dX5_goesOver_178 ?_
                                refine lv_icmp_ne (tgt := 186) hx hb dX5_goesOver_181 (by decide) (fun c_19 => ?_) (fun c_19 => ?_)
                                · refine lv_aload_n hx hb dX5_goesOver_186 rfl (lv_at hl 2 rfl) ?_
                                  refine pl_get (D := D) (ci := 4) (v := va_rf ((mt_pr τ zp).map (mt_ca τ))) (C := RX3) (T := TX3) (N := 9) hx hb hts (by decide +kernel) hown hK.1 hP (hM.cl hzp).1 (hM.cl hzp).2.1 rfl 2 (by decide) (hts (.fieldLink RX5 77 "ChooseTreeModel$Cls" "parent" "LChooseTreeModel$Cls;") (by decide +kernel)) (fun _ h9 => h9) rfl dX5_goesOver_187 ?_
                                  refine lv_astore_nR (lv' := [(3, va_rf ((mt_pr τ zp).map (mt_ca τ))), (2, .int (zq ||| ((nI 1) <<< ((mt_pk τ zp) &&& 31)))), (4, .ref (mt_ja τ zj)), (0, .ref (mt_ja τ za)), (1, .ref (mt_ja τ zb))]) hx hb dX5_goesOver_190 rfl hl (by decide) rfl (fun ls hl => ?_)
                                  refine lv_goto (tgt := 91) hx hb dX5_goesOver_191 (by decide) ?_
                                  exact ih (mt_pr τ zp) (zq ||| ((nI 1) <<< ((mt_pk τ zp) &&& 31))) H locs ls hP hS (fun p hp => by have := (hM.cl hzp).2.2.1 p hp; omega) (by rw [← hres]; simp [t_go, c_10, htj, c_13, c_14, c_16, c_18, c_19]) (lv_sub hl [0, 1, 3, 4] rfl)
                                · have hq9 : ¬ (zq >>> (mt_pk τ (mt_ow τ zb) &&& 31) &&& nI 1) = 0 := by rw [← c_19]; exact c_18
                                  refine lv_iconst (v := (nI 1)) hx hb dX5_goesOver_184 (by decide) ?_
                                  exact W.zret (v := (nI 1)) hx hb hr rfl (fun t ht hW => ⟨⟨(nI 1), (), rfl, (by rw [← hres]; simp [t_go, bI, c_10, htj, c_13, c_14, c_16, c_18, c_19, hq9]), trivial⟩, hS.F ht⟩) hS.2.2 dX5_goesOver_185
                              · refine lv_goto (tgt := 186) hx hb dX5_goesOver_158 (by decide) ?_
                                refine lv_aload_n hx hb dX5_goesOver_186 rfl (lv_at hl 1 rfl) ?_
                                refine pl_get (D := D) (ci := 4) (v := va_rf ((mt_pr τ zp).map (mt_ca τ))) (C := RX3) (T := TX3) (N := 9) hx hb hts (by decide +kernel) hown hK.1 hP (hM.cl hzp).1 (hM.cl hzp).2.1 rfl 2 (by decide) (hts (.fieldLink RX5 77 "ChooseTreeModel$Cls" "parent" "LChooseTreeModel$Cls;") (by decide +kernel)) (fun _ h9 => h9) rfl dX5_goesOver_187 ?_
                                refine lv_astore_nR (lv' := [(3, va_rf ((mt_pr τ zp).map (mt_ca τ))), (4, .ref (mt_ja τ zj)), (2, .int zq), (0, .ref (mt_ja τ za)), (1, .ref (mt_ja τ zb))]) hx hb dX5_goesOver_190 rfl hl (by decide) rfl (fun ls hl => ?_)
                                refine lv_goto (tgt := 91) hx hb dX5_goesOver_191 (by decide) ?_
                                exact ih (mt_pr τ zp) zq H locs ls hP hS (fun p hp => by have := (hM.cl hzp).2.2.1 p hp; omega) (by rw [← hres]; simp [t_go, c_10, htj, c_13, c_14, c_16, c_18]) (lv_sub hl [0, 2, 3, 4] rfl)
                        · replace c_13 := bI_0.mp c_13
                          refine lv_goto (tgt := 186) hx hb dX5_goesOver_126 (by decide) ?_
                          refine lv_aload_n hx hb dX5_goesOver_186 rfl (lv_at hl 1 rfl) ?_
                          refine pl_get (D := D) (ci := 4) (v := va_rf ((mt_pr τ zp).map (mt_ca τ))) (C := RX3) (T := TX3) (N := 9) hx hb hts (by decide +kernel) hown hK.1 hP (hM.cl hzp).1 (hM.cl hzp).2.1 rfl 2 (by decide) (hts (.fieldLink RX5 77 "ChooseTreeModel$Cls" "parent" "LChooseTreeModel$Cls;") (by decide +kernel)) (fun _ h9 => h9) rfl dX5_goesOver_187 ?_
                          refine lv_astore_nR (lv' := [(3, va_rf ((mt_pr τ zp).map (mt_ca τ))), (4, .ref (mt_ja τ zj)), (2, .int zq), (0, .ref (mt_ja τ za)), (1, .ref (mt_ja τ zb))]) hx hb dX5_goesOver_190 rfl hl (by decide) rfl (fun ls hl => ?_)
                          refine lv_goto (tgt := 91) hx hb dX5_goesOver_191 (by decide) ?_
                          exact ih (mt_pr τ zp) zq H locs ls hP hS (fun p hp => by have := (hM.cl hzp).2.2.1 p hp; omega) (by rw [← hres]; simp [t_go, c_10, htj, c_13]) (lv_sub hl [0, 2, 3, 4] rfl)
              · refine lv_iconst (v := (nI 1)) hx hb dX5_goesOver_71 (by decide) ?_
                exact W.zret (v := (nI 1)) hx hb hr rfl (fun t ht hW => ⟨⟨(nI 1), (), rfl, (by simp [t_over, bI, c_1, c_2, c_4, c_6, c_7, c_8, c_9]), trivial⟩, hS.F ht⟩) hS.2.2 dX5_goesOver_72
        · replace c_6 := bI_0.mp c_6
          refine lv_iconst (v := (nI 0)) hx hb dX5_goesOver_36 (by decide) ?_
          exact W.zret (v := (nI 0)) hx hb hr rfl (fun t ht hW => ⟨⟨(nI 0), (), rfl, (by simp [t_over, bI, c_1, c_2, c_4, c_6]), trivial⟩, hS.F ht⟩) hS.2.2 dX5_goesOver_37
set_option maxHeartbeats 4000000 in
set_option maxRecDepth 100000 in
theorem c_X5_overrides (l : Launch) (D : va_G) (cO : ClassId) (mi : Nat) (L : List Nat) (f : Nat → va_E) (e0 : Nat) (τ : MT) (hM : MI e0 cO L f τ) (zx1 zx2 : Int32) : Met l yX5_overrides wsX5_overrides (rmC 5 110) (mP D cO mi L f [.ref (mt_x τ), .int zx1, .int zx2]) (roQ (bI (t_overrides τ zx1 zx2))) 0 0 (fun _ => False) := by
  refine Met.ofW (cc := cX5_overrides) (maxL := 3) (ret := (some .boolean)) (by decide) rfl ?_
  intro p e s m args below meth cq s₁ B hml hv
  obtain ⟨rfl, hP, hK⟩ := hv
  have hx := B.exec
  have hb := B.bytes
  have hr := B.returns
  have hts := atoms_spec (ws := wsX5_overrides) B.pre
  have hown : s.vm.findClass RX5 = some m.cls := findClass_of_methodNamed B.named
  have hlocks := B.notSynchronized
  clear B
  have hl := lv_entry ([.ref (mt_x τ), .int zx1, .int zx2]) (n := 3) (Nat.le_of_ble_eq_true rfl)
  rw [lg_entry_eq]
  generalize (lg_sl ([.ref (mt_x τ), .int zx1, .int zx2]) ++ List.replicate (3 - (lg_sl ([.ref (mt_x τ), .int zx1, .int zx2])).length) Slot.unset).toArray = ls at hl ⊢
  replace hl : lv_has ls 3 [(0, .ref (mt_x τ)), (1, .int zx1), (2, .int zx2)] := hl
  refine gen_start (A := fun _ => False) (fun H locs hP hS => ?_) hP
  refine lv_aload_n hx hb dX5_overrides_0 rfl (lv_at hl 0 rfl) ?_
  refine lv_iload_n hx hb dX5_overrides_1 rfl (lv_at hl 1 rfl) ?_
  refine va_callq (va_runV (As := [.int zx1]) (rest := []) ⟨hx, hb, hml, hown, hts⟩ (c_X5_met l D cO mi L f e0 τ hM zx1) (cwV 1 hts gX5_overrides_X5_met rfl rfl rfl (by decide +kernel) ⟨Nat.le_of_ble_eq_true rfl, Nat.le_of_ble_eq_true rfl⟩) (mP_V hK hP 6 rfl hM.x.1 hM.x.2) rfl rfl hl.1 rfl (lv_room (Nat.le_of_ble_eq_true rfl)) dX5_overrides_2 ⟨Nat.le_of_ble_eq_true rfl, Nat.le_of_ble_eq_true rfl⟩) hS (fun _ _ h => h.elim) (fun _ h => h.elim) (fun r_1 u t H1 locs ht hvm hw hB hz1 hk1 hS => ?_)
  replace hP := ro_kept hP hk1
  obtain rfl : r_1 = _ := hw
  clear hk1 hz1 hvm ht hB
  generalize H1 = H at hP hS ⊢
  rcases htzj1 : t_meti τ zx1 with _ | zj1
  · rw [show t_met τ zx1 = none by simp [t_met, htzj1]]
    refine lv_ifnullN (tgt := 36) hx hb dX5_overrides_5 (by decide) ?_
    refine lv_iconst (v := (nI 0)) hx hb dX5_overrides_36 (by decide) ?_
    exact W.zret (v := (nI 0)) hx hb hr rfl (fun t ht hW => ⟨⟨(nI 0), (), rfl, (by simp [t_overrides, bI, htzj1]), trivial⟩, hS.F ht⟩) hS.2.2 dX5_overrides_37
  · rw [show t_met τ zx1 = some (mt_ja τ zj1) by simp [t_met, htzj1]]
    refine lv_ifnull hx hb dX5_overrides_5 ?_
    refine lv_aload_n hx hb dX5_overrides_8 rfl (lv_at hl 0 rfl) ?_
    refine lv_iload_n hx hb dX5_overrides_9 rfl (lv_at hl 2 rfl) ?_
    refine va_callq (va_runV (As := [.int zx2]) (rest := []) ⟨hx, hb, hml, hown, hts⟩ (c_X5_met l D cO mi L f e0 τ hM zx2) (cwV 1 hts gX5_overrides_X5_met rfl rfl rfl (by decide +kernel) ⟨Nat.le_of_ble_eq_true rfl, Nat.le_of_ble_eq_true rfl⟩) (mP_V hK hP 6 rfl hM.x.1 hM.x.2) rfl rfl hl.1 rfl (lv_room (Nat.le_of_ble_eq_true rfl)) dX5_overrides_10 ⟨Nat.le_of_ble_eq_true rfl, Nat.le_of_ble_eq_true rfl⟩) hS (fun _ _ h => h.elim) (fun _ h => h.elim) (fun r_2 u t H1 locs ht hvm hw hB hz1 hk1 hS => ?_)
    replace hP := ro_kept hP hk1
    obtain rfl : r_2 = _ := hw
    clear hk1 hz1 hvm ht hB
    generalize H1 = H at hP hS ⊢
    rcases htzj2 : t_meti τ zx2 with _ | zj2
    · rw [show t_met τ zx2 = none by simp [t_met, htzj2]]
      refine lv_ifnullN (tgt := 36) hx hb dX5_overrides_13 (by decide) ?_
      refine lv_iconst (v := (nI 0)) hx hb dX5_overrides_36 (by decide) ?_
      exact W.zret (v := (nI 0)) hx hb hr rfl (fun t ht hW => ⟨⟨(nI 0), (), rfl, (by simp [t_overrides, bI, htzj1, htzj2]), trivial⟩, hS.F ht⟩) hS.2.2 dX5_overrides_37
    · rw [show t_met τ zx2 = some (mt_ja τ zj2) by simp [t_met, htzj2]]
      refine lv_ifnull hx hb dX5_overrides_13 ?_
      refine lv_aload_n hx hb dX5_overrides_16 rfl (lv_at hl 0 rfl) ?_
      refine lv_iload_n hx hb dX5_overrides_17 rfl (lv_at hl 1 rfl) ?_
      refine va_callq (va_runV (As := [.int zx1]) (rest := []) ⟨hx, hb, hml, hown, hts⟩ (c_X5_met l D cO mi L f e0 τ hM zx1) (cwV 1 hts gX5_overrides_X5_met rfl rfl rfl (by decide +kernel) ⟨Nat.le_of_ble_eq_true rfl, Nat.le_of_ble_eq_true rfl⟩) (mP_V hK hP 6 rfl hM.x.1 hM.x.2) rfl rfl hl.1 rfl (lv_room (Nat.le_of_ble_eq_true rfl)) dX5_overrides_18 ⟨Nat.le_of_ble_eq_true rfl, Nat.le_of_ble_eq_true rfl⟩) hS (fun _ _ h => h.elim) (fun _ h => h.elim) (fun r_3 u t H1 locs ht hvm hw hB hz1 hk1 hS => ?_)
      replace hP := ro_kept hP hk1
      obtain rfl : r_3 = _ := hw
      clear hk1 hz1 hvm ht hB
      generalize H1 = H at hP hS ⊢
      rw [show t_met τ zx1 = some (mt_ja τ zj1) by simp [t_met, htzj1]]
      refine lv_aload_n hx hb dX5_overrides_21 rfl (lv_at hl 0 rfl) ?_
      refine lv_iload_n hx hb dX5_overrides_22 rfl (lv_at hl 2 rfl) ?_
      refine va_callq (va_runV (As := [.int zx2]) (rest := [.ref (mt_ja τ zj1)]) ⟨hx, hb, hml, hown, hts⟩ (c_X5_met l D cO mi L f e0 τ hM zx2) (cwV 1 hts gX5_overrides_X5_met rfl rfl rfl (by decide +kernel) ⟨Nat.le_of_ble_eq_true rfl, Nat.le_of_ble_eq_true rfl⟩) (mP_V hK hP 6 rfl hM.x.1 hM.x.2) rfl rfl hl.1 rfl (lv_room (Nat.le_of_ble_eq_true rfl)) dX5_overrides_23 ⟨Nat.le_of_ble_eq_true rfl, Nat.le_of_ble_eq_true rfl⟩) hS (fun _ _ h => h.elim) (fun _ h => h.elim) (fun r_4 u t H1 locs ht hvm hw hB hz1 hk1 hS => ?_)
      replace hP := ro_kept hP hk1
      obtain rfl : r_4 = _ := hw
      clear hk1 hz1 hvm ht hB
      generalize H1 = H at hP hS ⊢
      rw [show t_met τ zx2 = some (mt_ja τ zj2) by simp [t_met, htzj2]]
      refine va_calli (va_runS (As := [.ref (mt_ja τ zj1), .ref (mt_ja τ zj2)]) (rest := []) ⟨hx, hb, hml, hown, hts⟩ (c_X5_goesOver l D cO mi L f e0 τ hM zj1 zj2 (t_meti_lt hM htzj1) (t_meti_lt hM htzj2)) (va_cwS 2 hts gX5_overrides_X5_goesOver rfl rfl rfl (by decide +kernel) ⟨Nat.le_of_ble_eq_true rfl, Nat.le_of_ble_eq_true rfl⟩) (mP_S hK hP) rfl rfl hl.1 rfl (lv_room (Nat.le_of_ble_eq_true rfl)) dX5_overrides_26 ⟨Nat.le_of_ble_eq_true rfl, Nat.le_of_ble_eq_true rfl⟩) hS (fun _ _ h => h.elim) (fun _ h => h.elim) (fun r_5 u t H1 locs ht hvm hw hB hz1 hk1 hS => ?_)
      replace hP := ro_kept hP hk1
      obtain rfl : r_5 = _ := hw
      clear hk1 hz1 hvm ht hB
      generalize H1 = H at hP hS ⊢
      refine lv_if_eq (tgt := 36) hx hb dX5_overrides_29 (by decide) (fun c_6 => ?_) (fun c_6 => ?_)
      · replace c_6 := bI_0.mp c_6
        refine lv_iconst (v := (nI 0)) hx hb dX5_overrides_36 (by decide) ?_
        exact W.zret (v := (nI 0)) hx hb hr rfl (fun t ht hW => ⟨⟨(nI 0), (), rfl, (by simp [t_overrides, bI, htzj1, htzj2, c_6]), trivial⟩, hS.F ht⟩) hS.2.2 dX5_overrides_37
      · replace c_6 := bI_n0.mp c_6
        refine lv_iconst (v := (nI 1)) hx hb dX5_overrides_32 (by decide) ?_
        refine lv_goto (tgt := 37) hx hb dX5_overrides_33 (by decide) ?_
        exact W.zret (v := (nI 1)) hx hb hr rfl (fun t ht hW => ⟨⟨(nI 1), (), rfl, (by simp [t_overrides, bI, htzj1, htzj2, c_6]), trivial⟩, hS.F ht⟩) hS.2.2 dX5_overrides_37
set_option maxHeartbeats 4000000 in
set_option maxRecDepth 100000 in
theorem c_X5_broken (l : Launch) (D : va_G) (cO : ClassId) (mi : Nat) (L : List Nat) (f : Nat → va_E) (e0 : Nat) (τ : MT) (hM : MI e0 cO L f τ) (zx1 : Int32) : Met l yX5_broken wsX5_broken (rmC 5 110) (mP D cO mi L f [.ref (mt_x τ), .int zx1]) (roQ (t_broken τ zx1)) 0 0 (fun _ => False) := by
  refine Met.ofW (cc := cX5_broken) (maxL := 7) (ret := (some .int)) (by decide) rfl ?_
  intro p e s m args below meth cq s₁ B hml hv
  obtain ⟨rfl, hP, hK⟩ := hv
  have hx := B.exec
  have hb := B.bytes
  have hr := B.returns
  have hts := atoms_spec (ws := wsX5_broken) B.pre
  have hown : s.vm.findClass RX5 = some m.cls := findClass_of_methodNamed B.named
  have hlocks := B.notSynchronized
  clear B
  have hl := lv_entry ([.ref (mt_x τ), .int zx1]) (n := 7) (Nat.le_of_ble_eq_true rfl)
  rw [lg_entry_eq]
  generalize (lg_sl ([.ref (mt_x τ), .int zx1]) ++ List.replicate (7 - (lg_sl ([.ref (mt_x τ), .int zx1])).length) Slot.unset).toArray = ls at hl ⊢
  replace hl : lv_has ls 7 [(0, .ref (mt_x τ)), (1, .int zx1)] := hl
  refine gen_start (A := fun _ => False) (fun H locs hP hS => ?_) hP
  have hMb := hM.b
  refine lv_aload_n hx hb dX5_broken_0 rfl (lv_at hl 0 rfl) ?_
  refine lv_iload_n hx hb dX5_broken_1 rfl (lv_at hl 1 rfl) ?_
  refine va_callq (va_runV (As := [.int zx1]) (rest := []) ⟨hx, hb, hml, hown, hts⟩ (c_X5_at l D cO mi L f e0 τ hM zx1) (cwV 1 hts gX5_broken_X5_at rfl rfl rfl (by decide +kernel) ⟨Nat.le_of_ble_eq_true rfl, Nat.le_of_ble_eq_true rfl⟩) (mP_V hK hP 6 rfl hM.x.1 hM.x.2) rfl rfl hl.1 rfl (lv_room (Nat.le_of_ble_eq_true rfl)) dX5_broken_2 ⟨Nat.le_of_ble_eq_true rfl, Nat.le_of_ble_eq_true rfl⟩) hS (fun _ _ h => h.elim) (fun _ h => h.elim) (fun r_1 u t H1 locs ht hvm hw hB hz1 hk1 hS => ?_)
  replace hP := ro_kept hP hk1
  obtain rfl : r_1 = _ := hw
  clear hk1 hz1 hvm ht hB
  generalize H1 = H at hP hS ⊢
  rcases htzi : t_ati τ zx1 with _ | zi
  · rw [show t_at τ zx1 = none by simp [t_at, htzi]]
    refine lv_ifnonnullN hx hb dX5_broken_5 ?_
    refine lv_iconst (v := (-1)) hx hb dX5_broken_8 (by decide) ?_
    exact W.iret (v := (-1)) hx hb hr (fun t ht hW => ⟨⟨(-1), (), rfl, (by simp [t_broken, htzi]), trivial⟩, hS.F ht⟩) hS.2.2 dX5_broken_9
  · rw [show t_at τ zx1 = some (mt_ca τ zi) by simp [t_at, htzi]]
    refine lv_ifnonnull (tgt := 10) hx hb dX5_broken_5 (by decide) ?_
    refine lv_aload_n hx hb dX5_broken_10 rfl (lv_at hl 0 rfl) ?_
    refine lv_iload_n hx hb dX5_broken_11 rfl (lv_at hl 1 rfl) ?_
    refine va_callq (va_runV (As := [.int zx1]) (rest := []) ⟨hx, hb, hml, hown, hts⟩ (c_X5_at l D cO mi L f e0 τ hM zx1) (cwV 1 hts gX5_broken_X5_at rfl rfl rfl (by decide +kernel) ⟨Nat.le_of_ble_eq_true rfl, Nat.le_of_ble_eq_true rfl⟩) (mP_V hK hP 6 rfl hM.x.1 hM.x.2) rfl rfl hl.1 rfl (lv_room (Nat.le_of_ble_eq_true rfl)) dX5_broken_12 ⟨Nat.le_of_ble_eq_true rfl, Nat.le_of_ble_eq_true rfl⟩) hS (fun _ _ h => h.elim) (fun _ h => h.elim) (fun r_2 u t H1 locs ht hvm hw hB hz1 hk1 hS => ?_)
    replace hP := ro_kept hP hk1
    obtain rfl : r_2 = _ := hw
    clear hk1 hz1 hvm ht hB
    generalize H1 = H at hP hS ⊢
    rw [show t_at τ zx1 = some (mt_ca τ zi) by simp [t_at, htzi]]
    refine lv_astore_n (lv' := [(2, .ref (mt_ca τ zi)), (0, .ref (mt_x τ)), (1, .int zx1)]) hx hb dX5_broken_15 rfl hl (by decide) rfl (fun ls hl => ?_)
    refine lv_iconst (v := (nI 0)) hx hb dX5_broken_16 (by decide) ?_
    refine lv_istore_n (lv' := [(3, .int (nI 0)), (2, .ref (mt_ca τ zi)), (0, .ref (mt_x τ)), (1, .int zx1)]) hx hb dX5_broken_17 rfl hl (by decide) rfl (fun ls hl => ?_)
    have hzi := t_ati_lt hM htzi
    have hMl := (hM.cl hzi).2.2.2.2.1
    obtain ⟨zn, hzn⟩ : ∃ z : Nat, z = (mt_cnt τ (mt_ma τ zi)) := ⟨_, rfl⟩
    obtain ⟨zk, hzk⟩ : ∃ z : Nat, z = 0 := ⟨_, rfl⟩
    have hE9 : zk + zn = (mt_cnt τ (mt_ma τ zi)) := by omega
    have hres : t_bo τ zi zn zk = t_broken τ zx1 := by rw [hzn, hzk]; simp [t_broken, htzi]
    replace hl : lv_has ls 7 [(3, .int (nI zk)), (2, .ref (mt_ca τ zi)), (0, .ref (mt_x τ)), (1, .int zx1)] := by rw [hzk]; exact hl
    clear hzn hzk
    revert hl
    revert hres
    revert hE9
    revert hS
    revert hP
    revert ls
    revert locs
    revert H
    revert zk
    induction zn with
    | zero =>
      intro zk H locs ls hP hS hE9 hres hl
      refine lv_iload_n hx hb dX5_broken_18 rfl (lv_at hl 0 rfl) ?_
      refine lv_aload_n hx hb dX5_broken_19 rfl (lv_at hl 1 rfl) ?_
      refine pl_get (D := D) (ci := 4) (v := .ref (mt_ma τ zi)) (C := RX3) (T := TX3) (N := 9) hx hb hts (by decide +kernel) hown hK.1 hP (hM.cl (t_ati_lt hM htzi)).1 (hM.cl (t_ati_lt hM htzi)).2.1 rfl 5 (by decide) (hts (.fieldLink RX5 46 "ChooseTreeModel$Cls" "methods" "Ljava/util/ArrayList;") (by decide +kernel)) (fun _ h9 => h9) rfl dX5_broken_20 ?_
      obtain ⟨mcz3, gz3, hfz3, hgz3, hcz3⟩ := hM.ly.raw (b := (mt_ma τ zi)) (hM.ma hzi).1 (hM.ma hzi).2
      refine va_calli (va_runV (As := []) (rest := [.int (nI zk)]) ⟨hx, hb, hml, hown, hts⟩ (c_Jx4a65c_size_8abf5 l D cO mi L f (mt_ma τ zi) (hM.ma hzi).1 mcz3 (ls_dat (mt_ls τ) (mt_ma τ zi)) (mt_cnt τ (mt_ma τ zi)) hfz3) (cwV 0 hts gX5_broken_Jx4a65c_size_8abf5 rfl rfl rfl (by decide +kernel) ⟨Nat.le_of_ble_eq_true rfl, Nat.le_of_ble_eq_true rfl⟩) (mP_V hK hP 0 rfl (hM.ma hzi).1 hfz3) rfl rfl hl.1 rfl (lv_room (Nat.le_of_ble_eq_true rfl)) dX5_broken_23 ⟨Nat.le_of_ble_eq_true rfl, Nat.le_of_ble_eq_true rfl⟩) hS (fun _ _ h => h.elim) (fun _ h => h.elim) (fun r_4 u t H1 locs ht hvm hw hB hz1 hk1 hS => ?_)
      replace hP := ro_kept hP hk1
      obtain rfl : r_4 = _ := hw
      clear hk1 hz1 hvm ht hB
      generalize H1 = H at hP hS ⊢
      clear hcz3 hgz3
      refine lv_icmp_ge (tgt := 110) hx hb dX5_broken_26 (by decide) (fun c_5 => ?_) (fun c_5 => ?_)
      · refine lv_iconst (v := (-1)) hx hb dX5_broken_110 (by decide) ?_
        exact W.iret (v := (-1)) hx hb hr (fun t ht hW => ⟨⟨(-1), (), rfl, (by rw [← hres]; rfl), trivial⟩, hS.F ht⟩) hS.2.2 dX5_broken_111
      · exact absurd (nI_le (by omega) (by omega)) c_5
    | succ zn ih =>
      intro zk H locs ls hP hS hE9 hres hl
      refine lv_iload_n hx hb dX5_broken_18 rfl (lv_at hl 0 rfl) ?_
      refine lv_aload_n hx hb dX5_broken_19 rfl (lv_at hl 1 rfl) ?_
      refine pl_get (D := D) (ci := 4) (v := .ref (mt_ma τ zi)) (C := RX3) (T := TX3) (N := 9) hx hb hts (by decide +kernel) hown hK.1 hP (hM.cl (t_ati_lt hM htzi)).1 (hM.cl (t_ati_lt hM htzi)).2.1 rfl 5 (by decide) (hts (.fieldLink RX5 46 "ChooseTreeModel$Cls" "methods" "Ljava/util/ArrayList;") (by decide +kernel)) (fun _ h9 => h9) rfl dX5_broken_20 ?_
      obtain ⟨mcz6, gz6, hfz6, hgz6, hcz6⟩ := hM.ly.raw (b := (mt_ma τ zi)) (hM.ma hzi).1 (hM.ma hzi).2
      refine va_calli (va_runV (As := []) (rest := [.int (nI zk)]) ⟨hx, hb, hml, hown, hts⟩ (c_Jx4a65c_size_8abf5 l D cO mi L f (mt_ma τ zi) (hM.ma hzi).1 mcz6 (ls_dat (mt_ls τ) (mt_ma τ zi)) (mt_cnt τ (mt_ma τ zi)) hfz6) (cwV 0 hts gX5_broken_Jx4a65c_size_8abf5 rfl rfl rfl (by decide +kernel) ⟨Nat.le_of_ble_eq_true rfl, Nat.le_of_ble_eq_true rfl⟩) (mP_V hK hP 0 rfl (hM.ma hzi).1 hfz6) rfl rfl hl.1 rfl (lv_room (Nat.le_of_ble_eq_true rfl)) dX5_broken_23 ⟨Nat.le_of_ble_eq_true rfl, Nat.le_of_ble_eq_true rfl⟩) hS (fun _ _ h => h.elim) (fun _ h => h.elim) (fun r_7 u t H1 locs ht hvm hw hB hz1 hk1 hS => ?_)
      replace hP := ro_kept hP hk1
      obtain rfl : r_7 = _ := hw
      clear hk1 hz1 hvm ht hB
      generalize H1 = H at hP hS ⊢
      clear hcz6 hgz6
      refine lv_icmp_ge (tgt := 110) hx hb dX5_broken_26 (by decide) (fun c_8 => ?_) (fun c_8 => ?_)
      · exact absurd c_8 (nI_ge (by omega) (by omega))
      · refine lv_aload_n hx hb dX5_broken_29 rfl (lv_at hl 1 rfl) ?_
        refine pl_get (D := D) (ci := 4) (v := .ref (mt_ma τ zi)) (C := RX3) (T := TX3) (N := 9) hx hb hts (by decide +kernel) hown hK.1 hP (hM.cl (t_ati_lt hM htzi)).1 (hM.cl (t_ati_lt hM htzi)).2.1 rfl 5 (by decide) (hts (.fieldLink RX5 46 "ChooseTreeModel$Cls" "methods" "Ljava/util/ArrayList;") (by decide +kernel)) (fun _ h9 => h9) rfl dX5_broken_30 ?_
        refine lv_iload_n hx hb dX5_broken_33 rfl (lv_at hl 0 rfl) ?_
        obtain ⟨mcz9, gz9, hfz9, hdz9, hfdz9, hcnz9, hcpz9, hgiz9⟩ := hM.ly.get (b := (mt_ma τ zi)) (i := zk) (hM.ma hzi).1 (hM.ma hzi).2 (show zk < (mt_cnt τ (mt_ma τ zi)) by omega)
        replace hgiz9 : gz9 zk = some (mt_ja τ (mt_ml τ zi zk)) := hgiz9.trans (congrArg some (hMl.2 zk (show zk < (mt_cnt τ (mt_ma τ zi)) by omega)).2)
        refine va_callq (va_runV (As := [.int (nI zk)]) (rest := []) ⟨hx, hb, hml, hown, hts⟩ (c_Jx4a65c_get_915e3 l D cO mi L f (mt_ma τ zi) (hM.ma hzi).1 mcz9 (ls_dat (mt_ls τ) (mt_ma τ zi)) (mt_cnt τ (mt_ma τ zi)) hfz9 hdz9 (ls_cap (mt_ls τ) (mt_ma τ zi)) gz9 hfdz9 hcnz9 hcpz9 zk (show zk < (mt_cnt τ (mt_ma τ zi)) by omega)) (cwV 1 hts gX5_broken_Jx4a65c_get_915e3 rfl rfl rfl (by decide +kernel) ⟨Nat.le_of_ble_eq_true rfl, Nat.le_of_ble_eq_true rfl⟩) (mP_V hK hP 0 rfl (hM.ma hzi).1 hfz9) rfl rfl hl.1 rfl (lv_room (Nat.le_of_ble_eq_true rfl)) dX5_broken_34 ⟨Nat.le_of_ble_eq_true rfl, Nat.le_of_ble_eq_true rfl⟩) hS (fun _ _ h => h.elim) (fun _ h => h.elim) (fun r_10 u t H1 locs ht hvm hw hB hz1 hk1 hS => ?_)
        replace hP := ro_kept hP hk1
        obtain rfl : r_10 = _ := hw
        clear hk1 hz1 hvm ht hB
        generalize H1 = H at hP hS ⊢
        rw [hgiz9]
        clear hgiz9 hfdz9 hdz9 hcnz9 hcpz9
        refine va_castY (C := RX4) hx hb hown (hts (.classLink RX5 36 RX4) (by decide +kernel)) hK.2.2.2.2.2.2.2 (pl_recv (ci := 5) hK.1 hP rfl (hM.me (hMl.2 zk (show zk < (mt_cnt τ (mt_ma τ zi)) by omega)).1).1 (hM.me (hMl.2 zk (show zk < (mt_cnt τ (mt_ma τ zi)) by omega)).1).2.1) dX5_broken_37 ?_
        refine lv_astore (lv' := [(4, .ref (mt_ja τ (mt_ml τ zi zk))), (3, .int (nI zk)), (2, .ref (mt_ca τ zi)), (0, .ref (mt_x τ)), (1, .int zx1)]) hx hb dX5_broken_40 hl (by decide) rfl (fun ls hl => ?_)
        refine lv_aload_n hx hb dX5_broken_42 rfl (lv_at hl 2 rfl) ?_
        refine pl_get (D := D) (ci := 4) (v := va_rf ((mt_pr τ zi).map (mt_ca τ))) (C := RX3) (T := TX3) (N := 9) hx hb hts (by decide +kernel) hown hK.1 hP (hM.cl (t_ati_lt hM htzi)).1 (hM.cl (t_ati_lt hM htzi)).2.1 rfl 2 (by decide) (hts (.fieldLink RX5 77 "ChooseTreeModel$Cls" "parent" "LChooseTreeModel$Cls;") (by decide +kernel)) (fun _ h9 => h9) rfl dX5_broken_43 ?_
        refine lv_astoreR (lv' := [(5, va_rf ((mt_pr τ zi).map (mt_ca τ))), (4, .ref (mt_ja τ (mt_ml τ zi zk))), (3, .int (nI zk)), (2, .ref (mt_ca τ zi)), (0, .ref (mt_x τ)), (1, .int zx1)]) hx hb dX5_broken_46 hl (by decide) rfl (fun ls hl => ?_)
        obtain ⟨zp0, hzp0⟩ : ∃ z, z = mt_pr τ zi := ⟨_, rfl⟩
        obtain ⟨zn2, hzn2⟩ : ∃ z : Nat, z = 60 := ⟨_, rfl⟩
        have hE8 : ∀ p, zp0 = some p → p < zn2 ∧ p < mt_n τ := fun p hp => by have := (hM.cl hzi).2.2.1 p (hzp0 ▸ hp); omega
        have hrs2 : t_bp τ (mt_ml τ zi zk) (zn2 + 1) zp0 = t_bp τ (mt_ml τ zi zk) 61 (mt_pr τ zi) := by rw [hzp0, hzn2]
        replace hl : lv_has ls 7 [(5, va_rf (zp0.map (mt_ca τ))), (4, .ref (mt_ja τ (mt_ml τ zi zk))), (3, .int (nI zk)), (2, .ref (mt_ca τ zi)), (0, .ref (mt_x τ)), (1, .int zx1)] := by rw [hzp0]; exact lv_sub hl [0, 1, 2, 3, 4, 5] rfl
        clear hzp0 hzn2
        revert hl
        revert hrs2
        revert hE8
        revert hS
        revert hP
        revert ls
        revert locs
        revert H
        revert zp0
        induction zn2 with
        | zero =>
          intro zp0 H locs ls hP hS hE8 hrs2 hl
          rcases zp0 with _ | zp
          · have hb9 : t_bp τ (mt_ml τ zi zk) 61 (mt_pr τ zi) = false := by rw [← hrs2]; rfl
            refine lv_aloadN hx hb dX5_broken_48 (lv_at hl 0 rfl) ?_
            refine lv_ifnullN (tgt := 104) hx hb dX5_broken_50 (by decide) ?_
            refine lv_iinc (v := (nI (zk + 1))) (lv' := [(3, .int (nI (zk + 1))), (5, .null), (4, .ref (mt_ja τ (mt_ml τ zi zk))), (2, .ref (mt_ca τ zi)), (0, .ref (mt_x τ)), (1, .int zx1)]) hx hb dX5_broken_104 hl (k := 2) rfl (nI_1 _) (by decide) rfl (fun ls hl => ?_)
            refine lv_goto (tgt := 18) hx hb dX5_broken_107 (by decide) ?_
            exact ih (zk + 1) H locs ls hP hS (by omega) (by rw [← hres]; simp [t_bo, hb9]) (lv_sub hl [0, 3, 4, 5] rfl)
          · exact absurd (hE8 zp rfl).1 (by omega)
        | succ zn2 ih2 =>
          intro zp0 H locs ls hP hS hE8 hrs2 hl
          rcases zp0 with _ | zp
          · have hb9 : t_bp τ (mt_ml τ zi zk) 61 (mt_pr τ zi) = false := by rw [← hrs2]; rfl
            refine lv_aloadN hx hb dX5_broken_48 (lv_at hl 0 rfl) ?_
            refine lv_ifnullN (tgt := 104) hx hb dX5_broken_50 (by decide) ?_
            refine lv_iinc (v := (nI (zk + 1))) (lv' := [(3, .int (nI (zk + 1))), (5, .null), (4, .ref (mt_ja τ (mt_ml τ zi zk))), (2, .ref (mt_ca τ zi)), (0, .ref (mt_x τ)), (1, .int zx1)]) hx hb dX5_broken_104 hl (k := 2) rfl (nI_1 _) (by decide) rfl (fun ls hl => ?_)
            refine lv_goto (tgt := 18) hx hb dX5_broken_107 (by decide) ?_
            exact ih (zk + 1) H locs ls hP hS (by omega) (by rw [← hres]; simp [t_bo, hb9]) (lv_sub hl [0, 3, 4, 5] rfl)
          · obtain ⟨hpn, hzp⟩ := hE8 zp rfl
            replace hl : lv_has ls 7 [(5, .ref (mt_ca τ zp)), (4, .ref (mt_ja τ (mt_ml τ zi zk))), (3, .int (nI zk)), (2, .ref (mt_ca τ zi)), (0, .ref (mt_x τ)), (1, .int zx1)] := hl
            refine lv_aload hx hb dX5_broken_48 (lv_at hl 0 rfl) ?_
            refine lv_ifnull hx hb dX5_broken_50 ?_
            refine lv_aload hx hb dX5_broken_53 (lv_at hl 0 rfl) ?_
            refine lv_aload hx hb dX5_broken_55 (lv_at hl 1 rfl) ?_
            refine pl_get (D := D) (ci := 5) (v := .int (mt_nm τ (mt_ml τ zi zk))) (C := RX4) (T := TX4) (N := 7) hx hb hts (by decide +kernel) hown hK.1 hP (hM.me (hMl.2 zk (show zk < (mt_cnt τ (mt_ma τ zi)) by omega)).1).1 (hM.me (hMl.2 zk (show zk < (mt_cnt τ (mt_ma τ zi)) by omega)).1).2.1 rfl 1 (by decide) (hts (.fieldLink RX5 110 "ChooseTreeModel$Met" "name" "I") (by decide +kernel)) (fun _ h9 => h9) rfl dX5_broken_57 ?_
            refine va_callq (va_runV (As := [.int (mt_nm τ (mt_ml τ zi zk))]) (rest := []) ⟨hx, hb, hml, hown, hts⟩ (c_X3_named l D cO mi L f e0 τ hM zp hzp (mt_nm τ (mt_ml τ zi zk))) (cwV 1 hts gX5_broken_X3_named rfl rfl rfl (by decide +kernel) ⟨Nat.le_of_ble_eq_true rfl, Nat.le_of_ble_eq_true rfl⟩) (mP_V hK hP 4 rfl (hM.cl hzp).1 (hM.cl hzp).2.1) rfl rfl hl.1 rfl (lv_room (Nat.le_of_ble_eq_true rfl)) dX5_broken_60 ⟨Nat.le_of_ble_eq_true rfl, Nat.le_of_ble_eq_true rfl⟩) hS (fun _ _ h => h.elim) (fun _ h => h.elim) (fun r_11 u t H1 locs ht hvm hw hB hz1 hk1 hS => ?_)
            replace hP := ro_kept hP hk1
            obtain rfl : r_11 = _ := hw
            clear hk1 hz1 hvm ht hB
            generalize H1 = H at hP hS ⊢
            rcases htzj : t_idx τ zp (mt_nm τ (mt_ml τ zi zk)) with _ | zj
            · rw [show t_named τ zp (mt_nm τ (mt_ml τ zi zk)) = none by simp [t_named, htzj]]
              refine lv_astoreN (lv' := [(6, .null), (5, .ref (mt_ca τ zp)), (4, .ref (mt_ja τ (mt_ml τ zi zk))), (3, .int (nI zk)), (2, .ref (mt_ca τ zi)), (0, .ref (mt_x τ)), (1, .int zx1)]) hx hb dX5_broken_63 hl (by decide) rfl (fun ls hl => ?_)
              refine lv_aloadN hx hb dX5_broken_65 (lv_at hl 0 rfl) ?_
              refine lv_ifnullN (tgt := 94) hx hb dX5_broken_67 (by decide) ?_
              refine lv_aload hx hb dX5_broken_94 (lv_at hl 1 rfl) ?_
              refine pl_get (D := D) (ci := 4) (v := va_rf ((mt_pr τ zp).map (mt_ca τ))) (C := RX3) (T := TX3) (N := 9) hx hb hts (by decide +kernel) hown hK.1 hP (hM.cl hzp).1 (hM.cl hzp).2.1 rfl 2 (by decide) (hts (.fieldLink RX5 77 "ChooseTreeModel$Cls" "parent" "LChooseTreeModel$Cls;") (by decide +kernel)) (fun _ h9 => h9) rfl dX5_broken_96 ?_
              refine lv_astoreR (lv' := [(5, va_rf ((mt_pr τ zp).map (mt_ca τ))), (6, .null), (4, .ref (mt_ja τ (mt_ml τ zi zk))), (3, .int (nI zk)), (2, .ref (mt_ca τ zi)), (0, .ref (mt_x τ)), (1, .int zx1)]) hx hb dX5_broken_99 hl (by decide) rfl (fun ls hl => ?_)
              refine lv_goto (tgt := 48) hx hb dX5_broken_101 (by decide) ?_
              exact ih2 (mt_pr τ zp) H locs ls hP hS (fun p hp => by have := (hM.cl hzp).2.2.1 p hp; omega) (by rw [← hrs2]; simp [t_bp, htzj]) (lv_sub hl [0, 2, 3, 4, 5, 6] rfl)
            · rw [show t_named τ zp (mt_nm τ (mt_ml τ zi zk)) = some (mt_ja τ zj) by simp [t_named, htzj]]
              refine lv_astore (lv' := [(6, .ref (mt_ja τ zj)), (5, .ref (mt_ca τ zp)), (4, .ref (mt_ja τ (mt_ml τ zi zk))), (3, .int (nI zk)), (2, .ref (mt_ca τ zi)), (0, .ref (mt_x τ)), (1, .int zx1)]) hx hb dX5_broken_63 hl (by decide) rfl (fun ls hl => ?_)
              refine lv_aload hx hb dX5_broken_65 (lv_at hl 0 rfl) ?_
              refine lv_ifnull hx hb dX5_broken_67 ?_
              refine lv_aload hx hb dX5_broken_70 (lv_at hl 0 rfl) ?_
              refine pl_get (D := D) (ci := 5) (v := .int (mt_fi τ zj)) (C := RX4) (T := TX4) (N := 7) hx hb hts (by decide +kernel) hown hK.1 hP (hM.me (t_idx_lt hM hzp htzj)).1 (hM.me (t_idx_lt hM hzp htzj)).2.1 rfl 5 (by decide) (hts (.fieldLink RX5 127 "ChooseTreeModel$Met" "isFinal" "Z") (by decide +kernel)) (fun _ h9 => h9) rfl dX5_broken_72 ?_
              refine lv_if_eq (tgt := 94) hx hb dX5_broken_75 (by decide) (fun c_12 => ?_) (fun c_12 => ?_)
              · refine lv_aload hx hb dX5_broken_94 (lv_at hl 1 rfl) ?_
                refine pl_get (D := D) (ci := 4) (v := va_rf ((mt_pr τ zp).map (mt_ca τ))) (C := RX3) (T := TX3) (N := 9) hx hb hts (by decide +kernel) hown hK.1 hP (hM.cl hzp).1 (hM.cl hzp).2.1 rfl 2 (by decide) (hts (.fieldLink RX5 77 "ChooseTreeModel$Cls" "parent" "LChooseTreeModel$Cls;") (by decide +kernel)) (fun _ h9 => h9) rfl dX5_broken_96 ?_
                refine lv_astoreR (lv' := [(5, va_rf ((mt_pr τ zp).map (mt_ca τ))), (6, .ref (mt_ja τ zj)), (4, .ref (mt_ja τ (mt_ml τ zi zk))), (3, .int (nI zk)), (2, .ref (mt_ca τ zi)), (0, .ref (mt_x τ)), (1, .int zx1)]) hx hb dX5_broken_99 hl (by decide) rfl (fun ls hl => ?_)
                refine lv_goto (tgt := 48) hx hb dX5_broken_101 (by decide) ?_
                exact ih2 (mt_pr τ zp) H locs ls hP hS (fun p hp => by have := (hM.cl hzp).2.2.1 p hp; omega) (by rw [← hrs2]; simp [t_bp, htzj, c_12]) (lv_sub hl [0, 2, 3, 4, 5, 6] rfl)
              · refine lv_aload hx hb dX5_broken_78 (lv_at hl 2 rfl) ?_
                refine lv_aload hx hb dX5_broken_80 (lv_at hl 0 rfl) ?_
                refine va_calli (va_runS (As := [.ref (mt_ja τ (mt_ml τ zi zk)), .ref (mt_ja τ zj)]) (rest := []) ⟨hx, hb, hml, hown, hts⟩ (c_X5_goesOver l D cO mi L f e0 τ hM (mt_ml τ zi zk) zj (hMl.2 zk (show zk < (mt_cnt τ (mt_ma τ zi)) by omega)).1 (t_idx_lt hM hzp htzj)) (va_cwS 2 hts gX5_broken_X5_goesOver rfl rfl rfl (by decide +kernel) ⟨Nat.le_of_ble_eq_true rfl, Nat.le_of_ble_eq_true rfl⟩) (mP_S hK hP) rfl rfl hl.1 rfl (lv_room (Nat.le_of_ble_eq_true rfl)) dX5_broken_82 ⟨Nat.le_of_ble_eq_true rfl, Nat.le_of_ble_eq_true rfl⟩) hS (fun _ _ h => h.elim) (fun _ h => h.elim) (fun r_13 u t H1 locs ht hvm hw hB hz1 hk1 hS => ?_)
                replace hP := ro_kept hP hk1
                obtain rfl : r_13 = _ := hw
                clear hk1 hz1 hvm ht hB
                generalize H1 = H at hP hS ⊢
                refine lv_if_eq (tgt := 94) hx hb dX5_broken_85 (by decide) (fun c_14 => ?_) (fun c_14 => ?_)
                · replace c_14 := bI_0.mp c_14
                  refine lv_aload hx hb dX5_broken_94 (lv_at hl 1 rfl) ?_
                  refine pl_get (D := D) (ci := 4) (v := va_rf ((mt_pr τ zp).map (mt_ca τ))) (C := RX3) (T := TX3) (N := 9) hx hb hts (by decide +kernel) hown hK.1 hP (hM.cl hzp).1 (hM.cl hzp).2.1 rfl 2 (by decide) (hts (.fieldLink RX5 77 "ChooseTreeModel$Cls" "parent" "LChooseTreeModel$Cls;") (by decide +kernel)) (fun _ h9 => h9) rfl dX5_broken_96 ?_
                  refine lv_astoreR (lv' := [(5, va_rf ((mt_pr τ zp).map (mt_ca τ))), (6, .ref (mt_ja τ zj)), (4, .ref (mt_ja τ (mt_ml τ zi zk))), (3, .int (nI zk)), (2, .ref (mt_ca τ zi)), (0, .ref (mt_x τ)), (1, .int zx1)]) hx hb dX5_broken_99 hl (by decide) rfl (fun ls hl => ?_)
                  refine lv_goto (tgt := 48) hx hb dX5_broken_101 (by decide) ?_
                  exact ih2 (mt_pr τ zp) H locs ls hP hS (fun p hp => by have := (hM.cl hzp).2.2.1 p hp; omega) (by rw [← hrs2]; simp [t_bp, htzj, c_12, c_14]) (lv_sub hl [0, 2, 3, 4, 5, 6] rfl)
                · replace c_14 := bI_n0.mp c_14
                  refine lv_aload hx hb dX5_broken_88 (lv_at hl 2 rfl) ?_
                  refine pl_get (D := D) (ci := 5) (v := .int (nI (mt_ml τ zi zk))) (C := RX4) (T := TX4) (N := 7) hx hb hts (by decide +kernel) hown hK.1 hP (hM.me (hMl.2 zk (show zk < (mt_cnt τ (mt_ma τ zi)) by omega)).1).1 (hM.me (hMl.2 zk (show zk < (mt_cnt τ (mt_ma τ zi)) by omega)).1).2.1 rfl 0 (by decide) (hts (.fieldLink RX5 65 "ChooseTreeModel$Met" "number" "I") (by decide +kernel)) (fun _ h9 => h9) rfl dX5_broken_90 ?_
                  exact W.iret (v := (nI (mt_ml τ zi zk))) hx hb hr (fun t ht hW => ⟨⟨(nI (mt_ml τ zi zk)), (), rfl, (by rw [← hres, t_bo, if_pos (by rw [← hrs2]; simp [t_bp, htzj, c_12, c_14])]), trivial⟩, hS.F ht⟩) hS.2.2 dX5_broken_93
