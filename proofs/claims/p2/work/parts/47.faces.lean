set_option maxHeartbeats 4000000 in
set_option maxRecDepth 100000 in
theorem c_X5_facesOf0 (l : Launch) (D : va_G) (cO : ClassId) (mi e0 : Nat) (L : List Nat) (f : Nat → va_E) (sz : Nat) (hnd : L.Nodup) (τ : MT) (hM : MI e0 cO L f τ) (zi : Nat) (hzi : zi < mt_n τ) (hpt : mt_pt τ zi = (nI (mt_cnt τ (mt_fa τ zi)))) : Met l yX5_facesOf wsX5_facesOf { frames := 69, cells := 0, slots := 0, locals := 1688 } (mW D cO mi e0 L f sz [.ref (mt_x τ), .ref (mt_ca τ zi)]) (wQq D L sz (fun r u => r = some (mt_aa τ zi) ∧ fpost e0 cO τ zi u)) 0 0 (mA L sz) := by
  refine Met.ofW (cc := cX5_facesOf) (maxL := 2) (ret := (some (.object "java/util/ArrayList"))) (by decide) rfl ?_
  intro p e s m args below meth cq s₁ B hml hv
  obtain ⟨rfl, hsz, hP, hK, hJ⟩ := hv
  have hx := B.exec
  have hb := B.bytes
  have hr := B.returns
  have hts := atoms_spec (ws := wsX5_facesOf) B.pre
  have hown : s.vm.findClass RX5 = some m.cls := findClass_of_methodNamed B.named
  have hlocks := B.notSynchronized
  have hin := (name_of_methodNamed B.named B.method).1
  clear B
  have hl := lv_entry ([.ref (mt_x τ), .ref (mt_ca τ zi)]) (n := 2) (Nat.le_of_ble_eq_true rfl)
  rw [lg_entry_eq]
  generalize (lg_sl ([.ref (mt_x τ), .ref (mt_ca τ zi)]) ++ List.replicate (2 - (lg_sl ([.ref (mt_x τ), .ref (mt_ca τ zi)])).length) Slot.unset).toArray = ls at hl ⊢
  replace hl : lv_has ls 2 [(0, .ref (mt_x τ)), (1, .ref (mt_ca τ zi))] := hl
  have hA : ∀ q : Nat, s.heap.size ≤ q → mA L sz q := fun q h => Or.inr (by omega)
  have hE : pext L sz L := pext.rf hnd
  have hD : va_D (mA L sz) (va_pl L f) := hE.D
  refine gen_start (A := mA L sz) (fun H locs hP hS => ?_) hP
  have hMb := hM.b
  refine lv_aload_n hx hb dX5_facesOf_0 rfl (lv_at hl 1 rfl) ?_
  refine pl_get (D := D) (ci := 4) (v := .int (mt_pt τ zi)) (C := RX3) (T := TX3) (N := 9) hx hb hts (by decide +kernel) hown hK.1 hP (hM.cl hzi).1 (hM.cl hzi).2.1 rfl 7 (by decide) (hts (.fieldLink RX5 84 "ChooseTreeModel$Cls" "put" "I") (by decide +kernel)) (fun _ h9 => h9) rfl dX5_facesOf_1 ?_
  refine lv_aload_n hx hb dX5_facesOf_4 rfl (lv_at hl 1 rfl) ?_
  refine pl_get (D := D) (ci := 4) (v := .ref (mt_fa τ zi)) (C := RX3) (T := TX3) (N := 9) hx hb hts (by decide +kernel) hown hK.1 hP (hM.cl hzi).1 (hM.cl hzi).2.1 rfl 4 (by decide) (hts (.fieldLink RX5 51 "ChooseTreeModel$Cls" "faces" "Ljava/util/ArrayList;") (by decide +kernel)) (fun _ h9 => h9) rfl dX5_facesOf_5 ?_
  obtain ⟨mcz1, gz1, hfz1, hgz1, hcz1⟩ := hM.ly.raw (b := (mt_fa τ zi)) (hM.fa hzi).1 (hM.fa hzi).2
  refine va_calli (va_runV (As := []) (rest := [.int (mt_pt τ zi)]) ⟨hx, hb, hml, hown, hts⟩ (c_Jx4a65c_size_8abf5 l D cO mi L f (mt_fa τ zi) (hM.fa hzi).1 mcz1 (ls_dat (mt_ls τ) (mt_fa τ zi)) (mt_cnt τ (mt_fa τ zi)) hfz1) (cwV 0 hts gX5_facesOf_Jx4a65c_size_8abf5 rfl rfl rfl (by decide +kernel) ⟨Nat.le_of_ble_eq_true rfl, Nat.le_of_ble_eq_true rfl⟩) (mP_V hK hP 0 rfl (hM.fa hzi).1 hfz1) rfl rfl hl.1 rfl (lv_room (Nat.le_of_ble_eq_true rfl)) dX5_facesOf_8 ⟨Nat.le_of_ble_eq_true rfl, Nat.le_of_ble_eq_true rfl⟩) hS (fun _ _ h => h.elim) (fun _ h => h.elim) (fun r_2 u t H1 locs ht hvm hw hB hz1 hk1 hS => ?_)
  replace hP := ro_kept hP hk1
  obtain rfl : r_2 = _ := hw
  clear hk1 hz1 hvm ht hB
  generalize H1 = H at hP hS ⊢
  clear hcz1 hgz1
  refine lv_icmp_ne (tgt := 19) hx hb dX5_facesOf_11 (by decide) (fun c_3 => ?_) (fun c_3 => ?_)
  · exact absurd hpt c_3
  · refine lv_aload_n hx hb dX5_facesOf_14 rfl (lv_at hl 1 rfl) ?_
    refine pl_get (D := D) (ci := 4) (v := .ref (mt_aa τ zi)) (C := RX3) (T := TX3) (N := 9) hx hb hts (by decide +kernel) hown hK.1 hP (hM.cl hzi).1 (hM.cl hzi).2.1 rfl 6 (by decide) (hts (.fieldLink RX5 87 "ChooseTreeModel$Cls" "all" "Ljava/util/ArrayList;") (by decide +kernel)) (fun _ h9 => h9) rfl dX5_facesOf_15 ?_
    refine W.widen (k := 0) (n := 0) (by first | exact Nat.le_refl _ | omega) (by first | exact Nat.le_refl _ | omega) ?_
    exact W.aret (v := va_rf (some (mt_aa τ zi))) hx hb hr (Or.inl ⟨_, rfl⟩) (va_rf_or _) (fun t ht hW => ⟨⟨(some (mt_aa τ zi)), (L, f), rfl, ⟨⟨rfl, mt_pt τ, mt_mark τ, mt_mk τ, mt_al τ, mt_ls τ, hM, hpt, fun _ _ => rfl⟩, hE⟩, show va_P D vwCl (va_pl _ _) t.heap from (by rw [ht]; exact hP)⟩, hS.F ht⟩) hS.2.2 dX5_facesOf_18
set_option maxHeartbeats 4000000 in
set_option maxRecDepth 100000 in
theorem c_X5_facesOf1 (l : Launch) (D : va_G) (cO : ClassId) (mi e0 : Nat) (L : List Nat) (f : Nat → va_E) (sz : Nat) (hnd : L.Nodup) (τ : MT) (hM : MI e0 cO L f τ) (zi : Nat) (hzi : zi < mt_n τ) (hpt : ¬ mt_pt τ zi = (nI (mt_cnt τ (mt_fa τ zi)))) : Met l yX5_facesOf wsX5_facesOf { frames := 69, cells := 60, slots := 5400, locals := 1688 } (mW D cO mi e0 L f sz [.ref (mt_x τ), .ref (mt_ca τ zi)]) (wQq D L sz (fun r u => r = some (mt_aa τ zi) ∧ fpost e0 cO τ zi u)) 60 5400 (mA L sz) := by
  refine Met.ofW (cc := cX5_facesOf) (maxL := 2) (ret := (some (.object "java/util/ArrayList"))) (by decide) rfl ?_
  intro p e s m args below meth cq s₁ B hml hv
  obtain ⟨rfl, hsz, hP, hK, hJ⟩ := hv
  have hx := B.exec
  have hb := B.bytes
  have hr := B.returns
  have hts := atoms_spec (ws := wsX5_facesOf) B.pre
  have hown : s.vm.findClass RX5 = some m.cls := findClass_of_methodNamed B.named
  have hlocks := B.notSynchronized
  have hin := (name_of_methodNamed B.named B.method).1
  clear B
  have hl := lv_entry ([.ref (mt_x τ), .ref (mt_ca τ zi)]) (n := 2) (Nat.le_of_ble_eq_true rfl)
  rw [lg_entry_eq]
  generalize (lg_sl ([.ref (mt_x τ), .ref (mt_ca τ zi)]) ++ List.replicate (2 - (lg_sl ([.ref (mt_x τ), .ref (mt_ca τ zi)])).length) Slot.unset).toArray = ls at hl ⊢
  replace hl : lv_has ls 2 [(0, .ref (mt_x τ)), (1, .ref (mt_ca τ zi))] := hl
  have hA : ∀ q : Nat, s.heap.size ≤ q → mA L sz q := fun q h => Or.inr (by omega)
  have hE : pext L sz L := pext.rf hnd
  have hD : va_D (mA L sz) (va_pl L f) := hE.D
  refine gen_start (A := mA L sz) (fun H locs hP hS => ?_) hP
  have hMb := hM.b
  refine lv_aload_n hx hb dX5_facesOf_0 rfl (lv_at hl 1 rfl) ?_
  refine pl_get (D := D) (ci := 4) (v := .int (mt_pt τ zi)) (C := RX3) (T := TX3) (N := 9) hx hb hts (by decide +kernel) hown hK.1 hP (hM.cl hzi).1 (hM.cl hzi).2.1 rfl 7 (by decide) (hts (.fieldLink RX5 84 "ChooseTreeModel$Cls" "put" "I") (by decide +kernel)) (fun _ h9 => h9) rfl dX5_facesOf_1 ?_
  refine lv_aload_n hx hb dX5_facesOf_4 rfl (lv_at hl 1 rfl) ?_
  refine pl_get (D := D) (ci := 4) (v := .ref (mt_fa τ zi)) (C := RX3) (T := TX3) (N := 9) hx hb hts (by decide +kernel) hown hK.1 hP (hM.cl hzi).1 (hM.cl hzi).2.1 rfl 4 (by decide) (hts (.fieldLink RX5 51 "ChooseTreeModel$Cls" "faces" "Ljava/util/ArrayList;") (by decide +kernel)) (fun _ h9 => h9) rfl dX5_facesOf_5 ?_
  obtain ⟨mcz1, gz1, hfz1, hgz1, hcz1⟩ := hM.ly.raw (b := (mt_fa τ zi)) (hM.fa hzi).1 (hM.fa hzi).2
  refine va_calli (va_runV (As := []) (rest := [.int (mt_pt τ zi)]) ⟨hx, hb, hml, hown, hts⟩ (c_Jx4a65c_size_8abf5 l D cO mi L f (mt_fa τ zi) (hM.fa hzi).1 mcz1 (ls_dat (mt_ls τ) (mt_fa τ zi)) (mt_cnt τ (mt_fa τ zi)) hfz1) (cwV 0 hts gX5_facesOf_Jx4a65c_size_8abf5 rfl rfl rfl (by decide +kernel) ⟨Nat.le_of_ble_eq_true rfl, Nat.le_of_ble_eq_true rfl⟩) (mP_V hK hP 0 rfl (hM.fa hzi).1 hfz1) rfl rfl hl.1 rfl (lv_room (Nat.le_of_ble_eq_true rfl)) dX5_facesOf_8 ⟨Nat.le_of_ble_eq_true rfl, Nat.le_of_ble_eq_true rfl⟩) hS (fun _ _ h => h.elim) (fun _ h => h.elim) (fun r_2 u t H1 locs ht hvm hw hB hz1 hk1 hS => ?_)
  replace hP := ro_kept hP hk1
  obtain rfl : r_2 = _ := hw
  clear hk1 hz1 hvm ht hB
  generalize H1 = H at hP hS ⊢
  clear hcz1 hgz1
  refine lv_icmp_ne (tgt := 19) hx hb dX5_facesOf_11 (by decide) (fun c_3 => ?_) (fun c_3 => ?_)
  · refine lv_aload_n hx hb dX5_facesOf_19 rfl (lv_at hl 1 rfl) ?_
    refine lv_aload_n hx hb dX5_facesOf_20 rfl (lv_at hl 1 rfl) ?_
    refine pl_get (D := D) (ci := 4) (v := .ref (mt_fa τ zi)) (C := RX3) (T := TX3) (N := 9) hx hb hts (by decide +kernel) hown hK.1 hP (hM.cl hzi).1 (hM.cl hzi).2.1 rfl 4 (by decide) (hts (.fieldLink RX5 51 "ChooseTreeModel$Cls" "faces" "Ljava/util/ArrayList;") (by decide +kernel)) (fun _ h9 => h9) rfl dX5_facesOf_21 ?_
    obtain ⟨mcz4, gz4, hfz4, hgz4, hcz4⟩ := hM.ly.raw (b := (mt_fa τ zi)) (hM.fa hzi).1 (hM.fa hzi).2
    refine va_calli (va_runV (As := []) (rest := [.ref (mt_ca τ zi)]) ⟨hx, hb, hml, hown, hts⟩ (c_Jx4a65c_size_8abf5 l D cO mi L f (mt_fa τ zi) (hM.fa hzi).1 mcz4 (ls_dat (mt_ls τ) (mt_fa τ zi)) (mt_cnt τ (mt_fa τ zi)) hfz4) (cwV 0 hts gX5_facesOf_Jx4a65c_size_8abf5 rfl rfl rfl (by decide +kernel) ⟨Nat.le_of_ble_eq_true rfl, Nat.le_of_ble_eq_true rfl⟩) (mP_V hK hP 0 rfl (hM.fa hzi).1 hfz4) rfl rfl hl.1 rfl (lv_room (Nat.le_of_ble_eq_true rfl)) dX5_facesOf_24 ⟨Nat.le_of_ble_eq_true rfl, Nat.le_of_ble_eq_true rfl⟩) hS (fun _ _ h => h.elim) (fun _ h => h.elim) (fun r_5 u t H1 locs ht hvm hw hB hz1 hk1 hS => ?_)
    replace hP := ro_kept hP hk1
    obtain rfl : r_5 = _ := hw
    clear hk1 hz1 hvm ht hB
    generalize H1 = H at hP hS ⊢
    clear hcz4 hgz4
    refine pl_put (D := D) (ci := 4) (v := .int (nI (mt_cnt τ (mt_fa τ zi)))) (ty := .int) (C := RX3) (T := TX3) (N := 9) hx hb hts (by decide +kernel) tyX3 tyX3_ok nmX3 hown hK.1 hP hD hS (hM.cl hzi).1 (hM.cl hzi).2.1 rfl 7 (by decide) (hts (.fieldLink RX5 84 "ChooseTreeModel$Cls" "put" "I") (by decide +kernel)) (fun _ h9 => h9) rfl (by decide +kernel) rfl rfl (Nat.le_of_ble_eq_true rfl) dX5_facesOf_27 (fun H locs hP hS => ?_)
    replace hP : va_P D vwCl (va_pl L (va_up f (mt_ca τ zi) (.inr (4, [.int (nI zi), .int (mt_pk τ zi), va_rf ((mt_pr τ zi).map (mt_ca τ)), .int (mt_fc τ zi), .ref (mt_fa τ zi), .ref (mt_ma τ zi), .ref (mt_aa τ zi), .int (nI (mt_cnt τ (mt_fa τ zi))), .int (mt_mk τ zi)])))) H := hP
    obtain ⟨f6, hf6⟩ : ∃ z, z = va_up f (mt_ca τ zi) (.inr (4, [.int (nI zi), .int (mt_pk τ zi), va_rf ((mt_pr τ zi).map (mt_ca τ)), .int (mt_fc τ zi), .ref (mt_fa τ zi), .ref (mt_ma τ zi), .ref (mt_aa τ zi), .int (nI (mt_cnt τ (mt_fa τ zi))), .int (mt_mk τ zi)])) := ⟨_, rfl⟩
    rw [← hf6] at hP
    have F_mt_xτ_6 : f6 (mt_x τ) = .inr (6, [.ref (mt_c τ), .ref (mt_m τ), .int (mt_mark τ)]) := by rw [hf6, va_up_ne _ _ (show (mt_x τ) ≠ (mt_ca τ zi) from (cell_ne hM.x.2 (hM.cl hzi).2.1 (by intro e8; first | (cases e8; done) | (simp at e8; done))))]; exact hM.x.2
    have F_mt_faτzi_6 : f6 (mt_fa τ zi) = .inr (0, [.int mcz4, .ref (ls_dat (mt_ls τ) (mt_fa τ zi)), .int (nI (mt_cnt τ (mt_fa τ zi)))]) := by rw [hf6, va_up_ne _ _ (show (mt_fa τ zi) ≠ (mt_ca τ zi) from (cell_ne hfz4 (hM.cl hzi).2.1 (by intro e8; first | (cases e8; done) | (simp at e8; done))))]; exact hfz4
    have F_mt_caτzi_6 : f6 (mt_ca τ zi) = .inr (4, [.int (nI zi), .int (mt_pk τ zi), va_rf ((mt_pr τ zi).map (mt_ca τ)), .int (mt_fc τ zi), .ref (mt_fa τ zi), .ref (mt_ma τ zi), .ref (mt_aa τ zi), .int (nI (mt_cnt τ (mt_fa τ zi))), .int (mt_mk τ zi)]) := by rw [hf6]; exact va_up_self _ _ _
    have hD : va_D (mA L sz) (va_pl L f6) := hE.D
    have hM1 : MI e0 cO L f6 (mt_setpt τ (va_up (mt_pt τ) zi (nI (mt_cnt τ (mt_fa τ zi))))) := by rw [hf6]; exact hM.setpt hzi (nI (mt_cnt τ (mt_fa τ zi)))
    have Fca : f6 (mt_ca τ zi) = .inr (4, [.int (nI zi), .int (mt_pk τ zi), va_rf ((mt_pr τ zi).map (mt_ca τ)), .int (mt_fc τ zi), .ref (mt_fa τ zi), .ref (mt_ma τ zi), .ref (mt_aa τ zi), .int (nI (mt_cnt τ (mt_fa τ zi))), .int (mt_mk τ zi)]) := ((hM1.cl hzi).2.1).trans (by show ccell zi _ _ _ _ _ _ (va_up (mt_pt τ) zi (nI (mt_cnt τ (mt_fa τ zi))) zi) _ = _; rw [va_up_self]; rfl)
    have Mca : mt_ca τ zi ∈ L := (hM1.cl hzi).1
    have Fxa : f6 (mt_x τ) = .inr (6, [.ref (mt_c τ), .ref (mt_m τ), .int (mt_mark τ)]) := hM1.x.2
    have Mxa : mt_x τ ∈ L := hM1.x.1
    refine lv_aload_n hx hb dX5_facesOf_30 rfl (lv_at hl 1 rfl) ?_
    refine pl_get (D := D) (ci := 4) (v := .ref (mt_aa τ zi)) (C := RX3) (T := TX3) (N := 9) hx hb hts (by decide +kernel) hown hK.1 hP Mca Fca rfl 6 (by decide) (hts (.fieldLink RX5 87 "ChooseTreeModel$Cls" "all" "Ljava/util/ArrayList;") (by decide +kernel)) (fun _ h9 => h9) rfl dX5_facesOf_31 ?_
    have hba : (mt_aa τ zi) ∈ L ∧ isAL f6 (mt_aa τ zi) := hM1.aa hzi
    obtain ⟨mcA, gA, hfA, hgA, hcA⟩ := hM1.ly.raw (b := (mt_aa τ zi)) hba.1 hba.2
    have hszH : sz ≤ H.size := by have := hS.1; omega
    have hPold := hP
    refine va_callv (va_runV (As := []) (rest := []) ⟨hx, hb, hml, hown, hts⟩ (c_Jx4a65c_clear_da8c8 l D cO mi e0 L f6 H.size hE.nd (mt_aa τ zi) hba.1 mcA (ls_dat (mt_ls τ) (mt_aa τ zi)) (ls_cnt (mt_ls τ) (mt_aa τ zi)) hfA (ls_cap (mt_ls τ) (mt_aa τ zi)) (ls_grow (mt_ls τ) (mt_aa τ zi)) gA hgA hM1.ly.1) (cwV 0 hts gX5_facesOf_Jx4a65c_clear_da8c8 rfl rfl rfl (by decide +kernel) ⟨Nat.le_of_ble_eq_true rfl, Nat.le_of_ble_eq_true rfl⟩) (mW_V hK hJ hS (hE.sub (by have := hS.1; omega)) hP 0 rfl hba.1 hfA) rfl rfl hl.1 rfl (lv_room (Nat.le_of_ble_eq_true rfl)) dX5_facesOf_34 ⟨Nat.le_of_ble_eq_true rfl, Nat.le_of_ble_eq_true rfl⟩) hS (fun q _ h => (hE.sub (by have := hS.1; omega)) q h) (hE.sub (by have := hS.1; omega)) (fun u t H1 locs ht hvm hw hB hz1 hk1 hS => ?_)
    obtain ⟨L7, f7⟩ := u
    obtain ⟨hw, hE1⟩ := hw
    replace hB : va_P D vwCl (va_pl L7 f7) t.heap := hB
    rw [ht] at hB
    replace hE : pext L sz L7 := hE.tr (hszH) hE1
    have hM2 := hM1.clr hzi hw
    have hL1 : L = L7 := hw.1.symm
    subst hL1
    clear hM1
    have hM1 : MI e0 cO L f7 (mt_setls (mt_setpt τ (va_up (mt_pt τ) zi (nI (mt_cnt τ (mt_fa τ zi))))) (ls_clr (mt_ls τ) (mt_aa τ zi))) := hM2
    have Fcb : f7 (mt_ca τ zi) = .inr (4, [.int (nI zi), .int (mt_pk τ zi), va_rf ((mt_pr τ zi).map (mt_ca τ)), .int (mt_fc τ zi), .ref (mt_fa τ zi), .ref (mt_ma τ zi), .ref (mt_aa τ zi), .int (nI (mt_cnt τ (mt_fa τ zi))), .int (mt_mk τ zi)]) := ((hM1.cl hzi).2.1).trans (by show ccell zi _ _ _ _ _ _ (va_up (mt_pt τ) zi (nI (mt_cnt τ (mt_fa τ zi))) zi) _ = _; rw [va_up_self]; rfl)
    have Mcb : mt_ca τ zi ∈ L := (hM1.cl hzi).1
    have Fxb : f7 (mt_x τ) = .inr (6, [.ref (mt_c τ), .ref (mt_m τ), .int (mt_mark τ)]) := hM1.x.2
    have Mxb : mt_x τ ∈ L := hM1.x.1
    clear hPold hP hk1 hz1 hvm ht hszH hE1
    have hP := hB
    clear hB
    generalize H1 = H at hP hS ⊢
    have hD : va_D (mA L sz) (va_pl L f7) := hE.D
    refine lv_aload_n hx hb dX5_facesOf_37 rfl (lv_at hl 0 rfl) ?_
    refine lv_dup hx hb dX5_facesOf_38 rfl ?_
    refine pl_get (D := D) (ci := 6) (v := .int (mt_mark τ)) (C := RX5) (T := TX5) (N := 3) hx hb hts (by decide +kernel) hown hK.1 hP Mxb Fxb rfl 2 (by decide) (hts (.fieldLink RX5 69 "ChooseTreeModel" "mark" "I") (by decide +kernel)) (fun _ h9 => h9) rfl dX5_facesOf_39 ?_
    refine lv_iconst (v := (nI 1)) hx hb dX5_facesOf_42 (by decide) ?_
    refine lv_iadd hx hb dX5_facesOf_43 ?_
    refine pl_put (D := D) (ci := 6) (v := .int ((mt_mark τ) + (nI 1))) (ty := .int) (C := RX5) (T := TX5) (N := 3) hx hb hts (by decide +kernel) tyX5 tyX5_ok nmX5 hown hK.1 hP hD hS Mxb Fxb rfl 2 (by decide) (hts (.fieldLink RX5 69 "ChooseTreeModel" "mark" "I") (by decide +kernel)) (fun _ h9 => h9) rfl (by decide +kernel) rfl rfl (Nat.le_of_ble_eq_true rfl) dX5_facesOf_44 (fun H locs hP hS => ?_)
    replace hP : va_P D vwCl (va_pl L (va_up f7 (mt_x τ) (.inr (6, [.ref (mt_c τ), .ref (mt_m τ), .int ((mt_mark τ) + (nI 1))])))) H := hP
    obtain ⟨f8, hf8⟩ : ∃ z, z = va_up f7 (mt_x τ) (.inr (6, [.ref (mt_c τ), .ref (mt_m τ), .int ((mt_mark τ) + (nI 1))])) := ⟨_, rfl⟩
    rw [← hf8] at hP
    have F_mt_xτ_8 : f8 (mt_x τ) = .inr (6, [.ref (mt_c τ), .ref (mt_m τ), .int ((mt_mark τ) + (nI 1))]) := by rw [hf8]; exact va_up_self _ _ _
    have hD : va_D (mA L sz) (va_pl L f8) := hE.D
    have hM2 : MI e0 cO L f8 (mt_g (mt_setmark (mt_setpt τ (va_up (mt_pt τ) zi (nI (mt_cnt τ (mt_fa τ zi))))) (mt_mark τ + nI 1)) (mt_mk τ) (mt_al τ) (ls_clr (mt_ls τ) (mt_aa τ zi))) := by rw [hf8]; exact hM1.setmark (mt_mark τ + nI 1)
    clear hM1
    have hM1 := hM2
    have Fcc : f8 (mt_ca τ zi) = .inr (4, [.int (nI zi), .int (mt_pk τ zi), va_rf ((mt_pr τ zi).map (mt_ca τ)), .int (mt_fc τ zi), .ref (mt_fa τ zi), .ref (mt_ma τ zi), .ref (mt_aa τ zi), .int (nI (mt_cnt τ (mt_fa τ zi))), .int (mt_mk τ zi)]) := ((hM1.cl hzi).2.1).trans (by show ccell zi _ _ _ _ _ _ (va_up (mt_pt τ) zi (nI (mt_cnt τ (mt_fa τ zi))) zi) _ = _; rw [va_up_self]; rfl)
    have Mcc : mt_ca τ zi ∈ L := (hM1.cl hzi).1
    have Fxc : f8 (mt_x τ) = .inr (6, [.ref (mt_c τ), .ref (mt_m τ), .int (mt_mark τ + nI 1)]) := hM1.x.2
    have Mxc : mt_x τ ∈ L := hM1.x.1
    have hlen : (t_gath (mt_setmark (mt_setpt τ (va_up (mt_pt τ) zi (nI (mt_cnt τ (mt_fa τ zi))))) (mt_mark τ + nI 1)) 61 zi (mt_mk τ)).2.length ≤ 60 := by
      have h1 := t_gath_len (mt_setmark (mt_setpt τ (va_up (mt_pt τ) zi (nI (mt_cnt τ (mt_fa τ zi))))) (mt_mark τ + nI 1)) (fun c hc => ⟨fun j hj => by
        have h2 := ((hM.cl hc).2.2.2.1.2 j hj).1
        have h3 : c < mt_n τ := hc
        show mt_fl τ c j < mt_n τ
        omega, fun p hp => by
        have h2 := (hM.cl hc).2.2.1 p hp
        have h3 : c < mt_n τ := hc
        show p < mt_n τ
        omega⟩) 61 zi (mt_mk τ) hzi
      have h2 := um_le (mt_mark (mt_setmark (mt_setpt τ (va_up (mt_pt τ) zi (nI (mt_cnt τ (mt_fa τ zi))))) (mt_mark τ + nI 1))) (mt_mk τ) (mt_n (mt_setmark (mt_setpt τ (va_up (mt_pt τ) zi (nI (mt_cnt τ (mt_fa τ zi))))) (mt_mark τ + nI 1)))
      have h3 : mt_n (mt_setmark (mt_setpt τ (va_up (mt_pt τ) zi (nI (mt_cnt τ (mt_fa τ zi))))) (mt_mark τ + nI 1)) ≤ 60 := hMb.2.1
      omega
    obtain ⟨zlen, hzlen⟩ : ∃ z, z = (t_gath (mt_setmark (mt_setpt τ (va_up (mt_pt τ) zi (nI (mt_cnt τ (mt_fa τ zi))))) (mt_mark τ + nI 1)) 61 zi (mt_mk τ)).2.length := ⟨_, rfl⟩
    rw [← hzlen] at hlen
    refine lv_aload_n hx hb dX5_facesOf_47 rfl (lv_at hl 0 rfl) ?_
    refine lv_aload_n hx hb dX5_facesOf_48 rfl (lv_at hl 1 rfl) ?_
    refine lv_aload_n hx hb dX5_facesOf_49 rfl (lv_at hl 1 rfl) ?_
    refine pl_get (D := D) (ci := 4) (v := .ref (mt_aa τ zi)) (C := RX3) (T := TX3) (N := 9) hx hb hts (by decide +kernel) hown hK.1 hP Mcc Fcc rfl 6 (by decide) (hts (.fieldLink RX5 87 "ChooseTreeModel$Cls" "all" "Ljava/util/ArrayList;") (by decide +kernel)) (fun _ h9 => h9) rfl dX5_facesOf_50 ?_
    have hszH : sz ≤ H.size := by have := hS.1; omega
    have hPold := hP
    refine va_callv (va_runV (As := [.ref (mt_ca τ zi), .ref (mt_aa τ zi)]) (rest := []) ⟨hx, hb, hml, hown, hts⟩ (c_gath61 l D cO mi e0 L f8 H.size hE.nd (mt_setmark (mt_setpt τ (va_up (mt_pt τ) zi (nI (mt_cnt τ (mt_fa τ zi))))) (mt_mark τ + nI 1)) zi hzi (mt_mk τ) (mt_al τ) (ls_clr (mt_ls τ) (mt_aa τ zi)) hM1 (fun b hb9 => va_up_ne _ _ hb9) (va_up_self _ _ _)) (cwV 2 hts gX5_facesOf_X5_gather rfl rfl rfl (by decide +kernel) ⟨Nat.le_of_ble_eq_true rfl, Nat.le_of_ble_eq_true rfl⟩) (mW_V hK hJ hS (hE.sub (by have := hS.1; omega)) hP 6 rfl Mxc Fxc) rfl rfl hl.1 rfl (lv_room (Nat.le_of_ble_eq_true rfl)) dX5_facesOf_53 ⟨(show 0 + (t_gath (mt_setmark (mt_setpt τ (va_up (mt_pt τ) zi (nI (mt_cnt τ (mt_fa τ zi))))) (mt_mark τ + nI 1)) 61 zi (mt_mk τ)).2.length ≤ 60 by omega), (show 0 + 90 * (t_gath (mt_setmark (mt_setpt τ (va_up (mt_pt τ) zi (nI (mt_cnt τ (mt_fa τ zi))))) (mt_mark τ + nI 1)) 61 zi (mt_mk τ)).2.length ≤ 5400 by omega)⟩) hS (fun q _ h => (hE.sub (by have := hS.1; omega)) q h) (hE.sub (by have := hS.1; omega)) (fun u t H1 locs ht hvm hw hB hz1 hk1 hS => ?_)
    obtain ⟨L9, f9⟩ := u
    obtain ⟨hw, hE1⟩ := hw
    replace hB : va_P D vwCl (va_pl L9 f9) t.heap := hB
    rw [ht] at hB
    replace hE : pext L sz L9 := hE.tr (hszH) hE1
    obtain ⟨za, zl, hM3, hlq3, -⟩ := hw
    replace hM3 : MI e0 cO L9 f9 (mt_f τ (va_up (mt_pt τ) zi (nI (mt_cnt τ (mt_fa τ zi)))) (mt_mark τ + nI 1) (t_gath (mt_setmark (mt_setpt τ (va_up (mt_pt τ) zi (nI (mt_cnt τ (mt_fa τ zi))))) (mt_mark τ + nI 1)) 61 zi (mt_mk τ)).1 za zl) := hM3
    clear hM1 hM2
    have hM1 := hM3
    have Fcg : f9 (mt_ca τ zi) = .inr (4, [.int (nI zi), .int (mt_pk τ zi), va_rf ((mt_pr τ zi).map (mt_ca τ)), .int (mt_fc τ zi), .ref (mt_fa τ zi), .ref (mt_ma τ zi), .ref (mt_aa τ zi), .int (nI (mt_cnt τ (mt_fa τ zi))), .int ((t_gath (mt_setmark (mt_setpt τ (va_up (mt_pt τ) zi (nI (mt_cnt τ (mt_fa τ zi))))) (mt_mark τ + nI 1)) 61 zi (mt_mk τ)).1 zi)]) := ((hM1.cl hzi).2.1).trans (by show ccell zi _ _ _ _ _ _ (va_up (mt_pt τ) zi (nI (mt_cnt τ (mt_fa τ zi))) zi) _ = _; rw [va_up_self]; rfl)
    have Mcg : mt_ca τ zi ∈ L9 := (hM1.cl hzi).1
    clear hPold hP hk1 hz1 hvm ht hszH hE1
    have hP := hB
    clear hB
    generalize H1 = H at hP hS ⊢
    have hD : va_D (mA L sz) (va_pl L9 f9) := hE.D
    refine lv_aload_n hx hb dX5_facesOf_56 rfl (lv_at hl 1 rfl) ?_
    refine pl_get (D := D) (ci := 4) (v := .ref (mt_aa τ zi)) (C := RX3) (T := TX3) (N := 9) hx hb hts (by decide +kernel) hown hK.1 hP Mcg Fcg rfl 6 (by decide) (hts (.fieldLink RX5 87 "ChooseTreeModel$Cls" "all" "Ljava/util/ArrayList;") (by decide +kernel)) (fun _ h9 => h9) rfl dX5_facesOf_57 ?_
    refine W.widen (k := 60) (n := 5400) (by first | exact Nat.le_refl _ | omega) (by first | exact Nat.le_refl _ | omega) ?_
    exact W.aret (v := va_rf (some (mt_aa τ zi))) hx hb hr (Or.inl ⟨_, rfl⟩) (va_rf_or _) (fun t ht hW => ⟨⟨(some (mt_aa τ zi)), (L9, f9), rfl, ⟨⟨rfl, _, _, _, _, _, hM3, va_up_self _ _ _, hlq3⟩, hE⟩, show va_P D vwCl (va_pl _ _) t.heap from (by rw [ht]; exact hP)⟩, hS.F ht⟩) hS.2.2 dX5_facesOf_60
  · exact absurd c_3 hpt
