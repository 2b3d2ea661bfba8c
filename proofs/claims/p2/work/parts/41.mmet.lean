set_option maxHeartbeats 4000000 in
set_option maxRecDepth 100000 in
theorem c_X5_method (l : Launch) (D : va_G) (cO : ClassId) (mi e0 : Nat) (L : List Nat) (f : Nat → va_E) (sz : Nat) (hnd : L.Nodup) (τ : MT) (hM : MI e0 cO L f τ) (zx1 zx2 zx3 zx4 : Int32) : Met l yX5_method wsX5_method { frames := 7, cells := 3, slots := 1207, locals := 191 } (mW D cO mi e0 L f sz [.ref (mt_x τ), .int zx1, .int zx2, .int zx3, .int zx4]) (wQi D L sz (fun r u => r = t_metR τ zx1 zx2 zx3 zx4 ∧ ((r < 0 ∧ u.1 = L ∧ MI e0 cO L u.2 τ) ∨ (r = nI (mt_mn τ) ∧ mt_mn τ < 400 ∧ zx1 = nI (mt_n τ - 1) ∧ ∃ q d2 n2 d3 n3, MI e0 cO u.1 u.2 (mt_setls (mt_setml (mt_addm τ q zx2 zx3 (mt_n τ - 1) (t_fl1 zx4) (t_fl2 zx4) (t_fl3 zx4)) (va_up (mt_ml τ) (mt_n τ - 1) (va_up (mt_ml τ (mt_n τ - 1)) (ls_cnt (ls_add (ls_ext (mt_ls τ) [q] e0) (mt_m τ) q d2 n2) (mt_ma τ (mt_n τ - 1))) (mt_mn τ)))) (ls_add (ls_add (ls_ext (mt_ls τ) [q] e0) (mt_m τ) q d2 n2) (mt_ma τ (mt_n τ - 1)) q d3 n3)) ∧ q ∉ L)))) 3 1207 (mA L sz) := by
  refine Met.ofW (cc := cX5_method) (maxL := 7) (ret := (some .int)) (by decide) rfl ?_
  intro p e s m args below meth cq s₁ B hml hv
  obtain ⟨rfl, hsz, hP, hK, hJ⟩ := hv
  have hx := B.exec
  have hb := B.bytes
  have hr := B.returns
  have hts := atoms_spec (ws := wsX5_method) B.pre
  have hown : s.vm.findClass RX5 = some m.cls := findClass_of_methodNamed B.named
  have hlocks := B.notSynchronized
  have hin := (name_of_methodNamed B.named B.method).1
  clear B
  have hl := lv_entry ([.ref (mt_x τ), .int zx1, .int zx2, .int zx3, .int zx4]) (n := 7) (Nat.le_of_ble_eq_true rfl)
  rw [lg_entry_eq]
  generalize (lg_sl ([.ref (mt_x τ), .int zx1, .int zx2, .int zx3, .int zx4]) ++ List.replicate (7 - (lg_sl ([.ref (mt_x τ), .int zx1, .int zx2, .int zx3, .int zx4])).length) Slot.unset).toArray = ls at hl ⊢
  replace hl : lv_has ls 7 [(0, .ref (mt_x τ)), (1, .int zx1), (2, .int zx2), (3, .int zx3), (4, .int zx4)] := hl
  have hA : ∀ q : Nat, s.heap.size ≤ q → mA L sz q := fun q h => Or.inr (by omega)
  have hE : pext L sz L := pext.rf hnd
  have hD : va_D (mA L sz) (va_pl L f) := hE.D
  refine gen_start (A := mA L sz) (fun H locs hP hS => ?_) hP
  have hMb := hM.b
  refine lv_iload_n hx hb dX5_method_0 rfl (lv_at hl 1 rfl) ?_
  refine lv_iconst (v := (nI 1)) hx hb dX5_method_1 (by decide) ?_
  refine lv_icmp_lt (tgt := 18) hx hb dX5_method_2 (by decide) (fun c_1 => ?_) (fun c_1 => ?_)
  · refine lv_bipush (v := (-14)) hx hb dX5_method_18 (by decide) ?_
    refine W.widen (k := 3) (n := 1207) (by first | exact Nat.le_refl _ | omega) (by first | exact Nat.le_refl _ | omega) ?_
    exact W.iret (v := (-14)) hx hb hr (fun t ht hW => ⟨⟨(-14), (L, f), rfl, ⟨⟨(by simp [t_metR, gr1, gr2, gr3, gr4, gr5, gr6, gr7, gr8, gr9, gr10, gr11, gr12, c_1]), Or.inl ⟨by decide, rfl, hM⟩⟩, hE⟩, show va_P D vwCl (va_pl _ _) t.heap from (by rw [ht]; exact hP)⟩, hS.F ht⟩) hS.2.2 dX5_method_20
  · refine lv_iload_n hx hb dX5_method_5 rfl (lv_at hl 1 rfl) ?_
    refine lv_aload_n hx hb dX5_method_6 rfl (lv_at hl 0 rfl) ?_
    refine pl_get (D := D) (ci := 6) (v := .ref (mt_c τ)) (C := RX5) (T := TX5) (N := 3) hx hb hts (by decide +kernel) hown hK.1 hP hM.x.1 hM.x.2 rfl 0 (by decide) (hts (.fieldLink RX5 10 "ChooseTreeModel" "classes" "Ljava/util/ArrayList;") (by decide +kernel)) (fun _ h9 => h9) rfl dX5_method_7 ?_
    obtain ⟨mcz2, gz2, hfz2, hgz2, hcz2⟩ := hM.ly.raw (b := (mt_c τ)) hM.c.1 hM.c.2
    refine va_calli (va_runV (As := []) (rest := [.int zx1]) ⟨hx, hb, hml, hown, hts⟩ (c_Jx4a65c_size_8abf5 l D cO mi L f (mt_c τ) hM.c.1 mcz2 (ls_dat (mt_ls τ) (mt_c τ)) (mt_cnt τ (mt_c τ)) hfz2) (cwV 0 hts gX5_method_Jx4a65c_size_8abf5 rfl rfl rfl (by decide +kernel) ⟨Nat.le_of_ble_eq_true rfl, Nat.le_of_ble_eq_true rfl⟩) (mP_V hK hP 0 rfl hM.c.1 hfz2) rfl rfl hl.1 rfl (lv_room (Nat.le_of_ble_eq_true rfl)) dX5_method_10 ⟨Nat.le_of_ble_eq_true rfl, Nat.le_of_ble_eq_true rfl⟩) hS (fun _ _ h => h.elim) (fun _ h => h.elim) (fun r_3 u t H1 locs ht hvm hw hB hz1 hk1 hS => ?_)
    replace hP := ro_kept hP hk1
    obtain rfl : r_3 = _ := hw
    clear hk1 hz1 hvm ht hB
    generalize H1 = H at hP hS ⊢
    rw [show (mt_cnt τ (mt_c τ)) = mt_n τ from hM.cs.1]
    clear hcz2 hgz2
    refine lv_iconst (v := (nI 1)) hx hb dX5_method_13 (by decide) ?_
    refine lv_isubN hx hb dX5_method_14 (by omega) ?_
    refine lv_icmp_eq (tgt := 21) hx hb dX5_method_15 (by decide) (fun c_4 => ?_) (fun c_4 => ?_)
    · subst c_4
      have hzi : mt_n τ - 1 < mt_n τ := by omega
      refine lv_aload_n hx hb dX5_method_21 rfl (lv_at hl 0 rfl) ?_
      refine pl_get (D := D) (ci := 6) (v := .ref (mt_c τ)) (C := RX5) (T := TX5) (N := 3) hx hb hts (by decide +kernel) hown hK.1 hP hM.x.1 hM.x.2 rfl 0 (by decide) (hts (.fieldLink RX5 10 "ChooseTreeModel" "classes" "Ljava/util/ArrayList;") (by decide +kernel)) (fun _ h9 => h9) rfl dX5_method_22 ?_
      refine lv_iload_n hx hb dX5_method_25 rfl (lv_at hl 1 rfl) ?_
      obtain ⟨mcz5, gz5, hfz5, hdz5, hfdz5, hcnz5, hcpz5, hgiz5⟩ := hM.ly.get (b := (mt_c τ)) (i := (mt_n τ - 1)) hM.c.1 hM.c.2 (show mt_n τ - 1 < (mt_cnt τ (mt_c τ)) from by rw [show (mt_cnt τ (mt_c τ)) = mt_n τ from hM.cs.1]; omega)
      replace hgiz5 : gz5 (mt_n τ - 1) = some (mt_ca τ (mt_n τ - 1)) := hgiz5.trans (congrArg some (hM.cs.2 (mt_n τ - 1) hzi))
      refine va_callq (va_runV (As := [.int (nI (mt_n τ - 1))]) (rest := []) ⟨hx, hb, hml, hown, hts⟩ (c_Jx4a65c_get_915e3 l D cO mi L f (mt_c τ) hM.c.1 mcz5 (ls_dat (mt_ls τ) (mt_c τ)) (mt_cnt τ (mt_c τ)) hfz5 hdz5 (ls_cap (mt_ls τ) (mt_c τ)) gz5 hfdz5 hcnz5 hcpz5 (mt_n τ - 1) (show mt_n τ - 1 < (mt_cnt τ (mt_c τ)) from by rw [show (mt_cnt τ (mt_c τ)) = mt_n τ from hM.cs.1]; omega)) (cwV 1 hts gX5_method_Jx4a65c_get_915e3 rfl rfl rfl (by decide +kernel) ⟨Nat.le_of_ble_eq_true rfl, Nat.le_of_ble_eq_true rfl⟩) (mP_V hK hP 0 rfl hM.c.1 hfz5) rfl rfl hl.1 rfl (lv_room (Nat.le_of_ble_eq_true rfl)) dX5_method_26 ⟨Nat.le_of_ble_eq_true rfl, Nat.le_of_ble_eq_true rfl⟩) hS (fun _ _ h => h.elim) (fun _ h => h.elim) (fun r_6 u t H1 locs ht hvm hw hB hz1 hk1 hS => ?_)
      replace hP := ro_kept hP hk1
      obtain rfl : r_6 = _ := hw
      clear hk1 hz1 hvm ht hB
      generalize H1 = H at hP hS ⊢
      rw [hgiz5]
      clear hgiz5 hfdz5 hdz5 hcnz5 hcpz5
      refine va_castY (C := RX3) hx hb hown (hts (.classLink RX5 19 RX3) (by decide +kernel)) hK.2.2.2.2.2.2.1 (pl_recv (ci := 4) hK.1 hP rfl (hM.cl hzi).1 (hM.cl hzi).2.1) dX5_method_29 ?_
      refine lv_astore (lv' := [(5, .ref (mt_ca τ (mt_n τ - 1))), (0, .ref (mt_x τ)), (1, .int (nI (mt_n τ - 1))), (2, .int zx2), (3, .int zx3), (4, .int zx4)]) hx hb dX5_method_32 hl (by decide) rfl (fun ls hl => ?_)
      refine lv_iload_n hx hb dX5_method_34 rfl (lv_at hl 3 rfl) ?_
      refine va_calli (va_runS (As := [.int zx2]) (rest := []) ⟨hx, hb, hml, hown, hts⟩ (c_X5_isName l D cO mi L f zx2) (va_cwS 1 hts gX5_method_X5_isName rfl rfl rfl (by decide +kernel) ⟨Nat.le_of_ble_eq_true rfl, Nat.le_of_ble_eq_true rfl⟩) (mP_S hK hP) rfl rfl hl.1 rfl (lv_room (Nat.le_of_ble_eq_true rfl)) dX5_method_35 ⟨Nat.le_of_ble_eq_true rfl, Nat.le_of_ble_eq_true rfl⟩) hS (fun _ _ h => h.elim) (fun _ h => h.elim) (fun r_7 u t H1 locs ht hvm hw hB hz1 hk1 hS => ?_)
      replace hP := ro_kept hP hk1
      obtain rfl : r_7 = _ := hw
      clear hk1 hz1 hvm ht hB
      generalize H1 = H at hP hS ⊢
      refine lv_if_eq (tgt := 71) hx hb dX5_method_38 (by decide) (fun c_8 => ?_) (fun c_8 => ?_)
      · replace c_8 := bI_0.mp c_8
        refine lv_iconst (v := (-1)) hx hb dX5_method_71 (by decide) ?_
        refine W.widen (k := 3) (n := 1207) (by first | exact Nat.le_refl _ | omega) (by first | exact Nat.le_refl _ | omega) ?_
        exact W.iret (v := (-1)) hx hb hr (fun t ht hW => ⟨⟨(-1), (L, f), rfl, ⟨⟨(by simp [t_metR, gr1, gr2, gr3, gr4, gr5, gr6, gr7, gr8, gr9, gr10, gr11, gr12, c_1, c_8]), Or.inl ⟨by decide, rfl, hM⟩⟩, hE⟩, show va_P D vwCl (va_pl _ _) t.heap from (by rw [ht]; exact hP)⟩, hS.F ht⟩) hS.2.2 dX5_method_72
      · replace c_8 := bI_n0.mp c_8
        refine lv_iload_n hx hb dX5_method_41 rfl (lv_at hl 4 rfl) ?_
        refine lv_if_lt (tgt := 71) hx hb dX5_method_42 (by decide) (fun c_9 => ?_) (fun c_9 => ?_)
        · refine lv_iconst (v := (-1)) hx hb dX5_method_71 (by decide) ?_
          refine W.widen (k := 3) (n := 1207) (by first | exact Nat.le_refl _ | omega) (by first | exact Nat.le_refl _ | omega) ?_
          exact W.iret (v := (-1)) hx hb hr (fun t ht hW => ⟨⟨(-1), (L, f), rfl, ⟨⟨(by simp [t_metR, gr1, gr2, gr3, gr4, gr5, gr6, gr7, gr8, gr9, gr10, gr11, gr12, c_1, c_8, c_9]), Or.inl ⟨by decide, rfl, hM⟩⟩, hE⟩, show va_P D vwCl (va_pl _ _) t.heap from (by rw [ht]; exact hP)⟩, hS.F ht⟩) hS.2.2 dX5_method_72
        · refine lv_iload_n hx hb dX5_method_45 rfl (lv_at hl 4 rfl) ?_
          refine lv_iconst (v := (nI 3)) hx hb dX5_method_46 (by decide) ?_
          refine lv_icmp_gt (tgt := 71) hx hb dX5_method_47 (by decide) (fun c_10 => ?_) (fun c_10 => ?_)
          · refine lv_iconst (v := (-1)) hx hb dX5_method_71 (by decide) ?_
            refine W.widen (k := 3) (n := 1207) (by first | exact Nat.le_refl _ | omega) (by first | exact Nat.le_refl _ | omega) ?_
            exact W.iret (v := (-1)) hx hb hr (fun t ht hW => ⟨⟨(-1), (L, f), rfl, ⟨⟨(by simp [t_metR, gr1, gr2, gr3, gr4, gr5, gr6, gr7, gr8, gr9, gr10, gr11, gr12, c_1, c_8, c_9, c_10]), Or.inl ⟨by decide, rfl, hM⟩⟩, hE⟩, show va_P D vwCl (va_pl _ _) t.heap from (by rw [ht]; exact hP)⟩, hS.F ht⟩) hS.2.2 dX5_method_72
          · refine lv_iload hx hb dX5_method_50 (lv_at hl 5 rfl) ?_
            refine lv_if_lt (tgt := 71) hx hb dX5_method_52 (by decide) (fun c_11 => ?_) (fun c_11 => ?_)
            · refine lv_iconst (v := (-1)) hx hb dX5_method_71 (by decide) ?_
              refine W.widen (k := 3) (n := 1207) (by first | exact Nat.le_refl _ | omega) (by first | exact Nat.le_refl _ | omega) ?_
              exact W.iret (v := (-1)) hx hb hr (fun t ht hW => ⟨⟨(-1), (L, f), rfl, ⟨⟨(by simp [t_metR, gr1, gr2, gr3, gr4, gr5, gr6, gr7, gr8, gr9, gr10, gr11, gr12, c_1, c_8, c_9, c_10, c_11]), Or.inl ⟨by decide, rfl, hM⟩⟩, hE⟩, show va_P D vwCl (va_pl _ _) t.heap from (by rw [ht]; exact hP)⟩, hS.F ht⟩) hS.2.2 dX5_method_72
            · refine lv_iload hx hb dX5_method_55 (lv_at hl 5 rfl) ?_
              refine lv_bipush (v := (nI 7)) hx hb dX5_method_57 (by decide) ?_
              refine lv_icmp_gt (tgt := 71) hx hb dX5_method_59 (by decide) (fun c_12 => ?_) (fun c_12 => ?_)
              · refine lv_iconst (v := (-1)) hx hb dX5_method_71 (by decide) ?_
                refine W.widen (k := 3) (n := 1207) (by first | exact Nat.le_refl _ | omega) (by first | exact Nat.le_refl _ | omega) ?_
                exact W.iret (v := (-1)) hx hb hr (fun t ht hW => ⟨⟨(-1), (L, f), rfl, ⟨⟨(by simp [t_metR, gr1, gr2, gr3, gr4, gr5, gr6, gr7, gr8, gr9, gr10, gr11, gr12, c_1, c_8, c_9, c_10, c_11, c_12]), Or.inl ⟨by decide, rfl, hM⟩⟩, hE⟩, show va_P D vwCl (va_pl _ _) t.heap from (by rw [ht]; exact hP)⟩, hS.F ht⟩) hS.2.2 dX5_method_72
              · refine lv_aload hx hb dX5_method_62 (lv_at hl 0 rfl) ?_
                refine lv_iload_n hx hb dX5_method_64 rfl (lv_at hl 3 rfl) ?_
                refine va_callq (va_runV (As := [.int zx2]) (rest := []) ⟨hx, hb, hml, hown, hts⟩ (c_X3_named l D cO mi L f e0 τ hM (mt_n τ - 1) hzi zx2) (cwV 1 hts gX5_method_X3_named rfl rfl rfl (by decide +kernel) ⟨Nat.le_of_ble_eq_true rfl, Nat.le_of_ble_eq_true rfl⟩) (mP_V hK hP 4 rfl (hM.cl hzi).1 (hM.cl hzi).2.1) rfl rfl hl.1 rfl (lv_room (Nat.le_of_ble_eq_true rfl)) dX5_method_65 ⟨Nat.le_of_ble_eq_true rfl, Nat.le_of_ble_eq_true rfl⟩) hS (fun _ _ h => h.elim) (fun _ h => h.elim) (fun r_13 u t H1 locs ht hvm hw hB hz1 hk1 hS => ?_)
                replace hP := ro_kept hP hk1
                obtain rfl : r_13 = _ := hw
                clear hk1 hz1 hvm ht hB
                generalize H1 = H at hP hS ⊢
                rcases htzj : t_idx τ (mt_n τ - 1) zx2 with _ | zj
                · rw [show t_named τ (mt_n τ - 1) zx2 = none by simp [t_named, htzj]]
                  refine lv_ifnullN (tgt := 73) hx hb dX5_method_68 (by decide) ?_
                  refine lv_iload hx hb dX5_method_73 (lv_at hl 5 rfl) ?_
                  refine lv_iconst (v := (nI 4)) hx hb dX5_method_75 (by decide) ?_
                  refine lv_icmp_gt (tgt := 90) hx hb dX5_method_76 (by decide) (fun c_14 => ?_) (fun c_14 => ?_)
                  · refine lv_iconst (v := (-1)) hx hb dX5_method_90 (by decide) ?_
                    refine W.widen (k := 3) (n := 1207) (by first | exact Nat.le_refl _ | omega) (by first | exact Nat.le_refl _ | omega) ?_
                    exact W.iret (v := (-1)) hx hb hr (fun t ht hW => ⟨⟨(-1), (L, f), rfl, ⟨⟨(by simp [t_metR, gr1, gr2, gr3, gr4, gr5, gr6, gr7, gr8, gr9, gr10, gr11, gr12, c_1, c_8, c_9, c_10, c_11, c_12, htzj, c_14]), Or.inl ⟨by decide, rfl, hM⟩⟩, hE⟩, show va_P D vwCl (va_pl _ _) t.heap from (by rw [ht]; exact hP)⟩, hS.F ht⟩) hS.2.2 dX5_method_91
                  · refine lv_iload hx hb dX5_method_79 (lv_at hl 5 rfl) ?_
                    refine lv_iconst (v := (nI 4)) hx hb dX5_method_81 (by decide) ?_
                    refine lv_icmp_ne (tgt := 92) hx hb dX5_method_82 (by decide) (fun c_15 => ?_) (fun c_15 => ?_)
                    · refine lv_aload hx hb dX5_method_92 (lv_at hl 0 rfl) ?_
                      refine pl_get (D := D) (ci := 4) (v := .int (mt_fc τ (mt_n τ - 1))) (C := RX3) (T := TX3) (N := 9) hx hb hts (by decide +kernel) hown hK.1 hP (hM.cl hzi).1 (hM.cl hzi).2.1 rfl 3 (by decide) (hts (.fieldLink RX5 42 "ChooseTreeModel$Cls" "isFace" "Z") (by decide +kernel)) (fun _ h9 => h9) rfl dX5_method_94 ?_
                      refine lv_if_eq (tgt := 118) hx hb dX5_method_97 (by decide) (fun c_16 => ?_) (fun c_16 => ?_)
                      · refine lv_aload_n hx hb dX5_method_118 rfl (lv_at hl 1 rfl) ?_
                        refine pl_get (D := D) (ci := 6) (v := .ref (mt_m τ)) (C := RX5) (T := TX5) (N := 3) hx hb hts (by decide +kernel) hown hK.1 hP hM.x.1 hM.x.2 rfl 1 (by decide) (hts (.fieldLink RX5 16 "ChooseTreeModel" "methods" "Ljava/util/ArrayList;") (by decide +kernel)) (fun _ h9 => h9) rfl dX5_method_119 ?_
                        obtain ⟨mcz17, gz17, hfz17, hgz17, hcz17⟩ := hM.ly.raw (b := (mt_m τ)) hM.m.1 hM.m.2
                        refine va_calli (va_runV (As := []) (rest := []) ⟨hx, hb, hml, hown, hts⟩ (c_Jx4a65c_size_8abf5 l D cO mi L f (mt_m τ) hM.m.1 mcz17 (ls_dat (mt_ls τ) (mt_m τ)) (mt_cnt τ (mt_m τ)) hfz17) (cwV 0 hts gX5_method_Jx4a65c_size_8abf5 rfl rfl rfl (by decide +kernel) ⟨Nat.le_of_ble_eq_true rfl, Nat.le_of_ble_eq_true rfl⟩) (mP_V hK hP 0 rfl hM.m.1 hfz17) rfl rfl hl.1 rfl (lv_room (Nat.le_of_ble_eq_true rfl)) dX5_method_122 ⟨Nat.le_of_ble_eq_true rfl, Nat.le_of_ble_eq_true rfl⟩) hS (fun _ _ h => h.elim) (fun _ h => h.elim) (fun r_18 u t H1 locs ht hvm hw hB hz1 hk1 hS => ?_)
                        replace hP := ro_kept hP hk1
                        obtain rfl : r_18 = _ := hw
                        clear hk1 hz1 hvm ht hB
                        generalize H1 = H at hP hS ⊢
                        rw [show (mt_cnt τ (mt_m τ)) = mt_mn τ from hM.ms.1]
                        clear hcz17 hgz17
                        refine lv_sipush (v := (nI 400)) hx hb dX5_method_125 (by decide) ?_
                        refine lv_icmp_ne (tgt := 134) hx hb dX5_method_128 (by decide) (fun c_19 => ?_) (fun c_19 => ?_)
                        · have hn4 : mt_mn τ < 400 := by have h60 : ¬ mt_mn τ = 400 := fun e => absurd (congrArg nI e) c_19; omega
                          refine pl_new (D := D) (ci := 5) (fs := [.int 0, .int 0, .int 0, .null, .int 0, .int 0, .int 0]) (C := RX4) (T := TX4) (N := 7) hx hb hts (by decide +kernel) tyX4 tyX4_ok hown (hts (.classLink RX5 36 RX4) (by decide +kernel)) (hts (.instantiable RX4 7) (by decide +kernel)) (hts (.initialized RX4) (by decide +kernel)) hK.1 hP hD hS hA rfl (by decide) (Nat.le_of_ble_eq_true rfl) (Nat.le_of_ble_eq_true rfl) dX5_method_134 (fun q134 H hq hAq hP hS => ?_)
                          have hqs : sz ≤ q134 := hAq.resolve_left (fun z => hq (hE.mem z))
                          obtain ⟨f20, hf20⟩ : ∃ z, z = va_up f q134 (.inr (5, [.int 0, .int 0, .int 0, .null, .int 0, .int 0, .int 0])) := ⟨_, rfl⟩
                          rw [← hf20] at hP
                          have F_mt_xτ_20 : f20 (mt_x τ) = .inr (6, [.ref (mt_c τ), .ref (mt_m τ), .int (mt_mark τ)]) := by rw [hf20, va_up_ne _ _ (show (mt_x τ) ≠ q134 from fun e9 => hq (e9 ▸ hM.x.1))]; exact hM.x.2
                          have M_mt_xτ_20 := List.mem_append_left [q134] hM.x.1
                          have F_mt_cτ_20 : f20 (mt_c τ) = .inr (0, [.int mcz5, .ref (ls_dat (mt_ls τ) (mt_c τ)), .int (nI (mt_cnt τ (mt_c τ)))]) := by rw [hf20, va_up_ne _ _ (show (mt_c τ) ≠ q134 from fun e9 => hq (e9 ▸ hM.c.1))]; exact hfz5
                          have M_mt_cτ_20 := List.mem_append_left [q134] hM.c.1
                          have F_mt_caτmt_nτ1_20 : f20 (mt_ca τ (mt_n τ - 1)) = .inr (4, [.int (nI (mt_n τ - 1)), .int (mt_pk τ (mt_n τ - 1)), va_rf ((mt_pr τ (mt_n τ - 1)).map (mt_ca τ)), .int (mt_fc τ (mt_n τ - 1)), .ref (mt_fa τ (mt_n τ - 1)), .ref (mt_ma τ (mt_n τ - 1)), .ref (mt_aa τ (mt_n τ - 1)), .int (mt_pt τ (mt_n τ - 1)), .int (mt_mk τ (mt_n τ - 1))]) := by rw [hf20, va_up_ne _ _ (show (mt_ca τ (mt_n τ - 1)) ≠ q134 from fun e9 => hq (e9 ▸ (hM.cl hzi).1))]; exact (hM.cl hzi).2.1
                          have M_mt_caτmt_nτ1_20 := List.mem_append_left [q134] (hM.cl hzi).1
                          have F_mt_mτ_20 : f20 (mt_m τ) = .inr (0, [.int mcz17, .ref (ls_dat (mt_ls τ) (mt_m τ)), .int (nI (mt_cnt τ (mt_m τ)))]) := by rw [hf20, va_up_ne _ _ (show (mt_m τ) ≠ q134 from fun e9 => hq (e9 ▸ hM.m.1))]; exact hfz17
                          have M_mt_mτ_20 := List.mem_append_left [q134] hM.m.1
                          have F_q134_20 : f20 q134 = .inr (5, [.int 0, .int 0, .int 0, .null, .int 0, .int 0, .int 0]) := by rw [hf20]; exact va_up_self _ _ _
                          have M_q134_20 : q134 ∈ L ++ [q134] := List.mem_append_right _ (List.mem_singleton.mpr rfl)
                          replace hE : pext L sz (L ++ [q134]) := hE.tr (Nat.le_refl _) (pext.one hE.nd hq hqs)
                          have hD : va_D (mA L sz) (va_pl (L ++ [q134]) f20) := hE.D
                          have hqq134 := hq
                          have hqsq134 := hqs
                          clear hq hqs hAq
                          refine lv_dup hx hb dX5_method_137 rfl ?_
                          refine lv_aload_n hx hb dX5_method_138 rfl (lv_at hl 1 rfl) ?_
                          refine pl_get (D := D) (ci := 6) (v := .ref (mt_m τ)) (C := RX5) (T := TX5) (N := 3) hx hb hts (by decide +kernel) hown hK.1 hP M_mt_xτ_20 F_mt_xτ_20 rfl 1 (by decide) (hts (.fieldLink RX5 16 "ChooseTreeModel" "methods" "Ljava/util/ArrayList;") (by decide +kernel)) (fun _ h9 => h9) rfl dX5_method_139 ?_
                          refine va_calli (va_runV (As := []) (rest := [.ref q134, .ref q134]) ⟨hx, hb, hml, hown, hts⟩ (c_Jx4a65c_size_8abf5 l D cO mi (L ++ [q134]) f20 (mt_m τ) M_mt_mτ_20 mcz17 (ls_dat (mt_ls τ) (mt_m τ)) (mt_cnt τ (mt_m τ)) F_mt_mτ_20) (cwV 0 hts gX5_method_Jx4a65c_size_8abf5 rfl rfl rfl (by decide +kernel) ⟨Nat.le_of_ble_eq_true rfl, Nat.le_of_ble_eq_true rfl⟩) (mP_V hK hP 0 rfl M_mt_mτ_20 F_mt_mτ_20) rfl rfl hl.1 rfl (lv_room (Nat.le_of_ble_eq_true rfl)) dX5_method_142 ⟨Nat.le_of_ble_eq_true rfl, Nat.le_of_ble_eq_true rfl⟩) hS (fun _ _ h => h.elim) (fun _ h => h.elim) (fun r_21 u t H1 locs ht hvm hw hB hz1 hk1 hS => ?_)
                          replace hP := ro_kept hP hk1
                          obtain rfl : r_21 = _ := hw
                          clear hk1 hz1 hvm ht hB
                          generalize H1 = H at hP hS ⊢
                          rw [show (mt_cnt τ (mt_m τ)) = mt_mn τ from hM.ms.1]
                          refine lv_aload hx hb dX5_method_145 (lv_at hl 0 rfl) ?_
                          refine lv_iload_n hx hb dX5_method_147 rfl (lv_at hl 3 rfl) ?_
                          refine lv_iload_n hx hb dX5_method_148 rfl (lv_at hl 4 rfl) ?_
                          refine lv_iload hx hb dX5_method_149 (lv_at hl 5 rfl) ?_
                          have hszH : sz ≤ H.size := by have := hS.1; omega
                          have hPold := hP
                          refine va_callv (va_runI (As := [.int (nI (mt_mn τ)), .ref (mt_ca τ (mt_n τ - 1)), .int zx2, .int zx3, .int zx4]) (rest := [.ref q134]) ⟨hx, hb, hml, hown, hts⟩ (c_X4_init l D cO mi e0 (L ++ [q134]) f20 H.size hE.nd q134 M_q134_20 (nI (mt_mn τ)) (mt_ca τ (mt_n τ - 1)) zx2 zx3 zx4 F_q134_20) (cwI 5 hts gX5_method_X4_init rfl rfl rfl (hts (.initialized RX4) (by decide +kernel)) (hts (.methodLink RX5 62 yX4_init) (by decide +kernel)) (hts (.instanceMethod yX4_init) (by decide +kernel)) rfl (by decide +kernel) ⟨Nat.le_of_ble_eq_true rfl, Nat.le_of_ble_eq_true rfl⟩) (mW_S hK hJ hS (hE.sub (by have := hS.1; omega)) hP) rfl rfl hl.1 rfl (lv_room (Nat.le_of_ble_eq_true rfl)) dX5_method_151 ⟨Nat.le_of_ble_eq_true rfl, Nat.le_of_ble_eq_true rfl⟩) hS (fun q _ h => (hE.sub (by have := hS.1; omega)) q h) (hE.sub (by have := hS.1; omega)) (fun u t H1 locs ht hvm hw hB hz1 hk1 hS => ?_)
                          obtain ⟨L22, f22⟩ := u
                          obtain ⟨hw, hE1⟩ := hw
                          replace hB : va_P D vwCl (va_pl L22 f22) t.heap := hB
                          rw [ht] at hB
                          replace hE : pext L sz L22 := hE.tr (hszH) hE1
                          obtain ⟨hL1, hf22⟩ := Prod.mk.inj hw
                          replace hL1 : L22 = L ++ [q134] := hL1
                          subst hL1
                          have he8 : e0 < sz := hJ.lt.2
                          have hcq : f22 q134 = .inr (5, [.int (nI (mt_mn τ)), .int zx2, .int zx3, .ref (mt_ca τ (mt_n τ - 1)), .int (t_fl1 zx4), .int (t_fl2 zx4), .int (t_fl3 zx4)]) := by rw [hf22]; exact va_up_self _ _ _
                          have hM1 : MI e0 cO (L ++ [q134]) f22 (mt_setls τ (ls_ext (mt_ls τ) [q134] e0)) := hM.newM ⟨hqq134, by omega⟩ hcq (fun y hy => by have hne : y ≠ q134 := fun e9 => hqq134 (e9 ▸ hy); rw [hf22, va_up_ne _ _ hne, hf20, va_up_ne _ _ hne])
                          have hmq : mobj (L ++ [q134]) f22 q134 := ⟨by simp, 5, _, hcq, Or.inr rfl⟩
                          have hx9 : f22 (mt_x τ) = .inr (6, [.ref (mt_c τ), .ref (mt_m τ), .int (mt_mark τ)]) := hM1.x.2
                          have hx8 : mt_x τ ∈ L ++ [q134] := hM1.x.1
                          clear hPold hP hk1 hz1 hvm ht hszH hE1
                          have hP := hB
                          clear hB
                          generalize H1 = H at hP hS ⊢
                          have hD : va_D (mA L sz) (va_pl (L ++ [q134]) f22) := hE.D
                          refine lv_astore (lv' := [(6, .ref q134), (5, .ref (mt_ca τ (mt_n τ - 1))), (0, .ref (mt_x τ)), (1, .int (nI (mt_n τ - 1))), (2, .int zx2), (3, .int zx3), (4, .int zx4)]) hx hb dX5_method_154 hl (by decide) rfl (fun ls hl => ?_)
                          refine lv_aload_n hx hb dX5_method_156 rfl (lv_at hl 2 rfl) ?_
                          refine pl_get (D := D) (ci := 6) (v := .ref (mt_m τ)) (C := RX5) (T := TX5) (N := 3) hx hb hts (by decide +kernel) hown hK.1 hP hx8 hx9 rfl 1 (by decide) (hts (.fieldLink RX5 16 "ChooseTreeModel" "methods" "Ljava/util/ArrayList;") (by decide +kernel)) (fun _ h9 => h9) rfl dX5_method_157 ?_
                          refine lv_aload hx hb dX5_method_160 (lv_at hl 0 rfl) ?_
                          obtain ⟨mcA, gA, hfA, hgA, hcA⟩ := hM1.ly.raw (b := (mt_m τ)) hM1.m.1 hM1.m.2
                          have hszH : sz ≤ H.size := by have := hS.1; omega
                          have hPold := hP
                          refine va_calli (va_runV (As := [.ref q134]) (rest := []) ⟨hx, hb, hml, hown, hts⟩ (c_Jx4a65c_addU l D cO mi e0 (L ++ [q134]) f22 H.size hE.nd (mt_m τ) hM1.m.1 mcA (ls_dat (ls_ext (mt_ls τ) [q134] e0) (mt_m τ)) (ls_cnt (ls_ext (mt_ls τ) [q134] e0) (mt_m τ)) hfA q134 hmq (ls_cap (ls_ext (mt_ls τ) [q134] e0) (mt_m τ)) (ls_grow (ls_ext (mt_ls τ) [q134] e0) (mt_m τ)) gA hgA 600 (ls_grow_le (K := 400) (show ls_cnt (ls_ext (mt_ls τ) [q134] e0) (mt_m τ) < 400 from Nat.lt_of_le_of_lt (Nat.le_of_eq hM1.ms.1) hn4) (by omega))) (cwV 1 hts gX5_method_Jx4a65c_add_9ea2d rfl rfl rfl (by decide +kernel) ⟨Nat.le_of_ble_eq_true rfl, Nat.le_of_ble_eq_true rfl⟩) (mW_V hK hJ hS (hE.sub (by have := hS.1; omega)) hP 0 rfl hM1.m.1 hfA) rfl rfl hl.1 rfl (lv_room (Nat.le_of_ble_eq_true rfl)) dX5_method_162 ⟨Nat.le_of_ble_eq_true rfl, Nat.le_of_ble_eq_true rfl⟩) hS (fun q _ h => (hE.sub (by have := hS.1; omega)) q h) (hE.sub (by have := hS.1; omega)) (fun r_23 u t H1 locs ht hvm hw hB hz1 hk1 hS => ?_)
                          obtain ⟨L23, f23⟩ := u
                          obtain ⟨hw, hE1⟩ := hw
                          replace hB : va_P D vwCl (va_pl L23 f23) t.heap := hB
                          rw [ht] at hB
                          replace hE : pext L sz L23 := hE.tr (hszH) hE1
                          have he9 : e0 < H.size := Nat.lt_of_lt_of_le hJ.lt.2 hszH
                          obtain ⟨hr1, hw⟩ := hw
                          subst hr1
                          obtain ⟨d2, n2, hM2⟩ := hM1.addM hn4 (q := q134) (ow := (mt_n τ - 1)) (nm := zx2) (si := zx3) (st := t_fl1 zx4) (fi := t_fl2 zx4) (ab := t_fl3 zx4) hmq.1 hcq hzi hfA hcA he9 hE1 hw
                          replace hM2 : MI e0 cO L23 f23 (mt_setls (mt_addm τ q134 zx2 zx3 (mt_n τ - 1) (t_fl1 zx4) (t_fl2 zx4) (t_fl3 zx4)) (ls_add (ls_ext (mt_ls τ) [q134] e0) (mt_m τ) q134 d2 n2)) := hM2
                          have hja : mt_ja (mt_setls (mt_addm τ q134 zx2 zx3 (mt_n τ - 1) (t_fl1 zx4) (t_fl2 zx4) (t_fl3 zx4)) (ls_add (ls_ext (mt_ls τ) [q134] e0) (mt_m τ) q134 d2 n2)) (mt_mn τ) = q134 := va_up_self _ _ _
                          have hme := hM2.me (j := mt_mn τ) (Nat.lt_succ_self _)
                          rw [MIm, hja] at hme
                          have hcq2 : f23 q134 = .inr (5, [.int (nI (mt_mn τ)), .int zx2, .int zx3, .ref (mt_ca τ (mt_n τ - 1)), .int (t_fl1 zx4), .int (t_fl2 zx4), .int (t_fl3 zx4)]) := by rw [hme.2.1]; simp only [mt_setls, mt_addm, mt_nm, mt_si, mt_ow, mt_st, mt_fi, mt_ab, va_up_self]
                          have hc9 : f23 (mt_ca τ (mt_n τ - 1)) = .inr (4, [.int (nI (mt_n τ - 1)), .int (mt_pk τ (mt_n τ - 1)), va_rf ((mt_pr τ (mt_n τ - 1)).map (mt_ca τ)), .int (mt_fc τ (mt_n τ - 1)), .ref (mt_fa τ (mt_n τ - 1)), .ref (mt_ma τ (mt_n τ - 1)), .ref (mt_aa τ (mt_n τ - 1)), .int (mt_pt τ (mt_n τ - 1)), .int (mt_mk τ (mt_n τ - 1))]) := (hM2.cl hzi).2.1
                          have hc8 : mt_ca τ (mt_n τ - 1) ∈ L23 := (hM2.cl hzi).1
                          have hct : ls_cnt (ls_add (ls_ext (mt_ls τ) [q134] e0) (mt_m τ) q134 d2 n2) (mt_ma τ (mt_n τ - 1)) ≤ mt_mn τ := by rw [(ls_add_ne (ls_ext (mt_ls τ) [q134] e0) (x := q134) (d2 := d2) (n2 := n2) (hM.maNm hzi)).1, show ls_cnt (ls_ext (mt_ls τ) [q134] e0) (mt_ma τ (mt_n τ - 1)) = ls_cnt (mt_ls τ) (mt_ma τ (mt_n τ - 1)) from if_neg (fun z => hqq134 (by rw [← List.mem_singleton.mp z]; exact (hM.ma hzi).1))]; exact (hM.cl hzi).2.2.2.2.1.1
                          have hmq2 : mobj L23 f23 q134 := ⟨hme.1, 5, _, hcq2, Or.inr rfl⟩
                          clear hfA hcA hgA hw
                          have hma : (mt_ma τ (mt_n τ - 1)) ∈ L23 ∧ isAL f23 (mt_ma τ (mt_n τ - 1)) := hM2.ma hzi
                          clear he9
                          clear hPold hP hk1 hz1 hvm ht hszH hE1
                          have hP := hB
                          clear hB
                          generalize H1 = H at hP hS ⊢
                          have hD : va_D (mA L sz) (va_pl L23 f23) := hE.D
                          refine lv_pop hx hb dX5_method_165 rfl ?_
                          refine lv_aload hx hb dX5_method_166 (lv_at hl 1 rfl) ?_
                          refine pl_get (D := D) (ci := 4) (v := .ref (mt_ma τ (mt_n τ - 1))) (C := RX3) (T := TX3) (N := 9) hx hb hts (by decide +kernel) hown hK.1 hP hc8 hc9 rfl 5 (by decide) (hts (.fieldLink RX5 46 "ChooseTreeModel$Cls" "methods" "Ljava/util/ArrayList;") (by decide +kernel)) (fun _ h9 => h9) rfl dX5_method_168 ?_
                          refine lv_aload hx hb dX5_method_171 (lv_at hl 0 rfl) ?_
                          obtain ⟨mcA, gA, hfA, hgA, hcA⟩ := hM2.ly.raw (b := (mt_ma τ (mt_n τ - 1))) hma.1 hma.2
                          have hszH : sz ≤ H.size := by have := hS.1; omega
                          have hPold := hP
                          refine va_calli (va_runV (As := [.ref q134]) (rest := []) ⟨hx, hb, hml, hown, hts⟩ (c_Jx4a65c_addU l D cO mi e0 L23 f23 H.size hE.nd (mt_ma τ (mt_n τ - 1)) hma.1 mcA (ls_dat (ls_add (ls_ext (mt_ls τ) [q134] e0) (mt_m τ) q134 d2 n2) (mt_ma τ (mt_n τ - 1))) (ls_cnt (ls_add (ls_ext (mt_ls τ) [q134] e0) (mt_m τ) q134 d2 n2) (mt_ma τ (mt_n τ - 1))) hfA q134 hmq2 (ls_cap (ls_add (ls_ext (mt_ls τ) [q134] e0) (mt_m τ) q134 d2 n2) (mt_ma τ (mt_n τ - 1))) (ls_grow (ls_add (ls_ext (mt_ls τ) [q134] e0) (mt_m τ) q134 d2 n2) (mt_ma τ (mt_n τ - 1))) gA hgA 600 (ls_grow_le (K := 400) (show ls_cnt (ls_add (ls_ext (mt_ls τ) [q134] e0) (mt_m τ) q134 d2 n2) (mt_ma τ (mt_n τ - 1)) < 400 from Nat.lt_of_le_of_lt hct hn4) (by omega))) (cwV 1 hts gX5_method_Jx4a65c_add_9ea2d rfl rfl rfl (by decide +kernel) ⟨Nat.le_of_ble_eq_true rfl, Nat.le_of_ble_eq_true rfl⟩) (mW_V hK hJ hS (hE.sub (by have := hS.1; omega)) hP 0 rfl hma.1 hfA) rfl rfl hl.1 rfl (lv_room (Nat.le_of_ble_eq_true rfl)) dX5_method_173 ⟨Nat.le_of_ble_eq_true rfl, Nat.le_of_ble_eq_true rfl⟩) hS (fun q _ h => (hE.sub (by have := hS.1; omega)) q h) (hE.sub (by have := hS.1; omega)) (fun r_24 u t H1 locs ht hvm hw hB hz1 hk1 hS => ?_)
                          obtain ⟨L24, f24⟩ := u
                          obtain ⟨hw, hE1⟩ := hw
                          replace hB : va_P D vwCl (va_pl L24 f24) t.heap := hB
                          rw [ht] at hB
                          replace hE : pext L sz L24 := hE.tr (hszH) hE1
                          have he9 : e0 < H.size := Nat.lt_of_lt_of_le hJ.lt.2 hszH
                          obtain ⟨hr1, hw⟩ := hw
                          subst hr1
                          obtain ⟨d3, n3, hM3⟩ := hM2.addN (i := (mt_n τ - 1)) (k := mt_mn τ) hzi (Nat.lt_succ_self _) hfA hcA he9 hE1 (Nat.lt_succ_of_le hct) (by rw [hja]; exact hw)
                          rw [hja] at hM3
                          replace hM3 : MI e0 cO L24 f24 (mt_setls (mt_setml (mt_addm τ q134 zx2 zx3 (mt_n τ - 1) (t_fl1 zx4) (t_fl2 zx4) (t_fl3 zx4)) (va_up (mt_ml τ) (mt_n τ - 1) (va_up (mt_ml τ (mt_n τ - 1)) (ls_cnt (ls_add (ls_ext (mt_ls τ) [q134] e0) (mt_m τ) q134 d2 n2) (mt_ma τ (mt_n τ - 1))) (mt_mn τ)))) (ls_add (ls_add (ls_ext (mt_ls τ) [q134] e0) (mt_m τ) q134 d2 n2) (mt_ma τ (mt_n τ - 1)) q134 d3 n3)) := hM3
                          have hme3 := hM3.me (j := mt_mn τ) (Nat.lt_succ_self _)
                          have hja3 : mt_ja (mt_setls (mt_setml (mt_addm τ q134 zx2 zx3 (mt_n τ - 1) (t_fl1 zx4) (t_fl2 zx4) (t_fl3 zx4)) (va_up (mt_ml τ) (mt_n τ - 1) (va_up (mt_ml τ (mt_n τ - 1)) (ls_cnt (ls_add (ls_ext (mt_ls τ) [q134] e0) (mt_m τ) q134 d2 n2) (mt_ma τ (mt_n τ - 1))) (mt_mn τ)))) (ls_add (ls_add (ls_ext (mt_ls τ) [q134] e0) (mt_m τ) q134 d2 n2) (mt_ma τ (mt_n τ - 1)) q134 d3 n3)) (mt_mn τ) = q134 := va_up_self _ _ _
                          rw [MIm, hja3] at hme3
                          have hcq3 : f24 q134 = .inr (5, [.int (nI (mt_mn τ)), .int zx2, .int zx3, .ref (mt_ca τ (mt_n τ - 1)), .int (t_fl1 zx4), .int (t_fl2 zx4), .int (t_fl3 zx4)]) := by rw [hme3.2.1]; simp only [mt_setls, mt_setml, mt_addm, mt_nm, mt_si, mt_ow, mt_st, mt_fi, mt_ab, va_up_self]
                          clear he9
                          clear hPold hP hk1 hz1 hvm ht hszH hE1
                          have hP := hB
                          clear hB
                          generalize H1 = H at hP hS ⊢
                          have hD : va_D (mA L sz) (va_pl L24 f24) := hE.D
                          refine lv_pop hx hb dX5_method_176 rfl ?_
                          refine lv_aload hx hb dX5_method_177 (lv_at hl 0 rfl) ?_
                          refine pl_get (D := D) (ci := 5) (v := .int (nI (mt_mn τ))) (C := RX4) (T := TX4) (N := 7) hx hb hts (by decide +kernel) hown hK.1 hP hme3.1 hcq3 rfl 0 (by decide) (hts (.fieldLink RX5 65 "ChooseTreeModel$Met" "number" "I") (by decide +kernel)) (fun _ h9 => h9) rfl dX5_method_179 ?_
                          refine W.widen (k := 3) (n := 1207) (by first | exact Nat.le_refl _ | omega) (by first | exact Nat.le_refl _ | omega) ?_
                          exact W.iret (v := (nI (mt_mn τ))) hx hb hr (fun t ht hW => ⟨⟨(nI (mt_mn τ)), (L24, f24), rfl, ⟨⟨(by simp [t_metR, gr1, gr2, gr3, gr4, gr5, gr6, gr7, gr8, gr9, gr10, gr11, gr12, c_1, c_8, c_9, c_10, c_11, c_12, htzj, c_14, c_15, c_16, c_19]), Or.inr ⟨rfl, hn4, rfl, q134, d2, n2, d3, n3, hM3, hqq134⟩⟩, hE⟩, show va_P D vwCl (va_pl _ _) t.heap from (by rw [ht]; exact hP)⟩, hS.F ht⟩) hS.2.2 dX5_method_182
                        · refine lv_bipush (v := (-12)) hx hb dX5_method_131 (by decide) ?_
                          refine W.widen (k := 3) (n := 1207) (by first | exact Nat.le_refl _ | omega) (by first | exact Nat.le_refl _ | omega) ?_
                          exact W.iret (v := (-12)) hx hb hr (fun t ht hW => ⟨⟨(-12), (L, f), rfl, ⟨⟨(by simp [t_metR, gr1, gr2, gr3, gr4, gr5, gr6, gr7, gr8, gr9, gr10, gr11, gr12, c_1, c_8, c_9, c_10, c_11, c_12, htzj, c_14, c_15, c_16, c_19]), Or.inl ⟨by decide, rfl, hM⟩⟩, hE⟩, show va_P D vwCl (va_pl _ _) t.heap from (by rw [ht]; exact hP)⟩, hS.F ht⟩) hS.2.2 dX5_method_133
                      · refine lv_iload_n hx hb dX5_method_100 rfl (lv_at hl 4 rfl) ?_
                        refine lv_iconst (v := (nI 1)) hx hb dX5_method_101 (by decide) ?_
                        refine lv_icmp_ne (tgt := 116) hx hb dX5_method_102 (by decide) (fun c_25 => ?_) (fun c_25 => ?_)
                        · refine lv_iconst (v := (-1)) hx hb dX5_method_116 (by decide) ?_
                          refine W.widen (k := 3) (n := 1207) (by first | exact Nat.le_refl _ | omega) (by first | exact Nat.le_refl _ | omega) ?_
                          exact W.iret (v := (-1)) hx hb hr (fun t ht hW => ⟨⟨(-1), (L, f), rfl, ⟨⟨(by simp [t_metR, gr1, gr2, gr3, gr4, gr5, gr6, gr7, gr8, gr9, gr10, gr11, gr12, c_1, c_8, c_9, c_10, c_11, c_12, htzj, c_14, c_15, c_16, c_25]), Or.inl ⟨by decide, rfl, hM⟩⟩, hE⟩, show va_P D vwCl (va_pl _ _) t.heap from (by rw [ht]; exact hP)⟩, hS.F ht⟩) hS.2.2 dX5_method_117
                        · refine lv_iload hx hb dX5_method_105 (lv_at hl 5 rfl) ?_
                          refine lv_if_eq (tgt := 118) hx hb dX5_method_107 (by decide) (fun c_26 => ?_) (fun c_26 => ?_)
                          · refine lv_aload_n hx hb dX5_method_118 rfl (lv_at hl 1 rfl) ?_
                            refine pl_get (D := D) (ci := 6) (v := .ref (mt_m τ)) (C := RX5) (T := TX5) (N := 3) hx hb hts (by decide +kernel) hown hK.1 hP hM.x.1 hM.x.2 rfl 1 (by decide) (hts (.fieldLink RX5 16 "ChooseTreeModel" "methods" "Ljava/util/ArrayList;") (by decide +kernel)) (fun _ h9 => h9) rfl dX5_method_119 ?_
                            obtain ⟨mcz27, gz27, hfz27, hgz27, hcz27⟩ := hM.ly.raw (b := (mt_m τ)) hM.m.1 hM.m.2
                            refine va_calli (va_runV (As := []) (rest := []) ⟨hx, hb, hml, hown, hts⟩ (c_Jx4a65c_size_8abf5 l D cO mi L f (mt_m τ) hM.m.1 mcz27 (ls_dat (mt_ls τ) (mt_m τ)) (mt_cnt τ (mt_m τ)) hfz27) (cwV 0 hts gX5_method_Jx4a65c_size_8abf5 rfl rfl rfl (by decide +kernel) ⟨Nat.le_of_ble_eq_true rfl, Nat.le_of_ble_eq_true rfl⟩) (mP_V hK hP 0 rfl hM.m.1 hfz27) rfl rfl hl.1 rfl (lv_room (Nat.le_of_ble_eq_true rfl)) dX5_method_122 ⟨Nat.le_of_ble_eq_true rfl, Nat.le_of_ble_eq_true rfl⟩) hS (fun _ _ h => h.elim) (fun _ h => h.elim) (fun r_28 u t H1 locs ht hvm hw hB hz1 hk1 hS => ?_)
                            replace hP := ro_kept hP hk1
                            obtain rfl : r_28 = _ := hw
                            clear hk1 hz1 hvm ht hB
                            generalize H1 = H at hP hS ⊢
                            rw [show (mt_cnt τ (mt_m τ)) = mt_mn τ from hM.ms.1]
                            clear hcz27 hgz27
                            refine lv_sipush (v := (nI 400)) hx hb dX5_method_125 (by decide) ?_
                            refine lv_icmp_ne (tgt := 134) hx hb dX5_method_128 (by decide) (fun c_29 => ?_) (fun c_29 => ?_)
                            · have hn4 : mt_mn τ < 400 := by have h60 : ¬ mt_mn τ = 400 := fun e => absurd (congrArg nI e) c_29; omega
                              refine pl_new (D := D) (ci := 5) (fs := [.int 0, .int 0, .int 0, .null, .int 0, .int 0, .int 0]) (C := RX4) (T := TX4) (N := 7) hx hb hts (by decide +kernel) tyX4 tyX4_ok hown (hts (.classLink RX5 36 RX4) (by decide +kernel)) (hts (.instantiable RX4 7) (by decide +kernel)) (hts (.initialized RX4) (by decide +kernel)) hK.1 hP hD hS hA rfl (by decide) (Nat.le_of_ble_eq_true rfl) (Nat.le_of_ble_eq_true rfl) dX5_method_134 (fun q134 H hq hAq hP hS => ?_)
                              have hqs : sz ≤ q134 := hAq.resolve_left (fun z => hq (hE.mem z))
                              obtain ⟨f30, hf30⟩ : ∃ z, z = va_up f q134 (.inr (5, [.int 0, .int 0, .int 0, .null, .int 0, .int 0, .int 0])) := ⟨_, rfl⟩
                              rw [← hf30] at hP
                              have F_mt_xτ_30 : f30 (mt_x τ) = .inr (6, [.ref (mt_c τ), .ref (mt_m τ), .int (mt_mark τ)]) := by rw [hf30, va_up_ne _ _ (show (mt_x τ) ≠ q134 from fun e9 => hq (e9 ▸ hM.x.1))]; exact hM.x.2
                              have M_mt_xτ_30 := List.mem_append_left [q134] hM.x.1
                              have F_mt_cτ_30 : f30 (mt_c τ) = .inr (0, [.int mcz5, .ref (ls_dat (mt_ls τ) (mt_c τ)), .int (nI (mt_cnt τ (mt_c τ)))]) := by rw [hf30, va_up_ne _ _ (show (mt_c τ) ≠ q134 from fun e9 => hq (e9 ▸ hM.c.1))]; exact hfz5
                              have M_mt_cτ_30 := List.mem_append_left [q134] hM.c.1
                              have F_mt_caτmt_nτ1_30 : f30 (mt_ca τ (mt_n τ - 1)) = .inr (4, [.int (nI (mt_n τ - 1)), .int (mt_pk τ (mt_n τ - 1)), va_rf ((mt_pr τ (mt_n τ - 1)).map (mt_ca τ)), .int (mt_fc τ (mt_n τ - 1)), .ref (mt_fa τ (mt_n τ - 1)), .ref (mt_ma τ (mt_n τ - 1)), .ref (mt_aa τ (mt_n τ - 1)), .int (mt_pt τ (mt_n τ - 1)), .int (mt_mk τ (mt_n τ - 1))]) := by rw [hf30, va_up_ne _ _ (show (mt_ca τ (mt_n τ - 1)) ≠ q134 from fun e9 => hq (e9 ▸ (hM.cl hzi).1))]; exact (hM.cl hzi).2.1
                              have M_mt_caτmt_nτ1_30 := List.mem_append_left [q134] (hM.cl hzi).1
                              have F_mt_mτ_30 : f30 (mt_m τ) = .inr (0, [.int mcz27, .ref (ls_dat (mt_ls τ) (mt_m τ)), .int (nI (mt_cnt τ (mt_m τ)))]) := by rw [hf30, va_up_ne _ _ (show (mt_m τ) ≠ q134 from fun e9 => hq (e9 ▸ hM.m.1))]; exact hfz27
                              have M_mt_mτ_30 := List.mem_append_left [q134] hM.m.1
                              have F_q134_30 : f30 q134 = .inr (5, [.int 0, .int 0, .int 0, .null, .int 0, .int 0, .int 0]) := by rw [hf30]; exact va_up_self _ _ _
                              have M_q134_30 : q134 ∈ L ++ [q134] := List.mem_append_right _ (List.mem_singleton.mpr rfl)
                              replace hE : pext L sz (L ++ [q134]) := hE.tr (Nat.le_refl _) (pext.one hE.nd hq hqs)
                              have hD : va_D (mA L sz) (va_pl (L ++ [q134]) f30) := hE.D
                              have hqq134 := hq
                              have hqsq134 := hqs
                              clear hq hqs hAq
                              refine lv_dup hx hb dX5_method_137 rfl ?_
                              refine lv_aload_n hx hb dX5_method_138 rfl (lv_at hl 1 rfl) ?_
                              refine pl_get (D := D) (ci := 6) (v := .ref (mt_m τ)) (C := RX5) (T := TX5) (N := 3) hx hb hts (by decide +kernel) hown hK.1 hP M_mt_xτ_30 F_mt_xτ_30 rfl 1 (by decide) (hts (.fieldLink RX5 16 "ChooseTreeModel" "methods" "Ljava/util/ArrayList;") (by decide +kernel)) (fun _ h9 => h9) rfl dX5_method_139 ?_
                              refine va_calli (va_runV (As := []) (rest := [.ref q134, .ref q134]) ⟨hx, hb, hml, hown, hts⟩ (c_Jx4a65c_size_8abf5 l D cO mi (L ++ [q134]) f30 (mt_m τ) M_mt_mτ_30 mcz27 (ls_dat (mt_ls τ) (mt_m τ)) (mt_cnt τ (mt_m τ)) F_mt_mτ_30) (cwV 0 hts gX5_method_Jx4a65c_size_8abf5 rfl rfl rfl (by decide +kernel) ⟨Nat.le_of_ble_eq_true rfl, Nat.le_of_ble_eq_true rfl⟩) (mP_V hK hP 0 rfl M_mt_mτ_30 F_mt_mτ_30) rfl rfl hl.1 rfl (lv_room (Nat.le_of_ble_eq_true rfl)) dX5_method_142 ⟨Nat.le_of_ble_eq_true rfl, Nat.le_of_ble_eq_true rfl⟩) hS (fun _ _ h => h.elim) (fun _ h => h.elim) (fun r_31 u t H1 locs ht hvm hw hB hz1 hk1 hS => ?_)
                              replace hP := ro_kept hP hk1
                              obtain rfl : r_31 = _ := hw
                              clear hk1 hz1 hvm ht hB
                              generalize H1 = H at hP hS ⊢
                              rw [show (mt_cnt τ (mt_m τ)) = mt_mn τ from hM.ms.1]
                              refine lv_aload hx hb dX5_method_145 (lv_at hl 0 rfl) ?_
                              refine lv_iload_n hx hb dX5_method_147 rfl (lv_at hl 3 rfl) ?_
                              refine lv_iload_n hx hb dX5_method_148 rfl (lv_at hl 4 rfl) ?_
                              refine lv_iload hx hb dX5_method_149 (lv_at hl 5 rfl) ?_
                              have hszH : sz ≤ H.size := by have := hS.1; omega
                              have hPold := hP
                              refine va_callv (va_runI (As := [.int (nI (mt_mn τ)), .ref (mt_ca τ (mt_n τ - 1)), .int zx2, .int zx3, .int zx4]) (rest := [.ref q134]) ⟨hx, hb, hml, hown, hts⟩ (c_X4_init l D cO mi e0 (L ++ [q134]) f30 H.size hE.nd q134 M_q134_30 (nI (mt_mn τ)) (mt_ca τ (mt_n τ - 1)) zx2 zx3 zx4 F_q134_30) (cwI 5 hts gX5_method_X4_init rfl rfl rfl (hts (.initialized RX4) (by decide +kernel)) (hts (.methodLink RX5 62 yX4_init) (by decide +kernel)) (hts (.instanceMethod yX4_init) (by decide +kernel)) rfl (by decide +kernel) ⟨Nat.le_of_ble_eq_true rfl, Nat.le_of_ble_eq_true rfl⟩) (mW_S hK hJ hS (hE.sub (by have := hS.1; omega)) hP) rfl rfl hl.1 rfl (lv_room (Nat.le_of_ble_eq_true rfl)) dX5_method_151 ⟨Nat.le_of_ble_eq_true rfl, Nat.le_of_ble_eq_true rfl⟩) hS (fun q _ h => (hE.sub (by have := hS.1; omega)) q h) (hE.sub (by have := hS.1; omega)) (fun u t H1 locs ht hvm hw hB hz1 hk1 hS => ?_)
                              obtain ⟨L32, f32⟩ := u
                              obtain ⟨hw, hE1⟩ := hw
                              replace hB : va_P D vwCl (va_pl L32 f32) t.heap := hB
                              rw [ht] at hB
                              replace hE : pext L sz L32 := hE.tr (hszH) hE1
                              obtain ⟨hL1, hf32⟩ := Prod.mk.inj hw
                              replace hL1 : L32 = L ++ [q134] := hL1
                              subst hL1
                              have he8 : e0 < sz := hJ.lt.2
                              have hcq : f32 q134 = .inr (5, [.int (nI (mt_mn τ)), .int zx2, .int zx3, .ref (mt_ca τ (mt_n τ - 1)), .int (t_fl1 zx4), .int (t_fl2 zx4), .int (t_fl3 zx4)]) := by rw [hf32]; exact va_up_self _ _ _
                              have hM1 : MI e0 cO (L ++ [q134]) f32 (mt_setls τ (ls_ext (mt_ls τ) [q134] e0)) := hM.newM ⟨hqq134, by omega⟩ hcq (fun y hy => by have hne : y ≠ q134 := fun e9 => hqq134 (e9 ▸ hy); rw [hf32, va_up_ne _ _ hne, hf30, va_up_ne _ _ hne])
                              have hmq : mobj (L ++ [q134]) f32 q134 := ⟨by simp, 5, _, hcq, Or.inr rfl⟩
                              have hx9 : f32 (mt_x τ) = .inr (6, [.ref (mt_c τ), .ref (mt_m τ), .int (mt_mark τ)]) := hM1.x.2
                              have hx8 : mt_x τ ∈ L ++ [q134] := hM1.x.1
                              clear hPold hP hk1 hz1 hvm ht hszH hE1
                              have hP := hB
                              clear hB
                              generalize H1 = H at hP hS ⊢
                              have hD : va_D (mA L sz) (va_pl (L ++ [q134]) f32) := hE.D
                              refine lv_astore (lv' := [(6, .ref q134), (5, .ref (mt_ca τ (mt_n τ - 1))), (0, .ref (mt_x τ)), (1, .int (nI (mt_n τ - 1))), (2, .int zx2), (3, .int zx3), (4, .int zx4)]) hx hb dX5_method_154 hl (by decide) rfl (fun ls hl => ?_)
                              refine lv_aload_n hx hb dX5_method_156 rfl (lv_at hl 2 rfl) ?_
                              refine pl_get (D := D) (ci := 6) (v := .ref (mt_m τ)) (C := RX5) (T := TX5) (N := 3) hx hb hts (by decide +kernel) hown hK.1 hP hx8 hx9 rfl 1 (by decide) (hts (.fieldLink RX5 16 "ChooseTreeModel" "methods" "Ljava/util/ArrayList;") (by decide +kernel)) (fun _ h9 => h9) rfl dX5_method_157 ?_
                              refine lv_aload hx hb dX5_method_160 (lv_at hl 0 rfl) ?_
                              obtain ⟨mcA, gA, hfA, hgA, hcA⟩ := hM1.ly.raw (b := (mt_m τ)) hM1.m.1 hM1.m.2
                              have hszH : sz ≤ H.size := by have := hS.1; omega
                              have hPold := hP
                              refine va_calli (va_runV (As := [.ref q134]) (rest := []) ⟨hx, hb, hml, hown, hts⟩ (c_Jx4a65c_addU l D cO mi e0 (L ++ [q134]) f32 H.size hE.nd (mt_m τ) hM1.m.1 mcA (ls_dat (ls_ext (mt_ls τ) [q134] e0) (mt_m τ)) (ls_cnt (ls_ext (mt_ls τ) [q134] e0) (mt_m τ)) hfA q134 hmq (ls_cap (ls_ext (mt_ls τ) [q134] e0) (mt_m τ)) (ls_grow (ls_ext (mt_ls τ) [q134] e0) (mt_m τ)) gA hgA 600 (ls_grow_le (K := 400) (show ls_cnt (ls_ext (mt_ls τ) [q134] e0) (mt_m τ) < 400 from Nat.lt_of_le_of_lt (Nat.le_of_eq hM1.ms.1) hn4) (by omega))) (cwV 1 hts gX5_method_Jx4a65c_add_9ea2d rfl rfl rfl (by decide +kernel) ⟨Nat.le_of_ble_eq_true rfl, Nat.le_of_ble_eq_true rfl⟩) (mW_V hK hJ hS (hE.sub (by have := hS.1; omega)) hP 0 rfl hM1.m.1 hfA) rfl rfl hl.1 rfl (lv_room (Nat.le_of_ble_eq_true rfl)) dX5_method_162 ⟨Nat.le_of_ble_eq_true rfl, Nat.le_of_ble_eq_true rfl⟩) hS (fun q _ h => (hE.sub (by have := hS.1; omega)) q h) (hE.sub (by have := hS.1; omega)) (fun r_33 u t H1 locs ht hvm hw hB hz1 hk1 hS => ?_)
                              obtain ⟨L33, f33⟩ := u
                              obtain ⟨hw, hE1⟩ := hw
                              replace hB : va_P D vwCl (va_pl L33 f33) t.heap := hB
                              rw [ht] at hB
                              replace hE : pext L sz L33 := hE.tr (hszH) hE1
                              have he9 : e0 < H.size := Nat.lt_of_lt_of_le hJ.lt.2 hszH
                              obtain ⟨hr1, hw⟩ := hw
                              subst hr1
                              obtain ⟨d2, n2, hM2⟩ := hM1.addM hn4 (q := q134) (ow := (mt_n τ - 1)) (nm := zx2) (si := zx3) (st := t_fl1 zx4) (fi := t_fl2 zx4) (ab := t_fl3 zx4) hmq.1 hcq hzi hfA hcA he9 hE1 hw
                              replace hM2 : MI e0 cO L33 f33 (mt_setls (mt_addm τ q134 zx2 zx3 (mt_n τ - 1) (t_fl1 zx4) (t_fl2 zx4) (t_fl3 zx4)) (ls_add (ls_ext (mt_ls τ) [q134] e0) (mt_m τ) q134 d2 n2)) := hM2
                              have hja : mt_ja (mt_setls (mt_addm τ q134 zx2 zx3 (mt_n τ - 1) (t_fl1 zx4) (t_fl2 zx4) (t_fl3 zx4)) (ls_add (ls_ext (mt_ls τ) [q134] e0) (mt_m τ) q134 d2 n2)) (mt_mn τ) = q134 := va_up_self _ _ _
                              have hme := hM2.me (j := mt_mn τ) (Nat.lt_succ_self _)
                              rw [MIm, hja] at hme
                              have hcq2 : f33 q134 = .inr (5, [.int (nI (mt_mn τ)), .int zx2, .int zx3, .ref (mt_ca τ (mt_n τ - 1)), .int (t_fl1 zx4), .int (t_fl2 zx4), .int (t_fl3 zx4)]) := by rw [hme.2.1]; simp only [mt_setls, mt_addm, mt_nm, mt_si, mt_ow, mt_st, mt_fi, mt_ab, va_up_self]
                              have hc9 : f33 (mt_ca τ (mt_n τ - 1)) = .inr (4, [.int (nI (mt_n τ - 1)), .int (mt_pk τ (mt_n τ - 1)), va_rf ((mt_pr τ (mt_n τ - 1)).map (mt_ca τ)), .int (mt_fc τ (mt_n τ - 1)), .ref (mt_fa τ (mt_n τ - 1)), .ref (mt_ma τ (mt_n τ - 1)), .ref (mt_aa τ (mt_n τ - 1)), .int (mt_pt τ (mt_n τ - 1)), .int (mt_mk τ (mt_n τ - 1))]) := (hM2.cl hzi).2.1
                              have hc8 : mt_ca τ (mt_n τ - 1) ∈ L33 := (hM2.cl hzi).1
                              have hct : ls_cnt (ls_add (ls_ext (mt_ls τ) [q134] e0) (mt_m τ) q134 d2 n2) (mt_ma τ (mt_n τ - 1)) ≤ mt_mn τ := by rw [(ls_add_ne (ls_ext (mt_ls τ) [q134] e0) (x := q134) (d2 := d2) (n2 := n2) (hM.maNm hzi)).1, show ls_cnt (ls_ext (mt_ls τ) [q134] e0) (mt_ma τ (mt_n τ - 1)) = ls_cnt (mt_ls τ) (mt_ma τ (mt_n τ - 1)) from if_neg (fun z => hqq134 (by rw [← List.mem_singleton.mp z]; exact (hM.ma hzi).1))]; exact (hM.cl hzi).2.2.2.2.1.1
                              have hmq2 : mobj L33 f33 q134 := ⟨hme.1, 5, _, hcq2, Or.inr rfl⟩
                              clear hfA hcA hgA hw
                              have hma : (mt_ma τ (mt_n τ - 1)) ∈ L33 ∧ isAL f33 (mt_ma τ (mt_n τ - 1)) := hM2.ma hzi
                              clear he9
                              clear hPold hP hk1 hz1 hvm ht hszH hE1
                              have hP := hB
                              clear hB
                              generalize H1 = H at hP hS ⊢
                              have hD : va_D (mA L sz) (va_pl L33 f33) := hE.D
                              refine lv_pop hx hb dX5_method_165 rfl ?_
                              refine lv_aload hx hb dX5_method_166 (lv_at hl 1 rfl) ?_
                              refine pl_get (D := D) (ci := 4) (v := .ref (mt_ma τ (mt_n τ - 1))) (C := RX3) (T := TX3) (N := 9) hx hb hts (by decide +kernel) hown hK.1 hP hc8 hc9 rfl 5 (by decide) (hts (.fieldLink RX5 46 "ChooseTreeModel$Cls" "methods" "Ljava/util/ArrayList;") (by decide +kernel)) (fun _ h9 => h9) rfl dX5_method_168 ?_
                              refine lv_aload hx hb dX5_method_171 (lv_at hl 0 rfl) ?_
                              obtain ⟨mcA, gA, hfA, hgA, hcA⟩ := hM2.ly.raw (b := (mt_ma τ (mt_n τ - 1))) hma.1 hma.2
                              have hszH : sz ≤ H.size := by have := hS.1; omega
                              have hPold := hP
                              refine va_calli (va_runV (As := [.ref q134]) (rest := []) ⟨hx, hb, hml, hown, hts⟩ (c_Jx4a65c_addU l D cO mi e0 L33 f33 H.size hE.nd (mt_ma τ (mt_n τ - 1)) hma.1 mcA (ls_dat (ls_add (ls_ext (mt_ls τ) [q134] e0) (mt_m τ) q134 d2 n2) (mt_ma τ (mt_n τ - 1))) (ls_cnt (ls_add (ls_ext (mt_ls τ) [q134] e0) (mt_m τ) q134 d2 n2) (mt_ma τ (mt_n τ - 1))) hfA q134 hmq2 (ls_cap (ls_add (ls_ext (mt_ls τ) [q134] e0) (mt_m τ) q134 d2 n2) (mt_ma τ (mt_n τ - 1))) (ls_grow (ls_add (ls_ext (mt_ls τ) [q134] e0) (mt_m τ) q134 d2 n2) (mt_ma τ (mt_n τ - 1))) gA hgA 600 (ls_grow_le (K := 400) (show ls_cnt (ls_add (ls_ext (mt_ls τ) [q134] e0) (mt_m τ) q134 d2 n2) (mt_ma τ (mt_n τ - 1)) < 400 from Nat.lt_of_le_of_lt hct hn4) (by omega))) (cwV 1 hts gX5_method_Jx4a65c_add_9ea2d rfl rfl rfl (by decide +kernel) ⟨Nat.le_of_ble_eq_true rfl, Nat.le_of_ble_eq_true rfl⟩) (mW_V hK hJ hS (hE.sub (by have := hS.1; omega)) hP 0 rfl hma.1 hfA) rfl rfl hl.1 rfl (lv_room (Nat.le_of_ble_eq_true rfl)) dX5_method_173 ⟨Nat.le_of_ble_eq_true rfl, Nat.le_of_ble_eq_true rfl⟩) hS (fun q _ h => (hE.sub (by have := hS.1; omega)) q h) (hE.sub (by have := hS.1; omega)) (fun r_34 u t H1 locs ht hvm hw hB hz1 hk1 hS => ?_)
                              obtain ⟨L34, f34⟩ := u
                              obtain ⟨hw, hE1⟩ := hw
                              replace hB : va_P D vwCl (va_pl L34 f34) t.heap := hB
                              rw [ht] at hB
                              replace hE : pext L sz L34 := hE.tr (hszH) hE1
                              have he9 : e0 < H.size := Nat.lt_of_lt_of_le hJ.lt.2 hszH
                              obtain ⟨hr1, hw⟩ := hw
                              subst hr1
                              obtain ⟨d3, n3, hM3⟩ := hM2.addN (i := (mt_n τ - 1)) (k := mt_mn τ) hzi (Nat.lt_succ_self _) hfA hcA he9 hE1 (Nat.lt_succ_of_le hct) (by rw [hja]; exact hw)
                              rw [hja] at hM3
                              replace hM3 : MI e0 cO L34 f34 (mt_setls (mt_setml (mt_addm τ q134 zx2 zx3 (mt_n τ - 1) (t_fl1 zx4) (t_fl2 zx4) (t_fl3 zx4)) (va_up (mt_ml τ) (mt_n τ - 1) (va_up (mt_ml τ (mt_n τ - 1)) (ls_cnt (ls_add (ls_ext (mt_ls τ) [q134] e0) (mt_m τ) q134 d2 n2) (mt_ma τ (mt_n τ - 1))) (mt_mn τ)))) (ls_add (ls_add (ls_ext (mt_ls τ) [q134] e0) (mt_m τ) q134 d2 n2) (mt_ma τ (mt_n τ - 1)) q134 d3 n3)) := hM3
                              have hme3 := hM3.me (j := mt_mn τ) (Nat.lt_succ_self _)
                              have hja3 : mt_ja (mt_setls (mt_setml (mt_addm τ q134 zx2 zx3 (mt_n τ - 1) (t_fl1 zx4) (t_fl2 zx4) (t_fl3 zx4)) (va_up (mt_ml τ) (mt_n τ - 1) (va_up (mt_ml τ (mt_n τ - 1)) (ls_cnt (ls_add (ls_ext (mt_ls τ) [q134] e0) (mt_m τ) q134 d2 n2) (mt_ma τ (mt_n τ - 1))) (mt_mn τ)))) (ls_add (ls_add (ls_ext (mt_ls τ) [q134] e0) (mt_m τ) q134 d2 n2) (mt_ma τ (mt_n τ - 1)) q134 d3 n3)) (mt_mn τ) = q134 := va_up_self _ _ _
                              rw [MIm, hja3] at hme3
                              have hcq3 : f34 q134 = .inr (5, [.int (nI (mt_mn τ)), .int zx2, .int zx3, .ref (mt_ca τ (mt_n τ - 1)), .int (t_fl1 zx4), .int (t_fl2 zx4), .int (t_fl3 zx4)]) := by rw [hme3.2.1]; simp only [mt_setls, mt_setml, mt_addm, mt_nm, mt_si, mt_ow, mt_st, mt_fi, mt_ab, va_up_self]
                              clear he9
                              clear hPold hP hk1 hz1 hvm ht hszH hE1
                              have hP := hB
                              clear hB
                              generalize H1 = H at hP hS ⊢
                              have hD : va_D (mA L sz) (va_pl L34 f34) := hE.D
                              refine lv_pop hx hb dX5_method_176 rfl ?_
                              refine lv_aload hx hb dX5_method_177 (lv_at hl 0 rfl) ?_
                              refine pl_get (D := D) (ci := 5) (v := .int (nI (mt_mn τ))) (C := RX4) (T := TX4) (N := 7) hx hb hts (by decide +kernel) hown hK.1 hP hme3.1 hcq3 rfl 0 (by decide) (hts (.fieldLink RX5 65 "ChooseTreeModel$Met" "number" "I") (by decide +kernel)) (fun _ h9 => h9) rfl dX5_method_179 ?_
                              refine W.widen (k := 3) (n := 1207) (by first | exact Nat.le_refl _ | omega) (by first | exact Nat.le_refl _ | omega) ?_
                              exact W.iret (v := (nI (mt_mn τ))) hx hb hr (fun t ht hW => ⟨⟨(nI (mt_mn τ)), (L34, f34), rfl, ⟨⟨(by simp [t_metR, gr1, gr2, gr3, gr4, gr5, gr6, gr7, gr8, gr9, gr10, gr11, gr12, c_1, c_8, c_9, c_10, c_11, c_12, htzj, c_14, c_15, c_16, c_25, c_26, c_29]), Or.inr ⟨rfl, hn4, rfl, q134, d2, n2, d3, n3, hM3, hqq134⟩⟩, hE⟩, show va_P D vwCl (va_pl _ _) t.heap from (by rw [ht]; exact hP)⟩, hS.F ht⟩) hS.2.2 dX5_method_182
                            · refine lv_bipush (v := (-12)) hx hb dX5_method_131 (by decide) ?_
                              refine W.widen (k := 3) (n := 1207) (by first | exact Nat.le_refl _ | omega) (by first | exact Nat.le_refl _ | omega) ?_
                              exact W.iret (v := (-12)) hx hb hr (fun t ht hW => ⟨⟨(-12), (L, f), rfl, ⟨⟨(by simp [t_metR, gr1, gr2, gr3, gr4, gr5, gr6, gr7, gr8, gr9, gr10, gr11, gr12, c_1, c_8, c_9, c_10, c_11, c_12, htzj, c_14, c_15, c_16, c_25, c_26, c_29]), Or.inl ⟨by decide, rfl, hM⟩⟩, hE⟩, show va_P D vwCl (va_pl _ _) t.heap from (by rw [ht]; exact hP)⟩, hS.F ht⟩) hS.2.2 dX5_method_133
                          · refine lv_iload hx hb dX5_method_110 (lv_at hl 5 rfl) ?_
                            refine lv_iconst (v := (nI 4)) hx hb dX5_method_112 (by decide) ?_
                            refine lv_icmp_eq (tgt := 118) hx hb dX5_method_113 (by decide) (fun c_35 => ?_) (fun c_35 => ?_)
                            · refine lv_aload_n hx hb dX5_method_118 rfl (lv_at hl 1 rfl) ?_
                              refine pl_get (D := D) (ci := 6) (v := .ref (mt_m τ)) (C := RX5) (T := TX5) (N := 3) hx hb hts (by decide +kernel) hown hK.1 hP hM.x.1 hM.x.2 rfl 1 (by decide) (hts (.fieldLink RX5 16 "ChooseTreeModel" "methods" "Ljava/util/ArrayList;") (by decide +kernel)) (fun _ h9 => h9) rfl dX5_method_119 ?_
                              obtain ⟨mcz36, gz36, hfz36, hgz36, hcz36⟩ := hM.ly.raw (b := (mt_m τ)) hM.m.1 hM.m.2
                              refine va_calli (va_runV (As := []) (rest := []) ⟨hx, hb, hml, hown, hts⟩ (c_Jx4a65c_size_8abf5 l D cO mi L f (mt_m τ) hM.m.1 mcz36 (ls_dat (mt_ls τ) (mt_m τ)) (mt_cnt τ (mt_m τ)) hfz36) (cwV 0 hts gX5_method_Jx4a65c_size_8abf5 rfl rfl rfl (by decide +kernel) ⟨Nat.le_of_ble_eq_true rfl, Nat.le_of_ble_eq_true rfl⟩) (mP_V hK hP 0 rfl hM.m.1 hfz36) rfl rfl hl.1 rfl (lv_room (Nat.le_of_ble_eq_true rfl)) dX5_method_122 ⟨Nat.le_of_ble_eq_true rfl, Nat.le_of_ble_eq_true rfl⟩) hS (fun _ _ h => h.elim) (fun _ h => h.elim) (fun r_37 u t H1 locs ht hvm hw hB hz1 hk1 hS => ?_)
                              replace hP := ro_kept hP hk1
                              obtain rfl : r_37 = _ := hw
                              clear hk1 hz1 hvm ht hB
                              generalize H1 = H at hP hS ⊢
                              rw [show (mt_cnt τ (mt_m τ)) = mt_mn τ from hM.ms.1]
                              clear hcz36 hgz36
                              refine lv_sipush (v := (nI 400)) hx hb dX5_method_125 (by decide) ?_
                              refine lv_icmp_ne (tgt := 134) hx hb dX5_method_128 (by decide) (fun c_38 => ?_) (fun c_38 => ?_)
                              · have hn4 : mt_mn τ < 400 := by have h60 : ¬ mt_mn τ = 400 := fun e => absurd (congrArg nI e) c_38; omega
                                refine pl_new (D := D) (ci := 5) (fs := [.int 0, .int 0, .int 0, .null, .int 0, .int 0, .int 0]) (C := RX4) (T := TX4) (N := 7) hx hb hts (by decide +kernel) tyX4 tyX4_ok hown (hts (.classLink RX5 36 RX4) (by decide +kernel)) (hts (.instantiable RX4 7) (by decide +kernel)) (hts (.initialized RX4) (by decide +kernel)) hK.1 hP hD hS hA rfl (by decide) (Nat.le_of_ble_eq_true rfl) (Nat.le_of_ble_eq_true rfl) dX5_method_134 (fun q134 H hq hAq hP hS => ?_)
                                have hqs : sz ≤ q134 := hAq.resolve_left (fun z => hq (hE.mem z))
                                obtain ⟨f39, hf39⟩ : ∃ z, z = va_up f q134 (.inr (5, [.int 0, .int 0, .int 0, .null, .int 0, .int 0, .int 0])) := ⟨_, rfl⟩
                                rw [← hf39] at hP
                                have F_mt_xτ_39 : f39 (mt_x τ) = .inr (6, [.ref (mt_c τ), .ref (mt_m τ), .int (mt_mark τ)]) := by rw [hf39, va_up_ne _ _ (show (mt_x τ) ≠ q134 from fun e9 => hq (e9 ▸ hM.x.1))]; exact hM.x.2
                                have M_mt_xτ_39 := List.mem_append_left [q134] hM.x.1
                                have F_mt_cτ_39 : f39 (mt_c τ) = .inr (0, [.int mcz5, .ref (ls_dat (mt_ls τ) (mt_c τ)), .int (nI (mt_cnt τ (mt_c τ)))]) := by rw [hf39, va_up_ne _ _ (show (mt_c τ) ≠ q134 from fun e9 => hq (e9 ▸ hM.c.1))]; exact hfz5
                                have M_mt_cτ_39 := List.mem_append_left [q134] hM.c.1
                                have F_mt_caτmt_nτ1_39 : f39 (mt_ca τ (mt_n τ - 1)) = .inr (4, [.int (nI (mt_n τ - 1)), .int (mt_pk τ (mt_n τ - 1)), va_rf ((mt_pr τ (mt_n τ - 1)).map (mt_ca τ)), .int (mt_fc τ (mt_n τ - 1)), .ref (mt_fa τ (mt_n τ - 1)), .ref (mt_ma τ (mt_n τ - 1)), .ref (mt_aa τ (mt_n τ - 1)), .int (mt_pt τ (mt_n τ - 1)), .int (mt_mk τ (mt_n τ - 1))]) := by rw [hf39, va_up_ne _ _ (show (mt_ca τ (mt_n τ - 1)) ≠ q134 from fun e9 => hq (e9 ▸ (hM.cl hzi).1))]; exact (hM.cl hzi).2.1
                                have M_mt_caτmt_nτ1_39 := List.mem_append_left [q134] (hM.cl hzi).1
                                have F_mt_mτ_39 : f39 (mt_m τ) = .inr (0, [.int mcz36, .ref (ls_dat (mt_ls τ) (mt_m τ)), .int (nI (mt_cnt τ (mt_m τ)))]) := by rw [hf39, va_up_ne _ _ (show (mt_m τ) ≠ q134 from fun e9 => hq (e9 ▸ hM.m.1))]; exact hfz36
                                have M_mt_mτ_39 := List.mem_append_left [q134] hM.m.1
                                have F_q134_39 : f39 q134 = .inr (5, [.int 0, .int 0, .int 0, .null, .int 0, .int 0, .int 0]) := by rw [hf39]; exact va_up_self _ _ _
                                have M_q134_39 : q134 ∈ L ++ [q134] := List.mem_append_right _ (List.mem_singleton.mpr rfl)
                                replace hE : pext L sz (L ++ [q134]) := hE.tr (Nat.le_refl _) (pext.one hE.nd hq hqs)
                                have hD : va_D (mA L sz) (va_pl (L ++ [q134]) f39) := hE.D
                                have hqq134 := hq
                                have hqsq134 := hqs
                                clear hq hqs hAq
                                refine lv_dup hx hb dX5_method_137 rfl ?_
                                refine lv_aload_n hx hb dX5_method_138 rfl (lv_at hl 1 rfl) ?_
                                refine pl_get (D := D) (ci := 6) (v := .ref (mt_m τ)) (C := RX5) (T := TX5) (N := 3) hx hb hts (by decide +kernel) hown hK.1 hP M_mt_xτ_39 F_mt_xτ_39 rfl 1 (by decide) (hts (.fieldLink RX5 16 "ChooseTreeModel" "methods" "Ljava/util/ArrayList;") (by decide +kernel)) (fun _ h9 => h9) rfl dX5_method_139 ?_
                                refine va_calli (va_runV (As := []) (rest := [.ref q134, .ref q134]) ⟨hx, hb, hml, hown, hts⟩ (c_Jx4a65c_size_8abf5 l D cO mi (L ++ [q134]) f39 (mt_m τ) M_mt_mτ_39 mcz36 (ls_dat (mt_ls τ) (mt_m τ)) (mt_cnt τ (mt_m τ)) F_mt_mτ_39) (cwV 0 hts gX5_method_Jx4a65c_size_8abf5 rfl rfl rfl (by decide +kernel) ⟨Nat.le_of_ble_eq_true rfl, Nat.le_of_ble_eq_true rfl⟩) (mP_V hK hP 0 rfl M_mt_mτ_39 F_mt_mτ_39) rfl rfl hl.1 rfl (lv_room (Nat.le_of_ble_eq_true rfl)) dX5_method_142 ⟨Nat.le_of_ble_eq_true rfl, Nat.le_of_ble_eq_true rfl⟩) hS (fun _ _ h => h.elim) (fun _ h => h.elim) (fun r_40 u t H1 locs ht hvm hw hB hz1 hk1 hS => ?_)
                                replace hP := ro_kept hP hk1
                                obtain rfl : r_40 = _ := hw
                                clear hk1 hz1 hvm ht hB
                                generalize H1 = H at hP hS ⊢
                                rw [show (mt_cnt τ (mt_m τ)) = mt_mn τ from hM.ms.1]
                                refine lv_aload hx hb dX5_method_145 (lv_at hl 0 rfl) ?_
                                refine lv_iload_n hx hb dX5_method_147 rfl (lv_at hl 3 rfl) ?_
                                refine lv_iload_n hx hb dX5_method_148 rfl (lv_at hl 4 rfl) ?_
                                refine lv_iload hx hb dX5_method_149 (lv_at hl 5 rfl) ?_
                                have hszH : sz ≤ H.size := by have := hS.1; omega
                                have hPold := hP
                                refine va_callv (va_runI (As := [.int (nI (mt_mn τ)), .ref (mt_ca τ (mt_n τ - 1)), .int zx2, .int zx3, .int zx4]) (rest := [.ref q134]) ⟨hx, hb, hml, hown, hts⟩ (c_X4_init l D cO mi e0 (L ++ [q134]) f39 H.size hE.nd q134 M_q134_39 (nI (mt_mn τ)) (mt_ca τ (mt_n τ - 1)) zx2 zx3 zx4 F_q134_39) (cwI 5 hts gX5_method_X4_init rfl rfl rfl (hts (.initialized RX4) (by decide +kernel)) (hts (.methodLink RX5 62 yX4_init) (by decide +kernel)) (hts (.instanceMethod yX4_init) (by decide +kernel)) rfl (by decide +kernel) ⟨Nat.le_of_ble_eq_true rfl, Nat.le_of_ble_eq_true rfl⟩) (mW_S hK hJ hS (hE.sub (by have := hS.1; omega)) hP) rfl rfl hl.1 rfl (lv_room (Nat.le_of_ble_eq_true rfl)) dX5_method_151 ⟨Nat.le_of_ble_eq_true rfl, Nat.le_of_ble_eq_true rfl⟩) hS (fun q _ h => (hE.sub (by have := hS.1; omega)) q h) (hE.sub (by have := hS.1; omega)) (fun u t H1 locs ht hvm hw hB hz1 hk1 hS => ?_)
                                obtain ⟨L41, f41⟩ := u
                                obtain ⟨hw, hE1⟩ := hw
                                replace hB : va_P D vwCl (va_pl L41 f41) t.heap := hB
                                rw [ht] at hB
                                replace hE : pext L sz L41 := hE.tr (hszH) hE1
                                obtain ⟨hL1, hf41⟩ := Prod.mk.inj hw
                                replace hL1 : L41 = L ++ [q134] := hL1
                                subst hL1
                                have he8 : e0 < sz := hJ.lt.2
                                have hcq : f41 q134 = .inr (5, [.int (nI (mt_mn τ)), .int zx2, .int zx3, .ref (mt_ca τ (mt_n τ - 1)), .int (t_fl1 zx4), .int (t_fl2 zx4), .int (t_fl3 zx4)]) := by rw [hf41]; exact va_up_self _ _ _
                                have hM1 : MI e0 cO (L ++ [q134]) f41 (mt_setls τ (ls_ext (mt_ls τ) [q134] e0)) := hM.newM ⟨hqq134, by omega⟩ hcq (fun y hy => by have hne : y ≠ q134 := fun e9 => hqq134 (e9 ▸ hy); rw [hf41, va_up_ne _ _ hne, hf39, va_up_ne _ _ hne])
                                have hmq : mobj (L ++ [q134]) f41 q134 := ⟨by simp, 5, _, hcq, Or.inr rfl⟩
                                have hx9 : f41 (mt_x τ) = .inr (6, [.ref (mt_c τ), .ref (mt_m τ), .int (mt_mark τ)]) := hM1.x.2
                                have hx8 : mt_x τ ∈ L ++ [q134] := hM1.x.1
                                clear hPold hP hk1 hz1 hvm ht hszH hE1
                                have hP := hB
                                clear hB
                                generalize H1 = H at hP hS ⊢
                                have hD : va_D (mA L sz) (va_pl (L ++ [q134]) f41) := hE.D
                                refine lv_astore (lv' := [(6, .ref q134), (5, .ref (mt_ca τ (mt_n τ - 1))), (0, .ref (mt_x τ)), (1, .int (nI (mt_n τ - 1))), (2, .int zx2), (3, .int zx3), (4, .int zx4)]) hx hb dX5_method_154 hl (by decide) rfl (fun ls hl => ?_)
                                refine lv_aload_n hx hb dX5_method_156 rfl (lv_at hl 2 rfl) ?_
                                refine pl_get (D := D) (ci := 6) (v := .ref (mt_m τ)) (C := RX5) (T := TX5) (N := 3) hx hb hts (by decide +kernel) hown hK.1 hP hx8 hx9 rfl 1 (by decide) (hts (.fieldLink RX5 16 "ChooseTreeModel" "methods" "Ljava/util/ArrayList;") (by decide +kernel)) (fun _ h9 => h9) rfl dX5_method_157 ?_
                                refine lv_aload hx hb dX5_method_160 (lv_at hl 0 rfl) ?_
                                obtain ⟨mcA, gA, hfA, hgA, hcA⟩ := hM1.ly.raw (b := (mt_m τ)) hM1.m.1 hM1.m.2
                                have hszH : sz ≤ H.size := by have := hS.1; omega
                                have hPold := hP
                                refine va_calli (va_runV (As := [.ref q134]) (rest := []) ⟨hx, hb, hml, hown, hts⟩ (c_Jx4a65c_addU l D cO mi e0 (L ++ [q134]) f41 H.size hE.nd (mt_m τ) hM1.m.1 mcA (ls_dat (ls_ext (mt_ls τ) [q134] e0) (mt_m τ)) (ls_cnt (ls_ext (mt_ls τ) [q134] e0) (mt_m τ)) hfA q134 hmq (ls_cap (ls_ext (mt_ls τ) [q134] e0) (mt_m τ)) (ls_grow (ls_ext (mt_ls τ) [q134] e0) (mt_m τ)) gA hgA 600 (ls_grow_le (K := 400) (show ls_cnt (ls_ext (mt_ls τ) [q134] e0) (mt_m τ) < 400 from Nat.lt_of_le_of_lt (Nat.le_of_eq hM1.ms.1) hn4) (by omega))) (cwV 1 hts gX5_method_Jx4a65c_add_9ea2d rfl rfl rfl (by decide +kernel) ⟨Nat.le_of_ble_eq_true rfl, Nat.le_of_ble_eq_true rfl⟩) (mW_V hK hJ hS (hE.sub (by have := hS.1; omega)) hP 0 rfl hM1.m.1 hfA) rfl rfl hl.1 rfl (lv_room (Nat.le_of_ble_eq_true rfl)) dX5_method_162 ⟨Nat.le_of_ble_eq_true rfl, Nat.le_of_ble_eq_true rfl⟩) hS (fun q _ h => (hE.sub (by have := hS.1; omega)) q h) (hE.sub (by have := hS.1; omega)) (fun r_42 u t H1 locs ht hvm hw hB hz1 hk1 hS => ?_)
                                obtain ⟨L42, f42⟩ := u
                                obtain ⟨hw, hE1⟩ := hw
                                replace hB : va_P D vwCl (va_pl L42 f42) t.heap := hB
                                rw [ht] at hB
                                replace hE : pext L sz L42 := hE.tr (hszH) hE1
                                have he9 : e0 < H.size := Nat.lt_of_lt_of_le hJ.lt.2 hszH
                                obtain ⟨hr1, hw⟩ := hw
                                subst hr1
                                obtain ⟨d2, n2, hM2⟩ := hM1.addM hn4 (q := q134) (ow := (mt_n τ - 1)) (nm := zx2) (si := zx3) (st := t_fl1 zx4) (fi := t_fl2 zx4) (ab := t_fl3 zx4) hmq.1 hcq hzi hfA hcA he9 hE1 hw
                                replace hM2 : MI e0 cO L42 f42 (mt_setls (mt_addm τ q134 zx2 zx3 (mt_n τ - 1) (t_fl1 zx4) (t_fl2 zx4) (t_fl3 zx4)) (ls_add (ls_ext (mt_ls τ) [q134] e0) (mt_m τ) q134 d2 n2)) := hM2
                                have hja : mt_ja (mt_setls (mt_addm τ q134 zx2 zx3 (mt_n τ - 1) (t_fl1 zx4) (t_fl2 zx4) (t_fl3 zx4)) (ls_add (ls_ext (mt_ls τ) [q134] e0) (mt_m τ) q134 d2 n2)) (mt_mn τ) = q134 := va_up_self _ _ _
                                have hme := hM2.me (j := mt_mn τ) (Nat.lt_succ_self _)
                                rw [MIm, hja] at hme
                                have hcq2 : f42 q134 = .inr (5, [.int (nI (mt_mn τ)), .int zx2, .int zx3, .ref (mt_ca τ (mt_n τ - 1)), .int (t_fl1 zx4), .int (t_fl2 zx4), .int (t_fl3 zx4)]) := by rw [hme.2.1]; simp only [mt_setls, mt_addm, mt_nm, mt_si, mt_ow, mt_st, mt_fi, mt_ab, va_up_self]
                                have hc9 : f42 (mt_ca τ (mt_n τ - 1)) = .inr (4, [.int (nI (mt_n τ - 1)), .int (mt_pk τ (mt_n τ - 1)), va_rf ((mt_pr τ (mt_n τ - 1)).map (mt_ca τ)), .int (mt_fc τ (mt_n τ - 1)), .ref (mt_fa τ (mt_n τ - 1)), .ref (mt_ma τ (mt_n τ - 1)), .ref (mt_aa τ (mt_n τ - 1)), .int (mt_pt τ (mt_n τ - 1)), .int (mt_mk τ (mt_n τ - 1))]) := (hM2.cl hzi).2.1
                                have hc8 : mt_ca τ (mt_n τ - 1) ∈ L42 := (hM2.cl hzi).1
                                have hct : ls_cnt (ls_add (ls_ext (mt_ls τ) [q134] e0) (mt_m τ) q134 d2 n2) (mt_ma τ (mt_n τ - 1)) ≤ mt_mn τ := by rw [(ls_add_ne (ls_ext (mt_ls τ) [q134] e0) (x := q134) (d2 := d2) (n2 := n2) (hM.maNm hzi)).1, show ls_cnt (ls_ext (mt_ls τ) [q134] e0) (mt_ma τ (mt_n τ - 1)) = ls_cnt (mt_ls τ) (mt_ma τ (mt_n τ - 1)) from if_neg (fun z => hqq134 (by rw [← List.mem_singleton.mp z]; exact (hM.ma hzi).1))]; exact (hM.cl hzi).2.2.2.2.1.1
                                have hmq2 : mobj L42 f42 q134 := ⟨hme.1, 5, _, hcq2, Or.inr rfl⟩
                                clear hfA hcA hgA hw
                                have hma : (mt_ma τ (mt_n τ - 1)) ∈ L42 ∧ isAL f42 (mt_ma τ (mt_n τ - 1)) := hM2.ma hzi
                                clear he9
                                clear hPold hP hk1 hz1 hvm ht hszH hE1
                                have hP := hB
                                clear hB
                                generalize H1 = H at hP hS ⊢
                                have hD : va_D (mA L sz) (va_pl L42 f42) := hE.D
                                refine lv_pop hx hb dX5_method_165 rfl ?_
                                refine lv_aload hx hb dX5_method_166 (lv_at hl 1 rfl) ?_
                                refine pl_get (D := D) (ci := 4) (v := .ref (mt_ma τ (mt_n τ - 1))) (C := RX3) (T := TX3) (N := 9) hx hb hts (by decide +kernel) hown hK.1 hP hc8 hc9 rfl 5 (by decide) (hts (.fieldLink RX5 46 "ChooseTreeModel$Cls" "methods" "Ljava/util/ArrayList;") (by decide +kernel)) (fun _ h9 => h9) rfl dX5_method_168 ?_
                                refine lv_aload hx hb dX5_method_171 (lv_at hl 0 rfl) ?_
                                obtain ⟨mcA, gA, hfA, hgA, hcA⟩ := hM2.ly.raw (b := (mt_ma τ (mt_n τ - 1))) hma.1 hma.2
                                have hszH : sz ≤ H.size := by have := hS.1; omega
                                have hPold := hP
                                refine va_calli (va_runV (As := [.ref q134]) (rest := []) ⟨hx, hb, hml, hown, hts⟩ (c_Jx4a65c_addU l D cO mi e0 L42 f42 H.size hE.nd (mt_ma τ (mt_n τ - 1)) hma.1 mcA (ls_dat (ls_add (ls_ext (mt_ls τ) [q134] e0) (mt_m τ) q134 d2 n2) (mt_ma τ (mt_n τ - 1))) (ls_cnt (ls_add (ls_ext (mt_ls τ) [q134] e0) (mt_m τ) q134 d2 n2) (mt_ma τ (mt_n τ - 1))) hfA q134 hmq2 (ls_cap (ls_add (ls_ext (mt_ls τ) [q134] e0) (mt_m τ) q134 d2 n2) (mt_ma τ (mt_n τ - 1))) (ls_grow (ls_add (ls_ext (mt_ls τ) [q134] e0) (mt_m τ) q134 d2 n2) (mt_ma τ (mt_n τ - 1))) gA hgA 600 (ls_grow_le (K := 400) (show ls_cnt (ls_add (ls_ext (mt_ls τ) [q134] e0) (mt_m τ) q134 d2 n2) (mt_ma τ (mt_n τ - 1)) < 400 from Nat.lt_of_le_of_lt hct hn4) (by omega))) (cwV 1 hts gX5_method_Jx4a65c_add_9ea2d rfl rfl rfl (by decide +kernel) ⟨Nat.le_of_ble_eq_true rfl, Nat.le_of_ble_eq_true rfl⟩) (mW_V hK hJ hS (hE.sub (by have := hS.1; omega)) hP 0 rfl hma.1 hfA) rfl rfl hl.1 rfl (lv_room (Nat.le_of_ble_eq_true rfl)) dX5_method_173 ⟨Nat.le_of_ble_eq_true rfl, Nat.le_of_ble_eq_true rfl⟩) hS (fun q _ h => (hE.sub (by have := hS.1; omega)) q h) (hE.sub (by have := hS.1; omega)) (fun r_43 u t H1 locs ht hvm hw hB hz1 hk1 hS => ?_)
                                obtain ⟨L43, f43⟩ := u
                                obtain ⟨hw, hE1⟩ := hw
                                replace hB : va_P D vwCl (va_pl L43 f43) t.heap := hB
                                rw [ht] at hB
                                replace hE : pext L sz L43 := hE.tr (hszH) hE1
                                have he9 : e0 < H.size := Nat.lt_of_lt_of_le hJ.lt.2 hszH
                                obtain ⟨hr1, hw⟩ := hw
                                subst hr1
                                obtain ⟨d3, n3, hM3⟩ := hM2.addN (i := (mt_n τ - 1)) (k := mt_mn τ) hzi (Nat.lt_succ_self _) hfA hcA he9 hE1 (Nat.lt_succ_of_le hct) (by rw [hja]; exact hw)
                                rw [hja] at hM3
                                replace hM3 : MI e0 cO L43 f43 (mt_setls (mt_setml (mt_addm τ q134 zx2 zx3 (mt_n τ - 1) (t_fl1 zx4) (t_fl2 zx4) (t_fl3 zx4)) (va_up (mt_ml τ) (mt_n τ - 1) (va_up (mt_ml τ (mt_n τ - 1)) (ls_cnt (ls_add (ls_ext (mt_ls τ) [q134] e0) (mt_m τ) q134 d2 n2) (mt_ma τ (mt_n τ - 1))) (mt_mn τ)))) (ls_add (ls_add (ls_ext (mt_ls τ) [q134] e0) (mt_m τ) q134 d2 n2) (mt_ma τ (mt_n τ - 1)) q134 d3 n3)) := hM3
                                have hme3 := hM3.me (j := mt_mn τ) (Nat.lt_succ_self _)
                                have hja3 : mt_ja (mt_setls (mt_setml (mt_addm τ q134 zx2 zx3 (mt_n τ - 1) (t_fl1 zx4) (t_fl2 zx4) (t_fl3 zx4)) (va_up (mt_ml τ) (mt_n τ - 1) (va_up (mt_ml τ (mt_n τ - 1)) (ls_cnt (ls_add (ls_ext (mt_ls τ) [q134] e0) (mt_m τ) q134 d2 n2) (mt_ma τ (mt_n τ - 1))) (mt_mn τ)))) (ls_add (ls_add (ls_ext (mt_ls τ) [q134] e0) (mt_m τ) q134 d2 n2) (mt_ma τ (mt_n τ - 1)) q134 d3 n3)) (mt_mn τ) = q134 := va_up_self _ _ _
                                rw [MIm, hja3] at hme3
                                have hcq3 : f43 q134 = .inr (5, [.int (nI (mt_mn τ)), .int zx2, .int zx3, .ref (mt_ca τ (mt_n τ - 1)), .int (t_fl1 zx4), .int (t_fl2 zx4), .int (t_fl3 zx4)]) := by rw [hme3.2.1]; simp only [mt_setls, mt_setml, mt_addm, mt_nm, mt_si, mt_ow, mt_st, mt_fi, mt_ab, va_up_self]
                                clear he9
                                clear hPold hP hk1 hz1 hvm ht hszH hE1
                                have hP := hB
                                clear hB
                                generalize H1 = H at hP hS ⊢
                                have hD : va_D (mA L sz) (va_pl L43 f43) := hE.D
                                refine lv_pop hx hb dX5_method_176 rfl ?_
                                refine lv_aload hx hb dX5_method_177 (lv_at hl 0 rfl) ?_
                                refine pl_get (D := D) (ci := 5) (v := .int (nI (mt_mn τ))) (C := RX4) (T := TX4) (N := 7) hx hb hts (by decide +kernel) hown hK.1 hP hme3.1 hcq3 rfl 0 (by decide) (hts (.fieldLink RX5 65 "ChooseTreeModel$Met" "number" "I") (by decide +kernel)) (fun _ h9 => h9) rfl dX5_method_179 ?_
                                refine W.widen (k := 3) (n := 1207) (by first | exact Nat.le_refl _ | omega) (by first | exact Nat.le_refl _ | omega) ?_
                                exact W.iret (v := (nI (mt_mn τ))) hx hb hr (fun t ht hW => ⟨⟨(nI (mt_mn τ)), (L43, f43), rfl, ⟨⟨(by simp [t_metR, gr1, gr2, gr3, gr4, gr5, gr6, gr7, gr8, gr9, gr10, gr11, gr12, c_1, c_8, c_9, c_10, c_11, c_12, htzj, c_14, c_15, c_16, c_25, c_26, c_35, c_38]), Or.inr ⟨rfl, hn4, rfl, q134, d2, n2, d3, n3, hM3, hqq134⟩⟩, hE⟩, show va_P D vwCl (va_pl _ _) t.heap from (by rw [ht]; exact hP)⟩, hS.F ht⟩) hS.2.2 dX5_method_182
                              · refine lv_bipush (v := (-12)) hx hb dX5_method_131 (by decide) ?_
                                refine W.widen (k := 3) (n := 1207) (by first | exact Nat.le_refl _ | omega) (by first | exact Nat.le_refl _ | omega) ?_
                                exact W.iret (v := (-12)) hx hb hr (fun t ht hW => ⟨⟨(-12), (L, f), rfl, ⟨⟨(by simp [t_metR, gr1, gr2, gr3, gr4, gr5, gr6, gr7, gr8, gr9, gr10, gr11, gr12, c_1, c_8, c_9, c_10, c_11, c_12, htzj, c_14, c_15, c_16, c_25, c_26, c_35, c_38]), Or.inl ⟨by decide, rfl, hM⟩⟩, hE⟩, show va_P D vwCl (va_pl _ _) t.heap from (by rw [ht]; exact hP)⟩, hS.F ht⟩) hS.2.2 dX5_method_133
                            · refine lv_iconst (v := (-1)) hx hb dX5_method_116 (by decide) ?_
                              refine W.widen (k := 3) (n := 1207) (by first | exact Nat.le_refl _ | omega) (by first | exact Nat.le_refl _ | omega) ?_
                              exact W.iret (v := (-1)) hx hb hr (fun t ht hW => ⟨⟨(-1), (L, f), rfl, ⟨⟨(by simp [t_metR, gr1, gr2, gr3, gr4, gr5, gr6, gr7, gr8, gr9, gr10, gr11, gr12, c_1, c_8, c_9, c_10, c_11, c_12, htzj, c_14, c_15, c_16, c_25, c_26, c_35]), Or.inl ⟨by decide, rfl, hM⟩⟩, hE⟩, show va_P D vwCl (va_pl _ _) t.heap from (by rw [ht]; exact hP)⟩, hS.F ht⟩) hS.2.2 dX5_method_117
                    · refine lv_iload_n hx hb dX5_method_85 rfl (lv_at hl 4 rfl) ?_
                      refine lv_iconst (v := (nI 3)) hx hb dX5_method_86 (by decide) ?_
                      refine lv_icmp_ne (tgt := 92) hx hb dX5_method_87 (by decide) (fun c_44 => ?_) (fun c_44 => ?_)
                      · refine lv_aload hx hb dX5_method_92 (lv_at hl 0 rfl) ?_
                        refine pl_get (D := D) (ci := 4) (v := .int (mt_fc τ (mt_n τ - 1))) (C := RX3) (T := TX3) (N := 9) hx hb hts (by decide +kernel) hown hK.1 hP (hM.cl hzi).1 (hM.cl hzi).2.1 rfl 3 (by decide) (hts (.fieldLink RX5 42 "ChooseTreeModel$Cls" "isFace" "Z") (by decide +kernel)) (fun _ h9 => h9) rfl dX5_method_94 ?_
                        refine lv_if_eq (tgt := 118) hx hb dX5_method_97 (by decide) (fun c_45 => ?_) (fun c_45 => ?_)
                        · refine lv_aload_n hx hb dX5_method_118 rfl (lv_at hl 1 rfl) ?_
                          refine pl_get (D := D) (ci := 6) (v := .ref (mt_m τ)) (C := RX5) (T := TX5) (N := 3) hx hb hts (by decide +kernel) hown hK.1 hP hM.x.1 hM.x.2 rfl 1 (by decide) (hts (.fieldLink RX5 16 "ChooseTreeModel" "methods" "Ljava/util/ArrayList;") (by decide +kernel)) (fun _ h9 => h9) rfl dX5_method_119 ?_
                          obtain ⟨mcz46, gz46, hfz46, hgz46, hcz46⟩ := hM.ly.raw (b := (mt_m τ)) hM.m.1 hM.m.2
                          refine va_calli (va_runV (As := []) (rest := []) ⟨hx, hb, hml, hown, hts⟩ (c_Jx4a65c_size_8abf5 l D cO mi L f (mt_m τ) hM.m.1 mcz46 (ls_dat (mt_ls τ) (mt_m τ)) (mt_cnt τ (mt_m τ)) hfz46) (cwV 0 hts gX5_method_Jx4a65c_size_8abf5 rfl rfl rfl (by decide +kernel) ⟨Nat.le_of_ble_eq_true rfl, Nat.le_of_ble_eq_true rfl⟩) (mP_V hK hP 0 rfl hM.m.1 hfz46) rfl rfl hl.1 rfl (lv_room (Nat.le_of_ble_eq_true rfl)) dX5_method_122 ⟨Nat.le_of_ble_eq_true rfl, Nat.le_of_ble_eq_true rfl⟩) hS (fun _ _ h => h.elim) (fun _ h => h.elim) (fun r_47 u t H1 locs ht hvm hw hB hz1 hk1 hS => ?_)
                          replace hP := ro_kept hP hk1
                          obtain rfl : r_47 = _ := hw
                          clear hk1 hz1 hvm ht hB
                          generalize H1 = H at hP hS ⊢
                          rw [show (mt_cnt τ (mt_m τ)) = mt_mn τ from hM.ms.1]
                          clear hcz46 hgz46
                          refine lv_sipush (v := (nI 400)) hx hb dX5_method_125 (by decide) ?_
                          refine lv_icmp_ne (tgt := 134) hx hb dX5_method_128 (by decide) (fun c_48 => ?_) (fun c_48 => ?_)
                          · have hn4 : mt_mn τ < 400 := by have h60 : ¬ mt_mn τ = 400 := fun e => absurd (congrArg nI e) c_48; omega
                            refine pl_new (D := D) (ci := 5) (fs := [.int 0, .int 0, .int 0, .null, .int 0, .int 0, .int 0]) (C := RX4) (T := TX4) (N := 7) hx hb hts (by decide +kernel) tyX4 tyX4_ok hown (hts (.classLink RX5 36 RX4) (by decide +kernel)) (hts (.instantiable RX4 7) (by decide +kernel)) (hts (.initialized RX4) (by decide +kernel)) hK.1 hP hD hS hA rfl (by decide) (Nat.le_of_ble_eq_true rfl) (Nat.le_of_ble_eq_true rfl) dX5_method_134 (fun q134 H hq hAq hP hS => ?_)
                            have hqs : sz ≤ q134 := hAq.resolve_left (fun z => hq (hE.mem z))
                            obtain ⟨f49, hf49⟩ : ∃ z, z = va_up f q134 (.inr (5, [.int 0, .int 0, .int 0, .null, .int 0, .int 0, .int 0])) := ⟨_, rfl⟩
                            rw [← hf49] at hP
                            have F_mt_xτ_49 : f49 (mt_x τ) = .inr (6, [.ref (mt_c τ), .ref (mt_m τ), .int (mt_mark τ)]) := by rw [hf49, va_up_ne _ _ (show (mt_x τ) ≠ q134 from fun e9 => hq (e9 ▸ hM.x.1))]; exact hM.x.2
                            have M_mt_xτ_49 := List.mem_append_left [q134] hM.x.1
                            have F_mt_cτ_49 : f49 (mt_c τ) = .inr (0, [.int mcz5, .ref (ls_dat (mt_ls τ) (mt_c τ)), .int (nI (mt_cnt τ (mt_c τ)))]) := by rw [hf49, va_up_ne _ _ (show (mt_c τ) ≠ q134 from fun e9 => hq (e9 ▸ hM.c.1))]; exact hfz5
                            have M_mt_cτ_49 := List.mem_append_left [q134] hM.c.1
                            have F_mt_caτmt_nτ1_49 : f49 (mt_ca τ (mt_n τ - 1)) = .inr (4, [.int (nI (mt_n τ - 1)), .int (mt_pk τ (mt_n τ - 1)), va_rf ((mt_pr τ (mt_n τ - 1)).map (mt_ca τ)), .int (mt_fc τ (mt_n τ - 1)), .ref (mt_fa τ (mt_n τ - 1)), .ref (mt_ma τ (mt_n τ - 1)), .ref (mt_aa τ (mt_n τ - 1)), .int (mt_pt τ (mt_n τ - 1)), .int (mt_mk τ (mt_n τ - 1))]) := by rw [hf49, va_up_ne _ _ (show (mt_ca τ (mt_n τ - 1)) ≠ q134 from fun e9 => hq (e9 ▸ (hM.cl hzi).1))]; exact (hM.cl hzi).2.1
                            have M_mt_caτmt_nτ1_49 := List.mem_append_left [q134] (hM.cl hzi).1
                            have F_mt_mτ_49 : f49 (mt_m τ) = .inr (0, [.int mcz46, .ref (ls_dat (mt_ls τ) (mt_m τ)), .int (nI (mt_cnt τ (mt_m τ)))]) := by rw [hf49, va_up_ne _ _ (show (mt_m τ) ≠ q134 from fun e9 => hq (e9 ▸ hM.m.1))]; exact hfz46
                            have M_mt_mτ_49 := List.mem_append_left [q134] hM.m.1
                            have F_q134_49 : f49 q134 = .inr (5, [.int 0, .int 0, .int 0, .null, .int 0, .int 0, .int 0]) := by rw [hf49]; exact va_up_self _ _ _
                            have M_q134_49 : q134 ∈ L ++ [q134] := List.mem_append_right _ (List.mem_singleton.mpr rfl)
                            replace hE : pext L sz (L ++ [q134]) := hE.tr (Nat.le_refl _) (pext.one hE.nd hq hqs)
                            have hD : va_D (mA L sz) (va_pl (L ++ [q134]) f49) := hE.D
                            have hqq134 := hq
                            have hqsq134 := hqs
                            clear hq hqs hAq
                            refine lv_dup hx hb dX5_method_137 rfl ?_
                            refine lv_aload_n hx hb dX5_method_138 rfl (lv_at hl 1 rfl) ?_
                            refine pl_get (D := D) (ci := 6) (v := .ref (mt_m τ)) (C := RX5) (T := TX5) (N := 3) hx hb hts (by decide +kernel) hown hK.1 hP M_mt_xτ_49 F_mt_xτ_49 rfl 1 (by decide) (hts (.fieldLink RX5 16 "ChooseTreeModel" "methods" "Ljava/util/ArrayList;") (by decide +kernel)) (fun _ h9 => h9) rfl dX5_method_139 ?_
                            refine va_calli (va_runV (As := []) (rest := [.ref q134, .ref q134]) ⟨hx, hb, hml, hown, hts⟩ (c_Jx4a65c_size_8abf5 l D cO mi (L ++ [q134]) f49 (mt_m τ) M_mt_mτ_49 mcz46 (ls_dat (mt_ls τ) (mt_m τ)) (mt_cnt τ (mt_m τ)) F_mt_mτ_49) (cwV 0 hts gX5_method_Jx4a65c_size_8abf5 rfl rfl rfl (by decide +kernel) ⟨Nat.le_of_ble_eq_true rfl, Nat.le_of_ble_eq_true rfl⟩) (mP_V hK hP 0 rfl M_mt_mτ_49 F_mt_mτ_49) rfl rfl hl.1 rfl (lv_room (Nat.le_of_ble_eq_true rfl)) dX5_method_142 ⟨Nat.le_of_ble_eq_true rfl, Nat.le_of_ble_eq_true rfl⟩) hS (fun _ _ h => h.elim) (fun _ h => h.elim) (fun r_50 u t H1 locs ht hvm hw hB hz1 hk1 hS => ?_)
                            replace hP := ro_kept hP hk1
                            obtain rfl : r_50 = _ := hw
                            clear hk1 hz1 hvm ht hB
                            generalize H1 = H at hP hS ⊢
                            rw [show (mt_cnt τ (mt_m τ)) = mt_mn τ from hM.ms.1]
                            refine lv_aload hx hb dX5_method_145 (lv_at hl 0 rfl) ?_
                            refine lv_iload_n hx hb dX5_method_147 rfl (lv_at hl 3 rfl) ?_
                            refine lv_iload_n hx hb dX5_method_148 rfl (lv_at hl 4 rfl) ?_
                            refine lv_iload hx hb dX5_method_149 (lv_at hl 5 rfl) ?_
                            have hszH : sz ≤ H.size := by have := hS.1; omega
                            have hPold := hP
                            refine va_callv (va_runI (As := [.int (nI (mt_mn τ)), .ref (mt_ca τ (mt_n τ - 1)), .int zx2, .int zx3, .int zx4]) (rest := [.ref q134]) ⟨hx, hb, hml, hown, hts⟩ (c_X4_init l D cO mi e0 (L ++ [q134]) f49 H.size hE.nd q134 M_q134_49 (nI (mt_mn τ)) (mt_ca τ (mt_n τ - 1)) zx2 zx3 zx4 F_q134_49) (cwI 5 hts gX5_method_X4_init rfl rfl rfl (hts (.initialized RX4) (by decide +kernel)) (hts (.methodLink RX5 62 yX4_init) (by decide +kernel)) (hts (.instanceMethod yX4_init) (by decide +kernel)) rfl (by decide +kernel) ⟨Nat.le_of_ble_eq_true rfl, Nat.le_of_ble_eq_true rfl⟩) (mW_S hK hJ hS (hE.sub (by have := hS.1; omega)) hP) rfl rfl hl.1 rfl (lv_room (Nat.le_of_ble_eq_true rfl)) dX5_method_151 ⟨Nat.le_of_ble_eq_true rfl, Nat.le_of_ble_eq_true rfl⟩) hS (fun q _ h => (hE.sub (by have := hS.1; omega)) q h) (hE.sub (by have := hS.1; omega)) (fun u t H1 locs ht hvm hw hB hz1 hk1 hS => ?_)
                            obtain ⟨L51, f51⟩ := u
                            obtain ⟨hw, hE1⟩ := hw
                            replace hB : va_P D vwCl (va_pl L51 f51) t.heap := hB
                            rw [ht] at hB
                            replace hE : pext L sz L51 := hE.tr (hszH) hE1
                            obtain ⟨hL1, hf51⟩ := Prod.mk.inj hw
                            replace hL1 : L51 = L ++ [q134] := hL1
                            subst hL1
                            have he8 : e0 < sz := hJ.lt.2
                            have hcq : f51 q134 = .inr (5, [.int (nI (mt_mn τ)), .int zx2, .int zx3, .ref (mt_ca τ (mt_n τ - 1)), .int (t_fl1 zx4), .int (t_fl2 zx4), .int (t_fl3 zx4)]) := by rw [hf51]; exact va_up_self _ _ _
                            have hM1 : MI e0 cO (L ++ [q134]) f51 (mt_setls τ (ls_ext (mt_ls τ) [q134] e0)) := hM.newM ⟨hqq134, by omega⟩ hcq (fun y hy => by have hne : y ≠ q134 := fun e9 => hqq134 (e9 ▸ hy); rw [hf51, va_up_ne _ _ hne, hf49, va_up_ne _ _ hne])
                            have hmq : mobj (L ++ [q134]) f51 q134 := ⟨by simp, 5, _, hcq, Or.inr rfl⟩
                            have hx9 : f51 (mt_x τ) = .inr (6, [.ref (mt_c τ), .ref (mt_m τ), .int (mt_mark τ)]) := hM1.x.2
                            have hx8 : mt_x τ ∈ L ++ [q134] := hM1.x.1
                            clear hPold hP hk1 hz1 hvm ht hszH hE1
                            have hP := hB
                            clear hB
                            generalize H1 = H at hP hS ⊢
                            have hD : va_D (mA L sz) (va_pl (L ++ [q134]) f51) := hE.D
                            refine lv_astore (lv' := [(6, .ref q134), (5, .ref (mt_ca τ (mt_n τ - 1))), (0, .ref (mt_x τ)), (1, .int (nI (mt_n τ - 1))), (2, .int zx2), (3, .int zx3), (4, .int zx4)]) hx hb dX5_method_154 hl (by decide) rfl (fun ls hl => ?_)
                            refine lv_aload_n hx hb dX5_method_156 rfl (lv_at hl 2 rfl) ?_
                            refine pl_get (D := D) (ci := 6) (v := .ref (mt_m τ)) (C := RX5) (T := TX5) (N := 3) hx hb hts (by decide +kernel) hown hK.1 hP hx8 hx9 rfl 1 (by decide) (hts (.fieldLink RX5 16 "ChooseTreeModel" "methods" "Ljava/util/ArrayList;") (by decide +kernel)) (fun _ h9 => h9) rfl dX5_method_157 ?_
                            refine lv_aload hx hb dX5_method_160 (lv_at hl 0 rfl) ?_
                            obtain ⟨mcA, gA, hfA, hgA, hcA⟩ := hM1.ly.raw (b := (mt_m τ)) hM1.m.1 hM1.m.2
                            have hszH : sz ≤ H.size := by have := hS.1; omega
                            have hPold := hP
                            refine va_calli (va_runV (As := [.ref q134]) (rest := []) ⟨hx, hb, hml, hown, hts⟩ (c_Jx4a65c_addU l D cO mi e0 (L ++ [q134]) f51 H.size hE.nd (mt_m τ) hM1.m.1 mcA (ls_dat (ls_ext (mt_ls τ) [q134] e0) (mt_m τ)) (ls_cnt (ls_ext (mt_ls τ) [q134] e0) (mt_m τ)) hfA q134 hmq (ls_cap (ls_ext (mt_ls τ) [q134] e0) (mt_m τ)) (ls_grow (ls_ext (mt_ls τ) [q134] e0) (mt_m τ)) gA hgA 600 (ls_grow_le (K := 400) (show ls_cnt (ls_ext (mt_ls τ) [q134] e0) (mt_m τ) < 400 from Nat.lt_of_le_of_lt (Nat.le_of_eq hM1.ms.1) hn4) (by omega))) (cwV 1 hts gX5_method_Jx4a65c_add_9ea2d rfl rfl rfl (by decide +kernel) ⟨Nat.le_of_ble_eq_true rfl, Nat.le_of_ble_eq_true rfl⟩) (mW_V hK hJ hS (hE.sub (by have := hS.1; omega)) hP 0 rfl hM1.m.1 hfA) rfl rfl hl.1 rfl (lv_room (Nat.le_of_ble_eq_true rfl)) dX5_method_162 ⟨Nat.le_of_ble_eq_true rfl, Nat.le_of_ble_eq_true rfl⟩) hS (fun q _ h => (hE.sub (by have := hS.1; omega)) q h) (hE.sub (by have := hS.1; omega)) (fun r_52 u t H1 locs ht hvm hw hB hz1 hk1 hS => ?_)
                            obtain ⟨L52, f52⟩ := u
                            obtain ⟨hw, hE1⟩ := hw
                            replace hB : va_P D vwCl (va_pl L52 f52) t.heap := hB
                            rw [ht] at hB
                            replace hE : pext L sz L52 := hE.tr (hszH) hE1
                            have he9 : e0 < H.size := Nat.lt_of_lt_of_le hJ.lt.2 hszH
                            obtain ⟨hr1, hw⟩ := hw
                            subst hr1
                            obtain ⟨d2, n2, hM2⟩ := hM1.addM hn4 (q := q134) (ow := (mt_n τ - 1)) (nm := zx2) (si := zx3) (st := t_fl1 zx4) (fi := t_fl2 zx4) (ab := t_fl3 zx4) hmq.1 hcq hzi hfA hcA he9 hE1 hw
                            replace hM2 : MI e0 cO L52 f52 (mt_setls (mt_addm τ q134 zx2 zx3 (mt_n τ - 1) (t_fl1 zx4) (t_fl2 zx4) (t_fl3 zx4)) (ls_add (ls_ext (mt_ls τ) [q134] e0) (mt_m τ) q134 d2 n2)) := hM2
                            have hja : mt_ja (mt_setls (mt_addm τ q134 zx2 zx3 (mt_n τ - 1) (t_fl1 zx4) (t_fl2 zx4) (t_fl3 zx4)) (ls_add (ls_ext (mt_ls τ) [q134] e0) (mt_m τ) q134 d2 n2)) (mt_mn τ) = q134 := va_up_self _ _ _
                            have hme := hM2.me (j := mt_mn τ) (Nat.lt_succ_self _)
                            rw [MIm, hja] at hme
                            have hcq2 : f52 q134 = .inr (5, [.int (nI (mt_mn τ)), .int zx2, .int zx3, .ref (mt_ca τ (mt_n τ - 1)), .int (t_fl1 zx4), .int (t_fl2 zx4), .int (t_fl3 zx4)]) := by rw [hme.2.1]; simp only [mt_setls, mt_addm, mt_nm, mt_si, mt_ow, mt_st, mt_fi, mt_ab, va_up_self]
                            have hc9 : f52 (mt_ca τ (mt_n τ - 1)) = .inr (4, [.int (nI (mt_n τ - 1)), .int (mt_pk τ (mt_n τ - 1)), va_rf ((mt_pr τ (mt_n τ - 1)).map (mt_ca τ)), .int (mt_fc τ (mt_n τ - 1)), .ref (mt_fa τ (mt_n τ - 1)), .ref (mt_ma τ (mt_n τ - 1)), .ref (mt_aa τ (mt_n τ - 1)), .int (mt_pt τ (mt_n τ - 1)), .int (mt_mk τ (mt_n τ - 1))]) := (hM2.cl hzi).2.1
                            have hc8 : mt_ca τ (mt_n τ - 1) ∈ L52 := (hM2.cl hzi).1
                            have hct : ls_cnt (ls_add (ls_ext (mt_ls τ) [q134] e0) (mt_m τ) q134 d2 n2) (mt_ma τ (mt_n τ - 1)) ≤ mt_mn τ := by rw [(ls_add_ne (ls_ext (mt_ls τ) [q134] e0) (x := q134) (d2 := d2) (n2 := n2) (hM.maNm hzi)).1, show ls_cnt (ls_ext (mt_ls τ) [q134] e0) (mt_ma τ (mt_n τ - 1)) = ls_cnt (mt_ls τ) (mt_ma τ (mt_n τ - 1)) from if_neg (fun z => hqq134 (by rw [← List.mem_singleton.mp z]; exact (hM.ma hzi).1))]; exact (hM.cl hzi).2.2.2.2.1.1
                            have hmq2 : mobj L52 f52 q134 := ⟨hme.1, 5, _, hcq2, Or.inr rfl⟩
                            clear hfA hcA hgA hw
                            have hma : (mt_ma τ (mt_n τ - 1)) ∈ L52 ∧ isAL f52 (mt_ma τ (mt_n τ - 1)) := hM2.ma hzi
                            clear he9
                            clear hPold hP hk1 hz1 hvm ht hszH hE1
                            have hP := hB
                            clear hB
                            generalize H1 = H at hP hS ⊢
                            have hD : va_D (mA L sz) (va_pl L52 f52) := hE.D
                            refine lv_pop hx hb dX5_method_165 rfl ?_
                            refine lv_aload hx hb dX5_method_166 (lv_at hl 1 rfl) ?_
                            refine pl_get (D := D) (ci := 4) (v := .ref (mt_ma τ (mt_n τ - 1))) (C := RX3) (T := TX3) (N := 9) hx hb hts (by decide +kernel) hown hK.1 hP hc8 hc9 rfl 5 (by decide) (hts (.fieldLink RX5 46 "ChooseTreeModel$Cls" "methods" "Ljava/util/ArrayList;") (by decide +kernel)) (fun _ h9 => h9) rfl dX5_method_168 ?_
                            refine lv_aload hx hb dX5_method_171 (lv_at hl 0 rfl) ?_
                            obtain ⟨mcA, gA, hfA, hgA, hcA⟩ := hM2.ly.raw (b := (mt_ma τ (mt_n τ - 1))) hma.1 hma.2
                            have hszH : sz ≤ H.size := by have := hS.1; omega
                            have hPold := hP
                            refine va_calli (va_runV (As := [.ref q134]) (rest := []) ⟨hx, hb, hml, hown, hts⟩ (c_Jx4a65c_addU l D cO mi e0 L52 f52 H.size hE.nd (mt_ma τ (mt_n τ - 1)) hma.1 mcA (ls_dat (ls_add (ls_ext (mt_ls τ) [q134] e0) (mt_m τ) q134 d2 n2) (mt_ma τ (mt_n τ - 1))) (ls_cnt (ls_add (ls_ext (mt_ls τ) [q134] e0) (mt_m τ) q134 d2 n2) (mt_ma τ (mt_n τ - 1))) hfA q134 hmq2 (ls_cap (ls_add (ls_ext (mt_ls τ) [q134] e0) (mt_m τ) q134 d2 n2) (mt_ma τ (mt_n τ - 1))) (ls_grow (ls_add (ls_ext (mt_ls τ) [q134] e0) (mt_m τ) q134 d2 n2) (mt_ma τ (mt_n τ - 1))) gA hgA 600 (ls_grow_le (K := 400) (show ls_cnt (ls_add (ls_ext (mt_ls τ) [q134] e0) (mt_m τ) q134 d2 n2) (mt_ma τ (mt_n τ - 1)) < 400 from Nat.lt_of_le_of_lt hct hn4) (by omega))) (cwV 1 hts gX5_method_Jx4a65c_add_9ea2d rfl rfl rfl (by decide +kernel) ⟨Nat.le_of_ble_eq_true rfl, Nat.le_of_ble_eq_true rfl⟩) (mW_V hK hJ hS (hE.sub (by have := hS.1; omega)) hP 0 rfl hma.1 hfA) rfl rfl hl.1 rfl (lv_room (Nat.le_of_ble_eq_true rfl)) dX5_method_173 ⟨Nat.le_of_ble_eq_true rfl, Nat.le_of_ble_eq_true rfl⟩) hS (fun q _ h => (hE.sub (by have := hS.1; omega)) q h) (hE.sub (by have := hS.1; omega)) (fun r_53 u t H1 locs ht hvm hw hB hz1 hk1 hS => ?_)
                            obtain ⟨L53, f53⟩ := u
                            obtain ⟨hw, hE1⟩ := hw
                            replace hB : va_P D vwCl (va_pl L53 f53) t.heap := hB
                            rw [ht] at hB
                            replace hE : pext L sz L53 := hE.tr (hszH) hE1
                            have he9 : e0 < H.size := Nat.lt_of_lt_of_le hJ.lt.2 hszH
                            obtain ⟨hr1, hw⟩ := hw
                            subst hr1
                            obtain ⟨d3, n3, hM3⟩ := hM2.addN (i := (mt_n τ - 1)) (k := mt_mn τ) hzi (Nat.lt_succ_self _) hfA hcA he9 hE1 (Nat.lt_succ_of_le hct) (by rw [hja]; exact hw)
                            rw [hja] at hM3
                            replace hM3 : MI e0 cO L53 f53 (mt_setls (mt_setml (mt_addm τ q134 zx2 zx3 (mt_n τ - 1) (t_fl1 zx4) (t_fl2 zx4) (t_fl3 zx4)) (va_up (mt_ml τ) (mt_n τ - 1) (va_up (mt_ml τ (mt_n τ - 1)) (ls_cnt (ls_add (ls_ext (mt_ls τ) [q134] e0) (mt_m τ) q134 d2 n2) (mt_ma τ (mt_n τ - 1))) (mt_mn τ)))) (ls_add (ls_add (ls_ext (mt_ls τ) [q134] e0) (mt_m τ) q134 d2 n2) (mt_ma τ (mt_n τ - 1)) q134 d3 n3)) := hM3
                            have hme3 := hM3.me (j := mt_mn τ) (Nat.lt_succ_self _)
                            have hja3 : mt_ja (mt_setls (mt_setml (mt_addm τ q134 zx2 zx3 (mt_n τ - 1) (t_fl1 zx4) (t_fl2 zx4) (t_fl3 zx4)) (va_up (mt_ml τ) (mt_n τ - 1) (va_up (mt_ml τ (mt_n τ - 1)) (ls_cnt (ls_add (ls_ext (mt_ls τ) [q134] e0) (mt_m τ) q134 d2 n2) (mt_ma τ (mt_n τ - 1))) (mt_mn τ)))) (ls_add (ls_add (ls_ext (mt_ls τ) [q134] e0) (mt_m τ) q134 d2 n2) (mt_ma τ (mt_n τ - 1)) q134 d3 n3)) (mt_mn τ) = q134 := va_up_self _ _ _
                            rw [MIm, hja3] at hme3
                            have hcq3 : f53 q134 = .inr (5, [.int (nI (mt_mn τ)), .int zx2, .int zx3, .ref (mt_ca τ (mt_n τ - 1)), .int (t_fl1 zx4), .int (t_fl2 zx4), .int (t_fl3 zx4)]) := by rw [hme3.2.1]; simp only [mt_setls, mt_setml, mt_addm, mt_nm, mt_si, mt_ow, mt_st, mt_fi, mt_ab, va_up_self]
                            clear he9
                            clear hPold hP hk1 hz1 hvm ht hszH hE1
                            have hP := hB
                            clear hB
                            generalize H1 = H at hP hS ⊢
                            have hD : va_D (mA L sz) (va_pl L53 f53) := hE.D
                            refine lv_pop hx hb dX5_method_176 rfl ?_
                            refine lv_aload hx hb dX5_method_177 (lv_at hl 0 rfl) ?_
                            refine pl_get (D := D) (ci := 5) (v := .int (nI (mt_mn τ))) (C := RX4) (T := TX4) (N := 7) hx hb hts (by decide +kernel) hown hK.1 hP hme3.1 hcq3 rfl 0 (by decide) (hts (.fieldLink RX5 65 "ChooseTreeModel$Met" "number" "I") (by decide +kernel)) (fun _ h9 => h9) rfl dX5_method_179 ?_
                            refine W.widen (k := 3) (n := 1207) (by first | exact Nat.le_refl _ | omega) (by first | exact Nat.le_refl _ | omega) ?_
                            exact W.iret (v := (nI (mt_mn τ))) hx hb hr (fun t ht hW => ⟨⟨(nI (mt_mn τ)), (L53, f53), rfl, ⟨⟨(by simp [t_metR, gr1, gr2, gr3, gr4, gr5, gr6, gr7, gr8, gr9, gr10, gr11, gr12, c_1, c_8, c_9, c_10, c_11, c_12, htzj, c_14, c_15, c_44, c_45, c_48]), Or.inr ⟨rfl, hn4, rfl, q134, d2, n2, d3, n3, hM3, hqq134⟩⟩, hE⟩, show va_P D vwCl (va_pl _ _) t.heap from (by rw [ht]; exact hP)⟩, hS.F ht⟩) hS.2.2 dX5_method_182
                          · refine lv_bipush (v := (-12)) hx hb dX5_method_131 (by decide) ?_
                            refine W.widen (k := 3) (n := 1207) (by first | exact Nat.le_refl _ | omega) (by first | exact Nat.le_refl _ | omega) ?_
                            exact W.iret (v := (-12)) hx hb hr (fun t ht hW => ⟨⟨(-12), (L, f), rfl, ⟨⟨(by simp [t_metR, gr1, gr2, gr3, gr4, gr5, gr6, gr7, gr8, gr9, gr10, gr11, gr12, c_1, c_8, c_9, c_10, c_11, c_12, htzj, c_14, c_15, c_44, c_45, c_48]), Or.inl ⟨by decide, rfl, hM⟩⟩, hE⟩, show va_P D vwCl (va_pl _ _) t.heap from (by rw [ht]; exact hP)⟩, hS.F ht⟩) hS.2.2 dX5_method_133
                        · refine lv_iload_n hx hb dX5_method_100 rfl (lv_at hl 4 rfl) ?_
                          refine lv_iconst (v := (nI 1)) hx hb dX5_method_101 (by decide) ?_
                          refine lv_icmp_ne (tgt := 116) hx hb dX5_method_102 (by decide) (fun c_54 => ?_) (fun c_54 => ?_)
                          · refine lv_iconst (v := (-1)) hx hb dX5_method_116 (by decide) ?_
                            refine W.widen (k := 3) (n := 1207) (by first | exact Nat.le_refl _ | omega) (by first | exact Nat.le_refl _ | omega) ?_
                            exact W.iret (v := (-1)) hx hb hr (fun t ht hW => ⟨⟨(-1), (L, f), rfl, ⟨⟨(by simp [t_metR, gr1, gr2, gr3, gr4, gr5, gr6, gr7, gr8, gr9, gr10, gr11, gr12, c_1, c_8, c_9, c_10, c_11, c_12, htzj, c_14, c_15, c_44, c_45, c_54]), Or.inl ⟨by decide, rfl, hM⟩⟩, hE⟩, show va_P D vwCl (va_pl _ _) t.heap from (by rw [ht]; exact hP)⟩, hS.F ht⟩) hS.2.2 dX5_method_117
                          · refine lv_iload hx hb dX5_method_105 (lv_at hl 5 rfl) ?_
                            refine lv_if_eq (tgt := 118) hx hb dX5_method_107 (by decide) (fun c_55 => ?_) (fun c_55 => ?_)
                            · refine lv_aload_n hx hb dX5_method_118 rfl (lv_at hl 1 rfl) ?_
                              refine pl_get (D := D) (ci := 6) (v := .ref (mt_m τ)) (C := RX5) (T := TX5) (N := 3) hx hb hts (by decide +kernel) hown hK.1 hP hM.x.1 hM.x.2 rfl 1 (by decide) (hts (.fieldLink RX5 16 "ChooseTreeModel" "methods" "Ljava/util/ArrayList;") (by decide +kernel)) (fun _ h9 => h9) rfl dX5_method_119 ?_
                              obtain ⟨mcz56, gz56, hfz56, hgz56, hcz56⟩ := hM.ly.raw (b := (mt_m τ)) hM.m.1 hM.m.2
                              refine va_calli (va_runV (As := []) (rest := []) ⟨hx, hb, hml, hown, hts⟩ (c_Jx4a65c_size_8abf5 l D cO mi L f (mt_m τ) hM.m.1 mcz56 (ls_dat (mt_ls τ) (mt_m τ)) (mt_cnt τ (mt_m τ)) hfz56) (cwV 0 hts gX5_method_Jx4a65c_size_8abf5 rfl rfl rfl (by decide +kernel) ⟨Nat.le_of_ble_eq_true rfl, Nat.le_of_ble_eq_true rfl⟩) (mP_V hK hP 0 rfl hM.m.1 hfz56) rfl rfl hl.1 rfl (lv_room (Nat.le_of_ble_eq_true rfl)) dX5_method_122 ⟨Nat.le_of_ble_eq_true rfl, Nat.le_of_ble_eq_true rfl⟩) hS (fun _ _ h => h.elim) (fun _ h => h.elim) (fun r_57 u t H1 locs ht hvm hw hB hz1 hk1 hS => ?_)
                              replace hP := ro_kept hP hk1
                              obtain rfl : r_57 = _ := hw
                              clear hk1 hz1 hvm ht hB
                              generalize H1 = H at hP hS ⊢
                              rw [show (mt_cnt τ (mt_m τ)) = mt_mn τ from hM.ms.1]
                              clear hcz56 hgz56
                              refine lv_sipush (v := (nI 400)) hx hb dX5_method_125 (by decide) ?_
                              refine lv_icmp_ne (tgt := 134) hx hb dX5_method_128 (by decide) (fun c_58 => ?_) (fun c_58 => ?_)
                              · have hn4 : mt_mn τ < 400 := by have h60 : ¬ mt_mn τ = 400 := fun e => absurd (congrArg nI e) c_58; omega
                                refine pl_new (D := D) (ci := 5) (fs := [.int 0, .int 0, .int 0, .null, .int 0, .int 0, .int 0]) (C := RX4) (T := TX4) (N := 7) hx hb hts (by decide +kernel) tyX4 tyX4_ok hown (hts (.classLink RX5 36 RX4) (by decide +kernel)) (hts (.instantiable RX4 7) (by decide +kernel)) (hts (.initialized RX4) (by decide +kernel)) hK.1 hP hD hS hA rfl (by decide) (Nat.le_of_ble_eq_true rfl) (Nat.le_of_ble_eq_true rfl) dX5_method_134 (fun q134 H hq hAq hP hS => ?_)
                                have hqs : sz ≤ q134 := hAq.resolve_left (fun z => hq (hE.mem z))
                                obtain ⟨f59, hf59⟩ : ∃ z, z = va_up f q134 (.inr (5, [.int 0, .int 0, .int 0, .null, .int 0, .int 0, .int 0])) := ⟨_, rfl⟩
                                rw [← hf59] at hP
                                have F_mt_xτ_59 : f59 (mt_x τ) = .inr (6, [.ref (mt_c τ), .ref (mt_m τ), .int (mt_mark τ)]) := by rw [hf59, va_up_ne _ _ (show (mt_x τ) ≠ q134 from fun e9 => hq (e9 ▸ hM.x.1))]; exact hM.x.2
                                have M_mt_xτ_59 := List.mem_append_left [q134] hM.x.1
                                have F_mt_cτ_59 : f59 (mt_c τ) = .inr (0, [.int mcz5, .ref (ls_dat (mt_ls τ) (mt_c τ)), .int (nI (mt_cnt τ (mt_c τ)))]) := by rw [hf59, va_up_ne _ _ (show (mt_c τ) ≠ q134 from fun e9 => hq (e9 ▸ hM.c.1))]; exact hfz5
                                have M_mt_cτ_59 := List.mem_append_left [q134] hM.c.1
                                have F_mt_caτmt_nτ1_59 : f59 (mt_ca τ (mt_n τ - 1)) = .inr (4, [.int (nI (mt_n τ - 1)), .int (mt_pk τ (mt_n τ - 1)), va_rf ((mt_pr τ (mt_n τ - 1)).map (mt_ca τ)), .int (mt_fc τ (mt_n τ - 1)), .ref (mt_fa τ (mt_n τ - 1)), .ref (mt_ma τ (mt_n τ - 1)), .ref (mt_aa τ (mt_n τ - 1)), .int (mt_pt τ (mt_n τ - 1)), .int (mt_mk τ (mt_n τ - 1))]) := by rw [hf59, va_up_ne _ _ (show (mt_ca τ (mt_n τ - 1)) ≠ q134 from fun e9 => hq (e9 ▸ (hM.cl hzi).1))]; exact (hM.cl hzi).2.1
                                have M_mt_caτmt_nτ1_59 := List.mem_append_left [q134] (hM.cl hzi).1
                                have F_mt_mτ_59 : f59 (mt_m τ) = .inr (0, [.int mcz56, .ref (ls_dat (mt_ls τ) (mt_m τ)), .int (nI (mt_cnt τ (mt_m τ)))]) := by rw [hf59, va_up_ne _ _ (show (mt_m τ) ≠ q134 from fun e9 => hq (e9 ▸ hM.m.1))]; exact hfz56
                                have M_mt_mτ_59 := List.mem_append_left [q134] hM.m.1
                                have F_q134_59 : f59 q134 = .inr (5, [.int 0, .int 0, .int 0, .null, .int 0, .int 0, .int 0]) := by rw [hf59]; exact va_up_self _ _ _
                                have M_q134_59 : q134 ∈ L ++ [q134] := List.mem_append_right _ (List.mem_singleton.mpr rfl)
                                replace hE : pext L sz (L ++ [q134]) := hE.tr (Nat.le_refl _) (pext.one hE.nd hq hqs)
                                have hD : va_D (mA L sz) (va_pl (L ++ [q134]) f59) := hE.D
                                have hqq134 := hq
                                have hqsq134 := hqs
                                clear hq hqs hAq
                                refine lv_dup hx hb dX5_method_137 rfl ?_
                                refine lv_aload_n hx hb dX5_method_138 rfl (lv_at hl 1 rfl) ?_
                                refine pl_get (D := D) (ci := 6) (v := .ref (mt_m τ)) (C := RX5) (T := TX5) (N := 3) hx hb hts (by decide +kernel) hown hK.1 hP M_mt_xτ_59 F_mt_xτ_59 rfl 1 (by decide) (hts (.fieldLink RX5 16 "ChooseTreeModel" "methods" "Ljava/util/ArrayList;") (by decide +kernel)) (fun _ h9 => h9) rfl dX5_method_139 ?_
                                refine va_calli (va_runV (As := []) (rest := [.ref q134, .ref q134]) ⟨hx, hb, hml, hown, hts⟩ (c_Jx4a65c_size_8abf5 l D cO mi (L ++ [q134]) f59 (mt_m τ) M_mt_mτ_59 mcz56 (ls_dat (mt_ls τ) (mt_m τ)) (mt_cnt τ (mt_m τ)) F_mt_mτ_59) (cwV 0 hts gX5_method_Jx4a65c_size_8abf5 rfl rfl rfl (by decide +kernel) ⟨Nat.le_of_ble_eq_true rfl, Nat.le_of_ble_eq_true rfl⟩) (mP_V hK hP 0 rfl M_mt_mτ_59 F_mt_mτ_59) rfl rfl hl.1 rfl (lv_room (Nat.le_of_ble_eq_true rfl)) dX5_method_142 ⟨Nat.le_of_ble_eq_true rfl, Nat.le_of_ble_eq_true rfl⟩) hS (fun _ _ h => h.elim) (fun _ h => h.elim) (fun r_60 u t H1 locs ht hvm hw hB hz1 hk1 hS => ?_)
                                replace hP := ro_kept hP hk1
                                obtain rfl : r_60 = _ := hw
                                clear hk1 hz1 hvm ht hB
                                generalize H1 = H at hP hS ⊢
                                rw [show (mt_cnt τ (mt_m τ)) = mt_mn τ from hM.ms.1]
                                refine lv_aload hx hb dX5_method_145 (lv_at hl 0 rfl) ?_
                                refine lv_iload_n hx hb dX5_method_147 rfl (lv_at hl 3 rfl) ?_
                                refine lv_iload_n hx hb dX5_method_148 rfl (lv_at hl 4 rfl) ?_
                                refine lv_iload hx hb dX5_method_149 (lv_at hl 5 rfl) ?_
                                have hszH : sz ≤ H.size := by have := hS.1; omega
                                have hPold := hP
                                refine va_callv (va_runI (As := [.int (nI (mt_mn τ)), .ref (mt_ca τ (mt_n τ - 1)), .int zx2, .int zx3, .int zx4]) (rest := [.ref q134]) ⟨hx, hb, hml, hown, hts⟩ (c_X4_init l D cO mi e0 (L ++ [q134]) f59 H.size hE.nd q134 M_q134_59 (nI (mt_mn τ)) (mt_ca τ (mt_n τ - 1)) zx2 zx3 zx4 F_q134_59) (cwI 5 hts gX5_method_X4_init rfl rfl rfl (hts (.initialized RX4) (by decide +kernel)) (hts (.methodLink RX5 62 yX4_init) (by decide +kernel)) (hts (.instanceMethod yX4_init) (by decide +kernel)) rfl (by decide +kernel) ⟨Nat.le_of_ble_eq_true rfl, Nat.le_of_ble_eq_true rfl⟩) (mW_S hK hJ hS (hE.sub (by have := hS.1; omega)) hP) rfl rfl hl.1 rfl (lv_room (Nat.le_of_ble_eq_true rfl)) dX5_method_151 ⟨Nat.le_of_ble_eq_true rfl, Nat.le_of_ble_eq_true rfl⟩) hS (fun q _ h => (hE.sub (by have := hS.1; omega)) q h) (hE.sub (by have := hS.1; omega)) (fun u t H1 locs ht hvm hw hB hz1 hk1 hS => ?_)
                                obtain ⟨L61, f61⟩ := u
                                obtain ⟨hw, hE1⟩ := hw
                                replace hB : va_P D vwCl (va_pl L61 f61) t.heap := hB
                                rw [ht] at hB
                                replace hE : pext L sz L61 := hE.tr (hszH) hE1
                                obtain ⟨hL1, hf61⟩ := Prod.mk.inj hw
                                replace hL1 : L61 = L ++ [q134] := hL1
                                subst hL1
                                have he8 : e0 < sz := hJ.lt.2
                                have hcq : f61 q134 = .inr (5, [.int (nI (mt_mn τ)), .int zx2, .int zx3, .ref (mt_ca τ (mt_n τ - 1)), .int (t_fl1 zx4), .int (t_fl2 zx4), .int (t_fl3 zx4)]) := by rw [hf61]; exact va_up_self _ _ _
                                have hM1 : MI e0 cO (L ++ [q134]) f61 (mt_setls τ (ls_ext (mt_ls τ) [q134] e0)) := hM.newM ⟨hqq134, by omega⟩ hcq (fun y hy => by have hne : y ≠ q134 := fun e9 => hqq134 (e9 ▸ hy); rw [hf61, va_up_ne _ _ hne, hf59, va_up_ne _ _ hne])
                                have hmq : mobj (L ++ [q134]) f61 q134 := ⟨by simp, 5, _, hcq, Or.inr rfl⟩
                                have hx9 : f61 (mt_x τ) = .inr (6, [.ref (mt_c τ), .ref (mt_m τ), .int (mt_mark τ)]) := hM1.x.2
                                have hx8 : mt_x τ ∈ L ++ [q134] := hM1.x.1
                                clear hPold hP hk1 hz1 hvm ht hszH hE1
                                have hP := hB
                                clear hB
                                generalize H1 = H at hP hS ⊢
                                have hD : va_D (mA L sz) (va_pl (L ++ [q134]) f61) := hE.D
                                refine lv_astore (lv' := [(6, .ref q134), (5, .ref (mt_ca τ (mt_n τ - 1))), (0, .ref (mt_x τ)), (1, .int (nI (mt_n τ - 1))), (2, .int zx2), (3, .int zx3), (4, .int zx4)]) hx hb dX5_method_154 hl (by decide) rfl (fun ls hl => ?_)
                                refine lv_aload_n hx hb dX5_method_156 rfl (lv_at hl 2 rfl) ?_
                                refine pl_get (D := D) (ci := 6) (v := .ref (mt_m τ)) (C := RX5) (T := TX5) (N := 3) hx hb hts (by decide +kernel) hown hK.1 hP hx8 hx9 rfl 1 (by decide) (hts (.fieldLink RX5 16 "ChooseTreeModel" "methods" "Ljava/util/ArrayList;") (by decide +kernel)) (fun _ h9 => h9) rfl dX5_method_157 ?_
                                refine lv_aload hx hb dX5_method_160 (lv_at hl 0 rfl) ?_
                                obtain ⟨mcA, gA, hfA, hgA, hcA⟩ := hM1.ly.raw (b := (mt_m τ)) hM1.m.1 hM1.m.2
                                have hszH : sz ≤ H.size := by have := hS.1; omega
                                have hPold := hP
                                refine va_calli (va_runV (As := [.ref q134]) (rest := []) ⟨hx, hb, hml, hown, hts⟩ (c_Jx4a65c_addU l D cO mi e0 (L ++ [q134]) f61 H.size hE.nd (mt_m τ) hM1.m.1 mcA (ls_dat (ls_ext (mt_ls τ) [q134] e0) (mt_m τ)) (ls_cnt (ls_ext (mt_ls τ) [q134] e0) (mt_m τ)) hfA q134 hmq (ls_cap (ls_ext (mt_ls τ) [q134] e0) (mt_m τ)) (ls_grow (ls_ext (mt_ls τ) [q134] e0) (mt_m τ)) gA hgA 600 (ls_grow_le (K := 400) (show ls_cnt (ls_ext (mt_ls τ) [q134] e0) (mt_m τ) < 400 from Nat.lt_of_le_of_lt (Nat.le_of_eq hM1.ms.1) hn4) (by omega))) (cwV 1 hts gX5_method_Jx4a65c_add_9ea2d rfl rfl rfl (by decide +kernel) ⟨Nat.le_of_ble_eq_true rfl, Nat.le_of_ble_eq_true rfl⟩) (mW_V hK hJ hS (hE.sub (by have := hS.1; omega)) hP 0 rfl hM1.m.1 hfA) rfl rfl hl.1 rfl (lv_room (Nat.le_of_ble_eq_true rfl)) dX5_method_162 ⟨Nat.le_of_ble_eq_true rfl, Nat.le_of_ble_eq_true rfl⟩) hS (fun q _ h => (hE.sub (by have := hS.1; omega)) q h) (hE.sub (by have := hS.1; omega)) (fun r_62 u t H1 locs ht hvm hw hB hz1 hk1 hS => ?_)
                                obtain ⟨L62, f62⟩ := u
                                obtain ⟨hw, hE1⟩ := hw
                                replace hB : va_P D vwCl (va_pl L62 f62) t.heap := hB
                                rw [ht] at hB
                                replace hE : pext L sz L62 := hE.tr (hszH) hE1
                                have he9 : e0 < H.size := Nat.lt_of_lt_of_le hJ.lt.2 hszH
                                obtain ⟨hr1, hw⟩ := hw
                                subst hr1
                                obtain ⟨d2, n2, hM2⟩ := hM1.addM hn4 (q := q134) (ow := (mt_n τ - 1)) (nm := zx2) (si := zx3) (st := t_fl1 zx4) (fi := t_fl2 zx4) (ab := t_fl3 zx4) hmq.1 hcq hzi hfA hcA he9 hE1 hw
                                replace hM2 : MI e0 cO L62 f62 (mt_setls (mt_addm τ q134 zx2 zx3 (mt_n τ - 1) (t_fl1 zx4) (t_fl2 zx4) (t_fl3 zx4)) (ls_add (ls_ext (mt_ls τ) [q134] e0) (mt_m τ) q134 d2 n2)) := hM2
                                have hja : mt_ja (mt_setls (mt_addm τ q134 zx2 zx3 (mt_n τ - 1) (t_fl1 zx4) (t_fl2 zx4) (t_fl3 zx4)) (ls_add (ls_ext (mt_ls τ) [q134] e0) (mt_m τ) q134 d2 n2)) (mt_mn τ) = q134 := va_up_self _ _ _
                                have hme := hM2.me (j := mt_mn τ) (Nat.lt_succ_self _)
                                rw [MIm, hja] at hme
                                have hcq2 : f62 q134 = .inr (5, [.int (nI (mt_mn τ)), .int zx2, .int zx3, .ref (mt_ca τ (mt_n τ - 1)), .int (t_fl1 zx4), .int (t_fl2 zx4), .int (t_fl3 zx4)]) := by rw [hme.2.1]; simp only [mt_setls, mt_addm, mt_nm, mt_si, mt_ow, mt_st, mt_fi, mt_ab, va_up_self]
                                have hc9 : f62 (mt_ca τ (mt_n τ - 1)) = .inr (4, [.int (nI (mt_n τ - 1)), .int (mt_pk τ (mt_n τ - 1)), va_rf ((mt_pr τ (mt_n τ - 1)).map (mt_ca τ)), .int (mt_fc τ (mt_n τ - 1)), .ref (mt_fa τ (mt_n τ - 1)), .ref (mt_ma τ (mt_n τ - 1)), .ref (mt_aa τ (mt_n τ - 1)), .int (mt_pt τ (mt_n τ - 1)), .int (mt_mk τ (mt_n τ - 1))]) := (hM2.cl hzi).2.1
                                have hc8 : mt_ca τ (mt_n τ - 1) ∈ L62 := (hM2.cl hzi).1
                                have hct : ls_cnt (ls_add (ls_ext (mt_ls τ) [q134] e0) (mt_m τ) q134 d2 n2) (mt_ma τ (mt_n τ - 1)) ≤ mt_mn τ := by rw [(ls_add_ne (ls_ext (mt_ls τ) [q134] e0) (x := q134) (d2 := d2) (n2 := n2) (hM.maNm hzi)).1, show ls_cnt (ls_ext (mt_ls τ) [q134] e0) (mt_ma τ (mt_n τ - 1)) = ls_cnt (mt_ls τ) (mt_ma τ (mt_n τ - 1)) from if_neg (fun z => hqq134 (by rw [← List.mem_singleton.mp z]; exact (hM.ma hzi).1))]; exact (hM.cl hzi).2.2.2.2.1.1
                                have hmq2 : mobj L62 f62 q134 := ⟨hme.1, 5, _, hcq2, Or.inr rfl⟩
                                clear hfA hcA hgA hw
                                have hma : (mt_ma τ (mt_n τ - 1)) ∈ L62 ∧ isAL f62 (mt_ma τ (mt_n τ - 1)) := hM2.ma hzi
                                clear he9
                                clear hPold hP hk1 hz1 hvm ht hszH hE1
                                have hP := hB
                                clear hB
                                generalize H1 = H at hP hS ⊢
                                have hD : va_D (mA L sz) (va_pl L62 f62) := hE.D
                                refine lv_pop hx hb dX5_method_165 rfl ?_
                                refine lv_aload hx hb dX5_method_166 (lv_at hl 1 rfl) ?_
                                refine pl_get (D := D) (ci := 4) (v := .ref (mt_ma τ (mt_n τ - 1))) (C := RX3) (T := TX3) (N := 9) hx hb hts (by decide +kernel) hown hK.1 hP hc8 hc9 rfl 5 (by decide) (hts (.fieldLink RX5 46 "ChooseTreeModel$Cls" "methods" "Ljava/util/ArrayList;") (by decide +kernel)) (fun _ h9 => h9) rfl dX5_method_168 ?_
                                refine lv_aload hx hb dX5_method_171 (lv_at hl 0 rfl) ?_
                                obtain ⟨mcA, gA, hfA, hgA, hcA⟩ := hM2.ly.raw (b := (mt_ma τ (mt_n τ - 1))) hma.1 hma.2
                                have hszH : sz ≤ H.size := by have := hS.1; omega
                                have hPold := hP
                                refine va_calli (va_runV (As := [.ref q134]) (rest := []) ⟨hx, hb, hml, hown, hts⟩ (c_Jx4a65c_addU l D cO mi e0 L62 f62 H.size hE.nd (mt_ma τ (mt_n τ - 1)) hma.1 mcA (ls_dat (ls_add (ls_ext (mt_ls τ) [q134] e0) (mt_m τ) q134 d2 n2) (mt_ma τ (mt_n τ - 1))) (ls_cnt (ls_add (ls_ext (mt_ls τ) [q134] e0) (mt_m τ) q134 d2 n2) (mt_ma τ (mt_n τ - 1))) hfA q134 hmq2 (ls_cap (ls_add (ls_ext (mt_ls τ) [q134] e0) (mt_m τ) q134 d2 n2) (mt_ma τ (mt_n τ - 1))) (ls_grow (ls_add (ls_ext (mt_ls τ) [q134] e0) (mt_m τ) q134 d2 n2) (mt_ma τ (mt_n τ - 1))) gA hgA 600 (ls_grow_le (K := 400) (show ls_cnt (ls_add (ls_ext (mt_ls τ) [q134] e0) (mt_m τ) q134 d2 n2) (mt_ma τ (mt_n τ - 1)) < 400 from Nat.lt_of_le_of_lt hct hn4) (by omega))) (cwV 1 hts gX5_method_Jx4a65c_add_9ea2d rfl rfl rfl (by decide +kernel) ⟨Nat.le_of_ble_eq_true rfl, Nat.le_of_ble_eq_true rfl⟩) (mW_V hK hJ hS (hE.sub (by have := hS.1; omega)) hP 0 rfl hma.1 hfA) rfl rfl hl.1 rfl (lv_room (Nat.le_of_ble_eq_true rfl)) dX5_method_173 ⟨Nat.le_of_ble_eq_true rfl, Nat.le_of_ble_eq_true rfl⟩) hS (fun q _ h => (hE.sub (by have := hS.1; omega)) q h) (hE.sub (by have := hS.1; omega)) (fun r_63 u t H1 locs ht hvm hw hB hz1 hk1 hS => ?_)
                                obtain ⟨L63, f63⟩ := u
                                obtain ⟨hw, hE1⟩ := hw
                                replace hB : va_P D vwCl (va_pl L63 f63) t.heap := hB
                                rw [ht] at hB
                                replace hE : pext L sz L63 := hE.tr (hszH) hE1
                                have he9 : e0 < H.size := Nat.lt_of_lt_of_le hJ.lt.2 hszH
                                obtain ⟨hr1, hw⟩ := hw
                                subst hr1
                                obtain ⟨d3, n3, hM3⟩ := hM2.addN (i := (mt_n τ - 1)) (k := mt_mn τ) hzi (Nat.lt_succ_self _) hfA hcA he9 hE1 (Nat.lt_succ_of_le hct) (by rw [hja]; exact hw)
                                rw [hja] at hM3
                                replace hM3 : MI e0 cO L63 f63 (mt_setls (mt_setml (mt_addm τ q134 zx2 zx3 (mt_n τ - 1) (t_fl1 zx4) (t_fl2 zx4) (t_fl3 zx4)) (va_up (mt_ml τ) (mt_n τ - 1) (va_up (mt_ml τ (mt_n τ - 1)) (ls_cnt (ls_add (ls_ext (mt_ls τ) [q134] e0) (mt_m τ) q134 d2 n2) (mt_ma τ (mt_n τ - 1))) (mt_mn τ)))) (ls_add (ls_add (ls_ext (mt_ls τ) [q134] e0) (mt_m τ) q134 d2 n2) (mt_ma τ (mt_n τ - 1)) q134 d3 n3)) := hM3
                                have hme3 := hM3.me (j := mt_mn τ) (Nat.lt_succ_self _)
                                have hja3 : mt_ja (mt_setls (mt_setml (mt_addm τ q134 zx2 zx3 (mt_n τ - 1) (t_fl1 zx4) (t_fl2 zx4) (t_fl3 zx4)) (va_up (mt_ml τ) (mt_n τ - 1) (va_up (mt_ml τ (mt_n τ - 1)) (ls_cnt (ls_add (ls_ext (mt_ls τ) [q134] e0) (mt_m τ) q134 d2 n2) (mt_ma τ (mt_n τ - 1))) (mt_mn τ)))) (ls_add (ls_add (ls_ext (mt_ls τ) [q134] e0) (mt_m τ) q134 d2 n2) (mt_ma τ (mt_n τ - 1)) q134 d3 n3)) (mt_mn τ) = q134 := va_up_self _ _ _
                                rw [MIm, hja3] at hme3
                                have hcq3 : f63 q134 = .inr (5, [.int (nI (mt_mn τ)), .int zx2, .int zx3, .ref (mt_ca τ (mt_n τ - 1)), .int (t_fl1 zx4), .int (t_fl2 zx4), .int (t_fl3 zx4)]) := by rw [hme3.2.1]; simp only [mt_setls, mt_setml, mt_addm, mt_nm, mt_si, mt_ow, mt_st, mt_fi, mt_ab, va_up_self]
                                clear he9
                                clear hPold hP hk1 hz1 hvm ht hszH hE1
                                have hP := hB
                                clear hB
                                generalize H1 = H at hP hS ⊢
                                have hD : va_D (mA L sz) (va_pl L63 f63) := hE.D
                                refine lv_pop hx hb dX5_method_176 rfl ?_
                                refine lv_aload hx hb dX5_method_177 (lv_at hl 0 rfl) ?_
                                refine pl_get (D := D) (ci := 5) (v := .int (nI (mt_mn τ))) (C := RX4) (T := TX4) (N := 7) hx hb hts (by decide +kernel) hown hK.1 hP hme3.1 hcq3 rfl 0 (by decide) (hts (.fieldLink RX5 65 "ChooseTreeModel$Met" "number" "I") (by decide +kernel)) (fun _ h9 => h9) rfl dX5_method_179 ?_
                                refine W.widen (k := 3) (n := 1207) (by first | exact Nat.le_refl _ | omega) (by first | exact Nat.le_refl _ | omega) ?_
                                exact W.iret (v := (nI (mt_mn τ))) hx hb hr (fun t ht hW => ⟨⟨(nI (mt_mn τ)), (L63, f63), rfl, ⟨⟨(by simp [t_metR, gr1, gr2, gr3, gr4, gr5, gr6, gr7, gr8, gr9, gr10, gr11, gr12, c_1, c_8, c_9, c_10, c_11, c_12, htzj, c_14, c_15, c_44, c_45, c_54, c_55, c_58]), Or.inr ⟨rfl, hn4, rfl, q134, d2, n2, d3, n3, hM3, hqq134⟩⟩, hE⟩, show va_P D vwCl (va_pl _ _) t.heap from (by rw [ht]; exact hP)⟩, hS.F ht⟩) hS.2.2 dX5_method_182
                              · refine lv_bipush (v := (-12)) hx hb dX5_method_131 (by decide) ?_
                                refine W.widen (k := 3) (n := 1207) (by first | exact Nat.le_refl _ | omega) (by first | exact Nat.le_refl _ | omega) ?_
                                exact W.iret (v := (-12)) hx hb hr (fun t ht hW => ⟨⟨(-12), (L, f), rfl, ⟨⟨(by simp [t_metR, gr1, gr2, gr3, gr4, gr5, gr6, gr7, gr8, gr9, gr10, gr11, gr12, c_1, c_8, c_9, c_10, c_11, c_12, htzj, c_14, c_15, c_44, c_45, c_54, c_55, c_58]), Or.inl ⟨by decide, rfl, hM⟩⟩, hE⟩, show va_P D vwCl (va_pl _ _) t.heap from (by rw [ht]; exact hP)⟩, hS.F ht⟩) hS.2.2 dX5_method_133
                            · refine lv_iload hx hb dX5_method_110 (lv_at hl 5 rfl) ?_
                              refine lv_iconst (v := (nI 4)) hx hb dX5_method_112 (by decide) ?_
                              refine lv_icmp_eq (tgt := 118) hx hb dX5_method_113 (by decide) (fun c_64 => ?_) (fun c_64 => ?_)
                              · refine lv_aload_n hx hb dX5_method_118 rfl (lv_at hl 1 rfl) ?_
                                refine pl_get (D := D) (ci := 6) (v := .ref (mt_m τ)) (C := RX5) (T := TX5) (N := 3) hx hb hts (by decide +kernel) hown hK.1 hP hM.x.1 hM.x.2 rfl 1 (by decide) (hts (.fieldLink RX5 16 "ChooseTreeModel" "methods" "Ljava/util/ArrayList;") (by decide +kernel)) (fun _ h9 => h9) rfl dX5_method_119 ?_
                                obtain ⟨mcz65, gz65, hfz65, hgz65, hcz65⟩ := hM.ly.raw (b := (mt_m τ)) hM.m.1 hM.m.2
                                refine va_calli (va_runV (As := []) (rest := []) ⟨hx, hb, hml, hown, hts⟩ (c_Jx4a65c_size_8abf5 l D cO mi L f (mt_m τ) hM.m.1 mcz65 (ls_dat (mt_ls τ) (mt_m τ)) (mt_cnt τ (mt_m τ)) hfz65) (cwV 0 hts gX5_method_Jx4a65c_size_8abf5 rfl rfl rfl (by decide +kernel) ⟨Nat.le_of_ble_eq_true rfl, Nat.le_of_ble_eq_true rfl⟩) (mP_V hK hP 0 rfl hM.m.1 hfz65) rfl rfl hl.1 rfl (lv_room (Nat.le_of_ble_eq_true rfl)) dX5_method_122 ⟨Nat.le_of_ble_eq_true rfl, Nat.le_of_ble_eq_true rfl⟩) hS (fun _ _ h => h.elim) (fun _ h => h.elim) (fun r_66 u t H1 locs ht hvm hw hB hz1 hk1 hS => ?_)
                                replace hP := ro_kept hP hk1
                                obtain rfl : r_66 = _ := hw
                                clear hk1 hz1 hvm ht hB
                                generalize H1 = H at hP hS ⊢
                                rw [show (mt_cnt τ (mt_m τ)) = mt_mn τ from hM.ms.1]
                                clear hcz65 hgz65
                                refine lv_sipush (v := (nI 400)) hx hb dX5_method_125 (by decide) ?_
                                refine lv_icmp_ne (tgt := 134) hx hb dX5_method_128 (by decide) (fun c_67 => ?_) (fun c_67 => ?_)
                                · have hn4 : mt_mn τ < 400 := by have h60 : ¬ mt_mn τ = 400 := fun e => absurd (congrArg nI e) c_67; omega
                                  refine pl_new (D := D) (ci := 5) (fs := [.int 0, .int 0, .int 0, .null, .int 0, .int 0, .int 0]) (C := RX4) (T := TX4) (N := 7) hx hb hts (by decide +kernel) tyX4 tyX4_ok hown (hts (.classLink RX5 36 RX4) (by decide +kernel)) (hts (.instantiable RX4 7) (by decide +kernel)) (hts (.initialized RX4) (by decide +kernel)) hK.1 hP hD hS hA rfl (by decide) (Nat.le_of_ble_eq_true rfl) (Nat.le_of_ble_eq_true rfl) dX5_method_134 (fun q134 H hq hAq hP hS => ?_)
                                  have hqs : sz ≤ q134 := hAq.resolve_left (fun z => hq (hE.mem z))
                                  obtain ⟨f68, hf68⟩ : ∃ z, z = va_up f q134 (.inr (5, [.int 0, .int 0, .int 0, .null, .int 0, .int 0, .int 0])) := ⟨_, rfl⟩
                                  rw [← hf68] at hP
                                  have F_mt_xτ_68 : f68 (mt_x τ) = .inr (6, [.ref (mt_c τ), .ref (mt_m τ), .int (mt_mark τ)]) := by rw [hf68, va_up_ne _ _ (show (mt_x τ) ≠ q134 from fun e9 => hq (e9 ▸ hM.x.1))]; exact hM.x.2
                                  have M_mt_xτ_68 := List.mem_append_left [q134] hM.x.1
                                  have F_mt_cτ_68 : f68 (mt_c τ) = .inr (0, [.int mcz5, .ref (ls_dat (mt_ls τ) (mt_c τ)), .int (nI (mt_cnt τ (mt_c τ)))]) := by rw [hf68, va_up_ne _ _ (show (mt_c τ) ≠ q134 from fun e9 => hq (e9 ▸ hM.c.1))]; exact hfz5
                                  have M_mt_cτ_68 := List.mem_append_left [q134] hM.c.1
                                  have F_mt_caτmt_nτ1_68 : f68 (mt_ca τ (mt_n τ - 1)) = .inr (4, [.int (nI (mt_n τ - 1)), .int (mt_pk τ (mt_n τ - 1)), va_rf ((mt_pr τ (mt_n τ - 1)).map (mt_ca τ)), .int (mt_fc τ (mt_n τ - 1)), .ref (mt_fa τ (mt_n τ - 1)), .ref (mt_ma τ (mt_n τ - 1)), .ref (mt_aa τ (mt_n τ - 1)), .int (mt_pt τ (mt_n τ - 1)), .int (mt_mk τ (mt_n τ - 1))]) := by rw [hf68, va_up_ne _ _ (show (mt_ca τ (mt_n τ - 1)) ≠ q134 from fun e9 => hq (e9 ▸ (hM.cl hzi).1))]; exact (hM.cl hzi).2.1
                                  have M_mt_caτmt_nτ1_68 := List.mem_append_left [q134] (hM.cl hzi).1
                                  have F_mt_mτ_68 : f68 (mt_m τ) = .inr (0, [.int mcz65, .ref (ls_dat (mt_ls τ) (mt_m τ)), .int (nI (mt_cnt τ (mt_m τ)))]) := by rw [hf68, va_up_ne _ _ (show (mt_m τ) ≠ q134 from fun e9 => hq (e9 ▸ hM.m.1))]; exact hfz65
                                  have M_mt_mτ_68 := List.mem_append_left [q134] hM.m.1
                                  have F_q134_68 : f68 q134 = .inr (5, [.int 0, .int 0, .int 0, .null, .int 0, .int 0, .int 0]) := by rw [hf68]; exact va_up_self _ _ _
                                  have M_q134_68 : q134 ∈ L ++ [q134] := List.mem_append_right _ (List.mem_singleton.mpr rfl)
                                  replace hE : pext L sz (L ++ [q134]) := hE.tr (Nat.le_refl _) (pext.one hE.nd hq hqs)
                                  have hD : va_D (mA L sz) (va_pl (L ++ [q134]) f68) := hE.D
                                  have hqq134 := hq
                                  have hqsq134 := hqs
                                  clear hq hqs hAq
                                  refine lv_dup hx hb dX5_method_137 rfl ?_
                                  refine lv_aload_n hx hb dX5_method_138 rfl (lv_at hl 1 rfl) ?_
                                  refine pl_get (D := D) (ci := 6) (v := .ref (mt_m τ)) (C := RX5) (T := TX5) (N := 3) hx hb hts (by decide +kernel) hown hK.1 hP M_mt_xτ_68 F_mt_xτ_68 rfl 1 (by decide) (hts (.fieldLink RX5 16 "ChooseTreeModel" "methods" "Ljava/util/ArrayList;") (by decide +kernel)) (fun _ h9 => h9) rfl dX5_method_139 ?_
                                  refine va_calli (va_runV (As := []) (rest := [.ref q134, .ref q134]) ⟨hx, hb, hml, hown, hts⟩ (c_Jx4a65c_size_8abf5 l D cO mi (L ++ [q134]) f68 (mt_m τ) M_mt_mτ_68 mcz65 (ls_dat (mt_ls τ) (mt_m τ)) (mt_cnt τ (mt_m τ)) F_mt_mτ_68) (cwV 0 hts gX5_method_Jx4a65c_size_8abf5 rfl rfl rfl (by decide +kernel) ⟨Nat.le_of_ble_eq_true rfl, Nat.le_of_ble_eq_true rfl⟩) (mP_V hK hP 0 rfl M_mt_mτ_68 F_mt_mτ_68) rfl rfl hl.1 rfl (lv_room (Nat.le_of_ble_eq_true rfl)) dX5_method_142 ⟨Nat.le_of_ble_eq_true rfl, Nat.le_of_ble_eq_true rfl⟩) hS (fun _ _ h => h.elim) (fun _ h => h.elim) (fun r_69 u t H1 locs ht hvm hw hB hz1 hk1 hS => ?_)
                                  replace hP := ro_kept hP hk1
                                  obtain rfl : r_69 = _ := hw
                                  clear hk1 hz1 hvm ht hB
                                  generalize H1 = H at hP hS ⊢
                                  rw [show (mt_cnt τ (mt_m τ)) = mt_mn τ from hM.ms.1]
                                  refine lv_aload hx hb dX5_method_145 (lv_at hl 0 rfl) ?_
                                  refine lv_iload_n hx hb dX5_method_147 rfl (lv_at hl 3 rfl) ?_
                                  refine lv_iload_n hx hb dX5_method_148 rfl (lv_at hl 4 rfl) ?_
                                  refine lv_iload hx hb dX5_method_149 (lv_at hl 5 rfl) ?_
                                  have hszH : sz ≤ H.size := by have := hS.1; omega
                                  have hPold := hP
                                  refine va_callv (va_runI (As := [.int (nI (mt_mn τ)), .ref (mt_ca τ (mt_n τ - 1)), .int zx2, .int zx3, .int zx4]) (rest := [.ref q134]) ⟨hx, hb, hml, hown, hts⟩ (c_X4_init l D cO mi e0 (L ++ [q134]) f68 H.size hE.nd q134 M_q134_68 (nI (mt_mn τ)) (mt_ca τ (mt_n τ - 1)) zx2 zx3 zx4 F_q134_68) (cwI 5 hts gX5_method_X4_init rfl rfl rfl (hts (.initialized RX4) (by decide +kernel)) (hts (.methodLink RX5 62 yX4_init) (by decide +kernel)) (hts (.instanceMethod yX4_init) (by decide +kernel)) rfl (by decide +kernel) ⟨Nat.le_of_ble_eq_true rfl, Nat.le_of_ble_eq_true rfl⟩) (mW_S hK hJ hS (hE.sub (by have := hS.1; omega)) hP) rfl rfl hl.1 rfl (lv_room (Nat.le_of_ble_eq_true rfl)) dX5_method_151 ⟨Nat.le_of_ble_eq_true rfl, Nat.le_of_ble_eq_true rfl⟩) hS (fun q _ h => (hE.sub (by have := hS.1; omega)) q h) (hE.sub (by have := hS.1; omega)) (fun u t H1 locs ht hvm hw hB hz1 hk1 hS => ?_)
                                  obtain ⟨L70, f70⟩ := u
                                  obtain ⟨hw, hE1⟩ := hw
                                  replace hB : va_P D vwCl (va_pl L70 f70) t.heap := hB
                                  rw [ht] at hB
                                  replace hE : pext L sz L70 := hE.tr (hszH) hE1
                                  obtain ⟨hL1, hf70⟩ := Prod.mk.inj hw
                                  replace hL1 : L70 = L ++ [q134] := hL1
                                  subst hL1
                                  have he8 : e0 < sz := hJ.lt.2
                                  have hcq : f70 q134 = .inr (5, [.int (nI (mt_mn τ)), .int zx2, .int zx3, .ref (mt_ca τ (mt_n τ - 1)), .int (t_fl1 zx4), .int (t_fl2 zx4), .int (t_fl3 zx4)]) := by rw [hf70]; exact va_up_self _ _ _
                                  have hM1 : MI e0 cO (L ++ [q134]) f70 (mt_setls τ (ls_ext (mt_ls τ) [q134] e0)) := hM.newM ⟨hqq134, by omega⟩ hcq (fun y hy => by have hne : y ≠ q134 := fun e9 => hqq134 (e9 ▸ hy); rw [hf70, va_up_ne _ _ hne, hf68, va_up_ne _ _ hne])
                                  have hmq : mobj (L ++ [q134]) f70 q134 := ⟨by simp, 5, _, hcq, Or.inr rfl⟩
                                  have hx9 : f70 (mt_x τ) = .inr (6, [.ref (mt_c τ), .ref (mt_m τ), .int (mt_mark τ)]) := hM1.x.2
                                  have hx8 : mt_x τ ∈ L ++ [q134] := hM1.x.1
                                  clear hPold hP hk1 hz1 hvm ht hszH hE1
                                  have hP := hB
                                  clear hB
                                  generalize H1 = H at hP hS ⊢
                                  have hD : va_D (mA L sz) (va_pl (L ++ [q134]) f70) := hE.D
                                  refine lv_astore (lv' := [(6, .ref q134), (5, .ref (mt_ca τ (mt_n τ - 1))), (0, .ref (mt_x τ)), (1, .int (nI (mt_n τ - 1))), (2, .int zx2), (3, .int zx3), (4, .int zx4)]) hx hb dX5_method_154 hl (by decide) rfl (fun ls hl => ?_)
                                  refine lv_aload_n hx hb dX5_method_156 rfl (lv_at hl 2 rfl) ?_
                                  refine pl_get (D := D) (ci := 6) (v := .ref (mt_m τ)) (C := RX5) (T := TX5) (N := 3) hx hb hts (by decide +kernel) hown hK.1 hP hx8 hx9 rfl 1 (by decide) (hts (.fieldLink RX5 16 "ChooseTreeModel" "methods" "Ljava/util/ArrayList;") (by decide +kernel)) (fun _ h9 => h9) rfl dX5_method_157 ?_
                                  refine lv_aload hx hb dX5_method_160 (lv_at hl 0 rfl) ?_
                                  obtain ⟨mcA, gA, hfA, hgA, hcA⟩ := hM1.ly.raw (b := (mt_m τ)) hM1.m.1 hM1.m.2
                                  have hszH : sz ≤ H.size := by have := hS.1; omega
                                  have hPold := hP
                                  refine va_calli (va_runV (As := [.ref q134]) (rest := []) ⟨hx, hb, hml, hown, hts⟩ (c_Jx4a65c_addU l D cO mi e0 (L ++ [q134]) f70 H.size hE.nd (mt_m τ) hM1.m.1 mcA (ls_dat (ls_ext (mt_ls τ) [q134] e0) (mt_m τ)) (ls_cnt (ls_ext (mt_ls τ) [q134] e0) (mt_m τ)) hfA q134 hmq (ls_cap (ls_ext (mt_ls τ) [q134] e0) (mt_m τ)) (ls_grow (ls_ext (mt_ls τ) [q134] e0) (mt_m τ)) gA hgA 600 (ls_grow_le (K := 400) (show ls_cnt (ls_ext (mt_ls τ) [q134] e0) (mt_m τ) < 400 from Nat.lt_of_le_of_lt (Nat.le_of_eq hM1.ms.1) hn4) (by omega))) (cwV 1 hts gX5_method_Jx4a65c_add_9ea2d rfl rfl rfl (by decide +kernel) ⟨Nat.le_of_ble_eq_true rfl, Nat.le_of_ble_eq_true rfl⟩) (mW_V hK hJ hS (hE.sub (by have := hS.1; omega)) hP 0 rfl hM1.m.1 hfA) rfl rfl hl.1 rfl (lv_room (Nat.le_of_ble_eq_true rfl)) dX5_method_162 ⟨Nat.le_of_ble_eq_true rfl, Nat.le_of_ble_eq_true rfl⟩) hS (fun q _ h => (hE.sub (by have := hS.1; omega)) q h) (hE.sub (by have := hS.1; omega)) (fun r_71 u t H1 locs ht hvm hw hB hz1 hk1 hS => ?_)
                                  obtain ⟨L71, f71⟩ := u
                                  obtain ⟨hw, hE1⟩ := hw
                                  replace hB : va_P D vwCl (va_pl L71 f71) t.heap := hB
                                  rw [ht] at hB
                                  replace hE : pext L sz L71 := hE.tr (hszH) hE1
                                  have he9 : e0 < H.size := Nat.lt_of_lt_of_le hJ.lt.2 hszH
                                  obtain ⟨hr1, hw⟩ := hw
                                  subst hr1
                                  obtain ⟨d2, n2, hM2⟩ := hM1.addM hn4 (q := q134) (ow := (mt_n τ - 1)) (nm := zx2) (si := zx3) (st := t_fl1 zx4) (fi := t_fl2 zx4) (ab := t_fl3 zx4) hmq.1 hcq hzi hfA hcA he9 hE1 hw
                                  replace hM2 : MI e0 cO L71 f71 (mt_setls (mt_addm τ q134 zx2 zx3 (mt_n τ - 1) (t_fl1 zx4) (t_fl2 zx4) (t_fl3 zx4)) (ls_add (ls_ext (mt_ls τ) [q134] e0) (mt_m τ) q134 d2 n2)) := hM2
                                  have hja : mt_ja (mt_setls (mt_addm τ q134 zx2 zx3 (mt_n τ - 1) (t_fl1 zx4) (t_fl2 zx4) (t_fl3 zx4)) (ls_add (ls_ext (mt_ls τ) [q134] e0) (mt_m τ) q134 d2 n2)) (mt_mn τ) = q134 := va_up_self _ _ _
                                  have hme := hM2.me (j := mt_mn τ) (Nat.lt_succ_self _)
                                  rw [MIm, hja] at hme
                                  have hcq2 : f71 q134 = .inr (5, [.int (nI (mt_mn τ)), .int zx2, .int zx3, .ref (mt_ca τ (mt_n τ - 1)), .int (t_fl1 zx4), .int (t_fl2 zx4), .int (t_fl3 zx4)]) := by rw [hme.2.1]; simp only [mt_setls, mt_addm, mt_nm, mt_si, mt_ow, mt_st, mt_fi, mt_ab, va_up_self]
                                  have hc9 : f71 (mt_ca τ (mt_n τ - 1)) = .inr (4, [.int (nI (mt_n τ - 1)), .int (mt_pk τ (mt_n τ - 1)), va_rf ((mt_pr τ (mt_n τ - 1)).map (mt_ca τ)), .int (mt_fc τ (mt_n τ - 1)), .ref (mt_fa τ (mt_n τ - 1)), .ref (mt_ma τ (mt_n τ - 1)), .ref (mt_aa τ (mt_n τ - 1)), .int (mt_pt τ (mt_n τ - 1)), .int (mt_mk τ (mt_n τ - 1))]) := (hM2.cl hzi).2.1
                                  have hc8 : mt_ca τ (mt_n τ - 1) ∈ L71 := (hM2.cl hzi).1
                                  have hct : ls_cnt (ls_add (ls_ext (mt_ls τ) [q134] e0) (mt_m τ) q134 d2 n2) (mt_ma τ (mt_n τ - 1)) ≤ mt_mn τ := by rw [(ls_add_ne (ls_ext (mt_ls τ) [q134] e0) (x := q134) (d2 := d2) (n2 := n2) (hM.maNm hzi)).1, show ls_cnt (ls_ext (mt_ls τ) [q134] e0) (mt_ma τ (mt_n τ - 1)) = ls_cnt (mt_ls τ) (mt_ma τ (mt_n τ - 1)) from if_neg (fun z => hqq134 (by rw [← List.mem_singleton.mp z]; exact (hM.ma hzi).1))]; exact (hM.cl hzi).2.2.2.2.1.1
                                  have hmq2 : mobj L71 f71 q134 := ⟨hme.1, 5, _, hcq2, Or.inr rfl⟩
                                  clear hfA hcA hgA hw
                                  have hma : (mt_ma τ (mt_n τ - 1)) ∈ L71 ∧ isAL f71 (mt_ma τ (mt_n τ - 1)) := hM2.ma hzi
                                  clear he9
                                  clear hPold hP hk1 hz1 hvm ht hszH hE1
                                  have hP := hB
                                  clear hB
                                  generalize H1 = H at hP hS ⊢
                                  have hD : va_D (mA L sz) (va_pl L71 f71) := hE.D
                                  refine lv_pop hx hb dX5_method_165 rfl ?_
                                  refine lv_aload hx hb dX5_method_166 (lv_at hl 1 rfl) ?_
                                  refine pl_get (D := D) (ci := 4) (v := .ref (mt_ma τ (mt_n τ - 1))) (C := RX3) (T := TX3) (N := 9) hx hb hts (by decide +kernel) hown hK.1 hP hc8 hc9 rfl 5 (by decide) (hts (.fieldLink RX5 46 "ChooseTreeModel$Cls" "methods" "Ljava/util/ArrayList;") (by decide +kernel)) (fun _ h9 => h9) rfl dX5_method_168 ?_
                                  refine lv_aload hx hb dX5_method_171 (lv_at hl 0 rfl) ?_
                                  obtain ⟨mcA, gA, hfA, hgA, hcA⟩ := hM2.ly.raw (b := (mt_ma τ (mt_n τ - 1))) hma.1 hma.2
                                  have hszH : sz ≤ H.size := by have := hS.1; omega
                                  have hPold := hP
                                  refine va_calli (va_runV (As := [.ref q134]) (rest := []) ⟨hx, hb, hml, hown, hts⟩ (c_Jx4a65c_addU l D cO mi e0 L71 f71 H.size hE.nd (mt_ma τ (mt_n τ - 1)) hma.1 mcA (ls_dat (ls_add (ls_ext (mt_ls τ) [q134] e0) (mt_m τ) q134 d2 n2) (mt_ma τ (mt_n τ - 1))) (ls_cnt (ls_add (ls_ext (mt_ls τ) [q134] e0) (mt_m τ) q134 d2 n2) (mt_ma τ (mt_n τ - 1))) hfA q134 hmq2 (ls_cap (ls_add (ls_ext (mt_ls τ) [q134] e0) (mt_m τ) q134 d2 n2) (mt_ma τ (mt_n τ - 1))) (ls_grow (ls_add (ls_ext (mt_ls τ) [q134] e0) (mt_m τ) q134 d2 n2) (mt_ma τ (mt_n τ - 1))) gA hgA 600 (ls_grow_le (K := 400) (show ls_cnt (ls_add (ls_ext (mt_ls τ) [q134] e0) (mt_m τ) q134 d2 n2) (mt_ma τ (mt_n τ - 1)) < 400 from Nat.lt_of_le_of_lt hct hn4) (by omega))) (cwV 1 hts gX5_method_Jx4a65c_add_9ea2d rfl rfl rfl (by decide +kernel) ⟨Nat.le_of_ble_eq_true rfl, Nat.le_of_ble_eq_true rfl⟩) (mW_V hK hJ hS (hE.sub (by have := hS.1; omega)) hP 0 rfl hma.1 hfA) rfl rfl hl.1 rfl (lv_room (Nat.le_of_ble_eq_true rfl)) dX5_method_173 ⟨Nat.le_of_ble_eq_true rfl, Nat.le_of_ble_eq_true rfl⟩) hS (fun q _ h => (hE.sub (by have := hS.1; omega)) q h) (hE.sub (by have := hS.1; omega)) (fun r_72 u t H1 locs ht hvm hw hB hz1 hk1 hS => ?_)
                                  obtain ⟨L72, f72⟩ := u
                                  obtain ⟨hw, hE1⟩ := hw
                                  replace hB : va_P D vwCl (va_pl L72 f72) t.heap := hB
                                  rw [ht] at hB
                                  replace hE : pext L sz L72 := hE.tr (hszH) hE1
                                  have he9 : e0 < H.size := Nat.lt_of_lt_of_le hJ.lt.2 hszH
                                  obtain ⟨hr1, hw⟩ := hw
                                  subst hr1
                                  obtain ⟨d3, n3, hM3⟩ := hM2.addN (i := (mt_n τ - 1)) (k := mt_mn τ) hzi (Nat.lt_succ_self _) hfA hcA he9 hE1 (Nat.lt_succ_of_le hct) (by rw [hja]; exact hw)
                                  rw [hja] at hM3
                                  replace hM3 : MI e0 cO L72 f72 (mt_setls (mt_setml (mt_addm τ q134 zx2 zx3 (mt_n τ - 1) (t_fl1 zx4) (t_fl2 zx4) (t_fl3 zx4)) (va_up (mt_ml τ) (mt_n τ - 1) (va_up (mt_ml τ (mt_n τ - 1)) (ls_cnt (ls_add (ls_ext (mt_ls τ) [q134] e0) (mt_m τ) q134 d2 n2) (mt_ma τ (mt_n τ - 1))) (mt_mn τ)))) (ls_add (ls_add (ls_ext (mt_ls τ) [q134] e0) (mt_m τ) q134 d2 n2) (mt_ma τ (mt_n τ - 1)) q134 d3 n3)) := hM3
                                  have hme3 := hM3.me (j := mt_mn τ) (Nat.lt_succ_self _)
                                  have hja3 : mt_ja (mt_setls (mt_setml (mt_addm τ q134 zx2 zx3 (mt_n τ - 1) (t_fl1 zx4) (t_fl2 zx4) (t_fl3 zx4)) (va_up (mt_ml τ) (mt_n τ - 1) (va_up (mt_ml τ (mt_n τ - 1)) (ls_cnt (ls_add (ls_ext (mt_ls τ) [q134] e0) (mt_m τ) q134 d2 n2) (mt_ma τ (mt_n τ - 1))) (mt_mn τ)))) (ls_add (ls_add (ls_ext (mt_ls τ) [q134] e0) (mt_m τ) q134 d2 n2) (mt_ma τ (mt_n τ - 1)) q134 d3 n3)) (mt_mn τ) = q134 := va_up_self _ _ _
                                  rw [MIm, hja3] at hme3
                                  have hcq3 : f72 q134 = .inr (5, [.int (nI (mt_mn τ)), .int zx2, .int zx3, .ref (mt_ca τ (mt_n τ - 1)), .int (t_fl1 zx4), .int (t_fl2 zx4), .int (t_fl3 zx4)]) := by rw [hme3.2.1]; simp only [mt_setls, mt_setml, mt_addm, mt_nm, mt_si, mt_ow, mt_st, mt_fi, mt_ab, va_up_self]
                                  clear he9
                                  clear hPold hP hk1 hz1 hvm ht hszH hE1
                                  have hP := hB
                                  clear hB
                                  generalize H1 = H at hP hS ⊢
                                  have hD : va_D (mA L sz) (va_pl L72 f72) := hE.D
                                  refine lv_pop hx hb dX5_method_176 rfl ?_
                                  refine lv_aload hx hb dX5_method_177 (lv_at hl 0 rfl) ?_
                                  refine pl_get (D := D) (ci := 5) (v := .int (nI (mt_mn τ))) (C := RX4) (T := TX4) (N := 7) hx hb hts (by decide +kernel) hown hK.1 hP hme3.1 hcq3 rfl 0 (by decide) (hts (.fieldLink RX5 65 "ChooseTreeModel$Met" "number" "I") (by decide +kernel)) (fun _ h9 => h9) rfl dX5_method_179 ?_
                                  refine W.widen (k := 3) (n := 1207) (by first | exact Nat.le_refl _ | omega) (by first | exact Nat.le_refl _ | omega) ?_
                                  exact W.iret (v := (nI (mt_mn τ))) hx hb hr (fun t ht hW => ⟨⟨(nI (mt_mn τ)), (L72, f72), rfl, ⟨⟨(by simp [t_metR, gr1, gr2, gr3, gr4, gr5, gr6, gr7, gr8, gr9, gr10, gr11, gr12, c_1, c_8, c_9, c_10, c_11, c_12, htzj, c_14, c_15, c_44, c_45, c_54, c_55, c_64, c_67]), Or.inr ⟨rfl, hn4, rfl, q134, d2, n2, d3, n3, hM3, hqq134⟩⟩, hE⟩, show va_P D vwCl (va_pl _ _) t.heap from (by rw [ht]; exact hP)⟩, hS.F ht⟩) hS.2.2 dX5_method_182
                                · refine lv_bipush (v := (-12)) hx hb dX5_method_131 (by decide) ?_
                                  refine W.widen (k := 3) (n := 1207) (by first | exact Nat.le_refl _ | omega) (by first | exact Nat.le_refl _ | omega) ?_
                                  exact W.iret (v := (-12)) hx hb hr (fun t ht hW => ⟨⟨(-12), (L, f), rfl, ⟨⟨(by simp [t_metR, gr1, gr2, gr3, gr4, gr5, gr6, gr7, gr8, gr9, gr10, gr11, gr12, c_1, c_8, c_9, c_10, c_11, c_12, htzj, c_14, c_15, c_44, c_45, c_54, c_55, c_64, c_67]), Or.inl ⟨by decide, rfl, hM⟩⟩, hE⟩, show va_P D vwCl (va_pl _ _) t.heap from (by rw [ht]; exact hP)⟩, hS.F ht⟩) hS.2.2 dX5_method_133
                              · exact absurd c_15 c_64
                      · refine lv_iconst (v := (-1)) hx hb dX5_method_90 (by decide) ?_
                        refine W.widen (k := 3) (n := 1207) (by first | exact Nat.le_refl _ | omega) (by first | exact Nat.le_refl _ | omega) ?_
                        exact W.iret (v := (-1)) hx hb hr (fun t ht hW => ⟨⟨(-1), (L, f), rfl, ⟨⟨(by simp [t_metR, gr1, gr2, gr3, gr4, gr5, gr6, gr7, gr8, gr9, gr10, gr11, gr12, c_1, c_8, c_9, c_10, c_11, c_12, htzj, c_14, c_15, c_44]), Or.inl ⟨by decide, rfl, hM⟩⟩, hE⟩, show va_P D vwCl (va_pl _ _) t.heap from (by rw [ht]; exact hP)⟩, hS.F ht⟩) hS.2.2 dX5_method_91
                · rw [show t_named τ (mt_n τ - 1) zx2 = some (mt_ja τ zj) by simp [t_named, htzj]]
                  refine lv_ifnull hx hb dX5_method_68 ?_
                  refine lv_iconst (v := (-1)) hx hb dX5_method_71 (by decide) ?_
                  refine W.widen (k := 3) (n := 1207) (by first | exact Nat.le_refl _ | omega) (by first | exact Nat.le_refl _ | omega) ?_
                  exact W.iret (v := (-1)) hx hb hr (fun t ht hW => ⟨⟨(-1), (L, f), rfl, ⟨⟨(by simp [t_metR, gr1, gr2, gr3, gr4, gr5, gr6, gr7, gr8, gr9, gr10, gr11, gr12, c_1, c_8, c_9, c_10, c_11, c_12, htzj]), Or.inl ⟨by decide, rfl, hM⟩⟩, hE⟩, show va_P D vwCl (va_pl _ _) t.heap from (by rw [ht]; exact hP)⟩, hS.F ht⟩) hS.2.2 dX5_method_72
    · refine lv_bipush (v := (-14)) hx hb dX5_method_18 (by decide) ?_
      refine W.widen (k := 3) (n := 1207) (by first | exact Nat.le_refl _ | omega) (by first | exact Nat.le_refl _ | omega) ?_
      exact W.iret (v := (-14)) hx hb hr (fun t ht hW => ⟨⟨(-14), (L, f), rfl, ⟨⟨(by simp [t_metR, gr1, gr2, gr3, gr4, gr5, gr6, gr7, gr8, gr9, gr10, gr11, gr12, c_1, c_4]), Or.inl ⟨by decide, rfl, hM⟩⟩, hE⟩, show va_P D vwCl (va_pl _ _) t.heap from (by rw [ht]; exact hP)⟩, hS.F ht⟩) hS.2.2 dX5_method_20
