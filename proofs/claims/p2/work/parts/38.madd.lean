set_option maxHeartbeats 4000000 in
set_option maxRecDepth 100000 in
theorem c_X5_add (l : Launch) (D : va_G) (cO : ClassId) (mi e0 : Nat) (L : List Nat) (f : Nat → va_E) (sz : Nat) (hnd : L.Nodup) (τ : MT) (hM : MI e0 cO L f τ) (zx1 zx2 zx3 : Int32) : Met l yX5_add wsX5_add { frames := 7, cells := 5, slots := 108, locals := 191 } (mW D cO mi e0 L f sz [.ref (mt_x τ), .int zx1, .int zx2, .int zx3]) (wQi D L sz (fun r u => r = t_addR τ zx1 zx2 zx3 ∧ ((r < 0 ∧ u.1 = L ∧ MI e0 cO L u.2 τ) ∨ (r = nI (mt_n τ) ∧ mt_n τ < 60 ∧ ∃ zp, t_ati τ zx1 = some zp ∧ ∃ q l1 l2 l3 d2 n2, MI e0 cO u.1 u.2 (mt_setls (mt_addc τ q zx2 (some zp) (bI (decide (zx3 = nI 1))) l1 l2 l3) (ls_add (ls_ext (mt_ls τ) [q, l1, l2, l3] e0) (mt_c τ) q d2 n2)) ∧ q ∉ L ∧ l1 ∉ L ∧ l2 ∉ L ∧ l3 ∉ L)))) 5 108 (mA L sz) := by
  refine Met.ofW (cc := cX5_add) (maxL := 5) (ret := (some .int)) (by decide) rfl ?_
  intro p e s m args below meth cq s₁ B hml hv
  obtain ⟨rfl, hsz, hP, hK, hJ⟩ := hv
  have hx := B.exec
  have hb := B.bytes
  have hr := B.returns
  have hts := atoms_spec (ws := wsX5_add) B.pre
  have hown : s.vm.findClass RX5 = some m.cls := findClass_of_methodNamed B.named
  have hlocks := B.notSynchronized
  have hin := (name_of_methodNamed B.named B.method).1
  clear B
  have hl := lv_entry ([.ref (mt_x τ), .int zx1, .int zx2, .int zx3]) (n := 5) (Nat.le_of_ble_eq_true rfl)
  rw [lg_entry_eq]
  generalize (lg_sl ([.ref (mt_x τ), .int zx1, .int zx2, .int zx3]) ++ List.replicate (5 - (lg_sl ([.ref (mt_x τ), .int zx1, .int zx2, .int zx3])).length) Slot.unset).toArray = ls at hl ⊢
  replace hl : lv_has ls 5 [(0, .ref (mt_x τ)), (1, .int zx1), (2, .int zx2), (3, .int zx3)] := hl
  have hA : ∀ q : Nat, s.heap.size ≤ q → mA L sz q := fun q h => Or.inr (by omega)
  have hE : pext L sz L := pext.rf hnd
  have hD : va_D (mA L sz) (va_pl L f) := hE.D
  refine gen_start (A := mA L sz) (fun H locs hP hS => ?_) hP
  have hMb := hM.b
  refine lv_aload_n hx hb dX5_add_0 rfl (lv_at hl 0 rfl) ?_
  refine lv_iload_n hx hb dX5_add_1 rfl (lv_at hl 1 rfl) ?_
  refine va_callq (va_runV (As := [.int zx1]) (rest := []) ⟨hx, hb, hml, hown, hts⟩ (c_X5_at l D cO mi L f e0 τ hM zx1) (cwV 1 hts gX5_add_X5_at rfl rfl rfl (by decide +kernel) ⟨Nat.le_of_ble_eq_true rfl, Nat.le_of_ble_eq_true rfl⟩) (mP_V hK hP 6 rfl hM.x.1 hM.x.2) rfl rfl hl.1 rfl (lv_room (Nat.le_of_ble_eq_true rfl)) dX5_add_2 ⟨Nat.le_of_ble_eq_true rfl, Nat.le_of_ble_eq_true rfl⟩) hS (fun _ _ h => h.elim) (fun _ h => h.elim) (fun r_1 u t H1 locs ht hvm hw hB hz1 hk1 hS => ?_)
  replace hP := ro_kept hP hk1
  obtain rfl : r_1 = _ := hw
  clear hk1 hz1 hvm ht hB
  generalize H1 = H at hP hS ⊢
  rcases htzp : t_ati τ zx1 with _ | zp
  · rw [show t_at τ zx1 = none by simp [t_at, htzp]]
    refine lv_astoreN (lv' := [(4, .null), (0, .ref (mt_x τ)), (1, .int zx1), (2, .int zx2), (3, .int zx3)]) hx hb dX5_add_5 hl (by decide) rfl (fun ls hl => ?_)
    refine lv_aloadN hx hb dX5_add_7 (lv_at hl 0 rfl) ?_
    refine lv_ifnullN (tgt := 20) hx hb dX5_add_9 (by decide) ?_
    refine lv_bipush (v := (-14)) hx hb dX5_add_20 (by decide) ?_
    refine W.widen (k := 5) (n := 108) (by first | exact Nat.le_refl _ | omega) (by first | exact Nat.le_refl _ | omega) ?_
    exact W.iret (v := (-14)) hx hb hr (fun t ht hW => ⟨⟨(-14), (L, f), rfl, ⟨⟨by simp [t_addR, show ¬ (nI 1 < 0) by decide, htzp], Or.inl ⟨by decide, rfl, hM⟩⟩, hE⟩, show va_P D vwCl (va_pl _ _) t.heap from (by rw [ht]; exact hP)⟩, hS.F ht⟩) hS.2.2 dX5_add_22
  · rw [show t_at τ zx1 = some (mt_ca τ zp) by simp [t_at, htzp]]
    refine lv_astore (lv' := [(4, .ref (mt_ca τ zp)), (0, .ref (mt_x τ)), (1, .int zx1), (2, .int zx2), (3, .int zx3)]) hx hb dX5_add_5 hl (by decide) rfl (fun ls hl => ?_)
    refine lv_aload hx hb dX5_add_7 (lv_at hl 0 rfl) ?_
    refine lv_ifnull hx hb dX5_add_9 ?_
    refine lv_aload hx hb dX5_add_12 (lv_at hl 0 rfl) ?_
    refine pl_get (D := D) (ci := 4) (v := .int (mt_fc τ zp)) (C := RX3) (T := TX3) (N := 9) hx hb hts (by decide +kernel) hown hK.1 hP (hM.cl (t_ati_lt hM htzp)).1 (hM.cl (t_ati_lt hM htzp)).2.1 rfl 3 (by decide) (hts (.fieldLink RX5 42 "ChooseTreeModel$Cls" "isFace" "Z") (by decide +kernel)) (fun _ h9 => h9) rfl dX5_add_14 ?_
    refine lv_if_eq (tgt := 23) hx hb dX5_add_17 (by decide) (fun c_2 => ?_) (fun c_2 => ?_)
    · refine lv_iload_n hx hb dX5_add_23 rfl (lv_at hl 3 rfl) ?_
      refine lv_if_lt (tgt := 51) hx hb dX5_add_24 (by decide) (fun c_3 => ?_) (fun c_3 => ?_)
      · refine lv_iconst (v := (-1)) hx hb dX5_add_51 (by decide) ?_
        refine W.widen (k := 5) (n := 108) (by first | exact Nat.le_refl _ | omega) (by first | exact Nat.le_refl _ | omega) ?_
        exact W.iret (v := (-1)) hx hb hr (fun t ht hW => ⟨⟨(-1), (L, f), rfl, ⟨⟨by simp [t_addR, show ¬ (nI 1 < 0) by decide, htzp, c_2, c_3], Or.inl ⟨by decide, rfl, hM⟩⟩, hE⟩, show va_P D vwCl (va_pl _ _) t.heap from (by rw [ht]; exact hP)⟩, hS.F ht⟩) hS.2.2 dX5_add_52
      · refine lv_iload_n hx hb dX5_add_27 rfl (lv_at hl 3 rfl) ?_
        refine lv_bipush (v := (nI 9)) hx hb dX5_add_28 (by decide) ?_
        refine lv_icmp_gt (tgt := 51) hx hb dX5_add_30 (by decide) (fun c_4 => ?_) (fun c_4 => ?_)
        · refine lv_iconst (v := (-1)) hx hb dX5_add_51 (by decide) ?_
          refine W.widen (k := 5) (n := 108) (by first | exact Nat.le_refl _ | omega) (by first | exact Nat.le_refl _ | omega) ?_
          exact W.iret (v := (-1)) hx hb hr (fun t ht hW => ⟨⟨(-1), (L, f), rfl, ⟨⟨by simp [t_addR, show ¬ (nI 1 < 0) by decide, htzp, c_2, c_3, c_4], Or.inl ⟨by decide, rfl, hM⟩⟩, hE⟩, show va_P D vwCl (va_pl _ _) t.heap from (by rw [ht]; exact hP)⟩, hS.F ht⟩) hS.2.2 dX5_add_52
        · refine lv_iload_n hx hb dX5_add_33 rfl (lv_at hl 4 rfl) ?_
          refine lv_if_lt (tgt := 51) hx hb dX5_add_34 (by decide) (fun c_5 => ?_) (fun c_5 => ?_)
          · refine lv_iconst (v := (-1)) hx hb dX5_add_51 (by decide) ?_
            refine W.widen (k := 5) (n := 108) (by first | exact Nat.le_refl _ | omega) (by first | exact Nat.le_refl _ | omega) ?_
            exact W.iret (v := (-1)) hx hb hr (fun t ht hW => ⟨⟨(-1), (L, f), rfl, ⟨⟨by simp [t_addR, show ¬ (nI 1 < 0) by decide, htzp, c_2, c_3, c_4, c_5], Or.inl ⟨by decide, rfl, hM⟩⟩, hE⟩, show va_P D vwCl (va_pl _ _) t.heap from (by rw [ht]; exact hP)⟩, hS.F ht⟩) hS.2.2 dX5_add_52
          · refine lv_iload_n hx hb dX5_add_37 rfl (lv_at hl 4 rfl) ?_
            refine lv_iconst (v := (nI 1)) hx hb dX5_add_38 (by decide) ?_
            refine lv_icmp_gt (tgt := 51) hx hb dX5_add_39 (by decide) (fun c_6 => ?_) (fun c_6 => ?_)
            · refine lv_iconst (v := (-1)) hx hb dX5_add_51 (by decide) ?_
              refine W.widen (k := 5) (n := 108) (by first | exact Nat.le_refl _ | omega) (by first | exact Nat.le_refl _ | omega) ?_
              exact W.iret (v := (-1)) hx hb hr (fun t ht hW => ⟨⟨(-1), (L, f), rfl, ⟨⟨by simp [t_addR, show ¬ (nI 1 < 0) by decide, htzp, c_2, c_3, c_4, c_5, c_6], Or.inl ⟨by decide, rfl, hM⟩⟩, hE⟩, show va_P D vwCl (va_pl _ _) t.heap from (by rw [ht]; exact hP)⟩, hS.F ht⟩) hS.2.2 dX5_add_52
            · refine lv_iload_n hx hb dX5_add_42 rfl (lv_at hl 4 rfl) ?_
              refine lv_iconst (v := (nI 1)) hx hb dX5_add_43 (by decide) ?_
              refine lv_icmp_ne (tgt := 53) hx hb dX5_add_44 (by decide) (fun c_7 => ?_) (fun c_7 => ?_)
              · refine lv_aload_n hx hb dX5_add_53 rfl (lv_at hl 1 rfl) ?_
                refine pl_get (D := D) (ci := 6) (v := .ref (mt_c τ)) (C := RX5) (T := TX5) (N := 3) hx hb hts (by decide +kernel) hown hK.1 hP hM.x.1 hM.x.2 rfl 0 (by decide) (hts (.fieldLink RX5 10 "ChooseTreeModel" "classes" "Ljava/util/ArrayList;") (by decide +kernel)) (fun _ h9 => h9) rfl dX5_add_54 ?_
                obtain ⟨mcz8, gz8, hfz8, hgz8, hcz8⟩ := hM.ly.raw (b := (mt_c τ)) hM.c.1 hM.c.2
                refine va_calli (va_runV (As := []) (rest := []) ⟨hx, hb, hml, hown, hts⟩ (c_Jx4a65c_size_8abf5 l D cO mi L f (mt_c τ) hM.c.1 mcz8 (ls_dat (mt_ls τ) (mt_c τ)) (mt_cnt τ (mt_c τ)) hfz8) (cwV 0 hts gX5_add_Jx4a65c_size_8abf5 rfl rfl rfl (by decide +kernel) ⟨Nat.le_of_ble_eq_true rfl, Nat.le_of_ble_eq_true rfl⟩) (mP_V hK hP 0 rfl hM.c.1 hfz8) rfl rfl hl.1 rfl (lv_room (Nat.le_of_ble_eq_true rfl)) dX5_add_57 ⟨Nat.le_of_ble_eq_true rfl, Nat.le_of_ble_eq_true rfl⟩) hS (fun _ _ h => h.elim) (fun _ h => h.elim) (fun r_9 u t H1 locs ht hvm hw hB hz1 hk1 hS => ?_)
                replace hP := ro_kept hP hk1
                obtain rfl : r_9 = _ := hw
                clear hk1 hz1 hvm ht hB
                generalize H1 = H at hP hS ⊢
                rw [show (mt_cnt τ (mt_c τ)) = mt_n τ from hM.cs.1]
                clear hcz8 hgz8
                refine lv_bipush (v := (nI 60)) hx hb dX5_add_60 (by decide) ?_
                refine lv_icmp_ne (tgt := 68) hx hb dX5_add_62 (by decide) (fun c_10 => ?_) (fun c_10 => ?_)
                · refine lv_aload_n hx hb dX5_add_68 rfl (lv_at hl 1 rfl) ?_
                  refine pl_get (D := D) (ci := 6) (v := .ref (mt_c τ)) (C := RX5) (T := TX5) (N := 3) hx hb hts (by decide +kernel) hown hK.1 hP hM.x.1 hM.x.2 rfl 0 (by decide) (hts (.fieldLink RX5 10 "ChooseTreeModel" "classes" "Ljava/util/ArrayList;") (by decide +kernel)) (fun _ h9 => h9) rfl dX5_add_69 ?_
                  refine pl_new (D := D) (ci := 4) (fs := [.int 0, .int 0, .null, .int 0, .null, .null, .null, .int 0, .int 0]) (C := RX3) (T := TX3) (N := 9) hx hb hts (by decide +kernel) tyX3 tyX3_ok hown (hts (.classLink RX5 19 RX3) (by decide +kernel)) (hts (.instantiable RX3 9) (by decide +kernel)) (hts (.initialized RX3) (by decide +kernel)) hK.1 hP hD hS hA rfl (by decide) (Nat.le_of_ble_eq_true rfl) (Nat.le_of_ble_eq_true rfl) dX5_add_72 (fun q72 H hq hAq hP hS => ?_)
                  have hqs : sz ≤ q72 := hAq.resolve_left (fun z => hq (hE.mem z))
                  obtain ⟨f11, hf11⟩ : ∃ z, z = va_up f q72 (.inr (4, [.int 0, .int 0, .null, .int 0, .null, .null, .null, .int 0, .int 0])) := ⟨_, rfl⟩
                  rw [← hf11] at hP
                  have F_mt_xτ_11 : f11 (mt_x τ) = .inr (6, [.ref (mt_c τ), .ref (mt_m τ), .int (mt_mark τ)]) := by rw [hf11, va_up_ne _ _ (show (mt_x τ) ≠ q72 from fun e9 => hq (e9 ▸ hM.x.1))]; exact hM.x.2
                  have M_mt_xτ_11 := List.mem_append_left [q72] hM.x.1
                  have F_mt_caτzp_11 : f11 (mt_ca τ zp) = .inr (4, [.int (nI zp), .int (mt_pk τ zp), va_rf ((mt_pr τ zp).map (mt_ca τ)), .int (mt_fc τ zp), .ref (mt_fa τ zp), .ref (mt_ma τ zp), .ref (mt_aa τ zp), .int (mt_pt τ zp), .int (mt_mk τ zp)]) := by rw [hf11, va_up_ne _ _ (show (mt_ca τ zp) ≠ q72 from fun e9 => hq (e9 ▸ (hM.cl (t_ati_lt hM htzp)).1))]; exact (hM.cl (t_ati_lt hM htzp)).2.1
                  have M_mt_caτzp_11 := List.mem_append_left [q72] (hM.cl (t_ati_lt hM htzp)).1
                  have F_mt_cτ_11 : f11 (mt_c τ) = .inr (0, [.int mcz8, .ref (ls_dat (mt_ls τ) (mt_c τ)), .int (nI (mt_cnt τ (mt_c τ)))]) := by rw [hf11, va_up_ne _ _ (show (mt_c τ) ≠ q72 from fun e9 => hq (e9 ▸ hM.c.1))]; exact hfz8
                  have M_mt_cτ_11 := List.mem_append_left [q72] hM.c.1
                  have F_q72_11 : f11 q72 = .inr (4, [.int 0, .int 0, .null, .int 0, .null, .null, .null, .int 0, .int 0]) := by rw [hf11]; exact va_up_self _ _ _
                  have M_q72_11 : q72 ∈ L ++ [q72] := List.mem_append_right _ (List.mem_singleton.mpr rfl)
                  replace hE : pext L sz (L ++ [q72]) := hE.tr (Nat.le_refl _) (pext.one hE.nd hq hqs)
                  have hD : va_D (mA L sz) (va_pl (L ++ [q72]) f11) := hE.D
                  have hqq72 := hq
                  have hqsq72 := hqs
                  clear hq hqs hAq
                  refine lv_dup hx hb dX5_add_75 rfl ?_
                  refine lv_aload_n hx hb dX5_add_76 rfl (lv_at hl 1 rfl) ?_
                  refine pl_get (D := D) (ci := 6) (v := .ref (mt_c τ)) (C := RX5) (T := TX5) (N := 3) hx hb hts (by decide +kernel) hown hK.1 hP M_mt_xτ_11 F_mt_xτ_11 rfl 0 (by decide) (hts (.fieldLink RX5 10 "ChooseTreeModel" "classes" "Ljava/util/ArrayList;") (by decide +kernel)) (fun _ h9 => h9) rfl dX5_add_77 ?_
                  refine va_calli (va_runV (As := []) (rest := [.ref q72, .ref q72, .ref (mt_c τ)]) ⟨hx, hb, hml, hown, hts⟩ (c_Jx4a65c_size_8abf5 l D cO mi (L ++ [q72]) f11 (mt_c τ) M_mt_cτ_11 mcz8 (ls_dat (mt_ls τ) (mt_c τ)) (mt_cnt τ (mt_c τ)) F_mt_cτ_11) (cwV 0 hts gX5_add_Jx4a65c_size_8abf5 rfl rfl rfl (by decide +kernel) ⟨Nat.le_of_ble_eq_true rfl, Nat.le_of_ble_eq_true rfl⟩) (mP_V hK hP 0 rfl M_mt_cτ_11 F_mt_cτ_11) rfl rfl hl.1 rfl (lv_room (Nat.le_of_ble_eq_true rfl)) dX5_add_80 ⟨Nat.le_of_ble_eq_true rfl, Nat.le_of_ble_eq_true rfl⟩) hS (fun _ _ h => h.elim) (fun _ h => h.elim) (fun r_12 u t H1 locs ht hvm hw hB hz1 hk1 hS => ?_)
                  replace hP := ro_kept hP hk1
                  obtain rfl : r_12 = _ := hw
                  clear hk1 hz1 hvm ht hB
                  generalize H1 = H at hP hS ⊢
                  rw [show (mt_cnt τ (mt_c τ)) = mt_n τ from hM.cs.1]
                  refine lv_aload hx hb dX5_add_83 (lv_at hl 0 rfl) ?_
                  refine lv_iload_n hx hb dX5_add_85 rfl (lv_at hl 3 rfl) ?_
                  refine lv_iload_n hx hb dX5_add_86 rfl (lv_at hl 4 rfl) ?_
                  refine lv_iconst (v := (nI 1)) hx hb dX5_add_87 (by decide) ?_
                  refine lv_icmp_ne (tgt := 95) hx hb dX5_add_88 (by decide) (fun c_13 => ?_) (fun c_13 => ?_)
                  · refine lv_iconst (v := (nI 0)) hx hb dX5_add_95 (by decide) ?_
                    have hszH : sz ≤ H.size := by have := hS.1; omega
                    have hPold := hP
                    refine va_callv (va_runI (As := [.int (nI (mt_n τ)), .ref (mt_ca τ zp), .int zx2, .int (nI 0)]) (rest := [.ref q72, .ref (mt_c τ)]) ⟨hx, hb, hml, hown, hts⟩ (c_X3_init l D cO mi e0 (L ++ [q72]) f11 H.size hE.nd q72 M_q72_11 (nI (mt_n τ)) (some (mt_ca τ zp)) zx2 false F_q72_11) (cwI 4 hts gX5_add_X3_init rfl rfl rfl (hts (.initialized RX3) (by decide +kernel)) (hts (.methodLink RX5 21 yX3_init) (by decide +kernel)) (hts (.instanceMethod yX3_init) (by decide +kernel)) rfl (by decide +kernel) ⟨Nat.le_of_ble_eq_true rfl, Nat.le_of_ble_eq_true rfl⟩) (mW_S hK hJ hS (hE.sub (by have := hS.1; omega)) hP) rfl rfl hl.1 rfl (lv_room (Nat.le_of_ble_eq_true rfl)) dX5_add_96 ⟨Nat.le_of_ble_eq_true rfl, Nat.le_of_ble_eq_true rfl⟩) hS (fun q _ h => (hE.sub (by have := hS.1; omega)) q h) (hE.sub (by have := hS.1; omega)) (fun u t H1 locs ht hvm hw hB hz1 hk1 hS => ?_)
                    obtain ⟨L14, f14⟩ := u
                    obtain ⟨hw, hE1⟩ := hw
                    replace hB : va_P D vwCl (va_pl L14 f14) t.heap := hB
                    rw [ht] at hB
                    replace hE : pext L sz L14 := hE.tr (hszH) hE1
                    obtain ⟨l1, l2, l3, hL1, ⟨hn1, hn2, hn3⟩, ⟨hs1, hs2, hs3⟩, hcq, hc1, hc2, hc3, hrest⟩ := hw
                    replace hL1 : L14 = L ++ [q72] ++ [l1] ++ [l2] ++ [l3] := hL1
                    subst hL1
                    have he8 : e0 < sz := hJ.lt.2
                    have hN : ncls e0 L f τ q72 l1 l2 l3 zx2 (some zp) (bI false) f14 := ⟨⟨hqq72, hn1, hn2, hn3⟩, ⟨by omega, by omega, by omega, by omega⟩, hcq, ⟨_, hc1⟩, ⟨_, hc2⟩, ⟨_, hc3⟩, fun y hy => by have hne : y ≠ q72 := fun e9 => hqq72 (e9 ▸ hy); exact (hrest y (List.mem_append_left _ hy) hne).trans (by rw [hf11, va_up_ne _ _ hne])⟩
                    have hM1 := hM.newC hN
                    have hmq : mobj (L ++ [q72] ++ [l1] ++ [l2] ++ [l3]) f14 q72 := ⟨by simp, 4, _, hcq, Or.inl rfl⟩
                    clear hPold hP hk1 hz1 hvm ht hszH hE1
                    have hP := hB
                    clear hB
                    generalize H1 = H at hP hS ⊢
                    have hD : va_D (mA L sz) (va_pl (L ++ [q72] ++ [l1] ++ [l2] ++ [l3]) f14) := hE.D
                    have hn60 : mt_n τ < 60 := by have h60 : ¬ mt_n τ = 60 := fun e => absurd (congrArg nI e) c_10; omega
                    obtain ⟨mcA, gA, hfA, hgA, hcA⟩ := hM1.ly.raw (b := (mt_c τ)) hM1.c.1 hM1.c.2
                    have hszH : sz ≤ H.size := by have := hS.1; omega
                    have hPold := hP
                    refine va_calli (va_runV (As := [.ref q72]) (rest := []) ⟨hx, hb, hml, hown, hts⟩ (c_Jx4a65c_addU l D cO mi e0 (L ++ [q72] ++ [l1] ++ [l2] ++ [l3]) f14 H.size hE.nd (mt_c τ) hM1.c.1 mcA (ls_dat (ls_ext (mt_ls τ) [q72, l1, l2, l3] e0) (mt_c τ)) (ls_cnt (ls_ext (mt_ls τ) [q72, l1, l2, l3] e0) (mt_c τ)) hfA q72 hmq (ls_cap (ls_ext (mt_ls τ) [q72, l1, l2, l3] e0) (mt_c τ)) (ls_grow (ls_ext (mt_ls τ) [q72, l1, l2, l3] e0) (mt_c τ)) gA hgA 90 (ls_grow_le (K := 60) (show ls_cnt (ls_ext (mt_ls τ) [q72, l1, l2, l3] e0) (mt_c τ) < 60 from Nat.lt_of_le_of_lt (Nat.le_of_eq hM1.cs.1) hn60) (by omega))) (cwV 1 hts gX5_add_Jx4a65c_add_9ea2d rfl rfl rfl (by decide +kernel) ⟨Nat.le_of_ble_eq_true rfl, Nat.le_of_ble_eq_true rfl⟩) (mW_V hK hJ hS (hE.sub (by have := hS.1; omega)) hP 0 rfl hM1.c.1 hfA) rfl rfl hl.1 rfl (lv_room (Nat.le_of_ble_eq_true rfl)) dX5_add_99 ⟨Nat.le_of_ble_eq_true rfl, Nat.le_of_ble_eq_true rfl⟩) hS (fun q _ h => (hE.sub (by have := hS.1; omega)) q h) (hE.sub (by have := hS.1; omega)) (fun r_15 u t H1 locs ht hvm hw hB hz1 hk1 hS => ?_)
                    obtain ⟨L15, f15⟩ := u
                    obtain ⟨hw, hE1⟩ := hw
                    replace hB : va_P D vwCl (va_pl L15 f15) t.heap := hB
                    rw [ht] at hB
                    replace hE : pext L sz L15 := hE.tr (hszH) hE1
                    have he9 : e0 < H.size := Nat.lt_of_lt_of_le hJ.lt.2 hszH
                    obtain ⟨hr1, hw⟩ := hw
                    subst hr1
                    obtain ⟨d2, n2, hM2⟩ := hM.addC3 hn60 hN (fun p hp => by rw [← Option.some.inj hp]; exact t_ati_lt hM htzp) hfA hcA he9 hE1 hw
                    replace hM2 : MI e0 cO L15 f15 _ := hM2
                    obtain ⟨mc9, d9, hf9⟩ : ∃ mc d, f15 (mt_c τ) = alc mc d (mt_n τ + 1) := hM2.cAL
                    have hx9 : f15 (mt_x τ) = .inr (6, [.ref (mt_c τ), .ref (mt_m τ), .int (mt_mark τ)]) := hM2.x.2
                    have hx8 : mt_x τ ∈ L15 := hM2.x.1
                    have hc8 : mt_c τ ∈ L15 := hM2.c.1
                    clear he9
                    clear hPold hP hk1 hz1 hvm ht hszH hE1
                    have hP := hB
                    clear hB
                    generalize H1 = H at hP hS ⊢
                    have hD : va_D (mA L sz) (va_pl L15 f15) := hE.D
                    refine lv_pop hx hb dX5_add_102 rfl ?_
                    refine lv_aload_n hx hb dX5_add_103 rfl (lv_at hl 1 rfl) ?_
                    refine pl_get (D := D) (ci := 6) (v := .ref (mt_c τ)) (C := RX5) (T := TX5) (N := 3) hx hb hts (by decide +kernel) hown hK.1 hP hx8 hx9 rfl 0 (by decide) (hts (.fieldLink RX5 10 "ChooseTreeModel" "classes" "Ljava/util/ArrayList;") (by decide +kernel)) (fun _ h9 => h9) rfl dX5_add_104 ?_
                    refine va_calli (va_runV (As := []) (rest := []) ⟨hx, hb, hml, hown, hts⟩ (c_Jx4a65c_size_8abf5 l D cO mi L15 f15 (mt_c τ) hc8 mc9 d9 (mt_n τ + 1) hf9) (cwV 0 hts gX5_add_Jx4a65c_size_8abf5 rfl rfl rfl (by decide +kernel) ⟨Nat.le_of_ble_eq_true rfl, Nat.le_of_ble_eq_true rfl⟩) (mP_V hK hP 0 rfl hc8 hf9) rfl rfl hl.1 rfl (lv_room (Nat.le_of_ble_eq_true rfl)) dX5_add_107 ⟨Nat.le_of_ble_eq_true rfl, Nat.le_of_ble_eq_true rfl⟩) hS (fun _ _ h => h.elim) (fun _ h => h.elim) (fun r_16 u t H1 locs ht hvm hw hB hz1 hk1 hS => ?_)
                    replace hP := ro_kept hP hk1
                    obtain rfl : r_16 = _ := hw
                    clear hk1 hz1 hvm ht hB
                    generalize H1 = H at hP hS ⊢
                    refine lv_iconst (v := (nI 1)) hx hb dX5_add_110 (by decide) ?_
                    refine lv_isubN hx hb dX5_add_111 (by omega) ?_
                    refine W.widen (k := 5) (n := 108) (by first | exact Nat.le_refl _ | omega) (by first | exact Nat.le_refl _ | omega) ?_
                    exact W.iret (v := (nI ((mt_n τ + 1) - 1))) hx hb hr (fun t ht hW => ⟨⟨(nI ((mt_n τ + 1) - 1)), (L15, f15), rfl, ⟨⟨by simp [t_addR, show ¬ (nI 1 < 0) by decide, htzp, c_2, c_3, c_4, c_5, c_6, c_7, c_10, c_13], Or.inr ⟨rfl, hn60, zp, (by first | exact htzp | rfl), q72, l1, l2, l3, d2, n2, (by have hd9 : decide (zx3 = nI 1) = false := (by simp [htzp, c_2, c_3, c_4, c_5, c_6, c_7, c_10, c_13]); rw [hd9]; exact hM2), hqq72, fun z => hn1 (List.mem_append_left _ z), fun z => hn2 (List.mem_append_left _ (List.mem_append_left _ z)), fun z => hn3 (List.mem_append_left _ (List.mem_append_left _ (List.mem_append_left _ z)))⟩⟩, hE⟩, show va_P D vwCl (va_pl _ _) t.heap from (by rw [ht]; exact hP)⟩, hS.F ht⟩) hS.2.2 dX5_add_112
                  · exact absurd c_13 c_7
                · refine lv_bipush (v := (-12)) hx hb dX5_add_65 (by decide) ?_
                  refine W.widen (k := 5) (n := 108) (by first | exact Nat.le_refl _ | omega) (by first | exact Nat.le_refl _ | omega) ?_
                  exact W.iret (v := (-12)) hx hb hr (fun t ht hW => ⟨⟨(-12), (L, f), rfl, ⟨⟨by simp [t_addR, show ¬ (nI 1 < 0) by decide, htzp, c_2, c_3, c_4, c_5, c_6, c_7, c_10], Or.inl ⟨by decide, rfl, hM⟩⟩, hE⟩, show va_P D vwCl (va_pl _ _) t.heap from (by rw [ht]; exact hP)⟩, hS.F ht⟩) hS.2.2 dX5_add_67
              · refine lv_iload_n hx hb dX5_add_47 rfl (lv_at hl 2 rfl) ?_
                refine lv_if_eq (tgt := 53) hx hb dX5_add_48 (by decide) (fun c_17 => ?_) (fun c_17 => ?_)
                · have htz0 : t_ati τ 0 = some zp := by rw [← c_17]; exact htzp
                  refine lv_aload_n hx hb dX5_add_53 rfl (lv_at hl 1 rfl) ?_
                  refine pl_get (D := D) (ci := 6) (v := .ref (mt_c τ)) (C := RX5) (T := TX5) (N := 3) hx hb hts (by decide +kernel) hown hK.1 hP hM.x.1 hM.x.2 rfl 0 (by decide) (hts (.fieldLink RX5 10 "ChooseTreeModel" "classes" "Ljava/util/ArrayList;") (by decide +kernel)) (fun _ h9 => h9) rfl dX5_add_54 ?_
                  obtain ⟨mcz18, gz18, hfz18, hgz18, hcz18⟩ := hM.ly.raw (b := (mt_c τ)) hM.c.1 hM.c.2
                  refine va_calli (va_runV (As := []) (rest := []) ⟨hx, hb, hml, hown, hts⟩ (c_Jx4a65c_size_8abf5 l D cO mi L f (mt_c τ) hM.c.1 mcz18 (ls_dat (mt_ls τ) (mt_c τ)) (mt_cnt τ (mt_c τ)) hfz18) (cwV 0 hts gX5_add_Jx4a65c_size_8abf5 rfl rfl rfl (by decide +kernel) ⟨Nat.le_of_ble_eq_true rfl, Nat.le_of_ble_eq_true rfl⟩) (mP_V hK hP 0 rfl hM.c.1 hfz18) rfl rfl hl.1 rfl (lv_room (Nat.le_of_ble_eq_true rfl)) dX5_add_57 ⟨Nat.le_of_ble_eq_true rfl, Nat.le_of_ble_eq_true rfl⟩) hS (fun _ _ h => h.elim) (fun _ h => h.elim) (fun r_19 u t H1 locs ht hvm hw hB hz1 hk1 hS => ?_)
                  replace hP := ro_kept hP hk1
                  obtain rfl : r_19 = _ := hw
                  clear hk1 hz1 hvm ht hB
                  generalize H1 = H at hP hS ⊢
                  rw [show (mt_cnt τ (mt_c τ)) = mt_n τ from hM.cs.1]
                  clear hcz18 hgz18
                  refine lv_bipush (v := (nI 60)) hx hb dX5_add_60 (by decide) ?_
                  refine lv_icmp_ne (tgt := 68) hx hb dX5_add_62 (by decide) (fun c_20 => ?_) (fun c_20 => ?_)
                  · refine lv_aload_n hx hb dX5_add_68 rfl (lv_at hl 1 rfl) ?_
                    refine pl_get (D := D) (ci := 6) (v := .ref (mt_c τ)) (C := RX5) (T := TX5) (N := 3) hx hb hts (by decide +kernel) hown hK.1 hP hM.x.1 hM.x.2 rfl 0 (by decide) (hts (.fieldLink RX5 10 "ChooseTreeModel" "classes" "Ljava/util/ArrayList;") (by decide +kernel)) (fun _ h9 => h9) rfl dX5_add_69 ?_
                    refine pl_new (D := D) (ci := 4) (fs := [.int 0, .int 0, .null, .int 0, .null, .null, .null, .int 0, .int 0]) (C := RX3) (T := TX3) (N := 9) hx hb hts (by decide +kernel) tyX3 tyX3_ok hown (hts (.classLink RX5 19 RX3) (by decide +kernel)) (hts (.instantiable RX3 9) (by decide +kernel)) (hts (.initialized RX3) (by decide +kernel)) hK.1 hP hD hS hA rfl (by decide) (Nat.le_of_ble_eq_true rfl) (Nat.le_of_ble_eq_true rfl) dX5_add_72 (fun q72 H hq hAq hP hS => ?_)
                    have hqs : sz ≤ q72 := hAq.resolve_left (fun z => hq (hE.mem z))
                    obtain ⟨f21, hf21⟩ : ∃ z, z = va_up f q72 (.inr (4, [.int 0, .int 0, .null, .int 0, .null, .null, .null, .int 0, .int 0])) := ⟨_, rfl⟩
                    rw [← hf21] at hP
                    have F_mt_xτ_21 : f21 (mt_x τ) = .inr (6, [.ref (mt_c τ), .ref (mt_m τ), .int (mt_mark τ)]) := by rw [hf21, va_up_ne _ _ (show (mt_x τ) ≠ q72 from fun e9 => hq (e9 ▸ hM.x.1))]; exact hM.x.2
                    have M_mt_xτ_21 := List.mem_append_left [q72] hM.x.1
                    have F_mt_caτzp_21 : f21 (mt_ca τ zp) = .inr (4, [.int (nI zp), .int (mt_pk τ zp), va_rf ((mt_pr τ zp).map (mt_ca τ)), .int (mt_fc τ zp), .ref (mt_fa τ zp), .ref (mt_ma τ zp), .ref (mt_aa τ zp), .int (mt_pt τ zp), .int (mt_mk τ zp)]) := by rw [hf21, va_up_ne _ _ (show (mt_ca τ zp) ≠ q72 from fun e9 => hq (e9 ▸ (hM.cl (t_ati_lt hM htzp)).1))]; exact (hM.cl (t_ati_lt hM htzp)).2.1
                    have M_mt_caτzp_21 := List.mem_append_left [q72] (hM.cl (t_ati_lt hM htzp)).1
                    have F_mt_cτ_21 : f21 (mt_c τ) = .inr (0, [.int mcz18, .ref (ls_dat (mt_ls τ) (mt_c τ)), .int (nI (mt_cnt τ (mt_c τ)))]) := by rw [hf21, va_up_ne _ _ (show (mt_c τ) ≠ q72 from fun e9 => hq (e9 ▸ hM.c.1))]; exact hfz18
                    have M_mt_cτ_21 := List.mem_append_left [q72] hM.c.1
                    have F_q72_21 : f21 q72 = .inr (4, [.int 0, .int 0, .null, .int 0, .null, .null, .null, .int 0, .int 0]) := by rw [hf21]; exact va_up_self _ _ _
                    have M_q72_21 : q72 ∈ L ++ [q72] := List.mem_append_right _ (List.mem_singleton.mpr rfl)
                    replace hE : pext L sz (L ++ [q72]) := hE.tr (Nat.le_refl _) (pext.one hE.nd hq hqs)
                    have hD : va_D (mA L sz) (va_pl (L ++ [q72]) f21) := hE.D
                    have hqq72 := hq
                    have hqsq72 := hqs
                    clear hq hqs hAq
                    refine lv_dup hx hb dX5_add_75 rfl ?_
                    refine lv_aload_n hx hb dX5_add_76 rfl (lv_at hl 1 rfl) ?_
                    refine pl_get (D := D) (ci := 6) (v := .ref (mt_c τ)) (C := RX5) (T := TX5) (N := 3) hx hb hts (by decide +kernel) hown hK.1 hP M_mt_xτ_21 F_mt_xτ_21 rfl 0 (by decide) (hts (.fieldLink RX5 10 "ChooseTreeModel" "classes" "Ljava/util/ArrayList;") (by decide +kernel)) (fun _ h9 => h9) rfl dX5_add_77 ?_
                    refine va_calli (va_runV (As := []) (rest := [.ref q72, .ref q72, .ref (mt_c τ)]) ⟨hx, hb, hml, hown, hts⟩ (c_Jx4a65c_size_8abf5 l D cO mi (L ++ [q72]) f21 (mt_c τ) M_mt_cτ_21 mcz18 (ls_dat (mt_ls τ) (mt_c τ)) (mt_cnt τ (mt_c τ)) F_mt_cτ_21) (cwV 0 hts gX5_add_Jx4a65c_size_8abf5 rfl rfl rfl (by decide +kernel) ⟨Nat.le_of_ble_eq_true rfl, Nat.le_of_ble_eq_true rfl⟩) (mP_V hK hP 0 rfl M_mt_cτ_21 F_mt_cτ_21) rfl rfl hl.1 rfl (lv_room (Nat.le_of_ble_eq_true rfl)) dX5_add_80 ⟨Nat.le_of_ble_eq_true rfl, Nat.le_of_ble_eq_true rfl⟩) hS (fun _ _ h => h.elim) (fun _ h => h.elim) (fun r_22 u t H1 locs ht hvm hw hB hz1 hk1 hS => ?_)
                    replace hP := ro_kept hP hk1
                    obtain rfl : r_22 = _ := hw
                    clear hk1 hz1 hvm ht hB
                    generalize H1 = H at hP hS ⊢
                    rw [show (mt_cnt τ (mt_c τ)) = mt_n τ from hM.cs.1]
                    refine lv_aload hx hb dX5_add_83 (lv_at hl 0 rfl) ?_
                    refine lv_iload_n hx hb dX5_add_85 rfl (lv_at hl 3 rfl) ?_
                    refine lv_iload_n hx hb dX5_add_86 rfl (lv_at hl 4 rfl) ?_
                    refine lv_iconst (v := (nI 1)) hx hb dX5_add_87 (by decide) ?_
                    refine lv_icmp_ne (tgt := 95) hx hb dX5_add_88 (by decide) (fun c_23 => ?_) (fun c_23 => ?_)
                    · exact absurd c_7 c_23
                    · refine lv_iconst (v := (nI 1)) hx hb dX5_add_91 (by decide) ?_
                      refine lv_goto (tgt := 96) hx hb dX5_add_92 (by decide) ?_
                      have hszH : sz ≤ H.size := by have := hS.1; omega
                      have hPold := hP
                      refine va_callv (va_runI (As := [.int (nI (mt_n τ)), .ref (mt_ca τ zp), .int zx2, .int (nI 1)]) (rest := [.ref q72, .ref (mt_c τ)]) ⟨hx, hb, hml, hown, hts⟩ (c_X3_init l D cO mi e0 (L ++ [q72]) f21 H.size hE.nd q72 M_q72_21 (nI (mt_n τ)) (some (mt_ca τ zp)) zx2 true F_q72_21) (cwI 4 hts gX5_add_X3_init rfl rfl rfl (hts (.initialized RX3) (by decide +kernel)) (hts (.methodLink RX5 21 yX3_init) (by decide +kernel)) (hts (.instanceMethod yX3_init) (by decide +kernel)) rfl (by decide +kernel) ⟨Nat.le_of_ble_eq_true rfl, Nat.le_of_ble_eq_true rfl⟩) (mW_S hK hJ hS (hE.sub (by have := hS.1; omega)) hP) rfl rfl hl.1 rfl (lv_room (Nat.le_of_ble_eq_true rfl)) dX5_add_96 ⟨Nat.le_of_ble_eq_true rfl, Nat.le_of_ble_eq_true rfl⟩) hS (fun q _ h => (hE.sub (by have := hS.1; omega)) q h) (hE.sub (by have := hS.1; omega)) (fun u t H1 locs ht hvm hw hB hz1 hk1 hS => ?_)
                      obtain ⟨L24, f24⟩ := u
                      obtain ⟨hw, hE1⟩ := hw
                      replace hB : va_P D vwCl (va_pl L24 f24) t.heap := hB
                      rw [ht] at hB
                      replace hE : pext L sz L24 := hE.tr (hszH) hE1
                      obtain ⟨l1, l2, l3, hL1, ⟨hn1, hn2, hn3⟩, ⟨hs1, hs2, hs3⟩, hcq, hc1, hc2, hc3, hrest⟩ := hw
                      replace hL1 : L24 = L ++ [q72] ++ [l1] ++ [l2] ++ [l3] := hL1
                      subst hL1
                      have he8 : e0 < sz := hJ.lt.2
                      have hN : ncls e0 L f τ q72 l1 l2 l3 zx2 (some zp) (bI true) f24 := ⟨⟨hqq72, hn1, hn2, hn3⟩, ⟨by omega, by omega, by omega, by omega⟩, hcq, ⟨_, hc1⟩, ⟨_, hc2⟩, ⟨_, hc3⟩, fun y hy => by have hne : y ≠ q72 := fun e9 => hqq72 (e9 ▸ hy); exact (hrest y (List.mem_append_left _ hy) hne).trans (by rw [hf21, va_up_ne _ _ hne])⟩
                      have hM1 := hM.newC hN
                      have hmq : mobj (L ++ [q72] ++ [l1] ++ [l2] ++ [l3]) f24 q72 := ⟨by simp, 4, _, hcq, Or.inl rfl⟩
                      clear hPold hP hk1 hz1 hvm ht hszH hE1
                      have hP := hB
                      clear hB
                      generalize H1 = H at hP hS ⊢
                      have hD : va_D (mA L sz) (va_pl (L ++ [q72] ++ [l1] ++ [l2] ++ [l3]) f24) := hE.D
                      have hn60 : mt_n τ < 60 := by have h60 : ¬ mt_n τ = 60 := fun e => absurd (congrArg nI e) c_20; omega
                      obtain ⟨mcA, gA, hfA, hgA, hcA⟩ := hM1.ly.raw (b := (mt_c τ)) hM1.c.1 hM1.c.2
                      have hszH : sz ≤ H.size := by have := hS.1; omega
                      have hPold := hP
                      refine va_calli (va_runV (As := [.ref q72]) (rest := []) ⟨hx, hb, hml, hown, hts⟩ (c_Jx4a65c_addU l D cO mi e0 (L ++ [q72] ++ [l1] ++ [l2] ++ [l3]) f24 H.size hE.nd (mt_c τ) hM1.c.1 mcA (ls_dat (ls_ext (mt_ls τ) [q72, l1, l2, l3] e0) (mt_c τ)) (ls_cnt (ls_ext (mt_ls τ) [q72, l1, l2, l3] e0) (mt_c τ)) hfA q72 hmq (ls_cap (ls_ext (mt_ls τ) [q72, l1, l2, l3] e0) (mt_c τ)) (ls_grow (ls_ext (mt_ls τ) [q72, l1, l2, l3] e0) (mt_c τ)) gA hgA 90 (ls_grow_le (K := 60) (show ls_cnt (ls_ext (mt_ls τ) [q72, l1, l2, l3] e0) (mt_c τ) < 60 from Nat.lt_of_le_of_lt (Nat.le_of_eq hM1.cs.1) hn60) (by omega))) (cwV 1 hts gX5_add_Jx4a65c_add_9ea2d rfl rfl rfl (by decide +kernel) ⟨Nat.le_of_ble_eq_true rfl, Nat.le_of_ble_eq_true rfl⟩) (mW_V hK hJ hS (hE.sub (by have := hS.1; omega)) hP 0 rfl hM1.c.1 hfA) rfl rfl hl.1 rfl (lv_room (Nat.le_of_ble_eq_true rfl)) dX5_add_99 ⟨Nat.le_of_ble_eq_true rfl, Nat.le_of_ble_eq_true rfl⟩) hS (fun q _ h => (hE.sub (by have := hS.1; omega)) q h) (hE.sub (by have := hS.1; omega)) (fun r_25 u t H1 locs ht hvm hw hB hz1 hk1 hS => ?_)
                      obtain ⟨L25, f25⟩ := u
                      obtain ⟨hw, hE1⟩ := hw
                      replace hB : va_P D vwCl (va_pl L25 f25) t.heap := hB
                      rw [ht] at hB
                      replace hE : pext L sz L25 := hE.tr (hszH) hE1
                      have he9 : e0 < H.size := Nat.lt_of_lt_of_le hJ.lt.2 hszH
                      obtain ⟨hr1, hw⟩ := hw
                      subst hr1
                      obtain ⟨d2, n2, hM2⟩ := hM.addC3 hn60 hN (fun p hp => by rw [← Option.some.inj hp]; exact t_ati_lt hM htzp) hfA hcA he9 hE1 hw
                      replace hM2 : MI e0 cO L25 f25 _ := hM2
                      obtain ⟨mc9, d9, hf9⟩ : ∃ mc d, f25 (mt_c τ) = alc mc d (mt_n τ + 1) := hM2.cAL
                      have hx9 : f25 (mt_x τ) = .inr (6, [.ref (mt_c τ), .ref (mt_m τ), .int (mt_mark τ)]) := hM2.x.2
                      have hx8 : mt_x τ ∈ L25 := hM2.x.1
                      have hc8 : mt_c τ ∈ L25 := hM2.c.1
                      clear he9
                      clear hPold hP hk1 hz1 hvm ht hszH hE1
                      have hP := hB
                      clear hB
                      generalize H1 = H at hP hS ⊢
                      have hD : va_D (mA L sz) (va_pl L25 f25) := hE.D
                      refine lv_pop hx hb dX5_add_102 rfl ?_
                      refine lv_aload_n hx hb dX5_add_103 rfl (lv_at hl 1 rfl) ?_
                      refine pl_get (D := D) (ci := 6) (v := .ref (mt_c τ)) (C := RX5) (T := TX5) (N := 3) hx hb hts (by decide +kernel) hown hK.1 hP hx8 hx9 rfl 0 (by decide) (hts (.fieldLink RX5 10 "ChooseTreeModel" "classes" "Ljava/util/ArrayList;") (by decide +kernel)) (fun _ h9 => h9) rfl dX5_add_104 ?_
                      refine va_calli (va_runV (As := []) (rest := []) ⟨hx, hb, hml, hown, hts⟩ (c_Jx4a65c_size_8abf5 l D cO mi L25 f25 (mt_c τ) hc8 mc9 d9 (mt_n τ + 1) hf9) (cwV 0 hts gX5_add_Jx4a65c_size_8abf5 rfl rfl rfl (by decide +kernel) ⟨Nat.le_of_ble_eq_true rfl, Nat.le_of_ble_eq_true rfl⟩) (mP_V hK hP 0 rfl hc8 hf9) rfl rfl hl.1 rfl (lv_room (Nat.le_of_ble_eq_true rfl)) dX5_add_107 ⟨Nat.le_of_ble_eq_true rfl, Nat.le_of_ble_eq_true rfl⟩) hS (fun _ _ h => h.elim) (fun _ h => h.elim) (fun r_26 u t H1 locs ht hvm hw hB hz1 hk1 hS => ?_)
                      replace hP := ro_kept hP hk1
                      obtain rfl : r_26 = _ := hw
                      clear hk1 hz1 hvm ht hB
                      generalize H1 = H at hP hS ⊢
                      refine lv_iconst (v := (nI 1)) hx hb dX5_add_110 (by decide) ?_
                      refine lv_isubN hx hb dX5_add_111 (by omega) ?_
                      refine W.widen (k := 5) (n := 108) (by first | exact Nat.le_refl _ | omega) (by first | exact Nat.le_refl _ | omega) ?_
                      exact W.iret (v := (nI ((mt_n τ + 1) - 1))) hx hb hr (fun t ht hW => ⟨⟨(nI ((mt_n τ + 1) - 1)), (L25, f25), rfl, ⟨⟨by simp [t_addR, show ¬ (nI 1 < 0) by decide, htzp, c_2, c_3, c_4, c_5, c_6, c_7, c_17, htz0, c_20, c_23], Or.inr ⟨rfl, hn60, zp, (by first | exact htzp | rfl), q72, l1, l2, l3, d2, n2, (by have hd9 : decide (zx3 = nI 1) = true := (by simp [htzp, c_2, c_3, c_4, c_5, c_6, c_7, c_17, htz0, c_20, c_23]); rw [hd9]; exact hM2), hqq72, fun z => hn1 (List.mem_append_left _ z), fun z => hn2 (List.mem_append_left _ (List.mem_append_left _ z)), fun z => hn3 (List.mem_append_left _ (List.mem_append_left _ (List.mem_append_left _ z)))⟩⟩, hE⟩, show va_P D vwCl (va_pl _ _) t.heap from (by rw [ht]; exact hP)⟩, hS.F ht⟩) hS.2.2 dX5_add_112
                  · refine lv_bipush (v := (-12)) hx hb dX5_add_65 (by decide) ?_
                    refine W.widen (k := 5) (n := 108) (by first | exact Nat.le_refl _ | omega) (by first | exact Nat.le_refl _ | omega) ?_
                    exact W.iret (v := (-12)) hx hb hr (fun t ht hW => ⟨⟨(-12), (L, f), rfl, ⟨⟨by simp [t_addR, show ¬ (nI 1 < 0) by decide, htzp, c_2, c_3, c_4, c_5, c_6, c_7, c_17, htz0, c_20], Or.inl ⟨by decide, rfl, hM⟩⟩, hE⟩, show va_P D vwCl (va_pl _ _) t.heap from (by rw [ht]; exact hP)⟩, hS.F ht⟩) hS.2.2 dX5_add_67
                · refine lv_iconst (v := (-1)) hx hb dX5_add_51 (by decide) ?_
                  refine W.widen (k := 5) (n := 108) (by first | exact Nat.le_refl _ | omega) (by first | exact Nat.le_refl _ | omega) ?_
                  exact W.iret (v := (-1)) hx hb hr (fun t ht hW => ⟨⟨(-1), (L, f), rfl, ⟨⟨by simp [t_addR, show ¬ (nI 1 < 0) by decide, htzp, c_2, c_3, c_4, c_5, c_6, c_7, c_17], Or.inl ⟨by decide, rfl, hM⟩⟩, hE⟩, show va_P D vwCl (va_pl _ _) t.heap from (by rw [ht]; exact hP)⟩, hS.F ht⟩) hS.2.2 dX5_add_52
    · refine lv_bipush (v := (-14)) hx hb dX5_add_20 (by decide) ?_
      refine W.widen (k := 5) (n := 108) (by first | exact Nat.le_refl _ | omega) (by first | exact Nat.le_refl _ | omega) ?_
      exact W.iret (v := (-14)) hx hb hr (fun t ht hW => ⟨⟨(-14), (L, f), rfl, ⟨⟨by simp [t_addR, show ¬ (nI 1 < 0) by decide, htzp, c_2], Or.inl ⟨by decide, rfl, hM⟩⟩, hE⟩, show va_P D vwCl (va_pl _ _) t.heap from (by rw [ht]; exact hP)⟩, hS.F ht⟩) hS.2.2 dX5_add_22
