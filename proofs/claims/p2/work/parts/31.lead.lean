set_option maxHeartbeats 4000000 in
set_option maxRecDepth 100000 in
theorem c_X5_leadsTo (l : Launch) (D : va_G) (cO : ClassId) (mi e0 : Nat) (τ : MT) (zk : Nat) (L : List Nat) (hnd : L.Nodup) : ∀ (zd : Nat) (f : Nat → va_E) (sz : Nat) (km : Nat → Int32) (hM : MI e0 cO L f (mt_setmk τ km)) (hzk : zk < mt_n τ) (zc : Nat) (hzc : zc < mt_n τ) (hzd : zc < zd), Met l yX5_leadsTo wsX5_leadsTo { frames := zd + 4, cells := 0, slots := 0, locals := 23 * zd + 100 } (mW D cO mi e0 L f sz [.ref (mt_x τ), .ref (mt_ca τ zc), .ref (mt_ca τ zk)]) (wQi D L sz (fun r u => r = bI (t_lead τ zk zd zc km).1 ∧ u.1 = L ∧ MI e0 cO L u.2 (mt_setmk τ (t_lead τ zk zd zc km).2))) 0 0 (mA L sz) := by
  intro zd
  induction zd with
  | zero =>
    intro f sz km hM hzk zc hzc hzd
    exact absurd hzd (by omega)
  | succ zd ihd =>
    intro f sz km hM hzk zc hzc hzd
    refine Met.ofW (cc := cX5_leadsTo) (maxL := 4) (ret := (some .boolean)) (by decide) rfl ?_
    intro p e s m args below meth cq s₁ B hml hv
    obtain ⟨rfl, hsz, hP, hK, hJ⟩ := hv
    have hx := B.exec
    have hb := B.bytes
    have hr := B.returns
    have hts := atoms_spec (ws := wsX5_leadsTo) B.pre
    have hown : s.vm.findClass RX5 = some m.cls := findClass_of_methodNamed B.named
    have hlocks := B.notSynchronized
    clear B
    have hl := lv_entry ([.ref (mt_x τ), .ref (mt_ca τ zc), .ref (mt_ca τ zk)]) (n := 4) (Nat.le_of_ble_eq_true rfl)
    rw [lg_entry_eq]
    generalize (lg_sl ([.ref (mt_x τ), .ref (mt_ca τ zc), .ref (mt_ca τ zk)]) ++ List.replicate (4 - (lg_sl ([.ref (mt_x τ), .ref (mt_ca τ zc), .ref (mt_ca τ zk)])).length) Slot.unset).toArray = ls at hl ⊢
    replace hl : lv_has ls 4 [(0, .ref (mt_x τ)), (1, .ref (mt_ca τ zc)), (2, .ref (mt_ca τ zk))] := hl
    have hE : pext L sz L := pext.rf hnd
    have hD : va_D (mA L sz) (va_pl L f) := hE.D
    refine gen_start (A := mA L sz) (fun H locs hP hS => ?_) hP
    have hMb : 1 ≤ mt_n τ ∧ mt_n τ ≤ 60 ∧ mt_mn τ ≤ 400 := hM.b
    have Fcc : f (mt_ca τ zc) = .inr (4, [.int (nI zc), .int (mt_pk τ zc), va_rf ((mt_pr τ zc).map (mt_ca τ)), .int (mt_fc τ zc), .ref (mt_fa τ zc), .ref (mt_ma τ zc), .ref (mt_aa τ zc), .int (mt_pt τ zc), .int (km zc)]) := (hM.cl hzc).2.1
    have Mcc : mt_ca τ zc ∈ L := (hM.cl hzc).1
    have Fck : f (mt_ca τ zk) = .inr (4, [.int (nI zk), .int (mt_pk τ zk), va_rf ((mt_pr τ zk).map (mt_ca τ)), .int (mt_fc τ zk), .ref (mt_fa τ zk), .ref (mt_ma τ zk), .ref (mt_aa τ zk), .int (mt_pt τ zk), .int (km zk)]) := (hM.cl hzk).2.1
    have Mck : mt_ca τ zk ∈ L := (hM.cl hzk).1
    have Fxx : f (mt_x τ) = .inr (6, [.ref (mt_c τ), .ref (mt_m τ), .int (mt_mark τ)]) := hM.x.2
    have Mxx : mt_x τ ∈ L := hM.x.1
    refine lv_aload_n hx hb dX5_leadsTo_0 rfl (lv_at hl 1 rfl) ?_
    refine lv_aload_n hx hb dX5_leadsTo_1 rfl (lv_at hl 2 rfl) ?_
    refine lv_acmp_ne (rx := (some (mt_ca τ zc))) (ry := (some (mt_ca τ zk))) (tgt := 7) hx hb dX5_leadsTo_2 (by decide) (fun c_1 => ?_) (fun c_1 => ?_)
    · replace c_1 : ¬ mt_ca τ zc = mt_ca τ zk := fun q9 => c_1 (congrArg some q9)
      refine lv_aload_n hx hb dX5_leadsTo_7 rfl (lv_at hl 1 rfl) ?_
      refine pl_get (D := D) (ci := 4) (v := .int (km zc)) (C := RX3) (T := TX3) (N := 9) hx hb hts (by decide +kernel) hown hK.1 hP Mcc Fcc rfl 8 (by decide) (hts (.fieldLink RX5 75 "ChooseTreeModel$Cls" "mark" "I") (by decide +kernel)) (fun _ h9 => h9) rfl dX5_leadsTo_8 ?_
      refine lv_aload_n hx hb dX5_leadsTo_11 rfl (lv_at hl 0 rfl) ?_
      refine pl_get (D := D) (ci := 6) (v := .int (mt_mark τ)) (C := RX5) (T := TX5) (N := 3) hx hb hts (by decide +kernel) hown hK.1 hP Mxx Fxx rfl 2 (by decide) (hts (.fieldLink RX5 69 "ChooseTreeModel" "mark" "I") (by decide +kernel)) (fun _ h9 => h9) rfl dX5_leadsTo_12 ?_
      refine lv_icmp_eq (tgt := 29) hx hb dX5_leadsTo_15 (by decide) (fun c_2 => ?_) (fun c_2 => ?_)
      · refine lv_iconst (v := (nI 0)) hx hb dX5_leadsTo_29 (by decide) ?_
        exact W.zret (v := (nI 0)) hx hb hr rfl (fun t ht hW => ⟨⟨(nI 0), (L, f), rfl, ⟨⟨(by rw [show t_lead τ zk (zd + 1) zc km = (false, km) by simp [t_lead, c_1, c_2]]; rfl), rfl, (by rw [show t_lead τ zk (zd + 1) zc km = (false, km) by simp [t_lead, c_1, c_2]]; exact hM)⟩, hE⟩, show va_P D vwCl (va_pl _ _) t.heap from (by rw [ht]; exact hP)⟩, hS.F ht⟩) hS.2.2 dX5_leadsTo_30
      · refine lv_aload_n hx hb dX5_leadsTo_18 rfl (lv_at hl 1 rfl) ?_
        refine pl_get (D := D) (ci := 4) (v := .int (nI zc)) (C := RX3) (T := TX3) (N := 9) hx hb hts (by decide +kernel) hown hK.1 hP Mcc Fcc rfl 0 (by decide) (hts (.fieldLink RX5 76 "ChooseTreeModel$Cls" "number" "I") (by decide +kernel)) (fun _ h9 => h9) rfl dX5_leadsTo_19 ?_
        refine lv_aload_n hx hb dX5_leadsTo_22 rfl (lv_at hl 2 rfl) ?_
        refine pl_get (D := D) (ci := 4) (v := .int (nI zk)) (C := RX3) (T := TX3) (N := 9) hx hb hts (by decide +kernel) hown hK.1 hP Mck Fck rfl 0 (by decide) (hts (.fieldLink RX5 76 "ChooseTreeModel$Cls" "number" "I") (by decide +kernel)) (fun _ h9 => h9) rfl dX5_leadsTo_23 ?_
        refine lv_icmp_ge (tgt := 31) hx hb dX5_leadsTo_26 (by decide) (fun c_3 => ?_) (fun c_3 => ?_)
        · refine lv_aload_n hx hb dX5_leadsTo_31 rfl (lv_at hl 1 rfl) ?_
          refine lv_aload_n hx hb dX5_leadsTo_32 rfl (lv_at hl 0 rfl) ?_
          refine pl_get (D := D) (ci := 6) (v := .int (mt_mark τ)) (C := RX5) (T := TX5) (N := 3) hx hb hts (by decide +kernel) hown hK.1 hP Mxx Fxx rfl 2 (by decide) (hts (.fieldLink RX5 69 "ChooseTreeModel" "mark" "I") (by decide +kernel)) (fun _ h9 => h9) rfl dX5_leadsTo_33 ?_
          refine pl_put (D := D) (ci := 4) (v := .int (mt_mark τ)) (ty := .int) (C := RX3) (T := TX3) (N := 9) hx hb hts (by decide +kernel) tyX3 tyX3_ok nmX3 hown hK.1 hP hD hS Mcc Fcc rfl 8 (by decide) (hts (.fieldLink RX5 75 "ChooseTreeModel$Cls" "mark" "I") (by decide +kernel)) (fun _ h9 => h9) rfl (by decide +kernel) rfl rfl (Nat.le_of_ble_eq_true rfl) dX5_leadsTo_36 (fun H locs hP hS => ?_)
          replace hP : va_P D vwCl (va_pl L (va_up f (mt_ca τ zc) (.inr (4, [.int (nI zc), .int (mt_pk τ zc), va_rf ((mt_pr τ zc).map (mt_ca τ)), .int (mt_fc τ zc), .ref (mt_fa τ zc), .ref (mt_ma τ zc), .ref (mt_aa τ zc), .int (mt_pt τ zc), .int (mt_mark τ)])))) H := hP
          obtain ⟨f4, hf4⟩ : ∃ z, z = va_up f (mt_ca τ zc) (.inr (4, [.int (nI zc), .int (mt_pk τ zc), va_rf ((mt_pr τ zc).map (mt_ca τ)), .int (mt_fc τ zc), .ref (mt_fa τ zc), .ref (mt_ma τ zc), .ref (mt_aa τ zc), .int (mt_pt τ zc), .int (mt_mark τ)])) := ⟨_, rfl⟩
          rw [← hf4] at hP
          have F_mt_caτzc_4 : f4 (mt_ca τ zc) = .inr (4, [.int (nI zc), .int (mt_pk τ zc), va_rf ((mt_pr τ zc).map (mt_ca τ)), .int (mt_fc τ zc), .ref (mt_fa τ zc), .ref (mt_ma τ zc), .ref (mt_aa τ zc), .int (mt_pt τ zc), .int (mt_mark τ)]) := by rw [hf4]; exact va_up_self _ _ _
          have hD : va_D (mA L sz) (va_pl L f4) := hE.D
          replace hM : MI e0 cO L f4 (mt_setmk τ (va_up km zc (mt_mark τ))) := by rw [hf4]; exact hM.setmk hzc (mt_mark τ)
          obtain ⟨kn, hkn⟩ : ∃ z, z = va_up km zc (mt_mark τ) := ⟨_, rfl⟩
          rw [← hkn] at hM
          have ht0 : t_lead τ zk (zd + 1) zc km = (match mt_pr τ zc with | none => t_lf (t_lead τ zk zd) (mt_fl τ zc) (mt_cnt τ (mt_fa τ zc)) 0 kn | some p => if (t_lead τ zk zd p kn).1 = true then (true, (t_lead τ zk zd p kn).2) else t_lf (t_lead τ zk zd) (mt_fl τ zc) (mt_cnt τ (mt_fa τ zc)) 0 (t_lead τ zk zd p kn).2) := by rw [hkn]; simp [t_lead, c_1, c_2, c_3]; try rfl
          have Fcc2 : f4 (mt_ca τ zc) = .inr (4, [.int (nI zc), .int (mt_pk τ zc), va_rf ((mt_pr τ zc).map (mt_ca τ)), .int (mt_fc τ zc), .ref (mt_fa τ zc), .ref (mt_ma τ zc), .ref (mt_aa τ zc), .int (mt_pt τ zc), .int (kn zc)]) := (hM.cl hzc).2.1
          have Mcc2 : mt_ca τ zc ∈ L := (hM.cl hzc).1
          have Fxx2 : f4 (mt_x τ) = .inr (6, [.ref (mt_c τ), .ref (mt_m τ), .int (mt_mark τ)]) := hM.x.2
          have Mxx2 : mt_x τ ∈ L := hM.x.1
          refine lv_aload_n hx hb dX5_leadsTo_39 rfl (lv_at hl 1 rfl) ?_
          refine pl_get (D := D) (ci := 4) (v := va_rf ((mt_pr τ zc).map (mt_ca τ))) (C := RX3) (T := TX3) (N := 9) hx hb hts (by decide +kernel) hown hK.1 hP Mcc2 Fcc2 rfl 2 (by decide) (hts (.fieldLink RX5 77 "ChooseTreeModel$Cls" "parent" "LChooseTreeModel$Cls;") (by decide +kernel)) (fun _ h9 => h9) rfl dX5_leadsTo_40 ?_
          rcases hp9 : mt_pr τ zc with _ | zp
          · rw [hp9] at ht0
            refine lv_ifnullN (tgt := 60) hx hb dX5_leadsTo_43 (by decide) ?_
            refine lv_iconst (v := (nI 0)) hx hb dX5_leadsTo_60 (by decide) ?_
            refine lv_istore_n (lv' := [(3, .int (nI 0)), (0, .ref (mt_x τ)), (1, .ref (mt_ca τ zc)), (2, .ref (mt_ca τ zk))]) hx hb dX5_leadsTo_61 rfl hl (by decide) rfl (fun ls hl => ?_)
            have hMl : mt_cnt τ (mt_fa τ zc) ≤ 20 ∧ ∀ k, k < mt_cnt τ (mt_fa τ zc) → mt_fl τ zc k < zc ∧ mt_con τ (mt_fa τ zc) k = mt_ca τ (mt_fl τ zc k) := (hM.cl hzc).2.2.2.1
            have hres : t_lf (t_lead τ zk zd) (mt_fl τ zc) (mt_cnt τ (mt_fa τ zc)) 0 kn = t_lead τ zk (zd + 1) zc km := by rw [ht0]
            obtain ⟨fz, hfz⟩ : ∃ z, z = f4 := ⟨_, rfl⟩
            obtain ⟨kz, hkz⟩ : ∃ z, z = kn := ⟨_, rfl⟩
            obtain ⟨zn, hzn⟩ : ∃ z : Nat, z = mt_cnt τ (mt_fa τ zc) := ⟨_, rfl⟩
            obtain ⟨zj, hzj⟩ : ∃ z : Nat, z = 0 := ⟨_, rfl⟩
            have hE9 : zj + zn = mt_cnt τ (mt_fa τ zc) := by omega
            rw [← hfz] at hP hM
            rw [← hkz] at hM
            replace hres : t_lf (t_lead τ zk zd) (mt_fl τ zc) zn zj kz = t_lead τ zk (zd + 1) zc km := by rw [hzn, hzj, hkz]; exact hres
            replace hl : lv_has ls 4 [(3, .int (nI zj)), (0, .ref (mt_x τ)), (1, .ref (mt_ca τ zc)), (2, .ref (mt_ca τ zk))] := by rw [hzj]; exact lv_sub hl [0, 1, 2, 3] rfl
            clear hfz hkz hzn hzj hD Fcc2 Mcc2 Fxx2 Mxx2
            revert hl
            revert hres
            revert hE9
            revert hM
            revert hS
            revert hP
            revert ls
            revert locs
            revert H
            revert kz
            revert fz
            revert zj
            induction zn with
            | zero =>
              intro zj fz kz H locs ls hP hS hM hE9 hres hl
              have hD : va_D (mA L sz) (va_pl L fz) := hE.D
              have Fcl : fz (mt_ca τ zc) = .inr (4, [.int (nI zc), .int (mt_pk τ zc), va_rf ((mt_pr τ zc).map (mt_ca τ)), .int (mt_fc τ zc), .ref (mt_fa τ zc), .ref (mt_ma τ zc), .ref (mt_aa τ zc), .int (mt_pt τ zc), .int (kz zc)]) := (hM.cl hzc).2.1
              have Mcl : mt_ca τ zc ∈ L := (hM.cl hzc).1
              have Fxl : fz (mt_x τ) = .inr (6, [.ref (mt_c τ), .ref (mt_m τ), .int (mt_mark τ)]) := hM.x.2
              have Mxl : mt_x τ ∈ L := hM.x.1
              refine lv_iload_n hx hb dX5_leadsTo_62 rfl (lv_at hl 0 rfl) ?_
              refine lv_aload_n hx hb dX5_leadsTo_63 rfl (lv_at hl 2 rfl) ?_
              refine pl_get (D := D) (ci := 4) (v := .ref (mt_fa τ zc)) (C := RX3) (T := TX3) (N := 9) hx hb hts (by decide +kernel) hown hK.1 hP Mcl Fcl rfl 4 (by decide) (hts (.fieldLink RX5 51 "ChooseTreeModel$Cls" "faces" "Ljava/util/ArrayList;") (by decide +kernel)) (fun _ h9 => h9) rfl dX5_leadsTo_64 ?_
              obtain ⟨mcz5, gz5, hfz5, hgz5, hcz5⟩ := hM.ly.raw (b := (mt_fa τ zc)) (hM.fa hzc).1 (hM.fa hzc).2
              refine va_calli (va_runV (As := []) (rest := [.int (nI zj)]) ⟨hx, hb, hml, hown, hts⟩ (c_Jx4a65c_size_8abf5 l D cO mi L fz (mt_fa τ zc) (hM.fa hzc).1 mcz5 (ls_dat (mt_ls τ) (mt_fa τ zc)) (mt_cnt τ (mt_fa τ zc)) hfz5) (cwV 0 hts gX5_leadsTo_Jx4a65c_size_8abf5 rfl rfl rfl (by decide +kernel) ⟨(by show 0 + 1 ≤ zd + 1 + 4; omega), (by show 8 + (1 + 11) + 0 ≤ 23 * (zd + 1) + 100; omega)⟩) (mP_V hK hP 0 rfl (hM.fa hzc).1 hfz5) rfl rfl hl.1 rfl (lv_room (Nat.le_of_ble_eq_true rfl)) dX5_leadsTo_67 ⟨Nat.zero_le _, Nat.zero_le _⟩) hS (fun _ _ h => h.elim) (fun _ h => h.elim) (fun r_6 u t H1 locs ht hvm hw hB hz1 hk1 hS => ?_)
              replace hP := ro_kept hP hk1
              obtain rfl : r_6 = _ := hw
              clear hk1 hz1 hvm ht hB
              generalize H1 = H at hP hS ⊢
              clear hcz5 hgz5
              refine lv_icmp_ge (tgt := 100) hx hb dX5_leadsTo_70 (by decide) (fun c_7 => ?_) (fun c_7 => ?_)
              · refine lv_iconst (v := (nI 0)) hx hb dX5_leadsTo_100 (by decide) ?_
                exact W.zret (v := (nI 0)) hx hb hr rfl (fun t ht hW => ⟨⟨(nI 0), (L, fz), rfl, ⟨⟨(by rw [← hres]; rfl), rfl, (by rw [← hres]; exact hM)⟩, hE⟩, show va_P D vwCl (va_pl _ _) t.heap from (by rw [ht]; exact hP)⟩, hS.F ht⟩) hS.2.2 dX5_leadsTo_101
              · exact absurd (nI_le (by omega) (by omega)) c_7
            | succ zn ih =>
              intro zj fz kz H locs ls hP hS hM hE9 hres hl
              have hD : va_D (mA L sz) (va_pl L fz) := hE.D
              have Fcl : fz (mt_ca τ zc) = .inr (4, [.int (nI zc), .int (mt_pk τ zc), va_rf ((mt_pr τ zc).map (mt_ca τ)), .int (mt_fc τ zc), .ref (mt_fa τ zc), .ref (mt_ma τ zc), .ref (mt_aa τ zc), .int (mt_pt τ zc), .int (kz zc)]) := (hM.cl hzc).2.1
              have Mcl : mt_ca τ zc ∈ L := (hM.cl hzc).1
              have Fxl : fz (mt_x τ) = .inr (6, [.ref (mt_c τ), .ref (mt_m τ), .int (mt_mark τ)]) := hM.x.2
              have Mxl : mt_x τ ∈ L := hM.x.1
              obtain ⟨hfl, hcon⟩ := hMl.2 zj (by omega)
              have hfn : mt_fl τ zc zj < mt_n τ := by omega
              refine lv_iload_n hx hb dX5_leadsTo_62 rfl (lv_at hl 0 rfl) ?_
              refine lv_aload_n hx hb dX5_leadsTo_63 rfl (lv_at hl 2 rfl) ?_
              refine pl_get (D := D) (ci := 4) (v := .ref (mt_fa τ zc)) (C := RX3) (T := TX3) (N := 9) hx hb hts (by decide +kernel) hown hK.1 hP Mcl Fcl rfl 4 (by decide) (hts (.fieldLink RX5 51 "ChooseTreeModel$Cls" "faces" "Ljava/util/ArrayList;") (by decide +kernel)) (fun _ h9 => h9) rfl dX5_leadsTo_64 ?_
              obtain ⟨mcz8, gz8, hfz8, hgz8, hcz8⟩ := hM.ly.raw (b := (mt_fa τ zc)) (hM.fa hzc).1 (hM.fa hzc).2
              refine va_calli (va_runV (As := []) (rest := [.int (nI zj)]) ⟨hx, hb, hml, hown, hts⟩ (c_Jx4a65c_size_8abf5 l D cO mi L fz (mt_fa τ zc) (hM.fa hzc).1 mcz8 (ls_dat (mt_ls τ) (mt_fa τ zc)) (mt_cnt τ (mt_fa τ zc)) hfz8) (cwV 0 hts gX5_leadsTo_Jx4a65c_size_8abf5 rfl rfl rfl (by decide +kernel) ⟨(by show 0 + 1 ≤ zd + 1 + 4; omega), (by show 8 + (1 + 11) + 0 ≤ 23 * (zd + 1) + 100; omega)⟩) (mP_V hK hP 0 rfl (hM.fa hzc).1 hfz8) rfl rfl hl.1 rfl (lv_room (Nat.le_of_ble_eq_true rfl)) dX5_leadsTo_67 ⟨Nat.zero_le _, Nat.zero_le _⟩) hS (fun _ _ h => h.elim) (fun _ h => h.elim) (fun r_9 u t H1 locs ht hvm hw hB hz1 hk1 hS => ?_)
              replace hP := ro_kept hP hk1
              obtain rfl : r_9 = _ := hw
              clear hk1 hz1 hvm ht hB
              generalize H1 = H at hP hS ⊢
              clear hcz8 hgz8
              refine lv_icmp_ge (tgt := 100) hx hb dX5_leadsTo_70 (by decide) (fun c_10 => ?_) (fun c_10 => ?_)
              · exact absurd c_10 (nI_ge (by omega) (by omega))
              · refine lv_aload_n hx hb dX5_leadsTo_73 rfl (lv_at hl 1 rfl) ?_
                refine lv_aload_n hx hb dX5_leadsTo_74 rfl (lv_at hl 2 rfl) ?_
                refine pl_get (D := D) (ci := 4) (v := .ref (mt_fa τ zc)) (C := RX3) (T := TX3) (N := 9) hx hb hts (by decide +kernel) hown hK.1 hP Mcl Fcl rfl 4 (by decide) (hts (.fieldLink RX5 51 "ChooseTreeModel$Cls" "faces" "Ljava/util/ArrayList;") (by decide +kernel)) (fun _ h9 => h9) rfl dX5_leadsTo_75 ?_
                refine lv_iload_n hx hb dX5_leadsTo_78 rfl (lv_at hl 0 rfl) ?_
                obtain ⟨mcz11, gz11, hfz11, hdz11, hfdz11, hcnz11, hcpz11, hgiz11⟩ := hM.ly.get (b := (mt_fa τ zc)) (i := zj) (hM.fa hzc).1 (hM.fa hzc).2 (show zj < (mt_cnt τ (mt_fa τ zc)) by omega)
                replace hgiz11 : gz11 zj = some (mt_ca τ (mt_fl τ zc zj)) := hgiz11.trans (congrArg some hcon)
                refine va_callq (va_runV (As := [.int (nI zj)]) (rest := [.ref (mt_x τ)]) ⟨hx, hb, hml, hown, hts⟩ (c_Jx4a65c_get_915e3 l D cO mi L fz (mt_fa τ zc) (hM.fa hzc).1 mcz11 (ls_dat (mt_ls τ) (mt_fa τ zc)) (mt_cnt τ (mt_fa τ zc)) hfz11 hdz11 (ls_cap (mt_ls τ) (mt_fa τ zc)) gz11 hfdz11 hcnz11 hcpz11 zj (show zj < (mt_cnt τ (mt_fa τ zc)) by omega)) (cwV 1 hts gX5_leadsTo_Jx4a65c_get_915e3 rfl rfl rfl (by decide +kernel) ⟨(by show 2 + 1 ≤ zd + 1 + 4; omega), (by show 8 + (2 + 11) + 43 ≤ 23 * (zd + 1) + 100; omega)⟩) (mP_V hK hP 0 rfl (hM.fa hzc).1 hfz11) rfl rfl hl.1 rfl (lv_room (Nat.le_of_ble_eq_true rfl)) dX5_leadsTo_79 ⟨Nat.zero_le _, Nat.zero_le _⟩) hS (fun _ _ h => h.elim) (fun _ h => h.elim) (fun r_12 u t H1 locs ht hvm hw hB hz1 hk1 hS => ?_)
                replace hP := ro_kept hP hk1
                obtain rfl : r_12 = _ := hw
                clear hk1 hz1 hvm ht hB
                generalize H1 = H at hP hS ⊢
                rw [hgiz11]
                clear hgiz11 hfdz11 hdz11 hcnz11 hcpz11
                refine va_castY (C := RX3) hx hb hown (hts (.classLink RX5 19 RX3) (by decide +kernel)) hK.2.2.2.2.2.2.1 (pl_recv (ci := 4) hK.1 hP rfl (hM.cl hfn).1 (hM.cl hfn).2.1) dX5_leadsTo_82 ?_
                refine lv_aload_n hx hb dX5_leadsTo_85 rfl (lv_at hl 3 rfl) ?_
                have hszH : sz ≤ H.size := by have := hS.1; omega
                have hPold := hP
                refine va_calli (va_runV (As := [.ref (mt_ca τ (mt_fl τ zc zj)), .ref (mt_ca τ zk)]) (rest := []) ⟨hx, hb, hml, hown, hts⟩ (ihd fz H.size kz hM hzk (mt_fl τ zc zj) hfn (by omega)) (cwV 2 hts gX5_leadsTo_X5_leadsTo rfl rfl rfl (by decide +kernel) ⟨(by show (zd + 4) + 1 ≤ zd + 1 + 4; omega), (by show 8 + (4 + 11) + (23 * zd + 100) ≤ 23 * (zd + 1) + 100; omega)⟩) (mW_V hK hJ hS (hE.sub (by have := hS.1; omega)) hP 6 rfl Mxl Fxl) rfl rfl hl.1 rfl (lv_room (Nat.le_of_ble_eq_true rfl)) dX5_leadsTo_86 ⟨Nat.le_refl _, Nat.le_refl _⟩) hS (fun q _ h => (hE.sub (by have := hS.1; omega)) q h) (hE.sub (by have := hS.1; omega)) (fun r_13 u t H1 locs ht hvm hw hB hz1 hk1 hS => ?_)
                obtain ⟨L13, f13⟩ := u
                obtain ⟨hw, hE1⟩ := hw
                replace hB : va_P D vwCl (va_pl L13 f13) t.heap := hB
                rw [ht] at hB
                replace hE : pext L sz L13 := hE.tr (hszH) hE1
                obtain ⟨hr1, hL1, hM2⟩ := hw
                replace hL1 : L = L13 := hL1.symm
                subst hL1
                subst hr1
                replace hM : MI e0 cO L f13 (mt_setmk τ (t_lead τ zk zd (mt_fl τ zc zj) kz).2) := hM2
                clear hM2
                have Fcsc : f13 (mt_ca τ zc) = .inr (4, [.int (nI zc), .int (mt_pk τ zc), va_rf ((mt_pr τ zc).map (mt_ca τ)), .int (mt_fc τ zc), .ref (mt_fa τ zc), .ref (mt_ma τ zc), .ref (mt_aa τ zc), .int (mt_pt τ zc), .int ((t_lead τ zk zd (mt_fl τ zc zj) kz).2 zc)]) := (hM.cl hzc).2.1
                have Mcsc : mt_ca τ zc ∈ L := (hM.cl hzc).1
                have Fxsx : f13 (mt_x τ) = .inr (6, [.ref (mt_c τ), .ref (mt_m τ), .int (mt_mark τ)]) := hM.x.2
                have Mxsx : mt_x τ ∈ L := hM.x.1
                clear hPold hP hk1 hz1 hvm ht hszH hE1
                have hP := hB
                clear hB
                generalize H1 = H at hP hS ⊢
                have hD : va_D (mA L sz) (va_pl L f13) := hE.D
                refine lv_if_eq (tgt := 94) hx hb dX5_leadsTo_89 (by decide) (fun c_14 => ?_) (fun c_14 => ?_)
                · replace c_14 := bI_0.mp c_14
                  refine lv_iinc (v := (nI (zj + 1))) (lv' := [(3, .int (nI (zj + 1))), (0, .ref (mt_x τ)), (1, .ref (mt_ca τ zc)), (2, .ref (mt_ca τ zk))]) hx hb dX5_leadsTo_94 hl (k := 0) rfl (nI_1 _) (by decide) rfl (fun ls hl => ?_)
                  refine lv_goto (tgt := 62) hx hb dX5_leadsTo_97 (by decide) ?_
                  exact ih (zj + 1) f13 ((t_lead τ zk zd (mt_fl τ zc zj) kz).2) H locs ls hP hS hM (by omega) (by rw [← hres]; simp [t_lf, c_10, c_14]) (lv_sub hl [0, 1, 2, 3] rfl)
                · replace c_14 := bI_n0.mp c_14
                  refine lv_iconst (v := (nI 1)) hx hb dX5_leadsTo_92 (by decide) ?_
                  exact W.zret (v := (nI 1)) hx hb hr rfl (fun t ht hW => ⟨⟨(nI 1), (L, f13), rfl, ⟨⟨(by rw [← hres]; simp [t_lf, bI, c_10, c_14]), rfl, (by rw [← hres]; simp only [t_lf, c_10, c_14, if_true]; exact hM)⟩, hE⟩, show va_P D vwCl (va_pl _ _) t.heap from (by rw [ht]; exact hP)⟩, hS.F ht⟩) hS.2.2 dX5_leadsTo_93
          · rw [hp9] at ht0
            have hpz : zp < zc := (hM.cl hzc).2.2.1 zp hp9
            have hzp : zp < mt_n τ := by omega
            have Fcp : f4 (mt_ca τ zp) = .inr (4, [.int (nI zp), .int (mt_pk τ zp), va_rf ((mt_pr τ zp).map (mt_ca τ)), .int (mt_fc τ zp), .ref (mt_fa τ zp), .ref (mt_ma τ zp), .ref (mt_aa τ zp), .int (mt_pt τ zp), .int (kn zp)]) := (hM.cl hzp).2.1
            have Mcp : mt_ca τ zp ∈ L := (hM.cl hzp).1
            refine lv_ifnull hx hb dX5_leadsTo_43 ?_
            refine lv_aload_n hx hb dX5_leadsTo_46 rfl (lv_at hl 0 rfl) ?_
            refine lv_aload_n hx hb dX5_leadsTo_47 rfl (lv_at hl 1 rfl) ?_
            refine pl_get (D := D) (ci := 4) (v := va_rf ((mt_pr τ zc).map (mt_ca τ))) (C := RX3) (T := TX3) (N := 9) hx hb hts (by decide +kernel) hown hK.1 hP Mcc2 Fcc2 rfl 2 (by decide) (hts (.fieldLink RX5 77 "ChooseTreeModel$Cls" "parent" "LChooseTreeModel$Cls;") (by decide +kernel)) (fun _ h9 => h9) rfl dX5_leadsTo_48 ?_
            rw [hp9]
            refine lv_aload_n hx hb dX5_leadsTo_51 rfl (lv_at hl 2 rfl) ?_
            have hszH : sz ≤ H.size := by have := hS.1; omega
            have hPold := hP
            refine va_calli (va_runV (As := [.ref (mt_ca τ zp), .ref (mt_ca τ zk)]) (rest := []) ⟨hx, hb, hml, hown, hts⟩ (ihd f4 H.size kn hM hzk zp hzp (by omega)) (cwV 2 hts gX5_leadsTo_X5_leadsTo rfl rfl rfl (by decide +kernel) ⟨(by show (zd + 4) + 1 ≤ zd + 1 + 4; omega), (by show 8 + (4 + 11) + (23 * zd + 100) ≤ 23 * (zd + 1) + 100; omega)⟩) (mW_V hK hJ hS (hE.sub (by have := hS.1; omega)) hP 6 rfl Mxx2 Fxx2) rfl rfl hl.1 rfl (lv_room (Nat.le_of_ble_eq_true rfl)) dX5_leadsTo_52 ⟨Nat.le_refl _, Nat.le_refl _⟩) hS (fun q _ h => (hE.sub (by have := hS.1; omega)) q h) (hE.sub (by have := hS.1; omega)) (fun r_15 u t H1 locs ht hvm hw hB hz1 hk1 hS => ?_)
            obtain ⟨L15, f15⟩ := u
            obtain ⟨hw, hE1⟩ := hw
            replace hB : va_P D vwCl (va_pl L15 f15) t.heap := hB
            rw [ht] at hB
            replace hE : pext L sz L15 := hE.tr (hszH) hE1
            obtain ⟨hr1, hL1, hM2⟩ := hw
            replace hL1 : L = L15 := hL1.symm
            subst hL1
            subst hr1
            replace hM : MI e0 cO L f15 (mt_setmk τ (t_lead τ zk zd zp kn).2) := hM2
            clear hM2
            have Fcrc : f15 (mt_ca τ zc) = .inr (4, [.int (nI zc), .int (mt_pk τ zc), va_rf ((mt_pr τ zc).map (mt_ca τ)), .int (mt_fc τ zc), .ref (mt_fa τ zc), .ref (mt_ma τ zc), .ref (mt_aa τ zc), .int (mt_pt τ zc), .int ((t_lead τ zk zd zp kn).2 zc)]) := (hM.cl hzc).2.1
            have Mcrc : mt_ca τ zc ∈ L := (hM.cl hzc).1
            have Fxrx : f15 (mt_x τ) = .inr (6, [.ref (mt_c τ), .ref (mt_m τ), .int (mt_mark τ)]) := hM.x.2
            have Mxrx : mt_x τ ∈ L := hM.x.1
            clear hPold hP hk1 hz1 hvm ht hszH hE1
            have hP := hB
            clear hB
            generalize H1 = H at hP hS ⊢
            have hD : va_D (mA L sz) (va_pl L f15) := hE.D
            refine lv_if_eq (tgt := 60) hx hb dX5_leadsTo_55 (by decide) (fun c_16 => ?_) (fun c_16 => ?_)
            · replace c_16 := bI_0.mp c_16
              refine lv_iconst (v := (nI 0)) hx hb dX5_leadsTo_60 (by decide) ?_
              refine lv_istore_n (lv' := [(3, .int (nI 0)), (0, .ref (mt_x τ)), (1, .ref (mt_ca τ zc)), (2, .ref (mt_ca τ zk))]) hx hb dX5_leadsTo_61 rfl hl (by decide) rfl (fun ls hl => ?_)
              have hMl : mt_cnt τ (mt_fa τ zc) ≤ 20 ∧ ∀ k, k < mt_cnt τ (mt_fa τ zc) → mt_fl τ zc k < zc ∧ mt_con τ (mt_fa τ zc) k = mt_ca τ (mt_fl τ zc k) := (hM.cl hzc).2.2.2.1
              have hres : t_lf (t_lead τ zk zd) (mt_fl τ zc) (mt_cnt τ (mt_fa τ zc)) 0 ((t_lead τ zk zd zp kn).2) = t_lead τ zk (zd + 1) zc km := by rw [ht0]; simp [c_1, c_2, c_3, c_16]
              obtain ⟨fz, hfz⟩ : ∃ z, z = f15 := ⟨_, rfl⟩
              obtain ⟨kz, hkz⟩ : ∃ z, z = (t_lead τ zk zd zp kn).2 := ⟨_, rfl⟩
              obtain ⟨zn, hzn⟩ : ∃ z : Nat, z = mt_cnt τ (mt_fa τ zc) := ⟨_, rfl⟩
              obtain ⟨zj, hzj⟩ : ∃ z : Nat, z = 0 := ⟨_, rfl⟩
              have hE9 : zj + zn = mt_cnt τ (mt_fa τ zc) := by omega
              rw [← hfz] at hP hM
              rw [← hkz] at hM
              replace hres : t_lf (t_lead τ zk zd) (mt_fl τ zc) zn zj kz = t_lead τ zk (zd + 1) zc km := by rw [hzn, hzj, hkz]; exact hres
              replace hl : lv_has ls 4 [(3, .int (nI zj)), (0, .ref (mt_x τ)), (1, .ref (mt_ca τ zc)), (2, .ref (mt_ca τ zk))] := by rw [hzj]; exact lv_sub hl [0, 1, 2, 3] rfl
              clear hfz hkz hzn hzj hD Fcrc Mcrc Fxrx Mxrx
              revert hl
              revert hres
              revert hE9
              revert hM
              revert hS
              revert hP
              revert ls
              revert locs
              revert H
              revert kz
              revert fz
              revert zj
              induction zn with
              | zero =>
                intro zj fz kz H locs ls hP hS hM hE9 hres hl
                have hD : va_D (mA L sz) (va_pl L fz) := hE.D
                have Fcl : fz (mt_ca τ zc) = .inr (4, [.int (nI zc), .int (mt_pk τ zc), va_rf ((mt_pr τ zc).map (mt_ca τ)), .int (mt_fc τ zc), .ref (mt_fa τ zc), .ref (mt_ma τ zc), .ref (mt_aa τ zc), .int (mt_pt τ zc), .int (kz zc)]) := (hM.cl hzc).2.1
                have Mcl : mt_ca τ zc ∈ L := (hM.cl hzc).1
                have Fxl : fz (mt_x τ) = .inr (6, [.ref (mt_c τ), .ref (mt_m τ), .int (mt_mark τ)]) := hM.x.2
                have Mxl : mt_x τ ∈ L := hM.x.1
                refine lv_iload_n hx hb dX5_leadsTo_62 rfl (lv_at hl 0 rfl) ?_
                refine lv_aload_n hx hb dX5_leadsTo_63 rfl (lv_at hl 2 rfl) ?_
                refine pl_get (D := D) (ci := 4) (v := .ref (mt_fa τ zc)) (C := RX3) (T := TX3) (N := 9) hx hb hts (by decide +kernel) hown hK.1 hP Mcl Fcl rfl 4 (by decide) (hts (.fieldLink RX5 51 "ChooseTreeModel$Cls" "faces" "Ljava/util/ArrayList;") (by decide +kernel)) (fun _ h9 => h9) rfl dX5_leadsTo_64 ?_
                obtain ⟨mcz17, gz17, hfz17, hgz17, hcz17⟩ := hM.ly.raw (b := (mt_fa τ zc)) (hM.fa hzc).1 (hM.fa hzc).2
                refine va_calli (va_runV (As := []) (rest := [.int (nI zj)]) ⟨hx, hb, hml, hown, hts⟩ (c_Jx4a65c_size_8abf5 l D cO mi L fz (mt_fa τ zc) (hM.fa hzc).1 mcz17 (ls_dat (mt_ls τ) (mt_fa τ zc)) (mt_cnt τ (mt_fa τ zc)) hfz17) (cwV 0 hts gX5_leadsTo_Jx4a65c_size_8abf5 rfl rfl rfl (by decide +kernel) ⟨(by show 0 + 1 ≤ zd + 1 + 4; omega), (by show 8 + (1 + 11) + 0 ≤ 23 * (zd + 1) + 100; omega)⟩) (mP_V hK hP 0 rfl (hM.fa hzc).1 hfz17) rfl rfl hl.1 rfl (lv_room (Nat.le_of_ble_eq_true rfl)) dX5_leadsTo_67 ⟨Nat.zero_le _, Nat.zero_le _⟩) hS (fun _ _ h => h.elim) (fun _ h => h.elim) (fun r_18 u t H1 locs ht hvm hw hB hz1 hk1 hS => ?_)
                replace hP := ro_kept hP hk1
                obtain rfl : r_18 = _ := hw
                clear hk1 hz1 hvm ht hB
                generalize H1 = H at hP hS ⊢
                clear hcz17 hgz17
                refine lv_icmp_ge (tgt := 100) hx hb dX5_leadsTo_70 (by decide) (fun c_19 => ?_) (fun c_19 => ?_)
                · refine lv_iconst (v := (nI 0)) hx hb dX5_leadsTo_100 (by decide) ?_
                  exact W.zret (v := (nI 0)) hx hb hr rfl (fun t ht hW => ⟨⟨(nI 0), (L, fz), rfl, ⟨⟨(by rw [← hres]; rfl), rfl, (by rw [← hres]; exact hM)⟩, hE⟩, show va_P D vwCl (va_pl _ _) t.heap from (by rw [ht]; exact hP)⟩, hS.F ht⟩) hS.2.2 dX5_leadsTo_101
                · exact absurd (nI_le (by omega) (by omega)) c_19
              | succ zn ih =>
                intro zj fz kz H locs ls hP hS hM hE9 hres hl
                have hD : va_D (mA L sz) (va_pl L fz) := hE.D
                have Fcl : fz (mt_ca τ zc) = .inr (4, [.int (nI zc), .int (mt_pk τ zc), va_rf ((mt_pr τ zc).map (mt_ca τ)), .int (mt_fc τ zc), .ref (mt_fa τ zc), .ref (mt_ma τ zc), .ref (mt_aa τ zc), .int (mt_pt τ zc), .int (kz zc)]) := (hM.cl hzc).2.1
                have Mcl : mt_ca τ zc ∈ L := (hM.cl hzc).1
                have Fxl : fz (mt_x τ) = .inr (6, [.ref (mt_c τ), .ref (mt_m τ), .int (mt_mark τ)]) := hM.x.2
                have Mxl : mt_x τ ∈ L := hM.x.1
                obtain ⟨hfl, hcon⟩ := hMl.2 zj (by omega)
                have hfn : mt_fl τ zc zj < mt_n τ := by omega
                refine lv_iload_n hx hb dX5_leadsTo_62 rfl (lv_at hl 0 rfl) ?_
                refine lv_aload_n hx hb dX5_leadsTo_63 rfl (lv_at hl 2 rfl) ?_
                refine pl_get (D := D) (ci := 4) (v := .ref (mt_fa τ zc)) (C := RX3) (T := TX3) (N := 9) hx hb hts (by decide +kernel) hown hK.1 hP Mcl Fcl rfl 4 (by decide) (hts (.fieldLink RX5 51 "ChooseTreeModel$Cls" "faces" "Ljava/util/ArrayList;") (by decide +kernel)) (fun _ h9 => h9) rfl dX5_leadsTo_64 ?_
                obtain ⟨mcz20, gz20, hfz20, hgz20, hcz20⟩ := hM.ly.raw (b := (mt_fa τ zc)) (hM.fa hzc).1 (hM.fa hzc).2
                refine va_calli (va_runV (As := []) (rest := [.int (nI zj)]) ⟨hx, hb, hml, hown, hts⟩ (c_Jx4a65c_size_8abf5 l D cO mi L fz (mt_fa τ zc) (hM.fa hzc).1 mcz20 (ls_dat (mt_ls τ) (mt_fa τ zc)) (mt_cnt τ (mt_fa τ zc)) hfz20) (cwV 0 hts gX5_leadsTo_Jx4a65c_size_8abf5 rfl rfl rfl (by decide +kernel) ⟨(by show 0 + 1 ≤ zd + 1 + 4; omega), (by show 8 + (1 + 11) + 0 ≤ 23 * (zd + 1) + 100; omega)⟩) (mP_V hK hP 0 rfl (hM.fa hzc).1 hfz20) rfl rfl hl.1 rfl (lv_room (Nat.le_of_ble_eq_true rfl)) dX5_leadsTo_67 ⟨Nat.zero_le _, Nat.zero_le _⟩) hS (fun _ _ h => h.elim) (fun _ h => h.elim) (fun r_21 u t H1 locs ht hvm hw hB hz1 hk1 hS => ?_)
                replace hP := ro_kept hP hk1
                obtain rfl : r_21 = _ := hw
                clear hk1 hz1 hvm ht hB
                generalize H1 = H at hP hS ⊢
                clear hcz20 hgz20
                refine lv_icmp_ge (tgt := 100) hx hb dX5_leadsTo_70 (by decide) (fun c_22 => ?_) (fun c_22 => ?_)
                · exact absurd c_22 (nI_ge (by omega) (by omega))
                · refine lv_aload_n hx hb dX5_leadsTo_73 rfl (lv_at hl 1 rfl) ?_
                  refine lv_aload_n hx hb dX5_leadsTo_74 rfl (lv_at hl 2 rfl) ?_
                  refine pl_get (D := D) (ci := 4) (v := .ref (mt_fa τ zc)) (C := RX3) (T := TX3) (N := 9) hx hb hts (by decide +kernel) hown hK.1 hP Mcl Fcl rfl 4 (by decide) (hts (.fieldLink RX5 51 "ChooseTreeModel$Cls" "faces" "Ljava/util/ArrayList;") (by decide +kernel)) (fun _ h9 => h9) rfl dX5_leadsTo_75 ?_
                  refine lv_iload_n hx hb dX5_leadsTo_78 rfl (lv_at hl 0 rfl) ?_
                  obtain ⟨mcz23, gz23, hfz23, hdz23, hfdz23, hcnz23, hcpz23, hgiz23⟩ := hM.ly.get (b := (mt_fa τ zc)) (i := zj) (hM.fa hzc).1 (hM.fa hzc).2 (show zj < (mt_cnt τ (mt_fa τ zc)) by omega)
                  replace hgiz23 : gz23 zj = some (mt_ca τ (mt_fl τ zc zj)) := hgiz23.trans (congrArg some hcon)
                  refine va_callq (va_runV (As := [.int (nI zj)]) (rest := [.ref (mt_x τ)]) ⟨hx, hb, hml, hown, hts⟩ (c_Jx4a65c_get_915e3 l D cO mi L fz (mt_fa τ zc) (hM.fa hzc).1 mcz23 (ls_dat (mt_ls τ) (mt_fa τ zc)) (mt_cnt τ (mt_fa τ zc)) hfz23 hdz23 (ls_cap (mt_ls τ) (mt_fa τ zc)) gz23 hfdz23 hcnz23 hcpz23 zj (show zj < (mt_cnt τ (mt_fa τ zc)) by omega)) (cwV 1 hts gX5_leadsTo_Jx4a65c_get_915e3 rfl rfl rfl (by decide +kernel) ⟨(by show 2 + 1 ≤ zd + 1 + 4; omega), (by show 8 + (2 + 11) + 43 ≤ 23 * (zd + 1) + 100; omega)⟩) (mP_V hK hP 0 rfl (hM.fa hzc).1 hfz23) rfl rfl hl.1 rfl (lv_room (Nat.le_of_ble_eq_true rfl)) dX5_leadsTo_79 ⟨Nat.zero_le _, Nat.zero_le _⟩) hS (fun _ _ h => h.elim) (fun _ h => h.elim) (fun r_24 u t H1 locs ht hvm hw hB hz1 hk1 hS => ?_)
                  replace hP := ro_kept hP hk1
                  obtain rfl : r_24 = _ := hw
                  clear hk1 hz1 hvm ht hB
                  generalize H1 = H at hP hS ⊢
                  rw [hgiz23]
                  clear hgiz23 hfdz23 hdz23 hcnz23 hcpz23
                  refine va_castY (C := RX3) hx hb hown (hts (.classLink RX5 19 RX3) (by decide +kernel)) hK.2.2.2.2.2.2.1 (pl_recv (ci := 4) hK.1 hP rfl (hM.cl hfn).1 (hM.cl hfn).2.1) dX5_leadsTo_82 ?_
                  refine lv_aload_n hx hb dX5_leadsTo_85 rfl (lv_at hl 3 rfl) ?_
                  have hszH : sz ≤ H.size := by have := hS.1; omega
                  have hPold := hP
                  refine va_calli (va_runV (As := [.ref (mt_ca τ (mt_fl τ zc zj)), .ref (mt_ca τ zk)]) (rest := []) ⟨hx, hb, hml, hown, hts⟩ (ihd fz H.size kz hM hzk (mt_fl τ zc zj) hfn (by omega)) (cwV 2 hts gX5_leadsTo_X5_leadsTo rfl rfl rfl (by decide +kernel) ⟨(by show (zd + 4) + 1 ≤ zd + 1 + 4; omega), (by show 8 + (4 + 11) + (23 * zd + 100) ≤ 23 * (zd + 1) + 100; omega)⟩) (mW_V hK hJ hS (hE.sub (by have := hS.1; omega)) hP 6 rfl Mxl Fxl) rfl rfl hl.1 rfl (lv_room (Nat.le_of_ble_eq_true rfl)) dX5_leadsTo_86 ⟨Nat.le_refl _, Nat.le_refl _⟩) hS (fun q _ h => (hE.sub (by have := hS.1; omega)) q h) (hE.sub (by have := hS.1; omega)) (fun r_25 u t H1 locs ht hvm hw hB hz1 hk1 hS => ?_)
                  obtain ⟨L25, f25⟩ := u
                  obtain ⟨hw, hE1⟩ := hw
                  replace hB : va_P D vwCl (va_pl L25 f25) t.heap := hB
                  rw [ht] at hB
                  replace hE : pext L sz L25 := hE.tr (hszH) hE1
                  obtain ⟨hr1, hL1, hM2⟩ := hw
                  replace hL1 : L = L25 := hL1.symm
                  subst hL1
                  subst hr1
                  replace hM : MI e0 cO L f25 (mt_setmk τ (t_lead τ zk zd (mt_fl τ zc zj) kz).2) := hM2
                  clear hM2
                  have Fcsc : f25 (mt_ca τ zc) = .inr (4, [.int (nI zc), .int (mt_pk τ zc), va_rf ((mt_pr τ zc).map (mt_ca τ)), .int (mt_fc τ zc), .ref (mt_fa τ zc), .ref (mt_ma τ zc), .ref (mt_aa τ zc), .int (mt_pt τ zc), .int ((t_lead τ zk zd (mt_fl τ zc zj) kz).2 zc)]) := (hM.cl hzc).2.1
                  have Mcsc : mt_ca τ zc ∈ L := (hM.cl hzc).1
                  have Fxsx : f25 (mt_x τ) = .inr (6, [.ref (mt_c τ), .ref (mt_m τ), .int (mt_mark τ)]) := hM.x.2
                  have Mxsx : mt_x τ ∈ L := hM.x.1
                  clear hPold hP hk1 hz1 hvm ht hszH hE1
                  have hP := hB
                  clear hB
                  generalize H1 = H at hP hS ⊢
                  have hD : va_D (mA L sz) (va_pl L f25) := hE.D
                  refine lv_if_eq (tgt := 94) hx hb dX5_leadsTo_89 (by decide) (fun c_26 => ?_) (fun c_26 => ?_)
                  · replace c_26 := bI_0.mp c_26
                    refine lv_iinc (v := (nI (zj + 1))) (lv' := [(3, .int (nI (zj + 1))), (0, .ref (mt_x τ)), (1, .ref (mt_ca τ zc)), (2, .ref (mt_ca τ zk))]) hx hb dX5_leadsTo_94 hl (k := 0) rfl (nI_1 _) (by decide) rfl (fun ls hl => ?_)
                    refine lv_goto (tgt := 62) hx hb dX5_leadsTo_97 (by decide) ?_
                    exact ih (zj + 1) f25 ((t_lead τ zk zd (mt_fl τ zc zj) kz).2) H locs ls hP hS hM (by omega) (by rw [← hres]; simp [t_lf, c_22, c_26]) (lv_sub hl [0, 1, 2, 3] rfl)
                  · replace c_26 := bI_n0.mp c_26
                    refine lv_iconst (v := (nI 1)) hx hb dX5_leadsTo_92 (by decide) ?_
                    exact W.zret (v := (nI 1)) hx hb hr rfl (fun t ht hW => ⟨⟨(nI 1), (L, f25), rfl, ⟨⟨(by rw [← hres]; simp [t_lf, bI, c_22, c_26]), rfl, (by rw [← hres]; simp only [t_lf, c_22, c_26, if_true]; exact hM)⟩, hE⟩, show va_P D vwCl (va_pl _ _) t.heap from (by rw [ht]; exact hP)⟩, hS.F ht⟩) hS.2.2 dX5_leadsTo_93
            · replace c_16 := bI_n0.mp c_16
              refine lv_iconst (v := (nI 1)) hx hb dX5_leadsTo_58 (by decide) ?_
              exact W.zret (v := (nI 1)) hx hb hr rfl (fun t ht hW => ⟨⟨(nI 1), (L, f15), rfl, ⟨⟨(by rw [ht0]; simp [c_1, c_2, c_3, c_16, bI]), rfl, (by rw [ht0]; simp only [c_1, c_2, c_3, c_16, if_true]; exact hM)⟩, hE⟩, show va_P D vwCl (va_pl _ _) t.heap from (by rw [ht]; exact hP)⟩, hS.F ht⟩) hS.2.2 dX5_leadsTo_59
        · refine lv_iconst (v := (nI 0)) hx hb dX5_leadsTo_29 (by decide) ?_
          exact W.zret (v := (nI 0)) hx hb hr rfl (fun t ht hW => ⟨⟨(nI 0), (L, f), rfl, ⟨⟨(by rw [show t_lead τ zk (zd + 1) zc km = (false, km) by simp [t_lead, c_1, c_2, c_3]]; rfl), rfl, (by rw [show t_lead τ zk (zd + 1) zc km = (false, km) by simp [t_lead, c_1, c_2, c_3]]; exact hM)⟩, hE⟩, show va_P D vwCl (va_pl _ _) t.heap from (by rw [ht]; exact hP)⟩, hS.F ht⟩) hS.2.2 dX5_leadsTo_30
    · replace c_1 := Option.some.inj c_1
      refine lv_iconst (v := (nI 1)) hx hb dX5_leadsTo_5 (by decide) ?_
      exact W.zret (v := (nI 1)) hx hb hr rfl (fun t ht hW => ⟨⟨(nI 1), (L, f), rfl, ⟨⟨(by rw [show t_lead τ zk (zd + 1) zc km = (true, km) by simp [t_lead, c_1]]; rfl), rfl, (by rw [show t_lead τ zk (zd + 1) zc km = (true, km) by simp [t_lead, c_1]]; exact hM)⟩, hE⟩, show va_P D vwCl (va_pl _ _) t.heap from (by rw [ht]; exact hP)⟩, hS.F ht⟩) hS.2.2 dX5_leadsTo_6
