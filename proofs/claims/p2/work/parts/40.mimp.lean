set_option maxHeartbeats 4000000 in
set_option maxRecDepth 100000 in
theorem c_X5_implement (l : Launch) (D : va_G) (cO : ClassId) (mi e0 : Nat) (L : List Nat) (f : Nat → va_E) (sz : Nat) (hnd : L.Nodup) (τ : MT) (hM : MI e0 cO L f τ) (zx1 zx2 : Int32) : Met l yX5_implement wsX5_implement { frames := 7, cells := 1, slots := 30, locals := 191 } (mW D cO mi e0 L f sz [.ref (mt_x τ), .int zx1, .int zx2]) (wQi D L sz (fun r u => r = t_impR τ zx1 zx2 ∧ ((r < 0 ∧ u.1 = L ∧ MI e0 cO L u.2 τ) ∨ (∃ zj1 zj2, t_ati τ zx1 = some zj1 ∧ t_ati τ zx2 = some zj2 ∧ zj2 < zj1 ∧ mt_cnt τ (mt_fa τ zj1) < 20 ∧ r = nI (mt_cnt τ (mt_fa τ zj1) + 1) ∧ ∃ d2 n2, MI e0 cO u.1 u.2 (mt_setls (mt_setfl τ (va_up (mt_fl τ) zj1 (va_up (mt_fl τ zj1) (mt_cnt τ (mt_fa τ zj1)) zj2))) (ls_add (mt_ls τ) (mt_fa τ zj1) (mt_ca τ zj2) d2 n2)))))) 1 30 (mA L sz) := by
  refine Met.ofW (cc := cX5_implement) (maxL := 5) (ret := (some .int)) (by decide) rfl ?_
  intro p e s m args below meth cq s₁ B hml hv
  obtain ⟨rfl, hsz, hP, hK, hJ⟩ := hv
  have hx := B.exec
  have hb := B.bytes
  have hr := B.returns
  have hts := atoms_spec (ws := wsX5_implement) B.pre
  have hown : s.vm.findClass RX5 = some m.cls := findClass_of_methodNamed B.named
  have hlocks := B.notSynchronized
  have hin := (name_of_methodNamed B.named B.method).1
  clear B
  have hl := lv_entry ([.ref (mt_x τ), .int zx1, .int zx2]) (n := 5) (Nat.le_of_ble_eq_true rfl)
  rw [lg_entry_eq]
  generalize (lg_sl ([.ref (mt_x τ), .int zx1, .int zx2]) ++ List.replicate (5 - (lg_sl ([.ref (mt_x τ), .int zx1, .int zx2])).length) Slot.unset).toArray = ls at hl ⊢
  replace hl : lv_has ls 5 [(0, .ref (mt_x τ)), (1, .int zx1), (2, .int zx2)] := hl
  have hA : ∀ q : Nat, s.heap.size ≤ q → mA L sz q := fun q h => Or.inr (by omega)
  have hE : pext L sz L := pext.rf hnd
  have hD : va_D (mA L sz) (va_pl L f) := hE.D
  refine gen_start (A := mA L sz) (fun H locs hP hS => ?_) hP
  have hMb := hM.b
  refine lv_aload_n hx hb dX5_implement_0 rfl (lv_at hl 0 rfl) ?_
  refine lv_iload_n hx hb dX5_implement_1 rfl (lv_at hl 1 rfl) ?_
  refine va_callq (va_runV (As := [.int zx1]) (rest := []) ⟨hx, hb, hml, hown, hts⟩ (c_X5_at l D cO mi L f e0 τ hM zx1) (cwV 1 hts gX5_implement_X5_at rfl rfl rfl (by decide +kernel) ⟨Nat.le_of_ble_eq_true rfl, Nat.le_of_ble_eq_true rfl⟩) (mP_V hK hP 6 rfl hM.x.1 hM.x.2) rfl rfl hl.1 rfl (lv_room (Nat.le_of_ble_eq_true rfl)) dX5_implement_2 ⟨Nat.le_of_ble_eq_true rfl, Nat.le_of_ble_eq_true rfl⟩) hS (fun _ _ h => h.elim) (fun _ h => h.elim) (fun r_1 u t H1 locs ht hvm hw hB hz1 hk1 hS => ?_)
  replace hP := ro_kept hP hk1
  obtain rfl : r_1 = _ := hw
  clear hk1 hz1 hvm ht hB
  generalize H1 = H at hP hS ⊢
  rcases htzj1 : t_ati τ zx1 with _ | zj1
  · rw [show t_at τ zx1 = none by simp [t_at, htzj1]]
    refine lv_astore_nN (lv' := [(3, .null), (0, .ref (mt_x τ)), (1, .int zx1), (2, .int zx2)]) hx hb dX5_implement_5 rfl hl (by decide) rfl (fun ls hl => ?_)
    refine lv_aload_n hx hb dX5_implement_6 rfl (lv_at hl 1 rfl) ?_
    refine lv_iload_n hx hb dX5_implement_7 rfl (lv_at hl 3 rfl) ?_
    refine va_callq (va_runV (As := [.int zx2]) (rest := []) ⟨hx, hb, hml, hown, hts⟩ (c_X5_at l D cO mi L f e0 τ hM zx2) (cwV 1 hts gX5_implement_X5_at rfl rfl rfl (by decide +kernel) ⟨Nat.le_of_ble_eq_true rfl, Nat.le_of_ble_eq_true rfl⟩) (mP_V hK hP 6 rfl hM.x.1 hM.x.2) rfl rfl hl.1 rfl (lv_room (Nat.le_of_ble_eq_true rfl)) dX5_implement_8 ⟨Nat.le_of_ble_eq_true rfl, Nat.le_of_ble_eq_true rfl⟩) hS (fun _ _ h => h.elim) (fun _ h => h.elim) (fun r_2 u t H1 locs ht hvm hw hB hz1 hk1 hS => ?_)
    replace hP := ro_kept hP hk1
    obtain rfl : r_2 = _ := hw
    clear hk1 hz1 hvm ht hB
    generalize H1 = H at hP hS ⊢
    rcases htzj2 : t_ati τ zx2 with _ | zj2
    · rw [show t_at τ zx2 = none by simp [t_at, htzj2]]
      refine lv_astoreN (lv' := [(4, .null), (3, .null), (0, .ref (mt_x τ)), (1, .int zx1), (2, .int zx2)]) hx hb dX5_implement_11 hl (by decide) rfl (fun ls hl => ?_)
      refine lv_aload_nN hx hb dX5_implement_13 rfl (lv_at hl 1 rfl) ?_
      refine lv_ifnullN (tgt := 48) hx hb dX5_implement_14 (by decide) ?_
      refine lv_bipush (v := (-14)) hx hb dX5_implement_48 (by decide) ?_
      refine W.widen (k := 1) (n := 30) (by first | exact Nat.le_refl _ | omega) (by first | exact Nat.le_refl _ | omega) ?_
      exact W.iret (v := (-14)) hx hb hr (fun t ht hW => ⟨⟨(-14), (L, f), rfl, ⟨⟨(by unfold t_impR; simp only [htzj1, htzj2]; try simp []), Or.inl ⟨by decide, rfl, hM⟩⟩, hE⟩, show va_P D vwCl (va_pl _ _) t.heap from (by rw [ht]; exact hP)⟩, hS.F ht⟩) hS.2.2 dX5_implement_50
    · rw [show t_at τ zx2 = some (mt_ca τ zj2) by simp [t_at, htzj2]]
      refine lv_astore (lv' := [(4, .ref (mt_ca τ zj2)), (3, .null), (0, .ref (mt_x τ)), (1, .int zx1), (2, .int zx2)]) hx hb dX5_implement_11 hl (by decide) rfl (fun ls hl => ?_)
      refine lv_aload_nN hx hb dX5_implement_13 rfl (lv_at hl 1 rfl) ?_
      refine lv_ifnullN (tgt := 48) hx hb dX5_implement_14 (by decide) ?_
      refine lv_bipush (v := (-14)) hx hb dX5_implement_48 (by decide) ?_
      refine W.widen (k := 1) (n := 30) (by first | exact Nat.le_refl _ | omega) (by first | exact Nat.le_refl _ | omega) ?_
      exact W.iret (v := (-14)) hx hb hr (fun t ht hW => ⟨⟨(-14), (L, f), rfl, ⟨⟨(by unfold t_impR; simp only [htzj1, htzj2]; try simp []), Or.inl ⟨by decide, rfl, hM⟩⟩, hE⟩, show va_P D vwCl (va_pl _ _) t.heap from (by rw [ht]; exact hP)⟩, hS.F ht⟩) hS.2.2 dX5_implement_50
  · rw [show t_at τ zx1 = some (mt_ca τ zj1) by simp [t_at, htzj1]]
    refine lv_astore_n (lv' := [(3, .ref (mt_ca τ zj1)), (0, .ref (mt_x τ)), (1, .int zx1), (2, .int zx2)]) hx hb dX5_implement_5 rfl hl (by decide) rfl (fun ls hl => ?_)
    refine lv_aload_n hx hb dX5_implement_6 rfl (lv_at hl 1 rfl) ?_
    refine lv_iload_n hx hb dX5_implement_7 rfl (lv_at hl 3 rfl) ?_
    refine va_callq (va_runV (As := [.int zx2]) (rest := []) ⟨hx, hb, hml, hown, hts⟩ (c_X5_at l D cO mi L f e0 τ hM zx2) (cwV 1 hts gX5_implement_X5_at rfl rfl rfl (by decide +kernel) ⟨Nat.le_of_ble_eq_true rfl, Nat.le_of_ble_eq_true rfl⟩) (mP_V hK hP 6 rfl hM.x.1 hM.x.2) rfl rfl hl.1 rfl (lv_room (Nat.le_of_ble_eq_true rfl)) dX5_implement_8 ⟨Nat.le_of_ble_eq_true rfl, Nat.le_of_ble_eq_true rfl⟩) hS (fun _ _ h => h.elim) (fun _ h => h.elim) (fun r_3 u t H1 locs ht hvm hw hB hz1 hk1 hS => ?_)
    replace hP := ro_kept hP hk1
    obtain rfl : r_3 = _ := hw
    clear hk1 hz1 hvm ht hB
    generalize H1 = H at hP hS ⊢
    rcases htzj2 : t_ati τ zx2 with _ | zj2
    · rw [show t_at τ zx2 = none by simp [t_at, htzj2]]
      refine lv_astoreN (lv' := [(4, .null), (3, .ref (mt_ca τ zj1)), (0, .ref (mt_x τ)), (1, .int zx1), (2, .int zx2)]) hx hb dX5_implement_11 hl (by decide) rfl (fun ls hl => ?_)
      refine lv_aload_n hx hb dX5_implement_13 rfl (lv_at hl 1 rfl) ?_
      refine lv_ifnull hx hb dX5_implement_14 ?_
      refine lv_aloadN hx hb dX5_implement_17 (lv_at hl 0 rfl) ?_
      refine lv_ifnullN (tgt := 48) hx hb dX5_implement_19 (by decide) ?_
      refine lv_bipush (v := (-14)) hx hb dX5_implement_48 (by decide) ?_
      refine W.widen (k := 1) (n := 30) (by first | exact Nat.le_refl _ | omega) (by first | exact Nat.le_refl _ | omega) ?_
      exact W.iret (v := (-14)) hx hb hr (fun t ht hW => ⟨⟨(-14), (L, f), rfl, ⟨⟨(by unfold t_impR; simp only [htzj1, htzj2]; try simp []), Or.inl ⟨by decide, rfl, hM⟩⟩, hE⟩, show va_P D vwCl (va_pl _ _) t.heap from (by rw [ht]; exact hP)⟩, hS.F ht⟩) hS.2.2 dX5_implement_50
    · rw [show t_at τ zx2 = some (mt_ca τ zj2) by simp [t_at, htzj2]]
      refine lv_astore (lv' := [(4, .ref (mt_ca τ zj2)), (3, .ref (mt_ca τ zj1)), (0, .ref (mt_x τ)), (1, .int zx1), (2, .int zx2)]) hx hb dX5_implement_11 hl (by decide) rfl (fun ls hl => ?_)
      refine lv_aload_n hx hb dX5_implement_13 rfl (lv_at hl 1 rfl) ?_
      refine lv_ifnull hx hb dX5_implement_14 ?_
      refine lv_aload hx hb dX5_implement_17 (lv_at hl 0 rfl) ?_
      refine lv_ifnull hx hb dX5_implement_19 ?_
      refine lv_iload_n hx hb dX5_implement_22 rfl (lv_at hl 3 rfl) ?_
      refine lv_aload_n hx hb dX5_implement_23 rfl (lv_at hl 2 rfl) ?_
      refine pl_get (D := D) (ci := 6) (v := .ref (mt_c τ)) (C := RX5) (T := TX5) (N := 3) hx hb hts (by decide +kernel) hown hK.1 hP hM.x.1 hM.x.2 rfl 0 (by decide) (hts (.fieldLink RX5 10 "ChooseTreeModel" "classes" "Ljava/util/ArrayList;") (by decide +kernel)) (fun _ h9 => h9) rfl dX5_implement_24 ?_
      obtain ⟨mcz4, gz4, hfz4, hgz4, hcz4⟩ := hM.ly.raw (b := (mt_c τ)) hM.c.1 hM.c.2
      refine va_calli (va_runV (As := []) (rest := [.int zx1]) ⟨hx, hb, hml, hown, hts⟩ (c_Jx4a65c_size_8abf5 l D cO mi L f (mt_c τ) hM.c.1 mcz4 (ls_dat (mt_ls τ) (mt_c τ)) (mt_cnt τ (mt_c τ)) hfz4) (cwV 0 hts gX5_implement_Jx4a65c_size_8abf5 rfl rfl rfl (by decide +kernel) ⟨Nat.le_of_ble_eq_true rfl, Nat.le_of_ble_eq_true rfl⟩) (mP_V hK hP 0 rfl hM.c.1 hfz4) rfl rfl hl.1 rfl (lv_room (Nat.le_of_ble_eq_true rfl)) dX5_implement_27 ⟨Nat.le_of_ble_eq_true rfl, Nat.le_of_ble_eq_true rfl⟩) hS (fun _ _ h => h.elim) (fun _ h => h.elim) (fun r_5 u t H1 locs ht hvm hw hB hz1 hk1 hS => ?_)
      replace hP := ro_kept hP hk1
      obtain rfl : r_5 = _ := hw
      clear hk1 hz1 hvm ht hB
      generalize H1 = H at hP hS ⊢
      rw [show (mt_cnt τ (mt_c τ)) = mt_n τ from hM.cs.1]
      clear hcz4 hgz4
      refine lv_iconst (v := (nI 1)) hx hb dX5_implement_30 (by decide) ?_
      refine lv_isubN hx hb dX5_implement_31 (by omega) ?_
      refine lv_icmp_ne (tgt := 48) hx hb dX5_implement_32 (by decide) (fun c_6 => ?_) (fun c_6 => ?_)
      · refine lv_bipush (v := (-14)) hx hb dX5_implement_48 (by decide) ?_
        refine W.widen (k := 1) (n := 30) (by first | exact Nat.le_refl _ | omega) (by first | exact Nat.le_refl _ | omega) ?_
        exact W.iret (v := (-14)) hx hb hr (fun t ht hW => ⟨⟨(-14), (L, f), rfl, ⟨⟨(by unfold t_impR; simp only [htzj1, htzj2]; try simp [c_6]), Or.inl ⟨by decide, rfl, hM⟩⟩, hE⟩, show va_P D vwCl (va_pl _ _) t.heap from (by rw [ht]; exact hP)⟩, hS.F ht⟩) hS.2.2 dX5_implement_50
      · refine lv_iload_n hx hb dX5_implement_35 rfl (lv_at hl 4 rfl) ?_
        refine lv_iload_n hx hb dX5_implement_36 rfl (lv_at hl 3 rfl) ?_
        refine lv_icmp_eq (tgt := 48) hx hb dX5_implement_37 (by decide) (fun c_7 => ?_) (fun c_7 => ?_)
        · refine lv_bipush (v := (-14)) hx hb dX5_implement_48 (by decide) ?_
          refine W.widen (k := 1) (n := 30) (by first | exact Nat.le_refl _ | omega) (by first | exact Nat.le_refl _ | omega) ?_
          exact W.iret (v := (-14)) hx hb hr (fun t ht hW => ⟨⟨(-14), (L, f), rfl, ⟨⟨(by unfold t_impR; simp only [htzj1, htzj2]; try simp [c_6, c_7]), Or.inl ⟨by decide, rfl, hM⟩⟩, hE⟩, show va_P D vwCl (va_pl _ _) t.heap from (by rw [ht]; exact hP)⟩, hS.F ht⟩) hS.2.2 dX5_implement_50
        · have hklt : zj2 < zj1 := by have i1 := t_ix (n := mt_n τ) (by omega) htzj1; have i2 := t_ix (n := mt_n τ) (by omega) htzj2; have e1 : zj1 = mt_n τ - 1 := (nI_eq (by omega) (by omega)).mp (i1.2.symm.trans c_6); have e2 : zj2 ≠ zj1 := fun e => c_7 (by rw [i2.2, i1.2, e]); omega
          have hx7 : ¬ zx2 = nI (mt_n τ - 1) := by rw [← c_6]; exact c_7
          refine lv_aload hx hb dX5_implement_40 (lv_at hl 0 rfl) ?_
          refine pl_get (D := D) (ci := 4) (v := .int (mt_fc τ zj2)) (C := RX3) (T := TX3) (N := 9) hx hb hts (by decide +kernel) hown hK.1 hP (hM.cl (t_ati_lt hM htzj2)).1 (hM.cl (t_ati_lt hM htzj2)).2.1 rfl 3 (by decide) (hts (.fieldLink RX5 42 "ChooseTreeModel$Cls" "isFace" "Z") (by decide +kernel)) (fun _ h9 => h9) rfl dX5_implement_42 ?_
          refine lv_if_ne (tgt := 51) hx hb dX5_implement_45 (by decide) (fun c_8 => ?_) (fun c_8 => ?_)
          · refine lv_aload_n hx hb dX5_implement_51 rfl (lv_at hl 1 rfl) ?_
            refine pl_get (D := D) (ci := 4) (v := .ref (mt_ma τ zj1)) (C := RX3) (T := TX3) (N := 9) hx hb hts (by decide +kernel) hown hK.1 hP (hM.cl (t_ati_lt hM htzj1)).1 (hM.cl (t_ati_lt hM htzj1)).2.1 rfl 5 (by decide) (hts (.fieldLink RX5 46 "ChooseTreeModel$Cls" "methods" "Ljava/util/ArrayList;") (by decide +kernel)) (fun _ h9 => h9) rfl dX5_implement_52 ?_
            obtain ⟨mcz9, gz9, hfz9, hgz9, hcz9⟩ := hM.ly.raw (b := (mt_ma τ zj1)) (hM.ma (t_ati_lt hM htzj1)).1 (hM.ma (t_ati_lt hM htzj1)).2
            refine va_calli (va_runV (As := []) (rest := []) ⟨hx, hb, hml, hown, hts⟩ (c_Jx4a65c_size_8abf5 l D cO mi L f (mt_ma τ zj1) (hM.ma (t_ati_lt hM htzj1)).1 mcz9 (ls_dat (mt_ls τ) (mt_ma τ zj1)) (mt_cnt τ (mt_ma τ zj1)) hfz9) (cwV 0 hts gX5_implement_Jx4a65c_size_8abf5 rfl rfl rfl (by decide +kernel) ⟨Nat.le_of_ble_eq_true rfl, Nat.le_of_ble_eq_true rfl⟩) (mP_V hK hP 0 rfl (hM.ma (t_ati_lt hM htzj1)).1 hfz9) rfl rfl hl.1 rfl (lv_room (Nat.le_of_ble_eq_true rfl)) dX5_implement_55 ⟨Nat.le_of_ble_eq_true rfl, Nat.le_of_ble_eq_true rfl⟩) hS (fun _ _ h => h.elim) (fun _ h => h.elim) (fun r_10 u t H1 locs ht hvm hw hB hz1 hk1 hS => ?_)
            replace hP := ro_kept hP hk1
            obtain rfl : r_10 = _ := hw
            clear hk1 hz1 hvm ht hB
            generalize H1 = H at hP hS ⊢
            clear hcz9 hgz9
            refine lv_if_gt (tgt := 70) hx hb dX5_implement_58 (by decide) (fun c_11 => ?_) (fun c_11 => ?_)
            · refine lv_iconst (v := (-1)) hx hb dX5_implement_70 (by decide) ?_
              refine W.widen (k := 1) (n := 30) (by first | exact Nat.le_refl _ | omega) (by first | exact Nat.le_refl _ | omega) ?_
              exact W.iret (v := (-1)) hx hb hr (fun t ht hW => ⟨⟨(-1), (L, f), rfl, ⟨⟨(by unfold t_impR; simp only [htzj1, htzj2]; try simp [c_6, c_7, hx7, c_8, c_11]), Or.inl ⟨by decide, rfl, hM⟩⟩, hE⟩, show va_P D vwCl (va_pl _ _) t.heap from (by rw [ht]; exact hP)⟩, hS.F ht⟩) hS.2.2 dX5_implement_71
            · refine lv_aload_n hx hb dX5_implement_61 rfl (lv_at hl 1 rfl) ?_
              refine lv_aload hx hb dX5_implement_62 (lv_at hl 0 rfl) ?_
              refine va_calli (va_runS (As := [.ref (mt_ca τ zj1), .ref (mt_ca τ zj2)]) (rest := []) ⟨hx, hb, hml, hown, hts⟩ (c_X5_hasFace l D cO mi L f e0 τ hM zj1 zj2 (t_ati_lt hM htzj1) (t_ati_lt hM htzj2)) (va_cwS 2 hts gX5_implement_X5_hasFace rfl rfl rfl (by decide +kernel) ⟨Nat.le_of_ble_eq_true rfl, Nat.le_of_ble_eq_true rfl⟩) (mP_S hK hP) rfl rfl hl.1 rfl (lv_room (Nat.le_of_ble_eq_true rfl)) dX5_implement_64 ⟨Nat.le_of_ble_eq_true rfl, Nat.le_of_ble_eq_true rfl⟩) hS (fun _ _ h => h.elim) (fun _ h => h.elim) (fun r_12 u t H1 locs ht hvm hw hB hz1 hk1 hS => ?_)
              replace hP := ro_kept hP hk1
              obtain rfl : r_12 = _ := hw
              clear hk1 hz1 hvm ht hB
              generalize H1 = H at hP hS ⊢
              refine lv_if_eq (tgt := 72) hx hb dX5_implement_67 (by decide) (fun c_13 => ?_) (fun c_13 => ?_)
              · replace c_13 := bI_0.mp c_13
                refine lv_aload_n hx hb dX5_implement_72 rfl (lv_at hl 1 rfl) ?_
                refine pl_get (D := D) (ci := 4) (v := .ref (mt_fa τ zj1)) (C := RX3) (T := TX3) (N := 9) hx hb hts (by decide +kernel) hown hK.1 hP (hM.cl (t_ati_lt hM htzj1)).1 (hM.cl (t_ati_lt hM htzj1)).2.1 rfl 4 (by decide) (hts (.fieldLink RX5 51 "ChooseTreeModel$Cls" "faces" "Ljava/util/ArrayList;") (by decide +kernel)) (fun _ h9 => h9) rfl dX5_implement_73 ?_
                obtain ⟨mcz14, gz14, hfz14, hgz14, hcz14⟩ := hM.ly.raw (b := (mt_fa τ zj1)) (hM.fa (t_ati_lt hM htzj1)).1 (hM.fa (t_ati_lt hM htzj1)).2
                refine va_calli (va_runV (As := []) (rest := []) ⟨hx, hb, hml, hown, hts⟩ (c_Jx4a65c_size_8abf5 l D cO mi L f (mt_fa τ zj1) (hM.fa (t_ati_lt hM htzj1)).1 mcz14 (ls_dat (mt_ls τ) (mt_fa τ zj1)) (mt_cnt τ (mt_fa τ zj1)) hfz14) (cwV 0 hts gX5_implement_Jx4a65c_size_8abf5 rfl rfl rfl (by decide +kernel) ⟨Nat.le_of_ble_eq_true rfl, Nat.le_of_ble_eq_true rfl⟩) (mP_V hK hP 0 rfl (hM.fa (t_ati_lt hM htzj1)).1 hfz14) rfl rfl hl.1 rfl (lv_room (Nat.le_of_ble_eq_true rfl)) dX5_implement_76 ⟨Nat.le_of_ble_eq_true rfl, Nat.le_of_ble_eq_true rfl⟩) hS (fun _ _ h => h.elim) (fun _ h => h.elim) (fun r_15 u t H1 locs ht hvm hw hB hz1 hk1 hS => ?_)
                replace hP := ro_kept hP hk1
                obtain rfl : r_15 = _ := hw
                clear hk1 hz1 hvm ht hB
                generalize H1 = H at hP hS ⊢
                clear hcz14 hgz14
                refine lv_bipush (v := (nI 20)) hx hb dX5_implement_79 (by decide) ?_
                refine lv_icmp_ne (tgt := 87) hx hb dX5_implement_81 (by decide) (fun c_16 => ?_) (fun c_16 => ?_)
                · have hi1 := (t_ati_lt hM htzj1)
                  have hl20 : mt_cnt τ (mt_fa τ zj1) < 20 := by have h20 : ¬ mt_cnt τ (mt_fa τ zj1) = 20 := fun e => absurd (congrArg nI e) c_16; have h21 : mt_cnt τ (mt_fa τ zj1) ≤ 20 := (hM.cl hi1).2.2.2.1.1; omega
                  refine lv_aload_n hx hb dX5_implement_87 rfl (lv_at hl 1 rfl) ?_
                  refine pl_get (D := D) (ci := 4) (v := .ref (mt_fa τ zj1)) (C := RX3) (T := TX3) (N := 9) hx hb hts (by decide +kernel) hown hK.1 hP (hM.cl (t_ati_lt hM htzj1)).1 (hM.cl (t_ati_lt hM htzj1)).2.1 rfl 4 (by decide) (hts (.fieldLink RX5 51 "ChooseTreeModel$Cls" "faces" "Ljava/util/ArrayList;") (by decide +kernel)) (fun _ h9 => h9) rfl dX5_implement_88 ?_
                  refine lv_aload hx hb dX5_implement_91 (lv_at hl 0 rfl) ?_
                  obtain ⟨mcA, gA, hfA, hgA, hcA⟩ := hM.ly.raw (b := (mt_fa τ zj1)) (hM.fa hi1).1 (hM.fa hi1).2
                  have hszH : sz ≤ H.size := by have := hS.1; omega
                  have hPold := hP
                  refine va_calli (va_runV (As := [.ref (mt_ca τ zj2)]) (rest := []) ⟨hx, hb, hml, hown, hts⟩ (c_Jx4a65c_addU l D cO mi e0 L f H.size hE.nd (mt_fa τ zj1) (hM.fa hi1).1 mcA (ls_dat (mt_ls τ) (mt_fa τ zj1)) (ls_cnt (mt_ls τ) (mt_fa τ zj1)) hfA (mt_ca τ zj2) (hM.mca (t_ati_lt hM htzj2)) (ls_cap (mt_ls τ) (mt_fa τ zj1)) (ls_grow (mt_ls τ) (mt_fa τ zj1)) gA hgA 30 (ls_grow_le (K := 20) hl20 (by omega))) (cwV 1 hts gX5_implement_Jx4a65c_add_9ea2d rfl rfl rfl (by decide +kernel) ⟨Nat.le_of_ble_eq_true rfl, Nat.le_of_ble_eq_true rfl⟩) (mW_V hK hJ hS (hE.sub (by have := hS.1; omega)) hP 0 rfl (hM.fa hi1).1 hfA) rfl rfl hl.1 rfl (lv_room (Nat.le_of_ble_eq_true rfl)) dX5_implement_93 ⟨Nat.le_of_ble_eq_true rfl, Nat.le_of_ble_eq_true rfl⟩) hS (fun q _ h => (hE.sub (by have := hS.1; omega)) q h) (hE.sub (by have := hS.1; omega)) (fun r_17 u t H1 locs ht hvm hw hB hz1 hk1 hS => ?_)
                  obtain ⟨L17, f17⟩ := u
                  obtain ⟨hw, hE1⟩ := hw
                  replace hB : va_P D vwCl (va_pl L17 f17) t.heap := hB
                  rw [ht] at hB
                  replace hE : pext L sz L17 := hE.tr (hszH) hE1
                  have he9 : e0 < H.size := Nat.lt_of_lt_of_le hJ.lt.2 hszH
                  obtain ⟨hr1, hw⟩ := hw
                  subst hr1
                  obtain ⟨d2, n2, hM2⟩ := hM.addF hi1 hklt hfA hcA he9 hE1 hl20 hw
                  replace hM2 : MI e0 cO L17 f17 _ := hM2
                  obtain ⟨d9, n9, g9, -, hf9, -⟩ := hw
                  replace hf9 : f17 (mt_fa τ zj1) = alc (mcA + nI 1) d9 (mt_cnt τ (mt_fa τ zj1) + 1) := hf9
                  have hc9 : f17 (mt_ca τ zj1) = .inr (4, [.int (nI zj1), .int (mt_pk τ zj1), va_rf ((mt_pr τ zj1).map (mt_ca τ)), .int (mt_fc τ zj1), .ref (mt_fa τ zj1), .ref (mt_ma τ zj1), .ref (mt_aa τ zj1), .int (mt_pt τ zj1), .int (mt_mk τ zj1)]) := (hM2.cl hi1).2.1
                  have hc8 : mt_ca τ zj1 ∈ L17 := (hM2.cl hi1).1
                  have hf8 : (mt_fa τ zj1) ∈ L17 := (hM2.fa hi1).1
                  clear he9
                  clear hPold hP hk1 hz1 hvm ht hszH hE1
                  have hP := hB
                  clear hB
                  generalize H1 = H at hP hS ⊢
                  have hD : va_D (mA L sz) (va_pl L17 f17) := hE.D
                  refine lv_pop hx hb dX5_implement_96 rfl ?_
                  refine lv_aload_n hx hb dX5_implement_97 rfl (lv_at hl 1 rfl) ?_
                  refine pl_get (D := D) (ci := 4) (v := .ref (mt_fa τ zj1)) (C := RX3) (T := TX3) (N := 9) hx hb hts (by decide +kernel) hown hK.1 hP hc8 hc9 rfl 4 (by decide) (hts (.fieldLink RX5 51 "ChooseTreeModel$Cls" "faces" "Ljava/util/ArrayList;") (by decide +kernel)) (fun _ h9 => h9) rfl dX5_implement_98 ?_
                  refine va_calli (va_runV (As := []) (rest := []) ⟨hx, hb, hml, hown, hts⟩ (c_Jx4a65c_size_8abf5 l D cO mi L17 f17 (mt_fa τ zj1) hf8 (mcA + nI 1) d9 (mt_cnt τ (mt_fa τ zj1) + 1) hf9) (cwV 0 hts gX5_implement_Jx4a65c_size_8abf5 rfl rfl rfl (by decide +kernel) ⟨Nat.le_of_ble_eq_true rfl, Nat.le_of_ble_eq_true rfl⟩) (mP_V hK hP 0 rfl hf8 hf9) rfl rfl hl.1 rfl (lv_room (Nat.le_of_ble_eq_true rfl)) dX5_implement_101 ⟨Nat.le_of_ble_eq_true rfl, Nat.le_of_ble_eq_true rfl⟩) hS (fun _ _ h => h.elim) (fun _ h => h.elim) (fun r_18 u t H1 locs ht hvm hw hB hz1 hk1 hS => ?_)
                  replace hP := ro_kept hP hk1
                  obtain rfl : r_18 = _ := hw
                  clear hk1 hz1 hvm ht hB
                  generalize H1 = H at hP hS ⊢
                  refine W.widen (k := 1) (n := 30) (by first | exact Nat.le_refl _ | omega) (by first | exact Nat.le_refl _ | omega) ?_
                  exact W.iret (v := (nI (mt_cnt τ (mt_fa τ zj1) + 1))) hx hb hr (fun t ht hW => ⟨⟨(nI (mt_cnt τ (mt_fa τ zj1) + 1)), (L17, f17), rfl, ⟨⟨(by unfold t_impR; simp only [htzj1, htzj2]; try simp [c_6, c_7, hx7, c_8, c_11, c_13, c_16]), Or.inr ⟨zj1, zj2, (by first | exact htzj1 | rfl), (by first | exact htzj2 | rfl), hklt, hl20, rfl, d2, n2, hM2⟩⟩, hE⟩, show va_P D vwCl (va_pl _ _) t.heap from (by rw [ht]; exact hP)⟩, hS.F ht⟩) hS.2.2 dX5_implement_104
                · refine lv_bipush (v := (-12)) hx hb dX5_implement_84 (by decide) ?_
                  refine W.widen (k := 1) (n := 30) (by first | exact Nat.le_refl _ | omega) (by first | exact Nat.le_refl _ | omega) ?_
                  exact W.iret (v := (-12)) hx hb hr (fun t ht hW => ⟨⟨(-12), (L, f), rfl, ⟨⟨(by unfold t_impR; simp only [htzj1, htzj2]; try simp [c_6, c_7, hx7, c_8, c_11, c_13, c_16]), Or.inl ⟨by decide, rfl, hM⟩⟩, hE⟩, show va_P D vwCl (va_pl _ _) t.heap from (by rw [ht]; exact hP)⟩, hS.F ht⟩) hS.2.2 dX5_implement_86
              · replace c_13 := bI_n0.mp c_13
                refine lv_iconst (v := (-1)) hx hb dX5_implement_70 (by decide) ?_
                refine W.widen (k := 1) (n := 30) (by first | exact Nat.le_refl _ | omega) (by first | exact Nat.le_refl _ | omega) ?_
                exact W.iret (v := (-1)) hx hb hr (fun t ht hW => ⟨⟨(-1), (L, f), rfl, ⟨⟨(by unfold t_impR; simp only [htzj1, htzj2]; try simp [c_6, c_7, hx7, c_8, c_11, c_13]), Or.inl ⟨by decide, rfl, hM⟩⟩, hE⟩, show va_P D vwCl (va_pl _ _) t.heap from (by rw [ht]; exact hP)⟩, hS.F ht⟩) hS.2.2 dX5_implement_71
          · refine lv_bipush (v := (-14)) hx hb dX5_implement_48 (by decide) ?_
            refine W.widen (k := 1) (n := 30) (by first | exact Nat.le_refl _ | omega) (by first | exact Nat.le_refl _ | omega) ?_
            exact W.iret (v := (-14)) hx hb hr (fun t ht hW => ⟨⟨(-14), (L, f), rfl, ⟨⟨(by unfold t_impR; simp only [htzj1, htzj2]; try simp [c_6, c_7, hx7, c_8]), Or.inl ⟨by decide, rfl, hM⟩⟩, hE⟩, show va_P D vwCl (va_pl _ _) t.heap from (by rw [ht]; exact hP)⟩, hS.F ht⟩) hS.2.2 dX5_implement_50
