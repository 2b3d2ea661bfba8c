set_option maxHeartbeats 4000000 in
set_option maxRecDepth 100000 in
theorem c_X5_choose (l : Launch) (D : va_G) (cO : ClassId) (mi e0 : Nat) (L : List Nat) (f : Nat → va_E) (sz : Nat) (hnd : L.Nodup) (τ : MT) (hM : MI e0 cO L f τ) (zx1 zx2 : Int32) : Met l yX5_choose wsX5_choose { frames := 71, cells := 60, slots := 5400, locals := 1734 } (mW D cO mi e0 L f sz [.ref (mt_x τ), .int zx1, .int zx2]) (wQi D L sz (fun r u => ∃ (p9 : Nat → Int32) (m9 : Int32) (k9 : Nat → Int32) (a9 : Nat → Nat → Nat) (l9 : LSt), MI e0 cO u.1 u.2 (mt_f τ p9 m9 k9 a9 l9))) 60 5400 (mA L sz) := by
  refine Met.ofW (cc := cX5_choose) (maxL := 7) (ret := (some .int)) (by decide) rfl ?_
  intro p e s m args below meth cq s₁ B hml hv
  obtain ⟨rfl, hsz, hP, hK, hJ⟩ := hv
  have hx := B.exec
  have hb := B.bytes
  have hr := B.returns
  have hts := atoms_spec (ws := wsX5_choose) B.pre
  have hown : s.vm.findClass RX5 = some m.cls := findClass_of_methodNamed B.named
  have hlocks := B.notSynchronized
  have hin := (name_of_methodNamed B.named B.method).1
  clear B
  have hl := lv_entry ([.ref (mt_x τ), .int zx1, .int zx2]) (n := 7) (Nat.le_of_ble_eq_true rfl)
  rw [lg_entry_eq]
  generalize (lg_sl ([.ref (mt_x τ), .int zx1, .int zx2]) ++ List.replicate (7 - (lg_sl ([.ref (mt_x τ), .int zx1, .int zx2])).length) Slot.unset).toArray = ls at hl ⊢
  replace hl : lv_has ls 7 [(0, .ref (mt_x τ)), (1, .int zx1), (2, .int zx2)] := hl
  have hA : ∀ q : Nat, s.heap.size ≤ q → mA L sz q := fun q h => Or.inr (by omega)
  have hE : pext L sz L := pext.rf hnd
  have hD : va_D (mA L sz) (va_pl L f) := hE.D
  refine gen_start (A := mA L sz) (fun H locs hP hS => ?_) hP
  have hMb : 1 ≤ mt_n τ ∧ mt_n τ ≤ 60 ∧ mt_mn τ ≤ 400 := hM.b
  refine lv_aload_n hx hb dX5_choose_0 rfl (lv_at hl 0 rfl) ?_
  refine lv_iload_n hx hb dX5_choose_1 rfl (lv_at hl 1 rfl) ?_
  refine va_callq (va_runV (As := [.int zx1]) (rest := []) ⟨hx, hb, hml, hown, hts⟩ (c_X5_at l D cO mi L f e0 τ hM zx1) (cwV 1 hts gX5_choose_X5_at rfl rfl rfl (by decide +kernel) ⟨Nat.le_of_ble_eq_true rfl, Nat.le_of_ble_eq_true rfl⟩) (mP_V hK hP 6 rfl hM.x.1 hM.x.2) rfl rfl hl.1 rfl (lv_room (Nat.le_of_ble_eq_true rfl)) dX5_choose_2 ⟨Nat.le_of_ble_eq_true rfl, Nat.le_of_ble_eq_true rfl⟩) hS (fun _ _ h => h.elim) (fun _ h => h.elim) (fun r_1 u t H1 locs ht hvm hw hB hz1 hk1 hS => ?_)
  replace hP := ro_kept hP hk1
  obtain rfl : r_1 = _ := hw
  clear hk1 hz1 hvm ht hB
  generalize H1 = H at hP hS ⊢
  rcases htzp : t_ati τ zx1 with _ | zp
  · rw [show t_at τ zx1 = none by simp [t_at, htzp]]
    refine lv_astore_nN (lv' := [(3, .null), (0, .ref (mt_x τ)), (1, .int zx1), (2, .int zx2)]) hx hb dX5_choose_5 rfl hl (by decide) rfl (fun ls hl => ?_)
    refine lv_aload_n hx hb dX5_choose_6 rfl (lv_at hl 1 rfl) ?_
    refine lv_iload_n hx hb dX5_choose_7 rfl (lv_at hl 3 rfl) ?_
    refine va_callq (va_runV (As := [.int zx2]) (rest := []) ⟨hx, hb, hml, hown, hts⟩ (c_X5_met l D cO mi L f e0 τ hM zx2) (cwV 1 hts gX5_choose_X5_met rfl rfl rfl (by decide +kernel) ⟨Nat.le_of_ble_eq_true rfl, Nat.le_of_ble_eq_true rfl⟩) (mP_V hK hP 6 rfl hM.x.1 hM.x.2) rfl rfl hl.1 rfl (lv_room (Nat.le_of_ble_eq_true rfl)) dX5_choose_8 ⟨Nat.le_of_ble_eq_true rfl, Nat.le_of_ble_eq_true rfl⟩) hS (fun _ _ h => h.elim) (fun _ h => h.elim) (fun r_2 u t H1 locs ht hvm hw hB hz1 hk1 hS => ?_)
    replace hP := ro_kept hP hk1
    obtain rfl : r_2 = _ := hw
    clear hk1 hz1 hvm ht hB
    generalize H1 = H at hP hS ⊢
    rcases htza : t_meti τ zx2 with _ | za
    · rw [show t_met τ zx2 = none by simp [t_met, htza]]
      refine lv_astoreN (lv' := [(4, .null), (3, .null), (0, .ref (mt_x τ)), (1, .int zx1), (2, .int zx2)]) hx hb dX5_choose_11 hl (by decide) rfl (fun ls hl => ?_)
      refine lv_aload_nN hx hb dX5_choose_13 rfl (lv_at hl 1 rfl) ?_
      refine lv_ifnullN (tgt := 50) hx hb dX5_choose_14 (by decide) ?_
      refine lv_bipush (v := (-14)) hx hb dX5_choose_50 (by decide) ?_
      refine W.widen (k := 60) (n := 5400) (by first | exact Nat.le_refl _ | omega) (by first | exact Nat.le_refl _ | omega) ?_
      exact W.iret (v := (-14)) hx hb hr (fun t ht hW => ⟨⟨(-14), (L, f), rfl, ⟨⟨mt_pt τ, mt_mark τ, mt_mk τ, mt_al τ, mt_ls τ, hM⟩, hE⟩, show va_P D vwCl (va_pl _ _) t.heap from (by rw [ht]; exact hP)⟩, hS.F ht⟩) hS.2.2 dX5_choose_52
    · rw [show t_met τ zx2 = some (mt_ja τ za) by simp [t_met, htza]]
      refine lv_astore (lv' := [(4, .ref (mt_ja τ za)), (3, .null), (0, .ref (mt_x τ)), (1, .int zx1), (2, .int zx2)]) hx hb dX5_choose_11 hl (by decide) rfl (fun ls hl => ?_)
      refine lv_aload_nN hx hb dX5_choose_13 rfl (lv_at hl 1 rfl) ?_
      refine lv_ifnullN (tgt := 50) hx hb dX5_choose_14 (by decide) ?_
      refine lv_bipush (v := (-14)) hx hb dX5_choose_50 (by decide) ?_
      refine W.widen (k := 60) (n := 5400) (by first | exact Nat.le_refl _ | omega) (by first | exact Nat.le_refl _ | omega) ?_
      exact W.iret (v := (-14)) hx hb hr (fun t ht hW => ⟨⟨(-14), (L, f), rfl, ⟨⟨mt_pt τ, mt_mark τ, mt_mk τ, mt_al τ, mt_ls τ, hM⟩, hE⟩, show va_P D vwCl (va_pl _ _) t.heap from (by rw [ht]; exact hP)⟩, hS.F ht⟩) hS.2.2 dX5_choose_52
  · rw [show t_at τ zx1 = some (mt_ca τ zp) by simp [t_at, htzp]]
    refine lv_astore_n (lv' := [(3, .ref (mt_ca τ zp)), (0, .ref (mt_x τ)), (1, .int zx1), (2, .int zx2)]) hx hb dX5_choose_5 rfl hl (by decide) rfl (fun ls hl => ?_)
    refine lv_aload_n hx hb dX5_choose_6 rfl (lv_at hl 1 rfl) ?_
    refine lv_iload_n hx hb dX5_choose_7 rfl (lv_at hl 3 rfl) ?_
    refine va_callq (va_runV (As := [.int zx2]) (rest := []) ⟨hx, hb, hml, hown, hts⟩ (c_X5_met l D cO mi L f e0 τ hM zx2) (cwV 1 hts gX5_choose_X5_met rfl rfl rfl (by decide +kernel) ⟨Nat.le_of_ble_eq_true rfl, Nat.le_of_ble_eq_true rfl⟩) (mP_V hK hP 6 rfl hM.x.1 hM.x.2) rfl rfl hl.1 rfl (lv_room (Nat.le_of_ble_eq_true rfl)) dX5_choose_8 ⟨Nat.le_of_ble_eq_true rfl, Nat.le_of_ble_eq_true rfl⟩) hS (fun _ _ h => h.elim) (fun _ h => h.elim) (fun r_3 u t H1 locs ht hvm hw hB hz1 hk1 hS => ?_)
    replace hP := ro_kept hP hk1
    obtain rfl : r_3 = _ := hw
    clear hk1 hz1 hvm ht hB
    generalize H1 = H at hP hS ⊢
    rcases htza : t_meti τ zx2 with _ | za
    · rw [show t_met τ zx2 = none by simp [t_met, htza]]
      refine lv_astoreN (lv' := [(4, .null), (3, .ref (mt_ca τ zp)), (0, .ref (mt_x τ)), (1, .int zx1), (2, .int zx2)]) hx hb dX5_choose_11 hl (by decide) rfl (fun ls hl => ?_)
      refine lv_aload_n hx hb dX5_choose_13 rfl (lv_at hl 1 rfl) ?_
      refine lv_ifnull hx hb dX5_choose_14 ?_
      refine lv_aload_n hx hb dX5_choose_17 rfl (lv_at hl 1 rfl) ?_
      refine pl_get (D := D) (ci := 4) (v := .int (mt_fc τ zp)) (C := RX3) (T := TX3) (N := 9) hx hb hts (by decide +kernel) hown hK.1 hP (hM.cl (t_ati_lt hM htzp)).1 (hM.cl (t_ati_lt hM htzp)).2.1 rfl 3 (by decide) (hts (.fieldLink RX5 42 "ChooseTreeModel$Cls" "isFace" "Z") (by decide +kernel)) (fun _ h9 => h9) rfl dX5_choose_18 ?_
      refine lv_if_ne (tgt := 50) hx hb dX5_choose_21 (by decide) (fun c_4 => ?_) (fun c_4 => ?_)
      · refine lv_bipush (v := (-14)) hx hb dX5_choose_50 (by decide) ?_
        refine W.widen (k := 60) (n := 5400) (by first | exact Nat.le_refl _ | omega) (by first | exact Nat.le_refl _ | omega) ?_
        exact W.iret (v := (-14)) hx hb hr (fun t ht hW => ⟨⟨(-14), (L, f), rfl, ⟨⟨mt_pt τ, mt_mark τ, mt_mk τ, mt_al τ, mt_ls τ, hM⟩, hE⟩, show va_P D vwCl (va_pl _ _) t.heap from (by rw [ht]; exact hP)⟩, hS.F ht⟩) hS.2.2 dX5_choose_52
      · refine lv_aloadN hx hb dX5_choose_24 (lv_at hl 0 rfl) ?_
        refine lv_ifnullN (tgt := 50) hx hb dX5_choose_26 (by decide) ?_
        refine lv_bipush (v := (-14)) hx hb dX5_choose_50 (by decide) ?_
        refine W.widen (k := 60) (n := 5400) (by first | exact Nat.le_refl _ | omega) (by first | exact Nat.le_refl _ | omega) ?_
        exact W.iret (v := (-14)) hx hb hr (fun t ht hW => ⟨⟨(-14), (L, f), rfl, ⟨⟨mt_pt τ, mt_mark τ, mt_mk τ, mt_al τ, mt_ls τ, hM⟩, hE⟩, show va_P D vwCl (va_pl _ _) t.heap from (by rw [ht]; exact hP)⟩, hS.F ht⟩) hS.2.2 dX5_choose_52
    · rw [show t_met τ zx2 = some (mt_ja τ za) by simp [t_met, htza]]
      refine lv_astore (lv' := [(4, .ref (mt_ja τ za)), (3, .ref (mt_ca τ zp)), (0, .ref (mt_x τ)), (1, .int zx1), (2, .int zx2)]) hx hb dX5_choose_11 hl (by decide) rfl (fun ls hl => ?_)
      refine lv_aload_n hx hb dX5_choose_13 rfl (lv_at hl 1 rfl) ?_
      refine lv_ifnull hx hb dX5_choose_14 ?_
      refine lv_aload_n hx hb dX5_choose_17 rfl (lv_at hl 1 rfl) ?_
      refine pl_get (D := D) (ci := 4) (v := .int (mt_fc τ zp)) (C := RX3) (T := TX3) (N := 9) hx hb hts (by decide +kernel) hown hK.1 hP (hM.cl (t_ati_lt hM htzp)).1 (hM.cl (t_ati_lt hM htzp)).2.1 rfl 3 (by decide) (hts (.fieldLink RX5 42 "ChooseTreeModel$Cls" "isFace" "Z") (by decide +kernel)) (fun _ h9 => h9) rfl dX5_choose_18 ?_
      refine lv_if_ne (tgt := 50) hx hb dX5_choose_21 (by decide) (fun c_5 => ?_) (fun c_5 => ?_)
      · refine lv_bipush (v := (-14)) hx hb dX5_choose_50 (by decide) ?_
        refine W.widen (k := 60) (n := 5400) (by first | exact Nat.le_refl _ | omega) (by first | exact Nat.le_refl _ | omega) ?_
        exact W.iret (v := (-14)) hx hb hr (fun t ht hW => ⟨⟨(-14), (L, f), rfl, ⟨⟨mt_pt τ, mt_mark τ, mt_mk τ, mt_al τ, mt_ls τ, hM⟩, hE⟩, show va_P D vwCl (va_pl _ _) t.heap from (by rw [ht]; exact hP)⟩, hS.F ht⟩) hS.2.2 dX5_choose_52
      · refine lv_aload hx hb dX5_choose_24 (lv_at hl 0 rfl) ?_
        refine lv_ifnull hx hb dX5_choose_26 ?_
        refine lv_aload hx hb dX5_choose_29 (lv_at hl 0 rfl) ?_
        refine pl_get (D := D) (ci := 5) (v := .int (mt_st τ za)) (C := RX4) (T := TX4) (N := 7) hx hb hts (by decide +kernel) hown hK.1 hP (hM.me (t_meti_lt hM htza)).1 (hM.me (t_meti_lt hM htza)).2.1 rfl 4 (by decide) (hts (.fieldLink RX5 101 "ChooseTreeModel$Met" "isStatic" "Z") (by decide +kernel)) (fun _ h9 => h9) rfl dX5_choose_31 ?_
        refine lv_if_ne (tgt := 50) hx hb dX5_choose_34 (by decide) (fun c_6 => ?_) (fun c_6 => ?_)
        · refine lv_bipush (v := (-14)) hx hb dX5_choose_50 (by decide) ?_
          refine W.widen (k := 60) (n := 5400) (by first | exact Nat.le_refl _ | omega) (by first | exact Nat.le_refl _ | omega) ?_
          exact W.iret (v := (-14)) hx hb hr (fun t ht hW => ⟨⟨(-14), (L, f), rfl, ⟨⟨mt_pt τ, mt_mark τ, mt_mk τ, mt_al τ, mt_ls τ, hM⟩, hE⟩, show va_P D vwCl (va_pl _ _) t.heap from (by rw [ht]; exact hP)⟩, hS.F ht⟩) hS.2.2 dX5_choose_52
        · refine lv_aload_n hx hb dX5_choose_37 rfl (lv_at hl 2 rfl) ?_
          refine lv_aload_n hx hb dX5_choose_38 rfl (lv_at hl 1 rfl) ?_
          refine lv_aload hx hb dX5_choose_39 (lv_at hl 0 rfl) ?_
          refine pl_get (D := D) (ci := 5) (v := .ref (mt_ca τ (mt_ow τ za))) (C := RX4) (T := TX4) (N := 7) hx hb hts (by decide +kernel) hown hK.1 hP (hM.me (t_meti_lt hM htza)).1 (hM.me (t_meti_lt hM htza)).2.1 rfl 3 (by decide) (hts (.fieldLink RX5 107 "ChooseTreeModel$Met" "owner" "LChooseTreeModel$Cls;") (by decide +kernel)) (fun _ h9 => h9) rfl dX5_choose_41 ?_
          have hzp := t_ati_lt hM htzp
          have hza := t_meti_lt hM htza
          have hoa : mt_ow τ za < mt_n τ := (hM.me hza).2.2
          have hszH : sz ≤ H.size := by have := hS.1; omega
          have hPold := hP
          refine va_calli (va_runV (As := [.ref (mt_ca τ zp), .ref (mt_ca τ (mt_ow τ za))]) (rest := []) ⟨hx, hb, hml, hown, hts⟩ (c_X5_lies l D cO mi e0 L f H.size hE.nd τ hM zp (mt_ow τ za) hzp hoa) (cwV 2 hts gX5_choose_X5_lies rfl rfl rfl (by decide +kernel) ⟨Nat.le_of_ble_eq_true rfl, Nat.le_of_ble_eq_true rfl⟩) (mW_V hK hJ hS (hE.sub (by have := hS.1; omega)) hP 6 rfl hM.x.1 hM.x.2) rfl rfl hl.1 rfl (lv_room (Nat.le_of_ble_eq_true rfl)) dX5_choose_44 ⟨Nat.le_of_ble_eq_true rfl, Nat.le_of_ble_eq_true rfl⟩) hS (fun q _ h => (hE.sub (by have := hS.1; omega)) q h) (hE.sub (by have := hS.1; omega)) (fun r_7 u t H1 locs ht hvm hw hB hz1 hk1 hS => ?_)
          obtain ⟨L7, f7⟩ := u
          obtain ⟨hw, hE1⟩ := hw
          replace hB : va_P D vwCl (va_pl L7 f7) t.heap := hB
          rw [ht] at hB
          replace hE : pext L sz L7 := hE.tr (hszH) hE1
          obtain ⟨hr1, hL1, hM2⟩ := hw
          replace hL1 : L = L7 := hL1.symm
          subst hL1
          obtain ⟨zb, hzb⟩ : ∃ z, r_7 = bI z := ⟨_, hr1⟩
          clear hr1
          subst hzb
          obtain ⟨mz, kz, hM⟩ : ∃ (m9 : Int32) (k9 : Nat → Int32), MI e0 cO L f7 (mt_mm τ m9 k9) := ⟨_, _, hM2⟩
          clear hM2
          clear hPold hP hk1 hz1 hvm ht hszH hE1
          have hP := hB
          clear hB
          generalize H1 = H at hP hS ⊢
          have hD : va_D (mA L sz) (va_pl L f7) := hE.D
          refine lv_if_ne (tgt := 53) hx hb dX5_choose_47 (by decide) (fun c_8 => ?_) (fun c_8 => ?_)
          · replace c_8 := bI_n0.mp c_8
            refine lv_aload hx hb dX5_choose_53 (lv_at hl 0 rfl) ?_
            refine pl_get (D := D) (ci := 5) (v := .int (mt_si τ za)) (C := RX4) (T := TX4) (N := 7) hx hb hts (by decide +kernel) hown hK.1 hP (hM.me hza).1 (hM.me hza).2.1 rfl 2 (by decide) (hts (.fieldLink RX5 104 "ChooseTreeModel$Met" "sight" "I") (by decide +kernel)) (fun _ h9 => h9) rfl dX5_choose_55 ?_
            refine lv_iconst (v := (nI 3)) hx hb dX5_choose_58 (by decide) ?_
            refine lv_icmp_ne (tgt := 64) hx hb dX5_choose_59 (by decide) (fun c_9 => ?_) (fun c_9 => ?_)
            · refine lv_aload_n hx hb dX5_choose_64 rfl (lv_at hl 1 rfl) ?_
              refine lv_astore (lv' := [(5, .ref (mt_ca τ zp)), (4, .ref (mt_ja τ za)), (3, .ref (mt_ca τ zp)), (0, .ref (mt_x τ)), (1, .int zx1), (2, .int zx2)]) hx hb dX5_choose_65 hl (by decide) rfl (fun ls hl => ?_)
              obtain ⟨zk, hzk⟩ : ∃ z, z = some zp := ⟨_, rfl⟩
              obtain ⟨zn, hzn⟩ : ∃ z : Nat, z = 60 := ⟨_, rfl⟩
              have hE9 : ∀ p, zk = some p → p < zn ∧ p < mt_n τ := fun p hp => by rw [hzk] at hp; have := Option.some.inj hp; omega
              replace hl : lv_has ls 7 [(5, va_rf (zk.map (mt_ca τ))), (4, .ref (mt_ja τ za)), (3, .ref (mt_ca τ zp)), (0, .ref (mt_x τ)), (1, .int zx1), (2, .int zx2)] := by rw [hzk]; exact lv_sub hl [0, 1, 2, 3, 4, 5] rfl
              clear hzk hzn
              revert hl
              revert hE9
              revert hS
              revert hP
              revert ls
              revert locs
              revert H
              revert zk
              induction zn with
              | zero =>
                intro zk H locs ls hP hS hE9 hl
                rcases zk with _ | zo
                · have hdm := hE9
                  refine lv_aloadN hx hb dX5_choose_67 (lv_at hl 0 rfl) ?_
                  refine lv_ifnullN (tgt := 135) hx hb dX5_choose_69 (by decide) ?_
                  refine lv_aload_n hx hb dX5_choose_135 rfl (lv_at hl 3 rfl) ?_
                  refine lv_aload_n hx hb dX5_choose_136 rfl (lv_at hl 2 rfl) ?_
                  refine lv_aload hx hb dX5_choose_137 (lv_at hl 1 rfl) ?_
                  refine pl_get (D := D) (ci := 5) (v := .int (mt_nm τ za)) (C := RX4) (T := TX4) (N := 7) hx hb hts (by decide +kernel) hown hK.1 hP (hM.me hza).1 (hM.me hza).2.1 rfl 1 (by decide) (hts (.fieldLink RX5 110 "ChooseTreeModel$Met" "name" "I") (by decide +kernel)) (fun _ h9 => h9) rfl dX5_choose_139 ?_
                  have hszH : sz ≤ H.size := by have := hS.1; omega
                  have hPold := hP
                  refine va_calli (va_runV (As := [.ref (mt_ca τ zp), .int (mt_nm τ za)]) (rest := []) ⟨hx, hb, hml, hown, hts⟩ (c_X5_single l D cO mi e0 L f7 H.size hE.nd (mt_mm τ mz kz) hM zp hzp (mt_nm τ za)) (cwV 2 hts gX5_choose_X5_single rfl rfl rfl (by decide +kernel) ⟨Nat.le_of_ble_eq_true rfl, Nat.le_of_ble_eq_true rfl⟩) (mW_V hK hJ hS (hE.sub (by have := hS.1; omega)) hP 6 rfl hM.x.1 hM.x.2) rfl rfl hl.1 rfl (lv_room (Nat.le_of_ble_eq_true rfl)) dX5_choose_142 ⟨Nat.le_of_ble_eq_true rfl, Nat.le_of_ble_eq_true rfl⟩) hS (fun q _ h => (hE.sub (by have := hS.1; omega)) q h) (hE.sub (by have := hS.1; omega)) (fun r_10 u t H1 locs ht hvm hw hB hz1 hk1 hS => ?_)
                  obtain ⟨L10, f10⟩ := u
                  obtain ⟨hw, hE1⟩ := hw
                  replace hB : va_P D vwCl (va_pl L10 f10) t.heap := hB
                  rw [ht] at hB
                  replace hE : pext L sz L10 := hE.tr (hszH) hE1
                  obtain ⟨-, p8, m8, k8, a8, l8, hM8, -, -⟩ := hw
                  replace hM8 : MI e0 cO L10 f10 (mt_f τ p8 m8 k8 a8 l8) := hM8
                  clear hPold hP hk1 hz1 hvm ht hszH hE1
                  have hP := hB
                  clear hB
                  generalize H1 = H at hP hS ⊢
                  have hD : va_D (mA L sz) (va_pl L10 f10) := hE.D
                  refine W.widen (k := 60) (n := 5400) (by first | exact Nat.le_refl _ | omega) (by first | exact Nat.le_refl _ | omega) ?_
                  exact W.iret (v := r_10) hx hb hr (fun t ht hW => ⟨⟨r_10, (L10, f10), rfl, ⟨⟨p8, m8, k8, a8, l8, hM8⟩, hE⟩, show va_P D vwCl (va_pl _ _) t.heap from (by rw [ht]; exact hP)⟩, hS.F ht⟩) hS.2.2 dX5_choose_145
                · exact absurd (hE9 zo rfl).1 (by omega)
              | succ zn ih =>
                intro zk H locs ls hP hS hE9 hl
                rcases zk with _ | zo
                · have hdm := hE9
                  refine lv_aloadN hx hb dX5_choose_67 (lv_at hl 0 rfl) ?_
                  refine lv_ifnullN (tgt := 135) hx hb dX5_choose_69 (by decide) ?_
                  refine lv_aload_n hx hb dX5_choose_135 rfl (lv_at hl 3 rfl) ?_
                  refine lv_aload_n hx hb dX5_choose_136 rfl (lv_at hl 2 rfl) ?_
                  refine lv_aload hx hb dX5_choose_137 (lv_at hl 1 rfl) ?_
                  refine pl_get (D := D) (ci := 5) (v := .int (mt_nm τ za)) (C := RX4) (T := TX4) (N := 7) hx hb hts (by decide +kernel) hown hK.1 hP (hM.me hza).1 (hM.me hza).2.1 rfl 1 (by decide) (hts (.fieldLink RX5 110 "ChooseTreeModel$Met" "name" "I") (by decide +kernel)) (fun _ h9 => h9) rfl dX5_choose_139 ?_
                  have hszH : sz ≤ H.size := by have := hS.1; omega
                  have hPold := hP
                  refine va_calli (va_runV (As := [.ref (mt_ca τ zp), .int (mt_nm τ za)]) (rest := []) ⟨hx, hb, hml, hown, hts⟩ (c_X5_single l D cO mi e0 L f7 H.size hE.nd (mt_mm τ mz kz) hM zp hzp (mt_nm τ za)) (cwV 2 hts gX5_choose_X5_single rfl rfl rfl (by decide +kernel) ⟨Nat.le_of_ble_eq_true rfl, Nat.le_of_ble_eq_true rfl⟩) (mW_V hK hJ hS (hE.sub (by have := hS.1; omega)) hP 6 rfl hM.x.1 hM.x.2) rfl rfl hl.1 rfl (lv_room (Nat.le_of_ble_eq_true rfl)) dX5_choose_142 ⟨Nat.le_of_ble_eq_true rfl, Nat.le_of_ble_eq_true rfl⟩) hS (fun q _ h => (hE.sub (by have := hS.1; omega)) q h) (hE.sub (by have := hS.1; omega)) (fun r_11 u t H1 locs ht hvm hw hB hz1 hk1 hS => ?_)
                  obtain ⟨L11, f11⟩ := u
                  obtain ⟨hw, hE1⟩ := hw
                  replace hB : va_P D vwCl (va_pl L11 f11) t.heap := hB
                  rw [ht] at hB
                  replace hE : pext L sz L11 := hE.tr (hszH) hE1
                  obtain ⟨-, p8, m8, k8, a8, l8, hM8, -, -⟩ := hw
                  replace hM8 : MI e0 cO L11 f11 (mt_f τ p8 m8 k8 a8 l8) := hM8
                  clear hPold hP hk1 hz1 hvm ht hszH hE1
                  have hP := hB
                  clear hB
                  generalize H1 = H at hP hS ⊢
                  have hD : va_D (mA L sz) (va_pl L11 f11) := hE.D
                  refine W.widen (k := 60) (n := 5400) (by first | exact Nat.le_refl _ | omega) (by first | exact Nat.le_refl _ | omega) ?_
                  exact W.iret (v := r_11) hx hb hr (fun t ht hW => ⟨⟨r_11, (L11, f11), rfl, ⟨⟨p8, m8, k8, a8, l8, hM8⟩, hE⟩, show va_P D vwCl (va_pl _ _) t.heap from (by rw [ht]; exact hP)⟩, hS.F ht⟩) hS.2.2 dX5_choose_145
                · obtain ⟨hpn, hzo⟩ := hE9 zo rfl
                  replace hl : lv_has ls 7 [(5, .ref (mt_ca τ zo)), (4, .ref (mt_ja τ za)), (3, .ref (mt_ca τ zp)), (0, .ref (mt_x τ)), (1, .int zx1), (2, .int zx2)] := hl
                  refine lv_aload hx hb dX5_choose_67 (lv_at hl 0 rfl) ?_
                  refine lv_ifnull hx hb dX5_choose_69 ?_
                  refine lv_aload hx hb dX5_choose_72 (lv_at hl 0 rfl) ?_
                  refine lv_aload hx hb dX5_choose_74 (lv_at hl 1 rfl) ?_
                  refine pl_get (D := D) (ci := 5) (v := .int (mt_nm τ za)) (C := RX4) (T := TX4) (N := 7) hx hb hts (by decide +kernel) hown hK.1 hP (hM.me hza).1 (hM.me hza).2.1 rfl 1 (by decide) (hts (.fieldLink RX5 110 "ChooseTreeModel$Met" "name" "I") (by decide +kernel)) (fun _ h9 => h9) rfl dX5_choose_76 ?_
                  refine va_callq (va_runV (As := [.int (mt_nm τ za)]) (rest := []) ⟨hx, hb, hml, hown, hts⟩ (c_X3_named l D cO mi L f7 e0 (mt_mm τ mz kz) hM zo hzo (mt_nm τ za)) (cwV 1 hts gX5_choose_X3_named rfl rfl rfl (by decide +kernel) ⟨Nat.le_of_ble_eq_true rfl, Nat.le_of_ble_eq_true rfl⟩) (mP_V hK hP 4 rfl (hM.cl hzo).1 (hM.cl hzo).2.1) rfl rfl hl.1 rfl (lv_room (Nat.le_of_ble_eq_true rfl)) dX5_choose_79 ⟨Nat.le_of_ble_eq_true rfl, Nat.le_of_ble_eq_true rfl⟩) hS (fun _ _ h => h.elim) (fun _ h => h.elim) (fun r_12 u t H1 locs ht hvm hw hB hz1 hk1 hS => ?_)
                  replace hP := ro_kept hP hk1
                  obtain rfl : r_12 = _ := hw
                  clear hk1 hz1 hvm ht hB
                  generalize H1 = H at hP hS ⊢
                  rcases htzjo : t_idx (mt_mm τ mz kz) zo (mt_nm τ za) with _ | zjo
                  · rw [show t_named (mt_mm τ mz kz) zo (mt_nm τ za) = none by simp only [t_named, htzjo]; rfl]
                    refine lv_astoreN (lv' := [(6, .null), (5, .ref (mt_ca τ zo)), (4, .ref (mt_ja τ za)), (3, .ref (mt_ca τ zp)), (0, .ref (mt_x τ)), (1, .int zx1), (2, .int zx2)]) hx hb dX5_choose_82 hl (by decide) rfl (fun ls hl => ?_)
                    refine lv_aloadN hx hb dX5_choose_84 (lv_at hl 0 rfl) ?_
                    refine lv_ifnullN (tgt := 125) hx hb dX5_choose_86 (by decide) ?_
                    refine lv_aload hx hb dX5_choose_125 (lv_at hl 1 rfl) ?_
                    refine pl_get (D := D) (ci := 4) (v := va_rf ((mt_pr τ zo).map (mt_ca τ))) (C := RX3) (T := TX3) (N := 9) hx hb hts (by decide +kernel) hown hK.1 hP (hM.cl hzo).1 (hM.cl hzo).2.1 rfl 2 (by decide) (hts (.fieldLink RX5 77 "ChooseTreeModel$Cls" "parent" "LChooseTreeModel$Cls;") (by decide +kernel)) (fun _ h9 => h9) rfl dX5_choose_127 ?_
                    refine lv_astoreR (lv' := [(5, va_rf ((mt_pr τ zo).map (mt_ca τ))), (6, .null), (4, .ref (mt_ja τ za)), (3, .ref (mt_ca τ zp)), (0, .ref (mt_x τ)), (1, .int zx1), (2, .int zx2)]) hx hb dX5_choose_130 hl (by decide) rfl (fun ls hl => ?_)
                    refine lv_goto (tgt := 67) hx hb dX5_choose_132 (by decide) ?_
                    exact ih (mt_pr τ zo) H locs ls hP hS (fun p hp => by have := (hM.cl hzo).2.2.1 p hp; omega) (lv_sub hl [0, 2, 3, 4, 5, 6] rfl)
                  · rw [show t_named (mt_mm τ mz kz) zo (mt_nm τ za) = some (mt_ja τ zjo) by simp only [t_named, htzjo]; rfl]
                    have hltzjo : zjo < mt_mn τ := t_idx_lt hM hzo htzjo
                    refine lv_astore (lv' := [(6, .ref (mt_ja τ zjo)), (5, .ref (mt_ca τ zo)), (4, .ref (mt_ja τ za)), (3, .ref (mt_ca τ zp)), (0, .ref (mt_x τ)), (1, .int zx1), (2, .int zx2)]) hx hb dX5_choose_82 hl (by decide) rfl (fun ls hl => ?_)
                    refine lv_aload hx hb dX5_choose_84 (lv_at hl 0 rfl) ?_
                    refine lv_ifnull hx hb dX5_choose_86 ?_
                    refine lv_aload hx hb dX5_choose_89 (lv_at hl 0 rfl) ?_
                    refine lv_aload hx hb dX5_choose_91 (lv_at hl 2 rfl) ?_
                    refine lv_acmp_eq (rx := (some (mt_ja τ zjo))) (ry := (some (mt_ja τ za))) (tgt := 106) hx hb dX5_choose_93 (by decide) (fun c_13 => ?_) (fun c_13 => ?_)
                    · refine lv_aload hx hb dX5_choose_106 (lv_at hl 0 rfl) ?_
                      refine pl_get (D := D) (ci := 5) (v := .int (mt_ab τ zjo)) (C := RX4) (T := TX4) (N := 7) hx hb hts (by decide +kernel) hown hK.1 hP (hM.me hltzjo).1 (hM.me hltzjo).2.1 rfl 6 (by decide) (hts (.fieldLink RX5 134 "ChooseTreeModel$Met" "isAbstract" "Z") (by decide +kernel)) (fun _ h9 => h9) rfl dX5_choose_108 ?_
                      refine lv_if_eq (tgt := 119) hx hb dX5_choose_111 (by decide) (fun c_14 => ?_) (fun c_14 => ?_)
                      · refine lv_aload hx hb dX5_choose_119 (lv_at hl 0 rfl) ?_
                        refine pl_get (D := D) (ci := 5) (v := .int (nI zjo)) (C := RX4) (T := TX4) (N := 7) hx hb hts (by decide +kernel) hown hK.1 hP (hM.me hltzjo).1 (hM.me hltzjo).2.1 rfl 0 (by decide) (hts (.fieldLink RX5 65 "ChooseTreeModel$Met" "number" "I") (by decide +kernel)) (fun _ h9 => h9) rfl dX5_choose_121 ?_
                        refine W.widen (k := 60) (n := 5400) (by first | exact Nat.le_refl _ | omega) (by first | exact Nat.le_refl _ | omega) ?_
                        exact W.iret (v := (nI zjo)) hx hb hr (fun t ht hW => ⟨⟨(nI zjo), (L, f7), rfl, ⟨⟨mt_pt τ, mz, kz, mt_al τ, mt_ls τ, hM⟩, hE⟩, show va_P D vwCl (va_pl _ _) t.heap from (by rw [ht]; exact hP)⟩, hS.F ht⟩) hS.2.2 dX5_choose_124
                      · refine lv_bipush (v := (-25)) hx hb dX5_choose_114 (by decide) ?_
                        refine lv_goto (tgt := 124) hx hb dX5_choose_116 (by decide) ?_
                        refine W.widen (k := 60) (n := 5400) (by first | exact Nat.le_refl _ | omega) (by first | exact Nat.le_refl _ | omega) ?_
                        exact W.iret (v := (-25)) hx hb hr (fun t ht hW => ⟨⟨(-25), (L, f7), rfl, ⟨⟨mt_pt τ, mz, kz, mt_al τ, mt_ls τ, hM⟩, hE⟩, show va_P D vwCl (va_pl _ _) t.heap from (by rw [ht]; exact hP)⟩, hS.F ht⟩) hS.2.2 dX5_choose_124
                    · refine lv_aload hx hb dX5_choose_96 (lv_at hl 0 rfl) ?_
                      refine lv_aload hx hb dX5_choose_98 (lv_at hl 2 rfl) ?_
                      refine va_calli (va_runS (As := [.ref (mt_ja τ zjo), .ref (mt_ja τ za)]) (rest := []) ⟨hx, hb, hml, hown, hts⟩ (c_X5_goesOver l D cO mi L f7 e0 (mt_mm τ mz kz) hM zjo za hltzjo hza) (va_cwS 2 hts gX5_choose_X5_goesOver rfl rfl rfl (by decide +kernel) ⟨Nat.le_of_ble_eq_true rfl, Nat.le_of_ble_eq_true rfl⟩) (mP_S hK hP) rfl rfl hl.1 rfl (lv_room (Nat.le_of_ble_eq_true rfl)) dX5_choose_100 ⟨Nat.le_of_ble_eq_true rfl, Nat.le_of_ble_eq_true rfl⟩) hS (fun _ _ h => h.elim) (fun _ h => h.elim) (fun r_15 u t H1 locs ht hvm hw hB hz1 hk1 hS => ?_)
                      replace hP := ro_kept hP hk1
                      obtain rfl : r_15 = _ := hw
                      clear hk1 hz1 hvm ht hB
                      generalize H1 = H at hP hS ⊢
                      refine lv_if_eq (tgt := 125) hx hb dX5_choose_103 (by decide) (fun c_16 => ?_) (fun c_16 => ?_)
                      · replace c_16 := bI_0.mp c_16
                        refine lv_aload hx hb dX5_choose_125 (lv_at hl 1 rfl) ?_
                        refine pl_get (D := D) (ci := 4) (v := va_rf ((mt_pr τ zo).map (mt_ca τ))) (C := RX3) (T := TX3) (N := 9) hx hb hts (by decide +kernel) hown hK.1 hP (hM.cl hzo).1 (hM.cl hzo).2.1 rfl 2 (by decide) (hts (.fieldLink RX5 77 "ChooseTreeModel$Cls" "parent" "LChooseTreeModel$Cls;") (by decide +kernel)) (fun _ h9 => h9) rfl dX5_choose_127 ?_
                        refine lv_astoreR (lv' := [(5, va_rf ((mt_pr τ zo).map (mt_ca τ))), (6, .ref (mt_ja τ zjo)), (4, .ref (mt_ja τ za)), (3, .ref (mt_ca τ zp)), (0, .ref (mt_x τ)), (1, .int zx1), (2, .int zx2)]) hx hb dX5_choose_130 hl (by decide) rfl (fun ls hl => ?_)
                        refine lv_goto (tgt := 67) hx hb dX5_choose_132 (by decide) ?_
                        exact ih (mt_pr τ zo) H locs ls hP hS (fun p hp => by have := (hM.cl hzo).2.2.1 p hp; omega) (lv_sub hl [0, 2, 3, 4, 5, 6] rfl)
                      · replace c_16 := bI_n0.mp c_16
                        refine lv_aload hx hb dX5_choose_106 (lv_at hl 0 rfl) ?_
                        refine pl_get (D := D) (ci := 5) (v := .int (mt_ab τ zjo)) (C := RX4) (T := TX4) (N := 7) hx hb hts (by decide +kernel) hown hK.1 hP (hM.me hltzjo).1 (hM.me hltzjo).2.1 rfl 6 (by decide) (hts (.fieldLink RX5 134 "ChooseTreeModel$Met" "isAbstract" "Z") (by decide +kernel)) (fun _ h9 => h9) rfl dX5_choose_108 ?_
                        refine lv_if_eq (tgt := 119) hx hb dX5_choose_111 (by decide) (fun c_17 => ?_) (fun c_17 => ?_)
                        · refine lv_aload hx hb dX5_choose_119 (lv_at hl 0 rfl) ?_
                          refine pl_get (D := D) (ci := 5) (v := .int (nI zjo)) (C := RX4) (T := TX4) (N := 7) hx hb hts (by decide +kernel) hown hK.1 hP (hM.me hltzjo).1 (hM.me hltzjo).2.1 rfl 0 (by decide) (hts (.fieldLink RX5 65 "ChooseTreeModel$Met" "number" "I") (by decide +kernel)) (fun _ h9 => h9) rfl dX5_choose_121 ?_
                          refine W.widen (k := 60) (n := 5400) (by first | exact Nat.le_refl _ | omega) (by first | exact Nat.le_refl _ | omega) ?_
                          exact W.iret (v := (nI zjo)) hx hb hr (fun t ht hW => ⟨⟨(nI zjo), (L, f7), rfl, ⟨⟨mt_pt τ, mz, kz, mt_al τ, mt_ls τ, hM⟩, hE⟩, show va_P D vwCl (va_pl _ _) t.heap from (by rw [ht]; exact hP)⟩, hS.F ht⟩) hS.2.2 dX5_choose_124
                        · refine lv_bipush (v := (-25)) hx hb dX5_choose_114 (by decide) ?_
                          refine lv_goto (tgt := 124) hx hb dX5_choose_116 (by decide) ?_
                          refine W.widen (k := 60) (n := 5400) (by first | exact Nat.le_refl _ | omega) (by first | exact Nat.le_refl _ | omega) ?_
                          exact W.iret (v := (-25)) hx hb hr (fun t ht hW => ⟨⟨(-25), (L, f7), rfl, ⟨⟨mt_pt τ, mz, kz, mt_al τ, mt_ls τ, hM⟩, hE⟩, show va_P D vwCl (va_pl _ _) t.heap from (by rw [ht]; exact hP)⟩, hS.F ht⟩) hS.2.2 dX5_choose_124
            · refine lv_iload_n hx hb dX5_choose_62 rfl (lv_at hl 4 rfl) ?_
              refine W.widen (k := 60) (n := 5400) (by first | exact Nat.le_refl _ | omega) (by first | exact Nat.le_refl _ | omega) ?_
              exact W.iret (v := zx2) hx hb hr (fun t ht hW => ⟨⟨zx2, (L, f7), rfl, ⟨⟨mt_pt τ, mz, kz, mt_al τ, mt_ls τ, hM⟩, hE⟩, show va_P D vwCl (va_pl _ _) t.heap from (by rw [ht]; exact hP)⟩, hS.F ht⟩) hS.2.2 dX5_choose_63
          · replace c_8 := bI_0.mp c_8
            refine lv_bipush (v := (-14)) hx hb dX5_choose_50 (by decide) ?_
            refine W.widen (k := 60) (n := 5400) (by first | exact Nat.le_refl _ | omega) (by first | exact Nat.le_refl _ | omega) ?_
            exact W.iret (v := (-14)) hx hb hr (fun t ht hW => ⟨⟨(-14), (L, f7), rfl, ⟨⟨mt_pt τ, mz, kz, mt_al τ, mt_ls τ, hM⟩, hE⟩, show va_P D vwCl (va_pl _ _) t.heap from (by rw [ht]; exact hP)⟩, hS.F ht⟩) hS.2.2 dX5_choose_52
