set_option maxHeartbeats 4000000 in
set_option maxRecDepth 100000 in
theorem c_X5_kin (l : Launch) (D : va_G) (cO : ClassId) (mi e0 : Nat) (L : List Nat) (f : Nat → va_E) (sz : Nat) (hnd : L.Nodup) (τ : MT) (hM : MI e0 cO L f τ) (zx1 : Int32) : Met l yX5_kin wsX5_kin { frames := 67, cells := 0, slots := 0, locals := 1548 } (mW D cO mi e0 L f sz [.ref (mt_x τ), .int zx1]) (wQi D L sz (fun r u => u.1 = L ∧ (∃ (m9 : Int32) (k9 : Nat → Int32), MI e0 cO L u.2 (mt_mm τ m9 k9)))) 0 0 (mA L sz) := by
  refine Met.ofW (cc := cX5_kin) (maxL := 6) (ret := (some .int)) (by decide) rfl ?_
  intro p e s m args below meth cq s₁ B hml hv
  obtain ⟨rfl, hsz, hP, hK, hJ⟩ := hv
  have hx := B.exec
  have hb := B.bytes
  have hr := B.returns
  have hts := atoms_spec (ws := wsX5_kin) B.pre
  have hown : s.vm.findClass RX5 = some m.cls := findClass_of_methodNamed B.named
  have hlocks := B.notSynchronized
  have hin := (name_of_methodNamed B.named B.method).1
  clear B
  have hl := lv_entry ([.ref (mt_x τ), .int zx1]) (n := 6) (Nat.le_of_ble_eq_true rfl)
  rw [lg_entry_eq]
  generalize (lg_sl ([.ref (mt_x τ), .int zx1]) ++ List.replicate (6 - (lg_sl ([.ref (mt_x τ), .int zx1])).length) Slot.unset).toArray = ls at hl ⊢
  replace hl : lv_has ls 6 [(0, .ref (mt_x τ)), (1, .int zx1)] := hl
  have hA : ∀ q : Nat, s.heap.size ≤ q → mA L sz q := fun q h => Or.inr (by omega)
  have hE : pext L sz L := pext.rf hnd
  have hD : va_D (mA L sz) (va_pl L f) := hE.D
  refine gen_start (A := mA L sz) (fun H locs hP hS => ?_) hP
  have hMb : 1 ≤ mt_n τ ∧ mt_n τ ≤ 60 ∧ mt_mn τ ≤ 400 := hM.b
  refine lv_aload_n hx hb dX5_kin_0 rfl (lv_at hl 0 rfl) ?_
  refine lv_iload_n hx hb dX5_kin_1 rfl (lv_at hl 1 rfl) ?_
  refine va_callq (va_runV (As := [.int zx1]) (rest := []) ⟨hx, hb, hml, hown, hts⟩ (c_X5_met l D cO mi L f e0 τ hM zx1) (cwV 1 hts gX5_kin_X5_met rfl rfl rfl (by decide +kernel) ⟨Nat.le_of_ble_eq_true rfl, Nat.le_of_ble_eq_true rfl⟩) (mP_V hK hP 6 rfl hM.x.1 hM.x.2) rfl rfl hl.1 rfl (lv_room (Nat.le_of_ble_eq_true rfl)) dX5_kin_2 ⟨Nat.le_of_ble_eq_true rfl, Nat.le_of_ble_eq_true rfl⟩) hS (fun _ _ h => h.elim) (fun _ h => h.elim) (fun r_1 u t H1 locs ht hvm hw hB hz1 hk1 hS => ?_)
  replace hP := ro_kept hP hk1
  obtain rfl : r_1 = _ := hw
  clear hk1 hz1 hvm ht hB
  generalize H1 = H at hP hS ⊢
  rcases htza : t_meti τ zx1 with _ | za
  · rw [show t_met τ zx1 = none by simp [t_met, htza]]
    refine lv_astore_nN (lv' := [(2, .null), (0, .ref (mt_x τ)), (1, .int zx1)]) hx hb dX5_kin_5 rfl hl (by decide) rfl (fun ls hl => ?_)
    refine lv_aload_nN hx hb dX5_kin_6 rfl (lv_at hl 0 rfl) ?_
    refine lv_ifnonnullN hx hb dX5_kin_7 ?_
    refine lv_iconst (v := (-1)) hx hb dX5_kin_10 (by decide) ?_
    refine W.widen (k := 0) (n := 0) (by first | exact Nat.le_refl _ | omega) (by first | exact Nat.le_refl _ | omega) ?_
    exact W.iret (v := (-1)) hx hb hr (fun t ht hW => ⟨⟨(-1), (L, f), rfl, ⟨⟨rfl, _, _, (show MI e0 cO L f (mt_mm τ (mt_mark τ) (mt_mk τ)) from hM)⟩, hE⟩, show va_P D vwCl (va_pl _ _) t.heap from (by rw [ht]; exact hP)⟩, hS.F ht⟩) hS.2.2 dX5_kin_11
  · rw [show t_met τ zx1 = some (mt_ja τ za) by simp [t_met, htza]]
    refine lv_astore_n (lv' := [(2, .ref (mt_ja τ za)), (0, .ref (mt_x τ)), (1, .int zx1)]) hx hb dX5_kin_5 rfl hl (by decide) rfl (fun ls hl => ?_)
    refine lv_aload_n hx hb dX5_kin_6 rfl (lv_at hl 0 rfl) ?_
    refine lv_ifnonnull (tgt := 12) hx hb dX5_kin_7 (by decide) ?_
    refine lv_iconst (v := (nI 0)) hx hb dX5_kin_12 (by decide) ?_
    refine lv_istore_n (lv' := [(3, .int (nI 0)), (2, .ref (mt_ja τ za)), (0, .ref (mt_x τ)), (1, .int zx1)]) hx hb dX5_kin_13 rfl hl (by decide) rfl (fun ls hl => ?_)
    refine lv_iconst (v := (nI 0)) hx hb dX5_kin_14 (by decide) ?_
    refine lv_istore (lv' := [(4, .int (nI 0)), (3, .int (nI 0)), (2, .ref (mt_ja τ za)), (0, .ref (mt_x τ)), (1, .int zx1)]) hx hb dX5_kin_15 hl (by decide) rfl (fun ls hl => ?_)
    have hza := t_meti_lt hM htza
    have hoa : mt_ow τ za < mt_n τ := (hM.me hza).2.2
    have hMl : mt_cnt τ (mt_m τ) = mt_mn τ ∧ ∀ j, j < mt_mn τ → mt_con τ (mt_m τ) j = mt_ja τ j := hM.ms
    have hMo : ∀ j, j < mt_mn τ → mt_ow τ j < mt_n τ := fun j hj => (hM.me hj).2.2
    obtain ⟨mz, hmz⟩ : ∃ z, z = mt_mark τ := ⟨_, rfl⟩
    obtain ⟨kz, hkz⟩ : ∃ z, z = mt_mk τ := ⟨_, rfl⟩
    obtain ⟨fz, hfz⟩ : ∃ z, z = f := ⟨_, rfl⟩
    replace hM : MI e0 cO L fz (mt_mm τ mz kz) := by rw [hfz, hmz, hkz]; exact hM
    rw [← hfz] at hP
    clear hmz hkz hfz
    obtain ⟨zn, hzn⟩ : ∃ z : Nat, z = mt_mn τ := ⟨_, rfl⟩
    obtain ⟨zj, hzj⟩ : ∃ z : Nat, z = 0 := ⟨_, rfl⟩
    obtain ⟨zq, hzq⟩ : ∃ z : Int32, z = nI 0 := ⟨_, rfl⟩
    have hE9 : zj + zn = mt_mn τ := by omega
    replace hl : lv_has ls 6 [(4, .int (nI zj)), (3, .int zq), (2, .ref (mt_ja τ za)), (0, .ref (mt_x τ)), (1, .int zx1)] := by rw [hzj, hzq]; exact lv_sub hl [0, 1, 2, 3, 4] rfl
    clear hzn hzj hzq hD
    revert hl
    revert hE9
    revert hM
    revert hS
    revert hP
    revert ls
    revert locs
    revert H
    revert kz
    revert mz
    revert fz
    revert zq
    revert zj
    induction zn with
    | zero =>
      intro zj zq fz mz kz H locs ls hP hS hM hE9 hl
      have hD : va_D (mA L sz) (va_pl L fz) := hE.D
      refine lv_iload hx hb dX5_kin_17 (lv_at hl 0 rfl) ?_
      refine lv_aload_n hx hb dX5_kin_19 rfl (lv_at hl 3 rfl) ?_
      refine pl_get (D := D) (ci := 6) (v := .ref (mt_m τ)) (C := RX5) (T := TX5) (N := 3) hx hb hts (by decide +kernel) hown hK.1 hP hM.x.1 hM.x.2 rfl 1 (by decide) (hts (.fieldLink RX5 16 "ChooseTreeModel" "methods" "Ljava/util/ArrayList;") (by decide +kernel)) (fun _ h9 => h9) rfl dX5_kin_20 ?_
      obtain ⟨mcz2, gz2, hfz2, hgz2, hcz2⟩ := hM.ly.raw (b := (mt_m τ)) hM.m.1 hM.m.2
      refine va_calli (va_runV (As := []) (rest := [.int (nI zj)]) ⟨hx, hb, hml, hown, hts⟩ (c_Jx4a65c_size_8abf5 l D cO mi L fz (mt_m τ) hM.m.1 mcz2 (ls_dat (mt_ls τ) (mt_m τ)) (mt_cnt τ (mt_m τ)) hfz2) (cwV 0 hts gX5_kin_Jx4a65c_size_8abf5 rfl rfl rfl (by decide +kernel) ⟨Nat.le_of_ble_eq_true rfl, Nat.le_of_ble_eq_true rfl⟩) (mP_V hK hP 0 rfl hM.m.1 hfz2) rfl rfl hl.1 rfl (lv_room (Nat.le_of_ble_eq_true rfl)) dX5_kin_23 ⟨Nat.le_of_ble_eq_true rfl, Nat.le_of_ble_eq_true rfl⟩) hS (fun _ _ h => h.elim) (fun _ h => h.elim) (fun r_3 u t H1 locs ht hvm hw hB hz1 hk1 hS => ?_)
      replace hP := ro_kept hP hk1
      obtain rfl : r_3 = _ := hw
      clear hk1 hz1 hvm ht hB
      generalize H1 = H at hP hS ⊢
      rw [show (mt_cnt τ (mt_m τ)) = mt_mn τ from hMl.1]
      clear hcz2 hgz2
      refine lv_icmp_ge (tgt := 126) hx hb dX5_kin_26 (by decide) (fun c_4 => ?_) (fun c_4 => ?_)
      · refine lv_iload_n hx hb dX5_kin_126 rfl (lv_at hl 1 rfl) ?_
        refine W.widen (k := 0) (n := 0) (by first | exact Nat.le_refl _ | omega) (by first | exact Nat.le_refl _ | omega) ?_
        exact W.iret (v := zq) hx hb hr (fun t ht hW => ⟨⟨zq, (L, fz), rfl, ⟨⟨rfl, _, _, hM⟩, hE⟩, show va_P D vwCl (va_pl _ _) t.heap from (by rw [ht]; exact hP)⟩, hS.F ht⟩) hS.2.2 dX5_kin_127
      · exact absurd (nI_le (by omega) (by omega)) c_4
    | succ zn ih =>
      intro zj zq fz mz kz H locs ls hP hS hM hE9 hl
      have hD : va_D (mA L sz) (va_pl L fz) := hE.D
      have hjt : zj < mt_mn τ := by omega
      have hoj := hMo zj hjt
      refine lv_iload hx hb dX5_kin_17 (lv_at hl 0 rfl) ?_
      refine lv_aload_n hx hb dX5_kin_19 rfl (lv_at hl 3 rfl) ?_
      refine pl_get (D := D) (ci := 6) (v := .ref (mt_m τ)) (C := RX5) (T := TX5) (N := 3) hx hb hts (by decide +kernel) hown hK.1 hP hM.x.1 hM.x.2 rfl 1 (by decide) (hts (.fieldLink RX5 16 "ChooseTreeModel" "methods" "Ljava/util/ArrayList;") (by decide +kernel)) (fun _ h9 => h9) rfl dX5_kin_20 ?_
      obtain ⟨mcz5, gz5, hfz5, hgz5, hcz5⟩ := hM.ly.raw (b := (mt_m τ)) hM.m.1 hM.m.2
      refine va_calli (va_runV (As := []) (rest := [.int (nI zj)]) ⟨hx, hb, hml, hown, hts⟩ (c_Jx4a65c_size_8abf5 l D cO mi L fz (mt_m τ) hM.m.1 mcz5 (ls_dat (mt_ls τ) (mt_m τ)) (mt_cnt τ (mt_m τ)) hfz5) (cwV 0 hts gX5_kin_Jx4a65c_size_8abf5 rfl rfl rfl (by decide +kernel) ⟨Nat.le_of_ble_eq_true rfl, Nat.le_of_ble_eq_true rfl⟩) (mP_V hK hP 0 rfl hM.m.1 hfz5) rfl rfl hl.1 rfl (lv_room (Nat.le_of_ble_eq_true rfl)) dX5_kin_23 ⟨Nat.le_of_ble_eq_true rfl, Nat.le_of_ble_eq_true rfl⟩) hS (fun _ _ h => h.elim) (fun _ h => h.elim) (fun r_6 u t H1 locs ht hvm hw hB hz1 hk1 hS => ?_)
      replace hP := ro_kept hP hk1
      obtain rfl : r_6 = _ := hw
      clear hk1 hz1 hvm ht hB
      generalize H1 = H at hP hS ⊢
      rw [show (mt_cnt τ (mt_m τ)) = mt_mn τ from hMl.1]
      clear hcz5 hgz5
      refine lv_icmp_ge (tgt := 126) hx hb dX5_kin_26 (by decide) (fun c_7 => ?_) (fun c_7 => ?_)
      · exact absurd c_7 (nI_ge (by omega) (by omega))
      · refine lv_aload_n hx hb dX5_kin_29 rfl (lv_at hl 3 rfl) ?_
        refine pl_get (D := D) (ci := 6) (v := .ref (mt_m τ)) (C := RX5) (T := TX5) (N := 3) hx hb hts (by decide +kernel) hown hK.1 hP hM.x.1 hM.x.2 rfl 1 (by decide) (hts (.fieldLink RX5 16 "ChooseTreeModel" "methods" "Ljava/util/ArrayList;") (by decide +kernel)) (fun _ h9 => h9) rfl dX5_kin_30 ?_
        refine lv_iload hx hb dX5_kin_33 (lv_at hl 0 rfl) ?_
        obtain ⟨mcz8, gz8, hfz8, hdz8, hfdz8, hcnz8, hcpz8, hgiz8⟩ := hM.ly.get (b := (mt_m τ)) (i := zj) hM.m.1 hM.m.2 (show zj < (mt_cnt τ (mt_m τ)) from by rw [hMl.1]; exact hjt)
        replace hgiz8 : gz8 zj = some (mt_ja τ zj) := hgiz8.trans (congrArg some (hMl.2 zj hjt))
        refine va_callq (va_runV (As := [.int (nI zj)]) (rest := []) ⟨hx, hb, hml, hown, hts⟩ (c_Jx4a65c_get_915e3 l D cO mi L fz (mt_m τ) hM.m.1 mcz8 (ls_dat (mt_ls τ) (mt_m τ)) (mt_cnt τ (mt_m τ)) hfz8 hdz8 (ls_cap (mt_ls τ) (mt_m τ)) gz8 hfdz8 hcnz8 hcpz8 zj (show zj < (mt_cnt τ (mt_m τ)) from by rw [hMl.1]; exact hjt)) (cwV 1 hts gX5_kin_Jx4a65c_get_915e3 rfl rfl rfl (by decide +kernel) ⟨Nat.le_of_ble_eq_true rfl, Nat.le_of_ble_eq_true rfl⟩) (mP_V hK hP 0 rfl hM.m.1 hfz8) rfl rfl hl.1 rfl (lv_room (Nat.le_of_ble_eq_true rfl)) dX5_kin_35 ⟨Nat.le_of_ble_eq_true rfl, Nat.le_of_ble_eq_true rfl⟩) hS (fun _ _ h => h.elim) (fun _ h => h.elim) (fun r_9 u t H1 locs ht hvm hw hB hz1 hk1 hS => ?_)
        replace hP := ro_kept hP hk1
        obtain rfl : r_9 = _ := hw
        clear hk1 hz1 hvm ht hB
        generalize H1 = H at hP hS ⊢
        rw [hgiz8]
        clear hgiz8 hfdz8 hdz8 hcnz8 hcpz8
        refine va_castY (C := RX4) hx hb hown (hts (.classLink RX5 36 RX4) (by decide +kernel)) hK.2.2.2.2.2.2.2 (pl_recv (ci := 5) hK.1 hP rfl (hM.me hjt).1 (hM.me hjt).2.1) dX5_kin_38 ?_
        refine lv_astore (lv' := [(5, .ref (mt_ja τ zj)), (4, .int (nI zj)), (3, .int zq), (2, .ref (mt_ja τ za)), (0, .ref (mt_x τ)), (1, .int zx1)]) hx hb dX5_kin_41 hl (by decide) rfl (fun ls hl => ?_)
        refine lv_aload hx hb dX5_kin_43 (lv_at hl 0 rfl) ?_
        refine lv_aload_n hx hb dX5_kin_45 rfl (lv_at hl 3 rfl) ?_
        refine lv_acmp_eq (rx := (some (mt_ja τ zj))) (ry := (some (mt_ja τ za))) (tgt := 120) hx hb dX5_kin_46 (by decide) (fun c_10 => ?_) (fun c_10 => ?_)
        · refine lv_iinc (v := (nI (zj + 1))) (lv' := [(4, .int (nI (zj + 1))), (5, .ref (mt_ja τ zj)), (3, .int zq), (2, .ref (mt_ja τ za)), (0, .ref (mt_x τ)), (1, .int zx1)]) hx hb dX5_kin_120 hl (k := 1) rfl (nI_1 _) (by decide) rfl (fun ls hl => ?_)
          refine lv_goto (tgt := 17) hx hb dX5_kin_123 (by decide) ?_
          exact ih (zj + 1) zq fz mz kz H locs ls hP hS hM (by omega) (lv_sub hl [0, 2, 3, 4, 5] rfl)
        · refine lv_aload hx hb dX5_kin_49 (lv_at hl 0 rfl) ?_
          refine pl_get (D := D) (ci := 5) (v := .int (mt_nm τ zj)) (C := RX4) (T := TX4) (N := 7) hx hb hts (by decide +kernel) hown hK.1 hP (hM.me hjt).1 (hM.me hjt).2.1 rfl 1 (by decide) (hts (.fieldLink RX5 110 "ChooseTreeModel$Met" "name" "I") (by decide +kernel)) (fun _ h9 => h9) rfl dX5_kin_51 ?_
          refine lv_aload_n hx hb dX5_kin_54 rfl (lv_at hl 3 rfl) ?_
          refine pl_get (D := D) (ci := 5) (v := .int (mt_nm τ za)) (C := RX4) (T := TX4) (N := 7) hx hb hts (by decide +kernel) hown hK.1 hP (hM.me hza).1 (hM.me hza).2.1 rfl 1 (by decide) (hts (.fieldLink RX5 110 "ChooseTreeModel$Met" "name" "I") (by decide +kernel)) (fun _ h9 => h9) rfl dX5_kin_55 ?_
          refine lv_icmp_eq (tgt := 64) hx hb dX5_kin_58 (by decide) (fun c_11 => ?_) (fun c_11 => ?_)
          · refine lv_aload_n hx hb dX5_kin_64 rfl (lv_at hl 4 rfl) ?_
            refine lv_aload hx hb dX5_kin_65 (lv_at hl 0 rfl) ?_
            refine pl_get (D := D) (ci := 5) (v := .ref (mt_ca τ (mt_ow τ zj))) (C := RX4) (T := TX4) (N := 7) hx hb hts (by decide +kernel) hown hK.1 hP (hM.me hjt).1 (hM.me hjt).2.1 rfl 3 (by decide) (hts (.fieldLink RX5 107 "ChooseTreeModel$Met" "owner" "LChooseTreeModel$Cls;") (by decide +kernel)) (fun _ h9 => h9) rfl dX5_kin_67 ?_
            refine lv_aload_n hx hb dX5_kin_70 rfl (lv_at hl 3 rfl) ?_
            refine pl_get (D := D) (ci := 5) (v := .ref (mt_ca τ (mt_ow τ za))) (C := RX4) (T := TX4) (N := 7) hx hb hts (by decide +kernel) hown hK.1 hP (hM.me hza).1 (hM.me hza).2.1 rfl 3 (by decide) (hts (.fieldLink RX5 107 "ChooseTreeModel$Met" "owner" "LChooseTreeModel$Cls;") (by decide +kernel)) (fun _ h9 => h9) rfl dX5_kin_71 ?_
            have hszH : sz ≤ H.size := by have := hS.1; omega
            have hPold := hP
            refine va_calli (va_runV (As := [.ref (mt_ca τ (mt_ow τ zj)), .ref (mt_ca τ (mt_ow τ za))]) (rest := []) ⟨hx, hb, hml, hown, hts⟩ (c_X5_lies l D cO mi e0 L fz H.size hE.nd (mt_mm τ mz kz) hM (mt_ow τ zj) (mt_ow τ za) hoj hoa) (cwV 2 hts gX5_kin_X5_lies rfl rfl rfl (by decide +kernel) ⟨Nat.le_of_ble_eq_true rfl, Nat.le_of_ble_eq_true rfl⟩) (mW_V hK hJ hS (hE.sub (by have := hS.1; omega)) hP 6 rfl hM.x.1 hM.x.2) rfl rfl hl.1 rfl (lv_room (Nat.le_of_ble_eq_true rfl)) dX5_kin_74 ⟨Nat.le_refl _, Nat.le_refl _⟩) hS (fun q _ h => (hE.sub (by have := hS.1; omega)) q h) (hE.sub (by have := hS.1; omega)) (fun r_12 u t H1 locs ht hvm hw hB hz1 hk1 hS => ?_)
            obtain ⟨L12, f12⟩ := u
            obtain ⟨hw, hE1⟩ := hw
            replace hB : va_P D vwCl (va_pl L12 f12) t.heap := hB
            rw [ht] at hB
            replace hE : pext L sz L12 := hE.tr (hszH) hE1
            obtain ⟨hr1, hL1, hM2⟩ := hw
            replace hL1 : L = L12 := hL1.symm
            subst hL1
            obtain ⟨zb1, hzb1⟩ : ∃ z, r_12 = bI z := ⟨_, hr1⟩
            clear hr1
            subst hzb1
            obtain ⟨mz, kz, hM⟩ : ∃ (m9 : Int32) (k9 : Nat → Int32), MI e0 cO L f12 (mt_mm τ m9 k9) := ⟨_, _, hM2⟩
            clear hM2
            clear hPold hP hk1 hz1 hvm ht hszH hE1
            have hP := hB
            clear hB
            generalize H1 = H at hP hS ⊢
            have hD : va_D (mA L sz) (va_pl L f12) := hE.D
            refine lv_if_eq (tgt := 92) hx hb dX5_kin_77 (by decide) (fun c_13 => ?_) (fun c_13 => ?_)
            · replace c_13 := bI_0.mp c_13
              refine lv_aload_n hx hb dX5_kin_92 rfl (lv_at hl 4 rfl) ?_
              refine lv_aload_n hx hb dX5_kin_93 rfl (lv_at hl 3 rfl) ?_
              refine pl_get (D := D) (ci := 5) (v := .ref (mt_ca τ (mt_ow τ za))) (C := RX4) (T := TX4) (N := 7) hx hb hts (by decide +kernel) hown hK.1 hP (hM.me hza).1 (hM.me hza).2.1 rfl 3 (by decide) (hts (.fieldLink RX5 107 "ChooseTreeModel$Met" "owner" "LChooseTreeModel$Cls;") (by decide +kernel)) (fun _ h9 => h9) rfl dX5_kin_94 ?_
              refine lv_aload hx hb dX5_kin_97 (lv_at hl 0 rfl) ?_
              refine pl_get (D := D) (ci := 5) (v := .ref (mt_ca τ (mt_ow τ zj))) (C := RX4) (T := TX4) (N := 7) hx hb hts (by decide +kernel) hown hK.1 hP (hM.me hjt).1 (hM.me hjt).2.1 rfl 3 (by decide) (hts (.fieldLink RX5 107 "ChooseTreeModel$Met" "owner" "LChooseTreeModel$Cls;") (by decide +kernel)) (fun _ h9 => h9) rfl dX5_kin_99 ?_
              have hszH : sz ≤ H.size := by have := hS.1; omega
              have hPold := hP
              refine va_calli (va_runV (As := [.ref (mt_ca τ (mt_ow τ za)), .ref (mt_ca τ (mt_ow τ zj))]) (rest := []) ⟨hx, hb, hml, hown, hts⟩ (c_X5_lies l D cO mi e0 L f12 H.size hE.nd (mt_mm τ mz kz) hM (mt_ow τ za) (mt_ow τ zj) hoa hoj) (cwV 2 hts gX5_kin_X5_lies rfl rfl rfl (by decide +kernel) ⟨Nat.le_of_ble_eq_true rfl, Nat.le_of_ble_eq_true rfl⟩) (mW_V hK hJ hS (hE.sub (by have := hS.1; omega)) hP 6 rfl hM.x.1 hM.x.2) rfl rfl hl.1 rfl (lv_room (Nat.le_of_ble_eq_true rfl)) dX5_kin_102 ⟨Nat.le_refl _, Nat.le_refl _⟩) hS (fun q _ h => (hE.sub (by have := hS.1; omega)) q h) (hE.sub (by have := hS.1; omega)) (fun r_14 u t H1 locs ht hvm hw hB hz1 hk1 hS => ?_)
              obtain ⟨L14, f14⟩ := u
              obtain ⟨hw, hE1⟩ := hw
              replace hB : va_P D vwCl (va_pl L14 f14) t.heap := hB
              rw [ht] at hB
              replace hE : pext L sz L14 := hE.tr (hszH) hE1
              obtain ⟨hr1, hL1, hM2⟩ := hw
              replace hL1 : L = L14 := hL1.symm
              subst hL1
              obtain ⟨zb2, hzb2⟩ : ∃ z, r_14 = bI z := ⟨_, hr1⟩
              clear hr1
              subst hzb2
              obtain ⟨mz, kz, hM⟩ : ∃ (m9 : Int32) (k9 : Nat → Int32), MI e0 cO L f14 (mt_mm τ m9 k9) := ⟨_, _, hM2⟩
              clear hM2
              clear hPold hP hk1 hz1 hvm ht hszH hE1
              have hP := hB
              clear hB
              generalize H1 = H at hP hS ⊢
              have hD : va_D (mA L sz) (va_pl L f14) := hE.D
              refine lv_if_eq (tgt := 120) hx hb dX5_kin_105 (by decide) (fun c_15 => ?_) (fun c_15 => ?_)
              · replace c_15 := bI_0.mp c_15
                refine lv_iinc (v := (nI (zj + 1))) (lv' := [(4, .int (nI (zj + 1))), (5, .ref (mt_ja τ zj)), (3, .int zq), (2, .ref (mt_ja τ za)), (0, .ref (mt_x τ)), (1, .int zx1)]) hx hb dX5_kin_120 hl (k := 1) rfl (nI_1 _) (by decide) rfl (fun ls hl => ?_)
                refine lv_goto (tgt := 17) hx hb dX5_kin_123 (by decide) ?_
                exact ih (zj + 1) zq f14 mz kz H locs ls hP hS hM (by omega) (lv_sub hl [0, 2, 3, 4, 5] rfl)
              · replace c_15 := bI_n0.mp c_15
                refine lv_aload_n hx hb dX5_kin_108 rfl (lv_at hl 3 rfl) ?_
                refine lv_aload hx hb dX5_kin_109 (lv_at hl 0 rfl) ?_
                refine va_calli (va_runS (As := [.ref (mt_ja τ za), .ref (mt_ja τ zj)]) (rest := []) ⟨hx, hb, hml, hown, hts⟩ (c_X5_goesOver l D cO mi L f14 e0 (mt_mm τ mz kz) hM za zj hza hjt) (va_cwS 2 hts gX5_kin_X5_goesOver rfl rfl rfl (by decide +kernel) ⟨Nat.le_of_ble_eq_true rfl, Nat.le_of_ble_eq_true rfl⟩) (mP_S hK hP) rfl rfl hl.1 rfl (lv_room (Nat.le_of_ble_eq_true rfl)) dX5_kin_111 ⟨Nat.le_of_ble_eq_true rfl, Nat.le_of_ble_eq_true rfl⟩) hS (fun _ _ h => h.elim) (fun _ h => h.elim) (fun r_16 u t H1 locs ht hvm hw hB hz1 hk1 hS => ?_)
                replace hP := ro_kept hP hk1
                obtain rfl : r_16 = _ := hw
                clear hk1 hz1 hvm ht hB
                generalize H1 = H at hP hS ⊢
                refine lv_if_eq (tgt := 120) hx hb dX5_kin_114 (by decide) (fun c_17 => ?_) (fun c_17 => ?_)
                · replace c_17 := bI_0.mp c_17
                  refine lv_iinc (v := (nI (zj + 1))) (lv' := [(4, .int (nI (zj + 1))), (5, .ref (mt_ja τ zj)), (3, .int zq), (2, .ref (mt_ja τ za)), (0, .ref (mt_x τ)), (1, .int zx1)]) hx hb dX5_kin_120 hl (k := 1) rfl (nI_1 _) (by decide) rfl (fun ls hl => ?_)
                  refine lv_goto (tgt := 17) hx hb dX5_kin_123 (by decide) ?_
                  exact ih (zj + 1) zq f14 mz kz H locs ls hP hS hM (by omega) (lv_sub hl [0, 2, 3, 4, 5] rfl)
                · replace c_17 := bI_n0.mp c_17
                  refine lv_iinc (v := (zq + (1))) (lv' := [(3, .int (zq + (1))), (5, .ref (mt_ja τ zj)), (4, .int (nI zj)), (2, .ref (mt_ja τ za)), (0, .ref (mt_x τ)), (1, .int zx1)]) hx hb dX5_kin_117 hl (k := 2) rfl rfl (by decide) rfl (fun ls hl => ?_)
                  refine lv_iinc (v := (nI (zj + 1))) (lv' := [(4, .int (nI (zj + 1))), (3, .int (zq + (1))), (5, .ref (mt_ja τ zj)), (2, .ref (mt_ja τ za)), (0, .ref (mt_x τ)), (1, .int zx1)]) hx hb dX5_kin_120 hl (k := 2) rfl (nI_1 _) (by decide) rfl (fun ls hl => ?_)
                  refine lv_goto (tgt := 17) hx hb dX5_kin_123 (by decide) ?_
                  exact ih (zj + 1) (zq + (1)) f14 mz kz H locs ls hP hS hM (by omega) (lv_sub hl [0, 1, 3, 4, 5] rfl)
            · replace c_13 := bI_n0.mp c_13
              refine lv_aload hx hb dX5_kin_80 (lv_at hl 0 rfl) ?_
              refine lv_aload_n hx hb dX5_kin_82 rfl (lv_at hl 3 rfl) ?_
              refine va_calli (va_runS (As := [.ref (mt_ja τ zj), .ref (mt_ja τ za)]) (rest := []) ⟨hx, hb, hml, hown, hts⟩ (c_X5_goesOver l D cO mi L f12 e0 (mt_mm τ mz kz) hM zj za hjt hza) (va_cwS 2 hts gX5_kin_X5_goesOver rfl rfl rfl (by decide +kernel) ⟨Nat.le_of_ble_eq_true rfl, Nat.le_of_ble_eq_true rfl⟩) (mP_S hK hP) rfl rfl hl.1 rfl (lv_room (Nat.le_of_ble_eq_true rfl)) dX5_kin_83 ⟨Nat.le_of_ble_eq_true rfl, Nat.le_of_ble_eq_true rfl⟩) hS (fun _ _ h => h.elim) (fun _ h => h.elim) (fun r_18 u t H1 locs ht hvm hw hB hz1 hk1 hS => ?_)
              replace hP := ro_kept hP hk1
              obtain rfl : r_18 = _ := hw
              clear hk1 hz1 hvm ht hB
              generalize H1 = H at hP hS ⊢
              refine lv_if_eq (tgt := 92) hx hb dX5_kin_86 (by decide) (fun c_19 => ?_) (fun c_19 => ?_)
              · replace c_19 := bI_0.mp c_19
                refine lv_aload_n hx hb dX5_kin_92 rfl (lv_at hl 4 rfl) ?_
                refine lv_aload_n hx hb dX5_kin_93 rfl (lv_at hl 3 rfl) ?_
                refine pl_get (D := D) (ci := 5) (v := .ref (mt_ca τ (mt_ow τ za))) (C := RX4) (T := TX4) (N := 7) hx hb hts (by decide +kernel) hown hK.1 hP (hM.me hza).1 (hM.me hza).2.1 rfl 3 (by decide) (hts (.fieldLink RX5 107 "ChooseTreeModel$Met" "owner" "LChooseTreeModel$Cls;") (by decide +kernel)) (fun _ h9 => h9) rfl dX5_kin_94 ?_
                refine lv_aload hx hb dX5_kin_97 (lv_at hl 0 rfl) ?_
                refine pl_get (D := D) (ci := 5) (v := .ref (mt_ca τ (mt_ow τ zj))) (C := RX4) (T := TX4) (N := 7) hx hb hts (by decide +kernel) hown hK.1 hP (hM.me hjt).1 (hM.me hjt).2.1 rfl 3 (by decide) (hts (.fieldLink RX5 107 "ChooseTreeModel$Met" "owner" "LChooseTreeModel$Cls;") (by decide +kernel)) (fun _ h9 => h9) rfl dX5_kin_99 ?_
                have hszH : sz ≤ H.size := by have := hS.1; omega
                have hPold := hP
                refine va_calli (va_runV (As := [.ref (mt_ca τ (mt_ow τ za)), .ref (mt_ca τ (mt_ow τ zj))]) (rest := []) ⟨hx, hb, hml, hown, hts⟩ (c_X5_lies l D cO mi e0 L f12 H.size hE.nd (mt_mm τ mz kz) hM (mt_ow τ za) (mt_ow τ zj) hoa hoj) (cwV 2 hts gX5_kin_X5_lies rfl rfl rfl (by decide +kernel) ⟨Nat.le_of_ble_eq_true rfl, Nat.le_of_ble_eq_true rfl⟩) (mW_V hK hJ hS (hE.sub (by have := hS.1; omega)) hP 6 rfl hM.x.1 hM.x.2) rfl rfl hl.1 rfl (lv_room (Nat.le_of_ble_eq_true rfl)) dX5_kin_102 ⟨Nat.le_refl _, Nat.le_refl _⟩) hS (fun q _ h => (hE.sub (by have := hS.1; omega)) q h) (hE.sub (by have := hS.1; omega)) (fun r_20 u t H1 locs ht hvm hw hB hz1 hk1 hS => ?_)
                obtain ⟨L20, f20⟩ := u
                obtain ⟨hw, hE1⟩ := hw
                replace hB : va_P D vwCl (va_pl L20 f20) t.heap := hB
                rw [ht] at hB
                replace hE : pext L sz L20 := hE.tr (hszH) hE1
                obtain ⟨hr1, hL1, hM2⟩ := hw
                replace hL1 : L = L20 := hL1.symm
                subst hL1
                obtain ⟨zb2, hzb2⟩ : ∃ z, r_20 = bI z := ⟨_, hr1⟩
                clear hr1
                subst hzb2
                obtain ⟨mz, kz, hM⟩ : ∃ (m9 : Int32) (k9 : Nat → Int32), MI e0 cO L f20 (mt_mm τ m9 k9) := ⟨_, _, hM2⟩
                clear hM2
                clear hPold hP hk1 hz1 hvm ht hszH hE1
                have hP := hB
                clear hB
                generalize H1 = H at hP hS ⊢
                have hD : va_D (mA L sz) (va_pl L f20) := hE.D
                refine lv_if_eq (tgt := 120) hx hb dX5_kin_105 (by decide) (fun c_21 => ?_) (fun c_21 => ?_)
                · replace c_21 := bI_0.mp c_21
                  refine lv_iinc (v := (nI (zj + 1))) (lv' := [(4, .int (nI (zj + 1))), (5, .ref (mt_ja τ zj)), (3, .int zq), (2, .ref (mt_ja τ za)), (0, .ref (mt_x τ)), (1, .int zx1)]) hx hb dX5_kin_120 hl (k := 1) rfl (nI_1 _) (by decide) rfl (fun ls hl => ?_)
                  refine lv_goto (tgt := 17) hx hb dX5_kin_123 (by decide) ?_
                  exact ih (zj + 1) zq f20 mz kz H locs ls hP hS hM (by omega) (lv_sub hl [0, 2, 3, 4, 5] rfl)
                · replace c_21 := bI_n0.mp c_21
                  refine lv_aload_n hx hb dX5_kin_108 rfl (lv_at hl 3 rfl) ?_
                  refine lv_aload hx hb dX5_kin_109 (lv_at hl 0 rfl) ?_
                  refine va_calli (va_runS (As := [.ref (mt_ja τ za), .ref (mt_ja τ zj)]) (rest := []) ⟨hx, hb, hml, hown, hts⟩ (c_X5_goesOver l D cO mi L f20 e0 (mt_mm τ mz kz) hM za zj hza hjt) (va_cwS 2 hts gX5_kin_X5_goesOver rfl rfl rfl (by decide +kernel) ⟨Nat.le_of_ble_eq_true rfl, Nat.le_of_ble_eq_true rfl⟩) (mP_S hK hP) rfl rfl hl.1 rfl (lv_room (Nat.le_of_ble_eq_true rfl)) dX5_kin_111 ⟨Nat.le_of_ble_eq_true rfl, Nat.le_of_ble_eq_true rfl⟩) hS (fun _ _ h => h.elim) (fun _ h => h.elim) (fun r_22 u t H1 locs ht hvm hw hB hz1 hk1 hS => ?_)
                  replace hP := ro_kept hP hk1
                  obtain rfl : r_22 = _ := hw
                  clear hk1 hz1 hvm ht hB
                  generalize H1 = H at hP hS ⊢
                  refine lv_if_eq (tgt := 120) hx hb dX5_kin_114 (by decide) (fun c_23 => ?_) (fun c_23 => ?_)
                  · replace c_23 := bI_0.mp c_23
                    refine lv_iinc (v := (nI (zj + 1))) (lv' := [(4, .int (nI (zj + 1))), (5, .ref (mt_ja τ zj)), (3, .int zq), (2, .ref (mt_ja τ za)), (0, .ref (mt_x τ)), (1, .int zx1)]) hx hb dX5_kin_120 hl (k := 1) rfl (nI_1 _) (by decide) rfl (fun ls hl => ?_)
                    refine lv_goto (tgt := 17) hx hb dX5_kin_123 (by decide) ?_
                    exact ih (zj + 1) zq f20 mz kz H locs ls hP hS hM (by omega) (lv_sub hl [0, 2, 3, 4, 5] rfl)
                  · replace c_23 := bI_n0.mp c_23
                    refine lv_iinc (v := (zq + (1))) (lv' := [(3, .int (zq + (1))), (5, .ref (mt_ja τ zj)), (4, .int (nI zj)), (2, .ref (mt_ja τ za)), (0, .ref (mt_x τ)), (1, .int zx1)]) hx hb dX5_kin_117 hl (k := 2) rfl rfl (by decide) rfl (fun ls hl => ?_)
                    refine lv_iinc (v := (nI (zj + 1))) (lv' := [(4, .int (nI (zj + 1))), (3, .int (zq + (1))), (5, .ref (mt_ja τ zj)), (2, .ref (mt_ja τ za)), (0, .ref (mt_x τ)), (1, .int zx1)]) hx hb dX5_kin_120 hl (k := 2) rfl (nI_1 _) (by decide) rfl (fun ls hl => ?_)
                    refine lv_goto (tgt := 17) hx hb dX5_kin_123 (by decide) ?_
                    exact ih (zj + 1) (zq + (1)) f20 mz kz H locs ls hP hS hM (by omega) (lv_sub hl [0, 1, 3, 4, 5] rfl)
              · replace c_19 := bI_n0.mp c_19
                refine lv_iinc (v := (zq + (1))) (lv' := [(3, .int (zq + (1))), (5, .ref (mt_ja τ zj)), (4, .int (nI zj)), (2, .ref (mt_ja τ za)), (0, .ref (mt_x τ)), (1, .int zx1)]) hx hb dX5_kin_89 hl (k := 2) rfl rfl (by decide) rfl (fun ls hl => ?_)
                refine lv_aload_n hx hb dX5_kin_92 rfl (lv_at hl 4 rfl) ?_
                refine lv_aload_n hx hb dX5_kin_93 rfl (lv_at hl 3 rfl) ?_
                refine pl_get (D := D) (ci := 5) (v := .ref (mt_ca τ (mt_ow τ za))) (C := RX4) (T := TX4) (N := 7) hx hb hts (by decide +kernel) hown hK.1 hP (hM.me hza).1 (hM.me hza).2.1 rfl 3 (by decide) (hts (.fieldLink RX5 107 "ChooseTreeModel$Met" "owner" "LChooseTreeModel$Cls;") (by decide +kernel)) (fun _ h9 => h9) rfl dX5_kin_94 ?_
                refine lv_aload hx hb dX5_kin_97 (lv_at hl 1 rfl) ?_
                refine pl_get (D := D) (ci := 5) (v := .ref (mt_ca τ (mt_ow τ zj))) (C := RX4) (T := TX4) (N := 7) hx hb hts (by decide +kernel) hown hK.1 hP (hM.me hjt).1 (hM.me hjt).2.1 rfl 3 (by decide) (hts (.fieldLink RX5 107 "ChooseTreeModel$Met" "owner" "LChooseTreeModel$Cls;") (by decide +kernel)) (fun _ h9 => h9) rfl dX5_kin_99 ?_
                have hszH : sz ≤ H.size := by have := hS.1; omega
                have hPold := hP
                refine va_calli (va_runV (As := [.ref (mt_ca τ (mt_ow τ za)), .ref (mt_ca τ (mt_ow τ zj))]) (rest := []) ⟨hx, hb, hml, hown, hts⟩ (c_X5_lies l D cO mi e0 L f12 H.size hE.nd (mt_mm τ mz kz) hM (mt_ow τ za) (mt_ow τ zj) hoa hoj) (cwV 2 hts gX5_kin_X5_lies rfl rfl rfl (by decide +kernel) ⟨Nat.le_of_ble_eq_true rfl, Nat.le_of_ble_eq_true rfl⟩) (mW_V hK hJ hS (hE.sub (by have := hS.1; omega)) hP 6 rfl hM.x.1 hM.x.2) rfl rfl hl.1 rfl (lv_room (Nat.le_of_ble_eq_true rfl)) dX5_kin_102 ⟨Nat.le_refl _, Nat.le_refl _⟩) hS (fun q _ h => (hE.sub (by have := hS.1; omega)) q h) (hE.sub (by have := hS.1; omega)) (fun r_24 u t H1 locs ht hvm hw hB hz1 hk1 hS => ?_)
                obtain ⟨L24, f24⟩ := u
                obtain ⟨hw, hE1⟩ := hw
                replace hB : va_P D vwCl (va_pl L24 f24) t.heap := hB
                rw [ht] at hB
                replace hE : pext L sz L24 := hE.tr (hszH) hE1
                obtain ⟨hr1, hL1, hM2⟩ := hw
                replace hL1 : L = L24 := hL1.symm
                subst hL1
                obtain ⟨zb2, hzb2⟩ : ∃ z, r_24 = bI z := ⟨_, hr1⟩
                clear hr1
                subst hzb2
                obtain ⟨mz, kz, hM⟩ : ∃ (m9 : Int32) (k9 : Nat → Int32), MI e0 cO L f24 (mt_mm τ m9 k9) := ⟨_, _, hM2⟩
                clear hM2
                clear hPold hP hk1 hz1 hvm ht hszH hE1
                have hP := hB
                clear hB
                generalize H1 = H at hP hS ⊢
                have hD : va_D (mA L sz) (va_pl L f24) := hE.D
                refine lv_if_eq (tgt := 120) hx hb dX5_kin_105 (by decide) (fun c_25 => ?_) (fun c_25 => ?_)
                · replace c_25 := bI_0.mp c_25
                  refine lv_iinc (v := (nI (zj + 1))) (lv' := [(4, .int (nI (zj + 1))), (3, .int (zq + (1))), (5, .ref (mt_ja τ zj)), (2, .ref (mt_ja τ za)), (0, .ref (mt_x τ)), (1, .int zx1)]) hx hb dX5_kin_120 hl (k := 2) rfl (nI_1 _) (by decide) rfl (fun ls hl => ?_)
                  refine lv_goto (tgt := 17) hx hb dX5_kin_123 (by decide) ?_
                  exact ih (zj + 1) (zq + (1)) f24 mz kz H locs ls hP hS hM (by omega) (lv_sub hl [0, 1, 3, 4, 5] rfl)
                · replace c_25 := bI_n0.mp c_25
                  refine lv_aload_n hx hb dX5_kin_108 rfl (lv_at hl 3 rfl) ?_
                  refine lv_aload hx hb dX5_kin_109 (lv_at hl 1 rfl) ?_
                  refine va_calli (va_runS (As := [.ref (mt_ja τ za), .ref (mt_ja τ zj)]) (rest := []) ⟨hx, hb, hml, hown, hts⟩ (c_X5_goesOver l D cO mi L f24 e0 (mt_mm τ mz kz) hM za zj hza hjt) (va_cwS 2 hts gX5_kin_X5_goesOver rfl rfl rfl (by decide +kernel) ⟨Nat.le_of_ble_eq_true rfl, Nat.le_of_ble_eq_true rfl⟩) (mP_S hK hP) rfl rfl hl.1 rfl (lv_room (Nat.le_of_ble_eq_true rfl)) dX5_kin_111 ⟨Nat.le_of_ble_eq_true rfl, Nat.le_of_ble_eq_true rfl⟩) hS (fun _ _ h => h.elim) (fun _ h => h.elim) (fun r_26 u t H1 locs ht hvm hw hB hz1 hk1 hS => ?_)
                  replace hP := ro_kept hP hk1
                  obtain rfl : r_26 = _ := hw
                  clear hk1 hz1 hvm ht hB
                  generalize H1 = H at hP hS ⊢
                  refine lv_if_eq (tgt := 120) hx hb dX5_kin_114 (by decide) (fun c_27 => ?_) (fun c_27 => ?_)
                  · replace c_27 := bI_0.mp c_27
                    refine lv_iinc (v := (nI (zj + 1))) (lv' := [(4, .int (nI (zj + 1))), (3, .int (zq + (1))), (5, .ref (mt_ja τ zj)), (2, .ref (mt_ja τ za)), (0, .ref (mt_x τ)), (1, .int zx1)]) hx hb dX5_kin_120 hl (k := 2) rfl (nI_1 _) (by decide) rfl (fun ls hl => ?_)
                    refine lv_goto (tgt := 17) hx hb dX5_kin_123 (by decide) ?_
                    exact ih (zj + 1) (zq + (1)) f24 mz kz H locs ls hP hS hM (by omega) (lv_sub hl [0, 1, 3, 4, 5] rfl)
                  · replace c_27 := bI_n0.mp c_27
                    refine lv_iinc (v := ((zq + (1)) + (1))) (lv' := [(3, .int ((zq + (1)) + (1))), (5, .ref (mt_ja τ zj)), (4, .int (nI zj)), (2, .ref (mt_ja τ za)), (0, .ref (mt_x τ)), (1, .int zx1)]) hx hb dX5_kin_117 hl (k := 0) rfl rfl (by decide) rfl (fun ls hl => ?_)
                    refine lv_iinc (v := (nI (zj + 1))) (lv' := [(4, .int (nI (zj + 1))), (3, .int ((zq + (1)) + (1))), (5, .ref (mt_ja τ zj)), (2, .ref (mt_ja τ za)), (0, .ref (mt_x τ)), (1, .int zx1)]) hx hb dX5_kin_120 hl (k := 2) rfl (nI_1 _) (by decide) rfl (fun ls hl => ?_)
                    refine lv_goto (tgt := 17) hx hb dX5_kin_123 (by decide) ?_
                    exact ih (zj + 1) ((zq + (1)) + (1)) f24 mz kz H locs ls hP hS hM (by omega) (lv_sub hl [0, 1, 3, 4, 5] rfl)
          · refine lv_goto (tgt := 120) hx hb dX5_kin_61 (by decide) ?_
            refine lv_iinc (v := (nI (zj + 1))) (lv' := [(4, .int (nI (zj + 1))), (5, .ref (mt_ja τ zj)), (3, .int zq), (2, .ref (mt_ja τ za)), (0, .ref (mt_x τ)), (1, .int zx1)]) hx hb dX5_kin_120 hl (k := 1) rfl (nI_1 _) (by decide) rfl (fun ls hl => ?_)
            refine lv_goto (tgt := 17) hx hb dX5_kin_123 (by decide) ?_
            exact ih (zj + 1) zq fz mz kz H locs ls hP hS hM (by omega) (lv_sub hl [0, 2, 3, 4, 5] rfl)
