set_option maxHeartbeats 4000000 in
set_option maxRecDepth 100000 in
theorem c_X5_face (l : Launch) (D : va_G) (cO : ClassId) (mi e0 : Nat) (L : List Nat) (f : Nat → va_E) (sz : Nat) (hnd : L.Nodup) (τ : MT) (hM : MI e0 cO L f τ) (zx1 zx2 : Int32) : Met l yX5_face wsX5_face { frames := 70, cells := 60, slots := 5400, locals := 1709 } (mW D cO mi e0 L f sz [.ref (mt_x τ), .int zx1, .int zx2]) (wQi D L sz (fun r u => ∃ (p9 : Nat → Int32) (m9 : Int32) (k9 : Nat → Int32) (a9 : Nat → Nat → Nat) (l9 : LSt), MI e0 cO u.1 u.2 (mt_f τ p9 m9 k9 a9 l9))) 60 5400 (mA L sz) := by
  refine Met.ofW (cc := cX5_face) (maxL := 4) (ret := (some .int)) (by decide) rfl ?_
  intro p e s m args below meth cq s₁ B hml hv
  obtain ⟨rfl, hsz, hP, hK, hJ⟩ := hv
  have hx := B.exec
  have hb := B.bytes
  have hr := B.returns
  have hts := atoms_spec (ws := wsX5_face) B.pre
  have hown : s.vm.findClass RX5 = some m.cls := findClass_of_methodNamed B.named
  have hlocks := B.notSynchronized
  have hin := (name_of_methodNamed B.named B.method).1
  clear B
  have hl := lv_entry ([.ref (mt_x τ), .int zx1, .int zx2]) (n := 4) (Nat.le_of_ble_eq_true rfl)
  rw [lg_entry_eq]
  generalize (lg_sl ([.ref (mt_x τ), .int zx1, .int zx2]) ++ List.replicate (4 - (lg_sl ([.ref (mt_x τ), .int zx1, .int zx2])).length) Slot.unset).toArray = ls at hl ⊢
  replace hl : lv_has ls 4 [(0, .ref (mt_x τ)), (1, .int zx1), (2, .int zx2)] := hl
  have hA : ∀ q : Nat, s.heap.size ≤ q → mA L sz q := fun q h => Or.inr (by omega)
  have hE : pext L sz L := pext.rf hnd
  have hD : va_D (mA L sz) (va_pl L f) := hE.D
  refine gen_start (A := mA L sz) (fun H locs hP hS => ?_) hP
  refine lv_aload_n hx hb dX5_face_0 rfl (lv_at hl 0 rfl) ?_
  refine lv_iload_n hx hb dX5_face_1 rfl (lv_at hl 1 rfl) ?_
  refine va_callq (va_runV (As := [.int zx1]) (rest := []) ⟨hx, hb, hml, hown, hts⟩ (c_X5_at l D cO mi L f e0 τ hM zx1) (cwV 1 hts gX5_face_X5_at rfl rfl rfl (by decide +kernel) ⟨Nat.le_of_ble_eq_true rfl, Nat.le_of_ble_eq_true rfl⟩) (mP_V hK hP 6 rfl hM.x.1 hM.x.2) rfl rfl hl.1 rfl (lv_room (Nat.le_of_ble_eq_true rfl)) dX5_face_2 ⟨Nat.le_of_ble_eq_true rfl, Nat.le_of_ble_eq_true rfl⟩) hS (fun _ _ h => h.elim) (fun _ h => h.elim) (fun r_1 u t H1 locs ht hvm hw hB hz1 hk1 hS => ?_)
  replace hP := ro_kept hP hk1
  obtain rfl : r_1 = _ := hw
  clear hk1 hz1 hvm ht hB
  generalize H1 = H at hP hS ⊢
  rcases htzp : t_ati τ zx1 with _ | zp
  · rw [show t_at τ zx1 = none by simp [t_at, htzp]]
    refine lv_ifnullN (tgt := 12) hx hb dX5_face_5 (by decide) ?_
    refine lv_iconst (v := (-1)) hx hb dX5_face_12 (by decide) ?_
    refine W.widen (k := 60) (n := 5400) (by first | exact Nat.le_refl _ | omega) (by first | exact Nat.le_refl _ | omega) ?_
    exact W.iret (v := (-1)) hx hb hr (fun t ht hW => ⟨⟨(-1), (L, f), rfl, ⟨⟨mt_pt τ, mt_mark τ, mt_mk τ, mt_al τ, mt_ls τ, hM⟩, hE⟩, show va_P D vwCl (va_pl _ _) t.heap from (by rw [ht]; exact hP)⟩, hS.F ht⟩) hS.2.2 dX5_face_13
  · rw [show t_at τ zx1 = some (mt_ca τ zp) by simp [t_at, htzp]]
    refine lv_ifnull hx hb dX5_face_5 ?_
    refine lv_iload_n hx hb dX5_face_8 rfl (lv_at hl 2 rfl) ?_
    refine lv_if_ge (tgt := 14) hx hb dX5_face_9 (by decide) (fun c_2 => ?_) (fun c_2 => ?_)
    · refine lv_aload_n hx hb dX5_face_14 rfl (lv_at hl 0 rfl) ?_
      refine lv_aload_n hx hb dX5_face_15 rfl (lv_at hl 0 rfl) ?_
      refine lv_iload_n hx hb dX5_face_16 rfl (lv_at hl 1 rfl) ?_
      refine va_callq (va_runV (As := [.int zx1]) (rest := [.ref (mt_x τ)]) ⟨hx, hb, hml, hown, hts⟩ (c_X5_at l D cO mi L f e0 τ hM zx1) (cwV 1 hts gX5_face_X5_at rfl rfl rfl (by decide +kernel) ⟨Nat.le_of_ble_eq_true rfl, Nat.le_of_ble_eq_true rfl⟩) (mP_V hK hP 6 rfl hM.x.1 hM.x.2) rfl rfl hl.1 rfl (lv_room (Nat.le_of_ble_eq_true rfl)) dX5_face_17 ⟨Nat.le_of_ble_eq_true rfl, Nat.le_of_ble_eq_true rfl⟩) hS (fun _ _ h => h.elim) (fun _ h => h.elim) (fun r_3 u t H1 locs ht hvm hw hB hz1 hk1 hS => ?_)
      replace hP := ro_kept hP hk1
      obtain rfl : r_3 = _ := hw
      clear hk1 hz1 hvm ht hB
      generalize H1 = H at hP hS ⊢
      rw [show t_at τ zx1 = some (mt_ca τ zp) by simp [t_at, htzp]]
      by_cases hpt : mt_pt τ zp = nI (mt_cnt τ (mt_fa τ zp))
      · have hzz := (t_ati_lt hM htzp)
        have hszH : sz ≤ H.size := by have := hS.1; omega
        have hPold := hP
        refine va_callq (va_runV (As := [.ref (mt_ca τ zp)]) (rest := []) ⟨hx, hb, hml, hown, hts⟩ (c_X5_facesOf0 l D cO mi e0 L f H.size hE.nd τ hM zp hzz hpt) (cwV 1 hts gX5_face_X5_facesOf rfl rfl rfl (by decide +kernel) ⟨Nat.le_of_ble_eq_true rfl, Nat.le_of_ble_eq_true rfl⟩) (mW_V hK hJ hS (hE.sub (by have := hS.1; omega)) hP 6 rfl hM.x.1 hM.x.2) rfl rfl hl.1 rfl (lv_room (Nat.le_of_ble_eq_true rfl)) dX5_face_20 ⟨Nat.le_of_ble_eq_true rfl, Nat.le_of_ble_eq_true rfl⟩) hS (fun q _ h => (hE.sub (by have := hS.1; omega)) q h) (hE.sub (by have := hS.1; omega)) (fun r_4 u t H1 locs ht hvm hw hB hz1 hk1 hS => ?_)
        obtain ⟨L4, f4⟩ := u
        obtain ⟨hw, hE1⟩ := hw
        replace hB : va_P D vwCl (va_pl L4 f4) t.heap := hB
        rw [ht] at hB
        replace hE : pext L sz L4 := hE.tr (hszH) hE1
        obtain ⟨hr1, pz, mz, kz, az, lz, hM2, hpz, hlq⟩ := hw
        subst hr1
        replace hM : MI e0 cO L4 f4 (mt_f τ pz mz kz az lz) := hM2
        clear hM2
        clear hPold hP hk1 hz1 hvm ht hszH hE1
        have hP := hB
        clear hB
        generalize H1 = H at hP hS ⊢
        have hD : va_D (mA L sz) (va_pl L4 f4) := hE.D
        replace hl : lv_has ls 4 [(0, .ref (mt_x τ)), (1, .int zx1), (2, .int zx2)] := hl
        have hzi : zp < mt_n τ := hzz
        have hMb : 1 ≤ mt_n τ ∧ mt_n τ ≤ 60 ∧ mt_mn τ ≤ 400 := hM.b
        have hMl : ls_cnt lz (mt_aa τ zp) ≤ 60 ∧ ∀ k, k < ls_cnt lz (mt_aa τ zp) → az zp k < mt_n τ ∧ ls_con lz (mt_aa τ zp) k = mt_ca τ (az zp k) := (hM.cl hzi).2.2.2.2.2
        refine lv_astore_n (lv' := [(3, .ref (mt_aa τ zp)), (0, .ref (mt_x τ)), (1, .int zx1), (2, .int zx2)]) hx hb dX5_face_23 rfl hl (by decide) rfl (fun ls hl => ?_)
        refine lv_iload_n hx hb dX5_face_24 rfl (lv_at hl 3 rfl) ?_
        refine lv_aload_n hx hb dX5_face_25 rfl (lv_at hl 0 rfl) ?_
        obtain ⟨mcz5, gz5, hfz5, hgz5, hcz5⟩ := hM.ly.raw (b := (mt_aa τ zp)) (hM.aa hzi).1 (hM.aa hzi).2
        refine va_calli (va_runV (As := []) (rest := [.int zx2]) ⟨hx, hb, hml, hown, hts⟩ (c_Jx4a65c_size_8abf5 l D cO mi L4 f4 (mt_aa τ zp) (hM.aa hzi).1 mcz5 (ls_dat lz (mt_aa τ zp)) (ls_cnt lz (mt_aa τ zp)) hfz5) (cwV 0 hts gX5_face_Jx4a65c_size_8abf5 rfl rfl rfl (by decide +kernel) ⟨Nat.le_of_ble_eq_true rfl, Nat.le_of_ble_eq_true rfl⟩) (mP_V hK hP 0 rfl (hM.aa hzi).1 hfz5) rfl rfl hl.1 rfl (lv_room (Nat.le_of_ble_eq_true rfl)) dX5_face_26 ⟨Nat.le_of_ble_eq_true rfl, Nat.le_of_ble_eq_true rfl⟩) hS (fun _ _ h => h.elim) (fun _ h => h.elim) (fun r_6 u t H1 locs ht hvm hw hB hz1 hk1 hS => ?_)
        replace hP := ro_kept hP hk1
        obtain rfl : r_6 = _ := hw
        clear hk1 hz1 hvm ht hB
        generalize H1 = H at hP hS ⊢
        clear hcz5 hgz5
        refine lv_icmp_ge (tgt := 46) hx hb dX5_face_29 (by decide) (fun c_7 => ?_) (fun c_7 => ?_)
        · refine lv_iconst (v := (-1)) hx hb dX5_face_46 (by decide) ?_
          refine W.widen (k := 60) (n := 5400) (by first | exact Nat.le_refl _ | omega) (by first | exact Nat.le_refl _ | omega) ?_
          exact W.iret (v := (-1)) hx hb hr (fun t ht hW => ⟨⟨(-1), (L4, f4), rfl, ⟨⟨pz, mz, kz, az, lz, hM⟩, hE⟩, show va_P D vwCl (va_pl _ _) t.heap from (by rw [ht]; exact hP)⟩, hS.F ht⟩) hS.2.2 dX5_face_47
        · obtain ⟨zj1, hzj1, ezj1⟩ := ix_of (x := zx2) (n := (ls_cnt lz (mt_aa τ zp))) (by omega) (by simp [c_2, c_7])
          subst ezj1
          have hal := (hMl.2 zj1 hzj1).1
          refine lv_aload_n hx hb dX5_face_32 rfl (lv_at hl 0 rfl) ?_
          refine lv_iload_n hx hb dX5_face_33 rfl (lv_at hl 3 rfl) ?_
          obtain ⟨mcz8, gz8, hfz8, hdz8, hfdz8, hcnz8, hcpz8, hgiz8⟩ := hM.ly.get (b := (mt_aa τ zp)) (i := zj1) (hM.aa hzi).1 (hM.aa hzi).2 hzj1
          replace hgiz8 : gz8 zj1 = some (mt_ca τ (az zp zj1)) := hgiz8.trans (congrArg some (hMl.2 zj1 hzj1).2)
          refine va_callq (va_runV (As := [.int (nI zj1)]) (rest := []) ⟨hx, hb, hml, hown, hts⟩ (c_Jx4a65c_get_915e3 l D cO mi L4 f4 (mt_aa τ zp) (hM.aa hzi).1 mcz8 (ls_dat lz (mt_aa τ zp)) (ls_cnt lz (mt_aa τ zp)) hfz8 hdz8 (ls_cap lz (mt_aa τ zp)) gz8 hfdz8 hcnz8 hcpz8 zj1 hzj1) (cwV 1 hts gX5_face_Jx4a65c_get_915e3 rfl rfl rfl (by decide +kernel) ⟨Nat.le_of_ble_eq_true rfl, Nat.le_of_ble_eq_true rfl⟩) (mP_V hK hP 0 rfl (hM.aa hzi).1 hfz8) rfl rfl hl.1 rfl (lv_room (Nat.le_of_ble_eq_true rfl)) dX5_face_34 ⟨Nat.le_of_ble_eq_true rfl, Nat.le_of_ble_eq_true rfl⟩) hS (fun _ _ h => h.elim) (fun _ h => h.elim) (fun r_9 u t H1 locs ht hvm hw hB hz1 hk1 hS => ?_)
          replace hP := ro_kept hP hk1
          obtain rfl : r_9 = _ := hw
          clear hk1 hz1 hvm ht hB
          generalize H1 = H at hP hS ⊢
          rw [hgiz8]
          clear hgiz8 hfdz8 hdz8 hcnz8 hcpz8
          refine va_castY (C := RX3) hx hb hown (hts (.classLink RX5 19 RX3) (by decide +kernel)) hK.2.2.2.2.2.2.1 (pl_recv (ci := 4) hK.1 hP rfl (hM.cl hal).1 (hM.cl hal).2.1) dX5_face_37 ?_
          refine pl_get (D := D) (ci := 4) (v := .int (nI (az zp zj1))) (C := RX3) (T := TX3) (N := 9) hx hb hts (by decide +kernel) hown hK.1 hP (hM.cl hal).1 (hM.cl hal).2.1 rfl 0 (by decide) (hts (.fieldLink RX5 76 "ChooseTreeModel$Cls" "number" "I") (by decide +kernel)) (fun _ h9 => h9) rfl dX5_face_40 ?_
          refine lv_goto (tgt := 47) hx hb dX5_face_43 (by decide) ?_
          refine W.widen (k := 60) (n := 5400) (by first | exact Nat.le_refl _ | omega) (by first | exact Nat.le_refl _ | omega) ?_
          exact W.iret (v := (nI (az zp zj1))) hx hb hr (fun t ht hW => ⟨⟨(nI (az zp zj1)), (L4, f4), rfl, ⟨⟨pz, mz, kz, az, lz, hM⟩, hE⟩, show va_P D vwCl (va_pl _ _) t.heap from (by rw [ht]; exact hP)⟩, hS.F ht⟩) hS.2.2 dX5_face_47
      · have hzz := (t_ati_lt hM htzp)
        have hszH : sz ≤ H.size := by have := hS.1; omega
        have hPold := hP
        refine va_callq (va_runV (As := [.ref (mt_ca τ zp)]) (rest := []) ⟨hx, hb, hml, hown, hts⟩ (c_X5_facesOf1 l D cO mi e0 L f H.size hE.nd τ hM zp hzz hpt) (cwV 1 hts gX5_face_X5_facesOf rfl rfl rfl (by decide +kernel) ⟨Nat.le_of_ble_eq_true rfl, Nat.le_of_ble_eq_true rfl⟩) (mW_V hK hJ hS (hE.sub (by have := hS.1; omega)) hP 6 rfl hM.x.1 hM.x.2) rfl rfl hl.1 rfl (lv_room (Nat.le_of_ble_eq_true rfl)) dX5_face_20 ⟨Nat.le_of_ble_eq_true rfl, Nat.le_of_ble_eq_true rfl⟩) hS (fun q _ h => (hE.sub (by have := hS.1; omega)) q h) (hE.sub (by have := hS.1; omega)) (fun r_10 u t H1 locs ht hvm hw hB hz1 hk1 hS => ?_)
        obtain ⟨L10, f10⟩ := u
        obtain ⟨hw, hE1⟩ := hw
        replace hB : va_P D vwCl (va_pl L10 f10) t.heap := hB
        rw [ht] at hB
        replace hE : pext L sz L10 := hE.tr (hszH) hE1
        obtain ⟨hr1, pz, mz, kz, az, lz, hM2, hpz, hlq⟩ := hw
        subst hr1
        replace hM : MI e0 cO L10 f10 (mt_f τ pz mz kz az lz) := hM2
        clear hM2
        clear hPold hP hk1 hz1 hvm ht hszH hE1
        have hP := hB
        clear hB
        generalize H1 = H at hP hS ⊢
        have hD : va_D (mA L sz) (va_pl L10 f10) := hE.D
        replace hl : lv_has ls 4 [(0, .ref (mt_x τ)), (1, .int zx1), (2, .int zx2)] := hl
        have hzi : zp < mt_n τ := hzz
        have hMb : 1 ≤ mt_n τ ∧ mt_n τ ≤ 60 ∧ mt_mn τ ≤ 400 := hM.b
        have hMl : ls_cnt lz (mt_aa τ zp) ≤ 60 ∧ ∀ k, k < ls_cnt lz (mt_aa τ zp) → az zp k < mt_n τ ∧ ls_con lz (mt_aa τ zp) k = mt_ca τ (az zp k) := (hM.cl hzi).2.2.2.2.2
        refine lv_astore_n (lv' := [(3, .ref (mt_aa τ zp)), (0, .ref (mt_x τ)), (1, .int zx1), (2, .int zx2)]) hx hb dX5_face_23 rfl hl (by decide) rfl (fun ls hl => ?_)
        refine lv_iload_n hx hb dX5_face_24 rfl (lv_at hl 3 rfl) ?_
        refine lv_aload_n hx hb dX5_face_25 rfl (lv_at hl 0 rfl) ?_
        obtain ⟨mcz11, gz11, hfz11, hgz11, hcz11⟩ := hM.ly.raw (b := (mt_aa τ zp)) (hM.aa hzi).1 (hM.aa hzi).2
        refine va_calli (va_runV (As := []) (rest := [.int zx2]) ⟨hx, hb, hml, hown, hts⟩ (c_Jx4a65c_size_8abf5 l D cO mi L10 f10 (mt_aa τ zp) (hM.aa hzi).1 mcz11 (ls_dat lz (mt_aa τ zp)) (ls_cnt lz (mt_aa τ zp)) hfz11) (cwV 0 hts gX5_face_Jx4a65c_size_8abf5 rfl rfl rfl (by decide +kernel) ⟨Nat.le_of_ble_eq_true rfl, Nat.le_of_ble_eq_true rfl⟩) (mP_V hK hP 0 rfl (hM.aa hzi).1 hfz11) rfl rfl hl.1 rfl (lv_room (Nat.le_of_ble_eq_true rfl)) dX5_face_26 ⟨Nat.le_of_ble_eq_true rfl, Nat.le_of_ble_eq_true rfl⟩) hS (fun _ _ h => h.elim) (fun _ h => h.elim) (fun r_12 u t H1 locs ht hvm hw hB hz1 hk1 hS => ?_)
        replace hP := ro_kept hP hk1
        obtain rfl : r_12 = _ := hw
        clear hk1 hz1 hvm ht hB
        generalize H1 = H at hP hS ⊢
        clear hcz11 hgz11
        refine lv_icmp_ge (tgt := 46) hx hb dX5_face_29 (by decide) (fun c_13 => ?_) (fun c_13 => ?_)
        · refine lv_iconst (v := (-1)) hx hb dX5_face_46 (by decide) ?_
          refine W.widen (k := 60) (n := 5400) (by first | exact Nat.le_refl _ | omega) (by first | exact Nat.le_refl _ | omega) ?_
          exact W.iret (v := (-1)) hx hb hr (fun t ht hW => ⟨⟨(-1), (L10, f10), rfl, ⟨⟨pz, mz, kz, az, lz, hM⟩, hE⟩, show va_P D vwCl (va_pl _ _) t.heap from (by rw [ht]; exact hP)⟩, hS.F ht⟩) hS.2.2 dX5_face_47
        · obtain ⟨zj1, hzj1, ezj1⟩ := ix_of (x := zx2) (n := (ls_cnt lz (mt_aa τ zp))) (by omega) (by simp [c_2, c_13])
          subst ezj1
          have hal := (hMl.2 zj1 hzj1).1
          refine lv_aload_n hx hb dX5_face_32 rfl (lv_at hl 0 rfl) ?_
          refine lv_iload_n hx hb dX5_face_33 rfl (lv_at hl 3 rfl) ?_
          obtain ⟨mcz14, gz14, hfz14, hdz14, hfdz14, hcnz14, hcpz14, hgiz14⟩ := hM.ly.get (b := (mt_aa τ zp)) (i := zj1) (hM.aa hzi).1 (hM.aa hzi).2 hzj1
          replace hgiz14 : gz14 zj1 = some (mt_ca τ (az zp zj1)) := hgiz14.trans (congrArg some (hMl.2 zj1 hzj1).2)
          refine va_callq (va_runV (As := [.int (nI zj1)]) (rest := []) ⟨hx, hb, hml, hown, hts⟩ (c_Jx4a65c_get_915e3 l D cO mi L10 f10 (mt_aa τ zp) (hM.aa hzi).1 mcz14 (ls_dat lz (mt_aa τ zp)) (ls_cnt lz (mt_aa τ zp)) hfz14 hdz14 (ls_cap lz (mt_aa τ zp)) gz14 hfdz14 hcnz14 hcpz14 zj1 hzj1) (cwV 1 hts gX5_face_Jx4a65c_get_915e3 rfl rfl rfl (by decide +kernel) ⟨Nat.le_of_ble_eq_true rfl, Nat.le_of_ble_eq_true rfl⟩) (mP_V hK hP 0 rfl (hM.aa hzi).1 hfz14) rfl rfl hl.1 rfl (lv_room (Nat.le_of_ble_eq_true rfl)) dX5_face_34 ⟨Nat.le_of_ble_eq_true rfl, Nat.le_of_ble_eq_true rfl⟩) hS (fun _ _ h => h.elim) (fun _ h => h.elim) (fun r_15 u t H1 locs ht hvm hw hB hz1 hk1 hS => ?_)
          replace hP := ro_kept hP hk1
          obtain rfl : r_15 = _ := hw
          clear hk1 hz1 hvm ht hB
          generalize H1 = H at hP hS ⊢
          rw [hgiz14]
          clear hgiz14 hfdz14 hdz14 hcnz14 hcpz14
          refine va_castY (C := RX3) hx hb hown (hts (.classLink RX5 19 RX3) (by decide +kernel)) hK.2.2.2.2.2.2.1 (pl_recv (ci := 4) hK.1 hP rfl (hM.cl hal).1 (hM.cl hal).2.1) dX5_face_37 ?_
          refine pl_get (D := D) (ci := 4) (v := .int (nI (az zp zj1))) (C := RX3) (T := TX3) (N := 9) hx hb hts (by decide +kernel) hown hK.1 hP (hM.cl hal).1 (hM.cl hal).2.1 rfl 0 (by decide) (hts (.fieldLink RX5 76 "ChooseTreeModel$Cls" "number" "I") (by decide +kernel)) (fun _ h9 => h9) rfl dX5_face_40 ?_
          refine lv_goto (tgt := 47) hx hb dX5_face_43 (by decide) ?_
          refine W.widen (k := 60) (n := 5400) (by first | exact Nat.le_refl _ | omega) (by first | exact Nat.le_refl _ | omega) ?_
          exact W.iret (v := (nI (az zp zj1))) hx hb hr (fun t ht hW => ⟨⟨(nI (az zp zj1)), (L10, f10), rfl, ⟨⟨pz, mz, kz, az, lz, hM⟩, hE⟩, show va_P D vwCl (va_pl _ _) t.heap from (by rw [ht]; exact hP)⟩, hS.F ht⟩) hS.2.2 dX5_face_47
    · refine lv_iconst (v := (-1)) hx hb dX5_face_12 (by decide) ?_
      refine W.widen (k := 60) (n := 5400) (by first | exact Nat.le_refl _ | omega) (by first | exact Nat.le_refl _ | omega) ?_
      exact W.iret (v := (-1)) hx hb hr (fun t ht hW => ⟨⟨(-1), (L, f), rfl, ⟨⟨mt_pt τ, mt_mark τ, mt_mk τ, mt_al τ, mt_ls τ, hM⟩, hE⟩, show va_P D vwCl (va_pl _ _) t.heap from (by rw [ht]; exact hP)⟩, hS.F ht⟩) hS.2.2 dX5_face_13
