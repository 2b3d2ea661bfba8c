set_option maxHeartbeats 4000000 in
set_option maxRecDepth 100000 in
theorem c_X5_nearest (l : Launch) (D : va_G) (cO : ClassId) (mi e0 : Nat) (L : List Nat) (f : Nat → va_E) (sz : Nat) (hnd : L.Nodup) (τ : MT) (hM : MI e0 cO L f τ) (zx1 zx2 zx3 : Int32) : Met l yX5_nearest wsX5_nearest { frames := 70, cells := 60, slots := 5400, locals := 1709 } (mW D cO mi e0 L f sz [.ref (mt_x τ), .int zx1, .int zx2, .int zx3]) (wQi D L sz (fun r u => ∃ (p9 : Nat → Int32) (m9 : Int32) (k9 : Nat → Int32) (a9 : Nat → Nat → Nat) (l9 : LSt), MI e0 cO u.1 u.2 (mt_f τ p9 m9 k9 a9 l9))) 60 5400 (mA L sz) := by
  refine Met.ofW (cc := cX5_nearest) (maxL := 7) (ret := (some .int)) (by decide) rfl ?_
  intro p e s m args below meth cq s₁ B hml hv
  obtain ⟨rfl, hsz, hP, hK, hJ⟩ := hv
  have hx := B.exec
  have hb := B.bytes
  have hr := B.returns
  have hts := atoms_spec (ws := wsX5_nearest) B.pre
  have hown : s.vm.findClass RX5 = some m.cls := findClass_of_methodNamed B.named
  have hlocks := B.notSynchronized
  have hin := (name_of_methodNamed B.named B.method).1
  clear B
  have hl := lv_entry ([.ref (mt_x τ), .int zx1, .int zx2, .int zx3]) (n := 7) (Nat.le_of_ble_eq_true rfl)
  rw [lg_entry_eq]
  generalize (lg_sl ([.ref (mt_x τ), .int zx1, .int zx2, .int zx3]) ++ List.replicate (7 - (lg_sl ([.ref (mt_x τ), .int zx1, .int zx2, .int zx3])).length) Slot.unset).toArray = ls at hl ⊢
  replace hl : lv_has ls 7 [(0, .ref (mt_x τ)), (1, .int zx1), (2, .int zx2), (3, .int zx3)] := hl
  have hA : ∀ q : Nat, s.heap.size ≤ q → mA L sz q := fun q h => Or.inr (by omega)
  have hE : pext L sz L := pext.rf hnd
  have hD : va_D (mA L sz) (va_pl L f) := hE.D
  refine gen_start (A := mA L sz) (fun H locs hP hS => ?_) hP
  refine lv_aload_n hx hb dX5_nearest_0 rfl (lv_at hl 0 rfl) ?_
  refine lv_iload_n hx hb dX5_nearest_1 rfl (lv_at hl 1 rfl) ?_
  refine va_callq (va_runV (As := [.int zx1]) (rest := []) ⟨hx, hb, hml, hown, hts⟩ (c_X5_at l D cO mi L f e0 τ hM zx1) (cwV 1 hts gX5_nearest_X5_at rfl rfl rfl (by decide +kernel) ⟨Nat.le_of_ble_eq_true rfl, Nat.le_of_ble_eq_true rfl⟩) (mP_V hK hP 6 rfl hM.x.1 hM.x.2) rfl rfl hl.1 rfl (lv_room (Nat.le_of_ble_eq_true rfl)) dX5_nearest_2 ⟨Nat.le_of_ble_eq_true rfl, Nat.le_of_ble_eq_true rfl⟩) hS (fun _ _ h => h.elim) (fun _ h => h.elim) (fun r_1 u t H1 locs ht hvm hw hB hz1 hk1 hS => ?_)
  replace hP := ro_kept hP hk1
  obtain rfl : r_1 = _ := hw
  clear hk1 hz1 hvm ht hB
  generalize H1 = H at hP hS ⊢
  rcases htzp : t_ati τ zx1 with _ | zp
  · rw [show t_at τ zx1 = none by simp [t_at, htzp]]
    refine lv_ifnullN (tgt := 19) hx hb dX5_nearest_5 (by decide) ?_
    refine lv_iconst (v := (-1)) hx hb dX5_nearest_19 (by decide) ?_
    refine W.widen (k := 60) (n := 5400) (by first | exact Nat.le_refl _ | omega) (by first | exact Nat.le_refl _ | omega) ?_
    exact W.iret (v := (-1)) hx hb hr (fun t ht hW => ⟨⟨(-1), (L, f), rfl, ⟨⟨mt_pt τ, mt_mark τ, mt_mk τ, mt_al τ, mt_ls τ, hM⟩, hE⟩, show va_P D vwCl (va_pl _ _) t.heap from (by rw [ht]; exact hP)⟩, hS.F ht⟩) hS.2.2 dX5_nearest_20
  · rw [show t_at τ zx1 = some (mt_ca τ zp) by simp [t_at, htzp]]
    refine lv_ifnull hx hb dX5_nearest_5 ?_
    refine lv_iload_n hx hb dX5_nearest_8 rfl (lv_at hl 2 rfl) ?_
    refine va_calli (va_runS (As := [.int zx2]) (rest := []) ⟨hx, hb, hml, hown, hts⟩ (c_X5_isName l D cO mi L f zx2) (va_cwS 1 hts gX5_nearest_X5_isName rfl rfl rfl (by decide +kernel) ⟨Nat.le_of_ble_eq_true rfl, Nat.le_of_ble_eq_true rfl⟩) (mP_S hK hP) rfl rfl hl.1 rfl (lv_room (Nat.le_of_ble_eq_true rfl)) dX5_nearest_9 ⟨Nat.le_of_ble_eq_true rfl, Nat.le_of_ble_eq_true rfl⟩) hS (fun _ _ h => h.elim) (fun _ h => h.elim) (fun r_2 u t H1 locs ht hvm hw hB hz1 hk1 hS => ?_)
    replace hP := ro_kept hP hk1
    obtain rfl : r_2 = _ := hw
    clear hk1 hz1 hvm ht hB
    generalize H1 = H at hP hS ⊢
    refine lv_if_eq (tgt := 19) hx hb dX5_nearest_12 (by decide) (fun c_3 => ?_) (fun c_3 => ?_)
    · replace c_3 := bI_0.mp c_3
      refine lv_iconst (v := (-1)) hx hb dX5_nearest_19 (by decide) ?_
      refine W.widen (k := 60) (n := 5400) (by first | exact Nat.le_refl _ | omega) (by first | exact Nat.le_refl _ | omega) ?_
      exact W.iret (v := (-1)) hx hb hr (fun t ht hW => ⟨⟨(-1), (L, f), rfl, ⟨⟨mt_pt τ, mt_mark τ, mt_mk τ, mt_al τ, mt_ls τ, hM⟩, hE⟩, show va_P D vwCl (va_pl _ _) t.heap from (by rw [ht]; exact hP)⟩, hS.F ht⟩) hS.2.2 dX5_nearest_20
    · replace c_3 := bI_n0.mp c_3
      refine lv_iload_n hx hb dX5_nearest_15 rfl (lv_at hl 3 rfl) ?_
      refine lv_if_ge (tgt := 21) hx hb dX5_nearest_16 (by decide) (fun c_4 => ?_) (fun c_4 => ?_)
      · refine lv_aload_n hx hb dX5_nearest_21 rfl (lv_at hl 0 rfl) ?_
        refine lv_aload_n hx hb dX5_nearest_22 rfl (lv_at hl 0 rfl) ?_
        refine lv_iload_n hx hb dX5_nearest_23 rfl (lv_at hl 1 rfl) ?_
        refine va_callq (va_runV (As := [.int zx1]) (rest := [.ref (mt_x τ)]) ⟨hx, hb, hml, hown, hts⟩ (c_X5_at l D cO mi L f e0 τ hM zx1) (cwV 1 hts gX5_nearest_X5_at rfl rfl rfl (by decide +kernel) ⟨Nat.le_of_ble_eq_true rfl, Nat.le_of_ble_eq_true rfl⟩) (mP_V hK hP 6 rfl hM.x.1 hM.x.2) rfl rfl hl.1 rfl (lv_room (Nat.le_of_ble_eq_true rfl)) dX5_nearest_24 ⟨Nat.le_of_ble_eq_true rfl, Nat.le_of_ble_eq_true rfl⟩) hS (fun _ _ h => h.elim) (fun _ h => h.elim) (fun r_5 u t H1 locs ht hvm hw hB hz1 hk1 hS => ?_)
        replace hP := ro_kept hP hk1
        obtain rfl : r_5 = _ := hw
        clear hk1 hz1 hvm ht hB
        generalize H1 = H at hP hS ⊢
        rw [show t_at τ zx1 = some (mt_ca τ zp) by simp [t_at, htzp]]
        by_cases hpt : mt_pt τ zp = nI (mt_cnt τ (mt_fa τ zp))
        · have hzz := (t_ati_lt hM htzp)
          have hszH : sz ≤ H.size := by have := hS.1; omega
          have hPold := hP
          refine va_callq (va_runV (As := [.ref (mt_ca τ zp)]) (rest := []) ⟨hx, hb, hml, hown, hts⟩ (c_X5_facesOf0 l D cO mi e0 L f H.size hE.nd τ hM zp hzz hpt) (cwV 1 hts gX5_nearest_X5_facesOf rfl rfl rfl (by decide +kernel) ⟨Nat.le_of_ble_eq_true rfl, Nat.le_of_ble_eq_true rfl⟩) (mW_V hK hJ hS (hE.sub (by have := hS.1; omega)) hP 6 rfl hM.x.1 hM.x.2) rfl rfl hl.1 rfl (lv_room (Nat.le_of_ble_eq_true rfl)) dX5_nearest_27 ⟨Nat.le_of_ble_eq_true rfl, Nat.le_of_ble_eq_true rfl⟩) hS (fun q _ h => (hE.sub (by have := hS.1; omega)) q h) (hE.sub (by have := hS.1; omega)) (fun r_6 u t H1 locs ht hvm hw hB hz1 hk1 hS => ?_)
          obtain ⟨L6, f6⟩ := u
          obtain ⟨hw, hE1⟩ := hw
          replace hB : va_P D vwCl (va_pl L6 f6) t.heap := hB
          rw [ht] at hB
          replace hE : pext L sz L6 := hE.tr (hszH) hE1
          obtain ⟨hr1, pz, mz, kz, az, lz, hM2, hpz, hlq⟩ := hw
          subst hr1
          replace hM : MI e0 cO L6 f6 (mt_f τ pz mz kz az lz) := hM2
          clear hM2
          clear hPold hP hk1 hz1 hvm ht hszH hE1
          have hP := hB
          clear hB
          generalize H1 = H at hP hS ⊢
          have hD : va_D (mA L sz) (va_pl L6 f6) := hE.D
          replace hl : lv_has ls 7 [(0, .ref (mt_x τ)), (1, .int zx1), (2, .int zx2), (3, .int zx3)] := hl
          have hzi : zp < mt_n τ := hzz
          have hMb : 1 ≤ mt_n τ ∧ mt_n τ ≤ 60 ∧ mt_mn τ ≤ 400 := hM.b
          have hMl : ls_cnt lz (mt_aa τ zp) ≤ 60 ∧ ∀ k, k < ls_cnt lz (mt_aa τ zp) → az zp k < mt_n τ ∧ ls_con lz (mt_aa τ zp) k = mt_ca τ (az zp k) := (hM.cl hzi).2.2.2.2.2
          refine lv_astore (lv' := [(4, .ref (mt_aa τ zp)), (0, .ref (mt_x τ)), (1, .int zx1), (2, .int zx2), (3, .int zx3)]) hx hb dX5_nearest_30 hl (by decide) rfl (fun ls hl => ?_)
          refine lv_iconst (v := (nI 0)) hx hb dX5_nearest_32 (by decide) ?_
          refine lv_istore (lv' := [(5, .int (nI 0)), (4, .ref (mt_aa τ zp)), (0, .ref (mt_x τ)), (1, .int zx1), (2, .int zx2), (3, .int zx3)]) hx hb dX5_nearest_33 hl (by decide) rfl (fun ls hl => ?_)
          refine lv_iconst (v := (nI 0)) hx hb dX5_nearest_35 (by decide) ?_
          refine lv_istore (lv' := [(6, .int (nI 0)), (5, .int (nI 0)), (4, .ref (mt_aa τ zp)), (0, .ref (mt_x τ)), (1, .int zx1), (2, .int zx2), (3, .int zx3)]) hx hb dX5_nearest_36 hl (by decide) rfl (fun ls hl => ?_)
          obtain ⟨fz, hfz⟩ : ∃ z, z = f6 := ⟨_, rfl⟩
          rw [← hfz] at hP hM
          clear hfz hD
          obtain ⟨zn, hzn⟩ : ∃ z : Nat, z = ls_cnt lz (mt_aa τ zp) := ⟨_, rfl⟩
          obtain ⟨zj, hzj⟩ : ∃ z : Nat, z = 0 := ⟨_, rfl⟩
          have hE9 : zj + zn = ls_cnt lz (mt_aa τ zp) := by omega
          obtain ⟨zq, hzq⟩ : ∃ z : Int32, z = nI 0 := ⟨_, rfl⟩
          replace hl : lv_has ls 7 [(6, .int (nI zj)), (5, .int zq), (4, .ref (mt_aa τ zp)), (0, .ref (mt_x τ)), (1, .int zx1), (2, .int zx2), (3, .int zx3)] := by rw [hzj, hzq]; exact lv_sub hl [0, 1, 2, 3, 4, 5, 6] rfl
          clear hzn hzj hMl hMb hzi hzq
          replace hl : lv_has ls 7 [(6, .int (nI zj)), (5, .int zq), (4, .ref (mt_aa τ zp)), (0, .ref (mt_x τ)), (1, .int zx1), (2, .int zx2), (3, .int zx3)] := hl
          revert hl
          revert hE9
          revert hM
          revert hS
          revert hP
          revert ls
          revert locs
          revert H
          revert kz
          revert mz
          revert fz
          revert zq
          revert zj
          induction zn with
          | zero =>
            intro zj zq fz mz kz H locs ls hP hS hM hE9 hl
            have hD : va_D (mA L sz) (va_pl L6 fz) := hE.D
            have hzi : zp < mt_n τ := hzz
            have hMb : 1 ≤ mt_n τ ∧ mt_n τ ≤ 60 ∧ mt_mn τ ≤ 400 := hM.b
            have hMl : ls_cnt lz (mt_aa τ zp) ≤ 60 ∧ ∀ k, k < ls_cnt lz (mt_aa τ zp) → az zp k < mt_n τ ∧ ls_con lz (mt_aa τ zp) k = mt_ca τ (az zp k) := (hM.cl hzi).2.2.2.2.2
            replace hl : lv_has ls 7 [(6, .int (nI zj)), (5, .int zq), (4, .ref (mt_aa τ zp)), (0, .ref (mt_x τ)), (1, .int zx1), (2, .int zx2), (3, .int zx3)] := hl
            have hE8 : zj + 0 = ls_cnt lz (mt_aa τ zp) := hE9
            refine lv_iload hx hb dX5_nearest_38 (lv_at hl 0 rfl) ?_
            refine lv_aload hx hb dX5_nearest_40 (lv_at hl 2 rfl) ?_
            obtain ⟨mcz7, gz7, hfz7, hgz7, hcz7⟩ := hM.ly.raw (b := (mt_aa τ zp)) (hM.aa hzi).1 (hM.aa hzi).2
            refine va_calli (va_runV (As := []) (rest := [.int (nI zj)]) ⟨hx, hb, hml, hown, hts⟩ (c_Jx4a65c_size_8abf5 l D cO mi L6 fz (mt_aa τ zp) (hM.aa hzi).1 mcz7 (ls_dat lz (mt_aa τ zp)) (ls_cnt lz (mt_aa τ zp)) hfz7) (cwV 0 hts gX5_nearest_Jx4a65c_size_8abf5 rfl rfl rfl (by decide +kernel) ⟨Nat.le_of_ble_eq_true rfl, Nat.le_of_ble_eq_true rfl⟩) (mP_V hK hP 0 rfl (hM.aa hzi).1 hfz7) rfl rfl hl.1 rfl (lv_room (Nat.le_of_ble_eq_true rfl)) dX5_nearest_42 ⟨Nat.le_of_ble_eq_true rfl, Nat.le_of_ble_eq_true rfl⟩) hS (fun _ _ h => h.elim) (fun _ h => h.elim) (fun r_8 u t H1 locs ht hvm hw hB hz1 hk1 hS => ?_)
            replace hP := ro_kept hP hk1
            obtain rfl : r_8 = _ := hw
            clear hk1 hz1 hvm ht hB
            generalize H1 = H at hP hS ⊢
            clear hcz7 hgz7
            refine lv_icmp_ge (tgt := 96) hx hb dX5_nearest_45 (by decide) (fun c_9 => ?_) (fun c_9 => ?_)
            · refine lv_iconst (v := (-1)) hx hb dX5_nearest_96 (by decide) ?_
              refine W.widen (k := 60) (n := 5400) (by first | exact Nat.le_refl _ | omega) (by first | exact Nat.le_refl _ | omega) ?_
              exact W.iret (v := (-1)) hx hb hr (fun t ht hW => ⟨⟨(-1), (L6, fz), rfl, ⟨⟨pz, mz, kz, az, lz, hM⟩, hE⟩, show va_P D vwCl (va_pl _ _) t.heap from (by rw [ht]; exact hP)⟩, hS.F ht⟩) hS.2.2 dX5_nearest_97
            · exact absurd (nI_le (by omega) (by omega)) c_9
          | succ zn ih =>
            intro zj zq fz mz kz H locs ls hP hS hM hE9 hl
            have hD : va_D (mA L sz) (va_pl L6 fz) := hE.D
            have hzi : zp < mt_n τ := hzz
            have hMb : 1 ≤ mt_n τ ∧ mt_n τ ≤ 60 ∧ mt_mn τ ≤ 400 := hM.b
            have hMl : ls_cnt lz (mt_aa τ zp) ≤ 60 ∧ ∀ k, k < ls_cnt lz (mt_aa τ zp) → az zp k < mt_n τ ∧ ls_con lz (mt_aa τ zp) k = mt_ca τ (az zp k) := (hM.cl hzi).2.2.2.2.2
            replace hl : lv_has ls 7 [(6, .int (nI zj)), (5, .int zq), (4, .ref (mt_aa τ zp)), (0, .ref (mt_x τ)), (1, .int zx1), (2, .int zx2), (3, .int zx3)] := hl
            have hE8 : zj + (zn + 1) = ls_cnt lz (mt_aa τ zp) := hE9
            have hjt : zj < ls_cnt lz (mt_aa τ zp) := by omega
            have hbt := (hMl.2 zj hjt).1
            refine lv_iload hx hb dX5_nearest_38 (lv_at hl 0 rfl) ?_
            refine lv_aload hx hb dX5_nearest_40 (lv_at hl 2 rfl) ?_
            obtain ⟨mcz10, gz10, hfz10, hgz10, hcz10⟩ := hM.ly.raw (b := (mt_aa τ zp)) (hM.aa hzi).1 (hM.aa hzi).2
            refine va_calli (va_runV (As := []) (rest := [.int (nI zj)]) ⟨hx, hb, hml, hown, hts⟩ (c_Jx4a65c_size_8abf5 l D cO mi L6 fz (mt_aa τ zp) (hM.aa hzi).1 mcz10 (ls_dat lz (mt_aa τ zp)) (ls_cnt lz (mt_aa τ zp)) hfz10) (cwV 0 hts gX5_nearest_Jx4a65c_size_8abf5 rfl rfl rfl (by decide +kernel) ⟨Nat.le_of_ble_eq_true rfl, Nat.le_of_ble_eq_true rfl⟩) (mP_V hK hP 0 rfl (hM.aa hzi).1 hfz10) rfl rfl hl.1 rfl (lv_room (Nat.le_of_ble_eq_true rfl)) dX5_nearest_42 ⟨Nat.le_of_ble_eq_true rfl, Nat.le_of_ble_eq_true rfl⟩) hS (fun _ _ h => h.elim) (fun _ h => h.elim) (fun r_11 u t H1 locs ht hvm hw hB hz1 hk1 hS => ?_)
            replace hP := ro_kept hP hk1
            obtain rfl : r_11 = _ := hw
            clear hk1 hz1 hvm ht hB
            generalize H1 = H at hP hS ⊢
            clear hcz10 hgz10
            refine lv_icmp_ge (tgt := 96) hx hb dX5_nearest_45 (by decide) (fun c_12 => ?_) (fun c_12 => ?_)
            · exact absurd c_12 (nI_ge (by omega) (by omega))
            · refine lv_aload_n hx hb dX5_nearest_48 rfl (lv_at hl 3 rfl) ?_
              refine lv_aload hx hb dX5_nearest_49 (lv_at hl 2 rfl) ?_
              refine lv_iload hx hb dX5_nearest_51 (lv_at hl 0 rfl) ?_
              refine lv_iload_n hx hb dX5_nearest_53 rfl (lv_at hl 5 rfl) ?_
              have hszH : sz ≤ H.size := by have := hS.1; omega
              have hPold := hP
              refine va_calli (va_runV (As := [.ref (mt_aa τ zp), .int (nI zj), .int zx2]) (rest := []) ⟨hx, hb, hml, hown, hts⟩ (c_X5_isNearest l D cO mi e0 L6 fz H.size hE.nd (mt_f τ pz mz kz az lz) hM zp hzi zj hjt zx2) (cwV 3 hts gX5_nearest_X5_isNearest rfl rfl rfl (by decide +kernel) ⟨Nat.le_of_ble_eq_true rfl, Nat.le_of_ble_eq_true rfl⟩) (mW_V hK hJ hS (hE.sub (by have := hS.1; omega)) hP 6 rfl hM.x.1 hM.x.2) rfl rfl hl.1 rfl (lv_room (Nat.le_of_ble_eq_true rfl)) dX5_nearest_54 ⟨Nat.le_of_ble_eq_true rfl, Nat.le_of_ble_eq_true rfl⟩) hS (fun q _ h => (hE.sub (by have := hS.1; omega)) q h) (hE.sub (by have := hS.1; omega)) (fun r_13 u t H1 locs ht hvm hw hB hz1 hk1 hS => ?_)
              obtain ⟨L13, f13⟩ := u
              obtain ⟨hw, hE1⟩ := hw
              replace hB : va_P D vwCl (va_pl L13 f13) t.heap := hB
              rw [ht] at hB
              replace hE : pext L sz L13 := hE.tr (hszH) hE1
              obtain ⟨zb, hr1, hso, hL1, m9, k9, hM2⟩ := hw
              replace hL1 : L6 = L13 := hL1.symm
              subst hL1
              subst hr1
              have hso2 : zb = true → (t_idx (mt_mm (mt_f τ pz mz kz az lz) m9 k9) (az zp zj) zx2).isSome = true := by rw [t_idx_mm]; exact hso
              clear hMl hMb hzi hso
              obtain ⟨mz, kz, hM, hso⟩ : ∃ (m8 : Int32) (k8 : Nat → Int32), MI e0 cO L6 f13 (mt_f τ pz m8 k8 az lz) ∧ (zb = true → (t_idx (mt_f τ pz m8 k8 az lz) (az zp zj) zx2).isSome = true) := ⟨m9, k9, hM2, hso2⟩
              clear hM2 hso2
              have hzi : zp < mt_n τ := hzz
              have hMb : 1 ≤ mt_n τ ∧ mt_n τ ≤ 60 ∧ mt_mn τ ≤ 400 := hM.b
              have hMl : ls_cnt lz (mt_aa τ zp) ≤ 60 ∧ ∀ k, k < ls_cnt lz (mt_aa τ zp) → az zp k < mt_n τ ∧ ls_con lz (mt_aa τ zp) k = mt_ca τ (az zp k) := (hM.cl hzi).2.2.2.2.2
              have hbt := (hMl.2 zj hjt).1
              clear hPold hP hk1 hz1 hvm ht hszH hE1
              have hP := hB
              clear hB
              generalize H1 = H at hP hS ⊢
              have hD : va_D (mA L sz) (va_pl L6 f13) := hE.D
              refine lv_if_ne (tgt := 63) hx hb dX5_nearest_57 (by decide) (fun c_14 => ?_) (fun c_14 => ?_)
              · replace c_14 := bI_n0.mp c_14
                refine lv_iload hx hb dX5_nearest_63 (lv_at hl 1 rfl) ?_
                refine lv_iload_n hx hb dX5_nearest_65 rfl (lv_at hl 6 rfl) ?_
                refine lv_icmp_ne (tgt := 87) hx hb dX5_nearest_66 (by decide) (fun c_15 => ?_) (fun c_15 => ?_)
                · refine lv_iinc (v := (zq + (1))) (lv' := [(5, .int (zq + (1))), (6, .int (nI zj)), (4, .ref (mt_aa τ zp)), (0, .ref (mt_x τ)), (1, .int zx1), (2, .int zx2), (3, .int zx3)]) hx hb dX5_nearest_87 hl (k := 1) rfl rfl (by decide) rfl (fun ls hl => ?_)
                  refine lv_iinc (v := (nI (zj + 1))) (lv' := [(6, .int (nI (zj + 1))), (5, .int (zq + (1))), (4, .ref (mt_aa τ zp)), (0, .ref (mt_x τ)), (1, .int zx1), (2, .int zx2), (3, .int zx3)]) hx hb dX5_nearest_90 hl (k := 1) rfl (nI_1 _) (by decide) rfl (fun ls hl => ?_)
                  refine lv_goto (tgt := 38) hx hb dX5_nearest_93 (by decide) ?_
                  exact ih (zj + 1) (zq + (1)) f13 mz kz H locs ls hP hS hM (by omega) (lv_sub hl [0, 1, 2, 3, 4, 5, 6] rfl)
                · refine lv_aload hx hb dX5_nearest_69 (lv_at hl 2 rfl) ?_
                  refine lv_iload hx hb dX5_nearest_71 (lv_at hl 0 rfl) ?_
                  obtain ⟨mcz16, gz16, hfz16, hdz16, hfdz16, hcnz16, hcpz16, hgiz16⟩ := hM.ly.get (b := (mt_aa τ zp)) (i := zj) (hM.aa hzi).1 (hM.aa hzi).2 hjt
                  replace hgiz16 : gz16 zj = some (mt_ca τ (az zp zj)) := hgiz16.trans (congrArg some (hMl.2 zj hjt).2)
                  refine va_callq (va_runV (As := [.int (nI zj)]) (rest := []) ⟨hx, hb, hml, hown, hts⟩ (c_Jx4a65c_get_915e3 l D cO mi L6 f13 (mt_aa τ zp) (hM.aa hzi).1 mcz16 (ls_dat lz (mt_aa τ zp)) (ls_cnt lz (mt_aa τ zp)) hfz16 hdz16 (ls_cap lz (mt_aa τ zp)) gz16 hfdz16 hcnz16 hcpz16 zj hjt) (cwV 1 hts gX5_nearest_Jx4a65c_get_915e3 rfl rfl rfl (by decide +kernel) ⟨Nat.le_of_ble_eq_true rfl, Nat.le_of_ble_eq_true rfl⟩) (mP_V hK hP 0 rfl (hM.aa hzi).1 hfz16) rfl rfl hl.1 rfl (lv_room (Nat.le_of_ble_eq_true rfl)) dX5_nearest_73 ⟨Nat.le_of_ble_eq_true rfl, Nat.le_of_ble_eq_true rfl⟩) hS (fun _ _ h => h.elim) (fun _ h => h.elim) (fun r_17 u t H1 locs ht hvm hw hB hz1 hk1 hS => ?_)
                  replace hP := ro_kept hP hk1
                  obtain rfl : r_17 = _ := hw
                  clear hk1 hz1 hvm ht hB
                  generalize H1 = H at hP hS ⊢
                  rw [hgiz16]
                  clear hgiz16 hfdz16 hdz16 hcnz16 hcpz16
                  refine va_castY (C := RX3) hx hb hown (hts (.classLink RX5 19 RX3) (by decide +kernel)) hK.2.2.2.2.2.2.1 (pl_recv (ci := 4) hK.1 hP rfl (hM.cl hbt).1 (hM.cl hbt).2.1) dX5_nearest_76 ?_
                  refine lv_iload_n hx hb dX5_nearest_79 rfl (lv_at hl 5 rfl) ?_
                  refine va_callq (va_runV (As := [.int zx2]) (rest := []) ⟨hx, hb, hml, hown, hts⟩ (c_X3_named l D cO mi L6 f13 e0 (mt_f τ pz mz kz az lz) hM (az zp zj) hbt zx2) (cwV 1 hts gX5_nearest_X3_named rfl rfl rfl (by decide +kernel) ⟨Nat.le_of_ble_eq_true rfl, Nat.le_of_ble_eq_true rfl⟩) (mP_V hK hP 4 rfl (hM.cl hbt).1 (hM.cl hbt).2.1) rfl rfl hl.1 rfl (lv_room (Nat.le_of_ble_eq_true rfl)) dX5_nearest_80 ⟨Nat.le_of_ble_eq_true rfl, Nat.le_of_ble_eq_true rfl⟩) hS (fun _ _ h => h.elim) (fun _ h => h.elim) (fun r_18 u t H1 locs ht hvm hw hB hz1 hk1 hS => ?_)
                  replace hP := ro_kept hP hk1
                  obtain rfl : r_18 = _ := hw
                  clear hk1 hz1 hvm ht hB
                  generalize H1 = H at hP hS ⊢
                  obtain ⟨zja, htzja⟩ : ∃ z, t_idx (mt_f τ pz mz kz az lz) (az zp zj) zx2 = some z := Option.isSome_iff_exists.mp (hso c_14)
                  have hltzja : zja < mt_mn τ := t_idx_lt hM hbt htzja
                  rw [show t_named (mt_f τ pz mz kz az lz) (az zp zj) zx2 = some (mt_ja τ zja) by simp only [t_named, htzja]; rfl]
                  refine pl_get (D := D) (ci := 5) (v := .int (nI zja)) (C := RX4) (T := TX4) (N := 7) hx hb hts (by decide +kernel) hown hK.1 hP (hM.me hltzja).1 (hM.me hltzja).2.1 rfl 0 (by decide) (hts (.fieldLink RX5 65 "ChooseTreeModel$Met" "number" "I") (by decide +kernel)) (fun _ h9 => h9) rfl dX5_nearest_83 ?_
                  refine W.widen (k := 60) (n := 5400) (by first | exact Nat.le_refl _ | omega) (by first | exact Nat.le_refl _ | omega) ?_
                  exact W.iret (v := (nI zja)) hx hb hr (fun t ht hW => ⟨⟨(nI zja), (L6, f13), rfl, ⟨⟨pz, mz, kz, az, lz, hM⟩, hE⟩, show va_P D vwCl (va_pl _ _) t.heap from (by rw [ht]; exact hP)⟩, hS.F ht⟩) hS.2.2 dX5_nearest_86
              · replace c_14 := bI_0.mp c_14
                refine lv_goto (tgt := 90) hx hb dX5_nearest_60 (by decide) ?_
                refine lv_iinc (v := (nI (zj + 1))) (lv' := [(6, .int (nI (zj + 1))), (5, .int zq), (4, .ref (mt_aa τ zp)), (0, .ref (mt_x τ)), (1, .int zx1), (2, .int zx2), (3, .int zx3)]) hx hb dX5_nearest_90 hl (k := 0) rfl (nI_1 _) (by decide) rfl (fun ls hl => ?_)
                refine lv_goto (tgt := 38) hx hb dX5_nearest_93 (by decide) ?_
                exact ih (zj + 1) zq f13 mz kz H locs ls hP hS hM (by omega) (lv_sub hl [0, 1, 2, 3, 4, 5, 6] rfl)
        · have hzz := (t_ati_lt hM htzp)
          have hszH : sz ≤ H.size := by have := hS.1; omega
          have hPold := hP
          refine va_callq (va_runV (As := [.ref (mt_ca τ zp)]) (rest := []) ⟨hx, hb, hml, hown, hts⟩ (c_X5_facesOf1 l D cO mi e0 L f H.size hE.nd τ hM zp hzz hpt) (cwV 1 hts gX5_nearest_X5_facesOf rfl rfl rfl (by decide +kernel) ⟨Nat.le_of_ble_eq_true rfl, Nat.le_of_ble_eq_true rfl⟩) (mW_V hK hJ hS (hE.sub (by have := hS.1; omega)) hP 6 rfl hM.x.1 hM.x.2) rfl rfl hl.1 rfl (lv_room (Nat.le_of_ble_eq_true rfl)) dX5_nearest_27 ⟨Nat.le_of_ble_eq_true rfl, Nat.le_of_ble_eq_true rfl⟩) hS (fun q _ h => (hE.sub (by have := hS.1; omega)) q h) (hE.sub (by have := hS.1; omega)) (fun r_19 u t H1 locs ht hvm hw hB hz1 hk1 hS => ?_)
          obtain ⟨L19, f19⟩ := u
          obtain ⟨hw, hE1⟩ := hw
          replace hB : va_P D vwCl (va_pl L19 f19) t.heap := hB
          rw [ht] at hB
          replace hE : pext L sz L19 := hE.tr (hszH) hE1
          obtain ⟨hr1, pz, mz, kz, az, lz, hM2, hpz, hlq⟩ := hw
          subst hr1
          replace hM : MI e0 cO L19 f19 (mt_f τ pz mz kz az lz) := hM2
          clear hM2
          clear hPold hP hk1 hz1 hvm ht hszH hE1
          have hP := hB
          clear hB
          generalize H1 = H at hP hS ⊢
          have hD : va_D (mA L sz) (va_pl L19 f19) := hE.D
          replace hl : lv_has ls 7 [(0, .ref (mt_x τ)), (1, .int zx1), (2, .int zx2), (3, .int zx3)] := hl
          have hzi : zp < mt_n τ := hzz
          have hMb : 1 ≤ mt_n τ ∧ mt_n τ ≤ 60 ∧ mt_mn τ ≤ 400 := hM.b
          have hMl : ls_cnt lz (mt_aa τ zp) ≤ 60 ∧ ∀ k, k < ls_cnt lz (mt_aa τ zp) → az zp k < mt_n τ ∧ ls_con lz (mt_aa τ zp) k = mt_ca τ (az zp k) := (hM.cl hzi).2.2.2.2.2
          refine lv_astore (lv' := [(4, .ref (mt_aa τ zp)), (0, .ref (mt_x τ)), (1, .int zx1), (2, .int zx2), (3, .int zx3)]) hx hb dX5_nearest_30 hl (by decide) rfl (fun ls hl => ?_)
          refine lv_iconst (v := (nI 0)) hx hb dX5_nearest_32 (by decide) ?_
          refine lv_istore (lv' := [(5, .int (nI 0)), (4, .ref (mt_aa τ zp)), (0, .ref (mt_x τ)), (1, .int zx1), (2, .int zx2), (3, .int zx3)]) hx hb dX5_nearest_33 hl (by decide) rfl (fun ls hl => ?_)
          refine lv_iconst (v := (nI 0)) hx hb dX5_nearest_35 (by decide) ?_
          refine lv_istore (lv' := [(6, .int (nI 0)), (5, .int (nI 0)), (4, .ref (mt_aa τ zp)), (0, .ref (mt_x τ)), (1, .int zx1), (2, .int zx2), (3, .int zx3)]) hx hb dX5_nearest_36 hl (by decide) rfl (fun ls hl => ?_)
          obtain ⟨fz, hfz⟩ : ∃ z, z = f19 := ⟨_, rfl⟩
          rw [← hfz] at hP hM
          clear hfz hD
          obtain ⟨zn, hzn⟩ : ∃ z : Nat, z = ls_cnt lz (mt_aa τ zp) := ⟨_, rfl⟩
          obtain ⟨zj, hzj⟩ : ∃ z : Nat, z = 0 := ⟨_, rfl⟩
          have hE9 : zj + zn = ls_cnt lz (mt_aa τ zp) := by omega
          obtain ⟨zq, hzq⟩ : ∃ z : Int32, z = nI 0 := ⟨_, rfl⟩
          replace hl : lv_has ls 7 [(6, .int (nI zj)), (5, .int zq), (4, .ref (mt_aa τ zp)), (0, .ref (mt_x τ)), (1, .int zx1), (2, .int zx2), (3, .int zx3)] := by rw [hzj, hzq]; exact lv_sub hl [0, 1, 2, 3, 4, 5, 6] rfl
          clear hzn hzj hMl hMb hzi hzq
          replace hl : lv_has ls 7 [(6, .int (nI zj)), (5, .int zq), (4, .ref (mt_aa τ zp)), (0, .ref (mt_x τ)), (1, .int zx1), (2, .int zx2), (3, .int zx3)] := hl
          revert hl
          revert hE9
          revert hM
          revert hS
          revert hP
          revert ls
          revert locs
          revert H
          revert kz
          revert mz
          revert fz
          revert zq
          revert zj
          induction zn with
          | zero =>
            intro zj zq fz mz kz H locs ls hP hS hM hE9 hl
            have hD : va_D (mA L sz) (va_pl L19 fz) := hE.D
            have hzi : zp < mt_n τ := hzz
            have hMb : 1 ≤ mt_n τ ∧ mt_n τ ≤ 60 ∧ mt_mn τ ≤ 400 := hM.b
            have hMl : ls_cnt lz (mt_aa τ zp) ≤ 60 ∧ ∀ k, k < ls_cnt lz (mt_aa τ zp) → az zp k < mt_n τ ∧ ls_con lz (mt_aa τ zp) k = mt_ca τ (az zp k) := (hM.cl hzi).2.2.2.2.2
            replace hl : lv_has ls 7 [(6, .int (nI zj)), (5, .int zq), (4, .ref (mt_aa τ zp)), (0, .ref (mt_x τ)), (1, .int zx1), (2, .int zx2), (3, .int zx3)] := hl
            have hE8 : zj + 0 = ls_cnt lz (mt_aa τ zp) := hE9
            refine lv_iload hx hb dX5_nearest_38 (lv_at hl 0 rfl) ?_
            refine lv_aload hx hb dX5_nearest_40 (lv_at hl 2 rfl) ?_
            obtain ⟨mcz20, gz20, hfz20, hgz20, hcz20⟩ := hM.ly.raw (b := (mt_aa τ zp)) (hM.aa hzi).1 (hM.aa hzi).2
            refine va_calli (va_runV (As := []) (rest := [.int (nI zj)]) ⟨hx, hb, hml, hown, hts⟩ (c_Jx4a65c_size_8abf5 l D cO mi L19 fz (mt_aa τ zp) (hM.aa hzi).1 mcz20 (ls_dat lz (mt_aa τ zp)) (ls_cnt lz (mt_aa τ zp)) hfz20) (cwV 0 hts gX5_nearest_Jx4a65c_size_8abf5 rfl rfl rfl (by decide +kernel) ⟨Nat.le_of_ble_eq_true rfl, Nat.le_of_ble_eq_true rfl⟩) (mP_V hK hP 0 rfl (hM.aa hzi).1 hfz20) rfl rfl hl.1 rfl (lv_room (Nat.le_of_ble_eq_true rfl)) dX5_nearest_42 ⟨Nat.le_of_ble_eq_true rfl, Nat.le_of_ble_eq_true rfl⟩) hS (fun _ _ h => h.elim) (fun _ h => h.elim) (fun r_21 u t H1 locs ht hvm hw hB hz1 hk1 hS => ?_)
            replace hP := ro_kept hP hk1
            obtain rfl : r_21 = _ := hw
            clear hk1 hz1 hvm ht hB
            generalize H1 = H at hP hS ⊢
            clear hcz20 hgz20
            refine lv_icmp_ge (tgt := 96) hx hb dX5_nearest_45 (by decide) (fun c_22 => ?_) (fun c_22 => ?_)
            · refine lv_iconst (v := (-1)) hx hb dX5_nearest_96 (by decide) ?_
              refine W.widen (k := 60) (n := 5400) (by first | exact Nat.le_refl _ | omega) (by first | exact Nat.le_refl _ | omega) ?_
              exact W.iret (v := (-1)) hx hb hr (fun t ht hW => ⟨⟨(-1), (L19, fz), rfl, ⟨⟨pz, mz, kz, az, lz, hM⟩, hE⟩, show va_P D vwCl (va_pl _ _) t.heap from (by rw [ht]; exact hP)⟩, hS.F ht⟩) hS.2.2 dX5_nearest_97
            · exact absurd (nI_le (by omega) (by omega)) c_22
          | succ zn ih =>
            intro zj zq fz mz kz H locs ls hP hS hM hE9 hl
            have hD : va_D (mA L sz) (va_pl L19 fz) := hE.D
            have hzi : zp < mt_n τ := hzz
            have hMb : 1 ≤ mt_n τ ∧ mt_n τ ≤ 60 ∧ mt_mn τ ≤ 400 := hM.b
            have hMl : ls_cnt lz (mt_aa τ zp) ≤ 60 ∧ ∀ k, k < ls_cnt lz (mt_aa τ zp) → az zp k < mt_n τ ∧ ls_con lz (mt_aa τ zp) k = mt_ca τ (az zp k) := (hM.cl hzi).2.2.2.2.2
            replace hl : lv_has ls 7 [(6, .int (nI zj)), (5, .int zq), (4, .ref (mt_aa τ zp)), (0, .ref (mt_x τ)), (1, .int zx1), (2, .int zx2), (3, .int zx3)] := hl
            have hE8 : zj + (zn + 1) = ls_cnt lz (mt_aa τ zp) := hE9
            have hjt : zj < ls_cnt lz (mt_aa τ zp) := by omega
            have hbt := (hMl.2 zj hjt).1
            refine lv_iload hx hb dX5_nearest_38 (lv_at hl 0 rfl) ?_
            refine lv_aload hx hb dX5_nearest_40 (lv_at hl 2 rfl) ?_
            obtain ⟨mcz23, gz23, hfz23, hgz23, hcz23⟩ := hM.ly.raw (b := (mt_aa τ zp)) (hM.aa hzi).1 (hM.aa hzi).2
            refine va_calli (va_runV (As := []) (rest := [.int (nI zj)]) ⟨hx, hb, hml, hown, hts⟩ (c_Jx4a65c_size_8abf5 l D cO mi L19 fz (mt_aa τ zp) (hM.aa hzi).1 mcz23 (ls_dat lz (mt_aa τ zp)) (ls_cnt lz (mt_aa τ zp)) hfz23) (cwV 0 hts gX5_nearest_Jx4a65c_size_8abf5 rfl rfl rfl (by decide +kernel) ⟨Nat.le_of_ble_eq_true rfl, Nat.le_of_ble_eq_true rfl⟩) (mP_V hK hP 0 rfl (hM.aa hzi).1 hfz23) rfl rfl hl.1 rfl (lv_room (Nat.le_of_ble_eq_true rfl)) dX5_nearest_42 ⟨Nat.le_of_ble_eq_true rfl, Nat.le_of_ble_eq_true rfl⟩) hS (fun _ _ h => h.elim) (fun _ h => h.elim) (fun r_24 u t H1 locs ht hvm hw hB hz1 hk1 hS => ?_)
            replace hP := ro_kept hP hk1
            obtain rfl : r_24 = _ := hw
            clear hk1 hz1 hvm ht hB
            generalize H1 = H at hP hS ⊢
            clear hcz23 hgz23
            refine lv_icmp_ge (tgt := 96) hx hb dX5_nearest_45 (by decide) (fun c_25 => ?_) (fun c_25 => ?_)
            · exact absurd c_25 (nI_ge (by omega) (by omega))
            · refine lv_aload_n hx hb dX5_nearest_48 rfl (lv_at hl 3 rfl) ?_
              refine lv_aload hx hb dX5_nearest_49 (lv_at hl 2 rfl) ?_
              refine lv_iload hx hb dX5_nearest_51 (lv_at hl 0 rfl) ?_
              refine lv_iload_n hx hb dX5_nearest_53 rfl (lv_at hl 5 rfl) ?_
              have hszH : sz ≤ H.size := by have := hS.1; omega
              have hPold := hP
              refine va_calli (va_runV (As := [.ref (mt_aa τ zp), .int (nI zj), .int zx2]) (rest := []) ⟨hx, hb, hml, hown, hts⟩ (c_X5_isNearest l D cO mi e0 L19 fz H.size hE.nd (mt_f τ pz mz kz az lz) hM zp hzi zj hjt zx2) (cwV 3 hts gX5_nearest_X5_isNearest rfl rfl rfl (by decide +kernel) ⟨Nat.le_of_ble_eq_true rfl, Nat.le_of_ble_eq_true rfl⟩) (mW_V hK hJ hS (hE.sub (by have := hS.1; omega)) hP 6 rfl hM.x.1 hM.x.2) rfl rfl hl.1 rfl (lv_room (Nat.le_of_ble_eq_true rfl)) dX5_nearest_54 ⟨Nat.le_of_ble_eq_true rfl, Nat.le_of_ble_eq_true rfl⟩) hS (fun q _ h => (hE.sub (by have := hS.1; omega)) q h) (hE.sub (by have := hS.1; omega)) (fun r_26 u t H1 locs ht hvm hw hB hz1 hk1 hS => ?_)
              obtain ⟨L26, f26⟩ := u
              obtain ⟨hw, hE1⟩ := hw
              replace hB : va_P D vwCl (va_pl L26 f26) t.heap := hB
              rw [ht] at hB
              replace hE : pext L sz L26 := hE.tr (hszH) hE1
              obtain ⟨zb, hr1, hso, hL1, m9, k9, hM2⟩ := hw
              replace hL1 : L19 = L26 := hL1.symm
              subst hL1
              subst hr1
              have hso2 : zb = true → (t_idx (mt_mm (mt_f τ pz mz kz az lz) m9 k9) (az zp zj) zx2).isSome = true := by rw [t_idx_mm]; exact hso
              clear hMl hMb hzi hso
              obtain ⟨mz, kz, hM, hso⟩ : ∃ (m8 : Int32) (k8 : Nat → Int32), MI e0 cO L19 f26 (mt_f τ pz m8 k8 az lz) ∧ (zb = true → (t_idx (mt_f τ pz m8 k8 az lz) (az zp zj) zx2).isSome = true) := ⟨m9, k9, hM2, hso2⟩
              clear hM2 hso2
              have hzi : zp < mt_n τ := hzz
              have hMb : 1 ≤ mt_n τ ∧ mt_n τ ≤ 60 ∧ mt_mn τ ≤ 400 := hM.b
              have hMl : ls_cnt lz (mt_aa τ zp) ≤ 60 ∧ ∀ k, k < ls_cnt lz (mt_aa τ zp) → az zp k < mt_n τ ∧ ls_con lz (mt_aa τ zp) k = mt_ca τ (az zp k) := (hM.cl hzi).2.2.2.2.2
              have hbt := (hMl.2 zj hjt).1
              clear hPold hP hk1 hz1 hvm ht hszH hE1
              have hP := hB
              clear hB
              generalize H1 = H at hP hS ⊢
              have hD : va_D (mA L sz) (va_pl L19 f26) := hE.D
              refine lv_if_ne (tgt := 63) hx hb dX5_nearest_57 (by decide) (fun c_27 => ?_) (fun c_27 => ?_)
              · replace c_27 := bI_n0.mp c_27
                refine lv_iload hx hb dX5_nearest_63 (lv_at hl 1 rfl) ?_
                refine lv_iload_n hx hb dX5_nearest_65 rfl (lv_at hl 6 rfl) ?_
                refine lv_icmp_ne (tgt := 87) hx hb dX5_nearest_66 (by decide) (fun c_28 => ?_) (fun c_28 => ?_)
                · refine lv_iinc (v := (zq + (1))) (lv' := [(5, .int (zq + (1))), (6, .int (nI zj)), (4, .ref (mt_aa τ zp)), (0, .ref (mt_x τ)), (1, .int zx1), (2, .int zx2), (3, .int zx3)]) hx hb dX5_nearest_87 hl (k := 1) rfl rfl (by decide) rfl (fun ls hl => ?_)
                  refine lv_iinc (v := (nI (zj + 1))) (lv' := [(6, .int (nI (zj + 1))), (5, .int (zq + (1))), (4, .ref (mt_aa τ zp)), (0, .ref (mt_x τ)), (1, .int zx1), (2, .int zx2), (3, .int zx3)]) hx hb dX5_nearest_90 hl (k := 1) rfl (nI_1 _) (by decide) rfl (fun ls hl => ?_)
                  refine lv_goto (tgt := 38) hx hb dX5_nearest_93 (by decide) ?_
                  exact ih (zj + 1) (zq + (1)) f26 mz kz H locs ls hP hS hM (by omega) (lv_sub hl [0, 1, 2, 3, 4, 5, 6] rfl)
                · refine lv_aload hx hb dX5_nearest_69 (lv_at hl 2 rfl) ?_
                  refine lv_iload hx hb dX5_nearest_71 (lv_at hl 0 rfl) ?_
                  obtain ⟨mcz29, gz29, hfz29, hdz29, hfdz29, hcnz29, hcpz29, hgiz29⟩ := hM.ly.get (b := (mt_aa τ zp)) (i := zj) (hM.aa hzi).1 (hM.aa hzi).2 hjt
                  replace hgiz29 : gz29 zj = some (mt_ca τ (az zp zj)) := hgiz29.trans (congrArg some (hMl.2 zj hjt).2)
                  refine va_callq (va_runV (As := [.int (nI zj)]) (rest := []) ⟨hx, hb, hml, hown, hts⟩ (c_Jx4a65c_get_915e3 l D cO mi L19 f26 (mt_aa τ zp) (hM.aa hzi).1 mcz29 (ls_dat lz (mt_aa τ zp)) (ls_cnt lz (mt_aa τ zp)) hfz29 hdz29 (ls_cap lz (mt_aa τ zp)) gz29 hfdz29 hcnz29 hcpz29 zj hjt) (cwV 1 hts gX5_nearest_Jx4a65c_get_915e3 rfl rfl rfl (by decide +kernel) ⟨Nat.le_of_ble_eq_true rfl, Nat.le_of_ble_eq_true rfl⟩) (mP_V hK hP 0 rfl (hM.aa hzi).1 hfz29) rfl rfl hl.1 rfl (lv_room (Nat.le_of_ble_eq_true rfl)) dX5_nearest_73 ⟨Nat.le_of_ble_eq_true rfl, Nat.le_of_ble_eq_true rfl⟩) hS (fun _ _ h => h.elim) (fun _ h => h.elim) (fun r_30 u t H1 locs ht hvm hw hB hz1 hk1 hS => ?_)
                  replace hP := ro_kept hP hk1
                  obtain rfl : r_30 = _ := hw
                  clear hk1 hz1 hvm ht hB
                  generalize H1 = H at hP hS ⊢
                  rw [hgiz29]
                  clear hgiz29 hfdz29 hdz29 hcnz29 hcpz29
                  refine va_castY (C := RX3) hx hb hown (hts (.classLink RX5 19 RX3) (by decide +kernel)) hK.2.2.2.2.2.2.1 (pl_recv (ci := 4) hK.1 hP rfl (hM.cl hbt).1 (hM.cl hbt).2.1) dX5_nearest_76 ?_
                  refine lv_iload_n hx hb dX5_nearest_79 rfl (lv_at hl 5 rfl) ?_
                  refine va_callq (va_runV (As := [.int zx2]) (rest := []) ⟨hx, hb, hml, hown, hts⟩ (c_X3_named l D cO mi L19 f26 e0 (mt_f τ pz mz kz az lz) hM (az zp zj) hbt zx2) (cwV 1 hts gX5_nearest_X3_named rfl rfl rfl (by decide +kernel) ⟨Nat.le_of_ble_eq_true rfl, Nat.le_of_ble_eq_true rfl⟩) (mP_V hK hP 4 rfl (hM.cl hbt).1 (hM.cl hbt).2.1) rfl rfl hl.1 rfl (lv_room (Nat.le_of_ble_eq_true rfl)) dX5_nearest_80 ⟨Nat.le_of_ble_eq_true rfl, Nat.le_of_ble_eq_true rfl⟩) hS (fun _ _ h => h.elim) (fun _ h => h.elim) (fun r_31 u t H1 locs ht hvm hw hB hz1 hk1 hS => ?_)
                  replace hP := ro_kept hP hk1
                  obtain rfl : r_31 = _ := hw
                  clear hk1 hz1 hvm ht hB
                  generalize H1 = H at hP hS ⊢
                  obtain ⟨zja, htzja⟩ : ∃ z, t_idx (mt_f τ pz mz kz az lz) (az zp zj) zx2 = some z := Option.isSome_iff_exists.mp (hso c_27)
                  have hltzja : zja < mt_mn τ := t_idx_lt hM hbt htzja
                  rw [show t_named (mt_f τ pz mz kz az lz) (az zp zj) zx2 = some (mt_ja τ zja) by simp only [t_named, htzja]; rfl]
                  refine pl_get (D := D) (ci := 5) (v := .int (nI zja)) (C := RX4) (T := TX4) (N := 7) hx hb hts (by decide +kernel) hown hK.1 hP (hM.me hltzja).1 (hM.me hltzja).2.1 rfl 0 (by decide) (hts (.fieldLink RX5 65 "ChooseTreeModel$Met" "number" "I") (by decide +kernel)) (fun _ h9 => h9) rfl dX5_nearest_83 ?_
                  refine W.widen (k := 60) (n := 5400) (by first | exact Nat.le_refl _ | omega) (by first | exact Nat.le_refl _ | omega) ?_
                  exact W.iret (v := (nI zja)) hx hb hr (fun t ht hW => ⟨⟨(nI zja), (L19, f26), rfl, ⟨⟨pz, mz, kz, az, lz, hM⟩, hE⟩, show va_P D vwCl (va_pl _ _) t.heap from (by rw [ht]; exact hP)⟩, hS.F ht⟩) hS.2.2 dX5_nearest_86
              · replace c_27 := bI_0.mp c_27
                refine lv_goto (tgt := 90) hx hb dX5_nearest_60 (by decide) ?_
                refine lv_iinc (v := (nI (zj + 1))) (lv' := [(6, .int (nI (zj + 1))), (5, .int zq), (4, .ref (mt_aa τ zp)), (0, .ref (mt_x τ)), (1, .int zx1), (2, .int zx2), (3, .int zx3)]) hx hb dX5_nearest_90 hl (k := 0) rfl (nI_1 _) (by decide) rfl (fun ls hl => ?_)
                refine lv_goto (tgt := 38) hx hb dX5_nearest_93 (by decide) ?_
                exact ih (zj + 1) zq f26 mz kz H locs ls hP hS hM (by omega) (lv_sub hl [0, 1, 2, 3, 4, 5, 6] rfl)
      · refine lv_iconst (v := (-1)) hx hb dX5_nearest_19 (by decide) ?_
        refine W.widen (k := 60) (n := 5400) (by first | exact Nat.le_refl _ | omega) (by first | exact Nat.le_refl _ | omega) ?_
        exact W.iret (v := (-1)) hx hb hr (fun t ht hW => ⟨⟨(-1), (L, f), rfl, ⟨⟨mt_pt τ, mt_mark τ, mt_mk τ, mt_al τ, mt_ls τ, hM⟩, hE⟩, show va_P D vwCl (va_pl _ _) t.heap from (by rw [ht]; exact hP)⟩, hS.F ht⟩) hS.2.2 dX5_nearest_20
