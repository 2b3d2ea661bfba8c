set_option maxHeartbeats 4000000 in
set_option maxRecDepth 100000 in
theorem c_X5_isNearest (l : Launch) (D : va_G) (cO : ClassId) (mi e0 : Nat) (L : List Nat) (f : Nat → va_E) (sz : Nat) (hnd : L.Nodup) (τ : MT) (hM : MI e0 cO L f τ) (zi : Nat) (hzi : zi < mt_n τ) (zt : Nat) (hzt : zt < mt_cnt τ (mt_aa τ zi)) (zx1 : Int32) : Met l yX5_isNearest wsX5_isNearest { frames := 67, cells := 0, slots := 0, locals := 1548 } (mW D cO mi e0 L f sz [.ref (mt_x τ), .ref (mt_aa τ zi), .int (nI zt), .int zx1]) (wQi D L sz (fun r u => ∃ zb : Bool, r = bI zb ∧ (zb = true → (t_idx τ (mt_al τ zi zt) zx1).isSome = true) ∧ u.1 = L ∧ (∃ (m9 : Int32) (k9 : Nat → Int32), MI e0 cO L u.2 (mt_mm τ m9 k9)))) 0 0 (mA L sz) := by
  refine Met.ofW (cc := cX5_isNearest) (maxL := 5) (ret := (some .boolean)) (by decide) rfl ?_
  intro p e s m args below meth cq s₁ B hml hv
  obtain ⟨rfl, hsz, hP, hK, hJ⟩ := hv
  have hx := B.exec
  have hb := B.bytes
  have hr := B.returns
  have hts := atoms_spec (ws := wsX5_isNearest) B.pre
  have hown : s.vm.findClass RX5 = some m.cls := findClass_of_methodNamed B.named
  have hlocks := B.notSynchronized
  have hin := (name_of_methodNamed B.named B.method).1
  clear B
  have hl := lv_entry ([.ref (mt_x τ), .ref (mt_aa τ zi), .int (nI zt), .int zx1]) (n := 5) (Nat.le_of_ble_eq_true rfl)
  rw [lg_entry_eq]
  generalize (lg_sl ([.ref (mt_x τ), .ref (mt_aa τ zi), .int (nI zt), .int zx1]) ++ List.replicate (5 - (lg_sl ([.ref (mt_x τ), .ref (mt_aa τ zi), .int (nI zt), .int zx1])).length) Slot.unset).toArray = ls at hl ⊢
  replace hl : lv_has ls 5 [(0, .ref (mt_x τ)), (1, .ref (mt_aa τ zi)), (2, .int (nI zt)), (3, .int zx1)] := hl
  have hA : ∀ q : Nat, s.heap.size ≤ q → mA L sz q := fun q h => Or.inr (by omega)
  have hE : pext L sz L := pext.rf hnd
  have hD : va_D (mA L sz) (va_pl L f) := hE.D
  refine gen_start (A := mA L sz) (fun H locs hP hS => ?_) hP
  have hMb : 1 ≤ mt_n τ ∧ mt_n τ ≤ 60 ∧ mt_mn τ ≤ 400 := hM.b
  obtain ⟨mz, hmz⟩ : ∃ z, z = mt_mark τ := ⟨_, rfl⟩
  obtain ⟨kz, hkz⟩ : ∃ z, z = mt_mk τ := ⟨_, rfl⟩
  obtain ⟨fz, hfz⟩ : ∃ z, z = f := ⟨_, rfl⟩
  have hMl : mt_cnt τ (mt_aa τ zi) ≤ 60 ∧ ∀ k, k < mt_cnt τ (mt_aa τ zi) → mt_al τ zi k < mt_n τ ∧ mt_con τ (mt_aa τ zi) k = mt_ca τ (mt_al τ zi k) := (hM.cl hzi).2.2.2.2.2
  replace hM : MI e0 cO L fz (mt_mm τ mz kz) := by rw [hfz, hmz, hkz]; exact hM
  rw [← hfz] at hP hD
  clear hmz hkz hfz
  have hat := (hMl.2 zt hzt).1
  refine lv_aload_n hx hb dX5_isNearest_0 rfl (lv_at hl 1 rfl) ?_
  refine lv_iload_n hx hb dX5_isNearest_1 rfl (lv_at hl 2 rfl) ?_
  obtain ⟨mcz1, gz1, hfz1, hdz1, hfdz1, hcnz1, hcpz1, hgiz1⟩ := hM.ly.get (b := (mt_aa τ zi)) (i := zt) (hM.aa hzi).1 (hM.aa hzi).2 hzt
  replace hgiz1 : gz1 zt = some (mt_ca τ (mt_al τ zi zt)) := hgiz1.trans (congrArg some (hMl.2 zt hzt).2)
  refine va_callq (va_runV (As := [.int (nI zt)]) (rest := []) ⟨hx, hb, hml, hown, hts⟩ (c_Jx4a65c_get_915e3 l D cO mi L fz (mt_aa τ zi) (hM.aa hzi).1 mcz1 (ls_dat (mt_ls τ) (mt_aa τ zi)) (mt_cnt τ (mt_aa τ zi)) hfz1 hdz1 (ls_cap (mt_ls τ) (mt_aa τ zi)) gz1 hfdz1 hcnz1 hcpz1 zt hzt) (cwV 1 hts gX5_isNearest_Jx4a65c_get_915e3 rfl rfl rfl (by decide +kernel) ⟨Nat.le_of_ble_eq_true rfl, Nat.le_of_ble_eq_true rfl⟩) (mP_V hK hP 0 rfl (hM.aa hzi).1 hfz1) rfl rfl hl.1 rfl (lv_room (Nat.le_of_ble_eq_true rfl)) dX5_isNearest_2 ⟨Nat.le_of_ble_eq_true rfl, Nat.le_of_ble_eq_true rfl⟩) hS (fun _ _ h => h.elim) (fun _ h => h.elim) (fun r_2 u t H1 locs ht hvm hw hB hz1 hk1 hS => ?_)
  replace hP := ro_kept hP hk1
  obtain rfl : r_2 = _ := hw
  clear hk1 hz1 hvm ht hB
  generalize H1 = H at hP hS ⊢
  rw [hgiz1]
  clear hgiz1 hfdz1 hdz1 hcnz1 hcpz1
  refine va_castY (C := RX3) hx hb hown (hts (.classLink RX5 19 RX3) (by decide +kernel)) hK.2.2.2.2.2.2.1 (pl_recv (ci := 4) hK.1 hP rfl (hM.cl hat).1 (hM.cl hat).2.1) dX5_isNearest_5 ?_
  refine lv_iload_n hx hb dX5_isNearest_8 rfl (lv_at hl 3 rfl) ?_
  refine va_callq (va_runV (As := [.int zx1]) (rest := []) ⟨hx, hb, hml, hown, hts⟩ (c_X3_named l D cO mi L fz e0 (mt_mm τ mz kz) hM (mt_al τ zi zt) hat zx1) (cwV 1 hts gX5_isNearest_X3_named rfl rfl rfl (by decide +kernel) ⟨Nat.le_of_ble_eq_true rfl, Nat.le_of_ble_eq_true rfl⟩) (mP_V hK hP 4 rfl (hM.cl hat).1 (hM.cl hat).2.1) rfl rfl hl.1 rfl (lv_room (Nat.le_of_ble_eq_true rfl)) dX5_isNearest_9 ⟨Nat.le_of_ble_eq_true rfl, Nat.le_of_ble_eq_true rfl⟩) hS (fun _ _ h => h.elim) (fun _ h => h.elim) (fun r_3 u t H1 locs ht hvm hw hB hz1 hk1 hS => ?_)
  replace hP := ro_kept hP hk1
  obtain rfl : r_3 = _ := hw
  clear hk1 hz1 hvm ht hB
  generalize H1 = H at hP hS ⊢
  rw [t_named_mm]
  rcases htzja : t_idx τ (mt_al τ zi zt) zx1 with _ | zja
  · rw [show t_named τ (mt_al τ zi zt) zx1 = none by simp [t_named, htzja]]
    refine lv_ifnonnullN hx hb dX5_isNearest_12 ?_
    refine lv_iconst (v := (nI 0)) hx hb dX5_isNearest_15 (by decide) ?_
    refine W.widen (k := 0) (n := 0) (by first | exact Nat.le_refl _ | omega) (by first | exact Nat.le_refl _ | omega) ?_
    exact W.zret (v := (nI 0)) hx hb hr rfl (fun t ht hW => ⟨⟨(nI 0), (L, fz), rfl, ⟨⟨false, rfl, fun h9 => absurd h9 (by decide), rfl, _, _, hM⟩, hE⟩, show va_P D vwCl (va_pl _ _) t.heap from (by rw [ht]; exact hP)⟩, hS.F ht⟩) hS.2.2 dX5_isNearest_16
  · rw [show t_named τ (mt_al τ zi zt) zx1 = some (mt_ja τ zja) by simp [t_named, htzja]]
    have hltzja : zja < mt_mn τ := t_idx_lt hM hat (i := (mt_al τ zi zt)) (x := zx1) (by rw [t_idx_mm]; exact htzja)
    refine lv_ifnonnull (tgt := 17) hx hb dX5_isNearest_12 (by decide) ?_
    refine lv_iconst (v := (nI 0)) hx hb dX5_isNearest_17 (by decide) ?_
    refine lv_istore (lv' := [(4, .int (nI 0)), (0, .ref (mt_x τ)), (1, .ref (mt_aa τ zi)), (2, .int (nI zt)), (3, .int zx1)]) hx hb dX5_isNearest_18 hl (by decide) rfl (fun ls hl => ?_)
    have hso : (t_idx τ (mt_al τ zi zt) zx1).isSome = true := by rw [htzja]; rfl
    obtain ⟨zn, hzn⟩ : ∃ z : Nat, z = (mt_cnt τ (mt_aa τ zi)) := ⟨_, rfl⟩
    obtain ⟨zj, hzj⟩ : ∃ z : Nat, z = 0 := ⟨_, rfl⟩
    have hE9 : zj + zn = (mt_cnt τ (mt_aa τ zi)) := by omega
    replace hl : lv_has ls 5 [(4, .int (nI zj)), (0, .ref (mt_x τ)), (1, .ref (mt_aa τ zi)), (2, .int (nI zt)), (3, .int zx1)] := by rw [hzj]; exact lv_sub hl [0, 1, 2, 3, 4] rfl
    clear hzn hzj hD
    clear hfz1
    revert hl
    revert hE9
    revert hM
    revert hS
    revert hP
    revert ls
    revert locs
    revert H
    revert kz
    revert mz
    revert fz
    revert zj
    induction zn with
    | zero =>
      intro zj fz mz kz H locs ls hP hS hM hE9 hl
      have hD : va_D (mA L sz) (va_pl L fz) := hE.D
      refine lv_iload hx hb dX5_isNearest_20 (lv_at hl 0 rfl) ?_
      refine lv_aload_n hx hb dX5_isNearest_22 rfl (lv_at hl 2 rfl) ?_
      obtain ⟨mcz4, gz4, hfz4, hgz4, hcz4⟩ := hM.ly.raw (b := (mt_aa τ zi)) (hM.aa hzi).1 (hM.aa hzi).2
      refine va_calli (va_runV (As := []) (rest := [.int (nI zj)]) ⟨hx, hb, hml, hown, hts⟩ (c_Jx4a65c_size_8abf5 l D cO mi L fz (mt_aa τ zi) (hM.aa hzi).1 mcz4 (ls_dat (mt_ls τ) (mt_aa τ zi)) (mt_cnt τ (mt_aa τ zi)) hfz4) (cwV 0 hts gX5_isNearest_Jx4a65c_size_8abf5 rfl rfl rfl (by decide +kernel) ⟨Nat.le_of_ble_eq_true rfl, Nat.le_of_ble_eq_true rfl⟩) (mP_V hK hP 0 rfl (hM.aa hzi).1 hfz4) rfl rfl hl.1 rfl (lv_room (Nat.le_of_ble_eq_true rfl)) dX5_isNearest_23 ⟨Nat.le_of_ble_eq_true rfl, Nat.le_of_ble_eq_true rfl⟩) hS (fun _ _ h => h.elim) (fun _ h => h.elim) (fun r_5 u t H1 locs ht hvm hw hB hz1 hk1 hS => ?_)
      replace hP := ro_kept hP hk1
      obtain rfl : r_5 = _ := hw
      clear hk1 hz1 hvm ht hB
      generalize H1 = H at hP hS ⊢
      clear hcz4 hgz4
      refine lv_icmp_ge (tgt := 83) hx hb dX5_isNearest_26 (by decide) (fun c_6 => ?_) (fun c_6 => ?_)
      · refine lv_iconst (v := (nI 1)) hx hb dX5_isNearest_83 (by decide) ?_
        refine W.widen (k := 0) (n := 0) (by first | exact Nat.le_refl _ | omega) (by first | exact Nat.le_refl _ | omega) ?_
        exact W.zret (v := (nI 1)) hx hb hr rfl (fun t ht hW => ⟨⟨(nI 1), (L, fz), rfl, ⟨⟨true, rfl, fun _ => (by first | exact hso | rfl), rfl, _, _, hM⟩, hE⟩, show va_P D vwCl (va_pl _ _) t.heap from (by rw [ht]; exact hP)⟩, hS.F ht⟩) hS.2.2 dX5_isNearest_84
      · exact absurd (nI_le (by omega) (by omega)) c_6
    | succ zn ih =>
      intro zj fz mz kz H locs ls hP hS hM hE9 hl
      have hD : va_D (mA L sz) (va_pl L fz) := hE.D
      have hjt : zj < (mt_cnt τ (mt_aa τ zi)) := by omega
      have hbt := (hMl.2 zj hjt).1
      refine lv_iload hx hb dX5_isNearest_20 (lv_at hl 0 rfl) ?_
      refine lv_aload_n hx hb dX5_isNearest_22 rfl (lv_at hl 2 rfl) ?_
      obtain ⟨mcz7, gz7, hfz7, hgz7, hcz7⟩ := hM.ly.raw (b := (mt_aa τ zi)) (hM.aa hzi).1 (hM.aa hzi).2
      refine va_calli (va_runV (As := []) (rest := [.int (nI zj)]) ⟨hx, hb, hml, hown, hts⟩ (c_Jx4a65c_size_8abf5 l D cO mi L fz (mt_aa τ zi) (hM.aa hzi).1 mcz7 (ls_dat (mt_ls τ) (mt_aa τ zi)) (mt_cnt τ (mt_aa τ zi)) hfz7) (cwV 0 hts gX5_isNearest_Jx4a65c_size_8abf5 rfl rfl rfl (by decide +kernel) ⟨Nat.le_of_ble_eq_true rfl, Nat.le_of_ble_eq_true rfl⟩) (mP_V hK hP 0 rfl (hM.aa hzi).1 hfz7) rfl rfl hl.1 rfl (lv_room (Nat.le_of_ble_eq_true rfl)) dX5_isNearest_23 ⟨Nat.le_of_ble_eq_true rfl, Nat.le_of_ble_eq_true rfl⟩) hS (fun _ _ h => h.elim) (fun _ h => h.elim) (fun r_8 u t H1 locs ht hvm hw hB hz1 hk1 hS => ?_)
      replace hP := ro_kept hP hk1
      obtain rfl : r_8 = _ := hw
      clear hk1 hz1 hvm ht hB
      generalize H1 = H at hP hS ⊢
      clear hcz7 hgz7
      refine lv_icmp_ge (tgt := 83) hx hb dX5_isNearest_26 (by decide) (fun c_9 => ?_) (fun c_9 => ?_)
      · exact absurd c_9 (nI_ge (by omega) (by omega))
      · refine lv_iload hx hb dX5_isNearest_29 (lv_at hl 0 rfl) ?_
        refine lv_iload_n hx hb dX5_isNearest_31 rfl (lv_at hl 3 rfl) ?_
        refine lv_icmp_eq (tgt := 77) hx hb dX5_isNearest_32 (by decide) (fun c_10 => ?_) (fun c_10 => ?_)
        · refine lv_iinc (v := (nI (zj + 1))) (lv' := [(4, .int (nI (zj + 1))), (0, .ref (mt_x τ)), (1, .ref (mt_aa τ zi)), (2, .int (nI zt)), (3, .int zx1)]) hx hb dX5_isNearest_77 hl (k := 0) rfl (nI_1 _) (by decide) rfl (fun ls hl => ?_)
          refine lv_goto (tgt := 20) hx hb dX5_isNearest_80 (by decide) ?_
          exact ih (zj + 1) fz mz kz H locs ls hP hS hM (by omega) (lv_sub hl [0, 1, 2, 3, 4] rfl)
        · refine lv_aload_n hx hb dX5_isNearest_35 rfl (lv_at hl 2 rfl) ?_
          refine lv_iload hx hb dX5_isNearest_36 (lv_at hl 0 rfl) ?_
          obtain ⟨mcz11, gz11, hfz11, hdz11, hfdz11, hcnz11, hcpz11, hgiz11⟩ := hM.ly.get (b := (mt_aa τ zi)) (i := zj) (hM.aa hzi).1 (hM.aa hzi).2 hjt
          replace hgiz11 : gz11 zj = some (mt_ca τ (mt_al τ zi zj)) := hgiz11.trans (congrArg some (hMl.2 zj hjt).2)
          refine va_callq (va_runV (As := [.int (nI zj)]) (rest := []) ⟨hx, hb, hml, hown, hts⟩ (c_Jx4a65c_get_915e3 l D cO mi L fz (mt_aa τ zi) (hM.aa hzi).1 mcz11 (ls_dat (mt_ls τ) (mt_aa τ zi)) (mt_cnt τ (mt_aa τ zi)) hfz11 hdz11 (ls_cap (mt_ls τ) (mt_aa τ zi)) gz11 hfdz11 hcnz11 hcpz11 zj hjt) (cwV 1 hts gX5_isNearest_Jx4a65c_get_915e3 rfl rfl rfl (by decide +kernel) ⟨Nat.le_of_ble_eq_true rfl, Nat.le_of_ble_eq_true rfl⟩) (mP_V hK hP 0 rfl (hM.aa hzi).1 hfz11) rfl rfl hl.1 rfl (lv_room (Nat.le_of_ble_eq_true rfl)) dX5_isNearest_38 ⟨Nat.le_of_ble_eq_true rfl, Nat.le_of_ble_eq_true rfl⟩) hS (fun _ _ h => h.elim) (fun _ h => h.elim) (fun r_12 u t H1 locs ht hvm hw hB hz1 hk1 hS => ?_)
          replace hP := ro_kept hP hk1
          obtain rfl : r_12 = _ := hw
          clear hk1 hz1 hvm ht hB
          generalize H1 = H at hP hS ⊢
          rw [hgiz11]
          clear hgiz11 hfdz11 hdz11 hcnz11 hcpz11
          refine va_castY (C := RX3) hx hb hown (hts (.classLink RX5 19 RX3) (by decide +kernel)) hK.2.2.2.2.2.2.1 (pl_recv (ci := 4) hK.1 hP rfl (hM.cl hbt).1 (hM.cl hbt).2.1) dX5_isNearest_41 ?_
          refine lv_iload_n hx hb dX5_isNearest_44 rfl (lv_at hl 4 rfl) ?_
          refine va_callq (va_runV (As := [.int zx1]) (rest := []) ⟨hx, hb, hml, hown, hts⟩ (c_X3_named l D cO mi L fz e0 (mt_mm τ mz kz) hM (mt_al τ zi zj) hbt zx1) (cwV 1 hts gX5_isNearest_X3_named rfl rfl rfl (by decide +kernel) ⟨Nat.le_of_ble_eq_true rfl, Nat.le_of_ble_eq_true rfl⟩) (mP_V hK hP 4 rfl (hM.cl hbt).1 (hM.cl hbt).2.1) rfl rfl hl.1 rfl (lv_room (Nat.le_of_ble_eq_true rfl)) dX5_isNearest_45 ⟨Nat.le_of_ble_eq_true rfl, Nat.le_of_ble_eq_true rfl⟩) hS (fun _ _ h => h.elim) (fun _ h => h.elim) (fun r_13 u t H1 locs ht hvm hw hB hz1 hk1 hS => ?_)
          replace hP := ro_kept hP hk1
          obtain rfl : r_13 = _ := hw
          clear hk1 hz1 hvm ht hB
          generalize H1 = H at hP hS ⊢
          rw [t_named_mm]
          rcases htzjb : t_idx τ (mt_al τ zi zj) zx1 with _ | zjb
          · rw [show t_named τ (mt_al τ zi zj) zx1 = none by simp [t_named, htzjb]]
            refine lv_ifnullN (tgt := 77) hx hb dX5_isNearest_48 (by decide) ?_
            refine lv_iinc (v := (nI (zj + 1))) (lv' := [(4, .int (nI (zj + 1))), (0, .ref (mt_x τ)), (1, .ref (mt_aa τ zi)), (2, .int (nI zt)), (3, .int zx1)]) hx hb dX5_isNearest_77 hl (k := 0) rfl (nI_1 _) (by decide) rfl (fun ls hl => ?_)
            refine lv_goto (tgt := 20) hx hb dX5_isNearest_80 (by decide) ?_
            exact ih (zj + 1) fz mz kz H locs ls hP hS hM (by omega) (lv_sub hl [0, 1, 2, 3, 4] rfl)
          · rw [show t_named τ (mt_al τ zi zj) zx1 = some (mt_ja τ zjb) by simp [t_named, htzjb]]
            have hltzjb : zjb < mt_mn τ := t_idx_lt hM hbt (i := (mt_al τ zi zj)) (x := zx1) (by rw [t_idx_mm]; exact htzjb)
            refine lv_ifnull hx hb dX5_isNearest_48 ?_
            refine lv_aload_n hx hb dX5_isNearest_51 rfl (lv_at hl 1 rfl) ?_
            refine lv_aload_n hx hb dX5_isNearest_52 rfl (lv_at hl 2 rfl) ?_
            refine lv_iload hx hb dX5_isNearest_53 (lv_at hl 0 rfl) ?_
            obtain ⟨mcz14, gz14, hfz14, hdz14, hfdz14, hcnz14, hcpz14, hgiz14⟩ := hM.ly.get (b := (mt_aa τ zi)) (i := zj) (hM.aa hzi).1 (hM.aa hzi).2 hjt
            replace hgiz14 : gz14 zj = some (mt_ca τ (mt_al τ zi zj)) := hgiz14.trans (congrArg some (hMl.2 zj hjt).2)
            refine va_callq (va_runV (As := [.int (nI zj)]) (rest := [.ref (mt_x τ)]) ⟨hx, hb, hml, hown, hts⟩ (c_Jx4a65c_get_915e3 l D cO mi L fz (mt_aa τ zi) (hM.aa hzi).1 mcz14 (ls_dat (mt_ls τ) (mt_aa τ zi)) (mt_cnt τ (mt_aa τ zi)) hfz14 hdz14 (ls_cap (mt_ls τ) (mt_aa τ zi)) gz14 hfdz14 hcnz14 hcpz14 zj hjt) (cwV 1 hts gX5_isNearest_Jx4a65c_get_915e3 rfl rfl rfl (by decide +kernel) ⟨Nat.le_of_ble_eq_true rfl, Nat.le_of_ble_eq_true rfl⟩) (mP_V hK hP 0 rfl (hM.aa hzi).1 hfz14) rfl rfl hl.1 rfl (lv_room (Nat.le_of_ble_eq_true rfl)) dX5_isNearest_55 ⟨Nat.le_of_ble_eq_true rfl, Nat.le_of_ble_eq_true rfl⟩) hS (fun _ _ h => h.elim) (fun _ h => h.elim) (fun r_15 u t H1 locs ht hvm hw hB hz1 hk1 hS => ?_)
            replace hP := ro_kept hP hk1
            obtain rfl : r_15 = _ := hw
            clear hk1 hz1 hvm ht hB
            generalize H1 = H at hP hS ⊢
            rw [hgiz14]
            clear hgiz14 hfdz14 hdz14 hcnz14 hcpz14
            refine va_castY (C := RX3) hx hb hown (hts (.classLink RX5 19 RX3) (by decide +kernel)) hK.2.2.2.2.2.2.1 (pl_recv (ci := 4) hK.1 hP rfl (hM.cl hbt).1 (hM.cl hbt).2.1) dX5_isNearest_58 ?_
            refine lv_aload_n hx hb dX5_isNearest_61 rfl (lv_at hl 2 rfl) ?_
            refine lv_iload_n hx hb dX5_isNearest_62 rfl (lv_at hl 3 rfl) ?_
            obtain ⟨mcz16, gz16, hfz16, hdz16, hfdz16, hcnz16, hcpz16, hgiz16⟩ := hM.ly.get (b := (mt_aa τ zi)) (i := zt) (hM.aa hzi).1 (hM.aa hzi).2 hzt
            replace hgiz16 : gz16 zt = some (mt_ca τ (mt_al τ zi zt)) := hgiz16.trans (congrArg some (hMl.2 zt hzt).2)
            refine va_callq (va_runV (As := [.int (nI zt)]) (rest := [.ref (mt_ca τ (mt_al τ zi zj)), .ref (mt_x τ)]) ⟨hx, hb, hml, hown, hts⟩ (c_Jx4a65c_get_915e3 l D cO mi L fz (mt_aa τ zi) (hM.aa hzi).1 mcz16 (ls_dat (mt_ls τ) (mt_aa τ zi)) (mt_cnt τ (mt_aa τ zi)) hfz16 hdz16 (ls_cap (mt_ls τ) (mt_aa τ zi)) gz16 hfdz16 hcnz16 hcpz16 zt hzt) (cwV 1 hts gX5_isNearest_Jx4a65c_get_915e3 rfl rfl rfl (by decide +kernel) ⟨Nat.le_of_ble_eq_true rfl, Nat.le_of_ble_eq_true rfl⟩) (mP_V hK hP 0 rfl (hM.aa hzi).1 hfz16) rfl rfl hl.1 rfl (lv_room (Nat.le_of_ble_eq_true rfl)) dX5_isNearest_63 ⟨Nat.le_of_ble_eq_true rfl, Nat.le_of_ble_eq_true rfl⟩) hS (fun _ _ h => h.elim) (fun _ h => h.elim) (fun r_17 u t H1 locs ht hvm hw hB hz1 hk1 hS => ?_)
            replace hP := ro_kept hP hk1
            obtain rfl : r_17 = _ := hw
            clear hk1 hz1 hvm ht hB
            generalize H1 = H at hP hS ⊢
            rw [hgiz16]
            clear hgiz16 hfdz16 hdz16 hcnz16 hcpz16
            refine va_castY (C := RX3) hx hb hown (hts (.classLink RX5 19 RX3) (by decide +kernel)) hK.2.2.2.2.2.2.1 (pl_recv (ci := 4) hK.1 hP rfl (hM.cl hat).1 (hM.cl hat).2.1) dX5_isNearest_66 ?_
            have hszH : sz ≤ H.size := by have := hS.1; omega
            have hPold := hP
            refine va_calli (va_runV (As := [.ref (mt_ca τ (mt_al τ zi zj)), .ref (mt_ca τ (mt_al τ zi zt))]) (rest := []) ⟨hx, hb, hml, hown, hts⟩ (c_X5_lies l D cO mi e0 L fz H.size hE.nd (mt_mm τ mz kz) hM (mt_al τ zi zj) (mt_al τ zi zt) hbt hat) (cwV 2 hts gX5_isNearest_X5_lies rfl rfl rfl (by decide +kernel) ⟨Nat.le_of_ble_eq_true rfl, Nat.le_of_ble_eq_true rfl⟩) (mW_V hK hJ hS (hE.sub (by have := hS.1; omega)) hP 6 rfl hM.x.1 hM.x.2) rfl rfl hl.1 rfl (lv_room (Nat.le_of_ble_eq_true rfl)) dX5_isNearest_69 ⟨Nat.le_refl _, Nat.le_refl _⟩) hS (fun q _ h => (hE.sub (by have := hS.1; omega)) q h) (hE.sub (by have := hS.1; omega)) (fun r_18 u t H1 locs ht hvm hw hB hz1 hk1 hS => ?_)
            obtain ⟨L18, f18⟩ := u
            obtain ⟨hw, hE1⟩ := hw
            replace hB : va_P D vwCl (va_pl L18 f18) t.heap := hB
            rw [ht] at hB
            replace hE : pext L sz L18 := hE.tr (hszH) hE1
            obtain ⟨hr1, hL1, hM2⟩ := hw
            replace hL1 : L = L18 := hL1.symm
            subst hL1
            subst hr1
            obtain ⟨kz2, hkz2⟩ : ∃ z, z = t_lies (mt_mm τ mz kz) (mt_al τ zi zj) (mt_al τ zi zt) := ⟨_, rfl⟩
            replace hM : MI e0 cO L f18 (mt_mm τ (mz + nI 1) kz2.2) := by rw [hkz2]; exact hM2
            rw [← hkz2]
            clear hM2 hkz2
            clear hPold hP hk1 hz1 hvm ht hszH hE1
            have hP := hB
            clear hB
            generalize H1 = H at hP hS ⊢
            have hD : va_D (mA L sz) (va_pl L f18) := hE.D
            refine lv_if_eq (tgt := 77) hx hb dX5_isNearest_72 (by decide) (fun c_19 => ?_) (fun c_19 => ?_)
            · replace c_19 := bI_0.mp c_19
              refine lv_iinc (v := (nI (zj + 1))) (lv' := [(4, .int (nI (zj + 1))), (0, .ref (mt_x τ)), (1, .ref (mt_aa τ zi)), (2, .int (nI zt)), (3, .int zx1)]) hx hb dX5_isNearest_77 hl (k := 0) rfl (nI_1 _) (by decide) rfl (fun ls hl => ?_)
              refine lv_goto (tgt := 20) hx hb dX5_isNearest_80 (by decide) ?_
              exact ih (zj + 1) f18 (mz + nI 1) kz2.2 H locs ls hP hS hM (by omega) (lv_sub hl [0, 1, 2, 3, 4] rfl)
            · replace c_19 := bI_n0.mp c_19
              refine lv_iconst (v := (nI 0)) hx hb dX5_isNearest_75 (by decide) ?_
              refine W.widen (k := 0) (n := 0) (by first | exact Nat.le_refl _ | omega) (by first | exact Nat.le_refl _ | omega) ?_
              exact W.zret (v := (nI 0)) hx hb hr rfl (fun t ht hW => ⟨⟨(nI 0), (L, f18), rfl, ⟨⟨false, rfl, fun h9 => absurd h9 (by decide), rfl, _, _, hM⟩, hE⟩, show va_P D vwCl (va_pl _ _) t.heap from (by rw [ht]; exact hP)⟩, hS.F ht⟩) hS.2.2 dX5_isNearest_76
