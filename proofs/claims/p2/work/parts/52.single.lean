set_option maxHeartbeats 4000000 in
set_option maxRecDepth 100000 in
theorem c_X5_single (l : Launch) (D : va_G) (cO : ClassId) (mi e0 : Nat) (L : List Nat) (f : Nat → va_E) (sz : Nat) (hnd : L.Nodup) (τ : MT) (hM : MI e0 cO L f τ) (zi : Nat) (hzi0 : zi < mt_n τ) (zx2 : Int32) : Met l yX5_single wsX5_single { frames := 70, cells := 60, slots := 5400, locals := 1709 } (mW D cO mi e0 L f sz [.ref (mt_x τ), .ref (mt_ca τ zi), .int zx2]) (wQi D L sz (fun r u => (r < 0 ∨ ∃ j, j < mt_mn τ ∧ r = nI j) ∧ fpost e0 cO τ zi u)) 60 5400 (mA L sz) := by
  refine Met.ofW (cc := cX5_single) (maxL := 6) (ret := (some .int)) (by decide) rfl ?_
  intro p e s m args below meth cq s₁ B hml hv
  obtain ⟨rfl, hsz, hP, hK, hJ⟩ := hv
  have hx := B.exec
  have hb := B.bytes
  have hr := B.returns
  have hts := atoms_spec (ws := wsX5_single) B.pre
  have hown : s.vm.findClass RX5 = some m.cls := findClass_of_methodNamed B.named
  have hlocks := B.notSynchronized
  have hin := (name_of_methodNamed B.named B.method).1
  clear B
  have hl := lv_entry ([.ref (mt_x τ), .ref (mt_ca τ zi), .int zx2]) (n := 6) (Nat.le_of_ble_eq_true rfl)
  rw [lg_entry_eq]
  generalize (lg_sl ([.ref (mt_x τ), .ref (mt_ca τ zi), .int zx2]) ++ List.replicate (6 - (lg_sl ([.ref (mt_x τ), .ref (mt_ca τ zi), .int zx2])).length) Slot.unset).toArray = ls at hl ⊢
  replace hl : lv_has ls 6 [(0, .ref (mt_x τ)), (1, .ref (mt_ca τ zi)), (2, .int zx2)] := hl
  have hA : ∀ q : Nat, s.heap.size ≤ q → mA L sz q := fun q h => Or.inr (by omega)
  have hE : pext L sz L := pext.rf hnd
  have hD : va_D (mA L sz) (va_pl L f) := hE.D
  refine gen_start (A := mA L sz) (fun H locs hP hS => ?_) hP
  refine lv_aload_n hx hb dX5_single_0 rfl (lv_at hl 0 rfl) ?_
  refine lv_aload_n hx hb dX5_single_1 rfl (lv_at hl 1 rfl) ?_
  by_cases hpt : mt_pt τ zi = nI (mt_cnt τ (mt_fa τ zi))
  · have hzz := hzi0
    have hszH : sz ≤ H.size := by have := hS.1; omega
    have hPold := hP
    refine va_callq (va_runV (As := [.ref (mt_ca τ zi)]) (rest := []) ⟨hx, hb, hml, hown, hts⟩ (c_X5_facesOf0 l D cO mi e0 L f H.size hE.nd τ hM zi hzz hpt) (cwV 1 hts gX5_single_X5_facesOf rfl rfl rfl (by decide +kernel) ⟨Nat.le_of_ble_eq_true rfl, Nat.le_of_ble_eq_true rfl⟩) (mW_V hK hJ hS (hE.sub (by have := hS.1; omega)) hP 6 rfl hM.x.1 hM.x.2) rfl rfl hl.1 rfl (lv_room (Nat.le_of_ble_eq_true rfl)) dX5_single_2 ⟨Nat.le_of_ble_eq_true rfl, Nat.le_of_ble_eq_true rfl⟩) hS (fun q _ h => (hE.sub (by have := hS.1; omega)) q h) (hE.sub (by have := hS.1; omega)) (fun r_1 u t H1 locs ht hvm hw hB hz1 hk1 hS => ?_)
    obtain ⟨L1, f1⟩ := u
    obtain ⟨hw, hE1⟩ := hw
    replace hB : va_P D vwCl (va_pl L1 f1) t.heap := hB
    rw [ht] at hB
    replace hE : pext L sz L1 := hE.tr (hszH) hE1
    obtain ⟨hr1, pz, mz, kz, az, lz, hM2, hpz, hlq⟩ := hw
    subst hr1
    replace hM : MI e0 cO L1 f1 (mt_f τ pz mz kz az lz) := hM2
    clear hM2
    clear hPold hP hk1 hz1 hvm ht hszH hE1
    have hP := hB
    clear hB
    generalize H1 = H at hP hS ⊢
    have hD : va_D (mA L sz) (va_pl L1 f1) := hE.D
    replace hl : lv_has ls 6 [(0, .ref (mt_x τ)), (1, .ref (mt_ca τ zi)), (2, .int zx2)] := hl
    have hzi : zi < mt_n τ := hzz
    have hMb : 1 ≤ mt_n τ ∧ mt_n τ ≤ 60 ∧ mt_mn τ ≤ 400 := hM.b
    have hMl : ls_cnt lz (mt_aa τ zi) ≤ 60 ∧ ∀ k, k < ls_cnt lz (mt_aa τ zi) → az zi k < mt_n τ ∧ ls_con lz (mt_aa τ zi) k = mt_ca τ (az zi k) := (hM.cl hzi).2.2.2.2.2
    refine lv_astore_n (lv' := [(3, .ref (mt_aa τ zi)), (0, .ref (mt_x τ)), (1, .ref (mt_ca τ zi)), (2, .int zx2)]) hx hb dX5_single_5 rfl hl (by decide) rfl (fun ls hl => ?_)
    refine lv_bipush (v := (-25)) hx hb dX5_single_6 (by decide) ?_
    refine lv_istore (lv' := [(4, .int (-25)), (3, .ref (mt_aa τ zi)), (0, .ref (mt_x τ)), (1, .ref (mt_ca τ zi)), (2, .int zx2)]) hx hb dX5_single_8 hl (by decide) rfl (fun ls hl => ?_)
    refine lv_iconst (v := (nI 0)) hx hb dX5_single_10 (by decide) ?_
    refine lv_istore (lv' := [(5, .int (nI 0)), (4, .int (-25)), (3, .ref (mt_aa τ zi)), (0, .ref (mt_x τ)), (1, .ref (mt_ca τ zi)), (2, .int zx2)]) hx hb dX5_single_11 hl (by decide) rfl (fun ls hl => ?_)
    obtain ⟨fz, hfz⟩ : ∃ z, z = f1 := ⟨_, rfl⟩
    rw [← hfz] at hP hM
    clear hfz hD
    obtain ⟨zn, hzn⟩ : ∃ z : Nat, z = ls_cnt lz (mt_aa τ zi) := ⟨_, rfl⟩
    obtain ⟨zj, hzj⟩ : ∃ z : Nat, z = 0 := ⟨_, rfl⟩
    have hE9 : zj + zn = ls_cnt lz (mt_aa τ zi) := by omega
    obtain ⟨zr, hzr⟩ : ∃ z : Int32, z = (-25) := ⟨_, rfl⟩
    have hrr : zr < 0 ∨ ∃ j, j < mt_mn τ ∧ zr = nI j := Or.inl (by rw [hzr]; decide)
    replace hl : lv_has ls 6 [(5, .int (nI zj)), (4, .int zr), (3, .ref (mt_aa τ zi)), (0, .ref (mt_x τ)), (1, .ref (mt_ca τ zi)), (2, .int zx2)] := by rw [hzj, hzr]; exact lv_sub hl [0, 1, 2, 3, 4, 5] rfl
    clear hzn hzj hMl hMb hzi hzr
    replace hl : lv_has ls 6 [(5, .int (nI zj)), (4, .int zr), (3, .ref (mt_aa τ zi)), (0, .ref (mt_x τ)), (1, .ref (mt_ca τ zi)), (2, .int zx2)] := hl
    revert hl
    revert hrr
    revert hE9
    revert hM
    revert hS
    revert hP
    revert ls
    revert locs
    revert H
    revert kz
    revert mz
    revert fz
    revert zr
    revert zj
    induction zn with
    | zero =>
      intro zj zr fz mz kz H locs ls hP hS hM hE9 hrr hl
      have hD : va_D (mA L sz) (va_pl L1 fz) := hE.D
      have hzi : zi < mt_n τ := hzz
      have hMb : 1 ≤ mt_n τ ∧ mt_n τ ≤ 60 ∧ mt_mn τ ≤ 400 := hM.b
      have hMl : ls_cnt lz (mt_aa τ zi) ≤ 60 ∧ ∀ k, k < ls_cnt lz (mt_aa τ zi) → az zi k < mt_n τ ∧ ls_con lz (mt_aa τ zi) k = mt_ca τ (az zi k) := (hM.cl hzi).2.2.2.2.2
      replace hl : lv_has ls 6 [(5, .int (nI zj)), (4, .int zr), (3, .ref (mt_aa τ zi)), (0, .ref (mt_x τ)), (1, .ref (mt_ca τ zi)), (2, .int zx2)] := hl
      have hE8 : zj + 0 = ls_cnt lz (mt_aa τ zi) := hE9
      refine lv_iload hx hb dX5_single_13 (lv_at hl 0 rfl) ?_
      refine lv_aload_n hx hb dX5_single_15 rfl (lv_at hl 2 rfl) ?_
      obtain ⟨mcz2, gz2, hfz2, hgz2, hcz2⟩ := hM.ly.raw (b := (mt_aa τ zi)) (hM.aa hzi).1 (hM.aa hzi).2
      refine va_calli (va_runV (As := []) (rest := [.int (nI zj)]) ⟨hx, hb, hml, hown, hts⟩ (c_Jx4a65c_size_8abf5 l D cO mi L1 fz (mt_aa τ zi) (hM.aa hzi).1 mcz2 (ls_dat lz (mt_aa τ zi)) (ls_cnt lz (mt_aa τ zi)) hfz2) (cwV 0 hts gX5_single_Jx4a65c_size_8abf5 rfl rfl rfl (by decide +kernel) ⟨Nat.le_of_ble_eq_true rfl, Nat.le_of_ble_eq_true rfl⟩) (mP_V hK hP 0 rfl (hM.aa hzi).1 hfz2) rfl rfl hl.1 rfl (lv_room (Nat.le_of_ble_eq_true rfl)) dX5_single_16 ⟨Nat.le_of_ble_eq_true rfl, Nat.le_of_ble_eq_true rfl⟩) hS (fun _ _ h => h.elim) (fun _ h => h.elim) (fun r_3 u t H1 locs ht hvm hw hB hz1 hk1 hS => ?_)
      replace hP := ro_kept hP hk1
      obtain rfl : r_3 = _ := hw
      clear hk1 hz1 hvm ht hB
      generalize H1 = H at hP hS ⊢
      clear hcz2 hgz2
      refine lv_icmp_ge (tgt := 88) hx hb dX5_single_19 (by decide) (fun c_4 => ?_) (fun c_4 => ?_)
      · refine lv_iload hx hb dX5_single_88 (lv_at hl 1 rfl) ?_
        refine W.widen (k := 60) (n := 5400) (by first | exact Nat.le_refl _ | omega) (by first | exact Nat.le_refl _ | omega) ?_
        exact W.iret (v := zr) hx hb hr (fun t ht hW => ⟨⟨zr, (L1, fz), rfl, ⟨⟨hrr, pz, mz, kz, az, lz, hM, hpz, hlq⟩, hE⟩, show va_P D vwCl (va_pl _ _) t.heap from (by rw [ht]; exact hP)⟩, hS.F ht⟩) hS.2.2 dX5_single_90
      · exact absurd (nI_le (by omega) (by omega)) c_4
    | succ zn ih =>
      intro zj zr fz mz kz H locs ls hP hS hM hE9 hrr hl
      have hD : va_D (mA L sz) (va_pl L1 fz) := hE.D
      have hzi : zi < mt_n τ := hzz
      have hMb : 1 ≤ mt_n τ ∧ mt_n τ ≤ 60 ∧ mt_mn τ ≤ 400 := hM.b
      have hMl : ls_cnt lz (mt_aa τ zi) ≤ 60 ∧ ∀ k, k < ls_cnt lz (mt_aa τ zi) → az zi k < mt_n τ ∧ ls_con lz (mt_aa τ zi) k = mt_ca τ (az zi k) := (hM.cl hzi).2.2.2.2.2
      replace hl : lv_has ls 6 [(5, .int (nI zj)), (4, .int zr), (3, .ref (mt_aa τ zi)), (0, .ref (mt_x τ)), (1, .ref (mt_ca τ zi)), (2, .int zx2)] := hl
      have hE8 : zj + (zn + 1) = ls_cnt lz (mt_aa τ zi) := hE9
      have hjt : zj < ls_cnt lz (mt_aa τ zi) := by omega
      have hbt := (hMl.2 zj hjt).1
      refine lv_iload hx hb dX5_single_13 (lv_at hl 0 rfl) ?_
      refine lv_aload_n hx hb dX5_single_15 rfl (lv_at hl 2 rfl) ?_
      obtain ⟨mcz5, gz5, hfz5, hgz5, hcz5⟩ := hM.ly.raw (b := (mt_aa τ zi)) (hM.aa hzi).1 (hM.aa hzi).2
      refine va_calli (va_runV (As := []) (rest := [.int (nI zj)]) ⟨hx, hb, hml, hown, hts⟩ (c_Jx4a65c_size_8abf5 l D cO mi L1 fz (mt_aa τ zi) (hM.aa hzi).1 mcz5 (ls_dat lz (mt_aa τ zi)) (ls_cnt lz (mt_aa τ zi)) hfz5) (cwV 0 hts gX5_single_Jx4a65c_size_8abf5 rfl rfl rfl (by decide +kernel) ⟨Nat.le_of_ble_eq_true rfl, Nat.le_of_ble_eq_true rfl⟩) (mP_V hK hP 0 rfl (hM.aa hzi).1 hfz5) rfl rfl hl.1 rfl (lv_room (Nat.le_of_ble_eq_true rfl)) dX5_single_16 ⟨Nat.le_of_ble_eq_true rfl, Nat.le_of_ble_eq_true rfl⟩) hS (fun _ _ h => h.elim) (fun _ h => h.elim) (fun r_6 u t H1 locs ht hvm hw hB hz1 hk1 hS => ?_)
      replace hP := ro_kept hP hk1
      obtain rfl : r_6 = _ := hw
      clear hk1 hz1 hvm ht hB
      generalize H1 = H at hP hS ⊢
      clear hcz5 hgz5
      refine lv_icmp_ge (tgt := 88) hx hb dX5_single_19 (by decide) (fun c_7 => ?_) (fun c_7 => ?_)
      · exact absurd c_7 (nI_ge (by omega) (by omega))
      · refine lv_aload_n hx hb dX5_single_22 rfl (lv_at hl 3 rfl) ?_
        refine lv_aload_n hx hb dX5_single_23 rfl (lv_at hl 2 rfl) ?_
        refine lv_iload hx hb dX5_single_24 (lv_at hl 0 rfl) ?_
        refine lv_iload_n hx hb dX5_single_26 rfl (lv_at hl 5 rfl) ?_
        have hszH : sz ≤ H.size := by have := hS.1; omega
        have hPold := hP
        refine va_calli (va_runV (As := [.ref (mt_aa τ zi), .int (nI zj), .int zx2]) (rest := []) ⟨hx, hb, hml, hown, hts⟩ (c_X5_isNearest l D cO mi e0 L1 fz H.size hE.nd (mt_f τ pz mz kz az lz) hM zi hzi zj hjt zx2) (cwV 3 hts gX5_single_X5_isNearest rfl rfl rfl (by decide +kernel) ⟨Nat.le_of_ble_eq_true rfl, Nat.le_of_ble_eq_true rfl⟩) (mW_V hK hJ hS (hE.sub (by have := hS.1; omega)) hP 6 rfl hM.x.1 hM.x.2) rfl rfl hl.1 rfl (lv_room (Nat.le_of_ble_eq_true rfl)) dX5_single_27 ⟨Nat.le_of_ble_eq_true rfl, Nat.le_of_ble_eq_true rfl⟩) hS (fun q _ h => (hE.sub (by have := hS.1; omega)) q h) (hE.sub (by have := hS.1; omega)) (fun r_8 u t H1 locs ht hvm hw hB hz1 hk1 hS => ?_)
        obtain ⟨L8, f8⟩ := u
        obtain ⟨hw, hE1⟩ := hw
        replace hB : va_P D vwCl (va_pl L8 f8) t.heap := hB
        rw [ht] at hB
        replace hE : pext L sz L8 := hE.tr (hszH) hE1
        obtain ⟨zb, hr1, hso, hL1, m9, k9, hM2⟩ := hw
        replace hL1 : L1 = L8 := hL1.symm
        subst hL1
        subst hr1
        have hso2 : zb = true → (t_idx (mt_mm (mt_f τ pz mz kz az lz) m9 k9) (az zi zj) zx2).isSome = true := by rw [t_idx_mm]; exact hso
        clear hMl hMb hzi hso
        obtain ⟨mz, kz, hM, hso⟩ : ∃ (m8 : Int32) (k8 : Nat → Int32), MI e0 cO L1 f8 (mt_f τ pz m8 k8 az lz) ∧ (zb = true → (t_idx (mt_f τ pz m8 k8 az lz) (az zi zj) zx2).isSome = true) := ⟨m9, k9, hM2, hso2⟩
        clear hM2 hso2
        have hzi : zi < mt_n τ := hzz
        have hMb : 1 ≤ mt_n τ ∧ mt_n τ ≤ 60 ∧ mt_mn τ ≤ 400 := hM.b
        have hMl : ls_cnt lz (mt_aa τ zi) ≤ 60 ∧ ∀ k, k < ls_cnt lz (mt_aa τ zi) → az zi k < mt_n τ ∧ ls_con lz (mt_aa τ zi) k = mt_ca τ (az zi k) := (hM.cl hzi).2.2.2.2.2
        have hbt := (hMl.2 zj hjt).1
        clear hPold hP hk1 hz1 hvm ht hszH hE1
        have hP := hB
        clear hB
        generalize H1 = H at hP hS ⊢
        have hD : va_D (mA L sz) (va_pl L1 f8) := hE.D
        refine lv_if_eq (tgt := 82) hx hb dX5_single_30 (by decide) (fun c_9 => ?_) (fun c_9 => ?_)
        · replace c_9 := bI_0.mp c_9
          refine lv_iinc (v := (nI (zj + 1))) (lv' := [(5, .int (nI (zj + 1))), (4, .int zr), (3, .ref (mt_aa τ zi)), (0, .ref (mt_x τ)), (1, .ref (mt_ca τ zi)), (2, .int zx2)]) hx hb dX5_single_82 hl (k := 0) rfl (nI_1 _) (by decide) rfl (fun ls hl => ?_)
          refine lv_goto (tgt := 13) hx hb dX5_single_85 (by decide) ?_
          exact ih (zj + 1) zr f8 mz kz H locs ls hP hS hM (by omega) hrr (lv_sub hl [0, 1, 2, 3, 4, 5] rfl)
        · replace c_9 := bI_n0.mp c_9
          refine lv_aload_n hx hb dX5_single_33 rfl (lv_at hl 2 rfl) ?_
          refine lv_iload hx hb dX5_single_34 (lv_at hl 0 rfl) ?_
          obtain ⟨mcz10, gz10, hfz10, hdz10, hfdz10, hcnz10, hcpz10, hgiz10⟩ := hM.ly.get (b := (mt_aa τ zi)) (i := zj) (hM.aa hzi).1 (hM.aa hzi).2 hjt
          replace hgiz10 : gz10 zj = some (mt_ca τ (az zi zj)) := hgiz10.trans (congrArg some (hMl.2 zj hjt).2)
          refine va_callq (va_runV (As := [.int (nI zj)]) (rest := []) ⟨hx, hb, hml, hown, hts⟩ (c_Jx4a65c_get_915e3 l D cO mi L1 f8 (mt_aa τ zi) (hM.aa hzi).1 mcz10 (ls_dat lz (mt_aa τ zi)) (ls_cnt lz (mt_aa τ zi)) hfz10 hdz10 (ls_cap lz (mt_aa τ zi)) gz10 hfdz10 hcnz10 hcpz10 zj hjt) (cwV 1 hts gX5_single_Jx4a65c_get_915e3 rfl rfl rfl (by decide +kernel) ⟨Nat.le_of_ble_eq_true rfl, Nat.le_of_ble_eq_true rfl⟩) (mP_V hK hP 0 rfl (hM.aa hzi).1 hfz10) rfl rfl hl.1 rfl (lv_room (Nat.le_of_ble_eq_true rfl)) dX5_single_36 ⟨Nat.le_of_ble_eq_true rfl, Nat.le_of_ble_eq_true rfl⟩) hS (fun _ _ h => h.elim) (fun _ h => h.elim) (fun r_11 u t H1 locs ht hvm hw hB hz1 hk1 hS => ?_)
          replace hP := ro_kept hP hk1
          obtain rfl : r_11 = _ := hw
          clear hk1 hz1 hvm ht hB
          generalize H1 = H at hP hS ⊢
          rw [hgiz10]
          clear hgiz10 hfdz10 hdz10 hcnz10 hcpz10
          refine va_castY (C := RX3) hx hb hown (hts (.classLink RX5 19 RX3) (by decide +kernel)) hK.2.2.2.2.2.2.1 (pl_recv (ci := 4) hK.1 hP rfl (hM.cl hbt).1 (hM.cl hbt).2.1) dX5_single_39 ?_
          refine lv_iload_n hx hb dX5_single_42 rfl (lv_at hl 5 rfl) ?_
          refine va_callq (va_runV (As := [.int zx2]) (rest := []) ⟨hx, hb, hml, hown, hts⟩ (c_X3_named l D cO mi L1 f8 e0 (mt_f τ pz mz kz az lz) hM (az zi zj) hbt zx2) (cwV 1 hts gX5_single_X3_named rfl rfl rfl (by decide +kernel) ⟨Nat.le_of_ble_eq_true rfl, Nat.le_of_ble_eq_true rfl⟩) (mP_V hK hP 4 rfl (hM.cl hbt).1 (hM.cl hbt).2.1) rfl rfl hl.1 rfl (lv_room (Nat.le_of_ble_eq_true rfl)) dX5_single_43 ⟨Nat.le_of_ble_eq_true rfl, Nat.le_of_ble_eq_true rfl⟩) hS (fun _ _ h => h.elim) (fun _ h => h.elim) (fun r_12 u t H1 locs ht hvm hw hB hz1 hk1 hS => ?_)
          replace hP := ro_kept hP hk1
          obtain rfl : r_12 = _ := hw
          clear hk1 hz1 hvm ht hB
          generalize H1 = H at hP hS ⊢
          obtain ⟨zja, htzja⟩ : ∃ z, t_idx (mt_f τ pz mz kz az lz) (az zi zj) zx2 = some z := Option.isSome_iff_exists.mp (hso c_9)
          have hltzja : zja < mt_mn τ := t_idx_lt hM hbt htzja
          rw [show t_named (mt_f τ pz mz kz az lz) (az zi zj) zx2 = some (mt_ja τ zja) by simp only [t_named, htzja]; rfl]
          refine pl_get (D := D) (ci := 5) (v := .int (mt_ab τ zja)) (C := RX4) (T := TX4) (N := 7) hx hb hts (by decide +kernel) hown hK.1 hP (hM.me hltzja).1 (hM.me hltzja).2.1 rfl 6 (by decide) (hts (.fieldLink RX5 134 "ChooseTreeModel$Met" "isAbstract" "Z") (by decide +kernel)) (fun _ h9 => h9) rfl dX5_single_46 ?_
          refine lv_if_ne (tgt := 82) hx hb dX5_single_49 (by decide) (fun c_13 => ?_) (fun c_13 => ?_)
          · refine lv_iinc (v := (nI (zj + 1))) (lv' := [(5, .int (nI (zj + 1))), (4, .int zr), (3, .ref (mt_aa τ zi)), (0, .ref (mt_x τ)), (1, .ref (mt_ca τ zi)), (2, .int zx2)]) hx hb dX5_single_82 hl (k := 0) rfl (nI_1 _) (by decide) rfl (fun ls hl => ?_)
            refine lv_goto (tgt := 13) hx hb dX5_single_85 (by decide) ?_
            exact ih (zj + 1) zr f8 mz kz H locs ls hP hS hM (by omega) hrr (lv_sub hl [0, 1, 2, 3, 4, 5] rfl)
          · refine lv_iload hx hb dX5_single_52 (lv_at hl 1 rfl) ?_
            refine lv_bipush (v := (-25)) hx hb dX5_single_54 (by decide) ?_
            refine lv_icmp_ne (tgt := 78) hx hb dX5_single_56 (by decide) (fun c_14 => ?_) (fun c_14 => ?_)
            · refine lv_bipush (v := (-26)) hx hb dX5_single_78 (by decide) ?_
              refine lv_istore (lv' := [(4, .int (-26)), (5, .int (nI zj)), (3, .ref (mt_aa τ zi)), (0, .ref (mt_x τ)), (1, .ref (mt_ca τ zi)), (2, .int zx2)]) hx hb dX5_single_80 hl (by decide) rfl (fun ls hl => ?_)
              refine lv_iinc (v := (nI (zj + 1))) (lv' := [(5, .int (nI (zj + 1))), (4, .int (-26)), (3, .ref (mt_aa τ zi)), (0, .ref (mt_x τ)), (1, .ref (mt_ca τ zi)), (2, .int zx2)]) hx hb dX5_single_82 hl (k := 1) rfl (nI_1 _) (by decide) rfl (fun ls hl => ?_)
              refine lv_goto (tgt := 13) hx hb dX5_single_85 (by decide) ?_
              exact ih (zj + 1) (-26) f8 mz kz H locs ls hP hS hM (by omega) (Or.inl (by decide)) (lv_sub hl [0, 1, 2, 3, 4, 5] rfl)
            · refine lv_aload_n hx hb dX5_single_59 rfl (lv_at hl 2 rfl) ?_
              refine lv_iload hx hb dX5_single_60 (lv_at hl 0 rfl) ?_
              obtain ⟨mcz15, gz15, hfz15, hdz15, hfdz15, hcnz15, hcpz15, hgiz15⟩ := hM.ly.get (b := (mt_aa τ zi)) (i := zj) (hM.aa hzi).1 (hM.aa hzi).2 hjt
              replace hgiz15 : gz15 zj = some (mt_ca τ (az zi zj)) := hgiz15.trans (congrArg some (hMl.2 zj hjt).2)
              refine va_callq (va_runV (As := [.int (nI zj)]) (rest := []) ⟨hx, hb, hml, hown, hts⟩ (c_Jx4a65c_get_915e3 l D cO mi L1 f8 (mt_aa τ zi) (hM.aa hzi).1 mcz15 (ls_dat lz (mt_aa τ zi)) (ls_cnt lz (mt_aa τ zi)) hfz15 hdz15 (ls_cap lz (mt_aa τ zi)) gz15 hfdz15 hcnz15 hcpz15 zj hjt) (cwV 1 hts gX5_single_Jx4a65c_get_915e3 rfl rfl rfl (by decide +kernel) ⟨Nat.le_of_ble_eq_true rfl, Nat.le_of_ble_eq_true rfl⟩) (mP_V hK hP 0 rfl (hM.aa hzi).1 hfz15) rfl rfl hl.1 rfl (lv_room (Nat.le_of_ble_eq_true rfl)) dX5_single_62 ⟨Nat.le_of_ble_eq_true rfl, Nat.le_of_ble_eq_true rfl⟩) hS (fun _ _ h => h.elim) (fun _ h => h.elim) (fun r_16 u t H1 locs ht hvm hw hB hz1 hk1 hS => ?_)
              replace hP := ro_kept hP hk1
              obtain rfl : r_16 = _ := hw
              clear hk1 hz1 hvm ht hB
              generalize H1 = H at hP hS ⊢
              rw [hgiz15]
              clear hgiz15 hfdz15 hdz15 hcnz15 hcpz15
              refine va_castY (C := RX3) hx hb hown (hts (.classLink RX5 19 RX3) (by decide +kernel)) hK.2.2.2.2.2.2.1 (pl_recv (ci := 4) hK.1 hP rfl (hM.cl hbt).1 (hM.cl hbt).2.1) dX5_single_65 ?_
              refine lv_iload_n hx hb dX5_single_68 rfl (lv_at hl 5 rfl) ?_
              refine va_callq (va_runV (As := [.int zx2]) (rest := []) ⟨hx, hb, hml, hown, hts⟩ (c_X3_named l D cO mi L1 f8 e0 (mt_f τ pz mz kz az lz) hM (az zi zj) hbt zx2) (cwV 1 hts gX5_single_X3_named rfl rfl rfl (by decide +kernel) ⟨Nat.le_of_ble_eq_true rfl, Nat.le_of_ble_eq_true rfl⟩) (mP_V hK hP 4 rfl (hM.cl hbt).1 (hM.cl hbt).2.1) rfl rfl hl.1 rfl (lv_room (Nat.le_of_ble_eq_true rfl)) dX5_single_69 ⟨Nat.le_of_ble_eq_true rfl, Nat.le_of_ble_eq_true rfl⟩) hS (fun _ _ h => h.elim) (fun _ h => h.elim) (fun r_17 u t H1 locs ht hvm hw hB hz1 hk1 hS => ?_)
              replace hP := ro_kept hP hk1
              obtain rfl : r_17 = _ := hw
              clear hk1 hz1 hvm ht hB
              generalize H1 = H at hP hS ⊢
              rw [show t_named (mt_f τ pz mz kz az lz) (az zi zj) zx2 = some (mt_ja τ zja) by simp only [t_named, htzja]; rfl]
              refine pl_get (D := D) (ci := 5) (v := .int (nI zja)) (C := RX4) (T := TX4) (N := 7) hx hb hts (by decide +kernel) hown hK.1 hP (hM.me hltzja).1 (hM.me hltzja).2.1 rfl 0 (by decide) (hts (.fieldLink RX5 65 "ChooseTreeModel$Met" "number" "I") (by decide +kernel)) (fun _ h9 => h9) rfl dX5_single_72 ?_
              refine lv_goto (tgt := 80) hx hb dX5_single_75 (by decide) ?_
              refine lv_istore (lv' := [(4, .int (nI zja)), (5, .int (nI zj)), (3, .ref (mt_aa τ zi)), (0, .ref (mt_x τ)), (1, .ref (mt_ca τ zi)), (2, .int zx2)]) hx hb dX5_single_80 hl (by decide) rfl (fun ls hl => ?_)
              refine lv_iinc (v := (nI (zj + 1))) (lv' := [(5, .int (nI (zj + 1))), (4, .int (nI zja)), (3, .ref (mt_aa τ zi)), (0, .ref (mt_x τ)), (1, .ref (mt_ca τ zi)), (2, .int zx2)]) hx hb dX5_single_82 hl (k := 1) rfl (nI_1 _) (by decide) rfl (fun ls hl => ?_)
              refine lv_goto (tgt := 13) hx hb dX5_single_85 (by decide) ?_
              exact ih (zj + 1) (nI zja) f8 mz kz H locs ls hP hS hM (by omega) (Or.inr ⟨zja, hltzja, rfl⟩) (lv_sub hl [0, 1, 2, 3, 4, 5] rfl)
  · have hzz := hzi0
    have hszH : sz ≤ H.size := by have := hS.1; omega
    have hPold := hP
    refine va_callq (va_runV (As := [.ref (mt_ca τ zi)]) (rest := []) ⟨hx, hb, hml, hown, hts⟩ (c_X5_facesOf1 l D cO mi e0 L f H.size hE.nd τ hM zi hzz hpt) (cwV 1 hts gX5_single_X5_facesOf rfl rfl rfl (by decide +kernel) ⟨Nat.le_of_ble_eq_true rfl, Nat.le_of_ble_eq_true rfl⟩) (mW_V hK hJ hS (hE.sub (by have := hS.1; omega)) hP 6 rfl hM.x.1 hM.x.2) rfl rfl hl.1 rfl (lv_room (Nat.le_of_ble_eq_true rfl)) dX5_single_2 ⟨Nat.le_of_ble_eq_true rfl, Nat.le_of_ble_eq_true rfl⟩) hS (fun q _ h => (hE.sub (by have := hS.1; omega)) q h) (hE.sub (by have := hS.1; omega)) (fun r_18 u t H1 locs ht hvm hw hB hz1 hk1 hS => ?_)
    obtain ⟨L18, f18⟩ := u
    obtain ⟨hw, hE1⟩ := hw
    replace hB : va_P D vwCl (va_pl L18 f18) t.heap := hB
    rw [ht] at hB
    replace hE : pext L sz L18 := hE.tr (hszH) hE1
    obtain ⟨hr1, pz, mz, kz, az, lz, hM2, hpz, hlq⟩ := hw
    subst hr1
    replace hM : MI e0 cO L18 f18 (mt_f τ pz mz kz az lz) := hM2
    clear hM2
    clear hPold hP hk1 hz1 hvm ht hszH hE1
    have hP := hB
    clear hB
    generalize H1 = H at hP hS ⊢
    have hD : va_D (mA L sz) (va_pl L18 f18) := hE.D
    replace hl : lv_has ls 6 [(0, .ref (mt_x τ)), (1, .ref (mt_ca τ zi)), (2, .int zx2)] := hl
    have hzi : zi < mt_n τ := hzz
    have hMb : 1 ≤ mt_n τ ∧ mt_n τ ≤ 60 ∧ mt_mn τ ≤ 400 := hM.b
    have hMl : ls_cnt lz (mt_aa τ zi) ≤ 60 ∧ ∀ k, k < ls_cnt lz (mt_aa τ zi) → az zi k < mt_n τ ∧ ls_con lz (mt_aa τ zi) k = mt_ca τ (az zi k) := (hM.cl hzi).2.2.2.2.2
    refine lv_astore_n (lv' := [(3, .ref (mt_aa τ zi)), (0, .ref (mt_x τ)), (1, .ref (mt_ca τ zi)), (2, .int zx2)]) hx hb dX5_single_5 rfl hl (by decide) rfl (fun ls hl => ?_)
    refine lv_bipush (v := (-25)) hx hb dX5_single_6 (by decide) ?_
    refine lv_istore (lv' := [(4, .int (-25)), (3, .ref (mt_aa τ zi)), (0, .ref (mt_x τ)), (1, .ref (mt_ca τ zi)), (2, .int zx2)]) hx hb dX5_single_8 hl (by decide) rfl (fun ls hl => ?_)
    refine lv_iconst (v := (nI 0)) hx hb dX5_single_10 (by decide) ?_
    refine lv_istore (lv' := [(5, .int (nI 0)), (4, .int (-25)), (3, .ref (mt_aa τ zi)), (0, .ref (mt_x τ)), (1, .ref (mt_ca τ zi)), (2, .int zx2)]) hx hb dX5_single_11 hl (by decide) rfl (fun ls hl => ?_)
    obtain ⟨fz, hfz⟩ : ∃ z, z = f18 := ⟨_, rfl⟩
    rw [← hfz] at hP hM
    clear hfz hD
    obtain ⟨zn, hzn⟩ : ∃ z : Nat, z = ls_cnt lz (mt_aa τ zi) := ⟨_, rfl⟩
    obtain ⟨zj, hzj⟩ : ∃ z : Nat, z = 0 := ⟨_, rfl⟩
    have hE9 : zj + zn = ls_cnt lz (mt_aa τ zi) := by omega
    obtain ⟨zr, hzr⟩ : ∃ z : Int32, z = (-25) := ⟨_, rfl⟩
    have hrr : zr < 0 ∨ ∃ j, j < mt_mn τ ∧ zr = nI j := Or.inl (by rw [hzr]; decide)
    replace hl : lv_has ls 6 [(5, .int (nI zj)), (4, .int zr), (3, .ref (mt_aa τ zi)), (0, .ref (mt_x τ)), (1, .ref (mt_ca τ zi)), (2, .int zx2)] := by rw [hzj, hzr]; exact lv_sub hl [0, 1, 2, 3, 4, 5] rfl
    clear hzn hzj hMl hMb hzi hzr
    replace hl : lv_has ls 6 [(5, .int (nI zj)), (4, .int zr), (3, .ref (mt_aa τ zi)), (0, .ref (mt_x τ)), (1, .ref (mt_ca τ zi)), (2, .int zx2)] := hl
    revert hl
    revert hrr
    revert hE9
    revert hM
    revert hS
    revert hP
    revert ls
    revert locs
    revert H
    revert kz
    revert mz
    revert fz
    revert zr
    revert zj
    induction zn with
    | zero =>
      intro zj zr fz mz kz H locs ls hP hS hM hE9 hrr hl
      have hD : va_D (mA L sz) (va_pl L18 fz) := hE.D
      have hzi : zi < mt_n τ := hzz
      have hMb : 1 ≤ mt_n τ ∧ mt_n τ ≤ 60 ∧ mt_mn τ ≤ 400 := hM.b
      have hMl : ls_cnt lz (mt_aa τ zi) ≤ 60 ∧ ∀ k, k < ls_cnt lz (mt_aa τ zi) → az zi k < mt_n τ ∧ ls_con lz (mt_aa τ zi) k = mt_ca τ (az zi k) := (hM.cl hzi).2.2.2.2.2
      replace hl : lv_has ls 6 [(5, .int (nI zj)), (4, .int zr), (3, .ref (mt_aa τ zi)), (0, .ref (mt_x τ)), (1, .ref (mt_ca τ zi)), (2, .int zx2)] := hl
      have hE8 : zj + 0 = ls_cnt lz (mt_aa τ zi) := hE9
      refine lv_iload hx hb dX5_single_13 (lv_at hl 0 rfl) ?_
      refine lv_aload_n hx hb dX5_single_15 rfl (lv_at hl 2 rfl) ?_
      obtain ⟨mcz19, gz19, hfz19, hgz19, hcz19⟩ := hM.ly.raw (b := (mt_aa τ zi)) (hM.aa hzi).1 (hM.aa hzi).2
      refine va_calli (va_runV (As := []) (rest := [.int (nI zj)]) ⟨hx, hb, hml, hown, hts⟩ (c_Jx4a65c_size_8abf5 l D cO mi L18 fz (mt_aa τ zi) (hM.aa hzi).1 mcz19 (ls_dat lz (mt_aa τ zi)) (ls_cnt lz (mt_aa τ zi)) hfz19) (cwV 0 hts gX5_single_Jx4a65c_size_8abf5 rfl rfl rfl (by decide +kernel) ⟨Nat.le_of_ble_eq_true rfl, Nat.le_of_ble_eq_true rfl⟩) (mP_V hK hP 0 rfl (hM.aa hzi).1 hfz19) rfl rfl hl.1 rfl (lv_room (Nat.le_of_ble_eq_true rfl)) dX5_single_16 ⟨Nat.le_of_ble_eq_true rfl, Nat.le_of_ble_eq_true rfl⟩) hS (fun _ _ h => h.elim) (fun _ h => h.elim) (fun r_20 u t H1 locs ht hvm hw hB hz1 hk1 hS => ?_)
      replace hP := ro_kept hP hk1
      obtain rfl : r_20 = _ := hw
      clear hk1 hz1 hvm ht hB
      generalize H1 = H at hP hS ⊢
      clear hcz19 hgz19
      refine lv_icmp_ge (tgt := 88) hx hb dX5_single_19 (by decide) (fun c_21 => ?_) (fun c_21 => ?_)
      · refine lv_iload hx hb dX5_single_88 (lv_at hl 1 rfl) ?_
        refine W.widen (k := 60) (n := 5400) (by first | exact Nat.le_refl _ | omega) (by first | exact Nat.le_refl _ | omega) ?_
        exact W.iret (v := zr) hx hb hr (fun t ht hW => ⟨⟨zr, (L18, fz), rfl, ⟨⟨hrr, pz, mz, kz, az, lz, hM, hpz, hlq⟩, hE⟩, show va_P D vwCl (va_pl _ _) t.heap from (by rw [ht]; exact hP)⟩, hS.F ht⟩) hS.2.2 dX5_single_90
      · exact absurd (nI_le (by omega) (by omega)) c_21
    | succ zn ih =>
      intro zj zr fz mz kz H locs ls hP hS hM hE9 hrr hl
      have hD : va_D (mA L sz) (va_pl L18 fz) := hE.D
      have hzi : zi < mt_n τ := hzz
      have hMb : 1 ≤ mt_n τ ∧ mt_n τ ≤ 60 ∧ mt_mn τ ≤ 400 := hM.b
      have hMl : ls_cnt lz (mt_aa τ zi) ≤ 60 ∧ ∀ k, k < ls_cnt lz (mt_aa τ zi) → az zi k < mt_n τ ∧ ls_con lz (mt_aa τ zi) k = mt_ca τ (az zi k) := (hM.cl hzi).2.2.2.2.2
      replace hl : lv_has ls 6 [(5, .int (nI zj)), (4, .int zr), (3, .ref (mt_aa τ zi)), (0, .ref (mt_x τ)), (1, .ref (mt_ca τ zi)), (2, .int zx2)] := hl
      have hE8 : zj + (zn + 1) = ls_cnt lz (mt_aa τ zi) := hE9
      have hjt : zj < ls_cnt lz (mt_aa τ zi) := by omega
      have hbt := (hMl.2 zj hjt).1
      refine lv_iload hx hb dX5_single_13 (lv_at hl 0 rfl) ?_
      refine lv_aload_n hx hb dX5_single_15 rfl (lv_at hl 2 rfl) ?_
      obtain ⟨mcz22, gz22, hfz22, hgz22, hcz22⟩ := hM.ly.raw (b := (mt_aa τ zi)) (hM.aa hzi).1 (hM.aa hzi).2
      refine va_calli (va_runV (As := []) (rest := [.int (nI zj)]) ⟨hx, hb, hml, hown, hts⟩ (c_Jx4a65c_size_8abf5 l D cO mi L18 fz (mt_aa τ zi) (hM.aa hzi).1 mcz22 (ls_dat lz (mt_aa τ zi)) (ls_cnt lz (mt_aa τ zi)) hfz22) (cwV 0 hts gX5_single_Jx4a65c_size_8abf5 rfl rfl rfl (by decide +kernel) ⟨Nat.le_of_ble_eq_true rfl, Nat.le_of_ble_eq_true rfl⟩) (mP_V hK hP 0 rfl (hM.aa hzi).1 hfz22) rfl rfl hl.1 rfl (lv_room (Nat.le_of_ble_eq_true rfl)) dX5_single_16 ⟨Nat.le_of_ble_eq_true rfl, Nat.le_of_ble_eq_true rfl⟩) hS (fun _ _ h => h.elim) (fun _ h => h.elim) (fun r_23 u t H1 locs ht hvm hw hB hz1 hk1 hS => ?_)
      replace hP := ro_kept hP hk1
      obtain rfl : r_23 = _ := hw
      clear hk1 hz1 hvm ht hB
      generalize H1 = H at hP hS ⊢
      clear hcz22 hgz22
      refine lv_icmp_ge (tgt := 88) hx hb dX5_single_19 (by decide) (fun c_24 => ?_) (fun c_24 => ?_)
      · exact absurd c_24 (nI_ge (by omega) (by omega))
      · refine lv_aload_n hx hb dX5_single_22 rfl (lv_at hl 3 rfl) ?_
        refine lv_aload_n hx hb dX5_single_23 rfl (lv_at hl 2 rfl) ?_
        refine lv_iload hx hb dX5_single_24 (lv_at hl 0 rfl) ?_
        refine lv_iload_n hx hb dX5_single_26 rfl (lv_at hl 5 rfl) ?_
        have hszH : sz ≤ H.size := by have := hS.1; omega
        have hPold := hP
        refine va_calli (va_runV (As := [.ref (mt_aa τ zi), .int (nI zj), .int zx2]) (rest := []) ⟨hx, hb, hml, hown, hts⟩ (c_X5_isNearest l D cO mi e0 L18 fz H.size hE.nd (mt_f τ pz mz kz az lz) hM zi hzi zj hjt zx2) (cwV 3 hts gX5_single_X5_isNearest rfl rfl rfl (by decide +kernel) ⟨Nat.le_of_ble_eq_true rfl, Nat.le_of_ble_eq_true rfl⟩) (mW_V hK hJ hS (hE.sub (by have := hS.1; omega)) hP 6 rfl hM.x.1 hM.x.2) rfl rfl hl.1 rfl (lv_room (Nat.le_of_ble_eq_true rfl)) dX5_single_27 ⟨Nat.le_of_ble_eq_true rfl, Nat.le_of_ble_eq_true rfl⟩) hS (fun q _ h => (hE.sub (by have := hS.1; omega)) q h) (hE.sub (by have := hS.1; omega)) (fun r_25 u t H1 locs ht hvm hw hB hz1 hk1 hS => ?_)
        obtain ⟨L25, f25⟩ := u
        obtain ⟨hw, hE1⟩ := hw
        replace hB : va_P D vwCl (va_pl L25 f25) t.heap := hB
        rw [ht] at hB
        replace hE : pext L sz L25 := hE.tr (hszH) hE1
        obtain ⟨zb, hr1, hso, hL1, m9, k9, hM2⟩ := hw
        replace hL1 : L18 = L25 := hL1.symm
        subst hL1
        subst hr1
        have hso2 : zb = true → (t_idx (mt_mm (mt_f τ pz mz kz az lz) m9 k9) (az zi zj) zx2).isSome = true := by rw [t_idx_mm]; exact hso
        clear hMl hMb hzi hso
        obtain ⟨mz, kz, hM, hso⟩ : ∃ (m8 : Int32) (k8 : Nat → Int32), MI e0 cO L18 f25 (mt_f τ pz m8 k8 az lz) ∧ (zb = true → (t_idx (mt_f τ pz m8 k8 az lz) (az zi zj) zx2).isSome = true) := ⟨m9, k9, hM2, hso2⟩
        clear hM2 hso2
        have hzi : zi < mt_n τ := hzz
        have hMb : 1 ≤ mt_n τ ∧ mt_n τ ≤ 60 ∧ mt_mn τ ≤ 400 := hM.b
        have hMl : ls_cnt lz (mt_aa τ zi) ≤ 60 ∧ ∀ k, k < ls_cnt lz (mt_aa τ zi) → az zi k < mt_n τ ∧ ls_con lz (mt_aa τ zi) k = mt_ca τ (az zi k) := (hM.cl hzi).2.2.2.2.2
        have hbt := (hMl.2 zj hjt).1
        clear hPold hP hk1 hz1 hvm ht hszH hE1
        have hP := hB
        clear hB
        generalize H1 = H at hP hS ⊢
        have hD : va_D (mA L sz) (va_pl L18 f25) := hE.D
        refine lv_if_eq (tgt := 82) hx hb dX5_single_30 (by decide) (fun c_26 => ?_) (fun c_26 => ?_)
        · replace c_26 := bI_0.mp c_26
          refine lv_iinc (v := (nI (zj + 1))) (lv' := [(5, .int (nI (zj + 1))), (4, .int zr), (3, .ref (mt_aa τ zi)), (0, .ref (mt_x τ)), (1, .ref (mt_ca τ zi)), (2, .int zx2)]) hx hb dX5_single_82 hl (k := 0) rfl (nI_1 _) (by decide) rfl (fun ls hl => ?_)
          refine lv_goto (tgt := 13) hx hb dX5_single_85 (by decide) ?_
          exact ih (zj + 1) zr f25 mz kz H locs ls hP hS hM (by omega) hrr (lv_sub hl [0, 1, 2, 3, 4, 5] rfl)
        · replace c_26 := bI_n0.mp c_26
          refine lv_aload_n hx hb dX5_single_33 rfl (lv_at hl 2 rfl) ?_
          refine lv_iload hx hb dX5_single_34 (lv_at hl 0 rfl) ?_
          obtain ⟨mcz27, gz27, hfz27, hdz27, hfdz27, hcnz27, hcpz27, hgiz27⟩ := hM.ly.get (b := (mt_aa τ zi)) (i := zj) (hM.aa hzi).1 (hM.aa hzi).2 hjt
          replace hgiz27 : gz27 zj = some (mt_ca τ (az zi zj)) := hgiz27.trans (congrArg some (hMl.2 zj hjt).2)
          refine va_callq (va_runV (As := [.int (nI zj)]) (rest := []) ⟨hx, hb, hml, hown, hts⟩ (c_Jx4a65c_get_915e3 l D cO mi L18 f25 (mt_aa τ zi) (hM.aa hzi).1 mcz27 (ls_dat lz (mt_aa τ zi)) (ls_cnt lz (mt_aa τ zi)) hfz27 hdz27 (ls_cap lz (mt_aa τ zi)) gz27 hfdz27 hcnz27 hcpz27 zj hjt) (cwV 1 hts gX5_single_Jx4a65c_get_915e3 rfl rfl rfl (by decide +kernel) ⟨Nat.le_of_ble_eq_true rfl, Nat.le_of_ble_eq_true rfl⟩) (mP_V hK hP 0 rfl (hM.aa hzi).1 hfz27) rfl rfl hl.1 rfl (lv_room (Nat.le_of_ble_eq_true rfl)) dX5_single_36 ⟨Nat.le_of_ble_eq_true rfl, Nat.le_of_ble_eq_true rfl⟩) hS (fun _ _ h => h.elim) (fun _ h => h.elim) (fun r_28 u t H1 locs ht hvm hw hB hz1 hk1 hS => ?_)
          replace hP := ro_kept hP hk1
          obtain rfl : r_28 = _ := hw
          clear hk1 hz1 hvm ht hB
          generalize H1 = H at hP hS ⊢
          rw [hgiz27]
          clear hgiz27 hfdz27 hdz27 hcnz27 hcpz27
          refine va_castY (C := RX3) hx hb hown (hts (.classLink RX5 19 RX3) (by decide +kernel)) hK.2.2.2.2.2.2.1 (pl_recv (ci := 4) hK.1 hP rfl (hM.cl hbt).1 (hM.cl hbt).2.1) dX5_single_39 ?_
          refine lv_iload_n hx hb dX5_single_42 rfl (lv_at hl 5 rfl) ?_
          refine va_callq (va_runV (As := [.int zx2]) (rest := []) ⟨hx, hb, hml, hown, hts⟩ (c_X3_named l D cO mi L18 f25 e0 (mt_f τ pz mz kz az lz) hM (az zi zj) hbt zx2) (cwV 1 hts gX5_single_X3_named rfl rfl rfl (by decide +kernel) ⟨Nat.le_of_ble_eq_true rfl, Nat.le_of_ble_eq_true rfl⟩) (mP_V hK hP 4 rfl (hM.cl hbt).1 (hM.cl hbt).2.1) rfl rfl hl.1 rfl (lv_room (Nat.le_of_ble_eq_true rfl)) dX5_single_43 ⟨Nat.le_of_ble_eq_true rfl, Nat.le_of_ble_eq_true rfl⟩) hS (fun _ _ h => h.elim) (fun _ h => h.elim) (fun r_29 u t H1 locs ht hvm hw hB hz1 hk1 hS => ?_)
          replace hP := ro_kept hP hk1
          obtain rfl : r_29 = _ := hw
          clear hk1 hz1 hvm ht hB
          generalize H1 = H at hP hS ⊢
          obtain ⟨zja, htzja⟩ : ∃ z, t_idx (mt_f τ pz mz kz az lz) (az zi zj) zx2 = some z := Option.isSome_iff_exists.mp (hso c_26)
          have hltzja : zja < mt_mn τ := t_idx_lt hM hbt htzja
          rw [show t_named (mt_f τ pz mz kz az lz) (az zi zj) zx2 = some (mt_ja τ zja) by simp only [t_named, htzja]; rfl]
          refine pl_get (D := D) (ci := 5) (v := .int (mt_ab τ zja)) (C := RX4) (T := TX4) (N := 7) hx hb hts (by decide +kernel) hown hK.1 hP (hM.me hltzja).1 (hM.me hltzja).2.1 rfl 6 (by decide) (hts (.fieldLink RX5 134 "ChooseTreeModel$Met" "isAbstract" "Z") (by decide +kernel)) (fun _ h9 => h9) rfl dX5_single_46 ?_
          refine lv_if_ne (tgt := 82) hx hb dX5_single_49 (by decide) (fun c_30 => ?_) (fun c_30 => ?_)
          · refine lv_iinc (v := (nI (zj + 1))) (lv' := [(5, .int (nI (zj + 1))), (4, .int zr), (3, .ref (mt_aa τ zi)), (0, .ref (mt_x τ)), (1, .ref (mt_ca τ zi)), (2, .int zx2)]) hx hb dX5_single_82 hl (k := 0) rfl (nI_1 _) (by decide) rfl (fun ls hl => ?_)
            refine lv_goto (tgt := 13) hx hb dX5_single_85 (by decide) ?_
            exact ih (zj + 1) zr f25 mz kz H locs ls hP hS hM (by omega) hrr (lv_sub hl [0, 1, 2, 3, 4, 5] rfl)
          · refine lv_iload hx hb dX5_single_52 (lv_at hl 1 rfl) ?_
            refine lv_bipush (v := (-25)) hx hb dX5_single_54 (by decide) ?_
            refine lv_icmp_ne (tgt := 78) hx hb dX5_single_56 (by decide) (fun c_31 => ?_) (fun c_31 => ?_)
            · refine lv_bipush (v := (-26)) hx hb dX5_single_78 (by decide) ?_
              refine lv_istore (lv' := [(4, .int (-26)), (5, .int (nI zj)), (3, .ref (mt_aa τ zi)), (0, .ref (mt_x τ)), (1, .ref (mt_ca τ zi)), (2, .int zx2)]) hx hb dX5_single_80 hl (by decide) rfl (fun ls hl => ?_)
              refine lv_iinc (v := (nI (zj + 1))) (lv' := [(5, .int (nI (zj + 1))), (4, .int (-26)), (3, .ref (mt_aa τ zi)), (0, .ref (mt_x τ)), (1, .ref (mt_ca τ zi)), (2, .int zx2)]) hx hb dX5_single_82 hl (k := 1) rfl (nI_1 _) (by decide) rfl (fun ls hl => ?_)
              refine lv_goto (tgt := 13) hx hb dX5_single_85 (by decide) ?_
              exact ih (zj + 1) (-26) f25 mz kz H locs ls hP hS hM (by omega) (Or.inl (by decide)) (lv_sub hl [0, 1, 2, 3, 4, 5] rfl)
            · refine lv_aload_n hx hb dX5_single_59 rfl (lv_at hl 2 rfl) ?_
              refine lv_iload hx hb dX5_single_60 (lv_at hl 0 rfl) ?_
              obtain ⟨mcz32, gz32, hfz32, hdz32, hfdz32, hcnz32, hcpz32, hgiz32⟩ := hM.ly.get (b := (mt_aa τ zi)) (i := zj) (hM.aa hzi).1 (hM.aa hzi).2 hjt
              replace hgiz32 : gz32 zj = some (mt_ca τ (az zi zj)) := hgiz32.trans (congrArg some (hMl.2 zj hjt).2)
              refine va_callq (va_runV (As := [.int (nI zj)]) (rest := []) ⟨hx, hb, hml, hown, hts⟩ (c_Jx4a65c_get_915e3 l D cO mi L18 f25 (mt_aa τ zi) (hM.aa hzi).1 mcz32 (ls_dat lz (mt_aa τ zi)) (ls_cnt lz (mt_aa τ zi)) hfz32 hdz32 (ls_cap lz (mt_aa τ zi)) gz32 hfdz32 hcnz32 hcpz32 zj hjt) (cwV 1 hts gX5_single_Jx4a65c_get_915e3 rfl rfl rfl (by decide +kernel) ⟨Nat.le_of_ble_eq_true rfl, Nat.le_of_ble_eq_true rfl⟩) (mP_V hK hP 0 rfl (hM.aa hzi).1 hfz32) rfl rfl hl.1 rfl (lv_room (Nat.le_of_ble_eq_true rfl)) dX5_single_62 ⟨Nat.le_of_ble_eq_true rfl, Nat.le_of_ble_eq_true rfl⟩) hS (fun _ _ h => h.elim) (fun _ h => h.elim) (fun r_33 u t H1 locs ht hvm hw hB hz1 hk1 hS => ?_)
              replace hP := ro_kept hP hk1
              obtain rfl : r_33 = _ := hw
              clear hk1 hz1 hvm ht hB
              generalize H1 = H at hP hS ⊢
              rw [hgiz32]
              clear hgiz32 hfdz32 hdz32 hcnz32 hcpz32
              refine va_castY (C := RX3) hx hb hown (hts (.classLink RX5 19 RX3) (by decide +kernel)) hK.2.2.2.2.2.2.1 (pl_recv (ci := 4) hK.1 hP rfl (hM.cl hbt).1 (hM.cl hbt).2.1) dX5_single_65 ?_
              refine lv_iload_n hx hb dX5_single_68 rfl (lv_at hl 5 rfl) ?_
              refine va_callq (va_runV (As := [.int zx2]) (rest := []) ⟨hx, hb, hml, hown, hts⟩ (c_X3_named l D cO mi L18 f25 e0 (mt_f τ pz mz kz az lz) hM (az zi zj) hbt zx2) (cwV 1 hts gX5_single_X3_named rfl rfl rfl (by decide +kernel) ⟨Nat.le_of_ble_eq_true rfl, Nat.le_of_ble_eq_true rfl⟩) (mP_V hK hP 4 rfl (hM.cl hbt).1 (hM.cl hbt).2.1) rfl rfl hl.1 rfl (lv_room (Nat.le_of_ble_eq_true rfl)) dX5_single_69 ⟨Nat.le_of_ble_eq_true rfl, Nat.le_of_ble_eq_true rfl⟩) hS (fun _ _ h => h.elim) (fun _ h => h.elim) (fun r_34 u t H1 locs ht hvm hw hB hz1 hk1 hS => ?_)
              replace hP := ro_kept hP hk1
              obtain rfl : r_34 = _ := hw
              clear hk1 hz1 hvm ht hB
              generalize H1 = H at hP hS ⊢
              rw [show t_named (mt_f τ pz mz kz az lz) (az zi zj) zx2 = some (mt_ja τ zja) by simp only [t_named, htzja]; rfl]
              refine pl_get (D := D) (ci := 5) (v := .int (nI zja)) (C := RX4) (T := TX4) (N := 7) hx hb hts (by decide +kernel) hown hK.1 hP (hM.me hltzja).1 (hM.me hltzja).2.1 rfl 0 (by decide) (hts (.fieldLink RX5 65 "ChooseTreeModel$Met" "number" "I") (by decide +kernel)) (fun _ h9 => h9) rfl dX5_single_72 ?_
              refine lv_goto (tgt := 80) hx hb dX5_single_75 (by decide) ?_
              refine lv_istore (lv' := [(4, .int (nI zja)), (5, .int (nI zj)), (3, .ref (mt_aa τ zi)), (0, .ref (mt_x τ)), (1, .ref (mt_ca τ zi)), (2, .int zx2)]) hx hb dX5_single_80 hl (by decide) rfl (fun ls hl => ?_)
              refine lv_iinc (v := (nI (zj + 1))) (lv' := [(5, .int (nI (zj + 1))), (4, .int (nI zja)), (3, .ref (mt_aa τ zi)), (0, .ref (mt_x τ)), (1, .ref (mt_ca τ zi)), (2, .int zx2)]) hx hb dX5_single_82 hl (k := 1) rfl (nI_1 _) (by decide) rfl (fun ls hl => ?_)
              refine lv_goto (tgt := 13) hx hb dX5_single_85 (by decide) ?_
              exact ih (zj + 1) (nI zja) f25 mz kz H locs ls hP hS hM (by omega) (Or.inr ⟨zja, hltzja, rfl⟩) (lv_sub hl [0, 1, 2, 3, 4, 5] rfl)
