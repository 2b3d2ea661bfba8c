set_option maxHeartbeats 4000000 in
set_option maxRecDepth 100000 in
theorem c_X5_gather (l : Launch) (D : va_G) (cO : ClassId) (mi e0 : Nat) (τ : MT) (zi : Nat) (hzi : zi < mt_n τ) : ∀ (zd : Nat) (L : List Nat) (f : Nat → va_E) (sz : Nat) (hnd : L.Nodup) (km : Nat → Int32) (al : Nat → Nat → Nat) (ls0 : LSt) (hM : MI e0 cO L f (mt_g τ km al ls0)) (hlq : ∀ b, b ≠ mt_aa τ zi → ls_cnt ls0 b = ls_cnt (mt_ls τ) b) (hrm : ls_cnt ls0 (mt_aa τ zi) + um (mt_mark τ) km (mt_n τ) ≤ 60) (zc : Nat) (hzc : zc < mt_n τ) (hzd : zc < zd), Met l yX5_gather wsX5_gather { frames := zd + 7, cells := (t_gath τ zd zc km).2.length, slots := 90 * (t_gath τ zd zc km).2.length, locals := 24 * zd + 200 } (mW D cO mi e0 L f sz [.ref (mt_x τ), .ref (mt_ca τ zc), .ref (mt_aa τ zi)]) (wQv D L sz (fun u => ∃ (za : Nat → Nat → Nat) (zl : LSt), MI e0 cO u.1 u.2 (mt_g τ (t_gath τ zd zc km).1 za zl) ∧ (∀ b, b ≠ mt_aa τ zi → ls_cnt zl b = ls_cnt (mt_ls τ) b) ∧ ls_cnt zl (mt_aa τ zi) + um (mt_mark τ) (t_gath τ zd zc km).1 (mt_n τ) = ls_cnt ls0 (mt_aa τ zi) + um (mt_mark τ) km (mt_n τ))) ((t_gath τ zd zc km).2.length) (90 * (t_gath τ zd zc km).2.length) (mA L sz) := by
  intro zd
  induction zd with
  | zero =>
    intro L f sz hnd km al ls0 hM hlq hrm zc hzc hzd
    exact absurd hzd (by omega)
  | succ zd ihd =>
    intro L f sz hnd km al ls0 hM hlq hrm zc hzc hzd
    have hfN : (mt_fa τ zc) ≠ (mt_aa τ zi) := hM.faNaa hzc hzi
    have hc20 : mt_cnt τ (mt_fa τ zc) ≤ 20 := by have h1 : ls_cnt ls0 (mt_fa τ zc) ≤ 20 := (hM.cl hzc).2.2.2.1.1; rw [hlq _ hfN] at h1; exact h1
    have hMb : 1 ≤ mt_n τ ∧ mt_n τ ≤ 60 ∧ mt_mn τ ≤ 400 := hM.b
    obtain ⟨zT, hzT⟩ : ∃ z, z = (t_gath τ (zd + 1) zc km).2.length := ⟨_, rfl⟩
    obtain ⟨zQ, hzQ⟩ : ∃ z, z = t_gath τ (zd + 1) zc km := ⟨_, rfl⟩
    rw [← hzT]
    refine Met.ofW (cc := cX5_gather) (maxL := 5) (ret := none) (by decide) rfl ?_
    intro p e s m args below meth cq s₁ B hml hv
    obtain ⟨rfl, hsz, hP, hK, hJ⟩ := hv
    have hx := B.exec
    have hb := B.bytes
    have hr := B.returns
    have hts := atoms_spec (ws := wsX5_gather) B.pre
    have hown : s.vm.findClass RX5 = some m.cls := findClass_of_methodNamed B.named
    have hlocks := B.notSynchronized
    clear B
    have hl := lv_entry ([.ref (mt_x τ), .ref (mt_ca τ zc), .ref (mt_aa τ zi)]) (n := 5) (Nat.le_of_ble_eq_true rfl)
    rw [lg_entry_eq]
    generalize (lg_sl ([.ref (mt_x τ), .ref (mt_ca τ zc), .ref (mt_aa τ zi)]) ++ List.replicate (5 - (lg_sl ([.ref (mt_x τ), .ref (mt_ca τ zc), .ref (mt_aa τ zi)])).length) Slot.unset).toArray = ls at hl ⊢
    replace hl : lv_has ls 5 [(0, .ref (mt_x τ)), (1, .ref (mt_ca τ zc)), (2, .ref (mt_aa τ zi))] := hl
    have hE : pext L sz L := pext.rf hnd
    have hD : va_D (mA L sz) (va_pl L f) := hE.D
    refine gen_start (A := mA L sz) (fun H locs hP hS => ?_) hP
    refine lv_iconst (v := (nI 0)) hx hb dX5_gather_0 (by decide) ?_
    refine lv_istore_n (lv' := [(3, .int (nI 0)), (0, .ref (mt_x τ)), (1, .ref (mt_ca τ zc)), (2, .ref (mt_aa τ zi))]) hx hb dX5_gather_1 rfl hl (by decide) rfl (fun ls hl => ?_)
    obtain ⟨zR, hzR⟩ : ∃ z, z = (t_gf (t_gath τ zd) (mt_mark τ) (mt_fl τ zc) (mt_cnt τ (mt_fa τ zc)) 0 km).1 := ⟨_, rfl⟩
    obtain ⟨zC, hzC⟩ : ∃ z, z = (t_gf (t_gath τ zd) (mt_mark τ) (mt_fl τ zc) (mt_cnt τ (mt_fa τ zc)) 0 km).2.length := ⟨_, rfl⟩
    have hq0 : (mt_pr τ zc = none → zQ.1 = zR ∧ zT = zC) ∧ ∀ zp, mt_pr τ zc = some zp → zQ.1 = (t_gath τ zd zp zR).1 ∧ zT = zC + (t_gath τ zd zp zR).2.length := by
      rw [hzQ, hzT, hzR, hzC]
      constructor
      · intro hp; simp only [t_gath, hp]; exact ⟨trivial, trivial⟩
      · intro zp hp; simp only [t_gath, hp]; exact ⟨trivial, List.length_append⟩
    have hle : zC ≤ zT := by rcases hp9 : mt_pr τ zc with _ | zp; exact Nat.le_of_eq (hq0.1 hp9).2.symm; have := (hq0.2 zp hp9).2; omega
    obtain ⟨zS, hzS⟩ : ∃ z, z = ls_cnt ls0 (mt_aa τ zi) + um (mt_mark τ) km (mt_n τ) := ⟨_, rfl⟩
    obtain ⟨Lz, hLz⟩ : ∃ z, z = L := ⟨_, rfl⟩
    obtain ⟨fz, hfz⟩ : ∃ z, z = f := ⟨_, rfl⟩
    obtain ⟨kz, hkz⟩ : ∃ z, z = km := ⟨_, rfl⟩
    obtain ⟨az, haz⟩ : ∃ z, z = al := ⟨_, rfl⟩
    obtain ⟨lz, hlz⟩ : ∃ z, z = ls0 := ⟨_, rfl⟩
    obtain ⟨zn, hzn⟩ : ∃ z : Nat, z = (mt_cnt τ (mt_fa τ zc)) := ⟨_, rfl⟩
    obtain ⟨zj, hzj⟩ : ∃ z : Nat, z = 0 := ⟨_, rfl⟩
    obtain ⟨kc, hkc⟩ : ∃ z : Nat, z = 0 := ⟨_, rfl⟩
    have hE9 : zj + zn = (mt_cnt τ (mt_fa τ zc)) := by omega
    have hr1 : (t_gf (t_gath τ zd) (mt_mark τ) (mt_fl τ zc) zn zj kz).1 = zR := by rw [hzn, hzj, hkz]; exact hzR.symm
    have hr2 : kc + (t_gf (t_gath τ zd) (mt_mark τ) (mt_fl τ zc) zn zj kz).2.length = zC := by rw [hzn, hzj, hkz, hkc, Nat.zero_add]; exact hzC.symm
    have hrS : ls_cnt lz (mt_aa τ zi) + um (mt_mark τ) kz (mt_n τ) = zS := by rw [hlz, hkz]; exact hzS.symm
    have hS60 : zS ≤ 60 := by omega
    replace hlq : ∀ b, b ≠ (mt_aa τ zi) → ls_cnt lz b = ls_cnt (mt_ls τ) b := by rw [hlz]; exact hlq
    replace hM : MI e0 cO Lz fz (mt_g τ kz az lz) := by rw [hLz, hfz, hkz, haz, hlz]; exact hM
    replace hE : pext L sz Lz := by rw [hLz]; exact hE
    replace hP : va_P D vwCl (va_pl Lz fz) H := by rw [hLz, hfz]; exact hP
    replace hl : lv_has ls 5 [(3, .int (nI zj)), (0, .ref (mt_x τ)), (1, .ref (mt_ca τ zc)), (2, .ref (mt_aa τ zi))] := by rw [hzj]; exact lv_sub hl [0, 1, 2, 3] rfl
    refine W.widen (k := kc) (n := 90 * kc) (by omega) (by omega) ?_
    clear hLz hfz hkz haz hlz hzn hzj hkc hD hrm
    revert hl
    revert hr2
    revert hr1
    revert hE9
    revert hrS
    revert hlq
    revert hM
    revert hE
    revert hS
    revert hP
    revert ls
    revert locs
    revert H
    revert kc
    revert zj
    revert lz
    revert az
    revert kz
    revert fz
    revert Lz
    induction zn with
    | zero =>
      intro Lz fz kz az lz zj kc H locs ls hP hS hE hM hlq hrS hE9 hr1 hr2 hl
      have hD : va_D (mA L sz) (va_pl Lz fz) := hE.D
      have hrm : ls_cnt lz (mt_aa τ zi) + um (mt_mark τ) kz (mt_n τ) ≤ 60 := by omega
      have Fcl : fz (mt_ca τ zc) = .inr (4, [.int (nI zc), .int (mt_pk τ zc), va_rf ((mt_pr τ zc).map (mt_ca τ)), .int (mt_fc τ zc), .ref (mt_fa τ zc), .ref (mt_ma τ zc), .ref (mt_aa τ zc), .int (mt_pt τ zc), .int (kz zc)]) := (hM.cl hzc).2.1
      have Mcl : mt_ca τ zc ∈ Lz := (hM.cl hzc).1
      have Fxl : fz (mt_x τ) = .inr (6, [.ref (mt_c τ), .ref (mt_m τ), .int (mt_mark τ)]) := hM.x.2
      have Mxl : mt_x τ ∈ Lz := hM.x.1
      replace hr1 : kz = zR := hr1
      replace hr2 : kc = zC := hr2
      refine lv_iload_n hx hb dX5_gather_2 rfl (lv_at hl 0 rfl) ?_
      refine lv_aload_n hx hb dX5_gather_3 rfl (lv_at hl 2 rfl) ?_
      refine pl_get (D := D) (ci := 4) (v := .ref (mt_fa τ zc)) (C := RX3) (T := TX3) (N := 9) hx hb hts (by decide +kernel) hown hK.1 hP Mcl Fcl rfl 4 (by decide) (hts (.fieldLink RX5 51 "ChooseTreeModel$Cls" "faces" "Ljava/util/ArrayList;") (by decide +kernel)) (fun _ h9 => h9) rfl dX5_gather_4 ?_
      have hbz1 : (mt_fa τ zc) ∈ Lz ∧ isAL fz (mt_fa τ zc) := hM.fa hzc
      obtain ⟨mcz1, gz1, hfz1, -, -⟩ := hM.ly.raw (b := (mt_fa τ zc)) hbz1.1 hbz1.2
      replace hfz1 : fz (mt_fa τ zc) = alc mcz1 (ls_dat lz (mt_fa τ zc)) (ls_cnt lz (mt_fa τ zc)) := hfz1
      rw [hlq (mt_fa τ zc) hfN] at hfz1
      refine va_calli (va_runV (As := []) (rest := [.int (nI zj)]) ⟨hx, hb, hml, hown, hts⟩ (c_Jx4a65c_size_8abf5 l D cO mi Lz fz (mt_fa τ zc) hbz1.1 mcz1 (ls_dat lz (mt_fa τ zc)) (mt_cnt τ (mt_fa τ zc)) hfz1) (cwV 0 hts gX5_gather_Jx4a65c_size_8abf5 rfl rfl rfl (by decide +kernel) ⟨(by show 0 + 1 ≤ zd + 1 + 7; omega), (by show 8 + (1 + 11) + 0 ≤ 24 * (zd + 1) + 200; omega)⟩) (mP_V hK hP 0 rfl hbz1.1 hfz1) rfl rfl hl.1 rfl (lv_room (Nat.le_of_ble_eq_true rfl)) dX5_gather_7 ⟨(show kc + 0 ≤ zT by omega), (show 90 * kc + 0 ≤ 90 * zT by omega)⟩) hS (fun _ _ h => h.elim) (fun _ h => h.elim) (fun r_2 u t H1 locs ht hvm hw hB hz1 hk1 hS => ?_)
      replace hP := ro_kept hP hk1
      obtain rfl : r_2 = _ := hw
      clear hk1 hz1 hvm ht hB
      generalize H1 = H at hP hS ⊢
      refine lv_icmp_ge (tgt := 70) hx hb dX5_gather_10 (by decide) (fun c_3 => ?_) (fun c_3 => ?_)
      · refine lv_aload_n hx hb dX5_gather_70 rfl (lv_at hl 2 rfl) ?_
        refine pl_get (D := D) (ci := 4) (v := va_rf ((mt_pr τ zc).map (mt_ca τ))) (C := RX3) (T := TX3) (N := 9) hx hb hts (by decide +kernel) hown hK.1 hP Mcl Fcl rfl 2 (by decide) (hts (.fieldLink RX5 77 "ChooseTreeModel$Cls" "parent" "LChooseTreeModel$Cls;") (by decide +kernel)) (fun _ h9 => h9) rfl dX5_gather_71 ?_
        rcases hp9 : mt_pr τ zc with _ | zp
        · obtain ⟨hz1, hz2⟩ := hq0.1 hp9
          refine lv_ifnullN (tgt := 86) hx hb dX5_gather_74 (by decide) ?_
          refine W.widen (k := zT) (n := 90 * zT) (by omega) (by omega) ?_
          exact W.vret hx hb hr (fun t ht hW => ⟨⟨(Lz, fz), rfl, ⟨⟨az, lz, (by rw [← hzQ, hz1, ← hr1]; exact hM), hlq, (by rw [← hzQ, hz1, ← hr1]; omega)⟩, hE⟩, show va_P D vwCl (va_pl _ _) t.heap from (by rw [ht]; exact hP)⟩, hS.F ht⟩) hS.2.2 dX5_gather_86
        · obtain ⟨hz1, hz2⟩ := hq0.2 zp hp9
          rw [← hr1] at hz1 hz2
          have hpz : zp < zc := (hM.cl hzc).2.2.1 zp hp9
          have hzp : zp < mt_n τ := by omega
          refine lv_ifnull hx hb dX5_gather_74 ?_
          refine lv_aload_n hx hb dX5_gather_77 rfl (lv_at hl 1 rfl) ?_
          refine lv_aload_n hx hb dX5_gather_78 rfl (lv_at hl 2 rfl) ?_
          refine pl_get (D := D) (ci := 4) (v := va_rf ((mt_pr τ zc).map (mt_ca τ))) (C := RX3) (T := TX3) (N := 9) hx hb hts (by decide +kernel) hown hK.1 hP Mcl Fcl rfl 2 (by decide) (hts (.fieldLink RX5 77 "ChooseTreeModel$Cls" "parent" "LChooseTreeModel$Cls;") (by decide +kernel)) (fun _ h9 => h9) rfl dX5_gather_79 ?_
          rw [hp9]
          refine lv_aload_n hx hb dX5_gather_82 rfl (lv_at hl 3 rfl) ?_
          have hszH : sz ≤ H.size := by have := hS.1; omega
          have hPold := hP
          refine va_callv (va_runV (As := [.ref (mt_ca τ zp), .ref (mt_aa τ zi)]) (rest := []) ⟨hx, hb, hml, hown, hts⟩ (ihd Lz fz H.size hE.nd kz az lz hM hlq hrm zp hzp (by omega)) (cwV 2 hts gX5_gather_X5_gather rfl rfl rfl (by decide +kernel) ⟨(by show (zd + 7) + 1 ≤ zd + 1 + 7; omega), (by show 8 + (5 + 11) + (24 * zd + 200) ≤ 24 * (zd + 1) + 200; omega)⟩) (mW_V hK hJ hS (hE.sub (by have := hS.1; omega)) hP 6 rfl Mxl Fxl) rfl rfl hl.1 rfl (lv_room (Nat.le_of_ble_eq_true rfl)) dX5_gather_83 ⟨(show kc + (t_gath τ zd zp kz).2.length ≤ zT by omega), (show 90 * kc + 90 * (t_gath τ zd zp kz).2.length ≤ 90 * zT by omega)⟩) hS (fun q _ h => (hE.sub (by have := hS.1; omega)) q h) (hE.sub (by have := hS.1; omega)) (fun u t H1 locs ht hvm hw hB hz1 hk1 hS => ?_)
          obtain ⟨L4, f4⟩ := u
          obtain ⟨hw, hE1⟩ := hw
          replace hB : va_P D vwCl (va_pl L4 f4) t.heap := hB
          rw [ht] at hB
          replace hE : pext L sz L4 := hE.tr (hszH) hE1
          obtain ⟨za, zl, hM2, hlq3, hum3⟩ := hw
          replace hM : MI e0 cO L4 f4 (mt_g τ (t_gath τ zd zp kz).1 za zl) := hM2
          clear hM2
          clear hPold hP hk1 hz1 hvm ht hszH hE1
          have hP := hB
          clear hB
          generalize H1 = H at hP hS ⊢
          have hD : va_D (mA L sz) (va_pl L4 f4) := hE.D
          refine W.widen (k := zT) (n := 90 * zT) (by omega) (by omega) ?_
          exact W.vret hx hb hr (fun t ht hW => ⟨⟨(L4, f4), rfl, ⟨⟨za, zl, (by rw [← hzQ, hz1]; exact hM), hlq3, (by rw [← hzQ, hz1]; omega)⟩, hE⟩, show va_P D vwCl (va_pl _ _) t.heap from (by rw [ht]; exact hP)⟩, hS.F ht⟩) hS.2.2 dX5_gather_86
      · exact absurd (nI_le (by omega) (by omega)) c_3
    | succ zn ih =>
      intro Lz fz kz az lz zj kc H locs ls hP hS hE hM hlq hrS hE9 hr1 hr2 hl
      have hD : va_D (mA L sz) (va_pl Lz fz) := hE.D
      have hrm : ls_cnt lz (mt_aa τ zi) + um (mt_mark τ) kz (mt_n τ) ≤ 60 := by omega
      have Fcl : fz (mt_ca τ zc) = .inr (4, [.int (nI zc), .int (mt_pk τ zc), va_rf ((mt_pr τ zc).map (mt_ca τ)), .int (mt_fc τ zc), .ref (mt_fa τ zc), .ref (mt_ma τ zc), .ref (mt_aa τ zc), .int (mt_pt τ zc), .int (kz zc)]) := (hM.cl hzc).2.1
      have Mcl : mt_ca τ zc ∈ Lz := (hM.cl hzc).1
      have Fxl : fz (mt_x τ) = .inr (6, [.ref (mt_c τ), .ref (mt_m τ), .int (mt_mark τ)]) := hM.x.2
      have Mxl : mt_x τ ∈ Lz := hM.x.1
      refine lv_iload_n hx hb dX5_gather_2 rfl (lv_at hl 0 rfl) ?_
      refine lv_aload_n hx hb dX5_gather_3 rfl (lv_at hl 2 rfl) ?_
      refine pl_get (D := D) (ci := 4) (v := .ref (mt_fa τ zc)) (C := RX3) (T := TX3) (N := 9) hx hb hts (by decide +kernel) hown hK.1 hP Mcl Fcl rfl 4 (by decide) (hts (.fieldLink RX5 51 "ChooseTreeModel$Cls" "faces" "Ljava/util/ArrayList;") (by decide +kernel)) (fun _ h9 => h9) rfl dX5_gather_4 ?_
      have hbz5 : (mt_fa τ zc) ∈ Lz ∧ isAL fz (mt_fa τ zc) := hM.fa hzc
      obtain ⟨mcz5, gz5, hfz5, -, -⟩ := hM.ly.raw (b := (mt_fa τ zc)) hbz5.1 hbz5.2
      replace hfz5 : fz (mt_fa τ zc) = alc mcz5 (ls_dat lz (mt_fa τ zc)) (ls_cnt lz (mt_fa τ zc)) := hfz5
      rw [hlq (mt_fa τ zc) hfN] at hfz5
      refine va_calli (va_runV (As := []) (rest := [.int (nI zj)]) ⟨hx, hb, hml, hown, hts⟩ (c_Jx4a65c_size_8abf5 l D cO mi Lz fz (mt_fa τ zc) hbz5.1 mcz5 (ls_dat lz (mt_fa τ zc)) (mt_cnt τ (mt_fa τ zc)) hfz5) (cwV 0 hts gX5_gather_Jx4a65c_size_8abf5 rfl rfl rfl (by decide +kernel) ⟨(by show 0 + 1 ≤ zd + 1 + 7; omega), (by show 8 + (1 + 11) + 0 ≤ 24 * (zd + 1) + 200; omega)⟩) (mP_V hK hP 0 rfl hbz5.1 hfz5) rfl rfl hl.1 rfl (lv_room (Nat.le_of_ble_eq_true rfl)) dX5_gather_7 ⟨(show kc + 0 ≤ zT by omega), (show 90 * kc + 0 ≤ 90 * zT by omega)⟩) hS (fun _ _ h => h.elim) (fun _ h => h.elim) (fun r_6 u t H1 locs ht hvm hw hB hz1 hk1 hS => ?_)
      replace hP := ro_kept hP hk1
      obtain rfl : r_6 = _ := hw
      clear hk1 hz1 hvm ht hB
      generalize H1 = H at hP hS ⊢
      refine lv_icmp_ge (tgt := 70) hx hb dX5_gather_10 (by decide) (fun c_7 => ?_) (fun c_7 => ?_)
      · exact absurd c_7 (nI_ge (by omega) (by omega))
      · refine lv_aload_n hx hb dX5_gather_13 rfl (lv_at hl 2 rfl) ?_
        refine pl_get (D := D) (ci := 4) (v := .ref (mt_fa τ zc)) (C := RX3) (T := TX3) (N := 9) hx hb hts (by decide +kernel) hown hK.1 hP Mcl Fcl rfl 4 (by decide) (hts (.fieldLink RX5 51 "ChooseTreeModel$Cls" "faces" "Ljava/util/ArrayList;") (by decide +kernel)) (fun _ h9 => h9) rfl dX5_gather_14 ?_
        refine lv_iload_n hx hb dX5_gather_17 rfl (lv_at hl 0 rfl) ?_
        have hbz8 : (mt_fa τ zc) ∈ Lz ∧ isAL fz (mt_fa τ zc) := hM.fa hzc
        have hjz8 : zj < ls_cnt lz (mt_fa τ zc) := by rw [hlq (mt_fa τ zc) hfN]; show zj < mt_cnt τ (mt_fa τ zc); omega
        obtain ⟨mcz8, gz8, hfz8, hdz8, hfdz8, hcnz8, hcpz8, hgiz8⟩ := hM.ly.get (b := (mt_fa τ zc)) (i := zj) hbz8.1 hbz8.2 hjz8
        replace hgiz8 : gz8 zj = some (mt_ca τ (mt_fl τ zc zj)) := hgiz8.trans (congrArg some ((hM.cl hzc).2.2.2.1.2 zj hjz8).2)
        replace hfz8 : fz (mt_fa τ zc) = alc mcz8 (ls_dat lz (mt_fa τ zc)) (ls_cnt lz (mt_fa τ zc)) := hfz8
        refine va_callq (va_runV (As := [.int (nI zj)]) (rest := []) ⟨hx, hb, hml, hown, hts⟩ (c_Jx4a65c_get_915e3 l D cO mi Lz fz (mt_fa τ zc) hbz8.1 mcz8 (ls_dat lz (mt_fa τ zc)) (ls_cnt lz (mt_fa τ zc)) hfz8 hdz8 (ls_cap lz (mt_fa τ zc)) gz8 hfdz8 hcnz8 hcpz8 zj hjz8) (cwV 1 hts gX5_gather_Jx4a65c_get_915e3 rfl rfl rfl (by decide +kernel) ⟨(by show 2 + 1 ≤ zd + 1 + 7; omega), (by show 8 + (2 + 11) + 43 ≤ 24 * (zd + 1) + 200; omega)⟩) (mP_V hK hP 0 rfl hbz8.1 hfz8) rfl rfl hl.1 rfl (lv_room (Nat.le_of_ble_eq_true rfl)) dX5_gather_18 ⟨(show kc + 0 ≤ zT by omega), (show 90 * kc + 0 ≤ 90 * zT by omega)⟩) hS (fun _ _ h => h.elim) (fun _ h => h.elim) (fun r_9 u t H1 locs ht hvm hw hB hz1 hk1 hS => ?_)
        replace hP := ro_kept hP hk1
        obtain rfl : r_9 = _ := hw
        clear hk1 hz1 hvm ht hB
        generalize H1 = H at hP hS ⊢
        rw [hgiz8]
        clear hgiz8 hfdz8 hdz8 hcnz8 hcpz8
        have hfl : mt_fl τ zc zj < zc := ((hM.cl hzc).2.2.2.1.2 zj hjz8).1
        have hfn : mt_fl τ zc zj < mt_n τ := by omega
        have Fck : fz (mt_ca τ (mt_fl τ zc zj)) = .inr (4, [.int (nI (mt_fl τ zc zj)), .int (mt_pk τ (mt_fl τ zc zj)), va_rf ((mt_pr τ (mt_fl τ zc zj)).map (mt_ca τ)), .int (mt_fc τ (mt_fl τ zc zj)), .ref (mt_fa τ (mt_fl τ zc zj)), .ref (mt_ma τ (mt_fl τ zc zj)), .ref (mt_aa τ (mt_fl τ zc zj)), .int (mt_pt τ (mt_fl τ zc zj)), .int (kz (mt_fl τ zc zj))]) := (hM.cl hfn).2.1
        have Mck : mt_ca τ (mt_fl τ zc zj) ∈ Lz := (hM.cl hfn).1
        refine va_castY (C := RX3) hx hb hown (hts (.classLink RX5 19 RX3) (by decide +kernel)) hK.2.2.2.2.2.2.1 (pl_recv (ci := 4) hK.1 hP rfl Mck Fck) dX5_gather_21 ?_
        refine lv_astore (lv' := [(4, .ref (mt_ca τ (mt_fl τ zc zj))), (3, .int (nI zj)), (0, .ref (mt_x τ)), (1, .ref (mt_ca τ zc)), (2, .ref (mt_aa τ zi))]) hx hb dX5_gather_24 hl (by decide) rfl (fun ls hl => ?_)
        refine lv_aload hx hb dX5_gather_26 (lv_at hl 0 rfl) ?_
        refine pl_get (D := D) (ci := 4) (v := .int (kz (mt_fl τ zc zj))) (C := RX3) (T := TX3) (N := 9) hx hb hts (by decide +kernel) hown hK.1 hP Mck Fck rfl 8 (by decide) (hts (.fieldLink RX5 75 "ChooseTreeModel$Cls" "mark" "I") (by decide +kernel)) (fun _ h9 => h9) rfl dX5_gather_28 ?_
        refine lv_aload_n hx hb dX5_gather_31 rfl (lv_at hl 2 rfl) ?_
        refine pl_get (D := D) (ci := 6) (v := .int (mt_mark τ)) (C := RX5) (T := TX5) (N := 3) hx hb hts (by decide +kernel) hown hK.1 hP Mxl Fxl rfl 2 (by decide) (hts (.fieldLink RX5 69 "ChooseTreeModel" "mark" "I") (by decide +kernel)) (fun _ h9 => h9) rfl dX5_gather_32 ?_
        refine lv_icmp_ne (tgt := 41) hx hb dX5_gather_35 (by decide) (fun c_10 => ?_) (fun c_10 => ?_)
        · rw [t_gf, if_neg c_10] at hr1 hr2
          replace hr2 : kc + (((mt_fl τ zc zj) :: (t_gath τ zd (mt_fl τ zc zj) (va_up kz (mt_fl τ zc zj) (mt_mark τ))).2) ++ (t_gf (t_gath τ zd) (mt_mark τ) (mt_fl τ zc) zn (zj + 1) (t_gath τ zd (mt_fl τ zc zj) (va_up kz (mt_fl τ zc zj) (mt_mark τ))).1).2).length = zC := hr2
          rw [List.length_append, List.length_cons] at hr2
          refine lv_aload hx hb dX5_gather_41 (lv_at hl 0 rfl) ?_
          refine lv_aload_n hx hb dX5_gather_43 rfl (lv_at hl 2 rfl) ?_
          refine pl_get (D := D) (ci := 6) (v := .int (mt_mark τ)) (C := RX5) (T := TX5) (N := 3) hx hb hts (by decide +kernel) hown hK.1 hP Mxl Fxl rfl 2 (by decide) (hts (.fieldLink RX5 69 "ChooseTreeModel" "mark" "I") (by decide +kernel)) (fun _ h9 => h9) rfl dX5_gather_44 ?_
          refine pl_put (D := D) (ci := 4) (v := .int (mt_mark τ)) (ty := .int) (C := RX3) (T := TX3) (N := 9) hx hb hts (by decide +kernel) tyX3 tyX3_ok nmX3 hown hK.1 hP hD hS Mck Fck rfl 8 (by decide) (hts (.fieldLink RX5 75 "ChooseTreeModel$Cls" "mark" "I") (by decide +kernel)) (fun _ h9 => h9) rfl (by decide +kernel) rfl rfl (Nat.le_of_ble_eq_true rfl) dX5_gather_47 (fun H locs hP hS => ?_)
          replace hP : va_P D vwCl (va_pl Lz (va_up fz (mt_ca τ (mt_fl τ zc zj)) (.inr (4, [.int (nI (mt_fl τ zc zj)), .int (mt_pk τ (mt_fl τ zc zj)), va_rf ((mt_pr τ (mt_fl τ zc zj)).map (mt_ca τ)), .int (mt_fc τ (mt_fl τ zc zj)), .ref (mt_fa τ (mt_fl τ zc zj)), .ref (mt_ma τ (mt_fl τ zc zj)), .ref (mt_aa τ (mt_fl τ zc zj)), .int (mt_pt τ (mt_fl τ zc zj)), .int (mt_mark τ)])))) H := hP
          obtain ⟨f11, hf11⟩ : ∃ z, z = va_up fz (mt_ca τ (mt_fl τ zc zj)) (.inr (4, [.int (nI (mt_fl τ zc zj)), .int (mt_pk τ (mt_fl τ zc zj)), va_rf ((mt_pr τ (mt_fl τ zc zj)).map (mt_ca τ)), .int (mt_fc τ (mt_fl τ zc zj)), .ref (mt_fa τ (mt_fl τ zc zj)), .ref (mt_ma τ (mt_fl τ zc zj)), .ref (mt_aa τ (mt_fl τ zc zj)), .int (mt_pt τ (mt_fl τ zc zj)), .int (mt_mark τ)])) := ⟨_, rfl⟩
          rw [← hf11] at hP
          have F_mt_caτmt_flτzczj_11 : f11 (mt_ca τ (mt_fl τ zc zj)) = .inr (4, [.int (nI (mt_fl τ zc zj)), .int (mt_pk τ (mt_fl τ zc zj)), va_rf ((mt_pr τ (mt_fl τ zc zj)).map (mt_ca τ)), .int (mt_fc τ (mt_fl τ zc zj)), .ref (mt_fa τ (mt_fl τ zc zj)), .ref (mt_ma τ (mt_fl τ zc zj)), .ref (mt_aa τ (mt_fl τ zc zj)), .int (mt_pt τ (mt_fl τ zc zj)), .int (mt_mark τ)]) := by rw [hf11]; exact va_up_self _ _ _
          have hD : va_D (mA L sz) (va_pl Lz f11) := hE.D
          replace hM : MI e0 cO Lz f11 (mt_g τ (va_up kz (mt_fl τ zc zj) (mt_mark τ)) az lz) := by rw [hf11]; exact hM.setmk hfn (mt_mark τ)
          have hu1 := um_up c_10 (mt_n τ) hfn
          clear Mck
          have Fxm : f11 (mt_x τ) = .inr (6, [.ref (mt_c τ), .ref (mt_m τ), .int (mt_mark τ)]) := hM.x.2
          have Mxm : mt_x τ ∈ Lz := hM.x.1
          refine lv_aload_n hx hb dX5_gather_50 rfl (lv_at hl 4 rfl) ?_
          refine lv_aload hx hb dX5_gather_51 (lv_at hl 0 rfl) ?_
          have hba : (mt_aa τ zi) ∈ Lz ∧ isAL f11 (mt_aa τ zi) := hM.aa hzi
          obtain ⟨mcA, gA, hfA, hgA, hcA⟩ := hM.ly.raw (b := (mt_aa τ zi)) hba.1 hba.2
          have hct : ls_cnt lz (mt_aa τ zi) < 60 := by omega
          have hszH : sz ≤ H.size := by have := hS.1; omega
          have hPold := hP
          refine va_calli (va_runV (As := [.ref (mt_ca τ (mt_fl τ zc zj))]) (rest := []) ⟨hx, hb, hml, hown, hts⟩ (c_Jx4a65c_addU l D cO mi e0 Lz f11 H.size hE.nd (mt_aa τ zi) hba.1 mcA (ls_dat lz (mt_aa τ zi)) (ls_cnt lz (mt_aa τ zi)) hfA (mt_ca τ (mt_fl τ zc zj)) (hM.mca hfn) (ls_cap lz (mt_aa τ zi)) (ls_grow lz (mt_aa τ zi)) gA hgA 90 (ls_grow_le (K := 60) hct (by omega))) (cwV 1 hts gX5_gather_Jx4a65c_add_9ea2d rfl rfl rfl (by decide +kernel) ⟨(by show 6 + 1 ≤ zd + 1 + 7; omega), (by show 8 + (2 + 11) + 170 ≤ 24 * (zd + 1) + 200; omega)⟩) (mW_V hK hJ hS (hE.sub (by have := hS.1; omega)) hP 0 rfl hba.1 hfA) rfl rfl hl.1 rfl (lv_room (Nat.le_of_ble_eq_true rfl)) dX5_gather_53 ⟨(show kc + 1 ≤ zT by omega), (show 90 * kc + 90 ≤ 90 * zT by omega)⟩) hS (fun q _ h => (hE.sub (by have := hS.1; omega)) q h) (hE.sub (by have := hS.1; omega)) (fun r_12 u t H1 locs ht hvm hw hB hz1 hk1 hS => ?_)
          obtain ⟨L12, f12⟩ := u
          obtain ⟨hw, hE1⟩ := hw
          replace hB : va_P D vwCl (va_pl L12 f12) t.heap := hB
          rw [ht] at hB
          replace hE : pext L sz L12 := hE.tr (hszH) hE1
          have he9 : e0 < H.size := Nat.lt_of_lt_of_le hJ.lt.2 hszH
          obtain ⟨hr1, hw⟩ := hw
          subst hr1
          obtain ⟨d2, n2, hM2⟩ := hM.addA hzi hfn hfA hcA he9 hE1 hct hw
          obtain ⟨ay, hay⟩ : ∃ z, z = va_up az zi (va_up (az zi) (ls_cnt lz (mt_aa τ zi)) (mt_fl τ zc zj)) := ⟨_, rfl⟩
          obtain ⟨ly, hly⟩ : ∃ z, z = ls_add lz (mt_aa τ zi) (mt_ca τ (mt_fl τ zc zj)) d2 n2 := ⟨_, rfl⟩
          replace hM : MI e0 cO L12 f12 (mt_g τ (va_up kz (mt_fl τ zc zj) (mt_mark τ)) ay ly) := by rw [hay, hly]; exact hM2
          have hlq2 : ∀ b, b ≠ (mt_aa τ zi) → ls_cnt ly b = ls_cnt (mt_ls τ) b := fun b hb9 => by rw [hly, (ls_add_ne lz hb9).1]; exact hlq b hb9
          have hcy : ls_cnt ly (mt_aa τ zi) = ls_cnt lz (mt_aa τ zi) + 1 := by rw [hly]; exact (ls_add_self _ _ _ _ _).1
          clear hM2 hw he9 hfA hgA hcA
          have Fxa : f12 (mt_x τ) = .inr (6, [.ref (mt_c τ), .ref (mt_m τ), .int (mt_mark τ)]) := hM.x.2
          have Mxa : mt_x τ ∈ L12 := hM.x.1
          clear hPold hP hk1 hz1 hvm ht hszH hE1
          have hP := hB
          clear hB
          generalize H1 = H at hP hS ⊢
          have hD : va_D (mA L sz) (va_pl L12 f12) := hE.D
          refine lv_pop hx hb dX5_gather_56 rfl ?_
          refine lv_aload_n hx hb dX5_gather_57 rfl (lv_at hl 2 rfl) ?_
          refine lv_aload hx hb dX5_gather_58 (lv_at hl 0 rfl) ?_
          refine lv_aload_n hx hb dX5_gather_60 rfl (lv_at hl 4 rfl) ?_
          have hszH : sz ≤ H.size := by have := hS.1; omega
          have hPold := hP
          refine va_callv (va_runV (As := [.ref (mt_ca τ (mt_fl τ zc zj)), .ref (mt_aa τ zi)]) (rest := []) ⟨hx, hb, hml, hown, hts⟩ (ihd L12 f12 H.size hE.nd (va_up kz (mt_fl τ zc zj) (mt_mark τ)) ay ly hM hlq2 (by omega) (mt_fl τ zc zj) hfn (by omega)) (cwV 2 hts gX5_gather_X5_gather rfl rfl rfl (by decide +kernel) ⟨(by show (zd + 7) + 1 ≤ zd + 1 + 7; omega), (by show 8 + (5 + 11) + (24 * zd + 200) ≤ 24 * (zd + 1) + 200; omega)⟩) (mW_V hK hJ hS (hE.sub (by have := hS.1; omega)) hP 6 rfl Mxa Fxa) rfl rfl hl.1 rfl (lv_room (Nat.le_of_ble_eq_true rfl)) dX5_gather_61 ⟨(show kc + 1 + (t_gath τ zd (mt_fl τ zc zj) (va_up kz (mt_fl τ zc zj) (mt_mark τ))).2.length ≤ zT by omega), (show 90 * kc + 90 + 90 * (t_gath τ zd (mt_fl τ zc zj) (va_up kz (mt_fl τ zc zj) (mt_mark τ))).2.length ≤ 90 * zT by omega)⟩) hS (fun q _ h => (hE.sub (by have := hS.1; omega)) q h) (hE.sub (by have := hS.1; omega)) (fun u t H1 locs ht hvm hw hB hz1 hk1 hS => ?_)
          obtain ⟨L13, f13⟩ := u
          obtain ⟨hw, hE1⟩ := hw
          replace hB : va_P D vwCl (va_pl L13 f13) t.heap := hB
          rw [ht] at hB
          replace hE : pext L sz L13 := hE.tr (hszH) hE1
          obtain ⟨za, zl, hM2, hlq3, hum3⟩ := hw
          replace hM : MI e0 cO L13 f13 (mt_g τ (t_gath τ zd (mt_fl τ zc zj) (va_up kz (mt_fl τ zc zj) (mt_mark τ))).1 za zl) := hM2
          clear hM2
          clear hPold hP hk1 hz1 hvm ht hszH hE1
          have hP := hB
          clear hB
          generalize H1 = H at hP hS ⊢
          have hD : va_D (mA L sz) (va_pl L13 f13) := hE.D
          refine lv_iinc (v := (nI (zj + 1))) (lv' := [(3, .int (nI (zj + 1))), (4, .ref (mt_ca τ (mt_fl τ zc zj))), (0, .ref (mt_x τ)), (1, .ref (mt_ca τ zc)), (2, .ref (mt_aa τ zi))]) hx hb dX5_gather_64 hl (k := 1) rfl (nI_1 _) (by decide) rfl (fun ls hl => ?_)
          refine lv_goto (tgt := 2) hx hb dX5_gather_67 (by decide) ?_
          refine W.widen (k := kc + 1 + (t_gath τ zd (mt_fl τ zc zj) (va_up kz (mt_fl τ zc zj) (mt_mark τ))).2.length) (n := 90 * (kc + 1 + (t_gath τ zd (mt_fl τ zc zj) (va_up kz (mt_fl τ zc zj) (mt_mark τ))).2.length)) (by omega) (by omega) ?_
          exact ih L13 f13 (t_gath τ zd (mt_fl τ zc zj) (va_up kz (mt_fl τ zc zj) (mt_mark τ))).1 za zl (zj + 1) (kc + 1 + (t_gath τ zd (mt_fl τ zc zj) (va_up kz (mt_fl τ zc zj) (mt_mark τ))).2.length) H locs ls hP hS hE hM hlq3 (by omega) (by omega) hr1 (by omega) (lv_sub hl [0, 2, 3, 4] rfl)
        · rw [t_gf, if_pos c_10] at hr1 hr2
          refine lv_goto (tgt := 64) hx hb dX5_gather_38 (by decide) ?_
          refine lv_iinc (v := (nI (zj + 1))) (lv' := [(3, .int (nI (zj + 1))), (4, .ref (mt_ca τ (mt_fl τ zc zj))), (0, .ref (mt_x τ)), (1, .ref (mt_ca τ zc)), (2, .ref (mt_aa τ zi))]) hx hb dX5_gather_64 hl (k := 1) rfl (nI_1 _) (by decide) rfl (fun ls hl => ?_)
          refine lv_goto (tgt := 2) hx hb dX5_gather_67 (by decide) ?_
          exact ih Lz fz kz az lz (zj + 1) kc H locs ls hP hS hE hM hlq hrS (by omega) hr1 hr2 (lv_sub hl [0, 2, 3, 4] rfl)
