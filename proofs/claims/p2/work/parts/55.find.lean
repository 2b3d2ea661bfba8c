set_option maxHeartbeats 4000000 in
set_option maxRecDepth 100000 in
theorem c_X5_find (l : Launch) (D : va_G) (cO : ClassId) (mi e0 : Nat) (L : List Nat) (f : Nat → va_E) (sz : Nat) (hnd : L.Nodup) (τ : MT) (hM : MI e0 cO L f τ) (zx1 zx2 : Int32) : Met l yX5_find wsX5_find { frames := 71, cells := 60, slots := 5400, locals := 1734 } (mW D cO mi e0 L f sz [.ref (mt_x τ), .int zx1, .int zx2]) (wQi D L sz (fun r u => (r < 0 ∨ ∃ j, j < mt_mn τ ∧ r = nI j) ∧ (∃ (p9 : Nat → Int32) (m9 : Int32) (k9 : Nat → Int32) (a9 : Nat → Nat → Nat) (l9 : LSt), MI e0 cO u.1 u.2 (mt_f τ p9 m9 k9 a9 l9)))) 60 5400 (mA L sz) := by
  refine Met.ofW (cc := cX5_find) (maxL := 7) (ret := (some .int)) (by decide) rfl ?_
  intro p e s m args below meth cq s₁ B hml hv
  obtain ⟨rfl, hsz, hP, hK, hJ⟩ := hv
  have hx := B.exec
  have hb := B.bytes
  have hr := B.returns
  have hts := atoms_spec (ws := wsX5_find) B.pre
  have hown : s.vm.findClass RX5 = some m.cls := findClass_of_methodNamed B.named
  have hlocks := B.notSynchronized
  have hin := (name_of_methodNamed B.named B.method).1
  clear B
  have hl := lv_entry ([.ref (mt_x τ), .int zx1, .int zx2]) (n := 7) (Nat.le_of_ble_eq_true rfl)
  rw [lg_entry_eq]
  generalize (lg_sl ([.ref (mt_x τ), .int zx1, .int zx2]) ++ List.replicate (7 - (lg_sl ([.ref (mt_x τ), .int zx1, .int zx2])).length) Slot.unset).toArray = ls at hl ⊢
  replace hl : lv_has ls 7 [(0, .ref (mt_x τ)), (1, .int zx1), (2, .int zx2)] := hl
  have hA : ∀ q : Nat, s.heap.size ≤ q → mA L sz q := fun q h => Or.inr (by omega)
  have hE : pext L sz L := pext.rf hnd
  have hD : va_D (mA L sz) (va_pl L f) := hE.D
  refine gen_start (A := mA L sz) (fun H locs hP hS => ?_) hP
  have hMb : 1 ≤ mt_n τ ∧ mt_n τ ≤ 60 ∧ mt_mn τ ≤ 400 := hM.b
  refine lv_aload_n hx hb dX5_find_0 rfl (lv_at hl 0 rfl) ?_
  refine lv_iload_n hx hb dX5_find_1 rfl (lv_at hl 1 rfl) ?_
  refine va_callq (va_runV (As := [.int zx1]) (rest := []) ⟨hx, hb, hml, hown, hts⟩ (c_X5_at l D cO mi L f e0 τ hM zx1) (cwV 1 hts gX5_find_X5_at rfl rfl rfl (by decide +kernel) ⟨Nat.le_of_ble_eq_true rfl, Nat.le_of_ble_eq_true rfl⟩) (mP_V hK hP 6 rfl hM.x.1 hM.x.2) rfl rfl hl.1 rfl (lv_room (Nat.le_of_ble_eq_true rfl)) dX5_find_2 ⟨Nat.le_of_ble_eq_true rfl, Nat.le_of_ble_eq_true rfl⟩) hS (fun _ _ h => h.elim) (fun _ h => h.elim) (fun r_1 u t H1 locs ht hvm hw hB hz1 hk1 hS => ?_)
  replace hP := ro_kept hP hk1
  obtain rfl : r_1 = _ := hw
  clear hk1 hz1 hvm ht hB
  generalize H1 = H at hP hS ⊢
  rcases htzp : t_ati τ zx1 with _ | zp
  · rw [show t_at τ zx1 = none by simp [t_at, htzp]]
    refine lv_ifnullN (tgt := 15) hx hb dX5_find_5 (by decide) ?_
    refine lv_bipush (v := (-14)) hx hb dX5_find_15 (by decide) ?_
    refine W.widen (k := 60) (n := 5400) (by first | exact Nat.le_refl _ | omega) (by first | exact Nat.le_refl _ | omega) ?_
    exact W.iret (v := (-14)) hx hb hr (fun t ht hW => ⟨⟨(-14), (L, f), rfl, ⟨⟨Or.inl (by decide), mt_pt τ, mt_mark τ, mt_mk τ, mt_al τ, mt_ls τ, hM⟩, hE⟩, show va_P D vwCl (va_pl _ _) t.heap from (by rw [ht]; exact hP)⟩, hS.F ht⟩) hS.2.2 dX5_find_17
  · rw [show t_at τ zx1 = some (mt_ca τ zp) by simp [t_at, htzp]]
    refine lv_ifnull hx hb dX5_find_5 ?_
    refine lv_iload_n hx hb dX5_find_8 rfl (lv_at hl 2 rfl) ?_
    refine va_calli (va_runS (As := [.int zx2]) (rest := []) ⟨hx, hb, hml, hown, hts⟩ (c_X5_isName l D cO mi L f zx2) (va_cwS 1 hts gX5_find_X5_isName rfl rfl rfl (by decide +kernel) ⟨Nat.le_of_ble_eq_true rfl, Nat.le_of_ble_eq_true rfl⟩) (mP_S hK hP) rfl rfl hl.1 rfl (lv_room (Nat.le_of_ble_eq_true rfl)) dX5_find_9 ⟨Nat.le_of_ble_eq_true rfl, Nat.le_of_ble_eq_true rfl⟩) hS (fun _ _ h => h.elim) (fun _ h => h.elim) (fun r_2 u t H1 locs ht hvm hw hB hz1 hk1 hS => ?_)
    replace hP := ro_kept hP hk1
    obtain rfl : r_2 = _ := hw
    clear hk1 hz1 hvm ht hB
    generalize H1 = H at hP hS ⊢
    refine lv_if_ne (tgt := 18) hx hb dX5_find_12 (by decide) (fun c_3 => ?_) (fun c_3 => ?_)
    · replace c_3 := bI_n0.mp c_3
      refine lv_aload_n hx hb dX5_find_18 rfl (lv_at hl 0 rfl) ?_
      refine lv_iload_n hx hb dX5_find_19 rfl (lv_at hl 1 rfl) ?_
      refine va_callq (va_runV (As := [.int zx1]) (rest := []) ⟨hx, hb, hml, hown, hts⟩ (c_X5_at l D cO mi L f e0 τ hM zx1) (cwV 1 hts gX5_find_X5_at rfl rfl rfl (by decide +kernel) ⟨Nat.le_of_ble_eq_true rfl, Nat.le_of_ble_eq_true rfl⟩) (mP_V hK hP 6 rfl hM.x.1 hM.x.2) rfl rfl hl.1 rfl (lv_room (Nat.le_of_ble_eq_true rfl)) dX5_find_20 ⟨Nat.le_of_ble_eq_true rfl, Nat.le_of_ble_eq_true rfl⟩) hS (fun _ _ h => h.elim) (fun _ h => h.elim) (fun r_4 u t H1 locs ht hvm hw hB hz1 hk1 hS => ?_)
      replace hP := ro_kept hP hk1
      obtain rfl : r_4 = _ := hw
      clear hk1 hz1 hvm ht hB
      generalize H1 = H at hP hS ⊢
      rw [show t_at τ zx1 = some (mt_ca τ zp) by simp [t_at, htzp]]
      refine lv_astore_n (lv' := [(3, .ref (mt_ca τ zp)), (0, .ref (mt_x τ)), (1, .int zx1), (2, .int zx2)]) hx hb dX5_find_23 rfl hl (by decide) rfl (fun ls hl => ?_)
      refine lv_aload_n hx hb dX5_find_24 rfl (lv_at hl 0 rfl) ?_
      refine lv_astore (lv' := [(4, .ref (mt_ca τ zp)), (3, .ref (mt_ca τ zp)), (0, .ref (mt_x τ)), (1, .int zx1), (2, .int zx2)]) hx hb dX5_find_25 hl (by decide) rfl (fun ls hl => ?_)
      have hzp := t_ati_lt hM htzp
      obtain ⟨zk, hzk⟩ : ∃ z, z = some zp := ⟨_, rfl⟩
      obtain ⟨zn, hzn⟩ : ∃ z : Nat, z = 60 := ⟨_, rfl⟩
      have hE9 : ∀ p, zk = some p → p < zn ∧ p < mt_n τ := fun p hp => by rw [hzk] at hp; have := Option.some.inj hp; omega
      replace hl : lv_has ls 7 [(4, va_rf (zk.map (mt_ca τ))), (3, .ref (mt_ca τ zp)), (0, .ref (mt_x τ)), (1, .int zx1), (2, .int zx2)] := by rw [hzk]; exact lv_sub hl [0, 1, 2, 3, 4] rfl
      clear hzk hzn
      revert hl
      revert hE9
      revert hS
      revert hP
      revert ls
      revert locs
      revert H
      revert zk
      induction zn with
      | zero =>
        intro zk H locs ls hP hS hE9 hl
        rcases zk with _ | zo
        · have hdm := hE9
          refine lv_aloadN hx hb dX5_find_27 (lv_at hl 0 rfl) ?_
          refine lv_ifnullN (tgt := 72) hx hb dX5_find_29 (by decide) ?_
          refine lv_aload_n hx hb dX5_find_72 rfl (lv_at hl 2 rfl) ?_
          refine lv_aload_n hx hb dX5_find_73 rfl (lv_at hl 1 rfl) ?_
          refine lv_iload_n hx hb dX5_find_74 rfl (lv_at hl 4 rfl) ?_
          have hszH : sz ≤ H.size := by have := hS.1; omega
          have hPold := hP
          refine va_calli (va_runV (As := [.ref (mt_ca τ zp), .int zx2]) (rest := []) ⟨hx, hb, hml, hown, hts⟩ (c_X5_single l D cO mi e0 L f H.size hE.nd τ hM zp hzp zx2) (cwV 2 hts gX5_find_X5_single rfl rfl rfl (by decide +kernel) ⟨Nat.le_of_ble_eq_true rfl, Nat.le_of_ble_eq_true rfl⟩) (mW_V hK hJ hS (hE.sub (by have := hS.1; omega)) hP 6 rfl hM.x.1 hM.x.2) rfl rfl hl.1 rfl (lv_room (Nat.le_of_ble_eq_true rfl)) dX5_find_75 ⟨Nat.le_of_ble_eq_true rfl, Nat.le_of_ble_eq_true rfl⟩) hS (fun q _ h => (hE.sub (by have := hS.1; omega)) q h) (hE.sub (by have := hS.1; omega)) (fun r_5 u t H1 locs ht hvm hw hB hz1 hk1 hS => ?_)
          obtain ⟨L5, f5⟩ := u
          obtain ⟨hw, hE1⟩ := hw
          replace hB : va_P D vwCl (va_pl L5 f5) t.heap := hB
          rw [ht] at hB
          replace hE : pext L sz L5 := hE.tr (hszH) hE1
          obtain ⟨hrs, pz, mz, kz, az, lz, hM2, hpz, hlq⟩ := hw
          have hfN : mt_fa τ zp ≠ mt_aa τ zp := hM.faNaa hzp hzp
          replace hpz : pz zp = nI (ls_cnt lz (mt_fa τ zp)) := by rw [hlq _ hfN]; exact hpz
          replace hM : MI e0 cO L5 f5 (mt_f τ pz mz kz az lz) := hM2
          clear hM2 hlq
          obtain ⟨zs, hzs⟩ : ∃ z, r_5 = z := ⟨_, rfl⟩
          subst hzs
          clear hPold hP hk1 hz1 hvm ht hszH hE1
          have hP := hB
          clear hB
          generalize H1 = H at hP hS ⊢
          have hD : va_D (mA L sz) (va_pl L5 f5) := hE.D
          replace hzp : zp < mt_n τ := hzp
          refine lv_istore (lv' := [(4, .int r_5), (3, .ref (mt_ca τ zp)), (0, .ref (mt_x τ)), (1, .int zx1), (2, .int zx2)]) hx hb dX5_find_78 hl (by decide) rfl (fun ls hl => ?_)
          refine lv_iload hx hb dX5_find_80 (lv_at hl 0 rfl) ?_
          refine lv_if_lt (tgt := 88) hx hb dX5_find_82 (by decide) (fun c_6 => ?_) (fun c_6 => ?_)
          · refine lv_aload_n hx hb dX5_find_88 rfl (lv_at hl 2 rfl) ?_
            refine lv_aload_n hx hb dX5_find_89 rfl (lv_at hl 1 rfl) ?_
            have hszH : sz ≤ H.size := by have := hS.1; omega
            have hPold := hP
            refine va_callq (va_runV (As := [.ref (mt_ca τ zp)]) (rest := []) ⟨hx, hb, hml, hown, hts⟩ (c_X5_facesOf0 l D cO mi e0 L5 f5 H.size hE.nd (mt_f τ pz mz kz az lz) hM zp hzp hpz) (cwV 1 hts gX5_find_X5_facesOf rfl rfl rfl (by decide +kernel) ⟨Nat.le_of_ble_eq_true rfl, Nat.le_of_ble_eq_true rfl⟩) (mW_V hK hJ hS (hE.sub (by have := hS.1; omega)) hP 6 rfl hM.x.1 hM.x.2) rfl rfl hl.1 rfl (lv_room (Nat.le_of_ble_eq_true rfl)) dX5_find_90 ⟨Nat.le_of_ble_eq_true rfl, Nat.le_of_ble_eq_true rfl⟩) hS (fun q _ h => (hE.sub (by have := hS.1; omega)) q h) (hE.sub (by have := hS.1; omega)) (fun r_7 u t H1 locs ht hvm hw hB hz1 hk1 hS => ?_)
            obtain ⟨L7, f7⟩ := u
            obtain ⟨hw, hE1⟩ := hw
            replace hB : va_P D vwCl (va_pl L7 f7) t.heap := hB
            rw [ht] at hB
            replace hE : pext L sz L7 := hE.tr (hszH) hE1
            obtain ⟨hr1, p8, m8, k8, a8, l8, hM2, -, -⟩ := hw
            subst hr1
            clear hpz
            obtain ⟨pz, mz, kz, az, lz, hM⟩ : ∃ (p9 : Nat → Int32) (m9 : Int32) (k9 : Nat → Int32) (a9 : Nat → Nat → Nat) (l9 : LSt), MI e0 cO L7 f7 (mt_f τ p9 m9 k9 a9 l9) := ⟨p8, m8, k8, a8, l8, hM2⟩
            clear hM2
            have hMl : ls_cnt lz (mt_aa τ zp) ≤ 60 ∧ ∀ k, k < ls_cnt lz (mt_aa τ zp) → az zp k < mt_n τ ∧ ls_con lz (mt_aa τ zp) k = mt_ca τ (az zp k) := (hM.cl hzp).2.2.2.2.2
            clear hPold hP hk1 hz1 hvm ht hszH hE1
            have hP := hB
            clear hB
            generalize H1 = H at hP hS ⊢
            have hD : va_D (mA L sz) (va_pl L7 f7) := hE.D
            refine lv_astore (lv' := [(5, .ref (mt_aa τ zp)), (4, .int r_5), (3, .ref (mt_ca τ zp)), (0, .ref (mt_x τ)), (1, .int zx1), (2, .int zx2)]) hx hb dX5_find_93 hl (by decide) rfl (fun ls hl => ?_)
            refine lv_iconst (v := (nI 0)) hx hb dX5_find_95 (by decide) ?_
            refine lv_istore (lv' := [(6, .int (nI 0)), (5, .ref (mt_aa τ zp)), (4, .int r_5), (3, .ref (mt_ca τ zp)), (0, .ref (mt_x τ)), (1, .int zx1), (2, .int zx2)]) hx hb dX5_find_96 hl (by decide) rfl (fun ls hl => ?_)
            obtain ⟨zn, hzn⟩ : ∃ z : Nat, z = ls_cnt lz (mt_aa τ zp) := ⟨_, rfl⟩
            obtain ⟨zj, hzj⟩ : ∃ z : Nat, z = 0 := ⟨_, rfl⟩
            have hE8 : zj + zn = ls_cnt lz (mt_aa τ zp) := by omega
            replace hl : lv_has ls 7 [(6, .int (nI zj)), (5, .ref (mt_aa τ zp)), (3, .ref (mt_ca τ zp)), (0, .ref (mt_x τ)), (1, .int zx1), (2, .int zx2)] := by rw [hzj]; exact lv_sub hl [0, 1, 3, 4, 5, 6] rfl
            clear hzn hzj
            revert hl
            revert hE8
            revert hS
            revert hP
            revert ls
            revert locs
            revert H
            revert zj
            induction zn with
            | zero =>
              intro zj H locs ls hP hS hE8 hl
              refine lv_iload hx hb dX5_find_98 (lv_at hl 0 rfl) ?_
              refine lv_aload hx hb dX5_find_100 (lv_at hl 1 rfl) ?_
              obtain ⟨mcz8, gz8, hfz8, hgz8, hcz8⟩ := hM.ly.raw (b := (mt_aa τ zp)) (hM.aa hzp).1 (hM.aa hzp).2
              refine va_calli (va_runV (As := []) (rest := [.int (nI zj)]) ⟨hx, hb, hml, hown, hts⟩ (c_Jx4a65c_size_8abf5 l D cO mi L7 f7 (mt_aa τ zp) (hM.aa hzp).1 mcz8 (ls_dat lz (mt_aa τ zp)) (ls_cnt lz (mt_aa τ zp)) hfz8) (cwV 0 hts gX5_find_Jx4a65c_size_8abf5 rfl rfl rfl (by decide +kernel) ⟨Nat.le_of_ble_eq_true rfl, Nat.le_of_ble_eq_true rfl⟩) (mP_V hK hP 0 rfl (hM.aa hzp).1 hfz8) rfl rfl hl.1 rfl (lv_room (Nat.le_of_ble_eq_true rfl)) dX5_find_102 ⟨Nat.le_of_ble_eq_true rfl, Nat.le_of_ble_eq_true rfl⟩) hS (fun _ _ h => h.elim) (fun _ h => h.elim) (fun r_9 u t H1 locs ht hvm hw hB hz1 hk1 hS => ?_)
              replace hP := ro_kept hP hk1
              obtain rfl : r_9 = _ := hw
              clear hk1 hz1 hvm ht hB
              generalize H1 = H at hP hS ⊢
              clear hcz8 hgz8
              refine lv_icmp_ge (tgt := 149) hx hb dX5_find_105 (by decide) (fun c_10 => ?_) (fun c_10 => ?_)
              · refine lv_iconst (v := (-1)) hx hb dX5_find_149 (by decide) ?_
                refine W.widen (k := 60) (n := 5400) (by first | exact Nat.le_refl _ | omega) (by first | exact Nat.le_refl _ | omega) ?_
                exact W.iret (v := (-1)) hx hb hr (fun t ht hW => ⟨⟨(-1), (L7, f7), rfl, ⟨⟨Or.inl (by decide), pz, mz, kz, az, lz, hM⟩, hE⟩, show va_P D vwCl (va_pl _ _) t.heap from (by rw [ht]; exact hP)⟩, hS.F ht⟩) hS.2.2 dX5_find_150
              · exact absurd (nI_le (by omega) (by omega)) c_10
            | succ zn ih =>
              intro zj H locs ls hP hS hE8 hl
              have hjt : zj < ls_cnt lz (mt_aa τ zp) := by omega
              have hbt := (hMl.2 zj hjt).1
              refine lv_iload hx hb dX5_find_98 (lv_at hl 0 rfl) ?_
              refine lv_aload hx hb dX5_find_100 (lv_at hl 1 rfl) ?_
              obtain ⟨mcz11, gz11, hfz11, hgz11, hcz11⟩ := hM.ly.raw (b := (mt_aa τ zp)) (hM.aa hzp).1 (hM.aa hzp).2
              refine va_calli (va_runV (As := []) (rest := [.int (nI zj)]) ⟨hx, hb, hml, hown, hts⟩ (c_Jx4a65c_size_8abf5 l D cO mi L7 f7 (mt_aa τ zp) (hM.aa hzp).1 mcz11 (ls_dat lz (mt_aa τ zp)) (ls_cnt lz (mt_aa τ zp)) hfz11) (cwV 0 hts gX5_find_Jx4a65c_size_8abf5 rfl rfl rfl (by decide +kernel) ⟨Nat.le_of_ble_eq_true rfl, Nat.le_of_ble_eq_true rfl⟩) (mP_V hK hP 0 rfl (hM.aa hzp).1 hfz11) rfl rfl hl.1 rfl (lv_room (Nat.le_of_ble_eq_true rfl)) dX5_find_102 ⟨Nat.le_of_ble_eq_true rfl, Nat.le_of_ble_eq_true rfl⟩) hS (fun _ _ h => h.elim) (fun _ h => h.elim) (fun r_12 u t H1 locs ht hvm hw hB hz1 hk1 hS => ?_)
              replace hP := ro_kept hP hk1
              obtain rfl : r_12 = _ := hw
              clear hk1 hz1 hvm ht hB
              generalize H1 = H at hP hS ⊢
              clear hcz11 hgz11
              refine lv_icmp_ge (tgt := 149) hx hb dX5_find_105 (by decide) (fun c_13 => ?_) (fun c_13 => ?_)
              · exact absurd c_13 (nI_ge (by omega) (by omega))
              · refine lv_aload hx hb dX5_find_108 (lv_at hl 1 rfl) ?_
                refine lv_iload hx hb dX5_find_110 (lv_at hl 0 rfl) ?_
                obtain ⟨mcz14, gz14, hfz14, hdz14, hfdz14, hcnz14, hcpz14, hgiz14⟩ := hM.ly.get (b := (mt_aa τ zp)) (i := zj) (hM.aa hzp).1 (hM.aa hzp).2 hjt
                replace hgiz14 : gz14 zj = some (mt_ca τ (az zp zj)) := hgiz14.trans (congrArg some (hMl.2 zj hjt).2)
                refine va_callq (va_runV (As := [.int (nI zj)]) (rest := []) ⟨hx, hb, hml, hown, hts⟩ (c_Jx4a65c_get_915e3 l D cO mi L7 f7 (mt_aa τ zp) (hM.aa hzp).1 mcz14 (ls_dat lz (mt_aa τ zp)) (ls_cnt lz (mt_aa τ zp)) hfz14 hdz14 (ls_cap lz (mt_aa τ zp)) gz14 hfdz14 hcnz14 hcpz14 zj hjt) (cwV 1 hts gX5_find_Jx4a65c_get_915e3 rfl rfl rfl (by decide +kernel) ⟨Nat.le_of_ble_eq_true rfl, Nat.le_of_ble_eq_true rfl⟩) (mP_V hK hP 0 rfl (hM.aa hzp).1 hfz14) rfl rfl hl.1 rfl (lv_room (Nat.le_of_ble_eq_true rfl)) dX5_find_112 ⟨Nat.le_of_ble_eq_true rfl, Nat.le_of_ble_eq_true rfl⟩) hS (fun _ _ h => h.elim) (fun _ h => h.elim) (fun r_15 u t H1 locs ht hvm hw hB hz1 hk1 hS => ?_)
                replace hP := ro_kept hP hk1
                obtain rfl : r_15 = _ := hw
                clear hk1 hz1 hvm ht hB
                generalize H1 = H at hP hS ⊢
                rw [hgiz14]
                clear hgiz14 hfdz14 hdz14 hcnz14 hcpz14
                refine va_castY (C := RX3) hx hb hown (hts (.classLink RX5 19 RX3) (by decide +kernel)) hK.2.2.2.2.2.2.1 (pl_recv (ci := 4) hK.1 hP rfl (hM.cl hbt).1 (hM.cl hbt).2.1) dX5_find_115 ?_
                refine lv_iload_n hx hb dX5_find_118 rfl (lv_at hl 5 rfl) ?_
                refine va_callq (va_runV (As := [.int zx2]) (rest := []) ⟨hx, hb, hml, hown, hts⟩ (c_X3_named l D cO mi L7 f7 e0 (mt_f τ pz mz kz az lz) hM (az zp zj) hbt zx2) (cwV 1 hts gX5_find_X3_named rfl rfl rfl (by decide +kernel) ⟨Nat.le_of_ble_eq_true rfl, Nat.le_of_ble_eq_true rfl⟩) (mP_V hK hP 4 rfl (hM.cl hbt).1 (hM.cl hbt).2.1) rfl rfl hl.1 rfl (lv_room (Nat.le_of_ble_eq_true rfl)) dX5_find_119 ⟨Nat.le_of_ble_eq_true rfl, Nat.le_of_ble_eq_true rfl⟩) hS (fun _ _ h => h.elim) (fun _ h => h.elim) (fun r_16 u t H1 locs ht hvm hw hB hz1 hk1 hS => ?_)
                replace hP := ro_kept hP hk1
                obtain rfl : r_16 = _ := hw
                clear hk1 hz1 hvm ht hB
                generalize H1 = H at hP hS ⊢
                rcases htzjb : t_idx (mt_f τ pz mz kz az lz) (az zp zj) zx2 with _ | zjb
                · rw [show t_named (mt_f τ pz mz kz az lz) (az zp zj) zx2 = none by simp only [t_named, htzjb]; rfl]
                  refine lv_ifnullN (tgt := 143) hx hb dX5_find_122 (by decide) ?_
                  refine lv_iinc (v := (nI (zj + 1))) (lv' := [(6, .int (nI (zj + 1))), (5, .ref (mt_aa τ zp)), (3, .ref (mt_ca τ zp)), (0, .ref (mt_x τ)), (1, .int zx1), (2, .int zx2)]) hx hb dX5_find_143 hl (k := 0) rfl (nI_1 _) (by decide) rfl (fun ls hl => ?_)
                  refine lv_goto (tgt := 98) hx hb dX5_find_146 (by decide) ?_
                  exact ih (zj + 1) H locs ls hP hS (by omega) (lv_sub hl [0, 1, 2, 3, 4, 5] rfl)
                · rw [show t_named (mt_f τ pz mz kz az lz) (az zp zj) zx2 = some (mt_ja τ zjb) by simp only [t_named, htzjb]; rfl]
                  have hltzjb : zjb < mt_mn τ := t_idx_lt hM hbt htzjb
                  refine lv_ifnull hx hb dX5_find_122 ?_
                  refine lv_aload hx hb dX5_find_125 (lv_at hl 1 rfl) ?_
                  refine lv_iload hx hb dX5_find_127 (lv_at hl 0 rfl) ?_
                  obtain ⟨mcz17, gz17, hfz17, hdz17, hfdz17, hcnz17, hcpz17, hgiz17⟩ := hM.ly.get (b := (mt_aa τ zp)) (i := zj) (hM.aa hzp).1 (hM.aa hzp).2 hjt
                  replace hgiz17 : gz17 zj = some (mt_ca τ (az zp zj)) := hgiz17.trans (congrArg some (hMl.2 zj hjt).2)
                  refine va_callq (va_runV (As := [.int (nI zj)]) (rest := []) ⟨hx, hb, hml, hown, hts⟩ (c_Jx4a65c_get_915e3 l D cO mi L7 f7 (mt_aa τ zp) (hM.aa hzp).1 mcz17 (ls_dat lz (mt_aa τ zp)) (ls_cnt lz (mt_aa τ zp)) hfz17 hdz17 (ls_cap lz (mt_aa τ zp)) gz17 hfdz17 hcnz17 hcpz17 zj hjt) (cwV 1 hts gX5_find_Jx4a65c_get_915e3 rfl rfl rfl (by decide +kernel) ⟨Nat.le_of_ble_eq_true rfl, Nat.le_of_ble_eq_true rfl⟩) (mP_V hK hP 0 rfl (hM.aa hzp).1 hfz17) rfl rfl hl.1 rfl (lv_room (Nat.le_of_ble_eq_true rfl)) dX5_find_129 ⟨Nat.le_of_ble_eq_true rfl, Nat.le_of_ble_eq_true rfl⟩) hS (fun _ _ h => h.elim) (fun _ h => h.elim) (fun r_18 u t H1 locs ht hvm hw hB hz1 hk1 hS => ?_)
                  replace hP := ro_kept hP hk1
                  obtain rfl : r_18 = _ := hw
                  clear hk1 hz1 hvm ht hB
                  generalize H1 = H at hP hS ⊢
                  rw [hgiz17]
                  clear hgiz17 hfdz17 hdz17 hcnz17 hcpz17
                  refine va_castY (C := RX3) hx hb hown (hts (.classLink RX5 19 RX3) (by decide +kernel)) hK.2.2.2.2.2.2.1 (pl_recv (ci := 4) hK.1 hP rfl (hM.cl hbt).1 (hM.cl hbt).2.1) dX5_find_132 ?_
                  refine lv_iload_n hx hb dX5_find_135 rfl (lv_at hl 5 rfl) ?_
                  refine va_callq (va_runV (As := [.int zx2]) (rest := []) ⟨hx, hb, hml, hown, hts⟩ (c_X3_named l D cO mi L7 f7 e0 (mt_f τ pz mz kz az lz) hM (az zp zj) hbt zx2) (cwV 1 hts gX5_find_X3_named rfl rfl rfl (by decide +kernel) ⟨Nat.le_of_ble_eq_true rfl, Nat.le_of_ble_eq_true rfl⟩) (mP_V hK hP 4 rfl (hM.cl hbt).1 (hM.cl hbt).2.1) rfl rfl hl.1 rfl (lv_room (Nat.le_of_ble_eq_true rfl)) dX5_find_136 ⟨Nat.le_of_ble_eq_true rfl, Nat.le_of_ble_eq_true rfl⟩) hS (fun _ _ h => h.elim) (fun _ h => h.elim) (fun r_19 u t H1 locs ht hvm hw hB hz1 hk1 hS => ?_)
                  replace hP := ro_kept hP hk1
                  obtain rfl : r_19 = _ := hw
                  clear hk1 hz1 hvm ht hB
                  generalize H1 = H at hP hS ⊢
                  rw [show t_named (mt_f τ pz mz kz az lz) (az zp zj) zx2 = some (mt_ja τ zjb) by simp only [t_named, htzjb]; rfl]
                  refine pl_get (D := D) (ci := 5) (v := .int (nI zjb)) (C := RX4) (T := TX4) (N := 7) hx hb hts (by decide +kernel) hown hK.1 hP (hM.me hltzjb).1 (hM.me hltzjb).2.1 rfl 0 (by decide) (hts (.fieldLink RX5 65 "ChooseTreeModel$Met" "number" "I") (by decide +kernel)) (fun _ h9 => h9) rfl dX5_find_139 ?_
                  refine W.widen (k := 60) (n := 5400) (by first | exact Nat.le_refl _ | omega) (by first | exact Nat.le_refl _ | omega) ?_
                  exact W.iret (v := (nI zjb)) hx hb hr (fun t ht hW => ⟨⟨(nI zjb), (L7, f7), rfl, ⟨⟨Or.inr ⟨zjb, hltzjb, rfl⟩, pz, mz, kz, az, lz, hM⟩, hE⟩, show va_P D vwCl (va_pl _ _) t.heap from (by rw [ht]; exact hP)⟩, hS.F ht⟩) hS.2.2 dX5_find_142
          · refine lv_iload hx hb dX5_find_85 (lv_at hl 0 rfl) ?_
            refine W.widen (k := 60) (n := 5400) (by first | exact Nat.le_refl _ | omega) (by first | exact Nat.le_refl _ | omega) ?_
            exact W.iret (v := r_5) hx hb hr (fun t ht hW => ⟨⟨r_5, (L5, f5), rfl, ⟨⟨hrs, pz, mz, kz, az, lz, hM⟩, hE⟩, show va_P D vwCl (va_pl _ _) t.heap from (by rw [ht]; exact hP)⟩, hS.F ht⟩) hS.2.2 dX5_find_87
        · exact absurd (hE9 zo rfl).1 (by omega)
      | succ zn ih =>
        intro zk H locs ls hP hS hE9 hl
        rcases zk with _ | zo
        · have hdm := hE9
          refine lv_aloadN hx hb dX5_find_27 (lv_at hl 0 rfl) ?_
          refine lv_ifnullN (tgt := 72) hx hb dX5_find_29 (by decide) ?_
          refine lv_aload_n hx hb dX5_find_72 rfl (lv_at hl 2 rfl) ?_
          refine lv_aload_n hx hb dX5_find_73 rfl (lv_at hl 1 rfl) ?_
          refine lv_iload_n hx hb dX5_find_74 rfl (lv_at hl 4 rfl) ?_
          have hszH : sz ≤ H.size := by have := hS.1; omega
          have hPold := hP
          refine va_calli (va_runV (As := [.ref (mt_ca τ zp), .int zx2]) (rest := []) ⟨hx, hb, hml, hown, hts⟩ (c_X5_single l D cO mi e0 L f H.size hE.nd τ hM zp hzp zx2) (cwV 2 hts gX5_find_X5_single rfl rfl rfl (by decide +kernel) ⟨Nat.le_of_ble_eq_true rfl, Nat.le_of_ble_eq_true rfl⟩) (mW_V hK hJ hS (hE.sub (by have := hS.1; omega)) hP 6 rfl hM.x.1 hM.x.2) rfl rfl hl.1 rfl (lv_room (Nat.le_of_ble_eq_true rfl)) dX5_find_75 ⟨Nat.le_of_ble_eq_true rfl, Nat.le_of_ble_eq_true rfl⟩) hS (fun q _ h => (hE.sub (by have := hS.1; omega)) q h) (hE.sub (by have := hS.1; omega)) (fun r_20 u t H1 locs ht hvm hw hB hz1 hk1 hS => ?_)
          obtain ⟨L20, f20⟩ := u
          obtain ⟨hw, hE1⟩ := hw
          replace hB : va_P D vwCl (va_pl L20 f20) t.heap := hB
          rw [ht] at hB
          replace hE : pext L sz L20 := hE.tr (hszH) hE1
          obtain ⟨hrs, pz, mz, kz, az, lz, hM2, hpz, hlq⟩ := hw
          have hfN : mt_fa τ zp ≠ mt_aa τ zp := hM.faNaa hzp hzp
          replace hpz : pz zp = nI (ls_cnt lz (mt_fa τ zp)) := by rw [hlq _ hfN]; exact hpz
          replace hM : MI e0 cO L20 f20 (mt_f τ pz mz kz az lz) := hM2
          clear hM2 hlq
          obtain ⟨zs, hzs⟩ : ∃ z, r_20 = z := ⟨_, rfl⟩
          subst hzs
          clear hPold hP hk1 hz1 hvm ht hszH hE1
          have hP := hB
          clear hB
          generalize H1 = H at hP hS ⊢
          have hD : va_D (mA L sz) (va_pl L20 f20) := hE.D
          replace hzp : zp < mt_n τ := hzp
          refine lv_istore (lv' := [(4, .int r_20), (3, .ref (mt_ca τ zp)), (0, .ref (mt_x τ)), (1, .int zx1), (2, .int zx2)]) hx hb dX5_find_78 hl (by decide) rfl (fun ls hl => ?_)
          refine lv_iload hx hb dX5_find_80 (lv_at hl 0 rfl) ?_
          refine lv_if_lt (tgt := 88) hx hb dX5_find_82 (by decide) (fun c_21 => ?_) (fun c_21 => ?_)
          · refine lv_aload_n hx hb dX5_find_88 rfl (lv_at hl 2 rfl) ?_
            refine lv_aload_n hx hb dX5_find_89 rfl (lv_at hl 1 rfl) ?_
            have hszH : sz ≤ H.size := by have := hS.1; omega
            have hPold := hP
            refine va_callq (va_runV (As := [.ref (mt_ca τ zp)]) (rest := []) ⟨hx, hb, hml, hown, hts⟩ (c_X5_facesOf0 l D cO mi e0 L20 f20 H.size hE.nd (mt_f τ pz mz kz az lz) hM zp hzp hpz) (cwV 1 hts gX5_find_X5_facesOf rfl rfl rfl (by decide +kernel) ⟨Nat.le_of_ble_eq_true rfl, Nat.le_of_ble_eq_true rfl⟩) (mW_V hK hJ hS (hE.sub (by have := hS.1; omega)) hP 6 rfl hM.x.1 hM.x.2) rfl rfl hl.1 rfl (lv_room (Nat.le_of_ble_eq_true rfl)) dX5_find_90 ⟨Nat.le_of_ble_eq_true rfl, Nat.le_of_ble_eq_true rfl⟩) hS (fun q _ h => (hE.sub (by have := hS.1; omega)) q h) (hE.sub (by have := hS.1; omega)) (fun r_22 u t H1 locs ht hvm hw hB hz1 hk1 hS => ?_)
            obtain ⟨L22, f22⟩ := u
            obtain ⟨hw, hE1⟩ := hw
            replace hB : va_P D vwCl (va_pl L22 f22) t.heap := hB
            rw [ht] at hB
            replace hE : pext L sz L22 := hE.tr (hszH) hE1
            obtain ⟨hr1, p8, m8, k8, a8, l8, hM2, -, -⟩ := hw
            subst hr1
            clear hpz
            obtain ⟨pz, mz, kz, az, lz, hM⟩ : ∃ (p9 : Nat → Int32) (m9 : Int32) (k9 : Nat → Int32) (a9 : Nat → Nat → Nat) (l9 : LSt), MI e0 cO L22 f22 (mt_f τ p9 m9 k9 a9 l9) := ⟨p8, m8, k8, a8, l8, hM2⟩
            clear hM2
            have hMl : ls_cnt lz (mt_aa τ zp) ≤ 60 ∧ ∀ k, k < ls_cnt lz (mt_aa τ zp) → az zp k < mt_n τ ∧ ls_con lz (mt_aa τ zp) k = mt_ca τ (az zp k) := (hM.cl hzp).2.2.2.2.2
            clear hPold hP hk1 hz1 hvm ht hszH hE1
            have hP := hB
            clear hB
            generalize H1 = H at hP hS ⊢
            have hD : va_D (mA L sz) (va_pl L22 f22) := hE.D
            refine lv_astore (lv' := [(5, .ref (mt_aa τ zp)), (4, .int r_20), (3, .ref (mt_ca τ zp)), (0, .ref (mt_x τ)), (1, .int zx1), (2, .int zx2)]) hx hb dX5_find_93 hl (by decide) rfl (fun ls hl => ?_)
            refine lv_iconst (v := (nI 0)) hx hb dX5_find_95 (by decide) ?_
            refine lv_istore (lv' := [(6, .int (nI 0)), (5, .ref (mt_aa τ zp)), (4, .int r_20), (3, .ref (mt_ca τ zp)), (0, .ref (mt_x τ)), (1, .int zx1), (2, .int zx2)]) hx hb dX5_find_96 hl (by decide) rfl (fun ls hl => ?_)
            obtain ⟨zn, hzn⟩ : ∃ z : Nat, z = ls_cnt lz (mt_aa τ zp) := ⟨_, rfl⟩
            obtain ⟨zj, hzj⟩ : ∃ z : Nat, z = 0 := ⟨_, rfl⟩
            have hE8 : zj + zn = ls_cnt lz (mt_aa τ zp) := by omega
            replace hl : lv_has ls 7 [(6, .int (nI zj)), (5, .ref (mt_aa τ zp)), (3, .ref (mt_ca τ zp)), (0, .ref (mt_x τ)), (1, .int zx1), (2, .int zx2)] := by rw [hzj]; exact lv_sub hl [0, 1, 3, 4, 5, 6] rfl
            clear hzn hzj
            revert hl
            revert hE8
            revert hS
            revert hP
            revert ls
            revert locs
            revert H
            revert zj
            induction zn with
            | zero =>
              intro zj H locs ls hP hS hE8 hl
              refine lv_iload hx hb dX5_find_98 (lv_at hl 0 rfl) ?_
              refine lv_aload hx hb dX5_find_100 (lv_at hl 1 rfl) ?_
              obtain ⟨mcz23, gz23, hfz23, hgz23, hcz23⟩ := hM.ly.raw (b := (mt_aa τ zp)) (hM.aa hzp).1 (hM.aa hzp).2
              refine va_calli (va_runV (As := []) (rest := [.int (nI zj)]) ⟨hx, hb, hml, hown, hts⟩ (c_Jx4a65c_size_8abf5 l D cO mi L22 f22 (mt_aa τ zp) (hM.aa hzp).1 mcz23 (ls_dat lz (mt_aa τ zp)) (ls_cnt lz (mt_aa τ zp)) hfz23) (cwV 0 hts gX5_find_Jx4a65c_size_8abf5 rfl rfl rfl (by decide +kernel) ⟨Nat.le_of_ble_eq_true rfl, Nat.le_of_ble_eq_true rfl⟩) (mP_V hK hP 0 rfl (hM.aa hzp).1 hfz23) rfl rfl hl.1 rfl (lv_room (Nat.le_of_ble_eq_true rfl)) dX5_find_102 ⟨Nat.le_of_ble_eq_true rfl, Nat.le_of_ble_eq_true rfl⟩) hS (fun _ _ h => h.elim) (fun _ h => h.elim) (fun r_24 u t H1 locs ht hvm hw hB hz1 hk1 hS => ?_)
              replace hP := ro_kept hP hk1
              obtain rfl : r_24 = _ := hw
              clear hk1 hz1 hvm ht hB
              generalize H1 = H at hP hS ⊢
              clear hcz23 hgz23
              refine lv_icmp_ge (tgt := 149) hx hb dX5_find_105 (by decide) (fun c_25 => ?_) (fun c_25 => ?_)
              · refine lv_iconst (v := (-1)) hx hb dX5_find_149 (by decide) ?_
                refine W.widen (k := 60) (n := 5400) (by first | exact Nat.le_refl _ | omega) (by first | exact Nat.le_refl _ | omega) ?_
                exact W.iret (v := (-1)) hx hb hr (fun t ht hW => ⟨⟨(-1), (L22, f22), rfl, ⟨⟨Or.inl (by decide), pz, mz, kz, az, lz, hM⟩, hE⟩, show va_P D vwCl (va_pl _ _) t.heap from (by rw [ht]; exact hP)⟩, hS.F ht⟩) hS.2.2 dX5_find_150
              · exact absurd (nI_le (by omega) (by omega)) c_25
            | succ zn ih =>
              intro zj H locs ls hP hS hE8 hl
              have hjt : zj < ls_cnt lz (mt_aa τ zp) := by omega
              have hbt := (hMl.2 zj hjt).1
              refine lv_iload hx hb dX5_find_98 (lv_at hl 0 rfl) ?_
              refine lv_aload hx hb dX5_find_100 (lv_at hl 1 rfl) ?_
              obtain ⟨mcz26, gz26, hfz26, hgz26, hcz26⟩ := hM.ly.raw (b := (mt_aa τ zp)) (hM.aa hzp).1 (hM.aa hzp).2
              refine va_calli (va_runV (As := []) (rest := [.int (nI zj)]) ⟨hx, hb, hml, hown, hts⟩ (c_Jx4a65c_size_8abf5 l D cO mi L22 f22 (mt_aa τ zp) (hM.aa hzp).1 mcz26 (ls_dat lz (mt_aa τ zp)) (ls_cnt lz (mt_aa τ zp)) hfz26) (cwV 0 hts gX5_find_Jx4a65c_size_8abf5 rfl rfl rfl (by decide +kernel) ⟨Nat.le_of_ble_eq_true rfl, Nat.le_of_ble_eq_true rfl⟩) (mP_V hK hP 0 rfl (hM.aa hzp).1 hfz26) rfl rfl hl.1 rfl (lv_room (Nat.le_of_ble_eq_true rfl)) dX5_find_102 ⟨Nat.le_of_ble_eq_true rfl, Nat.le_of_ble_eq_true rfl⟩) hS (fun _ _ h => h.elim) (fun _ h => h.elim) (fun r_27 u t H1 locs ht hvm hw hB hz1 hk1 hS => ?_)
              replace hP := ro_kept hP hk1
              obtain rfl : r_27 = _ := hw
              clear hk1 hz1 hvm ht hB
              generalize H1 = H at hP hS ⊢
              clear hcz26 hgz26
              refine lv_icmp_ge (tgt := 149) hx hb dX5_find_105 (by decide) (fun c_28 => ?_) (fun c_28 => ?_)
              · exact absurd c_28 (nI_ge (by omega) (by omega))
              · refine lv_aload hx hb dX5_find_108 (lv_at hl 1 rfl) ?_
                refine lv_iload hx hb dX5_find_110 (lv_at hl 0 rfl) ?_
                obtain ⟨mcz29, gz29, hfz29, hdz29, hfdz29, hcnz29, hcpz29, hgiz29⟩ := hM.ly.get (b := (mt_aa τ zp)) (i := zj) (hM.aa hzp).1 (hM.aa hzp).2 hjt
                replace hgiz29 : gz29 zj = some (mt_ca τ (az zp zj)) := hgiz29.trans (congrArg some (hMl.2 zj hjt).2)
                refine va_callq (va_runV (As := [.int (nI zj)]) (rest := []) ⟨hx, hb, hml, hown, hts⟩ (c_Jx4a65c_get_915e3 l D cO mi L22 f22 (mt_aa τ zp) (hM.aa hzp).1 mcz29 (ls_dat lz (mt_aa τ zp)) (ls_cnt lz (mt_aa τ zp)) hfz29 hdz29 (ls_cap lz (mt_aa τ zp)) gz29 hfdz29 hcnz29 hcpz29 zj hjt) (cwV 1 hts gX5_find_Jx4a65c_get_915e3 rfl rfl rfl (by decide +kernel) ⟨Nat.le_of_ble_eq_true rfl, Nat.le_of_ble_eq_true rfl⟩) (mP_V hK hP 0 rfl (hM.aa hzp).1 hfz29) rfl rfl hl.1 rfl (lv_room (Nat.le_of_ble_eq_true rfl)) dX5_find_112 ⟨Nat.le_of_ble_eq_true rfl, Nat.le_of_ble_eq_true rfl⟩) hS (fun _ _ h => h.elim) (fun _ h => h.elim) (fun r_30 u t H1 locs ht hvm hw hB hz1 hk1 hS => ?_)
                replace hP := ro_kept hP hk1
                obtain rfl : r_30 = _ := hw
                clear hk1 hz1 hvm ht hB
                generalize H1 = H at hP hS ⊢
                rw [hgiz29]
                clear hgiz29 hfdz29 hdz29 hcnz29 hcpz29
                refine va_castY (C := RX3) hx hb hown (hts (.classLink RX5 19 RX3) (by decide +kernel)) hK.2.2.2.2.2.2.1 (pl_recv (ci := 4) hK.1 hP rfl (hM.cl hbt).1 (hM.cl hbt).2.1) dX5_find_115 ?_
                refine lv_iload_n hx hb dX5_find_118 rfl (lv_at hl 5 rfl) ?_
                refine va_callq (va_runV (As := [.int zx2]) (rest := []) ⟨hx, hb, hml, hown, hts⟩ (c_X3_named l D cO mi L22 f22 e0 (mt_f τ pz mz kz az lz) hM (az zp zj) hbt zx2) (cwV 1 hts gX5_find_X3_named rfl rfl rfl (by decide +kernel) ⟨Nat.le_of_ble_eq_true rfl, Nat.le_of_ble_eq_true rfl⟩) (mP_V hK hP 4 rfl (hM.cl hbt).1 (hM.cl hbt).2.1) rfl rfl hl.1 rfl (lv_room (Nat.le_of_ble_eq_true rfl)) dX5_find_119 ⟨Nat.le_of_ble_eq_true rfl, Nat.le_of_ble_eq_true rfl⟩) hS (fun _ _ h => h.elim) (fun _ h => h.elim) (fun r_31 u t H1 locs ht hvm hw hB hz1 hk1 hS => ?_)
                replace hP := ro_kept hP hk1
                obtain rfl : r_31 = _ := hw
                clear hk1 hz1 hvm ht hB
                generalize H1 = H at hP hS ⊢
                rcases htzjb : t_idx (mt_f τ pz mz kz az lz) (az zp zj) zx2 with _ | zjb
                · rw [show t_named (mt_f τ pz mz kz az lz) (az zp zj) zx2 = none by simp only [t_named, htzjb]; rfl]
                  refine lv_ifnullN (tgt := 143) hx hb dX5_find_122 (by decide) ?_
                  refine lv_iinc (v := (nI (zj + 1))) (lv' := [(6, .int (nI (zj + 1))), (5, .ref (mt_aa τ zp)), (3, .ref (mt_ca τ zp)), (0, .ref (mt_x τ)), (1, .int zx1), (2, .int zx2)]) hx hb dX5_find_143 hl (k := 0) rfl (nI_1 _) (by decide) rfl (fun ls hl => ?_)
                  refine lv_goto (tgt := 98) hx hb dX5_find_146 (by decide) ?_
                  exact ih (zj + 1) H locs ls hP hS (by omega) (lv_sub hl [0, 1, 2, 3, 4, 5] rfl)
                · rw [show t_named (mt_f τ pz mz kz az lz) (az zp zj) zx2 = some (mt_ja τ zjb) by simp only [t_named, htzjb]; rfl]
                  have hltzjb : zjb < mt_mn τ := t_idx_lt hM hbt htzjb
                  refine lv_ifnull hx hb dX5_find_122 ?_
                  refine lv_aload hx hb dX5_find_125 (lv_at hl 1 rfl) ?_
                  refine lv_iload hx hb dX5_find_127 (lv_at hl 0 rfl) ?_
                  obtain ⟨mcz32, gz32, hfz32, hdz32, hfdz32, hcnz32, hcpz32, hgiz32⟩ := hM.ly.get (b := (mt_aa τ zp)) (i := zj) (hM.aa hzp).1 (hM.aa hzp).2 hjt
                  replace hgiz32 : gz32 zj = some (mt_ca τ (az zp zj)) := hgiz32.trans (congrArg some (hMl.2 zj hjt).2)
                  refine va_callq (va_runV (As := [.int (nI zj)]) (rest := []) ⟨hx, hb, hml, hown, hts⟩ (c_Jx4a65c_get_915e3 l D cO mi L22 f22 (mt_aa τ zp) (hM.aa hzp).1 mcz32 (ls_dat lz (mt_aa τ zp)) (ls_cnt lz (mt_aa τ zp)) hfz32 hdz32 (ls_cap lz (mt_aa τ zp)) gz32 hfdz32 hcnz32 hcpz32 zj hjt) (cwV 1 hts gX5_find_Jx4a65c_get_915e3 rfl rfl rfl (by decide +kernel) ⟨Nat.le_of_ble_eq_true rfl, Nat.le_of_ble_eq_true rfl⟩) (mP_V hK hP 0 rfl (hM.aa hzp).1 hfz32) rfl rfl hl.1 rfl (lv_room (Nat.le_of_ble_eq_true rfl)) dX5_find_129 ⟨Nat.le_of_ble_eq_true rfl, Nat.le_of_ble_eq_true rfl⟩) hS (fun _ _ h => h.elim) (fun _ h => h.elim) (fun r_33 u t H1 locs ht hvm hw hB hz1 hk1 hS => ?_)
                  replace hP := ro_kept hP hk1
                  obtain rfl : r_33 = _ := hw
                  clear hk1 hz1 hvm ht hB
                  generalize H1 = H at hP hS ⊢
                  rw [hgiz32]
                  clear hgiz32 hfdz32 hdz32 hcnz32 hcpz32
                  refine va_castY (C := RX3) hx hb hown (hts (.classLink RX5 19 RX3) (by decide +kernel)) hK.2.2.2.2.2.2.1 (pl_recv (ci := 4) hK.1 hP rfl (hM.cl hbt).1 (hM.cl hbt).2.1) dX5_find_132 ?_
                  refine lv_iload_n hx hb dX5_find_135 rfl (lv_at hl 5 rfl) ?_
                  refine va_callq (va_runV (As := [.int zx2]) (rest := []) ⟨hx, hb, hml, hown, hts⟩ (c_X3_named l D cO mi L22 f22 e0 (mt_f τ pz mz kz az lz) hM (az zp zj) hbt zx2) (cwV 1 hts gX5_find_X3_named rfl rfl rfl (by decide +kernel) ⟨Nat.le_of_ble_eq_true rfl, Nat.le_of_ble_eq_true rfl⟩) (mP_V hK hP 4 rfl (hM.cl hbt).1 (hM.cl hbt).2.1) rfl rfl hl.1 rfl (lv_room (Nat.le_of_ble_eq_true rfl)) dX5_find_136 ⟨Nat.le_of_ble_eq_true rfl, Nat.le_of_ble_eq_true rfl⟩) hS (fun _ _ h => h.elim) (fun _ h => h.elim) (fun r_34 u t H1 locs ht hvm hw hB hz1 hk1 hS => ?_)
                  replace hP := ro_kept hP hk1
                  obtain rfl : r_34 = _ := hw
                  clear hk1 hz1 hvm ht hB
                  generalize H1 = H at hP hS ⊢
                  rw [show t_named (mt_f τ pz mz kz az lz) (az zp zj) zx2 = some (mt_ja τ zjb) by simp only [t_named, htzjb]; rfl]
                  refine pl_get (D := D) (ci := 5) (v := .int (nI zjb)) (C := RX4) (T := TX4) (N := 7) hx hb hts (by decide +kernel) hown hK.1 hP (hM.me hltzjb).1 (hM.me hltzjb).2.1 rfl 0 (by decide) (hts (.fieldLink RX5 65 "ChooseTreeModel$Met" "number" "I") (by decide +kernel)) (fun _ h9 => h9) rfl dX5_find_139 ?_
                  refine W.widen (k := 60) (n := 5400) (by first | exact Nat.le_refl _ | omega) (by first | exact Nat.le_refl _ | omega) ?_
                  exact W.iret (v := (nI zjb)) hx hb hr (fun t ht hW => ⟨⟨(nI zjb), (L22, f22), rfl, ⟨⟨Or.inr ⟨zjb, hltzjb, rfl⟩, pz, mz, kz, az, lz, hM⟩, hE⟩, show va_P D vwCl (va_pl _ _) t.heap from (by rw [ht]; exact hP)⟩, hS.F ht⟩) hS.2.2 dX5_find_142
          · refine lv_iload hx hb dX5_find_85 (lv_at hl 0 rfl) ?_
            refine W.widen (k := 60) (n := 5400) (by first | exact Nat.le_refl _ | omega) (by first | exact Nat.le_refl _ | omega) ?_
            exact W.iret (v := r_20) hx hb hr (fun t ht hW => ⟨⟨r_20, (L20, f20), rfl, ⟨⟨hrs, pz, mz, kz, az, lz, hM⟩, hE⟩, show va_P D vwCl (va_pl _ _) t.heap from (by rw [ht]; exact hP)⟩, hS.F ht⟩) hS.2.2 dX5_find_87
        · obtain ⟨hpn, hzo⟩ := hE9 zo rfl
          replace hl : lv_has ls 7 [(4, .ref (mt_ca τ zo)), (3, .ref (mt_ca τ zp)), (0, .ref (mt_x τ)), (1, .int zx1), (2, .int zx2)] := hl
          refine lv_aload hx hb dX5_find_27 (lv_at hl 0 rfl) ?_
          refine lv_ifnull hx hb dX5_find_29 ?_
          refine lv_aload hx hb dX5_find_32 (lv_at hl 0 rfl) ?_
          refine lv_iload_n hx hb dX5_find_34 rfl (lv_at hl 4 rfl) ?_
          refine va_callq (va_runV (As := [.int zx2]) (rest := []) ⟨hx, hb, hml, hown, hts⟩ (c_X3_named l D cO mi L f e0 τ hM zo hzo zx2) (cwV 1 hts gX5_find_X3_named rfl rfl rfl (by decide +kernel) ⟨Nat.le_of_ble_eq_true rfl, Nat.le_of_ble_eq_true rfl⟩) (mP_V hK hP 4 rfl (hM.cl hzo).1 (hM.cl hzo).2.1) rfl rfl hl.1 rfl (lv_room (Nat.le_of_ble_eq_true rfl)) dX5_find_35 ⟨Nat.le_of_ble_eq_true rfl, Nat.le_of_ble_eq_true rfl⟩) hS (fun _ _ h => h.elim) (fun _ h => h.elim) (fun r_35 u t H1 locs ht hvm hw hB hz1 hk1 hS => ?_)
          replace hP := ro_kept hP hk1
          obtain rfl : r_35 = _ := hw
          clear hk1 hz1 hvm ht hB
          generalize H1 = H at hP hS ⊢
          rcases htzjo : t_idx τ zo zx2 with _ | zjo
          · rw [show t_named τ zo zx2 = none by simp only [t_named, htzjo]; rfl]
            refine lv_ifnullN (tgt := 51) hx hb dX5_find_38 (by decide) ?_
            refine lv_aload_n hx hb dX5_find_51 rfl (lv_at hl 1 rfl) ?_
            refine pl_get (D := D) (ci := 4) (v := .int (mt_fc τ zp)) (C := RX3) (T := TX3) (N := 9) hx hb hts (by decide +kernel) hown hK.1 hP (hM.cl hzp).1 (hM.cl hzp).2.1 rfl 3 (by decide) (hts (.fieldLink RX5 42 "ChooseTreeModel$Cls" "isFace" "Z") (by decide +kernel)) (fun _ h9 => h9) rfl dX5_find_52 ?_
            refine lv_if_eq (tgt := 62) hx hb dX5_find_55 (by decide) (fun c_36 => ?_) (fun c_36 => ?_)
            · refine lv_aload hx hb dX5_find_62 (lv_at hl 0 rfl) ?_
              refine pl_get (D := D) (ci := 4) (v := va_rf ((mt_pr τ zo).map (mt_ca τ))) (C := RX3) (T := TX3) (N := 9) hx hb hts (by decide +kernel) hown hK.1 hP (hM.cl hzo).1 (hM.cl hzo).2.1 rfl 2 (by decide) (hts (.fieldLink RX5 77 "ChooseTreeModel$Cls" "parent" "LChooseTreeModel$Cls;") (by decide +kernel)) (fun _ h9 => h9) rfl dX5_find_64 ?_
              refine lv_astoreR (lv' := [(4, va_rf ((mt_pr τ zo).map (mt_ca τ))), (3, .ref (mt_ca τ zp)), (0, .ref (mt_x τ)), (1, .int zx1), (2, .int zx2)]) hx hb dX5_find_67 hl (by decide) rfl (fun ls hl => ?_)
              refine lv_goto (tgt := 27) hx hb dX5_find_69 (by decide) ?_
              exact ih (mt_pr τ zo) H locs ls hP hS (fun p hp => by have := (hM.cl hzo).2.2.1 p hp; omega) (lv_sub hl [0, 1, 2, 3, 4] rfl)
            · refine lv_null hx hb dX5_find_58 ?_
              refine lv_goto (tgt := 67) hx hb dX5_find_59 (by decide) ?_
              refine lv_astoreN (lv' := [(4, .null), (3, .ref (mt_ca τ zp)), (0, .ref (mt_x τ)), (1, .int zx1), (2, .int zx2)]) hx hb dX5_find_67 hl (by decide) rfl (fun ls hl => ?_)
              refine lv_goto (tgt := 27) hx hb dX5_find_69 (by decide) ?_
              exact ih none H locs ls hP hS (fun p hp => by cases hp) (lv_sub hl [0, 1, 2, 3, 4] rfl)
          · rw [show t_named τ zo zx2 = some (mt_ja τ zjo) by simp only [t_named, htzjo]; rfl]
            have hltzjo : zjo < mt_mn τ := t_idx_lt hM hzo htzjo
            refine lv_ifnull hx hb dX5_find_38 ?_
            refine lv_aload hx hb dX5_find_41 (lv_at hl 0 rfl) ?_
            refine lv_iload_n hx hb dX5_find_43 rfl (lv_at hl 4 rfl) ?_
            refine va_callq (va_runV (As := [.int zx2]) (rest := []) ⟨hx, hb, hml, hown, hts⟩ (c_X3_named l D cO mi L f e0 τ hM zo hzo zx2) (cwV 1 hts gX5_find_X3_named rfl rfl rfl (by decide +kernel) ⟨Nat.le_of_ble_eq_true rfl, Nat.le_of_ble_eq_true rfl⟩) (mP_V hK hP 4 rfl (hM.cl hzo).1 (hM.cl hzo).2.1) rfl rfl hl.1 rfl (lv_room (Nat.le_of_ble_eq_true rfl)) dX5_find_44 ⟨Nat.le_of_ble_eq_true rfl, Nat.le_of_ble_eq_true rfl⟩) hS (fun _ _ h => h.elim) (fun _ h => h.elim) (fun r_37 u t H1 locs ht hvm hw hB hz1 hk1 hS => ?_)
            replace hP := ro_kept hP hk1
            obtain rfl : r_37 = _ := hw
            clear hk1 hz1 hvm ht hB
            generalize H1 = H at hP hS ⊢
            rw [show t_named τ zo zx2 = some (mt_ja τ zjo) by simp only [t_named, htzjo]; rfl]
            refine pl_get (D := D) (ci := 5) (v := .int (nI zjo)) (C := RX4) (T := TX4) (N := 7) hx hb hts (by decide +kernel) hown hK.1 hP (hM.me hltzjo).1 (hM.me hltzjo).2.1 rfl 0 (by decide) (hts (.fieldLink RX5 65 "ChooseTreeModel$Met" "number" "I") (by decide +kernel)) (fun _ h9 => h9) rfl dX5_find_47 ?_
            refine W.widen (k := 60) (n := 5400) (by first | exact Nat.le_refl _ | omega) (by first | exact Nat.le_refl _ | omega) ?_
            exact W.iret (v := (nI zjo)) hx hb hr (fun t ht hW => ⟨⟨(nI zjo), (L, f), rfl, ⟨⟨Or.inr ⟨zjo, hltzjo, rfl⟩, mt_pt τ, mt_mark τ, mt_mk τ, mt_al τ, mt_ls τ, hM⟩, hE⟩, show va_P D vwCl (va_pl _ _) t.heap from (by rw [ht]; exact hP)⟩, hS.F ht⟩) hS.2.2 dX5_find_50
    · replace c_3 := bI_0.mp c_3
      refine lv_bipush (v := (-14)) hx hb dX5_find_15 (by decide) ?_
      refine W.widen (k := 60) (n := 5400) (by first | exact Nat.le_refl _ | omega) (by first | exact Nat.le_refl _ | omega) ?_
      exact W.iret (v := (-14)) hx hb hr (fun t ht hW => ⟨⟨(-14), (L, f), rfl, ⟨⟨Or.inl (by decide), mt_pt τ, mt_mark τ, mt_mk τ, mt_al τ, mt_ls τ, hM⟩, hE⟩, show va_P D vwCl (va_pl _ _) t.heap from (by rw [ht]; exact hP)⟩, hS.F ht⟩) hS.2.2 dX5_find_17
