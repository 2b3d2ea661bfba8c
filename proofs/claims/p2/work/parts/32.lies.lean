/-- the marks change -/
def mt_mm (τ : MT) (m : Int32) (km : Nat → Int32) : MT := mt_setmk (mt_setmark τ m) km
def t_lies (τ : MT) (c k : Nat) : Bool × (Nat → Int32) := t_lead (mt_setmark τ (mt_mark τ + nI 1)) k 61 c (mt_mk τ)
theorem c_lead61 (l : Launch) (D : va_G) (cO : ClassId) (mi e0 : Nat) (L : List Nat) (f : Nat → va_E) (sz : Nat) (hnd : L.Nodup) (τ : MT) (km : Nat → Int32) (hM : MI e0 cO L f (mt_setmk τ km)) (zc zk : Nat) (hzc : zc < mt_n τ) (hzk : zk < mt_n τ) : Met l yX5_leadsTo wsX5_leadsTo { frames := 65, cells := 0, slots := 0, locals := 1503 } (mW D cO mi e0 L f sz [.ref (mt_x τ), .ref (mt_ca τ zc), .ref (mt_ca τ zk)]) (wQi D L sz (fun r u => r = bI (t_lead τ zk 61 zc km).1 ∧ u.1 = L ∧ MI e0 cO L u.2 (mt_setmk τ (t_lead τ zk 61 zc km).2))) 0 0 (mA L sz) :=
  c_X5_leadsTo l D cO mi e0 τ zk L hnd 61 f sz km hM hzk zc hzc (by have hb9 : 1 ≤ mt_n τ ∧ mt_n τ ≤ 60 ∧ mt_mn τ ≤ 400 := hM.b; omega)
def t_isBelow (τ : MT) (x y : Int32) : Bool := match t_ati τ x with
  | none => false
  | some i => match t_ati τ y with
    | none => false
    | some k => (t_lies τ i k).1
set_option maxHeartbeats 4000000 in
set_option maxRecDepth 100000 in
theorem c_X5_lies (l : Launch) (D : va_G) (cO : ClassId) (mi e0 : Nat) (L : List Nat) (f : Nat → va_E) (sz : Nat) (hnd : L.Nodup) (τ : MT) (hM : MI e0 cO L f τ) (zc zk : Nat) (hzc : zc < mt_n τ) (hzk : zk < mt_n τ) : Met l yX5_lies wsX5_lies { frames := 66, cells := 0, slots := 0, locals := 1526 } (mW D cO mi e0 L f sz [.ref (mt_x τ), .ref (mt_ca τ zc), .ref (mt_ca τ zk)]) (wQi D L sz (fun r u => r = bI (t_lies τ zc zk).1 ∧ u.1 = L ∧ MI e0 cO L u.2 (mt_mm τ (mt_mark τ + nI 1) (t_lies τ zc zk).2))) 0 0 (mA L sz) := by
  refine Met.ofW (cc := cX5_lies) (maxL := 3) (ret := (some .boolean)) (by decide) rfl ?_
  intro p e s m args below meth cq s₁ B hml hv
  obtain ⟨rfl, hsz, hP, hK, hJ⟩ := hv
  have hx := B.exec
  have hb := B.bytes
  have hr := B.returns
  have hts := atoms_spec (ws := wsX5_lies) B.pre
  have hown : s.vm.findClass RX5 = some m.cls := findClass_of_methodNamed B.named
  have hlocks := B.notSynchronized
  have hin := (name_of_methodNamed B.named B.method).1
  clear B
  have hl := lv_entry ([.ref (mt_x τ), .ref (mt_ca τ zc), .ref (mt_ca τ zk)]) (n := 3) (Nat.le_of_ble_eq_true rfl)
  rw [lg_entry_eq]
  generalize (lg_sl ([.ref (mt_x τ), .ref (mt_ca τ zc), .ref (mt_ca τ zk)]) ++ List.replicate (3 - (lg_sl ([.ref (mt_x τ), .ref (mt_ca τ zc), .ref (mt_ca τ zk)])).length) Slot.unset).toArray = ls at hl ⊢
  replace hl : lv_has ls 3 [(0, .ref (mt_x τ)), (1, .ref (mt_ca τ zc)), (2, .ref (mt_ca τ zk))] := hl
  have hA : ∀ q : Nat, s.heap.size ≤ q → mA L sz q := fun q h => Or.inr (by omega)
  have hE : pext L sz L := pext.rf hnd
  have hD : va_D (mA L sz) (va_pl L f) := hE.D
  refine gen_start (A := mA L sz) (fun H locs hP hS => ?_) hP
  refine lv_aload_n hx hb dX5_lies_0 rfl (lv_at hl 0 rfl) ?_
  refine lv_dup hx hb dX5_lies_1 rfl ?_
  refine pl_get (D := D) (ci := 6) (v := .int (mt_mark τ)) (C := RX5) (T := TX5) (N := 3) hx hb hts (by decide +kernel) hown hK.1 hP hM.x.1 hM.x.2 rfl 2 (by decide) (hts (.fieldLink RX5 69 "ChooseTreeModel" "mark" "I") (by decide +kernel)) (fun _ h9 => h9) rfl dX5_lies_2 ?_
  refine lv_iconst (v := (nI 1)) hx hb dX5_lies_5 (by decide) ?_
  refine lv_iadd hx hb dX5_lies_6 ?_
  refine pl_put (D := D) (ci := 6) (v := .int ((mt_mark τ) + (nI 1))) (ty := .int) (C := RX5) (T := TX5) (N := 3) hx hb hts (by decide +kernel) tyX5 tyX5_ok nmX5 hown hK.1 hP hD hS hM.x.1 hM.x.2 rfl 2 (by decide) (hts (.fieldLink RX5 69 "ChooseTreeModel" "mark" "I") (by decide +kernel)) (fun _ h9 => h9) rfl (by decide +kernel) rfl rfl (Nat.le_of_ble_eq_true rfl) dX5_lies_7 (fun H locs hP hS => ?_)
  replace hP : va_P D vwCl (va_pl L (va_up f (mt_x τ) (.inr (6, [.ref (mt_c τ), .ref (mt_m τ), .int ((mt_mark τ) + (nI 1))])))) H := hP
  obtain ⟨f1, hf1⟩ : ∃ z, z = va_up f (mt_x τ) (.inr (6, [.ref (mt_c τ), .ref (mt_m τ), .int ((mt_mark τ) + (nI 1))])) := ⟨_, rfl⟩
  rw [← hf1] at hP
  have F_mt_xτ_1 : f1 (mt_x τ) = .inr (6, [.ref (mt_c τ), .ref (mt_m τ), .int ((mt_mark τ) + (nI 1))]) := by rw [hf1]; exact va_up_self _ _ _
  have hD : va_D (mA L sz) (va_pl L f1) := hE.D
  have hM1 : MI e0 cO L f1 (mt_setmk (mt_setmark τ (mt_mark τ + nI 1)) (mt_mk τ)) := by rw [hf1]; exact hM.setmark (mt_mark τ + nI 1)
  refine lv_aload_n hx hb dX5_lies_10 rfl (lv_at hl 0 rfl) ?_
  refine lv_aload_n hx hb dX5_lies_11 rfl (lv_at hl 1 rfl) ?_
  refine lv_aload_n hx hb dX5_lies_12 rfl (lv_at hl 2 rfl) ?_
  have hszH : sz ≤ H.size := by have := hS.1; omega
  have hPold := hP
  refine va_calli (va_runV (As := [.ref (mt_ca τ zc), .ref (mt_ca τ zk)]) (rest := []) ⟨hx, hb, hml, hown, hts⟩ (c_lead61 l D cO mi e0 L f1 H.size hE.nd (mt_setmark τ (mt_mark τ + nI 1)) (mt_mk τ) hM1 zc zk hzc hzk) (cwV 2 hts gX5_lies_X5_leadsTo rfl rfl rfl (by decide +kernel) ⟨Nat.le_of_ble_eq_true rfl, Nat.le_of_ble_eq_true rfl⟩) (mW_V hK hJ hS (hE.sub (by have := hS.1; omega)) hP 6 rfl hM.x.1 F_mt_xτ_1) rfl rfl hl.1 rfl (lv_room (Nat.le_of_ble_eq_true rfl)) dX5_lies_13 ⟨Nat.le_refl _, Nat.le_refl _⟩) hS (fun q _ h => (hE.sub (by have := hS.1; omega)) q h) (hE.sub (by have := hS.1; omega)) (fun r_2 u t H1 locs ht hvm hw hB hz1 hk1 hS => ?_)
  obtain ⟨L2, f2⟩ := u
  obtain ⟨hw, hE1⟩ := hw
  replace hB : va_P D vwCl (va_pl L2 f2) t.heap := hB
  rw [ht] at hB
  replace hE : pext L sz L2 := hE.tr (hszH) hE1
  obtain ⟨hr1, hL1, hM2⟩ := hw
  replace hL1 : L = L2 := hL1.symm
  subst hL1
  subst hr1
  clear hPold hP hk1 hz1 hvm ht hszH hE1
  have hP := hB
  clear hB
  generalize H1 = H at hP hS ⊢
  have hD : va_D (mA L sz) (va_pl L f2) := hE.D
  refine W.widen (k := 0) (n := 0) (by first | exact Nat.le_refl _ | omega) (by first | exact Nat.le_refl _ | omega) ?_
  exact W.zret (v := (bI (t_lies τ zc zk).1)) hx hb hr (bI_nar _) (fun t ht hW => ⟨⟨(bI (t_lies τ zc zk).1), (L, f2), rfl, ⟨⟨rfl, rfl, hM2⟩, hE⟩, show va_P D vwCl (va_pl _ _) t.heap from (by rw [ht]; exact hP)⟩, hS.F ht⟩) hS.2.2 dX5_lies_16
set_option maxHeartbeats 4000000 in
set_option maxRecDepth 100000 in
theorem c_X5_isBelow (l : Launch) (D : va_G) (cO : ClassId) (mi e0 : Nat) (L : List Nat) (f : Nat → va_E) (sz : Nat) (hnd : L.Nodup) (τ : MT) (hM : MI e0 cO L f τ) (zx1 zx2 : Int32) : Met l yX5_isBelow wsX5_isBelow { frames := 67, cells := 0, slots := 0, locals := 1548 } (mW D cO mi e0 L f sz [.ref (mt_x τ), .int zx1, .int zx2]) (wQi D L sz (fun r u => r = bI (t_isBelow τ zx1 zx2) ∧ u.1 = L ∧ (∃ (m9 : Int32) (k9 : Nat → Int32), MI e0 cO L u.2 (mt_mm τ m9 k9)))) 0 0 (mA L sz) := by
  refine Met.ofW (cc := cX5_isBelow) (maxL := 3) (ret := (some .boolean)) (by decide) rfl ?_
  intro p e s m args below meth cq s₁ B hml hv
  obtain ⟨rfl, hsz, hP, hK, hJ⟩ := hv
  have hx := B.exec
  have hb := B.bytes
  have hr := B.returns
  have hts := atoms_spec (ws := wsX5_isBelow) B.pre
  have hown : s.vm.findClass RX5 = some m.cls := findClass_of_methodNamed B.named
  have hlocks := B.notSynchronized
  have hin := (name_of_methodNamed B.named B.method).1
  clear B
  have hl := lv_entry ([.ref (mt_x τ), .int zx1, .int zx2]) (n := 3) (Nat.le_of_ble_eq_true rfl)
  rw [lg_entry_eq]
  generalize (lg_sl ([.ref (mt_x τ), .int zx1, .int zx2]) ++ List.replicate (3 - (lg_sl ([.ref (mt_x τ), .int zx1, .int zx2])).length) Slot.unset).toArray = ls at hl ⊢
  replace hl : lv_has ls 3 [(0, .ref (mt_x τ)), (1, .int zx1), (2, .int zx2)] := hl
  have hA : ∀ q : Nat, s.heap.size ≤ q → mA L sz q := fun q h => Or.inr (by omega)
  have hE : pext L sz L := pext.rf hnd
  have hD : va_D (mA L sz) (va_pl L f) := hE.D
  refine gen_start (A := mA L sz) (fun H locs hP hS => ?_) hP
  refine lv_aload_n hx hb dX5_isBelow_0 rfl (lv_at hl 0 rfl) ?_
  refine lv_iload_n hx hb dX5_isBelow_1 rfl (lv_at hl 1 rfl) ?_
  refine va_callq (va_runV (As := [.int zx1]) (rest := []) ⟨hx, hb, hml, hown, hts⟩ (c_X5_at l D cO mi L f e0 τ hM zx1) (cwV 1 hts gX5_isBelow_X5_at rfl rfl rfl (by decide +kernel) ⟨Nat.le_of_ble_eq_true rfl, Nat.le_of_ble_eq_true rfl⟩) (mP_V hK hP 6 rfl hM.x.1 hM.x.2) rfl rfl hl.1 rfl (lv_room (Nat.le_of_ble_eq_true rfl)) dX5_isBelow_2 ⟨Nat.le_of_ble_eq_true rfl, Nat.le_of_ble_eq_true rfl⟩) hS (fun _ _ h => h.elim) (fun _ h => h.elim) (fun r_1 u t H1 locs ht hvm hw hB hz1 hk1 hS => ?_)
  replace hP := ro_kept hP hk1
  obtain rfl : r_1 = _ := hw
  clear hk1 hz1 hvm ht hB
  generalize H1 = H at hP hS ⊢
  rcases htzj1 : t_ati τ zx1 with _ | zj1
  · rw [show t_at τ zx1 = none by simp [t_at, htzj1]]
    refine lv_ifnullN (tgt := 37) hx hb dX5_isBelow_5 (by decide) ?_
    refine lv_iconst (v := (nI 0)) hx hb dX5_isBelow_37 (by decide) ?_
    refine W.widen (k := 0) (n := 0) (by first | exact Nat.le_refl _ | omega) (by first | exact Nat.le_refl _ | omega) ?_
    exact W.zret (v := (nI 0)) hx hb hr rfl (fun t ht hW => ⟨⟨(nI 0), (L, f), rfl, ⟨⟨(by simp [t_isBelow, bI, htzj1]), rfl, _, _, (show MI e0 cO L f (mt_mm τ (mt_mark τ) (mt_mk τ)) from hM)⟩, hE⟩, show va_P D vwCl (va_pl _ _) t.heap from (by rw [ht]; exact hP)⟩, hS.F ht⟩) hS.2.2 dX5_isBelow_38
  · rw [show t_at τ zx1 = some (mt_ca τ zj1) by simp [t_at, htzj1]]
    refine lv_ifnull hx hb dX5_isBelow_5 ?_
    refine lv_aload_n hx hb dX5_isBelow_8 rfl (lv_at hl 0 rfl) ?_
    refine lv_iload_n hx hb dX5_isBelow_9 rfl (lv_at hl 2 rfl) ?_
    refine va_callq (va_runV (As := [.int zx2]) (rest := []) ⟨hx, hb, hml, hown, hts⟩ (c_X5_at l D cO mi L f e0 τ hM zx2) (cwV 1 hts gX5_isBelow_X5_at rfl rfl rfl (by decide +kernel) ⟨Nat.le_of_ble_eq_true rfl, Nat.le_of_ble_eq_true rfl⟩) (mP_V hK hP 6 rfl hM.x.1 hM.x.2) rfl rfl hl.1 rfl (lv_room (Nat.le_of_ble_eq_true rfl)) dX5_isBelow_10 ⟨Nat.le_of_ble_eq_true rfl, Nat.le_of_ble_eq_true rfl⟩) hS (fun _ _ h => h.elim) (fun _ h => h.elim) (fun r_2 u t H1 locs ht hvm hw hB hz1 hk1 hS => ?_)
    replace hP := ro_kept hP hk1
    obtain rfl : r_2 = _ := hw
    clear hk1 hz1 hvm ht hB
    generalize H1 = H at hP hS ⊢
    rcases htzj2 : t_ati τ zx2 with _ | zj2
    · rw [show t_at τ zx2 = none by simp [t_at, htzj2]]
      refine lv_ifnullN (tgt := 37) hx hb dX5_isBelow_13 (by decide) ?_
      refine lv_iconst (v := (nI 0)) hx hb dX5_isBelow_37 (by decide) ?_
      refine W.widen (k := 0) (n := 0) (by first | exact Nat.le_refl _ | omega) (by first | exact Nat.le_refl _ | omega) ?_
      exact W.zret (v := (nI 0)) hx hb hr rfl (fun t ht hW => ⟨⟨(nI 0), (L, f), rfl, ⟨⟨(by simp [t_isBelow, bI, htzj1, htzj2]), rfl, _, _, (show MI e0 cO L f (mt_mm τ (mt_mark τ) (mt_mk τ)) from hM)⟩, hE⟩, show va_P D vwCl (va_pl _ _) t.heap from (by rw [ht]; exact hP)⟩, hS.F ht⟩) hS.2.2 dX5_isBelow_38
    · rw [show t_at τ zx2 = some (mt_ca τ zj2) by simp [t_at, htzj2]]
      refine lv_ifnull hx hb dX5_isBelow_13 ?_
      refine lv_aload_n hx hb dX5_isBelow_16 rfl (lv_at hl 0 rfl) ?_
      refine lv_aload_n hx hb dX5_isBelow_17 rfl (lv_at hl 0 rfl) ?_
      refine lv_iload_n hx hb dX5_isBelow_18 rfl (lv_at hl 1 rfl) ?_
      refine va_callq (va_runV (As := [.int zx1]) (rest := [.ref (mt_x τ)]) ⟨hx, hb, hml, hown, hts⟩ (c_X5_at l D cO mi L f e0 τ hM zx1) (cwV 1 hts gX5_isBelow_X5_at rfl rfl rfl (by decide +kernel) ⟨Nat.le_of_ble_eq_true rfl, Nat.le_of_ble_eq_true rfl⟩) (mP_V hK hP 6 rfl hM.x.1 hM.x.2) rfl rfl hl.1 rfl (lv_room (Nat.le_of_ble_eq_true rfl)) dX5_isBelow_19 ⟨Nat.le_of_ble_eq_true rfl, Nat.le_of_ble_eq_true rfl⟩) hS (fun _ _ h => h.elim) (fun _ h => h.elim) (fun r_3 u t H1 locs ht hvm hw hB hz1 hk1 hS => ?_)
      replace hP := ro_kept hP hk1
      obtain rfl : r_3 = _ := hw
      clear hk1 hz1 hvm ht hB
      generalize H1 = H at hP hS ⊢
      rw [show t_at τ zx1 = some (mt_ca τ zj1) by simp [t_at, htzj1]]
      refine lv_aload_n hx hb dX5_isBelow_22 rfl (lv_at hl 0 rfl) ?_
      refine lv_iload_n hx hb dX5_isBelow_23 rfl (lv_at hl 2 rfl) ?_
      refine va_callq (va_runV (As := [.int zx2]) (rest := [.ref (mt_ca τ zj1), .ref (mt_x τ)]) ⟨hx, hb, hml, hown, hts⟩ (c_X5_at l D cO mi L f e0 τ hM zx2) (cwV 1 hts gX5_isBelow_X5_at rfl rfl rfl (by decide +kernel) ⟨Nat.le_of_ble_eq_true rfl, Nat.le_of_ble_eq_true rfl⟩) (mP_V hK hP 6 rfl hM.x.1 hM.x.2) rfl rfl hl.1 rfl (lv_room (Nat.le_of_ble_eq_true rfl)) dX5_isBelow_24 ⟨Nat.le_of_ble_eq_true rfl, Nat.le_of_ble_eq_true rfl⟩) hS (fun _ _ h => h.elim) (fun _ h => h.elim) (fun r_4 u t H1 locs ht hvm hw hB hz1 hk1 hS => ?_)
      replace hP := ro_kept hP hk1
      obtain rfl : r_4 = _ := hw
      clear hk1 hz1 hvm ht hB
      generalize H1 = H at hP hS ⊢
      rw [show t_at τ zx2 = some (mt_ca τ zj2) by simp [t_at, htzj2]]
      have hszH : sz ≤ H.size := by have := hS.1; omega
      have hPold := hP
      refine va_calli (va_runV (As := [.ref (mt_ca τ zj1), .ref (mt_ca τ zj2)]) (rest := []) ⟨hx, hb, hml, hown, hts⟩ (c_X5_lies l D cO mi e0 L f H.size hE.nd τ hM zj1 zj2 (t_ati_lt hM htzj1) (t_ati_lt hM htzj2)) (cwV 2 hts gX5_isBelow_X5_lies rfl rfl rfl (by decide +kernel) ⟨Nat.le_of_ble_eq_true rfl, Nat.le_of_ble_eq_true rfl⟩) (mW_V hK hJ hS (hE.sub (by have := hS.1; omega)) hP 6 rfl hM.x.1 hM.x.2) rfl rfl hl.1 rfl (lv_room (Nat.le_of_ble_eq_true rfl)) dX5_isBelow_27 ⟨Nat.le_refl _, Nat.le_refl _⟩) hS (fun q _ h => (hE.sub (by have := hS.1; omega)) q h) (hE.sub (by have := hS.1; omega)) (fun r_5 u t H1 locs ht hvm hw hB hz1 hk1 hS => ?_)
      obtain ⟨L5, f5⟩ := u
      obtain ⟨hw, hE1⟩ := hw
      replace hB : va_P D vwCl (va_pl L5 f5) t.heap := hB
      rw [ht] at hB
      replace hE : pext L sz L5 := hE.tr (hszH) hE1
      obtain ⟨hr1, hL1, hM2⟩ := hw
      replace hL1 : L = L5 := hL1.symm
      subst hL1
      subst hr1
      clear hPold hP hk1 hz1 hvm ht hszH hE1
      have hP := hB
      clear hB
      generalize H1 = H at hP hS ⊢
      have hD : va_D (mA L sz) (va_pl L f5) := hE.D
      refine lv_if_eq (tgt := 37) hx hb dX5_isBelow_30 (by decide) (fun c_6 => ?_) (fun c_6 => ?_)
      · replace c_6 := bI_0.mp c_6
        refine lv_iconst (v := (nI 0)) hx hb dX5_isBelow_37 (by decide) ?_
        refine W.widen (k := 0) (n := 0) (by first | exact Nat.le_refl _ | omega) (by first | exact Nat.le_refl _ | omega) ?_
        exact W.zret (v := (nI 0)) hx hb hr rfl (fun t ht hW => ⟨⟨(nI 0), (L, f5), rfl, ⟨⟨(by simp [t_isBelow, bI, htzj1, htzj2, c_6]), rfl, _, _, hM2⟩, hE⟩, show va_P D vwCl (va_pl _ _) t.heap from (by rw [ht]; exact hP)⟩, hS.F ht⟩) hS.2.2 dX5_isBelow_38
      · replace c_6 := bI_n0.mp c_6
        refine lv_iconst (v := (nI 1)) hx hb dX5_isBelow_33 (by decide) ?_
        refine lv_goto (tgt := 38) hx hb dX5_isBelow_34 (by decide) ?_
        refine W.widen (k := 0) (n := 0) (by first | exact Nat.le_refl _ | omega) (by first | exact Nat.le_refl _ | omega) ?_
        exact W.zret (v := (nI 1)) hx hb hr rfl (fun t ht hW => ⟨⟨(nI 1), (L, f5), rfl, ⟨⟨(by simp [t_isBelow, bI, htzj1, htzj2, c_6]), rfl, _, _, hM2⟩, hE⟩, show va_P D vwCl (va_pl _ _) t.heap from (by rw [ht]; exact hP)⟩, hS.F ht⟩) hS.2.2 dX5_isBelow_38
