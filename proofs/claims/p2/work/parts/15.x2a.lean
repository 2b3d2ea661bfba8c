set_option maxHeartbeats 4000000 in
set_option maxRecDepth 100000 in
theorem c_X2_fits (l : Launch) (D : va_G) (a : Nat → Nat) (k : Nat → ClassId) (σ : CS) (zx1 zx2 zx3 : Int32) : Met l yX2_fits wsX2_fits (rmC 0 0) (cP D a k σ [.int zx1, .int zx2, .int zx3]) (roQ (bI (s_fits zx1 zx2 zx3))) 0 0 (fun _ => False) := by
  refine Met.ofW (cc := cX2_fits) (maxL := 3) (ret := (some .boolean)) (by decide) rfl ?_
  intro p e s m args below meth c s₁ B hml hv
  obtain ⟨rfl, hP, hK⟩ := hv
  have hx := B.exec
  have hb := B.bytes
  have hr := B.returns
  have hts := atoms_spec (ws := wsX2_fits) B.pre
  have hown : s.vm.findClass RX2 = some m.cls := findClass_of_methodNamed B.named
  have hlocks := B.notSynchronized
  clear B
  have hl := lv_entry ([.int zx1, .int zx2, .int zx3]) (n := 3) (Nat.le_of_ble_eq_true rfl)
  rw [lg_entry_eq]
  generalize (lg_sl ([.int zx1, .int zx2, .int zx3]) ++ List.replicate (3 - (lg_sl ([.int zx1, .int zx2, .int zx3])).length) Slot.unset).toArray = ls at hl ⊢
  replace hl : lv_has ls 3 [(0, .int zx1), (1, .int zx2), (2, .int zx3)] := hl
  refine gen_start (A := (fun _ => False)) (fun H locs hP hS => ?_) hP
  refine lv_iload_n hx hb dX2_fits_0 rfl (lv_at hl 0 rfl) ?_
  refine lv_if_lt (tgt := 18) hx hb dX2_fits_1 (by decide) (fun c_1 => ?_) (fun c_1 => ?_)
  · refine lv_iconst (v := (nI 0)) hx hb dX2_fits_18 (by decide) ?_
    exact W.zret (v := (nI 0)) hx hb hr rfl (fun t ht hW => ⟨⟨(nI 0), (), rfl, (by first | (simp [s_fits, bI, c_1]; done) | (simp [s_fits, bI, c_1]; decide)), trivial⟩, hS.F ht⟩) hS.2.2 dX2_fits_19
  · refine lv_iload_n hx hb dX2_fits_4 rfl (lv_at hl 0 rfl) ?_
    refine lv_iconst (v := (nI 3)) hx hb dX2_fits_5 (by decide) ?_
    refine lv_icmp_gt (tgt := 18) hx hb dX2_fits_6 (by decide) (fun c_2 => ?_) (fun c_2 => ?_)
    · refine lv_iconst (v := (nI 0)) hx hb dX2_fits_18 (by decide) ?_
      exact W.zret (v := (nI 0)) hx hb hr rfl (fun t ht hW => ⟨⟨(nI 0), (), rfl, (by first | (simp [s_fits, bI, c_1, c_2]; done) | (simp [s_fits, bI, c_1, c_2]; decide)), trivial⟩, hS.F ht⟩) hS.2.2 dX2_fits_19
    · refine lv_iload_n hx hb dX2_fits_9 rfl (lv_at hl 1 rfl) ?_
      refine lv_if_lt (tgt := 18) hx hb dX2_fits_10 (by decide) (fun c_3 => ?_) (fun c_3 => ?_)
      · refine lv_iconst (v := (nI 0)) hx hb dX2_fits_18 (by decide) ?_
        exact W.zret (v := (nI 0)) hx hb hr rfl (fun t ht hW => ⟨⟨(nI 0), (), rfl, (by first | (simp [s_fits, bI, c_1, c_2, c_3]; done) | (simp [s_fits, bI, c_1, c_2, c_3]; decide)), trivial⟩, hS.F ht⟩) hS.2.2 dX2_fits_19
      · refine lv_iload_n hx hb dX2_fits_13 rfl (lv_at hl 1 rfl) ?_
        refine lv_iconst (v := (nI 4)) hx hb dX2_fits_14 (by decide) ?_
        refine lv_icmp_le (tgt := 20) hx hb dX2_fits_15 (by decide) (fun c_4 => ?_) (fun c_4 => ?_)
        · refine lv_iload_n hx hb dX2_fits_20 rfl (lv_at hl 2 rfl) ?_
          refine lv_if_eq (tgt := 44) hx hb dX2_fits_21 (by decide) (fun c_5 => ?_) (fun c_5 => ?_)
          · refine lv_iload_n hx hb dX2_fits_44 rfl (lv_at hl 1 rfl) ?_
            refine lv_iconst (v := (nI 4)) hx hb dX2_fits_45 (by decide) ?_
            refine lv_icmp_ne (tgt := 54) hx hb dX2_fits_46 (by decide) (fun c_6 => ?_) (fun c_6 => ?_)
            · refine lv_iconst (v := (nI 1)) hx hb dX2_fits_54 (by decide) ?_
              refine lv_goto (tgt := 59) hx hb dX2_fits_55 (by decide) ?_
              exact W.zret (v := (nI 1)) hx hb hr rfl (fun t ht hW => ⟨⟨(nI 1), (), rfl, (by first | (simp [s_fits, bI, c_1, c_2, c_3, c_4, c_5, c_6]; done) | (simp [s_fits, bI, c_1, c_2, c_3, c_4, c_5, c_6]; decide)), trivial⟩, hS.F ht⟩) hS.2.2 dX2_fits_59
            · refine lv_iload_n hx hb dX2_fits_49 rfl (lv_at hl 0 rfl) ?_
              refine lv_iconst (v := (nI 3)) hx hb dX2_fits_50 (by decide) ?_
              refine lv_icmp_eq (tgt := 58) hx hb dX2_fits_51 (by decide) (fun c_7 => ?_) (fun c_7 => ?_)
              · refine lv_iconst (v := (nI 0)) hx hb dX2_fits_58 (by decide) ?_
                exact W.zret (v := (nI 0)) hx hb hr rfl (fun t ht hW => ⟨⟨(nI 0), (), rfl, (by first | (simp [s_fits, bI, c_1, c_2, c_3, c_4, c_5, c_6, c_7]; done) | (simp [s_fits, bI, c_1, c_2, c_3, c_4, c_5, c_6, c_7]; decide)), trivial⟩, hS.F ht⟩) hS.2.2 dX2_fits_59
              · refine lv_iconst (v := (nI 1)) hx hb dX2_fits_54 (by decide) ?_
                refine lv_goto (tgt := 59) hx hb dX2_fits_55 (by decide) ?_
                exact W.zret (v := (nI 1)) hx hb hr rfl (fun t ht hW => ⟨⟨(nI 1), (), rfl, (by first | (simp [s_fits, bI, c_1, c_2, c_3, c_4, c_5, c_6, c_7]; done) | (simp [s_fits, bI, c_1, c_2, c_3, c_4, c_5, c_6, c_7]; decide)), trivial⟩, hS.F ht⟩) hS.2.2 dX2_fits_59
          · refine lv_iload_n hx hb dX2_fits_24 rfl (lv_at hl 0 rfl) ?_
            refine lv_iconst (v := (nI 1)) hx hb dX2_fits_25 (by decide) ?_
            refine lv_icmp_ne (tgt := 42) hx hb dX2_fits_26 (by decide) (fun c_8 => ?_) (fun c_8 => ?_)
            · refine lv_iconst (v := (nI 0)) hx hb dX2_fits_42 (by decide) ?_
              exact W.zret (v := (nI 0)) hx hb hr rfl (fun t ht hW => ⟨⟨(nI 0), (), rfl, (by first | (simp [s_fits, bI, c_1, c_2, c_3, c_4, c_5, c_8]; done) | (simp [s_fits, bI, c_1, c_2, c_3, c_4, c_5, c_8]; decide)), trivial⟩, hS.F ht⟩) hS.2.2 dX2_fits_43
            · refine lv_iload_n hx hb dX2_fits_29 rfl (lv_at hl 1 rfl) ?_
              refine lv_if_eq (tgt := 38) hx hb dX2_fits_30 (by decide) (fun c_9 => ?_) (fun c_9 => ?_)
              · refine lv_iconst (v := (nI 1)) hx hb dX2_fits_38 (by decide) ?_
                refine lv_goto (tgt := 43) hx hb dX2_fits_39 (by decide) ?_
                exact W.zret (v := (nI 1)) hx hb hr rfl (fun t ht hW => ⟨⟨(nI 1), (), rfl, (by first | (simp [s_fits, bI, c_1, c_2, c_3, c_4, c_5, c_8, c_9]; done) | (simp [s_fits, bI, c_1, c_2, c_3, c_4, c_5, c_8, c_9]; decide)), trivial⟩, hS.F ht⟩) hS.2.2 dX2_fits_43
              · refine lv_iload_n hx hb dX2_fits_33 rfl (lv_at hl 1 rfl) ?_
                refine lv_iconst (v := (nI 4)) hx hb dX2_fits_34 (by decide) ?_
                refine lv_icmp_ne (tgt := 42) hx hb dX2_fits_35 (by decide) (fun c_10 => ?_) (fun c_10 => ?_)
                · refine lv_iconst (v := (nI 0)) hx hb dX2_fits_42 (by decide) ?_
                  exact W.zret (v := (nI 0)) hx hb hr rfl (fun t ht hW => ⟨⟨(nI 0), (), rfl, (by first | (simp [s_fits, bI, c_1, c_2, c_3, c_4, c_5, c_8, c_9, c_10]; done) | (simp [s_fits, bI, c_1, c_2, c_3, c_4, c_5, c_8, c_9, c_10]; decide)), trivial⟩, hS.F ht⟩) hS.2.2 dX2_fits_43
                · refine lv_iconst (v := (nI 1)) hx hb dX2_fits_38 (by decide) ?_
                  refine lv_goto (tgt := 43) hx hb dX2_fits_39 (by decide) ?_
                  exact W.zret (v := (nI 1)) hx hb hr rfl (fun t ht hW => ⟨⟨(nI 1), (), rfl, (by first | (simp [s_fits, bI, c_1, c_2, c_3, c_4, c_5, c_8, c_9, c_10]; done) | (simp [s_fits, bI, c_1, c_2, c_3, c_4, c_5, c_8, c_9, c_10]; decide)), trivial⟩, hS.F ht⟩) hS.2.2 dX2_fits_43
        · refine lv_iconst (v := (nI 0)) hx hb dX2_fits_18 (by decide) ?_
          exact W.zret (v := (nI 0)) hx hb hr rfl (fun t ht hW => ⟨⟨(nI 0), (), rfl, (by first | (simp [s_fits, bI, c_1, c_2, c_3, c_4]; done) | (simp [s_fits, bI, c_1, c_2, c_3, c_4]; decide)), trivial⟩, hS.F ht⟩) hS.2.2 dX2_fits_19
set_option maxHeartbeats 4000000 in
set_option maxRecDepth 100000 in
theorem c_X2_isBelow (l : Launch) (D : va_G) (a : Nat → Nat) (k : Nat → ClassId) (σ : CS) (hok : cok σ) (zx1 zx2 : Int32) : Met l yX2_isBelow wsX2_isBelow (rmC 2 44) (cP D a k σ [.ref (a 0), .int zx1, .int zx2]) (roQ (bI (s_isBelow σ zx1 zx2))) 0 0 (fun _ => False) := by
  refine Met.ofW (cc := cX2_isBelow) (maxL := 3) (ret := (some .boolean)) (by decide) rfl ?_
  intro p e s m args below meth c s₁ B hml hv
  obtain ⟨rfl, hP, hK⟩ := hv
  have hx := B.exec
  have hb := B.bytes
  have hr := B.returns
  have hts := atoms_spec (ws := wsX2_isBelow) B.pre
  have hown : s.vm.findClass RX2 = some m.cls := findClass_of_methodNamed B.named
  have hlocks := B.notSynchronized
  clear B
  have hl := lv_entry ([.ref (a 0), .int zx1, .int zx2]) (n := 3) (Nat.le_of_ble_eq_true rfl)
  rw [lg_entry_eq]
  generalize (lg_sl ([.ref (a 0), .int zx1, .int zx2]) ++ List.replicate (3 - (lg_sl ([.ref (a 0), .int zx1, .int zx2])).length) Slot.unset).toArray = ls at hl ⊢
  replace hl : lv_has ls 3 [(0, .ref (a 0)), (1, .int zx1), (2, .int zx2)] := hl
  refine gen_start (A := (fun _ => False)) (fun H locs hP hS => ?_) hP
  obtain ⟨hb0, ⟨hb1, hb2, hb3, hb4, hb5, hb6⟩, hb7, hb8⟩ := id hok
  refine lv_aload_n hx hb dX2_isBelow_0 rfl (lv_at hl 0 rfl) ?_
  refine va_get (D := D) (ci := 3) (v := .ref (a 1)) (C := RX2) (T := TX2) (N := 2) hx hb hts (by decide +kernel) hown hK.1 hP 0 rfl rfl 0 (by decide) (hts (.fieldLink RX2 10 "ChooseTree" "classes" "LChooseTree$Classes;") (by decide +kernel)) (fun _ h9 => h9) rfl dX2_isBelow_1 ?_
  refine lv_iload_n hx hb dX2_isBelow_4 rfl (lv_at hl 1 rfl) ?_
  refine va_calli (va_runV (As := [.int zx1]) (rest := []) ⟨hx, hb, hml, hown, hts⟩ (c_X0_exists l D a k σ zx1) (cwV 1 hts gX2_isBelow_X0_exists rfl rfl rfl (by decide +kernel) ⟨Nat.le_of_ble_eq_true rfl, Nat.le_of_ble_eq_true rfl⟩) (cP_V hK hP 1 1 rfl rfl) rfl rfl hl.1 rfl (lv_room (Nat.le_of_ble_eq_true rfl)) dX2_isBelow_5 ⟨Nat.le_of_ble_eq_true rfl, Nat.le_of_ble_eq_true rfl⟩) hS (fun _ _ h => h.elim) (fun _ h => h.elim) (fun r_1 u t H1 locs ht hvm hw hB hz1 hk1 hS => ?_)
  replace hP := ro_kept hP hk1
  obtain rfl : r_1 = _ := hw
  clear hk1 hz1 hvm ht hB
  generalize H1 = H at hP hS ⊢
  refine lv_if_eq (tgt := 43) hx hb dX2_isBelow_8 (by decide) (fun c_2 => ?_) (fun c_2 => ?_)
  · replace c_2 := bI_0.mp c_2
    refine lv_iconst (v := (nI 0)) hx hb dX2_isBelow_43 (by decide) ?_
    exact W.zret (v := (nI 0)) hx hb hr rfl (fun t ht hW => ⟨⟨(nI 0), (), rfl, (by simp [s_isBelow, bI, c_2]), trivial⟩, hS.F ht⟩) hS.2.2 dX2_isBelow_44
  · replace c_2 := bI_n0.mp c_2
    obtain ⟨zj1, hzj1, ezj1⟩ := s_exists_of hok c_2
    subst ezj1
    have hclzj1 := nI_clamp (n := zj1) (by omega)
    refine lv_aload_n hx hb dX2_isBelow_11 rfl (lv_at hl 0 rfl) ?_
    refine va_get (D := D) (ci := 3) (v := .ref (a 1)) (C := RX2) (T := TX2) (N := 2) hx hb hts (by decide +kernel) hown hK.1 hP 0 rfl rfl 0 (by decide) (hts (.fieldLink RX2 10 "ChooseTree" "classes" "LChooseTree$Classes;") (by decide +kernel)) (fun _ h9 => h9) rfl dX2_isBelow_12 ?_
    refine lv_iload_n hx hb dX2_isBelow_15 rfl (lv_at hl 2 rfl) ?_
    refine va_calli (va_runV (As := [.int zx2]) (rest := []) ⟨hx, hb, hml, hown, hts⟩ (c_X0_exists l D a k σ zx2) (cwV 1 hts gX2_isBelow_X0_exists rfl rfl rfl (by decide +kernel) ⟨Nat.le_of_ble_eq_true rfl, Nat.le_of_ble_eq_true rfl⟩) (cP_V hK hP 1 1 rfl rfl) rfl rfl hl.1 rfl (lv_room (Nat.le_of_ble_eq_true rfl)) dX2_isBelow_16 ⟨Nat.le_of_ble_eq_true rfl, Nat.le_of_ble_eq_true rfl⟩) hS (fun _ _ h => h.elim) (fun _ h => h.elim) (fun r_3 u t H1 locs ht hvm hw hB hz1 hk1 hS => ?_)
    replace hP := ro_kept hP hk1
    obtain rfl : r_3 = _ := hw
    clear hk1 hz1 hvm ht hB
    generalize H1 = H at hP hS ⊢
    refine lv_if_eq (tgt := 43) hx hb dX2_isBelow_19 (by decide) (fun c_4 => ?_) (fun c_4 => ?_)
    · replace c_4 := bI_0.mp c_4
      refine lv_iconst (v := (nI 0)) hx hb dX2_isBelow_43 (by decide) ?_
      exact W.zret (v := (nI 0)) hx hb hr rfl (fun t ht hW => ⟨⟨(nI 0), (), rfl, (by simp [s_isBelow, bI, c_2, hclzj1, c_4]), trivial⟩, hS.F ht⟩) hS.2.2 dX2_isBelow_44
    · replace c_4 := bI_n0.mp c_4
      obtain ⟨zj2, hzj2, ezj2⟩ := s_exists_of hok c_4
      subst ezj2
      have hclzj2 := nI_clamp (n := zj2) (by omega)
      refine lv_iload_n hx hb dX2_isBelow_22 rfl (lv_at hl 1 rfl) ?_
      refine lv_iload_n hx hb dX2_isBelow_23 rfl (lv_at hl 2 rfl) ?_
      refine lv_icmp_eq (tgt := 39) hx hb dX2_isBelow_24 (by decide) (fun c_5 => ?_) (fun c_5 => ?_)
      · refine lv_iconst (v := (nI 1)) hx hb dX2_isBelow_39 (by decide) ?_
        refine lv_goto (tgt := 44) hx hb dX2_isBelow_40 (by decide) ?_
        exact W.zret (v := (nI 1)) hx hb hr rfl (fun t ht hW => ⟨⟨(nI 1), (), rfl, (by simp [s_isBelow, bI, c_2, hclzj1, c_4, hclzj2, c_5]), trivial⟩, hS.F ht⟩) hS.2.2 dX2_isBelow_44
      · refine lv_aload_n hx hb dX2_isBelow_27 rfl (lv_at hl 0 rfl) ?_
        refine va_get (D := D) (ci := 3) (v := .ref (a 1)) (C := RX2) (T := TX2) (N := 2) hx hb hts (by decide +kernel) hown hK.1 hP 0 rfl rfl 0 (by decide) (hts (.fieldLink RX2 10 "ChooseTree" "classes" "LChooseTree$Classes;") (by decide +kernel)) (fun _ h9 => h9) rfl dX2_isBelow_28 ?_
        refine lv_iload_n hx hb dX2_isBelow_31 rfl (lv_at hl 1 rfl) ?_
        refine lv_iload_n hx hb dX2_isBelow_32 rfl (lv_at hl 2 rfl) ?_
        refine va_calli (va_runV (As := [.int (nI zj1), .int (nI zj2)]) (rest := []) ⟨hx, hb, hml, hown, hts⟩ (c_X0_below l D a k σ zj1 zj2 (by omega)) (cwV 2 hts gX2_isBelow_X0_below rfl rfl rfl (by decide +kernel) ⟨Nat.le_of_ble_eq_true rfl, Nat.le_of_ble_eq_true rfl⟩) (cP_V hK hP 1 1 rfl rfl) rfl rfl hl.1 rfl (lv_room (Nat.le_of_ble_eq_true rfl)) dX2_isBelow_33 ⟨Nat.le_of_ble_eq_true rfl, Nat.le_of_ble_eq_true rfl⟩) hS (fun _ _ h => h.elim) (fun _ h => h.elim) (fun r_6 u t H1 locs ht hvm hw hB hz1 hk1 hS => ?_)
        replace hP := ro_kept hP hk1
        obtain rfl : r_6 = _ := hw
        clear hk1 hz1 hvm ht hB
        generalize H1 = H at hP hS ⊢
        refine lv_if_eq (tgt := 43) hx hb dX2_isBelow_36 (by decide) (fun c_7 => ?_) (fun c_7 => ?_)
        · replace c_7 := bI_0.mp c_7
          refine lv_iconst (v := (nI 0)) hx hb dX2_isBelow_43 (by decide) ?_
          exact W.zret (v := (nI 0)) hx hb hr rfl (fun t ht hW => ⟨⟨(nI 0), (), rfl, (by simp [s_isBelow, bI, c_2, hclzj1, c_4, hclzj2, c_5, c_7]), trivial⟩, hS.F ht⟩) hS.2.2 dX2_isBelow_44
        · replace c_7 := bI_n0.mp c_7
          refine lv_iconst (v := (nI 1)) hx hb dX2_isBelow_39 (by decide) ?_
          refine lv_goto (tgt := 44) hx hb dX2_isBelow_40 (by decide) ?_
          exact W.zret (v := (nI 1)) hx hb hr rfl (fun t ht hW => ⟨⟨(nI 1), (), rfl, (by simp [s_isBelow, bI, c_2, hclzj1, c_4, hclzj2, c_5, c_7]), trivial⟩, hS.F ht⟩) hS.2.2 dX2_isBelow_44
set_option maxHeartbeats 4000000 in
set_option maxRecDepth 100000 in
theorem c_X2_face (l : Launch) (D : va_G) (a : Nat → Nat) (k : Nat → ClassId) (σ : CS) (hok : cok σ) (zx1 zx2 : Int32) : Met l yX2_face wsX2_face (rmC 1 22) (cP D a k σ [.ref (a 0), .int zx1, .int zx2]) (roQ (s_faceI σ zx1 zx2)) 0 0 (fun _ => False) := by
  refine Met.ofW (cc := cX2_face) (maxL := 3) (ret := (some .int)) (by decide) rfl ?_
  intro p e s m args below meth c s₁ B hml hv
  obtain ⟨rfl, hP, hK⟩ := hv
  have hx := B.exec
  have hb := B.bytes
  have hr := B.returns
  have hts := atoms_spec (ws := wsX2_face) B.pre
  have hown : s.vm.findClass RX2 = some m.cls := findClass_of_methodNamed B.named
  have hlocks := B.notSynchronized
  clear B
  have hl := lv_entry ([.ref (a 0), .int zx1, .int zx2]) (n := 3) (Nat.le_of_ble_eq_true rfl)
  rw [lg_entry_eq]
  generalize (lg_sl ([.ref (a 0), .int zx1, .int zx2]) ++ List.replicate (3 - (lg_sl ([.ref (a 0), .int zx1, .int zx2])).length) Slot.unset).toArray = ls at hl ⊢
  replace hl : lv_has ls 3 [(0, .ref (a 0)), (1, .int zx1), (2, .int zx2)] := hl
  refine gen_start (A := (fun _ => False)) (fun H locs hP hS => ?_) hP
  obtain ⟨hb0, ⟨hb1, hb2, hb3, hb4, hb5, hb6⟩, hb7, hb8⟩ := id hok
  refine lv_aload_n hx hb dX2_face_0 rfl (lv_at hl 0 rfl) ?_
  refine va_get (D := D) (ci := 3) (v := .ref (a 1)) (C := RX2) (T := TX2) (N := 2) hx hb hts (by decide +kernel) hown hK.1 hP 0 rfl rfl 0 (by decide) (hts (.fieldLink RX2 10 "ChooseTree" "classes" "LChooseTree$Classes;") (by decide +kernel)) (fun _ h9 => h9) rfl dX2_face_1 ?_
  refine lv_iload_n hx hb dX2_face_4 rfl (lv_at hl 1 rfl) ?_
  refine va_calli (va_runV (As := [.int zx1]) (rest := []) ⟨hx, hb, hml, hown, hts⟩ (c_X0_exists l D a k σ zx1) (cwV 1 hts gX2_face_X0_exists rfl rfl rfl (by decide +kernel) ⟨Nat.le_of_ble_eq_true rfl, Nat.le_of_ble_eq_true rfl⟩) (cP_V hK hP 1 1 rfl rfl) rfl rfl hl.1 rfl (lv_room (Nat.le_of_ble_eq_true rfl)) dX2_face_5 ⟨Nat.le_of_ble_eq_true rfl, Nat.le_of_ble_eq_true rfl⟩) hS (fun _ _ h => h.elim) (fun _ h => h.elim) (fun r_1 u t H1 locs ht hvm hw hB hz1 hk1 hS => ?_)
  replace hP := ro_kept hP hk1
  obtain rfl : r_1 = _ := hw
  clear hk1 hz1 hvm ht hB
  generalize H1 = H at hP hS ⊢
  refine lv_if_eq (tgt := 28) hx hb dX2_face_8 (by decide) (fun c_2 => ?_) (fun c_2 => ?_)
  · replace c_2 := bI_0.mp c_2
    refine lv_iconst (v := (-1)) hx hb dX2_face_28 (by decide) ?_
    exact W.iret (v := (-1)) hx hb hr (fun t ht hW => ⟨⟨(-1), (), rfl, (by simp [s_faceI, bI, c_2]), trivial⟩, hS.F ht⟩) hS.2.2 dX2_face_29
  · replace c_2 := bI_n0.mp c_2
    obtain ⟨zj1, hzj1, ezj1⟩ := s_exists_of hok c_2
    subst ezj1
    have hclzj1 := nI_clamp (n := zj1) (by omega)
    refine lv_iload_n hx hb dX2_face_11 rfl (lv_at hl 2 rfl) ?_
    refine lv_if_lt (tgt := 28) hx hb dX2_face_12 (by decide) (fun c_3 => ?_) (fun c_3 => ?_)
    · refine lv_iconst (v := (-1)) hx hb dX2_face_28 (by decide) ?_
      exact W.iret (v := (-1)) hx hb hr (fun t ht hW => ⟨⟨(-1), (), rfl, (by simp [s_faceI, bI, c_2, hclzj1, c_3]), trivial⟩, hS.F ht⟩) hS.2.2 dX2_face_29
    · refine lv_iload_n hx hb dX2_face_15 rfl (lv_at hl 2 rfl) ?_
      refine lv_aload_n hx hb dX2_face_16 rfl (lv_at hl 0 rfl) ?_
      refine va_get (D := D) (ci := 3) (v := .ref (a 1)) (C := RX2) (T := TX2) (N := 2) hx hb hts (by decide +kernel) hown hK.1 hP 0 rfl rfl 0 (by decide) (hts (.fieldLink RX2 10 "ChooseTree" "classes" "LChooseTree$Classes;") (by decide +kernel)) (fun _ h9 => h9) rfl dX2_face_17 ?_
      refine va_get (D := D) (ci := 1) (v := .ref (a 7)) (C := RX0) (T := TX0) (N := 10) hx hb hts (by decide +kernel) hown hK.1 hP 1 rfl rfl 5 (by decide) (hts (.fieldLink RX2 79 "ChooseTree$Classes" "faceAmount" "[I") (by decide +kernel)) (fun _ h9 => h9) rfl dX2_face_20 ?_
      refine lv_iload_n hx hb dX2_face_23 rfl (lv_at hl 1 rfl) ?_
      refine na_iald (D := D) hx hb hK.1 hP 7 4 rfl rfl (i := zj1) (by omega) (by decide) dX2_face_24 ?_
      refine lv_icmp_lt (tgt := 30) hx hb dX2_face_25 (by decide) (fun c_4 => ?_) (fun c_4 => ?_)
      · have hq := hb4 zj1 (by omega)
        obtain ⟨zj2, hj2, e2⟩ := ix_of (x := zx2) (n := cs_fam σ zj1) (by omega) (by simp [c_3, Int32.not_le.mpr c_4])
        subst e2
        have hcl2 := nI_clamp (n := zj2) (by omega)
        refine lv_aload_n hx hb dX2_face_30 rfl (lv_at hl 0 rfl) ?_
        refine va_get (D := D) (ci := 3) (v := .ref (a 1)) (C := RX2) (T := TX2) (N := 2) hx hb hts (by decide +kernel) hown hK.1 hP 0 rfl rfl 0 (by decide) (hts (.fieldLink RX2 10 "ChooseTree" "classes" "LChooseTree$Classes;") (by decide +kernel)) (fun _ h9 => h9) rfl dX2_face_31 ?_
        refine lv_iload_n hx hb dX2_face_34 rfl (lv_at hl 1 rfl) ?_
        refine lv_iload_n hx hb dX2_face_35 rfl (lv_at hl 2 rfl) ?_
        refine va_calli (va_runV (As := [.int (nI zj1), .int (nI zj2)]) (rest := []) ⟨hx, hb, hml, hown, hts⟩ (c_X0_faceAt l D a k σ zj1 zj2 (by omega) (by omega)) (cwV 2 hts gX2_face_X0_faceAt rfl rfl rfl (by decide +kernel) ⟨Nat.le_of_ble_eq_true rfl, Nat.le_of_ble_eq_true rfl⟩) (cP_V hK hP 1 1 rfl rfl) rfl rfl hl.1 rfl (lv_room (Nat.le_of_ble_eq_true rfl)) dX2_face_36 ⟨Nat.le_of_ble_eq_true rfl, Nat.le_of_ble_eq_true rfl⟩) hS (fun _ _ h => h.elim) (fun _ h => h.elim) (fun r_5 u t H1 locs ht hvm hw hB hz1 hk1 hS => ?_)
        replace hP := ro_kept hP hk1
        obtain rfl : r_5 = _ := hw
        clear hk1 hz1 hvm ht hB
        generalize H1 = H at hP hS ⊢
        exact W.iret (v := (nI (s_faceAt σ zj1 zj2))) hx hb hr (fun t ht hW => ⟨⟨(nI (s_faceAt σ zj1 zj2)), (), rfl, (by simp [s_faceI, bI, c_2, hclzj1, c_3, c_4, hcl2]), trivial⟩, hS.F ht⟩) hS.2.2 dX2_face_39
      · refine lv_iconst (v := (-1)) hx hb dX2_face_28 (by decide) ?_
        exact W.iret (v := (-1)) hx hb hr (fun t ht hW => ⟨⟨(-1), (), rfl, (by simp [s_faceI, bI, c_2, hclzj1, c_3, c_4]), trivial⟩, hS.F ht⟩) hS.2.2 dX2_face_29
set_option maxHeartbeats 4000000 in
set_option maxRecDepth 100000 in
theorem c_X2_couldReplace (l : Launch) (D : va_G) (a : Nat → Nat) (k : Nat → ClassId) (σ : CS) (hok : cok σ) (zn1 zn2 : Nat) (hn1 : zn1 < 400) (hn2 : zn2 < 400) : Met l yX2_couldReplace wsX2_couldReplace (rmC 2 42) (cP D a k σ [.ref (a 0), .int (nI zn1), .int (nI zn2)]) (roQ (bI (r_could σ zn1 zn2))) 0 0 (fun _ => False) := by
  refine Met.ofW (cc := cX2_couldReplace) (maxL := 3) (ret := (some .boolean)) (by decide) rfl ?_
  intro p e s m args below meth c s₁ B hml hv
  obtain ⟨rfl, hP, hK⟩ := hv
  have hx := B.exec
  have hb := B.bytes
  have hr := B.returns
  have hts := atoms_spec (ws := wsX2_couldReplace) B.pre
  have hown : s.vm.findClass RX2 = some m.cls := findClass_of_methodNamed B.named
  have hlocks := B.notSynchronized
  clear B
  have hl := lv_entry ([.ref (a 0), .int (nI zn1), .int (nI zn2)]) (n := 3) (Nat.le_of_ble_eq_true rfl)
  rw [lg_entry_eq]
  generalize (lg_sl ([.ref (a 0), .int (nI zn1), .int (nI zn2)]) ++ List.replicate (3 - (lg_sl ([.ref (a 0), .int (nI zn1), .int (nI zn2)])).length) Slot.unset).toArray = ls at hl ⊢
  replace hl : lv_has ls 3 [(0, .ref (a 0)), (1, .int (nI zn1)), (2, .int (nI zn2))] := hl
  refine gen_start (A := (fun _ => False)) (fun H locs hP hS => ?_) hP
  refine lv_iload_n hx hb dX2_couldReplace_0 rfl (lv_at hl 1 rfl) ?_
  refine lv_iload_n hx hb dX2_couldReplace_1 rfl (lv_at hl 2 rfl) ?_
  refine lv_icmp_eq (tgt := 52) hx hb dX2_couldReplace_2 (by decide) (fun c_1 => ?_) (fun c_1 => ?_)
  · refine lv_iconst (v := (nI 0)) hx hb dX2_couldReplace_52 (by decide) ?_
    exact W.zret (v := (nI 0)) hx hb hr rfl (fun t ht hW => ⟨⟨(nI 0), (), rfl, (by simp [r_could, bI, c_1]), trivial⟩, hS.F ht⟩) hS.2.2 dX2_couldReplace_53
  · refine lv_aload_n hx hb dX2_couldReplace_5 rfl (lv_at hl 0 rfl) ?_
    refine va_get (D := D) (ci := 3) (v := .ref (a 2)) (C := RX2) (T := TX2) (N := 2) hx hb hts (by decide +kernel) hown hK.1 hP 0 rfl rfl 1 (by decide) (hts (.fieldLink RX2 19 "ChooseTree" "methods" "LChooseTree$Methods;") (by decide +kernel)) (fun _ h9 => h9) rfl dX2_couldReplace_6 ?_
    refine va_get (D := D) (ci := 2) (v := .ref (a 11)) (C := RX1) (T := TX1) (N := 7) hx hb hts (by decide +kernel) hown hK.1 hP 2 rfl rfl 2 (by decide) (hts (.fieldLink RX2 131 "ChooseTree$Methods" "name" "[I") (by decide +kernel)) (fun _ h9 => h9) rfl dX2_couldReplace_9 ?_
    refine lv_iload_n hx hb dX2_couldReplace_12 rfl (lv_at hl 1 rfl) ?_
    refine na_iald (D := D) hx hb hK.1 hP 11 8 rfl rfl (i := zn1) (by omega) (by decide) dX2_couldReplace_13 ?_
    refine lv_aload_n hx hb dX2_couldReplace_14 rfl (lv_at hl 0 rfl) ?_
    refine va_get (D := D) (ci := 3) (v := .ref (a 2)) (C := RX2) (T := TX2) (N := 2) hx hb hts (by decide +kernel) hown hK.1 hP 0 rfl rfl 1 (by decide) (hts (.fieldLink RX2 19 "ChooseTree" "methods" "LChooseTree$Methods;") (by decide +kernel)) (fun _ h9 => h9) rfl dX2_couldReplace_15 ?_
    refine va_get (D := D) (ci := 2) (v := .ref (a 11)) (C := RX1) (T := TX1) (N := 7) hx hb hts (by decide +kernel) hown hK.1 hP 2 rfl rfl 2 (by decide) (hts (.fieldLink RX2 131 "ChooseTree$Methods" "name" "[I") (by decide +kernel)) (fun _ h9 => h9) rfl dX2_couldReplace_18 ?_
    refine lv_iload_n hx hb dX2_couldReplace_21 rfl (lv_at hl 2 rfl) ?_
    refine na_iald (D := D) hx hb hK.1 hP 11 8 rfl rfl (i := zn2) (by omega) (by decide) dX2_couldReplace_22 ?_
    refine lv_icmp_ne (tgt := 52) hx hb dX2_couldReplace_23 (by decide) (fun c_2 => ?_) (fun c_2 => ?_)
    · refine lv_iconst (v := (nI 0)) hx hb dX2_couldReplace_52 (by decide) ?_
      exact W.zret (v := (nI 0)) hx hb hr rfl (fun t ht hW => ⟨⟨(nI 0), (), rfl, (by simp [r_could, bI, c_1, c_2]), trivial⟩, hS.F ht⟩) hS.2.2 dX2_couldReplace_53
    · refine lv_aload_n hx hb dX2_couldReplace_26 rfl (lv_at hl 0 rfl) ?_
      refine va_get (D := D) (ci := 3) (v := .ref (a 2)) (C := RX2) (T := TX2) (N := 2) hx hb hts (by decide +kernel) hown hK.1 hP 0 rfl rfl 1 (by decide) (hts (.fieldLink RX2 19 "ChooseTree" "methods" "LChooseTree$Methods;") (by decide +kernel)) (fun _ h9 => h9) rfl dX2_couldReplace_27 ?_
      refine lv_iload_n hx hb dX2_couldReplace_30 rfl (lv_at hl 1 rfl) ?_
      refine va_calli (va_runV (As := [.int (nI zn1)]) (rest := []) ⟨hx, hb, hml, hown, hts⟩ (c_X1_isVirtual l D a k σ zn1 hn1) (cwV 1 hts gX2_couldReplace_X1_isVirtual rfl rfl rfl (by decide +kernel) ⟨Nat.le_of_ble_eq_true rfl, Nat.le_of_ble_eq_true rfl⟩) (cP_V hK hP 2 2 rfl rfl) rfl rfl hl.1 rfl (lv_room (Nat.le_of_ble_eq_true rfl)) dX2_couldReplace_31 ⟨Nat.le_of_ble_eq_true rfl, Nat.le_of_ble_eq_true rfl⟩) hS (fun _ _ h => h.elim) (fun _ h => h.elim) (fun r_3 u t H1 locs ht hvm hw hB hz1 hk1 hS => ?_)
      replace hP := ro_kept hP hk1
      obtain rfl : r_3 = _ := hw
      clear hk1 hz1 hvm ht hB
      generalize H1 = H at hP hS ⊢
      refine lv_if_eq (tgt := 52) hx hb dX2_couldReplace_34 (by decide) (fun c_4 => ?_) (fun c_4 => ?_)
      · replace c_4 := bI_0.mp c_4
        refine lv_iconst (v := (nI 0)) hx hb dX2_couldReplace_52 (by decide) ?_
        exact W.zret (v := (nI 0)) hx hb hr rfl (fun t ht hW => ⟨⟨(nI 0), (), rfl, (by simp [r_could, bI, c_1, c_2, c_4]), trivial⟩, hS.F ht⟩) hS.2.2 dX2_couldReplace_53
      · replace c_4 := bI_n0.mp c_4
        refine lv_aload_n hx hb dX2_couldReplace_37 rfl (lv_at hl 0 rfl) ?_
        refine va_get (D := D) (ci := 3) (v := .ref (a 2)) (C := RX2) (T := TX2) (N := 2) hx hb hts (by decide +kernel) hown hK.1 hP 0 rfl rfl 1 (by decide) (hts (.fieldLink RX2 19 "ChooseTree" "methods" "LChooseTree$Methods;") (by decide +kernel)) (fun _ h9 => h9) rfl dX2_couldReplace_38 ?_
        refine lv_iload_n hx hb dX2_couldReplace_41 rfl (lv_at hl 2 rfl) ?_
        refine va_calli (va_runV (As := [.int (nI zn2)]) (rest := []) ⟨hx, hb, hml, hown, hts⟩ (c_X1_isVirtual l D a k σ zn2 hn2) (cwV 1 hts gX2_couldReplace_X1_isVirtual rfl rfl rfl (by decide +kernel) ⟨Nat.le_of_ble_eq_true rfl, Nat.le_of_ble_eq_true rfl⟩) (cP_V hK hP 2 2 rfl rfl) rfl rfl hl.1 rfl (lv_room (Nat.le_of_ble_eq_true rfl)) dX2_couldReplace_42 ⟨Nat.le_of_ble_eq_true rfl, Nat.le_of_ble_eq_true rfl⟩) hS (fun _ _ h => h.elim) (fun _ h => h.elim) (fun r_5 u t H1 locs ht hvm hw hB hz1 hk1 hS => ?_)
        replace hP := ro_kept hP hk1
        obtain rfl : r_5 = _ := hw
        clear hk1 hz1 hvm ht hB
        generalize H1 = H at hP hS ⊢
        refine lv_if_eq (tgt := 52) hx hb dX2_couldReplace_45 (by decide) (fun c_6 => ?_) (fun c_6 => ?_)
        · replace c_6 := bI_0.mp c_6
          refine lv_iconst (v := (nI 0)) hx hb dX2_couldReplace_52 (by decide) ?_
          exact W.zret (v := (nI 0)) hx hb hr rfl (fun t ht hW => ⟨⟨(nI 0), (), rfl, (by simp [r_could, bI, c_1, c_2, c_4, c_6]), trivial⟩, hS.F ht⟩) hS.2.2 dX2_couldReplace_53
        · replace c_6 := bI_n0.mp c_6
          refine lv_iconst (v := (nI 1)) hx hb dX2_couldReplace_48 (by decide) ?_
          refine lv_goto (tgt := 53) hx hb dX2_couldReplace_49 (by decide) ?_
          exact W.zret (v := (nI 1)) hx hb hr rfl (fun t ht hW => ⟨⟨(nI 1), (), rfl, (by simp [r_could, bI, c_1, c_2, c_4, c_6]), trivial⟩, hS.F ht⟩) hS.2.2 dX2_couldReplace_53
set_option maxHeartbeats 4000000 in
set_option maxRecDepth 100000 in
theorem c_X2_replacesBetween (l : Launch) (D : va_G) (a : Nat → Nat) (k : Nat → ClassId) (σ : CS) (hok : cok σ) (zn1 zn2 : Nat) (hn1 : zn1 < 400) (hn2 : zn2 < 400) : Met l yX2_replacesBetween wsX2_replacesBetween (rmC 3 66) (cP D a k σ [.ref (a 0), .int (nI zn1), .int (nI zn2)]) (roQ (bI (r_bw σ zn1 zn2))) 0 0 (fun _ => False) := by
  refine Met.ofW (cc := cX2_replacesBetween) (maxL := 7) (ret := (some .boolean)) (by decide) rfl ?_
  intro p e s m args below meth c s₁ B hml hv
  obtain ⟨rfl, hP, hK⟩ := hv
  have hx := B.exec
  have hb := B.bytes
  have hr := B.returns
  have hts := atoms_spec (ws := wsX2_replacesBetween) B.pre
  have hown : s.vm.findClass RX2 = some m.cls := findClass_of_methodNamed B.named
  have hlocks := B.notSynchronized
  clear B
  have hl := lv_entry ([.ref (a 0), .int (nI zn1), .int (nI zn2)]) (n := 7) (Nat.le_of_ble_eq_true rfl)
  rw [lg_entry_eq]
  generalize (lg_sl ([.ref (a 0), .int (nI zn1), .int (nI zn2)]) ++ List.replicate (7 - (lg_sl ([.ref (a 0), .int (nI zn1), .int (nI zn2)])).length) Slot.unset).toArray = ls at hl ⊢
  replace hl : lv_has ls 7 [(0, .ref (a 0)), (1, .int (nI zn1)), (2, .int (nI zn2))] := hl
  refine gen_start (A := (fun _ => False)) (fun H locs hP hS => ?_) hP
  obtain ⟨hb0, ⟨hb1, hb2, hb3, hb4, hb5, hb6⟩, hb7, hb8⟩ := id hok
  have hw1 := hb3 zn1 hn1
  have hw2 := hb3 zn2 hn2
  refine lv_aload_n hx hb dX2_replacesBetween_0 rfl (lv_at hl 0 rfl) ?_
  refine va_get (D := D) (ci := 3) (v := .ref (a 2)) (C := RX2) (T := TX2) (N := 2) hx hb hts (by decide +kernel) hown hK.1 hP 0 rfl rfl 1 (by decide) (hts (.fieldLink RX2 19 "ChooseTree" "methods" "LChooseTree$Methods;") (by decide +kernel)) (fun _ h9 => h9) rfl dX2_replacesBetween_1 ?_
  refine va_get (D := D) (ci := 2) (v := .ref (a 10)) (C := RX1) (T := TX1) (N := 7) hx hb hts (by decide +kernel) hown hK.1 hP 2 rfl rfl 1 (by decide) (hts (.fieldLink RX2 115 "ChooseTree$Methods" "owner" "[I") (by decide +kernel)) (fun _ h9 => h9) rfl dX2_replacesBetween_4 ?_
  refine lv_iload_n hx hb dX2_replacesBetween_7 rfl (lv_at hl 1 rfl) ?_
  refine na_iald (D := D) hx hb hK.1 hP 10 7 rfl rfl (i := zn1) (by omega) (by decide) dX2_replacesBetween_8 ?_
  refine lv_istore_n (lv' := [(3, .int (nI ((cs_ow σ) zn1))), (0, .ref (a 0)), (1, .int (nI zn1)), (2, .int (nI zn2))]) hx hb dX2_replacesBetween_9 rfl hl (by decide) rfl (fun ls hl => ?_)
  refine lv_aload_n hx hb dX2_replacesBetween_10 rfl (lv_at hl 1 rfl) ?_
  refine va_get (D := D) (ci := 3) (v := .ref (a 2)) (C := RX2) (T := TX2) (N := 2) hx hb hts (by decide +kernel) hown hK.1 hP 0 rfl rfl 1 (by decide) (hts (.fieldLink RX2 19 "ChooseTree" "methods" "LChooseTree$Methods;") (by decide +kernel)) (fun _ h9 => h9) rfl dX2_replacesBetween_11 ?_
  refine va_get (D := D) (ci := 2) (v := .ref (a 10)) (C := RX1) (T := TX1) (N := 7) hx hb hts (by decide +kernel) hown hK.1 hP 2 rfl rfl 1 (by decide) (hts (.fieldLink RX2 115 "ChooseTree$Methods" "owner" "[I") (by decide +kernel)) (fun _ h9 => h9) rfl dX2_replacesBetween_14 ?_
  refine lv_iload_n hx hb dX2_replacesBetween_17 rfl (lv_at hl 3 rfl) ?_
  refine na_iald (D := D) hx hb hK.1 hP 10 7 rfl rfl (i := zn2) (by omega) (by decide) dX2_replacesBetween_18 ?_
  refine lv_istore (lv' := [(4, .int (nI ((cs_ow σ) zn2))), (3, .int (nI ((cs_ow σ) zn1))), (0, .ref (a 0)), (1, .int (nI zn1)), (2, .int (nI zn2))]) hx hb dX2_replacesBetween_19 hl (by decide) rfl (fun ls hl => ?_)
  refine lv_iload_n hx hb dX2_replacesBetween_21 rfl (lv_at hl 1 rfl) ?_
  refine lv_iconst (v := (nI 1)) hx hb dX2_replacesBetween_22 (by decide) ?_
  refine lv_isub hx hb dX2_replacesBetween_23 ?_
  refine lv_istore (lv' := [(5, .int ((nI ((cs_ow σ) zn1)) - (nI 1))), (4, .int (nI ((cs_ow σ) zn2))), (3, .int (nI ((cs_ow σ) zn1))), (0, .ref (a 0)), (1, .int (nI zn1)), (2, .int (nI zn2))]) hx hb dX2_replacesBetween_24 hl (by decide) rfl (fun ls hl => ?_)
  obtain ⟨n, hn⟩ : ∃ n : Nat, n = cs_ow σ zn1 := ⟨_, rfl⟩
  have hE : n ≤ 60 := by omega
  have hres : r_between σ (cs_ow σ zn1) (cs_ow σ zn2) (cs_nm σ zn1) n = r_bw σ zn1 zn2 := by rw [hn]; rfl
  replace hl : lv_has ls 7 [(5, .int (nI n - nI 1)), (4, .int (nI ((cs_ow σ) zn2))), (3, .int (nI ((cs_ow σ) zn1))), (0, .ref (a 0)), (1, .int (nI zn1)), (2, .int (nI zn2))] := by rw [hn]; exact hl
  clear hn
  revert hl
  revert hres
  revert hE
  revert hS
  revert hP
  revert ls
  revert locs
  revert H
  induction n with
  | zero =>
    intro H locs ls hP hS hE hres hl
    refine lv_iload hx hb dX2_replacesBetween_26 (lv_at hl 0 rfl) ?_
    refine lv_if_lt (tgt := 137) hx hb dX2_replacesBetween_28 (by decide) (fun c_1 => ?_) (fun c_1 => ?_)
    · refine lv_iconst (v := (nI 0)) hx hb dX2_replacesBetween_137 (by decide) ?_
      exact W.zret (v := (nI 0)) hx hb hr rfl (fun t ht hW => ⟨⟨(nI 0), (), rfl, (by rw [← hres]; rfl), trivial⟩, hS.F ht⟩) hS.2.2 dX2_replacesBetween_138
    · exact absurd (by decide) c_1
  | succ n ih =>
    intro H locs ls hP hS hE hres hl
    rw [kpred] at hl
    have hn6 : n < 60 := by omega
    refine lv_iload hx hb dX2_replacesBetween_26 (lv_at hl 0 rfl) ?_
    refine lv_if_lt (tgt := 137) hx hb dX2_replacesBetween_28 (by decide) (fun c_2 => ?_) (fun c_2 => ?_)
    · exact absurd c_2 (nI_pos (by omega))
    · refine lv_aload_n hx hb dX2_replacesBetween_31 rfl (lv_at hl 3 rfl) ?_
      refine va_get (D := D) (ci := 3) (v := .ref (a 1)) (C := RX2) (T := TX2) (N := 2) hx hb hts (by decide +kernel) hown hK.1 hP 0 rfl rfl 0 (by decide) (hts (.fieldLink RX2 10 "ChooseTree" "classes" "LChooseTree$Classes;") (by decide +kernel)) (fun _ h9 => h9) rfl dX2_replacesBetween_32 ?_
      refine lv_iload_n hx hb dX2_replacesBetween_35 rfl (lv_at hl 2 rfl) ?_
      refine lv_iload hx hb dX2_replacesBetween_36 (lv_at hl 0 rfl) ?_
      refine va_calli (va_runV (As := [.int (nI ((cs_ow σ) zn1)), .int (nI n)]) (rest := []) ⟨hx, hb, hml, hown, hts⟩ (c_X0_inRow l D a k σ (cs_ow σ zn1) n hw1 hn6) (cwV 2 hts gX2_replacesBetween_X0_inRow rfl rfl rfl (by decide +kernel) ⟨Nat.le_of_ble_eq_true rfl, Nat.le_of_ble_eq_true rfl⟩) (cP_V hK hP 1 1 rfl rfl) rfl rfl hl.1 rfl (lv_room (Nat.le_of_ble_eq_true rfl)) dX2_replacesBetween_38 ⟨Nat.le_of_ble_eq_true rfl, Nat.le_of_ble_eq_true rfl⟩) hS (fun _ _ h => h.elim) (fun _ h => h.elim) (fun r_3 u t H1 locs ht hvm hw hB hz1 hk1 hS => ?_)
      replace hP := ro_kept hP hk1
      obtain rfl : r_3 = _ := hw
      clear hk1 hz1 hvm ht hB
      generalize H1 = H at hP hS ⊢
      refine lv_if_ne (tgt := 47) hx hb dX2_replacesBetween_41 (by decide) (fun c_4 => ?_) (fun c_4 => ?_)
      · replace c_4 := bI_n0.mp c_4
        refine lv_iload hx hb dX2_replacesBetween_47 (lv_at hl 0 rfl) ?_
        refine lv_iload hx hb dX2_replacesBetween_49 (lv_at hl 1 rfl) ?_
        refine lv_icmp_ne (tgt := 56) hx hb dX2_replacesBetween_51 (by decide) (fun c_5 => ?_) (fun c_5 => ?_)
        · refine lv_aload_n hx hb dX2_replacesBetween_56 rfl (lv_at hl 3 rfl) ?_
          refine va_get (D := D) (ci := 3) (v := .ref (a 2)) (C := RX2) (T := TX2) (N := 2) hx hb hts (by decide +kernel) hown hK.1 hP 0 rfl rfl 1 (by decide) (hts (.fieldLink RX2 19 "ChooseTree" "methods" "LChooseTree$Methods;") (by decide +kernel)) (fun _ h9 => h9) rfl dX2_replacesBetween_57 ?_
          refine lv_iload hx hb dX2_replacesBetween_60 (lv_at hl 0 rfl) ?_
          refine lv_aload_n hx hb dX2_replacesBetween_62 rfl (lv_at hl 3 rfl) ?_
          refine va_get (D := D) (ci := 3) (v := .ref (a 2)) (C := RX2) (T := TX2) (N := 2) hx hb hts (by decide +kernel) hown hK.1 hP 0 rfl rfl 1 (by decide) (hts (.fieldLink RX2 19 "ChooseTree" "methods" "LChooseTree$Methods;") (by decide +kernel)) (fun _ h9 => h9) rfl dX2_replacesBetween_63 ?_
          refine va_get (D := D) (ci := 2) (v := .ref (a 11)) (C := RX1) (T := TX1) (N := 7) hx hb hts (by decide +kernel) hown hK.1 hP 2 rfl rfl 2 (by decide) (hts (.fieldLink RX2 131 "ChooseTree$Methods" "name" "[I") (by decide +kernel)) (fun _ h9 => h9) rfl dX2_replacesBetween_66 ?_
          refine lv_iload_n hx hb dX2_replacesBetween_69 rfl (lv_at hl 4 rfl) ?_
          refine na_iald (D := D) hx hb hK.1 hP 11 8 rfl rfl (i := zn1) (by omega) (by decide) dX2_replacesBetween_70 ?_
          refine va_calli (va_runV (As := [.int (nI n), .int ((cs_nm σ) zn1)]) (rest := []) ⟨hx, hb, hml, hown, hts⟩ (c_X1_inClass l D a k σ hok n hn6 (cs_nm σ zn1)) (cwV 2 hts gX2_replacesBetween_X1_inClass rfl rfl rfl (by decide +kernel) ⟨Nat.le_of_ble_eq_true rfl, Nat.le_of_ble_eq_true rfl⟩) (cP_V hK hP 2 2 rfl rfl) rfl rfl hl.1 rfl (lv_room (Nat.le_of_ble_eq_true rfl)) dX2_replacesBetween_71 ⟨Nat.le_of_ble_eq_true rfl, Nat.le_of_ble_eq_true rfl⟩) hS (fun _ _ h => h.elim) (fun _ h => h.elim) (fun r_6 u t H1 locs ht hvm hw hB hz1 hk1 hS => ?_)
          replace hP := ro_kept hP hk1
          obtain rfl : r_6 = _ := hw
          clear hk1 hz1 hvm ht hB
          generalize H1 = H at hP hS ⊢
          refine lv_istore (lv' := [(6, .int (m_inClass σ n ((cs_nm σ) zn1))), (5, .int (nI n)), (4, .int (nI ((cs_ow σ) zn2))), (3, .int (nI ((cs_ow σ) zn1))), (0, .ref (a 0)), (1, .int (nI zn1)), (2, .int (nI zn2))]) hx hb dX2_replacesBetween_74 hl (by decide) rfl (fun ls hl => ?_)
          refine lv_iload hx hb dX2_replacesBetween_76 (lv_at hl 0 rfl) ?_
          refine lv_iconst (v := (-1)) hx hb dX2_replacesBetween_78 (by decide) ?_
          refine lv_icmp_eq (tgt := 131) hx hb dX2_replacesBetween_79 (by decide) (fun c_7 => ?_) (fun c_7 => ?_)
          · refine lv_iinc (v := ((nI n) - nI 1)) (lv' := [(5, .int ((nI n) - nI 1)), (6, .int (m_inClass σ n ((cs_nm σ) zn1))), (4, .int (nI ((cs_ow σ) zn2))), (3, .int (nI ((cs_ow σ) zn1))), (0, .ref (a 0)), (1, .int (nI zn1)), (2, .int (nI zn2))]) hx hb dX2_replacesBetween_131 hl (k := 1) rfl (kdec _) (by decide) rfl (fun ls hl => ?_)
            refine lv_goto (tgt := 26) hx hb dX2_replacesBetween_134 (by decide) ?_
            exact ih H locs ls hP hS (by omega) (by rw [← hres]; simp [r_between, c_2, c_4, c_5, c_7]) (lv_sub hl [0, 2, 3, 4, 5, 6] rfl)
          · obtain ⟨j, hj, ej⟩ := (m_inClass_of hok hn6 ((cs_nm σ) zn1)).resolve_left c_7
            rw [ej] at hl
            have ec : (m_inClass σ n ((cs_nm σ) zn1)).toNatClampNeg = j := by rw [ej]; exact nI_clamp (by omega)
            refine lv_aload_n hx hb dX2_replacesBetween_82 rfl (lv_at hl 4 rfl) ?_
            refine va_get (D := D) (ci := 3) (v := .ref (a 1)) (C := RX2) (T := TX2) (N := 2) hx hb hts (by decide +kernel) hown hK.1 hP 0 rfl rfl 0 (by decide) (hts (.fieldLink RX2 10 "ChooseTree" "classes" "LChooseTree$Classes;") (by decide +kernel)) (fun _ h9 => h9) rfl dX2_replacesBetween_83 ?_
            refine va_get (D := D) (ci := 1) (v := .ref (a 4)) (C := RX0) (T := TX0) (N := 10) hx hb hts (by decide +kernel) hown hK.1 hP 1 rfl rfl 2 (by decide) (hts (.fieldLink RX2 155 "ChooseTree$Classes" "pack" "[I") (by decide +kernel)) (fun _ h9 => h9) rfl dX2_replacesBetween_86 ?_
            refine lv_iload hx hb dX2_replacesBetween_89 (lv_at hl 1 rfl) ?_
            refine na_iald (D := D) hx hb hK.1 hP 4 1 rfl rfl (i := n) (by omega) (by decide) dX2_replacesBetween_91 ?_
            refine lv_aload_n hx hb dX2_replacesBetween_92 rfl (lv_at hl 4 rfl) ?_
            refine va_get (D := D) (ci := 3) (v := .ref (a 1)) (C := RX2) (T := TX2) (N := 2) hx hb hts (by decide +kernel) hown hK.1 hP 0 rfl rfl 0 (by decide) (hts (.fieldLink RX2 10 "ChooseTree" "classes" "LChooseTree$Classes;") (by decide +kernel)) (fun _ h9 => h9) rfl dX2_replacesBetween_93 ?_
            refine va_get (D := D) (ci := 1) (v := .ref (a 4)) (C := RX0) (T := TX0) (N := 10) hx hb hts (by decide +kernel) hown hK.1 hP 1 rfl rfl 2 (by decide) (hts (.fieldLink RX2 155 "ChooseTree$Classes" "pack" "[I") (by decide +kernel)) (fun _ h9 => h9) rfl dX2_replacesBetween_96 ?_
            refine lv_iload hx hb dX2_replacesBetween_99 (lv_at hl 2 rfl) ?_
            refine na_iald (D := D) hx hb hK.1 hP 4 1 rfl rfl (i := ((cs_ow σ) zn2)) (by omega) (by decide) dX2_replacesBetween_101 ?_
            refine lv_icmp_ne (tgt := 131) hx hb dX2_replacesBetween_102 (by decide) (fun c_8 => ?_) (fun c_8 => ?_)
            · refine lv_iinc (v := ((nI n) - nI 1)) (lv' := [(5, .int ((nI n) - nI 1)), (6, .int (nI j)), (4, .int (nI ((cs_ow σ) zn2))), (3, .int (nI ((cs_ow σ) zn1))), (0, .ref (a 0)), (1, .int (nI zn1)), (2, .int (nI zn2))]) hx hb dX2_replacesBetween_131 hl (k := 1) rfl (kdec _) (by decide) rfl (fun ls hl => ?_)
              refine lv_goto (tgt := 26) hx hb dX2_replacesBetween_134 (by decide) ?_
              exact ih H locs ls hP hS (by omega) (by rw [← hres]; simp [r_between, c_2, c_4, c_5, c_7, ec, c_8]) (lv_sub hl [0, 2, 3, 4, 5, 6] rfl)
            · refine lv_aload_n hx hb dX2_replacesBetween_105 rfl (lv_at hl 4 rfl) ?_
              refine va_get (D := D) (ci := 3) (v := .ref (a 2)) (C := RX2) (T := TX2) (N := 2) hx hb hts (by decide +kernel) hown hK.1 hP 0 rfl rfl 1 (by decide) (hts (.fieldLink RX2 19 "ChooseTree" "methods" "LChooseTree$Methods;") (by decide +kernel)) (fun _ h9 => h9) rfl dX2_replacesBetween_106 ?_
              refine lv_iload hx hb dX2_replacesBetween_109 (lv_at hl 0 rfl) ?_
              refine va_calli (va_runV (As := [.int (nI j)]) (rest := []) ⟨hx, hb, hml, hown, hts⟩ (c_X1_isVirtual l D a k σ j (by omega)) (cwV 1 hts gX2_replacesBetween_X1_isVirtual rfl rfl rfl (by decide +kernel) ⟨Nat.le_of_ble_eq_true rfl, Nat.le_of_ble_eq_true rfl⟩) (cP_V hK hP 2 2 rfl rfl) rfl rfl hl.1 rfl (lv_room (Nat.le_of_ble_eq_true rfl)) dX2_replacesBetween_111 ⟨Nat.le_of_ble_eq_true rfl, Nat.le_of_ble_eq_true rfl⟩) hS (fun _ _ h => h.elim) (fun _ h => h.elim) (fun r_9 u t H1 locs ht hvm hw hB hz1 hk1 hS => ?_)
              replace hP := ro_kept hP hk1
              obtain rfl : r_9 = _ := hw
              clear hk1 hz1 hvm ht hB
              generalize H1 = H at hP hS ⊢
              refine lv_if_eq (tgt := 131) hx hb dX2_replacesBetween_114 (by decide) (fun c_10 => ?_) (fun c_10 => ?_)
              · replace c_10 := bI_0.mp c_10
                refine lv_iinc (v := ((nI n) - nI 1)) (lv' := [(5, .int ((nI n) - nI 1)), (6, .int (nI j)), (4, .int (nI ((cs_ow σ) zn2))), (3, .int (nI ((cs_ow σ) zn1))), (0, .ref (a 0)), (1, .int (nI zn1)), (2, .int (nI zn2))]) hx hb dX2_replacesBetween_131 hl (k := 1) rfl (kdec _) (by decide) rfl (fun ls hl => ?_)
                refine lv_goto (tgt := 26) hx hb dX2_replacesBetween_134 (by decide) ?_
                exact ih H locs ls hP hS (by omega) (by rw [← hres]; simp [r_between, c_2, c_4, c_5, c_7, ec, c_8, c_10]) (lv_sub hl [0, 2, 3, 4, 5, 6] rfl)
              · replace c_10 := bI_n0.mp c_10
                refine lv_aload_n hx hb dX2_replacesBetween_117 rfl (lv_at hl 4 rfl) ?_
                refine va_get (D := D) (ci := 3) (v := .ref (a 2)) (C := RX2) (T := TX2) (N := 2) hx hb hts (by decide +kernel) hown hK.1 hP 0 rfl rfl 1 (by decide) (hts (.fieldLink RX2 19 "ChooseTree" "methods" "LChooseTree$Methods;") (by decide +kernel)) (fun _ h9 => h9) rfl dX2_replacesBetween_118 ?_
                refine lv_iload hx hb dX2_replacesBetween_121 (lv_at hl 0 rfl) ?_
                refine va_calli (va_runV (As := [.int (nI j)]) (rest := []) ⟨hx, hb, hml, hown, hts⟩ (c_X1_isPublicOrProtected l D a k σ j (by omega)) (cwV 1 hts gX2_replacesBetween_X1_isPublicOrProtected rfl rfl rfl (by decide +kernel) ⟨Nat.le_of_ble_eq_true rfl, Nat.le_of_ble_eq_true rfl⟩) (cP_V hK hP 2 2 rfl rfl) rfl rfl hl.1 rfl (lv_room (Nat.le_of_ble_eq_true rfl)) dX2_replacesBetween_123 ⟨Nat.le_of_ble_eq_true rfl, Nat.le_of_ble_eq_true rfl⟩) hS (fun _ _ h => h.elim) (fun _ h => h.elim) (fun r_11 u t H1 locs ht hvm hw hB hz1 hk1 hS => ?_)
                replace hP := ro_kept hP hk1
                obtain rfl : r_11 = _ := hw
                clear hk1 hz1 hvm ht hB
                generalize H1 = H at hP hS ⊢
                refine lv_if_eq (tgt := 131) hx hb dX2_replacesBetween_126 (by decide) (fun c_12 => ?_) (fun c_12 => ?_)
                · replace c_12 := bI_0.mp c_12
                  refine lv_iinc (v := ((nI n) - nI 1)) (lv' := [(5, .int ((nI n) - nI 1)), (6, .int (nI j)), (4, .int (nI ((cs_ow σ) zn2))), (3, .int (nI ((cs_ow σ) zn1))), (0, .ref (a 0)), (1, .int (nI zn1)), (2, .int (nI zn2))]) hx hb dX2_replacesBetween_131 hl (k := 1) rfl (kdec _) (by decide) rfl (fun ls hl => ?_)
                  refine lv_goto (tgt := 26) hx hb dX2_replacesBetween_134 (by decide) ?_
                  exact ih H locs ls hP hS (by omega) (by rw [← hres]; simp [r_between, c_2, c_4, c_5, c_7, ec, c_8, c_10, c_12]) (lv_sub hl [0, 2, 3, 4, 5, 6] rfl)
                · replace c_12 := bI_n0.mp c_12
                  refine lv_iconst (v := (nI 1)) hx hb dX2_replacesBetween_129 (by decide) ?_
                  exact W.zret (v := (nI 1)) hx hb hr rfl (fun t ht hW => ⟨⟨(nI 1), (), rfl, (by rw [← hres]; simp [r_between, bI, c_2, c_4, c_5, c_7, ec, c_8, c_10, c_12]), trivial⟩, hS.F ht⟩) hS.2.2 dX2_replacesBetween_130
        · refine lv_iconst (v := (nI 0)) hx hb dX2_replacesBetween_54 (by decide) ?_
          exact W.zret (v := (nI 0)) hx hb hr rfl (fun t ht hW => ⟨⟨(nI 0), (), rfl, (by rw [← hres]; simp [r_between, bI, c_2, c_4, c_5]), trivial⟩, hS.F ht⟩) hS.2.2 dX2_replacesBetween_55
      · replace c_4 := bI_0.mp c_4
        refine lv_goto (tgt := 131) hx hb dX2_replacesBetween_44 (by decide) ?_
        refine lv_iinc (v := ((nI n) - nI 1)) (lv' := [(5, .int ((nI n) - nI 1)), (4, .int (nI ((cs_ow σ) zn2))), (3, .int (nI ((cs_ow σ) zn1))), (0, .ref (a 0)), (1, .int (nI zn1)), (2, .int (nI zn2))]) hx hb dX2_replacesBetween_131 hl (k := 0) rfl (kdec _) (by decide) rfl (fun ls hl => ?_)
        refine lv_goto (tgt := 26) hx hb dX2_replacesBetween_134 (by decide) ?_
        exact ih H locs ls hP hS (by omega) (by rw [← hres]; simp [r_between, c_2, c_4]) (lv_sub hl [0, 1, 2, 3, 4, 5] rfl)
set_option maxHeartbeats 4000000 in
set_option maxRecDepth 100000 in
theorem c_X2_replaces (l : Launch) (D : va_G) (a : Nat → Nat) (k : Nat → ClassId) (σ : CS) (hok : cok σ) (zn1 zn2 : Nat) (hn1 : zn1 < 400) (hn2 : zn2 < 400) : Met l yX2_replaces wsX2_replaces (rmC 4 92) (cP D a k σ [.ref (a 0), .int (nI zn1), .int (nI zn2)]) (roQ (bI (r_repl σ zn1 zn2))) 0 0 (fun _ => False) := by
  refine Met.ofW (cc := cX2_replaces) (maxL := 3) (ret := (some .boolean)) (by decide) rfl ?_
  intro p e s m args below meth c s₁ B hml hv
  obtain ⟨rfl, hP, hK⟩ := hv
  have hx := B.exec
  have hb := B.bytes
  have hr := B.returns
  have hts := atoms_spec (ws := wsX2_replaces) B.pre
  have hown : s.vm.findClass RX2 = some m.cls := findClass_of_methodNamed B.named
  have hlocks := B.notSynchronized
  clear B
  have hl := lv_entry ([.ref (a 0), .int (nI zn1), .int (nI zn2)]) (n := 3) (Nat.le_of_ble_eq_true rfl)
  rw [lg_entry_eq]
  generalize (lg_sl ([.ref (a 0), .int (nI zn1), .int (nI zn2)]) ++ List.replicate (3 - (lg_sl ([.ref (a 0), .int (nI zn1), .int (nI zn2)])).length) Slot.unset).toArray = ls at hl ⊢
  replace hl : lv_has ls 3 [(0, .ref (a 0)), (1, .int (nI zn1)), (2, .int (nI zn2))] := hl
  refine gen_start (A := (fun _ => False)) (fun H locs hP hS => ?_) hP
  obtain ⟨hb0, ⟨hb1, hb2, hb3, hb4, hb5, hb6⟩, hb7, hb8⟩ := id hok
  have hw1 := hb3 zn1 hn1
  have hw2 := hb3 zn2 hn2
  refine lv_aload_n hx hb dX2_replaces_0 rfl (lv_at hl 0 rfl) ?_
  refine lv_iload_n hx hb dX2_replaces_1 rfl (lv_at hl 1 rfl) ?_
  refine lv_iload_n hx hb dX2_replaces_2 rfl (lv_at hl 2 rfl) ?_
  refine va_calli (va_runV (As := [.int (nI zn1), .int (nI zn2)]) (rest := []) ⟨hx, hb, hml, hown, hts⟩ (c_X2_couldReplace l D a k σ hok zn1 zn2 hn1 hn2) (cwV 2 hts gX2_replaces_X2_couldReplace rfl rfl rfl (by decide +kernel) ⟨Nat.le_of_ble_eq_true rfl, Nat.le_of_ble_eq_true rfl⟩) (cP_V hK hP 3 0 rfl rfl) rfl rfl hl.1 rfl (lv_room (Nat.le_of_ble_eq_true rfl)) dX2_replaces_3 ⟨Nat.le_of_ble_eq_true rfl, Nat.le_of_ble_eq_true rfl⟩) hS (fun _ _ h => h.elim) (fun _ h => h.elim) (fun r_1 u t H1 locs ht hvm hw hB hz1 hk1 hS => ?_)
  replace hP := ro_kept hP hk1
  obtain rfl : r_1 = _ := hw
  clear hk1 hz1 hvm ht hB
  generalize H1 = H at hP hS ⊢
  refine lv_if_ne (tgt := 11) hx hb dX2_replaces_6 (by decide) (fun c_2 => ?_) (fun c_2 => ?_)
  · replace c_2 := bI_n0.mp c_2
    refine lv_aload_n hx hb dX2_replaces_11 rfl (lv_at hl 0 rfl) ?_
    refine va_get (D := D) (ci := 3) (v := .ref (a 2)) (C := RX2) (T := TX2) (N := 2) hx hb hts (by decide +kernel) hown hK.1 hP 0 rfl rfl 1 (by decide) (hts (.fieldLink RX2 19 "ChooseTree" "methods" "LChooseTree$Methods;") (by decide +kernel)) (fun _ h9 => h9) rfl dX2_replaces_12 ?_
    refine lv_iload_n hx hb dX2_replaces_15 rfl (lv_at hl 2 rfl) ?_
    refine va_calli (va_runV (As := [.int (nI zn2)]) (rest := []) ⟨hx, hb, hml, hown, hts⟩ (c_X1_isPublicOrProtected l D a k σ zn2 hn2) (cwV 1 hts gX2_replaces_X1_isPublicOrProtected rfl rfl rfl (by decide +kernel) ⟨Nat.le_of_ble_eq_true rfl, Nat.le_of_ble_eq_true rfl⟩) (cP_V hK hP 2 2 rfl rfl) rfl rfl hl.1 rfl (lv_room (Nat.le_of_ble_eq_true rfl)) dX2_replaces_16 ⟨Nat.le_of_ble_eq_true rfl, Nat.le_of_ble_eq_true rfl⟩) hS (fun _ _ h => h.elim) (fun _ h => h.elim) (fun r_3 u t H1 locs ht hvm hw hB hz1 hk1 hS => ?_)
    replace hP := ro_kept hP hk1
    obtain rfl : r_3 = _ := hw
    clear hk1 hz1 hvm ht hB
    generalize H1 = H at hP hS ⊢
    refine lv_if_ne (tgt := 68) hx hb dX2_replaces_19 (by decide) (fun c_4 => ?_) (fun c_4 => ?_)
    · replace c_4 := bI_n0.mp c_4
      refine lv_iconst (v := (nI 1)) hx hb dX2_replaces_68 (by decide) ?_
      refine lv_goto (tgt := 73) hx hb dX2_replaces_69 (by decide) ?_
      exact W.zret (v := (nI 1)) hx hb hr rfl (fun t ht hW => ⟨⟨(nI 1), (), rfl, (by simp [r_repl, bI, c_2, c_4]), trivial⟩, hS.F ht⟩) hS.2.2 dX2_replaces_73
    · replace c_4 := bI_0.mp c_4
      refine lv_aload_n hx hb dX2_replaces_22 rfl (lv_at hl 0 rfl) ?_
      refine va_get (D := D) (ci := 3) (v := .ref (a 1)) (C := RX2) (T := TX2) (N := 2) hx hb hts (by decide +kernel) hown hK.1 hP 0 rfl rfl 0 (by decide) (hts (.fieldLink RX2 10 "ChooseTree" "classes" "LChooseTree$Classes;") (by decide +kernel)) (fun _ h9 => h9) rfl dX2_replaces_23 ?_
      refine va_get (D := D) (ci := 1) (v := .ref (a 4)) (C := RX0) (T := TX0) (N := 10) hx hb hts (by decide +kernel) hown hK.1 hP 1 rfl rfl 2 (by decide) (hts (.fieldLink RX2 155 "ChooseTree$Classes" "pack" "[I") (by decide +kernel)) (fun _ h9 => h9) rfl dX2_replaces_26 ?_
      refine lv_aload_n hx hb dX2_replaces_29 rfl (lv_at hl 0 rfl) ?_
      refine va_get (D := D) (ci := 3) (v := .ref (a 2)) (C := RX2) (T := TX2) (N := 2) hx hb hts (by decide +kernel) hown hK.1 hP 0 rfl rfl 1 (by decide) (hts (.fieldLink RX2 19 "ChooseTree" "methods" "LChooseTree$Methods;") (by decide +kernel)) (fun _ h9 => h9) rfl dX2_replaces_30 ?_
      refine va_get (D := D) (ci := 2) (v := .ref (a 10)) (C := RX1) (T := TX1) (N := 7) hx hb hts (by decide +kernel) hown hK.1 hP 2 rfl rfl 1 (by decide) (hts (.fieldLink RX2 115 "ChooseTree$Methods" "owner" "[I") (by decide +kernel)) (fun _ h9 => h9) rfl dX2_replaces_33 ?_
      refine lv_iload_n hx hb dX2_replaces_36 rfl (lv_at hl 1 rfl) ?_
      refine na_iald (D := D) hx hb hK.1 hP 10 7 rfl rfl (i := zn1) (by omega) (by decide) dX2_replaces_37 ?_
      refine na_iald (D := D) hx hb hK.1 hP 4 1 rfl rfl (i := ((cs_ow σ) zn1)) (by omega) (by decide) dX2_replaces_38 ?_
      refine lv_aload_n hx hb dX2_replaces_39 rfl (lv_at hl 0 rfl) ?_
      refine va_get (D := D) (ci := 3) (v := .ref (a 1)) (C := RX2) (T := TX2) (N := 2) hx hb hts (by decide +kernel) hown hK.1 hP 0 rfl rfl 0 (by decide) (hts (.fieldLink RX2 10 "ChooseTree" "classes" "LChooseTree$Classes;") (by decide +kernel)) (fun _ h9 => h9) rfl dX2_replaces_40 ?_
      refine va_get (D := D) (ci := 1) (v := .ref (a 4)) (C := RX0) (T := TX0) (N := 10) hx hb hts (by decide +kernel) hown hK.1 hP 1 rfl rfl 2 (by decide) (hts (.fieldLink RX2 155 "ChooseTree$Classes" "pack" "[I") (by decide +kernel)) (fun _ h9 => h9) rfl dX2_replaces_43 ?_
      refine lv_aload_n hx hb dX2_replaces_46 rfl (lv_at hl 0 rfl) ?_
      refine va_get (D := D) (ci := 3) (v := .ref (a 2)) (C := RX2) (T := TX2) (N := 2) hx hb hts (by decide +kernel) hown hK.1 hP 0 rfl rfl 1 (by decide) (hts (.fieldLink RX2 19 "ChooseTree" "methods" "LChooseTree$Methods;") (by decide +kernel)) (fun _ h9 => h9) rfl dX2_replaces_47 ?_
      refine va_get (D := D) (ci := 2) (v := .ref (a 10)) (C := RX1) (T := TX1) (N := 7) hx hb hts (by decide +kernel) hown hK.1 hP 2 rfl rfl 1 (by decide) (hts (.fieldLink RX2 115 "ChooseTree$Methods" "owner" "[I") (by decide +kernel)) (fun _ h9 => h9) rfl dX2_replaces_50 ?_
      refine lv_iload_n hx hb dX2_replaces_53 rfl (lv_at hl 2 rfl) ?_
      refine na_iald (D := D) hx hb hK.1 hP 10 7 rfl rfl (i := zn2) (by omega) (by decide) dX2_replaces_54 ?_
      refine na_iald (D := D) hx hb hK.1 hP 4 1 rfl rfl (i := ((cs_ow σ) zn2)) (by omega) (by decide) dX2_replaces_55 ?_
      refine lv_icmp_eq (tgt := 68) hx hb dX2_replaces_56 (by decide) (fun c_5 => ?_) (fun c_5 => ?_)
      · refine lv_iconst (v := (nI 1)) hx hb dX2_replaces_68 (by decide) ?_
        refine lv_goto (tgt := 73) hx hb dX2_replaces_69 (by decide) ?_
        exact W.zret (v := (nI 1)) hx hb hr rfl (fun t ht hW => ⟨⟨(nI 1), (), rfl, (by simp [r_repl, bI, c_2, c_4, c_5]), trivial⟩, hS.F ht⟩) hS.2.2 dX2_replaces_73
      · refine lv_aload_n hx hb dX2_replaces_59 rfl (lv_at hl 0 rfl) ?_
        refine lv_iload_n hx hb dX2_replaces_60 rfl (lv_at hl 1 rfl) ?_
        refine lv_iload_n hx hb dX2_replaces_61 rfl (lv_at hl 2 rfl) ?_
        refine va_calli (va_runV (As := [.int (nI zn1), .int (nI zn2)]) (rest := []) ⟨hx, hb, hml, hown, hts⟩ (c_X2_replacesBetween l D a k σ hok zn1 zn2 hn1 hn2) (cwV 2 hts gX2_replaces_X2_replacesBetween rfl rfl rfl (by decide +kernel) ⟨Nat.le_of_ble_eq_true rfl, Nat.le_of_ble_eq_true rfl⟩) (cP_V hK hP 3 0 rfl rfl) rfl rfl hl.1 rfl (lv_room (Nat.le_of_ble_eq_true rfl)) dX2_replaces_62 ⟨Nat.le_of_ble_eq_true rfl, Nat.le_of_ble_eq_true rfl⟩) hS (fun _ _ h => h.elim) (fun _ h => h.elim) (fun r_6 u t H1 locs ht hvm hw hB hz1 hk1 hS => ?_)
        replace hP := ro_kept hP hk1
        obtain rfl : r_6 = _ := hw
        clear hk1 hz1 hvm ht hB
        generalize H1 = H at hP hS ⊢
        refine lv_if_eq (tgt := 72) hx hb dX2_replaces_65 (by decide) (fun c_7 => ?_) (fun c_7 => ?_)
        · replace c_7 := bI_0.mp c_7
          refine lv_iconst (v := (nI 0)) hx hb dX2_replaces_72 (by decide) ?_
          exact W.zret (v := (nI 0)) hx hb hr rfl (fun t ht hW => ⟨⟨(nI 0), (), rfl, (by simp [r_repl, bI, c_2, c_4, c_5, c_7]), trivial⟩, hS.F ht⟩) hS.2.2 dX2_replaces_73
        · replace c_7 := bI_n0.mp c_7
          refine lv_iconst (v := (nI 1)) hx hb dX2_replaces_68 (by decide) ?_
          refine lv_goto (tgt := 73) hx hb dX2_replaces_69 (by decide) ?_
          exact W.zret (v := (nI 1)) hx hb hr rfl (fun t ht hW => ⟨⟨(nI 1), (), rfl, (by simp [r_repl, bI, c_2, c_4, c_5, c_7]), trivial⟩, hS.F ht⟩) hS.2.2 dX2_replaces_73
  · replace c_2 := bI_0.mp c_2
    refine lv_iconst (v := (nI 0)) hx hb dX2_replaces_9 (by decide) ?_
    exact W.zret (v := (nI 0)) hx hb hr rfl (fun t ht hW => ⟨⟨(nI 0), (), rfl, (by simp [r_repl, bI, c_2]), trivial⟩, hS.F ht⟩) hS.2.2 dX2_replaces_10
set_option maxHeartbeats 4000000 in
set_option maxRecDepth 100000 in
theorem c_X2_overrides (l : Launch) (D : va_G) (a : Nat → Nat) (k : Nat → ClassId) (σ : CS) (hok : cok σ) (zx1 zx2 : Int32) : Met l yX2_overrides wsX2_overrides (rmC 5 114) (cP D a k σ [.ref (a 0), .int zx1, .int zx2]) (roQ (bI (s_overrides σ zx1 zx2))) 0 0 (fun _ => False) := by
  refine Met.ofW (cc := cX2_overrides) (maxL := 3) (ret := (some .boolean)) (by decide) rfl ?_
  intro p e s m args below meth c s₁ B hml hv
  obtain ⟨rfl, hP, hK⟩ := hv
  have hx := B.exec
  have hb := B.bytes
  have hr := B.returns
  have hts := atoms_spec (ws := wsX2_overrides) B.pre
  have hown : s.vm.findClass RX2 = some m.cls := findClass_of_methodNamed B.named
  have hlocks := B.notSynchronized
  clear B
  have hl := lv_entry ([.ref (a 0), .int zx1, .int zx2]) (n := 3) (Nat.le_of_ble_eq_true rfl)
  rw [lg_entry_eq]
  generalize (lg_sl ([.ref (a 0), .int zx1, .int zx2]) ++ List.replicate (3 - (lg_sl ([.ref (a 0), .int zx1, .int zx2])).length) Slot.unset).toArray = ls at hl ⊢
  replace hl : lv_has ls 3 [(0, .ref (a 0)), (1, .int zx1), (2, .int zx2)] := hl
  refine gen_start (A := (fun _ => False)) (fun H locs hP hS => ?_) hP
  obtain ⟨hb0, ⟨hb1, hb2, hb3, hb4, hb5, hb6⟩, hb7, hb8⟩ := id hok
  refine lv_aload_n hx hb dX2_overrides_0 rfl (lv_at hl 0 rfl) ?_
  refine va_get (D := D) (ci := 3) (v := .ref (a 2)) (C := RX2) (T := TX2) (N := 2) hx hb hts (by decide +kernel) hown hK.1 hP 0 rfl rfl 1 (by decide) (hts (.fieldLink RX2 19 "ChooseTree" "methods" "LChooseTree$Methods;") (by decide +kernel)) (fun _ h9 => h9) rfl dX2_overrides_1 ?_
  refine lv_iload_n hx hb dX2_overrides_4 rfl (lv_at hl 1 rfl) ?_
  refine va_calli (va_runV (As := [.int zx1]) (rest := []) ⟨hx, hb, hml, hown, hts⟩ (c_X1_exists l D a k σ zx1) (cwV 1 hts gX2_overrides_X1_exists rfl rfl rfl (by decide +kernel) ⟨Nat.le_of_ble_eq_true rfl, Nat.le_of_ble_eq_true rfl⟩) (cP_V hK hP 2 2 rfl rfl) rfl rfl hl.1 rfl (lv_room (Nat.le_of_ble_eq_true rfl)) dX2_overrides_5 ⟨Nat.le_of_ble_eq_true rfl, Nat.le_of_ble_eq_true rfl⟩) hS (fun _ _ h => h.elim) (fun _ h => h.elim) (fun r_1 u t H1 locs ht hvm hw hB hz1 hk1 hS => ?_)
  replace hP := ro_kept hP hk1
  obtain rfl : r_1 = _ := hw
  clear hk1 hz1 hvm ht hB
  generalize H1 = H at hP hS ⊢
  refine lv_if_eq (tgt := 35) hx hb dX2_overrides_8 (by decide) (fun c_2 => ?_) (fun c_2 => ?_)
  · replace c_2 := bI_0.mp c_2
    refine lv_iconst (v := (nI 0)) hx hb dX2_overrides_35 (by decide) ?_
    exact W.zret (v := (nI 0)) hx hb hr rfl (fun t ht hW => ⟨⟨(nI 0), (), rfl, (by simp [s_overrides, bI, c_2]), trivial⟩, hS.F ht⟩) hS.2.2 dX2_overrides_36
  · replace c_2 := bI_n0.mp c_2
    obtain ⟨zj1, hzj1, ezj1⟩ := m_exists_of hok c_2
    subst ezj1
    have hclzj1 := nI_clamp (n := zj1) (by omega)
    refine lv_aload_n hx hb dX2_overrides_11 rfl (lv_at hl 0 rfl) ?_
    refine va_get (D := D) (ci := 3) (v := .ref (a 2)) (C := RX2) (T := TX2) (N := 2) hx hb hts (by decide +kernel) hown hK.1 hP 0 rfl rfl 1 (by decide) (hts (.fieldLink RX2 19 "ChooseTree" "methods" "LChooseTree$Methods;") (by decide +kernel)) (fun _ h9 => h9) rfl dX2_overrides_12 ?_
    refine lv_iload_n hx hb dX2_overrides_15 rfl (lv_at hl 2 rfl) ?_
    refine va_calli (va_runV (As := [.int zx2]) (rest := []) ⟨hx, hb, hml, hown, hts⟩ (c_X1_exists l D a k σ zx2) (cwV 1 hts gX2_overrides_X1_exists rfl rfl rfl (by decide +kernel) ⟨Nat.le_of_ble_eq_true rfl, Nat.le_of_ble_eq_true rfl⟩) (cP_V hK hP 2 2 rfl rfl) rfl rfl hl.1 rfl (lv_room (Nat.le_of_ble_eq_true rfl)) dX2_overrides_16 ⟨Nat.le_of_ble_eq_true rfl, Nat.le_of_ble_eq_true rfl⟩) hS (fun _ _ h => h.elim) (fun _ h => h.elim) (fun r_3 u t H1 locs ht hvm hw hB hz1 hk1 hS => ?_)
    replace hP := ro_kept hP hk1
    obtain rfl : r_3 = _ := hw
    clear hk1 hz1 hvm ht hB
    generalize H1 = H at hP hS ⊢
    refine lv_if_eq (tgt := 35) hx hb dX2_overrides_19 (by decide) (fun c_4 => ?_) (fun c_4 => ?_)
    · replace c_4 := bI_0.mp c_4
      refine lv_iconst (v := (nI 0)) hx hb dX2_overrides_35 (by decide) ?_
      exact W.zret (v := (nI 0)) hx hb hr rfl (fun t ht hW => ⟨⟨(nI 0), (), rfl, (by simp [s_overrides, bI, c_2, hclzj1, c_4]), trivial⟩, hS.F ht⟩) hS.2.2 dX2_overrides_36
    · replace c_4 := bI_n0.mp c_4
      obtain ⟨zj2, hzj2, ezj2⟩ := m_exists_of hok c_4
      subst ezj2
      have hclzj2 := nI_clamp (n := zj2) (by omega)
      refine lv_aload_n hx hb dX2_overrides_22 rfl (lv_at hl 0 rfl) ?_
      refine lv_iload_n hx hb dX2_overrides_23 rfl (lv_at hl 1 rfl) ?_
      refine lv_iload_n hx hb dX2_overrides_24 rfl (lv_at hl 2 rfl) ?_
      refine va_calli (va_runV (As := [.int (nI zj1), .int (nI zj2)]) (rest := []) ⟨hx, hb, hml, hown, hts⟩ (c_X2_replaces l D a k σ hok zj1 zj2 (by omega) (by omega)) (cwV 2 hts gX2_overrides_X2_replaces rfl rfl rfl (by decide +kernel) ⟨Nat.le_of_ble_eq_true rfl, Nat.le_of_ble_eq_true rfl⟩) (cP_V hK hP 3 0 rfl rfl) rfl rfl hl.1 rfl (lv_room (Nat.le_of_ble_eq_true rfl)) dX2_overrides_25 ⟨Nat.le_of_ble_eq_true rfl, Nat.le_of_ble_eq_true rfl⟩) hS (fun _ _ h => h.elim) (fun _ h => h.elim) (fun r_5 u t H1 locs ht hvm hw hB hz1 hk1 hS => ?_)
      replace hP := ro_kept hP hk1
      obtain rfl : r_5 = _ := hw
      clear hk1 hz1 hvm ht hB
      generalize H1 = H at hP hS ⊢
      refine lv_if_eq (tgt := 35) hx hb dX2_overrides_28 (by decide) (fun c_6 => ?_) (fun c_6 => ?_)
      · replace c_6 := bI_0.mp c_6
        refine lv_iconst (v := (nI 0)) hx hb dX2_overrides_35 (by decide) ?_
        exact W.zret (v := (nI 0)) hx hb hr rfl (fun t ht hW => ⟨⟨(nI 0), (), rfl, (by simp [s_overrides, bI, c_2, hclzj1, c_4, hclzj2, c_6]), trivial⟩, hS.F ht⟩) hS.2.2 dX2_overrides_36
      · replace c_6 := bI_n0.mp c_6
        refine lv_iconst (v := (nI 1)) hx hb dX2_overrides_31 (by decide) ?_
        refine lv_goto (tgt := 36) hx hb dX2_overrides_32 (by decide) ?_
        exact W.zret (v := (nI 1)) hx hb hr rfl (fun t ht hW => ⟨⟨(nI 1), (), rfl, (by simp [s_overrides, bI, c_2, hclzj1, c_4, hclzj2, c_6]), trivial⟩, hS.F ht⟩) hS.2.2 dX2_overrides_36
set_option maxHeartbeats 4000000 in
set_option maxRecDepth 100000 in
theorem c_X2_replacesFinal (l : Launch) (D : va_G) (a : Nat → Nat) (k : Nat → ClassId) (σ : CS) (hok : cok σ) (zn1 : Nat) (hn1 : zn1 < 400) : Met l yX2_replacesFinal wsX2_replacesFinal (rmC 5 114) (cP D a k σ [.ref (a 0), .int (nI zn1)]) (roQ (bI (r_final σ zn1))) 0 0 (fun _ => False) := by
  refine Met.ofW (cc := cX2_replacesFinal) (maxL := 5) (ret := (some .boolean)) (by decide) rfl ?_
  intro p e s m args below meth c s₁ B hml hv
  obtain ⟨rfl, hP, hK⟩ := hv
  have hx := B.exec
  have hb := B.bytes
  have hr := B.returns
  have hts := atoms_spec (ws := wsX2_replacesFinal) B.pre
  have hown : s.vm.findClass RX2 = some m.cls := findClass_of_methodNamed B.named
  have hlocks := B.notSynchronized
  clear B
  have hl := lv_entry ([.ref (a 0), .int (nI zn1)]) (n := 5) (Nat.le_of_ble_eq_true rfl)
  rw [lg_entry_eq]
  generalize (lg_sl ([.ref (a 0), .int (nI zn1)]) ++ List.replicate (5 - (lg_sl ([.ref (a 0), .int (nI zn1)])).length) Slot.unset).toArray = ls at hl ⊢
  replace hl : lv_has ls 5 [(0, .ref (a 0)), (1, .int (nI zn1))] := hl
  refine gen_start (A := (fun _ => False)) (fun H locs hP hS => ?_) hP
  obtain ⟨hb0, ⟨hb1, hb2, hb3, hb4, hb5, hb6⟩, hb7, hb8⟩ := id hok
  have hw1 := hb3 zn1 hn1
  refine lv_aload_n hx hb dX2_replacesFinal_0 rfl (lv_at hl 0 rfl) ?_
  refine va_get (D := D) (ci := 3) (v := .ref (a 2)) (C := RX2) (T := TX2) (N := 2) hx hb hts (by decide +kernel) hown hK.1 hP 0 rfl rfl 1 (by decide) (hts (.fieldLink RX2 19 "ChooseTree" "methods" "LChooseTree$Methods;") (by decide +kernel)) (fun _ h9 => h9) rfl dX2_replacesFinal_1 ?_
  refine va_get (D := D) (ci := 2) (v := .ref (a 10)) (C := RX1) (T := TX1) (N := 7) hx hb hts (by decide +kernel) hown hK.1 hP 2 rfl rfl 1 (by decide) (hts (.fieldLink RX2 115 "ChooseTree$Methods" "owner" "[I") (by decide +kernel)) (fun _ h9 => h9) rfl dX2_replacesFinal_4 ?_
  refine lv_iload_n hx hb dX2_replacesFinal_7 rfl (lv_at hl 1 rfl) ?_
  refine na_iald (D := D) hx hb hK.1 hP 10 7 rfl rfl (i := zn1) (by omega) (by decide) dX2_replacesFinal_8 ?_
  refine lv_istore_n (lv' := [(2, .int (nI ((cs_ow σ) zn1))), (0, .ref (a 0)), (1, .int (nI zn1))]) hx hb dX2_replacesFinal_9 rfl hl (by decide) rfl (fun ls hl => ?_)
  refine lv_iload_n hx hb dX2_replacesFinal_10 rfl (lv_at hl 0 rfl) ?_
  refine lv_iconst (v := (nI 1)) hx hb dX2_replacesFinal_11 (by decide) ?_
  refine lv_isub hx hb dX2_replacesFinal_12 ?_
  refine lv_istore_n (lv' := [(3, .int ((nI ((cs_ow σ) zn1)) - (nI 1))), (2, .int (nI ((cs_ow σ) zn1))), (0, .ref (a 0)), (1, .int (nI zn1))]) hx hb dX2_replacesFinal_13 rfl hl (by decide) rfl (fun ls hl => ?_)
  obtain ⟨n, hn⟩ : ∃ n : Nat, n = cs_ow σ zn1 := ⟨_, rfl⟩
  have hE : n ≤ 60 := by omega
  have hres : r_fin σ zn1 n = r_final σ zn1 := by rw [hn]; rfl
  replace hl : lv_has ls 5 [(3, .int (nI n - nI 1)), (2, .int (nI ((cs_ow σ) zn1))), (0, .ref (a 0)), (1, .int (nI zn1))] := by rw [hn]; exact hl
  clear hn
  revert hl
  revert hres
  revert hE
  revert hS
  revert hP
  revert ls
  revert locs
  revert H
  induction n with
  | zero =>
    intro H locs ls hP hS hE hres hl
    refine lv_iload_n hx hb dX2_replacesFinal_14 rfl (lv_at hl 0 rfl) ?_
    refine lv_if_lt (tgt := 85) hx hb dX2_replacesFinal_15 (by decide) (fun c_1 => ?_) (fun c_1 => ?_)
    · refine lv_iconst (v := (nI 0)) hx hb dX2_replacesFinal_85 (by decide) ?_
      exact W.zret (v := (nI 0)) hx hb hr rfl (fun t ht hW => ⟨⟨(nI 0), (), rfl, (by rw [← hres]; rfl), trivial⟩, hS.F ht⟩) hS.2.2 dX2_replacesFinal_86
    · exact absurd (by decide) c_1
  | succ n ih =>
    intro H locs ls hP hS hE hres hl
    rw [kpred] at hl
    have hn6 : n < 60 := by omega
    refine lv_iload_n hx hb dX2_replacesFinal_14 rfl (lv_at hl 0 rfl) ?_
    refine lv_if_lt (tgt := 85) hx hb dX2_replacesFinal_15 (by decide) (fun c_2 => ?_) (fun c_2 => ?_)
    · exact absurd c_2 (nI_pos (by omega))
    · refine lv_aload_n hx hb dX2_replacesFinal_18 rfl (lv_at hl 2 rfl) ?_
      refine va_get (D := D) (ci := 3) (v := .ref (a 1)) (C := RX2) (T := TX2) (N := 2) hx hb hts (by decide +kernel) hown hK.1 hP 0 rfl rfl 0 (by decide) (hts (.fieldLink RX2 10 "ChooseTree" "classes" "LChooseTree$Classes;") (by decide +kernel)) (fun _ h9 => h9) rfl dX2_replacesFinal_19 ?_
      refine lv_iload_n hx hb dX2_replacesFinal_22 rfl (lv_at hl 1 rfl) ?_
      refine lv_iload_n hx hb dX2_replacesFinal_23 rfl (lv_at hl 0 rfl) ?_
      refine va_calli (va_runV (As := [.int (nI ((cs_ow σ) zn1)), .int (nI n)]) (rest := []) ⟨hx, hb, hml, hown, hts⟩ (c_X0_inRow l D a k σ (cs_ow σ zn1) n hw1 hn6) (cwV 2 hts gX2_replacesFinal_X0_inRow rfl rfl rfl (by decide +kernel) ⟨Nat.le_of_ble_eq_true rfl, Nat.le_of_ble_eq_true rfl⟩) (cP_V hK hP 1 1 rfl rfl) rfl rfl hl.1 rfl (lv_room (Nat.le_of_ble_eq_true rfl)) dX2_replacesFinal_24 ⟨Nat.le_of_ble_eq_true rfl, Nat.le_of_ble_eq_true rfl⟩) hS (fun _ _ h => h.elim) (fun _ h => h.elim) (fun r_3 u t H1 locs ht hvm hw hB hz1 hk1 hS => ?_)
      replace hP := ro_kept hP hk1
      obtain rfl : r_3 = _ := hw
      clear hk1 hz1 hvm ht hB
      generalize H1 = H at hP hS ⊢
      refine lv_if_eq (tgt := 79) hx hb dX2_replacesFinal_27 (by decide) (fun c_4 => ?_) (fun c_4 => ?_)
      · replace c_4 := bI_0.mp c_4
        refine lv_iinc (v := ((nI n) - nI 1)) (lv' := [(3, .int ((nI n) - nI 1)), (2, .int (nI ((cs_ow σ) zn1))), (0, .ref (a 0)), (1, .int (nI zn1))]) hx hb dX2_replacesFinal_79 hl (k := 0) rfl (kdec _) (by decide) rfl (fun ls hl => ?_)
        refine lv_goto (tgt := 14) hx hb dX2_replacesFinal_82 (by decide) ?_
        exact ih H locs ls hP hS (by omega) (by rw [← hres]; simp [r_fin, c_2, c_4]) (lv_sub hl [0, 1, 2, 3] rfl)
      · replace c_4 := bI_n0.mp c_4
        refine lv_aload_n hx hb dX2_replacesFinal_30 rfl (lv_at hl 2 rfl) ?_
        refine va_get (D := D) (ci := 3) (v := .ref (a 2)) (C := RX2) (T := TX2) (N := 2) hx hb hts (by decide +kernel) hown hK.1 hP 0 rfl rfl 1 (by decide) (hts (.fieldLink RX2 19 "ChooseTree" "methods" "LChooseTree$Methods;") (by decide +kernel)) (fun _ h9 => h9) rfl dX2_replacesFinal_31 ?_
        refine lv_iload_n hx hb dX2_replacesFinal_34 rfl (lv_at hl 0 rfl) ?_
        refine lv_aload_n hx hb dX2_replacesFinal_35 rfl (lv_at hl 2 rfl) ?_
        refine va_get (D := D) (ci := 3) (v := .ref (a 2)) (C := RX2) (T := TX2) (N := 2) hx hb hts (by decide +kernel) hown hK.1 hP 0 rfl rfl 1 (by decide) (hts (.fieldLink RX2 19 "ChooseTree" "methods" "LChooseTree$Methods;") (by decide +kernel)) (fun _ h9 => h9) rfl dX2_replacesFinal_36 ?_
        refine va_get (D := D) (ci := 2) (v := .ref (a 11)) (C := RX1) (T := TX1) (N := 7) hx hb hts (by decide +kernel) hown hK.1 hP 2 rfl rfl 2 (by decide) (hts (.fieldLink RX2 131 "ChooseTree$Methods" "name" "[I") (by decide +kernel)) (fun _ h9 => h9) rfl dX2_replacesFinal_39 ?_
        refine lv_iload_n hx hb dX2_replacesFinal_42 rfl (lv_at hl 3 rfl) ?_
        refine na_iald (D := D) hx hb hK.1 hP 11 8 rfl rfl (i := zn1) (by omega) (by decide) dX2_replacesFinal_43 ?_
        refine va_calli (va_runV (As := [.int (nI n), .int ((cs_nm σ) zn1)]) (rest := []) ⟨hx, hb, hml, hown, hts⟩ (c_X1_inClass l D a k σ hok n hn6 (cs_nm σ zn1)) (cwV 2 hts gX2_replacesFinal_X1_inClass rfl rfl rfl (by decide +kernel) ⟨Nat.le_of_ble_eq_true rfl, Nat.le_of_ble_eq_true rfl⟩) (cP_V hK hP 2 2 rfl rfl) rfl rfl hl.1 rfl (lv_room (Nat.le_of_ble_eq_true rfl)) dX2_replacesFinal_44 ⟨Nat.le_of_ble_eq_true rfl, Nat.le_of_ble_eq_true rfl⟩) hS (fun _ _ h => h.elim) (fun _ h => h.elim) (fun r_5 u t H1 locs ht hvm hw hB hz1 hk1 hS => ?_)
        replace hP := ro_kept hP hk1
        obtain rfl : r_5 = _ := hw
        clear hk1 hz1 hvm ht hB
        generalize H1 = H at hP hS ⊢
        refine lv_istore (lv' := [(4, .int (m_inClass σ n ((cs_nm σ) zn1))), (3, .int (nI n)), (2, .int (nI ((cs_ow σ) zn1))), (0, .ref (a 0)), (1, .int (nI zn1))]) hx hb dX2_replacesFinal_47 hl (by decide) rfl (fun ls hl => ?_)
        refine lv_iload hx hb dX2_replacesFinal_49 (lv_at hl 0 rfl) ?_
        refine lv_iconst (v := (-1)) hx hb dX2_replacesFinal_51 (by decide) ?_
        refine lv_icmp_eq (tgt := 79) hx hb dX2_replacesFinal_52 (by decide) (fun c_6 => ?_) (fun c_6 => ?_)
        · refine lv_iinc (v := ((nI n) - nI 1)) (lv' := [(3, .int ((nI n) - nI 1)), (4, .int (m_inClass σ n ((cs_nm σ) zn1))), (2, .int (nI ((cs_ow σ) zn1))), (0, .ref (a 0)), (1, .int (nI zn1))]) hx hb dX2_replacesFinal_79 hl (k := 1) rfl (kdec _) (by decide) rfl (fun ls hl => ?_)
          refine lv_goto (tgt := 14) hx hb dX2_replacesFinal_82 (by decide) ?_
          exact ih H locs ls hP hS (by omega) (by rw [← hres]; simp [r_fin, c_2, c_4, c_6]) (lv_sub hl [0, 2, 3, 4] rfl)
        · obtain ⟨j, hj, ej⟩ := (m_inClass_of hok hn6 ((cs_nm σ) zn1)).resolve_left c_6
          rw [ej] at hl
          have ec : (m_inClass σ n ((cs_nm σ) zn1)).toNatClampNeg = j := by rw [ej]; exact nI_clamp (by omega)
          refine lv_aload_n hx hb dX2_replacesFinal_55 rfl (lv_at hl 3 rfl) ?_
          refine va_get (D := D) (ci := 3) (v := .ref (a 2)) (C := RX2) (T := TX2) (N := 2) hx hb hts (by decide +kernel) hown hK.1 hP 0 rfl rfl 1 (by decide) (hts (.fieldLink RX2 19 "ChooseTree" "methods" "LChooseTree$Methods;") (by decide +kernel)) (fun _ h9 => h9) rfl dX2_replacesFinal_56 ?_
          refine lv_iload hx hb dX2_replacesFinal_59 (lv_at hl 0 rfl) ?_
          refine va_calli (va_runV (As := [.int (nI j)]) (rest := []) ⟨hx, hb, hml, hown, hts⟩ (c_X1_isFinal l D a k σ j (by omega)) (cwV 1 hts gX2_replacesFinal_X1_isFinal rfl rfl rfl (by decide +kernel) ⟨Nat.le_of_ble_eq_true rfl, Nat.le_of_ble_eq_true rfl⟩) (cP_V hK hP 2 2 rfl rfl) rfl rfl hl.1 rfl (lv_room (Nat.le_of_ble_eq_true rfl)) dX2_replacesFinal_61 ⟨Nat.le_of_ble_eq_true rfl, Nat.le_of_ble_eq_true rfl⟩) hS (fun _ _ h => h.elim) (fun _ h => h.elim) (fun r_7 u t H1 locs ht hvm hw hB hz1 hk1 hS => ?_)
          replace hP := ro_kept hP hk1
          obtain rfl : r_7 = _ := hw
          clear hk1 hz1 hvm ht hB
          generalize H1 = H at hP hS ⊢
          refine lv_if_eq (tgt := 79) hx hb dX2_replacesFinal_64 (by decide) (fun c_8 => ?_) (fun c_8 => ?_)
          · replace c_8 := bI_0.mp c_8
            refine lv_iinc (v := ((nI n) - nI 1)) (lv' := [(3, .int ((nI n) - nI 1)), (4, .int (nI j)), (2, .int (nI ((cs_ow σ) zn1))), (0, .ref (a 0)), (1, .int (nI zn1))]) hx hb dX2_replacesFinal_79 hl (k := 1) rfl (kdec _) (by decide) rfl (fun ls hl => ?_)
            refine lv_goto (tgt := 14) hx hb dX2_replacesFinal_82 (by decide) ?_
            exact ih H locs ls hP hS (by omega) (by rw [← hres]; simp [r_fin, c_2, c_4, c_6, ec, c_8]) (lv_sub hl [0, 2, 3, 4] rfl)
          · replace c_8 := bI_n0.mp c_8
            refine lv_aload_n hx hb dX2_replacesFinal_67 rfl (lv_at hl 3 rfl) ?_
            refine lv_iload_n hx hb dX2_replacesFinal_68 rfl (lv_at hl 4 rfl) ?_
            refine lv_iload hx hb dX2_replacesFinal_69 (lv_at hl 0 rfl) ?_
            refine va_calli (va_runV (As := [.int (nI zn1), .int (nI j)]) (rest := []) ⟨hx, hb, hml, hown, hts⟩ (c_X2_replaces l D a k σ hok zn1 j hn1 (by omega)) (cwV 2 hts gX2_replacesFinal_X2_replaces rfl rfl rfl (by decide +kernel) ⟨Nat.le_of_ble_eq_true rfl, Nat.le_of_ble_eq_true rfl⟩) (cP_V hK hP 3 0 rfl rfl) rfl rfl hl.1 rfl (lv_room (Nat.le_of_ble_eq_true rfl)) dX2_replacesFinal_71 ⟨Nat.le_of_ble_eq_true rfl, Nat.le_of_ble_eq_true rfl⟩) hS (fun _ _ h => h.elim) (fun _ h => h.elim) (fun r_9 u t H1 locs ht hvm hw hB hz1 hk1 hS => ?_)
            replace hP := ro_kept hP hk1
            obtain rfl : r_9 = _ := hw
            clear hk1 hz1 hvm ht hB
            generalize H1 = H at hP hS ⊢
            refine lv_if_eq (tgt := 79) hx hb dX2_replacesFinal_74 (by decide) (fun c_10 => ?_) (fun c_10 => ?_)
            · replace c_10 := bI_0.mp c_10
              refine lv_iinc (v := ((nI n) - nI 1)) (lv' := [(3, .int ((nI n) - nI 1)), (4, .int (nI j)), (2, .int (nI ((cs_ow σ) zn1))), (0, .ref (a 0)), (1, .int (nI zn1))]) hx hb dX2_replacesFinal_79 hl (k := 1) rfl (kdec _) (by decide) rfl (fun ls hl => ?_)
              refine lv_goto (tgt := 14) hx hb dX2_replacesFinal_82 (by decide) ?_
              exact ih H locs ls hP hS (by omega) (by rw [← hres]; simp [r_fin, c_2, c_4, c_6, ec, c_8, c_10]) (lv_sub hl [0, 2, 3, 4] rfl)
            · replace c_10 := bI_n0.mp c_10
              refine lv_iconst (v := (nI 1)) hx hb dX2_replacesFinal_77 (by decide) ?_
              exact W.zret (v := (nI 1)) hx hb hr rfl (fun t ht hW => ⟨⟨(nI 1), (), rfl, (by rw [← hres]; simp [r_fin, bI, c_2, c_4, c_6, ec, c_8, c_10]), trivial⟩, hS.F ht⟩) hS.2.2 dX2_replacesFinal_78
set_option maxHeartbeats 4000000 in
set_option maxRecDepth 100000 in
theorem c_X2_broken (l : Launch) (D : va_G) (a : Nat → Nat) (k : Nat → ClassId) (σ : CS) (hok : cok σ) (zx1 : Int32) : Met l yX2_broken wsX2_broken (rmC 6 138) (cP D a k σ [.ref (a 0), .int zx1]) (roQ (s_broken σ zx1)) 0 0 (fun _ => False) := by
  refine Met.ofW (cc := cX2_broken) (maxL := 4) (ret := (some .int)) (by decide) rfl ?_
  intro p e s m args below meth c s₁ B hml hv
  obtain ⟨rfl, hP, hK⟩ := hv
  have hx := B.exec
  have hb := B.bytes
  have hr := B.returns
  have hts := atoms_spec (ws := wsX2_broken) B.pre
  have hown : s.vm.findClass RX2 = some m.cls := findClass_of_methodNamed B.named
  have hlocks := B.notSynchronized
  clear B
  have hl := lv_entry ([.ref (a 0), .int zx1]) (n := 4) (Nat.le_of_ble_eq_true rfl)
  rw [lg_entry_eq]
  generalize (lg_sl ([.ref (a 0), .int zx1]) ++ List.replicate (4 - (lg_sl ([.ref (a 0), .int zx1])).length) Slot.unset).toArray = ls at hl ⊢
  replace hl : lv_has ls 4 [(0, .ref (a 0)), (1, .int zx1)] := hl
  refine gen_start (A := (fun _ => False)) (fun H locs hP hS => ?_) hP
  obtain ⟨hb0, ⟨hb1, hb2, hb3, hb4, hb5, hb6⟩, hb7, hb8⟩ := id hok
  refine lv_aload_n hx hb dX2_broken_0 rfl (lv_at hl 0 rfl) ?_
  refine va_get (D := D) (ci := 3) (v := .ref (a 1)) (C := RX2) (T := TX2) (N := 2) hx hb hts (by decide +kernel) hown hK.1 hP 0 rfl rfl 0 (by decide) (hts (.fieldLink RX2 10 "ChooseTree" "classes" "LChooseTree$Classes;") (by decide +kernel)) (fun _ h9 => h9) rfl dX2_broken_1 ?_
  refine lv_iload_n hx hb dX2_broken_4 rfl (lv_at hl 1 rfl) ?_
  refine va_calli (va_runV (As := [.int zx1]) (rest := []) ⟨hx, hb, hml, hown, hts⟩ (c_X0_exists l D a k σ zx1) (cwV 1 hts gX2_broken_X0_exists rfl rfl rfl (by decide +kernel) ⟨Nat.le_of_ble_eq_true rfl, Nat.le_of_ble_eq_true rfl⟩) (cP_V hK hP 1 1 rfl rfl) rfl rfl hl.1 rfl (lv_room (Nat.le_of_ble_eq_true rfl)) dX2_broken_5 ⟨Nat.le_of_ble_eq_true rfl, Nat.le_of_ble_eq_true rfl⟩) hS (fun _ _ h => h.elim) (fun _ h => h.elim) (fun r_1 u t H1 locs ht hvm hw hB hz1 hk1 hS => ?_)
  replace hP := ro_kept hP hk1
  obtain rfl : r_1 = _ := hw
  clear hk1 hz1 hvm ht hB
  generalize H1 = H at hP hS ⊢
  refine lv_if_ne (tgt := 13) hx hb dX2_broken_8 (by decide) (fun c_2 => ?_) (fun c_2 => ?_)
  · replace c_2 := bI_n0.mp c_2
    obtain ⟨zj1, hzj1, ezj1⟩ := s_exists_of hok c_2
    subst ezj1
    have hclzj1 := nI_clamp (n := zj1) (by omega)
    refine lv_aload_n hx hb dX2_broken_13 rfl (lv_at hl 0 rfl) ?_
    refine va_get (D := D) (ci := 3) (v := .ref (a 2)) (C := RX2) (T := TX2) (N := 2) hx hb hts (by decide +kernel) hown hK.1 hP 0 rfl rfl 1 (by decide) (hts (.fieldLink RX2 19 "ChooseTree" "methods" "LChooseTree$Methods;") (by decide +kernel)) (fun _ h9 => h9) rfl dX2_broken_14 ?_
    refine va_get (D := D) (ci := 2) (v := .ref (a 12)) (C := RX1) (T := TX1) (N := 7) hx hb hts (by decide +kernel) hown hK.1 hP 2 rfl rfl 3 (by decide) (hts (.fieldLink RX2 89 "ChooseTree$Methods" "first" "[I") (by decide +kernel)) (fun _ h9 => h9) rfl dX2_broken_17 ?_
    refine lv_iload_n hx hb dX2_broken_20 rfl (lv_at hl 1 rfl) ?_
    refine na_iald (D := D) hx hb hK.1 hP 12 9 rfl rfl (i := zj1) (by omega) (by decide) dX2_broken_21 ?_
    refine lv_aload_n hx hb dX2_broken_22 rfl (lv_at hl 0 rfl) ?_
    refine va_get (D := D) (ci := 3) (v := .ref (a 2)) (C := RX2) (T := TX2) (N := 2) hx hb hts (by decide +kernel) hown hK.1 hP 0 rfl rfl 1 (by decide) (hts (.fieldLink RX2 19 "ChooseTree" "methods" "LChooseTree$Methods;") (by decide +kernel)) (fun _ h9 => h9) rfl dX2_broken_23 ?_
    refine va_get (D := D) (ci := 2) (v := .ref (a 13)) (C := RX1) (T := TX1) (N := 7) hx hb hts (by decide +kernel) hown hK.1 hP 2 rfl rfl 4 (by decide) (hts (.fieldLink RX2 44 "ChooseTree$Methods" "amount" "[I") (by decide +kernel)) (fun _ h9 => h9) rfl dX2_broken_26 ?_
    refine lv_iload_n hx hb dX2_broken_29 rfl (lv_at hl 1 rfl) ?_
    refine na_iald (D := D) hx hb hK.1 hP 13 10 rfl rfl (i := zj1) (by omega) (by decide) dX2_broken_30 ?_
    refine lv_iaddN hx hb dX2_broken_31 ?_
    refine lv_istore_n (lv' := [(2, .int (nI (((cs_fi σ) zj1) + ((cs_am σ) zj1)))), (0, .ref (a 0)), (1, .int (nI zj1))]) hx hb dX2_broken_32 rfl hl (by decide) rfl (fun ls hl => ?_)
    refine lv_aload_n hx hb dX2_broken_33 rfl (lv_at hl 1 rfl) ?_
    refine va_get (D := D) (ci := 3) (v := .ref (a 2)) (C := RX2) (T := TX2) (N := 2) hx hb hts (by decide +kernel) hown hK.1 hP 0 rfl rfl 1 (by decide) (hts (.fieldLink RX2 19 "ChooseTree" "methods" "LChooseTree$Methods;") (by decide +kernel)) (fun _ h9 => h9) rfl dX2_broken_34 ?_
    refine va_get (D := D) (ci := 2) (v := .ref (a 12)) (C := RX1) (T := TX1) (N := 7) hx hb hts (by decide +kernel) hown hK.1 hP 2 rfl rfl 3 (by decide) (hts (.fieldLink RX2 89 "ChooseTree$Methods" "first" "[I") (by decide +kernel)) (fun _ h9 => h9) rfl dX2_broken_37 ?_
    refine lv_iload_n hx hb dX2_broken_40 rfl (lv_at hl 2 rfl) ?_
    refine na_iald (D := D) hx hb hK.1 hP 12 9 rfl rfl (i := zj1) (by omega) (by decide) dX2_broken_41 ?_
    refine lv_istore_n (lv' := [(3, .int (nI ((cs_fi σ) zj1))), (2, .int (nI (((cs_fi σ) zj1) + ((cs_am σ) zj1)))), (0, .ref (a 0)), (1, .int (nI zj1))]) hx hb dX2_broken_42 rfl hl (by decide) rfl (fun ls hl => ?_)
    have hq := hb2 zj1 (by omega)
    obtain ⟨n, hn⟩ : ∃ n : Nat, n = cs_am σ zj1 := ⟨_, rfl⟩
    obtain ⟨i, hi⟩ : ∃ i : Nat, i = cs_fi σ zj1 := ⟨_, rfl⟩
    have hE : i + n = cs_fi σ zj1 + cs_am σ zj1 := by omega
    have hres : r_brk σ n i = s_broken σ (nI zj1) := by rw [hn, hi]; simp [s_broken, c_2, hclzj1]
    replace hl : lv_has ls 4 [(3, .int (nI i)), (2, .int (nI ((cs_fi σ) zj1 + (cs_am σ) zj1))), (0, .ref (a 0)), (1, .int (nI zj1))] := by rw [hi]; exact hl
    clear hn hi
    revert hl
    revert hres
    revert hE
    revert hS
    revert hP
    revert ls
    revert locs
    revert H
    revert i
    induction n with
    | zero =>
      intro i H locs ls hP hS hE hres hl
      refine lv_iload_n hx hb dX2_broken_43 rfl (lv_at hl 0 rfl) ?_
      refine lv_iload_n hx hb dX2_broken_44 rfl (lv_at hl 1 rfl) ?_
      refine lv_icmp_ge (tgt := 64) hx hb dX2_broken_45 (by decide) (fun c_3 => ?_) (fun c_3 => ?_)
      · refine lv_iconst (v := (-1)) hx hb dX2_broken_64 (by decide) ?_
        exact W.iret (v := (-1)) hx hb hr (fun t ht hW => ⟨⟨(-1), (), rfl, (by rw [← hres]; rfl), trivial⟩, hS.F ht⟩) hS.2.2 dX2_broken_65
      · exact absurd (nI_le (by omega) (by omega)) c_3
    | succ n ih =>
      intro i H locs ls hP hS hE hres hl
      refine lv_iload_n hx hb dX2_broken_43 rfl (lv_at hl 0 rfl) ?_
      refine lv_iload_n hx hb dX2_broken_44 rfl (lv_at hl 1 rfl) ?_
      refine lv_icmp_ge (tgt := 64) hx hb dX2_broken_45 (by decide) (fun c_4 => ?_) (fun c_4 => ?_)
      · exact absurd c_4 (nI_ge (by omega) (by omega))
      · refine lv_aload_n hx hb dX2_broken_48 rfl (lv_at hl 2 rfl) ?_
        refine lv_iload_n hx hb dX2_broken_49 rfl (lv_at hl 0 rfl) ?_
        refine va_calli (va_runV (As := [.int (nI i)]) (rest := []) ⟨hx, hb, hml, hown, hts⟩ (c_X2_replacesFinal l D a k σ hok i (by omega)) (cwV 1 hts gX2_broken_X2_replacesFinal rfl rfl rfl (by decide +kernel) ⟨Nat.le_of_ble_eq_true rfl, Nat.le_of_ble_eq_true rfl⟩) (cP_V hK hP 3 0 rfl rfl) rfl rfl hl.1 rfl (lv_room (Nat.le_of_ble_eq_true rfl)) dX2_broken_50 ⟨Nat.le_of_ble_eq_true rfl, Nat.le_of_ble_eq_true rfl⟩) hS (fun _ _ h => h.elim) (fun _ h => h.elim) (fun r_5 u t H1 locs ht hvm hw hB hz1 hk1 hS => ?_)
        replace hP := ro_kept hP hk1
        obtain rfl : r_5 = _ := hw
        clear hk1 hz1 hvm ht hB
        generalize H1 = H at hP hS ⊢
        refine lv_if_eq (tgt := 58) hx hb dX2_broken_53 (by decide) (fun c_6 => ?_) (fun c_6 => ?_)
        · replace c_6 := bI_0.mp c_6
          refine lv_iinc (v := (nI (i + 1))) (lv' := [(3, .int (nI (i + 1))), (2, .int (nI ((cs_fi σ) zj1 + (cs_am σ) zj1))), (0, .ref (a 0)), (1, .int (nI zj1))]) hx hb dX2_broken_58 hl (k := 0) rfl (nI_1 _) (by decide) rfl (fun ls hl => ?_)
          refine lv_goto (tgt := 43) hx hb dX2_broken_61 (by decide) ?_
          exact ih (i + 1) H locs ls hP hS (by omega) (by rw [← hres]; simp [r_brk, c_4, c_6]) (lv_sub hl [0, 1, 2, 3] rfl)
        · replace c_6 := bI_n0.mp c_6
          refine lv_iload_n hx hb dX2_broken_56 rfl (lv_at hl 0 rfl) ?_
          exact W.iret (v := (nI i)) hx hb hr (fun t ht hW => ⟨⟨(nI i), (), rfl, (by rw [← hres]; simp [r_brk, c_4, c_6]), trivial⟩, hS.F ht⟩) hS.2.2 dX2_broken_57
  · replace c_2 := bI_0.mp c_2
    refine lv_iconst (v := (-1)) hx hb dX2_broken_11 (by decide) ?_
    exact W.iret (v := (-1)) hx hb hr (fun t ht hW => ⟨⟨(-1), (), rfl, (by simp [s_broken, bI, c_2]), trivial⟩, hS.F ht⟩) hS.2.2 dX2_broken_12
set_option maxHeartbeats 4000000 in
set_option maxRecDepth 100000 in
theorem c_X2_replacesFromBelow (l : Launch) (D : va_G) (a : Nat → Nat) (k : Nat → ClassId) (σ : CS) (hok : cok σ) (zn1 zn2 : Nat) (hn1 : zn1 < 400) (hn2 : zn2 < 400) : Met l yX2_replacesFromBelow wsX2_replacesFromBelow (rmC 5 114) (cP D a k σ [.ref (a 0), .int (nI zn1), .int (nI zn2)]) (roQ (bI (r_from σ zn1 zn2))) 0 0 (fun _ => False) := by
  refine Met.ofW (cc := cX2_replacesFromBelow) (maxL := 3) (ret := (some .boolean)) (by decide) rfl ?_
  intro p e s m args below meth c s₁ B hml hv
  obtain ⟨rfl, hP, hK⟩ := hv
  have hx := B.exec
  have hb := B.bytes
  have hr := B.returns
  have hts := atoms_spec (ws := wsX2_replacesFromBelow) B.pre
  have hown : s.vm.findClass RX2 = some m.cls := findClass_of_methodNamed B.named
  have hlocks := B.notSynchronized
  clear B
  have hl := lv_entry ([.ref (a 0), .int (nI zn1), .int (nI zn2)]) (n := 3) (Nat.le_of_ble_eq_true rfl)
  rw [lg_entry_eq]
  generalize (lg_sl ([.ref (a 0), .int (nI zn1), .int (nI zn2)]) ++ List.replicate (3 - (lg_sl ([.ref (a 0), .int (nI zn1), .int (nI zn2)])).length) Slot.unset).toArray = ls at hl ⊢
  replace hl : lv_has ls 3 [(0, .ref (a 0)), (1, .int (nI zn1)), (2, .int (nI zn2))] := hl
  refine gen_start (A := (fun _ => False)) (fun H locs hP hS => ?_) hP
  obtain ⟨hb0, ⟨hb1, hb2, hb3, hb4, hb5, hb6⟩, hb7, hb8⟩ := id hok
  have hw1 := hb3 zn1 hn1
  refine lv_aload_n hx hb dX2_replacesFromBelow_0 rfl (lv_at hl 0 rfl) ?_
  refine va_get (D := D) (ci := 3) (v := .ref (a 1)) (C := RX2) (T := TX2) (N := 2) hx hb hts (by decide +kernel) hown hK.1 hP 0 rfl rfl 0 (by decide) (hts (.fieldLink RX2 10 "ChooseTree" "classes" "LChooseTree$Classes;") (by decide +kernel)) (fun _ h9 => h9) rfl dX2_replacesFromBelow_1 ?_
  refine lv_aload_n hx hb dX2_replacesFromBelow_4 rfl (lv_at hl 0 rfl) ?_
  refine va_get (D := D) (ci := 3) (v := .ref (a 2)) (C := RX2) (T := TX2) (N := 2) hx hb hts (by decide +kernel) hown hK.1 hP 0 rfl rfl 1 (by decide) (hts (.fieldLink RX2 19 "ChooseTree" "methods" "LChooseTree$Methods;") (by decide +kernel)) (fun _ h9 => h9) rfl dX2_replacesFromBelow_5 ?_
  refine va_get (D := D) (ci := 2) (v := .ref (a 10)) (C := RX1) (T := TX1) (N := 7) hx hb hts (by decide +kernel) hown hK.1 hP 2 rfl rfl 1 (by decide) (hts (.fieldLink RX2 115 "ChooseTree$Methods" "owner" "[I") (by decide +kernel)) (fun _ h9 => h9) rfl dX2_replacesFromBelow_8 ?_
  refine lv_iload_n hx hb dX2_replacesFromBelow_11 rfl (lv_at hl 1 rfl) ?_
  refine na_iald (D := D) hx hb hK.1 hP 10 7 rfl rfl (i := zn1) (by omega) (by decide) dX2_replacesFromBelow_12 ?_
  refine lv_aload_n hx hb dX2_replacesFromBelow_13 rfl (lv_at hl 0 rfl) ?_
  refine va_get (D := D) (ci := 3) (v := .ref (a 2)) (C := RX2) (T := TX2) (N := 2) hx hb hts (by decide +kernel) hown hK.1 hP 0 rfl rfl 1 (by decide) (hts (.fieldLink RX2 19 "ChooseTree" "methods" "LChooseTree$Methods;") (by decide +kernel)) (fun _ h9 => h9) rfl dX2_replacesFromBelow_14 ?_
  refine va_get (D := D) (ci := 2) (v := .ref (a 10)) (C := RX1) (T := TX1) (N := 7) hx hb hts (by decide +kernel) hown hK.1 hP 2 rfl rfl 1 (by decide) (hts (.fieldLink RX2 115 "ChooseTree$Methods" "owner" "[I") (by decide +kernel)) (fun _ h9 => h9) rfl dX2_replacesFromBelow_17 ?_
  refine lv_iload_n hx hb dX2_replacesFromBelow_20 rfl (lv_at hl 2 rfl) ?_
  refine na_iald (D := D) hx hb hK.1 hP 10 7 rfl rfl (i := zn2) (by omega) (by decide) dX2_replacesFromBelow_21 ?_
  refine va_calli (va_runV (As := [.int (nI ((cs_ow σ) zn1)), .int (nI ((cs_ow σ) zn2))]) (rest := []) ⟨hx, hb, hml, hown, hts⟩ (c_X0_below l D a k σ (cs_ow σ zn1) (cs_ow σ zn2) hw1) (cwV 2 hts gX2_replacesFromBelow_X0_below rfl rfl rfl (by decide +kernel) ⟨Nat.le_of_ble_eq_true rfl, Nat.le_of_ble_eq_true rfl⟩) (cP_V hK hP 1 1 rfl rfl) rfl rfl hl.1 rfl (lv_room (Nat.le_of_ble_eq_true rfl)) dX2_replacesFromBelow_22 ⟨Nat.le_of_ble_eq_true rfl, Nat.le_of_ble_eq_true rfl⟩) hS (fun _ _ h => h.elim) (fun _ h => h.elim) (fun r_1 u t H1 locs ht hvm hw hB hz1 hk1 hS => ?_)
  replace hP := ro_kept hP hk1
  obtain rfl : r_1 = _ := hw
  clear hk1 hz1 hvm ht hB
  generalize H1 = H at hP hS ⊢
  refine lv_if_eq (tgt := 41) hx hb dX2_replacesFromBelow_25 (by decide) (fun c_2 => ?_) (fun c_2 => ?_)
  · replace c_2 := bI_0.mp c_2
    refine lv_iconst (v := (nI 0)) hx hb dX2_replacesFromBelow_41 (by decide) ?_
    exact W.zret (v := (nI 0)) hx hb hr rfl (fun t ht hW => ⟨⟨(nI 0), (), rfl, (by simp [r_from, bI, c_2]), trivial⟩, hS.F ht⟩) hS.2.2 dX2_replacesFromBelow_42
  · replace c_2 := bI_n0.mp c_2
    refine lv_aload_n hx hb dX2_replacesFromBelow_28 rfl (lv_at hl 0 rfl) ?_
    refine lv_iload_n hx hb dX2_replacesFromBelow_29 rfl (lv_at hl 1 rfl) ?_
    refine lv_iload_n hx hb dX2_replacesFromBelow_30 rfl (lv_at hl 2 rfl) ?_
    refine va_calli (va_runV (As := [.int (nI zn1), .int (nI zn2)]) (rest := []) ⟨hx, hb, hml, hown, hts⟩ (c_X2_replaces l D a k σ hok zn1 zn2 hn1 hn2) (cwV 2 hts gX2_replacesFromBelow_X2_replaces rfl rfl rfl (by decide +kernel) ⟨Nat.le_of_ble_eq_true rfl, Nat.le_of_ble_eq_true rfl⟩) (cP_V hK hP 3 0 rfl rfl) rfl rfl hl.1 rfl (lv_room (Nat.le_of_ble_eq_true rfl)) dX2_replacesFromBelow_31 ⟨Nat.le_of_ble_eq_true rfl, Nat.le_of_ble_eq_true rfl⟩) hS (fun _ _ h => h.elim) (fun _ h => h.elim) (fun r_3 u t H1 locs ht hvm hw hB hz1 hk1 hS => ?_)
    replace hP := ro_kept hP hk1
    obtain rfl : r_3 = _ := hw
    clear hk1 hz1 hvm ht hB
    generalize H1 = H at hP hS ⊢
    refine lv_if_eq (tgt := 41) hx hb dX2_replacesFromBelow_34 (by decide) (fun c_4 => ?_) (fun c_4 => ?_)
    · replace c_4 := bI_0.mp c_4
      refine lv_iconst (v := (nI 0)) hx hb dX2_replacesFromBelow_41 (by decide) ?_
      exact W.zret (v := (nI 0)) hx hb hr rfl (fun t ht hW => ⟨⟨(nI 0), (), rfl, (by simp [r_from, bI, c_2, c_4]), trivial⟩, hS.F ht⟩) hS.2.2 dX2_replacesFromBelow_42
    · replace c_4 := bI_n0.mp c_4
      refine lv_iconst (v := (nI 1)) hx hb dX2_replacesFromBelow_37 (by decide) ?_
      refine lv_goto (tgt := 42) hx hb dX2_replacesFromBelow_38 (by decide) ?_
      exact W.zret (v := (nI 1)) hx hb hr rfl (fun t ht hW => ⟨⟨(nI 1), (), rfl, (by simp [r_from, bI, c_2, c_4]), trivial⟩, hS.F ht⟩) hS.2.2 dX2_replacesFromBelow_42
set_option maxHeartbeats 4000000 in
set_option maxRecDepth 100000 in
theorem c_X2_replacesOfPlain (l : Launch) (D : va_G) (a : Nat → Nat) (k : Nat → ClassId) (σ : CS) (hok : cok σ) (zn1 zn2 : Nat) (hn1 : zn1 < 400) (hn2 : zn2 < 400) : Met l yX2_replacesOfPlain wsX2_replacesOfPlain (rmC 5 114) (cP D a k σ [.ref (a 0), .int (nI zn1), .int (nI zn2)]) (roQ (bI (r_plain σ zn1 zn2))) 0 0 (fun _ => False) := by
  refine Met.ofW (cc := cX2_replacesOfPlain) (maxL := 3) (ret := (some .boolean)) (by decide) rfl ?_
  intro p e s m args below meth c s₁ B hml hv
  obtain ⟨rfl, hP, hK⟩ := hv
  have hx := B.exec
  have hb := B.bytes
  have hr := B.returns
  have hts := atoms_spec (ws := wsX2_replacesOfPlain) B.pre
  have hown : s.vm.findClass RX2 = some m.cls := findClass_of_methodNamed B.named
  have hlocks := B.notSynchronized
  clear B
  have hl := lv_entry ([.ref (a 0), .int (nI zn1), .int (nI zn2)]) (n := 3) (Nat.le_of_ble_eq_true rfl)
  rw [lg_entry_eq]
  generalize (lg_sl ([.ref (a 0), .int (nI zn1), .int (nI zn2)]) ++ List.replicate (3 - (lg_sl ([.ref (a 0), .int (nI zn1), .int (nI zn2)])).length) Slot.unset).toArray = ls at hl ⊢
  replace hl : lv_has ls 3 [(0, .ref (a 0)), (1, .int (nI zn1)), (2, .int (nI zn2))] := hl
  refine gen_start (A := (fun _ => False)) (fun H locs hP hS => ?_) hP
  obtain ⟨hb0, ⟨hb1, hb2, hb3, hb4, hb5, hb6⟩, hb7, hb8⟩ := id hok
  have hw2 := hb3 zn2 hn2
  refine lv_aload_n hx hb dX2_replacesOfPlain_0 rfl (lv_at hl 0 rfl) ?_
  refine va_get (D := D) (ci := 3) (v := .ref (a 1)) (C := RX2) (T := TX2) (N := 2) hx hb hts (by decide +kernel) hown hK.1 hP 0 rfl rfl 0 (by decide) (hts (.fieldLink RX2 10 "ChooseTree" "classes" "LChooseTree$Classes;") (by decide +kernel)) (fun _ h9 => h9) rfl dX2_replacesOfPlain_1 ?_
  refine va_get (D := D) (ci := 1) (v := .ref (a 5)) (C := RX0) (T := TX0) (N := 10) hx hb hts (by decide +kernel) hown hK.1 hP 1 rfl rfl 3 (by decide) (hts (.fieldLink RX2 56 "ChooseTree$Classes" "face" "[Z") (by decide +kernel)) (fun _ h9 => h9) rfl dX2_replacesOfPlain_4 ?_
  refine lv_aload_n hx hb dX2_replacesOfPlain_7 rfl (lv_at hl 0 rfl) ?_
  refine va_get (D := D) (ci := 3) (v := .ref (a 2)) (C := RX2) (T := TX2) (N := 2) hx hb hts (by decide +kernel) hown hK.1 hP 0 rfl rfl 1 (by decide) (hts (.fieldLink RX2 19 "ChooseTree" "methods" "LChooseTree$Methods;") (by decide +kernel)) (fun _ h9 => h9) rfl dX2_replacesOfPlain_8 ?_
  refine va_get (D := D) (ci := 2) (v := .ref (a 10)) (C := RX1) (T := TX1) (N := 7) hx hb hts (by decide +kernel) hown hK.1 hP 2 rfl rfl 1 (by decide) (hts (.fieldLink RX2 115 "ChooseTree$Methods" "owner" "[I") (by decide +kernel)) (fun _ h9 => h9) rfl dX2_replacesOfPlain_11 ?_
  refine lv_iload_n hx hb dX2_replacesOfPlain_14 rfl (lv_at hl 2 rfl) ?_
  refine na_iald (D := D) hx hb hK.1 hP 10 7 rfl rfl (i := zn2) (by omega) (by decide) dX2_replacesOfPlain_15 ?_
  refine na_zald (D := D) hx hb hK.1 hP 5 2 rfl rfl (i := ((cs_ow σ) zn2)) (by omega) (by decide) dX2_replacesOfPlain_16 ?_
  refine lv_if_ne (tgt := 33) hx hb dX2_replacesOfPlain_17 (by decide) (fun c_1 => ?_) (fun c_1 => ?_)
  · refine lv_iconst (v := (nI 0)) hx hb dX2_replacesOfPlain_33 (by decide) ?_
    exact W.zret (v := (nI 0)) hx hb hr rfl (fun t ht hW => ⟨⟨(nI 0), (), rfl, (by simp [r_plain, bI, c_1]), trivial⟩, hS.F ht⟩) hS.2.2 dX2_replacesOfPlain_34
  · refine lv_aload_n hx hb dX2_replacesOfPlain_20 rfl (lv_at hl 0 rfl) ?_
    refine lv_iload_n hx hb dX2_replacesOfPlain_21 rfl (lv_at hl 1 rfl) ?_
    refine lv_iload_n hx hb dX2_replacesOfPlain_22 rfl (lv_at hl 2 rfl) ?_
    refine va_calli (va_runV (As := [.int (nI zn1), .int (nI zn2)]) (rest := []) ⟨hx, hb, hml, hown, hts⟩ (c_X2_replaces l D a k σ hok zn1 zn2 hn1 hn2) (cwV 2 hts gX2_replacesOfPlain_X2_replaces rfl rfl rfl (by decide +kernel) ⟨Nat.le_of_ble_eq_true rfl, Nat.le_of_ble_eq_true rfl⟩) (cP_V hK hP 3 0 rfl rfl) rfl rfl hl.1 rfl (lv_room (Nat.le_of_ble_eq_true rfl)) dX2_replacesOfPlain_23 ⟨Nat.le_of_ble_eq_true rfl, Nat.le_of_ble_eq_true rfl⟩) hS (fun _ _ h => h.elim) (fun _ h => h.elim) (fun r_2 u t H1 locs ht hvm hw hB hz1 hk1 hS => ?_)
    replace hP := ro_kept hP hk1
    obtain rfl : r_2 = _ := hw
    clear hk1 hz1 hvm ht hB
    generalize H1 = H at hP hS ⊢
    refine lv_if_eq (tgt := 33) hx hb dX2_replacesOfPlain_26 (by decide) (fun c_3 => ?_) (fun c_3 => ?_)
    · replace c_3 := bI_0.mp c_3
      refine lv_iconst (v := (nI 0)) hx hb dX2_replacesOfPlain_33 (by decide) ?_
      exact W.zret (v := (nI 0)) hx hb hr rfl (fun t ht hW => ⟨⟨(nI 0), (), rfl, (by simp [r_plain, bI, c_1, c_3]), trivial⟩, hS.F ht⟩) hS.2.2 dX2_replacesOfPlain_34
    · replace c_3 := bI_n0.mp c_3
      refine lv_iconst (v := (nI 1)) hx hb dX2_replacesOfPlain_29 (by decide) ?_
      refine lv_goto (tgt := 34) hx hb dX2_replacesOfPlain_30 (by decide) ?_
      exact W.zret (v := (nI 1)) hx hb hr rfl (fun t ht hW => ⟨⟨(nI 1), (), rfl, (by simp [r_plain, bI, c_1, c_3]), trivial⟩, hS.F ht⟩) hS.2.2 dX2_replacesOfPlain_34
set_option maxHeartbeats 4000000 in
set_option maxRecDepth 100000 in
theorem c_X2_kin (l : Launch) (D : va_G) (a : Nat → Nat) (k : Nat → ClassId) (σ : CS) (hok : cok σ) (zx1 : Int32) : Met l yX2_kin wsX2_kin (rmC 6 136) (cP D a k σ [.ref (a 0), .int zx1]) (roQ (s_kin σ zx1)) 0 0 (fun _ => False) := by
  refine Met.ofW (cc := cX2_kin) (maxL := 4) (ret := (some .int)) (by decide) rfl ?_
  intro p e s m args below meth c s₁ B hml hv
  obtain ⟨rfl, hP, hK⟩ := hv
  have hx := B.exec
  have hb := B.bytes
  have hr := B.returns
  have hts := atoms_spec (ws := wsX2_kin) B.pre
  have hown : s.vm.findClass RX2 = some m.cls := findClass_of_methodNamed B.named
  have hlocks := B.notSynchronized
  clear B
  have hl := lv_entry ([.ref (a 0), .int zx1]) (n := 4) (Nat.le_of_ble_eq_true rfl)
  rw [lg_entry_eq]
  generalize (lg_sl ([.ref (a 0), .int zx1]) ++ List.replicate (4 - (lg_sl ([.ref (a 0), .int zx1])).length) Slot.unset).toArray = ls at hl ⊢
  replace hl : lv_has ls 4 [(0, .ref (a 0)), (1, .int zx1)] := hl
  refine gen_start (A := (fun _ => False)) (fun H locs hP hS => ?_) hP
  obtain ⟨hb0, ⟨hb1, hb2, hb3, hb4, hb5, hb6⟩, hb7, hb8⟩ := id hok
  refine lv_aload_n hx hb dX2_kin_0 rfl (lv_at hl 0 rfl) ?_
  refine va_get (D := D) (ci := 3) (v := .ref (a 2)) (C := RX2) (T := TX2) (N := 2) hx hb hts (by decide +kernel) hown hK.1 hP 0 rfl rfl 1 (by decide) (hts (.fieldLink RX2 19 "ChooseTree" "methods" "LChooseTree$Methods;") (by decide +kernel)) (fun _ h9 => h9) rfl dX2_kin_1 ?_
  refine lv_iload_n hx hb dX2_kin_4 rfl (lv_at hl 1 rfl) ?_
  refine va_calli (va_runV (As := [.int zx1]) (rest := []) ⟨hx, hb, hml, hown, hts⟩ (c_X1_exists l D a k σ zx1) (cwV 1 hts gX2_kin_X1_exists rfl rfl rfl (by decide +kernel) ⟨Nat.le_of_ble_eq_true rfl, Nat.le_of_ble_eq_true rfl⟩) (cP_V hK hP 2 2 rfl rfl) rfl rfl hl.1 rfl (lv_room (Nat.le_of_ble_eq_true rfl)) dX2_kin_5 ⟨Nat.le_of_ble_eq_true rfl, Nat.le_of_ble_eq_true rfl⟩) hS (fun _ _ h => h.elim) (fun _ h => h.elim) (fun r_1 u t H1 locs ht hvm hw hB hz1 hk1 hS => ?_)
  replace hP := ro_kept hP hk1
  obtain rfl : r_1 = _ := hw
  clear hk1 hz1 hvm ht hB
  generalize H1 = H at hP hS ⊢
  refine lv_if_ne (tgt := 13) hx hb dX2_kin_8 (by decide) (fun c_2 => ?_) (fun c_2 => ?_)
  · replace c_2 := bI_n0.mp c_2
    obtain ⟨zj1, hzj1, ezj1⟩ := m_exists_of hok c_2
    subst ezj1
    have hclzj1 := nI_clamp (n := zj1) (by omega)
    refine lv_iconst (v := (nI 0)) hx hb dX2_kin_13 (by decide) ?_
    refine lv_istore_n (lv' := [(2, .int (nI 0)), (0, .ref (a 0)), (1, .int (nI zj1))]) hx hb dX2_kin_14 rfl hl (by decide) rfl (fun ls hl => ?_)
    refine lv_iconst (v := (nI 0)) hx hb dX2_kin_15 (by decide) ?_
    refine lv_istore_n (lv' := [(3, .int (nI 0)), (2, .int (nI 0)), (0, .ref (a 0)), (1, .int (nI zj1))]) hx hb dX2_kin_16 rfl hl (by decide) rfl (fun ls hl => ?_)
    obtain ⟨n, hn⟩ : ∃ n : Nat, n = cs_m σ := ⟨_, rfl⟩
    obtain ⟨i, hi⟩ : ∃ i : Nat, i = 0 := ⟨_, rfl⟩
    obtain ⟨q, hqq⟩ : ∃ q : Nat, q = 0 := ⟨_, rfl⟩
    have hE : i + n = cs_m σ := by omega
    have hres : nI (r_kin σ zj1 n i q) = s_kin σ (nI zj1) := by rw [hn, hi, hqq]; simp [s_kin, c_2, hclzj1]
    replace hl : lv_has ls 4 [(3, .int (nI i)), (2, .int (nI q)), (0, .ref (a 0)), (1, .int (nI zj1))] := by rw [hi, hqq]; exact hl
    clear hn hi hqq
    revert hl
    revert hres
    revert hE
    revert hS
    revert hP
    revert ls
    revert locs
    revert H
    revert i
    revert q
    induction n with
    | zero =>
      intro q i H locs ls hP hS hE hres hl
      refine lv_iload_n hx hb dX2_kin_17 rfl (lv_at hl 0 rfl) ?_
      refine lv_aload_n hx hb dX2_kin_18 rfl (lv_at hl 2 rfl) ?_
      refine va_get (D := D) (ci := 3) (v := .ref (a 2)) (C := RX2) (T := TX2) (N := 2) hx hb hts (by decide +kernel) hown hK.1 hP 0 rfl rfl 1 (by decide) (hts (.fieldLink RX2 19 "ChooseTree" "methods" "LChooseTree$Methods;") (by decide +kernel)) (fun _ h9 => h9) rfl dX2_kin_19 ?_
      refine va_get (D := D) (ci := 2) (v := .int (nI (cs_m σ))) (C := RX1) (T := TX1) (N := 7) hx hb hts (by decide +kernel) hown hK.1 hP 2 rfl rfl 0 (by decide) (hts (.fieldLink RX2 68 "ChooseTree$Methods" "count" "I") (by decide +kernel)) (fun _ h9 => h9) rfl dX2_kin_22 ?_
      refine lv_icmp_ge (tgt := 55) hx hb dX2_kin_25 (by decide) (fun c_3 => ?_) (fun c_3 => ?_)
      · refine lv_iload_n hx hb dX2_kin_55 rfl (lv_at hl 1 rfl) ?_
        exact W.iret (v := (nI q)) hx hb hr (fun t ht hW => ⟨⟨(nI q), (), rfl, (by rw [← hres]; rfl), trivial⟩, hS.F ht⟩) hS.2.2 dX2_kin_56
      · exact absurd (nI_le (by omega) (by omega)) c_3
    | succ n ih =>
      intro q i H locs ls hP hS hE hres hl
      refine lv_iload_n hx hb dX2_kin_17 rfl (lv_at hl 0 rfl) ?_
      refine lv_aload_n hx hb dX2_kin_18 rfl (lv_at hl 2 rfl) ?_
      refine va_get (D := D) (ci := 3) (v := .ref (a 2)) (C := RX2) (T := TX2) (N := 2) hx hb hts (by decide +kernel) hown hK.1 hP 0 rfl rfl 1 (by decide) (hts (.fieldLink RX2 19 "ChooseTree" "methods" "LChooseTree$Methods;") (by decide +kernel)) (fun _ h9 => h9) rfl dX2_kin_19 ?_
      refine va_get (D := D) (ci := 2) (v := .int (nI (cs_m σ))) (C := RX1) (T := TX1) (N := 7) hx hb hts (by decide +kernel) hown hK.1 hP 2 rfl rfl 0 (by decide) (hts (.fieldLink RX2 68 "ChooseTree$Methods" "count" "I") (by decide +kernel)) (fun _ h9 => h9) rfl dX2_kin_22 ?_
      refine lv_icmp_ge (tgt := 55) hx hb dX2_kin_25 (by decide) (fun c_4 => ?_) (fun c_4 => ?_)
      · exact absurd c_4 (nI_ge (by omega) (by omega))
      · refine lv_aload_n hx hb dX2_kin_28 rfl (lv_at hl 2 rfl) ?_
        refine lv_iload_n hx hb dX2_kin_29 rfl (lv_at hl 0 rfl) ?_
        refine lv_iload_n hx hb dX2_kin_30 rfl (lv_at hl 3 rfl) ?_
        refine va_calli (va_runV (As := [.int (nI i), .int (nI zj1)]) (rest := []) ⟨hx, hb, hml, hown, hts⟩ (c_X2_replacesFromBelow l D a k σ hok i zj1 (by omega) (by omega)) (cwV 2 hts gX2_kin_X2_replacesFromBelow rfl rfl rfl (by decide +kernel) ⟨Nat.le_of_ble_eq_true rfl, Nat.le_of_ble_eq_true rfl⟩) (cP_V hK hP 3 0 rfl rfl) rfl rfl hl.1 rfl (lv_room (Nat.le_of_ble_eq_true rfl)) dX2_kin_31 ⟨Nat.le_of_ble_eq_true rfl, Nat.le_of_ble_eq_true rfl⟩) hS (fun _ _ h => h.elim) (fun _ h => h.elim) (fun r_5 u t H1 locs ht hvm hw hB hz1 hk1 hS => ?_)
        replace hP := ro_kept hP hk1
        obtain rfl : r_5 = _ := hw
        clear hk1 hz1 hvm ht hB
        generalize H1 = H at hP hS ⊢
        refine lv_if_ne (tgt := 46) hx hb dX2_kin_34 (by decide) (fun c_6 => ?_) (fun c_6 => ?_)
        · replace c_6 := bI_n0.mp c_6
          refine lv_iinc (v := (nI (q + 1))) (lv' := [(2, .int (nI (q + 1))), (3, .int (nI i)), (0, .ref (a 0)), (1, .int (nI zj1))]) hx hb dX2_kin_46 hl (k := 1) rfl (nI_1 _) (by decide) rfl (fun ls hl => ?_)
          refine lv_iinc (v := (nI (i + 1))) (lv' := [(3, .int (nI (i + 1))), (2, .int (nI (q + 1))), (0, .ref (a 0)), (1, .int (nI zj1))]) hx hb dX2_kin_49 hl (k := 1) rfl (nI_1 _) (by decide) rfl (fun ls hl => ?_)
          refine lv_goto (tgt := 17) hx hb dX2_kin_52 (by decide) ?_
          exact ih (q + 1) (i + 1) H locs ls hP hS (by omega) (by rw [← hres]; simp [r_kin, c_4, c_6]) (lv_sub hl [0, 1, 2, 3] rfl)
        · replace c_6 := bI_0.mp c_6
          refine lv_aload_n hx hb dX2_kin_37 rfl (lv_at hl 2 rfl) ?_
          refine lv_iload_n hx hb dX2_kin_38 rfl (lv_at hl 3 rfl) ?_
          refine lv_iload_n hx hb dX2_kin_39 rfl (lv_at hl 0 rfl) ?_
          refine va_calli (va_runV (As := [.int (nI zj1), .int (nI i)]) (rest := []) ⟨hx, hb, hml, hown, hts⟩ (c_X2_replacesOfPlain l D a k σ hok zj1 i (by omega) (by omega)) (cwV 2 hts gX2_kin_X2_replacesOfPlain rfl rfl rfl (by decide +kernel) ⟨Nat.le_of_ble_eq_true rfl, Nat.le_of_ble_eq_true rfl⟩) (cP_V hK hP 3 0 rfl rfl) rfl rfl hl.1 rfl (lv_room (Nat.le_of_ble_eq_true rfl)) dX2_kin_40 ⟨Nat.le_of_ble_eq_true rfl, Nat.le_of_ble_eq_true rfl⟩) hS (fun _ _ h => h.elim) (fun _ h => h.elim) (fun r_7 u t H1 locs ht hvm hw hB hz1 hk1 hS => ?_)
          replace hP := ro_kept hP hk1
          obtain rfl : r_7 = _ := hw
          clear hk1 hz1 hvm ht hB
          generalize H1 = H at hP hS ⊢
          refine lv_if_eq (tgt := 49) hx hb dX2_kin_43 (by decide) (fun c_8 => ?_) (fun c_8 => ?_)
          · replace c_8 := bI_0.mp c_8
            refine lv_iinc (v := (nI (i + 1))) (lv' := [(3, .int (nI (i + 1))), (2, .int (nI q)), (0, .ref (a 0)), (1, .int (nI zj1))]) hx hb dX2_kin_49 hl (k := 0) rfl (nI_1 _) (by decide) rfl (fun ls hl => ?_)
            refine lv_goto (tgt := 17) hx hb dX2_kin_52 (by decide) ?_
            exact ih q (i + 1) H locs ls hP hS (by omega) (by rw [← hres]; simp [r_kin, c_4, c_6, c_8]) (lv_sub hl [0, 1, 2, 3] rfl)
          · replace c_8 := bI_n0.mp c_8
            refine lv_iinc (v := (nI (q + 1))) (lv' := [(2, .int (nI (q + 1))), (3, .int (nI i)), (0, .ref (a 0)), (1, .int (nI zj1))]) hx hb dX2_kin_46 hl (k := 1) rfl (nI_1 _) (by decide) rfl (fun ls hl => ?_)
            refine lv_iinc (v := (nI (i + 1))) (lv' := [(3, .int (nI (i + 1))), (2, .int (nI (q + 1))), (0, .ref (a 0)), (1, .int (nI zj1))]) hx hb dX2_kin_49 hl (k := 1) rfl (nI_1 _) (by decide) rfl (fun ls hl => ?_)
            refine lv_goto (tgt := 17) hx hb dX2_kin_52 (by decide) ?_
            exact ih (q + 1) (i + 1) H locs ls hP hS (by omega) (by rw [← hres]; simp [r_kin, c_4, c_6, c_8]) (lv_sub hl [0, 1, 2, 3] rfl)
  · replace c_2 := bI_0.mp c_2
    refine lv_iconst (v := (-1)) hx hb dX2_kin_11 (by decide) ?_
    exact W.iret (v := (-1)) hx hb hr (fun t ht hW => ⟨⟨(-1), (), rfl, (by simp [s_kin, bI, c_2]), trivial⟩, hS.F ht⟩) hS.2.2 dX2_kin_12
