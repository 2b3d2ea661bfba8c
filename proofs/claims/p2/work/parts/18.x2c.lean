set_option maxHeartbeats 4000000 in
set_option maxRecDepth 100000 in
theorem c_X2_add (l : Launch) (D : va_G) (a : Nat → Nat) (k : Nat → ClassId) (σ : CS) (hinj : cInj a) (hok : cok σ) (zx1 zx2 zx3 : Int32) : Met l yX2_add wsX2_add (rmC 4 93) (cP D a k σ [.ref (a 0), .int zx1, .int zx2, .int zx3]) (wrI D a k ((a_add σ zx1 zx2 zx3).1) ((a_add σ zx1 zx2 zx3).2)) 0 0 (ca a) := by
  refine Met.ofW (cc := cX2_add) (maxL := 5) (ret := (some .int)) (by decide) rfl ?_
  intro p e s m args below meth c s₁ B hml hv
  obtain ⟨rfl, hP, hK⟩ := hv
  have hx := B.exec
  have hb := B.bytes
  have hr := B.returns
  have hts := atoms_spec (ws := wsX2_add) B.pre
  have hown : s.vm.findClass RX2 = some m.cls := findClass_of_methodNamed B.named
  have hlocks := B.notSynchronized
  clear B
  have hl := lv_entry ([.ref (a 0), .int zx1, .int zx2, .int zx3]) (n := 5) (Nat.le_of_ble_eq_true rfl)
  rw [lg_entry_eq]
  generalize (lg_sl ([.ref (a 0), .int zx1, .int zx2, .int zx3]) ++ List.replicate (5 - (lg_sl ([.ref (a 0), .int zx1, .int zx2, .int zx3])).length) Slot.unset).toArray = ls at hl ⊢
  replace hl : lv_has ls 5 [(0, .ref (a 0)), (1, .int zx1), (2, .int zx2), (3, .int zx3)] := hl
  refine gen_start (A := (ca a)) (fun H locs hP hS => ?_) hP
  have hD : va_D (ca a) (cw a k σ) := cw_D hinj
  obtain ⟨hb0, ⟨hb1, hb2, hb3, hb4, hb5, hb6⟩, hb7, hb8⟩ := id hok
  refine lv_aload_n hx hb dX2_add_0 rfl (lv_at hl 0 rfl) ?_
  refine va_get (D := D) (ci := 3) (v := .ref (a 1)) (C := RX2) (T := TX2) (N := 2) hx hb hts (by decide +kernel) hown hK.1 hP 0 rfl rfl 0 (by decide) (hts (.fieldLink RX2 10 "ChooseTree" "classes" "LChooseTree$Classes;") (by decide +kernel)) (fun _ h9 => h9) rfl dX2_add_1 ?_
  refine lv_iload_n hx hb dX2_add_4 rfl (lv_at hl 1 rfl) ?_
  refine va_calli (va_runV (As := [.int zx1]) (rest := []) ⟨hx, hb, hml, hown, hts⟩ (c_X0_isPlain l D a k σ hok zx1) (cwV 1 hts gX2_add_X0_isPlain rfl rfl rfl (by decide +kernel) ⟨Nat.le_of_ble_eq_true rfl, Nat.le_of_ble_eq_true rfl⟩) (cP_V hK hP 1 1 rfl rfl) rfl rfl hl.1 rfl (lv_room (Nat.le_of_ble_eq_true rfl)) dX2_add_5 ⟨Nat.le_of_ble_eq_true rfl, Nat.le_of_ble_eq_true rfl⟩) hS (fun _ _ h => h.elim) (fun _ h => h.elim) (fun r_1 u t H1 locs ht hvm hw hB hz1 hk1 hS => ?_)
  replace hP := ro_kept hP hk1
  obtain rfl : r_1 = _ := hw
  clear hk1 hz1 hvm ht hB
  generalize H1 = H at hP hS ⊢
  refine lv_if_ne (tgt := 14) hx hb dX2_add_8 (by decide) (fun c_2 => ?_) (fun c_2 => ?_)
  · replace c_2 := bI_n0.mp c_2
    obtain ⟨zj1, hzj1, ezj1⟩ := s_isPlain_of hok c_2
    subst ezj1
    have hclzj1 := nI_clamp (n := zj1) (by omega)
    refine lv_iload_n hx hb dX2_add_14 rfl (lv_at hl 3 rfl) ?_
    refine lv_iconst (v := (nI 1)) hx hb dX2_add_15 (by decide) ?_
    refine lv_icmp_ne (tgt := 23) hx hb dX2_add_16 (by decide) (fun c_3 => ?_) (fun c_3 => ?_)
    · refine lv_iconst (v := (nI 0)) hx hb dX2_add_23 (by decide) ?_
      refine lv_istore (lv' := [(4, .int (nI 0)), (0, .ref (a 0)), (1, .int (nI zj1)), (2, .int zx2), (3, .int zx3)]) hx hb dX2_add_24 hl (by decide) rfl (fun ls hl => ?_)
      refine lv_iload_n hx hb dX2_add_26 rfl (lv_at hl 3 rfl) ?_
      refine lv_if_lt (tgt := 54) hx hb dX2_add_27 (by decide) (fun c_4 => ?_) (fun c_4 => ?_)
      · refine lv_iconst (v := (-1)) hx hb dX2_add_54 (by decide) ?_
        have e : a_add σ (nI zj1) zx2 zx3 = ((-1), σ) := by rw [a_add, if_pos c_2, if_neg (fun q => q.1 c_4)]
        exact W.iret (v := (-1)) hx hb hr (fun t ht hW => ⟨⟨(-1), (), rfl, (by rw [e]), show va_P D vwCl (cw a k _) t.heap from (by rw [ht]; exact (by rw [e]; exact hP))⟩, hS.F ht⟩) hS.2.2 dX2_add_55
      · refine lv_iload_n hx hb dX2_add_30 rfl (lv_at hl 3 rfl) ?_
        refine lv_bipush (v := (nI 10)) hx hb dX2_add_31 (by decide) ?_
        refine lv_icmp_ge (tgt := 54) hx hb dX2_add_33 (by decide) (fun c_5 => ?_) (fun c_5 => ?_)
        · refine lv_iconst (v := (-1)) hx hb dX2_add_54 (by decide) ?_
          have e : a_add σ (nI zj1) zx2 zx3 = ((-1), σ) := by rw [a_add, if_pos c_2, if_neg (fun q => q.2.1 c_5)]
          exact W.iret (v := (-1)) hx hb hr (fun t ht hW => ⟨⟨(-1), (), rfl, (by rw [e]), show va_P D vwCl (cw a k _) t.heap from (by rw [ht]; exact (by rw [e]; exact hP))⟩, hS.F ht⟩) hS.2.2 dX2_add_55
        · refine lv_iload_n hx hb dX2_add_36 rfl (lv_at hl 4 rfl) ?_
          refine lv_if_lt (tgt := 54) hx hb dX2_add_37 (by decide) (fun c_6 => ?_) (fun c_6 => ?_)
          · refine lv_iconst (v := (-1)) hx hb dX2_add_54 (by decide) ?_
            have e : a_add σ (nI zj1) zx2 zx3 = ((-1), σ) := by rw [a_add, if_pos c_2, if_neg (fun q => q.2.2.1 c_6)]
            exact W.iret (v := (-1)) hx hb hr (fun t ht hW => ⟨⟨(-1), (), rfl, (by rw [e]), show va_P D vwCl (cw a k _) t.heap from (by rw [ht]; exact (by rw [e]; exact hP))⟩, hS.F ht⟩) hS.2.2 dX2_add_55
          · refine lv_iload_n hx hb dX2_add_40 rfl (lv_at hl 4 rfl) ?_
            refine lv_iconst (v := (nI 1)) hx hb dX2_add_41 (by decide) ?_
            refine lv_icmp_gt (tgt := 54) hx hb dX2_add_42 (by decide) (fun c_7 => ?_) (fun c_7 => ?_)
            · refine lv_iconst (v := (-1)) hx hb dX2_add_54 (by decide) ?_
              have e : a_add σ (nI zj1) zx2 zx3 = ((-1), σ) := by rw [a_add, if_pos c_2, if_neg (fun q => q.2.2.2.1 c_7)]
              exact W.iret (v := (-1)) hx hb hr (fun t ht hW => ⟨⟨(-1), (), rfl, (by rw [e]), show va_P D vwCl (cw a k _) t.heap from (by rw [ht]; exact (by rw [e]; exact hP))⟩, hS.F ht⟩) hS.2.2 dX2_add_55
            · refine lv_iload hx hb dX2_add_45 (lv_at hl 0 rfl) ?_
              refine lv_if_eq (tgt := 56) hx hb dX2_add_47 (by decide) (fun c_8 => ?_) (fun c_8 => ?_)
              · refine lv_aload_n hx hb dX2_add_56 rfl (lv_at hl 1 rfl) ?_
                refine va_get (D := D) (ci := 3) (v := .ref (a 1)) (C := RX2) (T := TX2) (N := 2) hx hb hts (by decide +kernel) hown hK.1 hP 0 rfl rfl 0 (by decide) (hts (.fieldLink RX2 10 "ChooseTree" "classes" "LChooseTree$Classes;") (by decide +kernel)) (fun _ h9 => h9) rfl dX2_add_57 ?_
                refine va_get (D := D) (ci := 1) (v := .int (nI (cs_n σ))) (C := RX0) (T := TX0) (N := 10) hx hb hts (by decide +kernel) hown hK.1 hP 1 rfl rfl 0 (by decide) (hts (.fieldLink RX2 27 "ChooseTree$Classes" "count" "I") (by decide +kernel)) (fun _ h9 => h9) rfl dX2_add_60 ?_
                refine lv_bipush (v := (nI 60)) hx hb dX2_add_63 (by decide) ?_
                refine lv_icmp_lt (tgt := 71) hx hb dX2_add_65 (by decide) (fun c_9 => ?_) (fun c_9 => ?_)
                · have h60 : cs_n σ < 60 := (nI_ltI (by omega) (by omega)).mp c_9
                  refine lv_aload_n hx hb dX2_add_71 rfl (lv_at hl 1 rfl) ?_
                  refine va_get (D := D) (ci := 3) (v := .ref (a 1)) (C := RX2) (T := TX2) (N := 2) hx hb hts (by decide +kernel) hown hK.1 hP 0 rfl rfl 0 (by decide) (hts (.fieldLink RX2 10 "ChooseTree" "classes" "LChooseTree$Classes;") (by decide +kernel)) (fun _ h9 => h9) rfl dX2_add_72 ?_
                  refine lv_iload_n hx hb dX2_add_75 rfl (lv_at hl 2 rfl) ?_
                  refine lv_iload_n hx hb dX2_add_76 rfl (lv_at hl 3 rfl) ?_
                  refine lv_iload hx hb dX2_add_77 (lv_at hl 0 rfl) ?_
                  refine va_calli (va_runV (As := [.int (nI zj1), .int zx2, .int (nI 0)]) (rest := []) ⟨hx, hb, hml, hown, hts⟩ (c_X0_append l D a k σ hinj hok zj1 (by omega) h60 zx2 false) (cwV 3 hts gX2_add_X0_append rfl rfl rfl (by decide +kernel) ⟨Nat.le_of_ble_eq_true rfl, Nat.le_of_ble_eq_true rfl⟩) (cP_V hK hP 1 1 rfl rfl) rfl rfl hl.1 rfl (lv_room (Nat.le_of_ble_eq_true rfl)) dX2_add_79 ⟨Nat.le_of_ble_eq_true rfl, Nat.le_of_ble_eq_true rfl⟩) hS (fun _ _ h => h) (fun _ h => h) (fun r_10 u t H1 locs ht hvm hw hB hz1 hk1 hS => ?_)
                  replace hB : va_P D vwCl (cw a k (s_append σ zj1 zx2 false)) t.heap := hB
                  rw [ht] at hB
                  obtain rfl : r_10 = _ := hw
                  clear hk1 hz1 hvm ht hP hD
                  have hP := hB
                  clear hB
                  have hP : va_P D vwCl (cw a k (s_append σ zj1 zx2 false)) H1 := hP
                  have hD : va_D (ca a) (cw a k (s_append σ zj1 zx2 false)) := cw_D hinj
                  generalize H1 = H at hP hS ⊢
                  have e : a_add σ (nI zj1) zx2 zx3 = ((nI (cs_n σ)), (s_append σ zj1 zx2 false)) := by rw [a_add, if_pos c_2, if_pos ⟨c_4, c_5, c_6, c_7, (fun q => absurd q c_3)⟩, if_pos c_9, hclzj1, decide_eq_false c_3]
                  exact W.iret (v := (nI (cs_n σ))) hx hb hr (fun t ht hW => ⟨⟨(nI (cs_n σ)), (), rfl, (by rw [e]), show va_P D vwCl (cw a k _) t.heap from (by rw [ht]; exact (by rw [e]; exact hP))⟩, hS.F ht⟩) hS.2.2 dX2_add_82
                · refine lv_bipush (v := (-12)) hx hb dX2_add_68 (by decide) ?_
                  have e : a_add σ (nI zj1) zx2 zx3 = ((-12), σ) := by rw [a_add, if_pos c_2, if_pos ⟨c_4, c_5, c_6, c_7, (fun q => absurd q c_3)⟩, if_neg c_9]
                  exact W.iret (v := (-12)) hx hb hr (fun t ht hW => ⟨⟨(-12), (), rfl, (by rw [e]), show va_P D vwCl (cw a k _) t.heap from (by rw [ht]; exact (by rw [e]; exact hP))⟩, hS.F ht⟩) hS.2.2 dX2_add_70
              · exact absurd rfl c_8
    · refine lv_iconst (v := (nI 1)) hx hb dX2_add_19 (by decide) ?_
      refine lv_goto (tgt := 24) hx hb dX2_add_20 (by decide) ?_
      refine lv_istore (lv' := [(4, .int (nI 1)), (0, .ref (a 0)), (1, .int (nI zj1)), (2, .int zx2), (3, .int zx3)]) hx hb dX2_add_24 hl (by decide) rfl (fun ls hl => ?_)
      refine lv_iload_n hx hb dX2_add_26 rfl (lv_at hl 3 rfl) ?_
      refine lv_if_lt (tgt := 54) hx hb dX2_add_27 (by decide) (fun c_11 => ?_) (fun c_11 => ?_)
      · refine lv_iconst (v := (-1)) hx hb dX2_add_54 (by decide) ?_
        have e : a_add σ (nI zj1) zx2 zx3 = ((-1), σ) := by rw [a_add, if_pos c_2, if_neg (fun q => q.1 c_11)]
        exact W.iret (v := (-1)) hx hb hr (fun t ht hW => ⟨⟨(-1), (), rfl, (by rw [e]), show va_P D vwCl (cw a k _) t.heap from (by rw [ht]; exact (by rw [e]; exact hP))⟩, hS.F ht⟩) hS.2.2 dX2_add_55
      · refine lv_iload_n hx hb dX2_add_30 rfl (lv_at hl 3 rfl) ?_
        refine lv_bipush (v := (nI 10)) hx hb dX2_add_31 (by decide) ?_
        refine lv_icmp_ge (tgt := 54) hx hb dX2_add_33 (by decide) (fun c_12 => ?_) (fun c_12 => ?_)
        · refine lv_iconst (v := (-1)) hx hb dX2_add_54 (by decide) ?_
          have e : a_add σ (nI zj1) zx2 zx3 = ((-1), σ) := by rw [a_add, if_pos c_2, if_neg (fun q => q.2.1 c_12)]
          exact W.iret (v := (-1)) hx hb hr (fun t ht hW => ⟨⟨(-1), (), rfl, (by rw [e]), show va_P D vwCl (cw a k _) t.heap from (by rw [ht]; exact (by rw [e]; exact hP))⟩, hS.F ht⟩) hS.2.2 dX2_add_55
        · refine lv_iload_n hx hb dX2_add_36 rfl (lv_at hl 4 rfl) ?_
          refine lv_if_lt (tgt := 54) hx hb dX2_add_37 (by decide) (fun c_13 => ?_) (fun c_13 => ?_)
          · refine lv_iconst (v := (-1)) hx hb dX2_add_54 (by decide) ?_
            have e : a_add σ (nI zj1) zx2 zx3 = ((-1), σ) := by rw [a_add, if_pos c_2, if_neg (fun q => q.2.2.1 c_13)]
            exact W.iret (v := (-1)) hx hb hr (fun t ht hW => ⟨⟨(-1), (), rfl, (by rw [e]), show va_P D vwCl (cw a k _) t.heap from (by rw [ht]; exact (by rw [e]; exact hP))⟩, hS.F ht⟩) hS.2.2 dX2_add_55
          · refine lv_iload_n hx hb dX2_add_40 rfl (lv_at hl 4 rfl) ?_
            refine lv_iconst (v := (nI 1)) hx hb dX2_add_41 (by decide) ?_
            refine lv_icmp_gt (tgt := 54) hx hb dX2_add_42 (by decide) (fun c_14 => ?_) (fun c_14 => ?_)
            · refine lv_iconst (v := (-1)) hx hb dX2_add_54 (by decide) ?_
              have e : a_add σ (nI zj1) zx2 zx3 = ((-1), σ) := by rw [a_add, if_pos c_2, if_neg (fun q => q.2.2.2.1 c_14)]
              exact W.iret (v := (-1)) hx hb hr (fun t ht hW => ⟨⟨(-1), (), rfl, (by rw [e]), show va_P D vwCl (cw a k _) t.heap from (by rw [ht]; exact (by rw [e]; exact hP))⟩, hS.F ht⟩) hS.2.2 dX2_add_55
            · refine lv_iload hx hb dX2_add_45 (lv_at hl 0 rfl) ?_
              refine lv_if_eq (tgt := 56) hx hb dX2_add_47 (by decide) (fun c_15 => ?_) (fun c_15 => ?_)
              · exact absurd c_15 (by decide)
              · refine lv_iload_n hx hb dX2_add_50 rfl (lv_at hl 2 rfl) ?_
                refine lv_if_eq (tgt := 56) hx hb dX2_add_51 (by decide) (fun c_16 => ?_) (fun c_16 => ?_)
                · refine lv_aload_n hx hb dX2_add_56 rfl (lv_at hl 1 rfl) ?_
                  refine va_get (D := D) (ci := 3) (v := .ref (a 1)) (C := RX2) (T := TX2) (N := 2) hx hb hts (by decide +kernel) hown hK.1 hP 0 rfl rfl 0 (by decide) (hts (.fieldLink RX2 10 "ChooseTree" "classes" "LChooseTree$Classes;") (by decide +kernel)) (fun _ h9 => h9) rfl dX2_add_57 ?_
                  refine va_get (D := D) (ci := 1) (v := .int (nI (cs_n σ))) (C := RX0) (T := TX0) (N := 10) hx hb hts (by decide +kernel) hown hK.1 hP 1 rfl rfl 0 (by decide) (hts (.fieldLink RX2 27 "ChooseTree$Classes" "count" "I") (by decide +kernel)) (fun _ h9 => h9) rfl dX2_add_60 ?_
                  refine lv_bipush (v := (nI 60)) hx hb dX2_add_63 (by decide) ?_
                  refine lv_icmp_lt (tgt := 71) hx hb dX2_add_65 (by decide) (fun c_17 => ?_) (fun c_17 => ?_)
                  · have h60 : cs_n σ < 60 := (nI_ltI (by omega) (by omega)).mp c_17
                    refine lv_aload_n hx hb dX2_add_71 rfl (lv_at hl 1 rfl) ?_
                    refine va_get (D := D) (ci := 3) (v := .ref (a 1)) (C := RX2) (T := TX2) (N := 2) hx hb hts (by decide +kernel) hown hK.1 hP 0 rfl rfl 0 (by decide) (hts (.fieldLink RX2 10 "ChooseTree" "classes" "LChooseTree$Classes;") (by decide +kernel)) (fun _ h9 => h9) rfl dX2_add_72 ?_
                    refine lv_iload_n hx hb dX2_add_75 rfl (lv_at hl 2 rfl) ?_
                    refine lv_iload_n hx hb dX2_add_76 rfl (lv_at hl 3 rfl) ?_
                    refine lv_iload hx hb dX2_add_77 (lv_at hl 0 rfl) ?_
                    refine va_calli (va_runV (As := [.int (nI zj1), .int zx2, .int (nI 1)]) (rest := []) ⟨hx, hb, hml, hown, hts⟩ (c_X0_append l D a k σ hinj hok zj1 (by omega) h60 zx2 true) (cwV 3 hts gX2_add_X0_append rfl rfl rfl (by decide +kernel) ⟨Nat.le_of_ble_eq_true rfl, Nat.le_of_ble_eq_true rfl⟩) (cP_V hK hP 1 1 rfl rfl) rfl rfl hl.1 rfl (lv_room (Nat.le_of_ble_eq_true rfl)) dX2_add_79 ⟨Nat.le_of_ble_eq_true rfl, Nat.le_of_ble_eq_true rfl⟩) hS (fun _ _ h => h) (fun _ h => h) (fun r_18 u t H1 locs ht hvm hw hB hz1 hk1 hS => ?_)
                    replace hB : va_P D vwCl (cw a k (s_append σ zj1 zx2 true)) t.heap := hB
                    rw [ht] at hB
                    obtain rfl : r_18 = _ := hw
                    clear hk1 hz1 hvm ht hP hD
                    have hP := hB
                    clear hB
                    have hP : va_P D vwCl (cw a k (s_append σ zj1 zx2 true)) H1 := hP
                    have hD : va_D (ca a) (cw a k (s_append σ zj1 zx2 true)) := cw_D hinj
                    generalize H1 = H at hP hS ⊢
                    have e : a_add σ (nI zj1) zx2 zx3 = ((nI (cs_n σ)), (s_append σ zj1 zx2 true)) := by rw [a_add, if_pos c_2, if_pos ⟨c_11, c_12, c_13, c_14, (fun _ => c_16)⟩, if_pos c_17, hclzj1, decide_eq_true c_3]
                    exact W.iret (v := (nI (cs_n σ))) hx hb hr (fun t ht hW => ⟨⟨(nI (cs_n σ)), (), rfl, (by rw [e]), show va_P D vwCl (cw a k _) t.heap from (by rw [ht]; exact (by rw [e]; exact hP))⟩, hS.F ht⟩) hS.2.2 dX2_add_82
                  · refine lv_bipush (v := (-12)) hx hb dX2_add_68 (by decide) ?_
                    have e : a_add σ (nI zj1) zx2 zx3 = ((-12), σ) := by rw [a_add, if_pos c_2, if_pos ⟨c_11, c_12, c_13, c_14, (fun _ => c_16)⟩, if_neg c_17]
                    exact W.iret (v := (-12)) hx hb hr (fun t ht hW => ⟨⟨(-12), (), rfl, (by rw [e]), show va_P D vwCl (cw a k _) t.heap from (by rw [ht]; exact (by rw [e]; exact hP))⟩, hS.F ht⟩) hS.2.2 dX2_add_70
                · refine lv_iconst (v := (-1)) hx hb dX2_add_54 (by decide) ?_
                  have e : a_add σ (nI zj1) zx2 zx3 = ((-1), σ) := by rw [a_add, if_pos c_2, if_neg (fun q => c_16 (q.2.2.2.2 c_3))]
                  exact W.iret (v := (-1)) hx hb hr (fun t ht hW => ⟨⟨(-1), (), rfl, (by rw [e]), show va_P D vwCl (cw a k _) t.heap from (by rw [ht]; exact (by rw [e]; exact hP))⟩, hS.F ht⟩) hS.2.2 dX2_add_55
  · replace c_2 := bI_0.mp c_2
    refine lv_bipush (v := (-14)) hx hb dX2_add_11 (by decide) ?_
    have e : a_add σ zx1 zx2 zx3 = ((-14), σ) := by rw [a_add, if_neg (by rw [c_2]; exact Bool.false_ne_true)]
    exact W.iret (v := (-14)) hx hb hr (fun t ht hW => ⟨⟨(-14), (), rfl, (by rw [e]), show va_P D vwCl (cw a k _) t.heap from (by rw [ht]; exact (by rw [e]; exact hP))⟩, hS.F ht⟩) hS.2.2 dX2_add_13
set_option maxHeartbeats 4000000 in
set_option maxRecDepth 100000 in
theorem c_X2_implement (l : Launch) (D : va_G) (a : Nat → Nat) (k : Nat → ClassId) (σ : CS) (hinj : cInj a) (hok : cok σ) (zx1 zx2 : Int32) : Met l yX2_implement wsX2_implement (rmC 4 91) (cP D a k σ [.ref (a 0), .int zx1, .int zx2]) (wrI D a k ((a_impl σ zx1 zx2).1) ((a_impl σ zx1 zx2).2)) 0 0 (ca a) := by
  refine Met.ofW (cc := cX2_implement) (maxL := 3) (ret := (some .int)) (by decide) rfl ?_
  intro p e s m args below meth c s₁ B hml hv
  obtain ⟨rfl, hP, hK⟩ := hv
  have hx := B.exec
  have hb := B.bytes
  have hr := B.returns
  have hts := atoms_spec (ws := wsX2_implement) B.pre
  have hown : s.vm.findClass RX2 = some m.cls := findClass_of_methodNamed B.named
  have hlocks := B.notSynchronized
  clear B
  have hl := lv_entry ([.ref (a 0), .int zx1, .int zx2]) (n := 3) (Nat.le_of_ble_eq_true rfl)
  rw [lg_entry_eq]
  generalize (lg_sl ([.ref (a 0), .int zx1, .int zx2]) ++ List.replicate (3 - (lg_sl ([.ref (a 0), .int zx1, .int zx2])).length) Slot.unset).toArray = ls at hl ⊢
  replace hl : lv_has ls 3 [(0, .ref (a 0)), (1, .int zx1), (2, .int zx2)] := hl
  refine gen_start (A := (ca a)) (fun H locs hP hS => ?_) hP
  have hD : va_D (ca a) (cw a k σ) := cw_D hinj
  obtain ⟨hb0, ⟨hb1, hb2, hb3, hb4, hb5, hb6⟩, hb7, hb8⟩ := id hok
  refine lv_aload_n hx hb dX2_implement_0 rfl (lv_at hl 0 rfl) ?_
  refine va_get (D := D) (ci := 3) (v := .ref (a 1)) (C := RX2) (T := TX2) (N := 2) hx hb hts (by decide +kernel) hown hK.1 hP 0 rfl rfl 0 (by decide) (hts (.fieldLink RX2 10 "ChooseTree" "classes" "LChooseTree$Classes;") (by decide +kernel)) (fun _ h9 => h9) rfl dX2_implement_1 ?_
  refine lv_iload_n hx hb dX2_implement_4 rfl (lv_at hl 1 rfl) ?_
  refine va_calli (va_runV (As := [.int zx1]) (rest := []) ⟨hx, hb, hml, hown, hts⟩ (c_X0_isLatest l D a k σ zx1) (cwV 1 hts gX2_implement_X0_isLatest rfl rfl rfl (by decide +kernel) ⟨Nat.le_of_ble_eq_true rfl, Nat.le_of_ble_eq_true rfl⟩) (cP_V hK hP 1 1 rfl rfl) rfl rfl hl.1 rfl (lv_room (Nat.le_of_ble_eq_true rfl)) dX2_implement_5 ⟨Nat.le_of_ble_eq_true rfl, Nat.le_of_ble_eq_true rfl⟩) hS (fun _ _ h => h.elim) (fun _ h => h.elim) (fun r_1 u t H1 locs ht hvm hw hB hz1 hk1 hS => ?_)
  replace hP := ro_kept hP hk1
  obtain rfl : r_1 = _ := hw
  clear hk1 hz1 hvm ht hB
  generalize H1 = H at hP hS ⊢
  refine lv_if_eq (tgt := 27) hx hb dX2_implement_8 (by decide) (fun c_2 => ?_) (fun c_2 => ?_)
  · replace c_2 := bI_0.mp c_2
    refine lv_bipush (v := (-14)) hx hb dX2_implement_27 (by decide) ?_
    have e : a_impl σ zx1 zx2 = ((-14), σ) := by rw [a_impl, if_neg (fun q => absurd q.1 (by rw [c_2]; exact Bool.false_ne_true))]
    exact W.iret (v := (-14)) hx hb hr (fun t ht hW => ⟨⟨(-14), (), rfl, (by rw [e]), show va_P D vwCl (cw a k _) t.heap from (by rw [ht]; exact (by rw [e]; exact hP))⟩, hS.F ht⟩) hS.2.2 dX2_implement_29
  · replace c_2 := bI_n0.mp c_2
    have e1 := s_isLatest_of hok c_2
    subst e1
    refine lv_iload_n hx hb dX2_implement_11 rfl (lv_at hl 2 rfl) ?_
    refine lv_iload_n hx hb dX2_implement_12 rfl (lv_at hl 1 rfl) ?_
    refine lv_icmp_eq (tgt := 27) hx hb dX2_implement_13 (by decide) (fun c_3 => ?_) (fun c_3 => ?_)
    · refine lv_bipush (v := (-14)) hx hb dX2_implement_27 (by decide) ?_
      have e : a_impl σ (nI (cs_n σ - 1)) zx2 = ((-14), σ) := by rw [a_impl, if_neg (fun q => q.2.1 c_3)]
      exact W.iret (v := (-14)) hx hb hr (fun t ht hW => ⟨⟨(-14), (), rfl, (by rw [e]), show va_P D vwCl (cw a k _) t.heap from (by rw [ht]; exact (by rw [e]; exact hP))⟩, hS.F ht⟩) hS.2.2 dX2_implement_29
    · refine lv_aload_n hx hb dX2_implement_16 rfl (lv_at hl 0 rfl) ?_
      refine va_get (D := D) (ci := 3) (v := .ref (a 1)) (C := RX2) (T := TX2) (N := 2) hx hb hts (by decide +kernel) hown hK.1 hP 0 rfl rfl 0 (by decide) (hts (.fieldLink RX2 10 "ChooseTree" "classes" "LChooseTree$Classes;") (by decide +kernel)) (fun _ h9 => h9) rfl dX2_implement_17 ?_
      refine lv_iload_n hx hb dX2_implement_20 rfl (lv_at hl 2 rfl) ?_
      refine va_calli (va_runV (As := [.int zx2]) (rest := []) ⟨hx, hb, hml, hown, hts⟩ (c_X0_isFace l D a k σ hok zx2) (cwV 1 hts gX2_implement_X0_isFace rfl rfl rfl (by decide +kernel) ⟨Nat.le_of_ble_eq_true rfl, Nat.le_of_ble_eq_true rfl⟩) (cP_V hK hP 1 1 rfl rfl) rfl rfl hl.1 rfl (lv_room (Nat.le_of_ble_eq_true rfl)) dX2_implement_21 ⟨Nat.le_of_ble_eq_true rfl, Nat.le_of_ble_eq_true rfl⟩) hS (fun _ _ h => h.elim) (fun _ h => h.elim) (fun r_4 u t H1 locs ht hvm hw hB hz1 hk1 hS => ?_)
      replace hP := ro_kept hP hk1
      obtain rfl : r_4 = _ := hw
      clear hk1 hz1 hvm ht hB
      generalize H1 = H at hP hS ⊢
      refine lv_if_ne (tgt := 30) hx hb dX2_implement_24 (by decide) (fun c_5 => ?_) (fun c_5 => ?_)
      · replace c_5 := bI_n0.mp c_5
        obtain ⟨zj2, hzj2, ezj2⟩ := s_isFace_of hok c_5
        subst ezj2
        have hclzj2 := nI_clamp (n := zj2) (by omega)
        refine lv_aload_n hx hb dX2_implement_30 rfl (lv_at hl 0 rfl) ?_
        refine va_get (D := D) (ci := 3) (v := .ref (a 1)) (C := RX2) (T := TX2) (N := 2) hx hb hts (by decide +kernel) hown hK.1 hP 0 rfl rfl 0 (by decide) (hts (.fieldLink RX2 10 "ChooseTree" "classes" "LChooseTree$Classes;") (by decide +kernel)) (fun _ h9 => h9) rfl dX2_implement_31 ?_
        refine lv_iload_n hx hb dX2_implement_34 rfl (lv_at hl 2 rfl) ?_
        refine va_calli (va_runV (As := [.int (nI zj2)]) (rest := []) ⟨hx, hb, hml, hown, hts⟩ (c_X0_latestImplements l D a k σ zj2) (cwV 1 hts gX2_implement_X0_latestImplements rfl rfl rfl (by decide +kernel) ⟨Nat.le_of_ble_eq_true rfl, Nat.le_of_ble_eq_true rfl⟩) (cP_V hK hP 1 1 rfl rfl) rfl rfl hl.1 rfl (lv_room (Nat.le_of_ble_eq_true rfl)) dX2_implement_35 ⟨Nat.le_of_ble_eq_true rfl, Nat.le_of_ble_eq_true rfl⟩) hS (fun _ _ h => h.elim) (fun _ h => h.elim) (fun r_6 u t H1 locs ht hvm hw hB hz1 hk1 hS => ?_)
        replace hP := ro_kept hP hk1
        obtain rfl : r_6 = _ := hw
        clear hk1 hz1 hvm ht hB
        generalize H1 = H at hP hS ⊢
        refine lv_if_ne (tgt := 53) hx hb dX2_implement_38 (by decide) (fun c_7 => ?_) (fun c_7 => ?_)
        · replace c_7 := bI_n0.mp c_7
          refine lv_iconst (v := (-1)) hx hb dX2_implement_53 (by decide) ?_
          have e : a_impl σ (nI (cs_n σ - 1)) (nI zj2) = ((-1), σ) := by rw [a_impl, if_pos ⟨c_2, c_3, c_5⟩, hclzj2, if_neg (fun q => absurd (q.1.symm.trans c_7) Bool.false_ne_true)]
          exact W.iret (v := (-1)) hx hb hr (fun t ht hW => ⟨⟨(-1), (), rfl, (by rw [e]), show va_P D vwCl (cw a k _) t.heap from (by rw [ht]; exact (by rw [e]; exact hP))⟩, hS.F ht⟩) hS.2.2 dX2_implement_54
        · replace c_7 := bI_0.mp c_7
          refine lv_aload_n hx hb dX2_implement_41 rfl (lv_at hl 0 rfl) ?_
          refine va_get (D := D) (ci := 3) (v := .ref (a 2)) (C := RX2) (T := TX2) (N := 2) hx hb hts (by decide +kernel) hown hK.1 hP 0 rfl rfl 1 (by decide) (hts (.fieldLink RX2 19 "ChooseTree" "methods" "LChooseTree$Methods;") (by decide +kernel)) (fun _ h9 => h9) rfl dX2_implement_42 ?_
          refine va_get (D := D) (ci := 2) (v := .ref (a 13)) (C := RX1) (T := TX1) (N := 7) hx hb hts (by decide +kernel) hown hK.1 hP 2 rfl rfl 4 (by decide) (hts (.fieldLink RX2 44 "ChooseTree$Methods" "amount" "[I") (by decide +kernel)) (fun _ h9 => h9) rfl dX2_implement_45 ?_
          refine lv_iload_n hx hb dX2_implement_48 rfl (lv_at hl 1 rfl) ?_
          refine na_iald (D := D) hx hb hK.1 hP 13 10 rfl rfl (i := (cs_n σ - 1)) (by omega) (by decide) dX2_implement_49 ?_
          refine lv_if_le (tgt := 55) hx hb dX2_implement_50 (by decide) (fun c_8 => ?_) (fun c_8 => ?_)
          · refine lv_aload_n hx hb dX2_implement_55 rfl (lv_at hl 0 rfl) ?_
            refine va_get (D := D) (ci := 3) (v := .ref (a 1)) (C := RX2) (T := TX2) (N := 2) hx hb hts (by decide +kernel) hown hK.1 hP 0 rfl rfl 0 (by decide) (hts (.fieldLink RX2 10 "ChooseTree" "classes" "LChooseTree$Classes;") (by decide +kernel)) (fun _ h9 => h9) rfl dX2_implement_56 ?_
            refine va_calli (va_runV (As := []) (rest := []) ⟨hx, hb, hml, hown, hts⟩ (c_X0_ownAmount l D a k σ ) (cwV 0 hts gX2_implement_X0_ownAmount rfl rfl rfl (by decide +kernel) ⟨Nat.le_of_ble_eq_true rfl, Nat.le_of_ble_eq_true rfl⟩) (cP_V hK hP 1 1 rfl rfl) rfl rfl hl.1 rfl (lv_room (Nat.le_of_ble_eq_true rfl)) dX2_implement_59 ⟨Nat.le_of_ble_eq_true rfl, Nat.le_of_ble_eq_true rfl⟩) hS (fun _ _ h => h.elim) (fun _ h => h.elim) (fun r_9 u t H1 locs ht hvm hw hB hz1 hk1 hS => ?_)
            replace hP := ro_kept hP hk1
            obtain rfl : r_9 = _ := hw
            clear hk1 hz1 hvm ht hB
            generalize H1 = H at hP hS ⊢
            refine lv_bipush (v := (nI 20)) hx hb dX2_implement_62 (by decide) ?_
            refine lv_icmp_lt (tgt := 70) hx hb dX2_implement_64 (by decide) (fun c_10 => ?_) (fun c_10 => ?_)
            · refine lv_aload_n hx hb dX2_implement_70 rfl (lv_at hl 0 rfl) ?_
              refine va_get (D := D) (ci := 3) (v := .ref (a 1)) (C := RX2) (T := TX2) (N := 2) hx hb hts (by decide +kernel) hown hK.1 hP 0 rfl rfl 0 (by decide) (hts (.fieldLink RX2 10 "ChooseTree" "classes" "LChooseTree$Classes;") (by decide +kernel)) (fun _ h9 => h9) rfl dX2_implement_71 ?_
              refine lv_iload_n hx hb dX2_implement_74 rfl (lv_at hl 1 rfl) ?_
              refine lv_iload_n hx hb dX2_implement_75 rfl (lv_at hl 2 rfl) ?_
              refine va_callv (va_runV (As := [.int (nI (cs_n σ - 1)), .int (nI zj2)]) (rest := []) ⟨hx, hb, hml, hown, hts⟩ (c_X0_giveFace l D a k σ hinj hok (cs_n σ - 1) zj2 rfl (by omega)) (cwV 2 hts gX2_implement_X0_giveFace rfl rfl rfl (by decide +kernel) ⟨Nat.le_of_ble_eq_true rfl, Nat.le_of_ble_eq_true rfl⟩) (cP_V hK hP 1 1 rfl rfl) rfl rfl hl.1 rfl (lv_room (Nat.le_of_ble_eq_true rfl)) dX2_implement_76 ⟨Nat.le_of_ble_eq_true rfl, Nat.le_of_ble_eq_true rfl⟩) hS (fun _ _ h => h) (fun _ h => h) (fun u t H1 locs ht hvm hw hB hz1 hk1 hS => ?_)
              replace hB : va_P D vwCl (cw a k (s_giveFace σ (cs_n σ - 1) zj2)) t.heap := hB
              rw [ht] at hB
              clear hk1 hz1 hvm ht hP hD hw
              have hP := hB
              clear hB
              have hP : va_P D vwCl (cw a k (s_giveFace σ (cs_n σ - 1) zj2)) H1 := hP
              have hD : va_D (ca a) (cw a k (s_giveFace σ (cs_n σ - 1) zj2)) := cw_D hinj
              generalize H1 = H at hP hS ⊢
              refine lv_aload_n hx hb dX2_implement_79 rfl (lv_at hl 0 rfl) ?_
              refine va_get (D := D) (ci := 3) (v := .ref (a 1)) (C := RX2) (T := TX2) (N := 2) hx hb hts (by decide +kernel) hown hK.1 hP 0 rfl rfl 0 (by decide) (hts (.fieldLink RX2 10 "ChooseTree" "classes" "LChooseTree$Classes;") (by decide +kernel)) (fun _ h9 => h9) rfl dX2_implement_80 ?_
              refine va_calli (va_runV (As := []) (rest := []) ⟨hx, hb, hml, hown, hts⟩ (c_X0_ownAmount l D a k (s_giveFace σ (cs_n σ - 1) zj2) ) (cwV 0 hts gX2_implement_X0_ownAmount rfl rfl rfl (by decide +kernel) ⟨Nat.le_of_ble_eq_true rfl, Nat.le_of_ble_eq_true rfl⟩) (cP_V hK hP 1 1 rfl rfl) rfl rfl hl.1 rfl (lv_room (Nat.le_of_ble_eq_true rfl)) dX2_implement_83 ⟨Nat.le_of_ble_eq_true rfl, Nat.le_of_ble_eq_true rfl⟩) hS (fun _ _ h => h.elim) (fun _ h => h.elim) (fun r_12 u t H1 locs ht hvm hw hB hz1 hk1 hS => ?_)
              replace hP := ro_kept hP hk1
              obtain rfl : r_12 = _ := hw
              clear hk1 hz1 hvm ht hB
              generalize H1 = H at hP hS ⊢
              have e : a_impl σ (nI (cs_n σ - 1)) (nI zj2) = ((j_bits (cs_own (s_giveFace σ (cs_n σ - 1) zj2))), (s_giveFace σ (cs_n σ - 1) zj2)) := by rw [a_impl, if_pos ⟨c_2, c_3, c_5⟩, hclzj2, if_pos ⟨c_7, c_8⟩, if_pos c_10]
              exact W.iret (v := (j_bits (cs_own (s_giveFace σ (cs_n σ - 1) zj2)))) hx hb hr (fun t ht hW => ⟨⟨(j_bits (cs_own (s_giveFace σ (cs_n σ - 1) zj2))), (), rfl, (by rw [e]), show va_P D vwCl (cw a k _) t.heap from (by rw [ht]; exact (by rw [e]; exact hP))⟩, hS.F ht⟩) hS.2.2 dX2_implement_86
            · refine lv_bipush (v := (-12)) hx hb dX2_implement_67 (by decide) ?_
              have e : a_impl σ (nI (cs_n σ - 1)) (nI zj2) = ((-12), σ) := by rw [a_impl, if_pos ⟨c_2, c_3, c_5⟩, hclzj2, if_pos ⟨c_7, c_8⟩, if_neg c_10]
              exact W.iret (v := (-12)) hx hb hr (fun t ht hW => ⟨⟨(-12), (), rfl, (by rw [e]), show va_P D vwCl (cw a k _) t.heap from (by rw [ht]; exact (by rw [e]; exact hP))⟩, hS.F ht⟩) hS.2.2 dX2_implement_69
          · refine lv_iconst (v := (-1)) hx hb dX2_implement_53 (by decide) ?_
            have e : a_impl σ (nI (cs_n σ - 1)) (nI zj2) = ((-1), σ) := by rw [a_impl, if_pos ⟨c_2, c_3, c_5⟩, hclzj2, if_neg (fun q => c_8 q.2)]
            exact W.iret (v := (-1)) hx hb hr (fun t ht hW => ⟨⟨(-1), (), rfl, (by rw [e]), show va_P D vwCl (cw a k _) t.heap from (by rw [ht]; exact (by rw [e]; exact hP))⟩, hS.F ht⟩) hS.2.2 dX2_implement_54
      · replace c_5 := bI_0.mp c_5
        refine lv_bipush (v := (-14)) hx hb dX2_implement_27 (by decide) ?_
        have e : a_impl σ (nI (cs_n σ - 1)) zx2 = ((-14), σ) := by rw [a_impl, if_neg (fun q => absurd q.2.2 (by rw [c_5]; exact Bool.false_ne_true))]
        exact W.iret (v := (-14)) hx hb hr (fun t ht hW => ⟨⟨(-14), (), rfl, (by rw [e]), show va_P D vwCl (cw a k _) t.heap from (by rw [ht]; exact (by rw [e]; exact hP))⟩, hS.F ht⟩) hS.2.2 dX2_implement_29
set_option maxHeartbeats 4000000 in
set_option maxRecDepth 100000 in
theorem c_X2_method (l : Launch) (D : va_G) (a : Nat → Nat) (k : Nat → ClassId) (σ : CS) (hinj : cInj a) (hok : cok σ) (zx1 zx2 zx3 zx4 : Int32) : Met l yX2_method wsX2_method (rmC 1 25) (cP D a k σ [.ref (a 0), .int zx1, .int zx2, .int zx3, .int zx4]) (wrI D a k ((a_meth σ zx1 zx2 zx3 zx4).1) ((a_meth σ zx1 zx2 zx3 zx4).2)) 0 0 (ca a) := by
  refine Met.ofW (cc := cX2_method) (maxL := 5) (ret := (some .int)) (by decide) rfl ?_
  intro p e s m args below meth c s₁ B hml hv
  obtain ⟨rfl, hP, hK⟩ := hv
  have hx := B.exec
  have hb := B.bytes
  have hr := B.returns
  have hts := atoms_spec (ws := wsX2_method) B.pre
  have hown : s.vm.findClass RX2 = some m.cls := findClass_of_methodNamed B.named
  have hlocks := B.notSynchronized
  clear B
  have hl := lv_entry ([.ref (a 0), .int zx1, .int zx2, .int zx3, .int zx4]) (n := 5) (Nat.le_of_ble_eq_true rfl)
  rw [lg_entry_eq]
  generalize (lg_sl ([.ref (a 0), .int zx1, .int zx2, .int zx3, .int zx4]) ++ List.replicate (5 - (lg_sl ([.ref (a 0), .int zx1, .int zx2, .int zx3, .int zx4])).length) Slot.unset).toArray = ls at hl ⊢
  replace hl : lv_has ls 5 [(0, .ref (a 0)), (1, .int zx1), (2, .int zx2), (3, .int zx3), (4, .int zx4)] := hl
  refine gen_start (A := (ca a)) (fun H locs hP hS => ?_) hP
  have hD : va_D (ca a) (cw a k σ) := cw_D hinj
  obtain ⟨hb0, ⟨hb1, hb2, hb3, hb4, hb5, hb6⟩, hb7, hb8⟩ := id hok
  refine lv_aload_n hx hb dX2_method_0 rfl (lv_at hl 0 rfl) ?_
  refine va_get (D := D) (ci := 3) (v := .ref (a 1)) (C := RX2) (T := TX2) (N := 2) hx hb hts (by decide +kernel) hown hK.1 hP 0 rfl rfl 0 (by decide) (hts (.fieldLink RX2 10 "ChooseTree" "classes" "LChooseTree$Classes;") (by decide +kernel)) (fun _ h9 => h9) rfl dX2_method_1 ?_
  refine lv_iload_n hx hb dX2_method_4 rfl (lv_at hl 1 rfl) ?_
  refine va_calli (va_runV (As := [.int zx1]) (rest := []) ⟨hx, hb, hml, hown, hts⟩ (c_X0_isLatest l D a k σ zx1) (cwV 1 hts gX2_method_X0_isLatest rfl rfl rfl (by decide +kernel) ⟨Nat.le_of_ble_eq_true rfl, Nat.le_of_ble_eq_true rfl⟩) (cP_V hK hP 1 1 rfl rfl) rfl rfl hl.1 rfl (lv_room (Nat.le_of_ble_eq_true rfl)) dX2_method_5 ⟨Nat.le_of_ble_eq_true rfl, Nat.le_of_ble_eq_true rfl⟩) hS (fun _ _ h => h.elim) (fun _ h => h.elim) (fun r_1 u t H1 locs ht hvm hw hB hz1 hk1 hS => ?_)
  replace hP := ro_kept hP hk1
  obtain rfl : r_1 = _ := hw
  clear hk1 hz1 hvm ht hB
  generalize H1 = H at hP hS ⊢
  refine lv_if_eq (tgt := 15) hx hb dX2_method_8 (by decide) (fun c_2 => ?_) (fun c_2 => ?_)
  · replace c_2 := bI_0.mp c_2
    refine lv_bipush (v := (-14)) hx hb dX2_method_15 (by decide) ?_
    have e : a_meth σ zx1 zx2 zx3 zx4 = ((-14), σ) := by rw [a_meth, if_neg (fun q => absurd q.1 (by rw [c_2]; exact Bool.false_ne_true))]
    exact W.iret (v := (-14)) hx hb hr (fun t ht hW => ⟨⟨(-14), (), rfl, (by rw [e]), show va_P D vwCl (cw a k _) t.heap from (by rw [ht]; exact (by rw [e]; exact hP))⟩, hS.F ht⟩) hS.2.2 dX2_method_17
  · replace c_2 := bI_n0.mp c_2
    have e1 := s_isLatest_of hok c_2
    subst e1
    refine lv_iload_n hx hb dX2_method_11 rfl (lv_at hl 1 rfl) ?_
    refine lv_if_ne (tgt := 18) hx hb dX2_method_12 (by decide) (fun c_3 => ?_) (fun c_3 => ?_)
    · refine lv_iload_n hx hb dX2_method_18 rfl (lv_at hl 2 rfl) ?_
      refine lv_if_lt (tgt := 46) hx hb dX2_method_19 (by decide) (fun c_4 => ?_) (fun c_4 => ?_)
      · refine lv_iconst (v := (-1)) hx hb dX2_method_46 (by decide) ?_
        have e : a_meth σ (nI (cs_n σ - 1)) zx2 zx3 zx4 = ((-1), σ) := by rw [a_meth, if_pos ⟨c_2, c_3⟩, if_neg (fun q => q.1 c_4)]
        exact W.iret (v := (-1)) hx hb hr (fun t ht hW => ⟨⟨(-1), (), rfl, (by rw [e]), show va_P D vwCl (cw a k _) t.heap from (by rw [ht]; exact (by rw [e]; exact hP))⟩, hS.F ht⟩) hS.2.2 dX2_method_47
      · refine lv_iload_n hx hb dX2_method_22 rfl (lv_at hl 2 rfl) ?_
        refine lv_bipush (v := (nI 32)) hx hb dX2_method_23 (by decide) ?_
        refine lv_icmp_ge (tgt := 46) hx hb dX2_method_25 (by decide) (fun c_5 => ?_) (fun c_5 => ?_)
        · refine lv_iconst (v := (-1)) hx hb dX2_method_46 (by decide) ?_
          have e : a_meth σ (nI (cs_n σ - 1)) zx2 zx3 zx4 = ((-1), σ) := by rw [a_meth, if_pos ⟨c_2, c_3⟩, if_neg (fun q => q.2.1 c_5)]
          exact W.iret (v := (-1)) hx hb hr (fun t ht hW => ⟨⟨(-1), (), rfl, (by rw [e]), show va_P D vwCl (cw a k _) t.heap from (by rw [ht]; exact (by rw [e]; exact hP))⟩, hS.F ht⟩) hS.2.2 dX2_method_47
        · refine lv_iload_n hx hb dX2_method_28 rfl (lv_at hl 3 rfl) ?_
          refine lv_iload hx hb dX2_method_29 (lv_at hl 4 rfl) ?_
          refine lv_aload_n hx hb dX2_method_31 rfl (lv_at hl 0 rfl) ?_
          refine va_get (D := D) (ci := 3) (v := .ref (a 1)) (C := RX2) (T := TX2) (N := 2) hx hb hts (by decide +kernel) hown hK.1 hP 0 rfl rfl 0 (by decide) (hts (.fieldLink RX2 10 "ChooseTree" "classes" "LChooseTree$Classes;") (by decide +kernel)) (fun _ h9 => h9) rfl dX2_method_32 ?_
          refine va_get (D := D) (ci := 1) (v := .ref (a 5)) (C := RX0) (T := TX0) (N := 10) hx hb hts (by decide +kernel) hown hK.1 hP 1 rfl rfl 3 (by decide) (hts (.fieldLink RX2 56 "ChooseTree$Classes" "face" "[Z") (by decide +kernel)) (fun _ h9 => h9) rfl dX2_method_35 ?_
          refine lv_iload_n hx hb dX2_method_38 rfl (lv_at hl 1 rfl) ?_
          refine na_zald (D := D) hx hb hK.1 hP 5 2 rfl rfl (i := (cs_n σ - 1)) (by omega) (by decide) dX2_method_39 ?_
          refine va_calli (va_runS (As := [.int zx3, .int zx4, .int ((cs_face σ) (cs_n σ - 1))]) (rest := []) ⟨hx, hb, hml, hown, hts⟩ (c_X2_fits l D a k σ zx3 zx4 (cs_face σ (cs_n σ - 1))) (va_cwS 3 hts gX2_method_X2_fits rfl rfl rfl (by decide +kernel) ⟨Nat.le_of_ble_eq_true rfl, Nat.le_of_ble_eq_true rfl⟩) (cP_S hK hP) rfl rfl hl.1 rfl (lv_room (Nat.le_of_ble_eq_true rfl)) dX2_method_40 ⟨Nat.le_of_ble_eq_true rfl, Nat.le_of_ble_eq_true rfl⟩) hS (fun _ _ h => h.elim) (fun _ h => h.elim) (fun r_6 u t H1 locs ht hvm hw hB hz1 hk1 hS => ?_)
          replace hP := ro_kept hP hk1
          obtain rfl : r_6 = _ := hw
          clear hk1 hz1 hvm ht hB
          generalize H1 = H at hP hS ⊢
          refine lv_if_ne (tgt := 48) hx hb dX2_method_43 (by decide) (fun c_7 => ?_) (fun c_7 => ?_)
          · replace c_7 := bI_n0.mp c_7
            refine lv_aload_n hx hb dX2_method_48 rfl (lv_at hl 0 rfl) ?_
            refine va_get (D := D) (ci := 3) (v := .ref (a 2)) (C := RX2) (T := TX2) (N := 2) hx hb hts (by decide +kernel) hown hK.1 hP 0 rfl rfl 1 (by decide) (hts (.fieldLink RX2 19 "ChooseTree" "methods" "LChooseTree$Methods;") (by decide +kernel)) (fun _ h9 => h9) rfl dX2_method_49 ?_
            refine lv_iload_n hx hb dX2_method_52 rfl (lv_at hl 1 rfl) ?_
            refine lv_iload_n hx hb dX2_method_53 rfl (lv_at hl 2 rfl) ?_
            refine va_calli (va_runV (As := [.int (nI (cs_n σ - 1)), .int zx2]) (rest := []) ⟨hx, hb, hml, hown, hts⟩ (c_X1_inClass l D a k σ hok (cs_n σ - 1) (by omega) zx2) (cwV 2 hts gX2_method_X1_inClass rfl rfl rfl (by decide +kernel) ⟨Nat.le_of_ble_eq_true rfl, Nat.le_of_ble_eq_true rfl⟩) (cP_V hK hP 2 2 rfl rfl) rfl rfl hl.1 rfl (lv_room (Nat.le_of_ble_eq_true rfl)) dX2_method_54 ⟨Nat.le_of_ble_eq_true rfl, Nat.le_of_ble_eq_true rfl⟩) hS (fun _ _ h => h.elim) (fun _ h => h.elim) (fun r_8 u t H1 locs ht hvm hw hB hz1 hk1 hS => ?_)
            replace hP := ro_kept hP hk1
            obtain rfl : r_8 = _ := hw
            clear hk1 hz1 hvm ht hB
            generalize H1 = H at hP hS ⊢
            refine lv_iconst (v := (-1)) hx hb dX2_method_57 (by decide) ?_
            refine lv_icmp_eq (tgt := 63) hx hb dX2_method_58 (by decide) (fun c_9 => ?_) (fun c_9 => ?_)
            · refine lv_aload_n hx hb dX2_method_63 rfl (lv_at hl 0 rfl) ?_
              refine va_get (D := D) (ci := 3) (v := .ref (a 2)) (C := RX2) (T := TX2) (N := 2) hx hb hts (by decide +kernel) hown hK.1 hP 0 rfl rfl 1 (by decide) (hts (.fieldLink RX2 19 "ChooseTree" "methods" "LChooseTree$Methods;") (by decide +kernel)) (fun _ h9 => h9) rfl dX2_method_64 ?_
              refine va_get (D := D) (ci := 2) (v := .int (nI (cs_m σ))) (C := RX1) (T := TX1) (N := 7) hx hb hts (by decide +kernel) hown hK.1 hP 2 rfl rfl 0 (by decide) (hts (.fieldLink RX2 68 "ChooseTree$Methods" "count" "I") (by decide +kernel)) (fun _ h9 => h9) rfl dX2_method_67 ?_
              refine lv_sipush (v := (nI 400)) hx hb dX2_method_70 (by decide) ?_
              refine lv_icmp_lt (tgt := 79) hx hb dX2_method_73 (by decide) (fun c_10 => ?_) (fun c_10 => ?_)
              · have h400 : cs_m σ < 400 := (nI_ltI (by omega) (by omega)).mp c_10
                refine lv_aload_n hx hb dX2_method_79 rfl (lv_at hl 0 rfl) ?_
                refine va_get (D := D) (ci := 3) (v := .ref (a 2)) (C := RX2) (T := TX2) (N := 2) hx hb hts (by decide +kernel) hown hK.1 hP 0 rfl rfl 1 (by decide) (hts (.fieldLink RX2 19 "ChooseTree" "methods" "LChooseTree$Methods;") (by decide +kernel)) (fun _ h9 => h9) rfl dX2_method_80 ?_
                refine lv_iload_n hx hb dX2_method_83 rfl (lv_at hl 1 rfl) ?_
                refine lv_iload_n hx hb dX2_method_84 rfl (lv_at hl 2 rfl) ?_
                refine lv_iload_n hx hb dX2_method_85 rfl (lv_at hl 3 rfl) ?_
                refine lv_iload hx hb dX2_method_86 (lv_at hl 4 rfl) ?_
                refine va_calli (va_runV (As := [.int (nI (cs_n σ - 1)), .int zx2, .int zx3, .int zx4]) (rest := []) ⟨hx, hb, hml, hown, hts⟩ (c_X1_append l D a k σ hinj (cs_n σ - 1) (by omega) h400 zx2 zx3 zx4) (cwV 4 hts gX2_method_X1_append rfl rfl rfl (by decide +kernel) ⟨Nat.le_of_ble_eq_true rfl, Nat.le_of_ble_eq_true rfl⟩) (cP_V hK hP 2 2 rfl rfl) rfl rfl hl.1 rfl (lv_room (Nat.le_of_ble_eq_true rfl)) dX2_method_88 ⟨Nat.le_of_ble_eq_true rfl, Nat.le_of_ble_eq_true rfl⟩) hS (fun _ _ h => h) (fun _ h => h) (fun r_11 u t H1 locs ht hvm hw hB hz1 hk1 hS => ?_)
                replace hB : va_P D vwCl (cw a k (m_append σ (cs_n σ - 1) zx2 zx3 zx4)) t.heap := hB
                rw [ht] at hB
                obtain rfl : r_11 = _ := hw
                clear hk1 hz1 hvm ht hP hD
                have hP := hB
                clear hB
                have hP : va_P D vwCl (cw a k (m_append σ (cs_n σ - 1) zx2 zx3 zx4)) H1 := hP
                have hD : va_D (ca a) (cw a k (m_append σ (cs_n σ - 1) zx2 zx3 zx4)) := cw_D hinj
                generalize H1 = H at hP hS ⊢
                have e : a_meth σ (nI (cs_n σ - 1)) zx2 zx3 zx4 = ((nI (cs_m σ)), (m_append σ (cs_n σ - 1) zx2 zx3 zx4)) := by rw [a_meth, if_pos ⟨c_2, c_3⟩, if_pos ⟨c_4, c_5, c_7⟩, if_pos c_9, if_pos c_10]
                exact W.iret (v := (nI (cs_m σ))) hx hb hr (fun t ht hW => ⟨⟨(nI (cs_m σ)), (), rfl, (by rw [e]), show va_P D vwCl (cw a k _) t.heap from (by rw [ht]; exact (by rw [e]; exact hP))⟩, hS.F ht⟩) hS.2.2 dX2_method_91
              · refine lv_bipush (v := (-12)) hx hb dX2_method_76 (by decide) ?_
                have e : a_meth σ (nI (cs_n σ - 1)) zx2 zx3 zx4 = ((-12), σ) := by rw [a_meth, if_pos ⟨c_2, c_3⟩, if_pos ⟨c_4, c_5, c_7⟩, if_pos c_9, if_neg c_10]
                exact W.iret (v := (-12)) hx hb hr (fun t ht hW => ⟨⟨(-12), (), rfl, (by rw [e]), show va_P D vwCl (cw a k _) t.heap from (by rw [ht]; exact (by rw [e]; exact hP))⟩, hS.F ht⟩) hS.2.2 dX2_method_78
            · refine lv_iconst (v := (-1)) hx hb dX2_method_61 (by decide) ?_
              have e : a_meth σ (nI (cs_n σ - 1)) zx2 zx3 zx4 = ((-1), σ) := by rw [a_meth, if_pos ⟨c_2, c_3⟩, if_pos ⟨c_4, c_5, c_7⟩, if_neg c_9]
              exact W.iret (v := (-1)) hx hb hr (fun t ht hW => ⟨⟨(-1), (), rfl, (by rw [e]), show va_P D vwCl (cw a k _) t.heap from (by rw [ht]; exact (by rw [e]; exact hP))⟩, hS.F ht⟩) hS.2.2 dX2_method_62
          · replace c_7 := bI_0.mp c_7
            refine lv_iconst (v := (-1)) hx hb dX2_method_46 (by decide) ?_
            have e : a_meth σ (nI (cs_n σ - 1)) zx2 zx3 zx4 = ((-1), σ) := by rw [a_meth, if_pos ⟨c_2, c_3⟩, if_neg (fun q => absurd q.2.2 (by rw [c_7]; exact Bool.false_ne_true))]
            exact W.iret (v := (-1)) hx hb hr (fun t ht hW => ⟨⟨(-1), (), rfl, (by rw [e]), show va_P D vwCl (cw a k _) t.heap from (by rw [ht]; exact (by rw [e]; exact hP))⟩, hS.F ht⟩) hS.2.2 dX2_method_47
    · refine lv_bipush (v := (-14)) hx hb dX2_method_15 (by decide) ?_
      have e : a_meth σ (nI (cs_n σ - 1)) zx2 zx3 zx4 = ((-14), σ) := by rw [a_meth, if_neg (fun q => q.2 c_3)]
      exact W.iret (v := (-14)) hx hb hr (fun t ht hW => ⟨⟨(-14), (), rfl, (by rw [e]), show va_P D vwCl (cw a k _) t.heap from (by rw [ht]; exact (by rw [e]; exact hP))⟩, hS.F ht⟩) hS.2.2 dX2_method_17
