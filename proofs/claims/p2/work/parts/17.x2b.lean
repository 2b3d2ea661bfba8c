set_option maxHeartbeats 4000000 in
set_option maxRecDepth 100000 in
theorem c_X2_firstInRow (l : Launch) (D : va_G) (a : Nat → Nat) (k : Nat → ClassId) (σ : CS) (hok : cok σ) (zn1 : Nat) (hn1 : zn1 < 60) (zx2 : Int32) : Met l yX2_firstInRow wsX2_firstInRow (rmC 3 66) (cP D a k σ [.ref (a 0), .int (nI zn1), .int zx2]) (roQ (s_firstInRow σ zn1 zx2)) 0 0 (fun _ => False) := by
  refine Met.ofW (cc := cX2_firstInRow) (maxL := 5) (ret := (some .int)) (by decide) rfl ?_
  intro p e s m args below meth c s₁ B hml hv
  obtain ⟨rfl, hP, hK⟩ := hv
  have hx := B.exec
  have hb := B.bytes
  have hr := B.returns
  have hts := atoms_spec (ws := wsX2_firstInRow) B.pre
  have hown : s.vm.findClass RX2 = some m.cls := findClass_of_methodNamed B.named
  have hlocks := B.notSynchronized
  clear B
  have hl := lv_entry ([.ref (a 0), .int (nI zn1), .int zx2]) (n := 5) (Nat.le_of_ble_eq_true rfl)
  rw [lg_entry_eq]
  generalize (lg_sl ([.ref (a 0), .int (nI zn1), .int zx2]) ++ List.replicate (5 - (lg_sl ([.ref (a 0), .int (nI zn1), .int zx2])).length) Slot.unset).toArray = ls at hl ⊢
  replace hl : lv_has ls 5 [(0, .ref (a 0)), (1, .int (nI zn1)), (2, .int zx2)] := hl
  refine gen_start (A := (fun _ => False)) (fun H locs hP hS => ?_) hP
  obtain ⟨hb0, ⟨hb1, hb2, hb3, hb4, hb5, hb6⟩, hb7, hb8⟩ := id hok
  refine lv_iload_n hx hb dX2_firstInRow_0 rfl (lv_at hl 1 rfl) ?_
  refine lv_istore_n (lv' := [(3, .int (nI zn1)), (0, .ref (a 0)), (1, .int (nI zn1)), (2, .int zx2)]) hx hb dX2_firstInRow_1 rfl hl (by decide) rfl (fun ls hl => ?_)
  obtain ⟨n, hn⟩ : ∃ n : Nat, n = zn1 + 1 := ⟨_, rfl⟩
  have hE : n ≤ 60 := by omega
  have hres : f_row σ zn1 zx2 n = s_firstInRow σ zn1 zx2 := by rw [hn]; rfl
  replace hl : lv_has ls 5 [(3, .int (nI n - nI 1)), (0, .ref (a 0)), (1, .int (nI zn1)), (2, .int zx2)] := by rw [hn, kpred]; exact hl
  clear hn
  revert hl
  revert hres
  revert hE
  revert hS
  revert hP
  revert ls
  revert locs
  revert H
  induction n with
  | zero =>
    intro H locs ls hP hS hE hres hl
    refine lv_iload_n hx hb dX2_firstInRow_2 rfl (lv_at hl 0 rfl) ?_
    refine lv_if_lt (tgt := 44) hx hb dX2_firstInRow_3 (by decide) (fun c_1 => ?_) (fun c_1 => ?_)
    · refine lv_iconst (v := (-1)) hx hb dX2_firstInRow_44 (by decide) ?_
      exact W.iret (v := (-1)) hx hb hr (fun t ht hW => ⟨⟨(-1), (), rfl, (by rw [← hres]; rfl), trivial⟩, hS.F ht⟩) hS.2.2 dX2_firstInRow_45
    · exact absurd (by decide) c_1
  | succ n ih =>
    intro H locs ls hP hS hE hres hl
    rw [kpred] at hl
    have hn6 : n < 60 := by omega
    refine lv_iload_n hx hb dX2_firstInRow_2 rfl (lv_at hl 0 rfl) ?_
    refine lv_if_lt (tgt := 44) hx hb dX2_firstInRow_3 (by decide) (fun c_2 => ?_) (fun c_2 => ?_)
    · exact absurd c_2 (nI_pos (by omega))
    · refine lv_aload_n hx hb dX2_firstInRow_6 rfl (lv_at hl 1 rfl) ?_
      refine va_get (D := D) (ci := 3) (v := .ref (a 1)) (C := RX2) (T := TX2) (N := 2) hx hb hts (by decide +kernel) hown hK.1 hP 0 rfl rfl 0 (by decide) (hts (.fieldLink RX2 10 "ChooseTree" "classes" "LChooseTree$Classes;") (by decide +kernel)) (fun _ h9 => h9) rfl dX2_firstInRow_7 ?_
      refine lv_iload_n hx hb dX2_firstInRow_10 rfl (lv_at hl 2 rfl) ?_
      refine lv_iload_n hx hb dX2_firstInRow_11 rfl (lv_at hl 0 rfl) ?_
      refine va_calli (va_runV (As := [.int (nI zn1), .int (nI n)]) (rest := []) ⟨hx, hb, hml, hown, hts⟩ (c_X0_inRow l D a k σ zn1 n hn1 hn6) (cwV 2 hts gX2_firstInRow_X0_inRow rfl rfl rfl (by decide +kernel) ⟨Nat.le_of_ble_eq_true rfl, Nat.le_of_ble_eq_true rfl⟩) (cP_V hK hP 1 1 rfl rfl) rfl rfl hl.1 rfl (lv_room (Nat.le_of_ble_eq_true rfl)) dX2_firstInRow_12 ⟨Nat.le_of_ble_eq_true rfl, Nat.le_of_ble_eq_true rfl⟩) hS (fun _ _ h => h.elim) (fun _ h => h.elim) (fun r_3 u t H1 locs ht hvm hw hB hz1 hk1 hS => ?_)
      replace hP := ro_kept hP hk1
      obtain rfl : r_3 = _ := hw
      clear hk1 hz1 hvm ht hB
      generalize H1 = H at hP hS ⊢
      refine lv_if_eq (tgt := 38) hx hb dX2_firstInRow_15 (by decide) (fun c_4 => ?_) (fun c_4 => ?_)
      · replace c_4 := bI_0.mp c_4
        refine lv_iinc (v := ((nI n) - nI 1)) (lv' := [(3, .int ((nI n) - nI 1)), (0, .ref (a 0)), (1, .int (nI zn1)), (2, .int zx2)]) hx hb dX2_firstInRow_38 hl (k := 0) rfl (kdec _) (by decide) rfl (fun ls hl => ?_)
        refine lv_goto (tgt := 2) hx hb dX2_firstInRow_41 (by decide) ?_
        exact ih H locs ls hP hS (by omega) (by rw [← hres]; simp [f_row, c_2, c_4]) (lv_sub hl [0, 1, 2, 3] rfl)
      · replace c_4 := bI_n0.mp c_4
        refine lv_aload_n hx hb dX2_firstInRow_18 rfl (lv_at hl 1 rfl) ?_
        refine va_get (D := D) (ci := 3) (v := .ref (a 2)) (C := RX2) (T := TX2) (N := 2) hx hb hts (by decide +kernel) hown hK.1 hP 0 rfl rfl 1 (by decide) (hts (.fieldLink RX2 19 "ChooseTree" "methods" "LChooseTree$Methods;") (by decide +kernel)) (fun _ h9 => h9) rfl dX2_firstInRow_19 ?_
        refine lv_iload_n hx hb dX2_firstInRow_22 rfl (lv_at hl 0 rfl) ?_
        refine lv_iload_n hx hb dX2_firstInRow_23 rfl (lv_at hl 3 rfl) ?_
        refine va_calli (va_runV (As := [.int (nI n), .int zx2]) (rest := []) ⟨hx, hb, hml, hown, hts⟩ (c_X1_inClass l D a k σ hok n hn6 zx2) (cwV 2 hts gX2_firstInRow_X1_inClass rfl rfl rfl (by decide +kernel) ⟨Nat.le_of_ble_eq_true rfl, Nat.le_of_ble_eq_true rfl⟩) (cP_V hK hP 2 2 rfl rfl) rfl rfl hl.1 rfl (lv_room (Nat.le_of_ble_eq_true rfl)) dX2_firstInRow_24 ⟨Nat.le_of_ble_eq_true rfl, Nat.le_of_ble_eq_true rfl⟩) hS (fun _ _ h => h.elim) (fun _ h => h.elim) (fun r_5 u t H1 locs ht hvm hw hB hz1 hk1 hS => ?_)
        replace hP := ro_kept hP hk1
        obtain rfl : r_5 = _ := hw
        clear hk1 hz1 hvm ht hB
        generalize H1 = H at hP hS ⊢
        refine lv_istore (lv' := [(4, .int (m_inClass σ n zx2)), (3, .int (nI n)), (0, .ref (a 0)), (1, .int (nI zn1)), (2, .int zx2)]) hx hb dX2_firstInRow_27 hl (by decide) rfl (fun ls hl => ?_)
        refine lv_iload hx hb dX2_firstInRow_29 (lv_at hl 0 rfl) ?_
        refine lv_iconst (v := (-1)) hx hb dX2_firstInRow_31 (by decide) ?_
        refine lv_icmp_eq (tgt := 38) hx hb dX2_firstInRow_32 (by decide) (fun c_6 => ?_) (fun c_6 => ?_)
        · refine lv_iinc (v := ((nI n) - nI 1)) (lv' := [(3, .int ((nI n) - nI 1)), (4, .int (m_inClass σ n zx2)), (0, .ref (a 0)), (1, .int (nI zn1)), (2, .int zx2)]) hx hb dX2_firstInRow_38 hl (k := 1) rfl (kdec _) (by decide) rfl (fun ls hl => ?_)
          refine lv_goto (tgt := 2) hx hb dX2_firstInRow_41 (by decide) ?_
          exact ih H locs ls hP hS (by omega) (by rw [← hres]; simp [f_row, c_2, c_4, c_6]) (lv_sub hl [0, 2, 3, 4] rfl)
        · obtain ⟨j, hj, ej⟩ := (m_inClass_of hok hn6 zx2).resolve_left c_6
          rw [ej] at hl
          have ec : (m_inClass σ n zx2).toNatClampNeg = j := by rw [ej]; exact nI_clamp (by omega)
          refine lv_iload hx hb dX2_firstInRow_35 (lv_at hl 0 rfl) ?_
          exact W.iret (v := (nI j)) hx hb hr (fun t ht hW => ⟨⟨(nI j), (), rfl, (by rw [← hres, ← ej]; simp [f_row, c_2, c_4, c_6, ec]), trivial⟩, hS.F ht⟩) hS.2.2 dX2_firstInRow_37
set_option maxHeartbeats 4000000 in
set_option maxRecDepth 100000 in
theorem c_X2_firstInstanceInRow (l : Launch) (D : va_G) (a : Nat → Nat) (k : Nat → ClassId) (σ : CS) (hok : cok σ) (zn1 : Nat) (hn1 : zn1 < 60) (zx2 : Int32) : Met l yX2_firstInstanceInRow wsX2_firstInstanceInRow (rmC 3 66) (cP D a k σ [.ref (a 0), .int (nI zn1), .int zx2]) (roQ (s_firstInst σ zn1 zx2)) 0 0 (fun _ => False) := by
  refine Met.ofW (cc := cX2_firstInstanceInRow) (maxL := 5) (ret := (some .int)) (by decide) rfl ?_
  intro p e s m args below meth c s₁ B hml hv
  obtain ⟨rfl, hP, hK⟩ := hv
  have hx := B.exec
  have hb := B.bytes
  have hr := B.returns
  have hts := atoms_spec (ws := wsX2_firstInstanceInRow) B.pre
  have hown : s.vm.findClass RX2 = some m.cls := findClass_of_methodNamed B.named
  have hlocks := B.notSynchronized
  clear B
  have hl := lv_entry ([.ref (a 0), .int (nI zn1), .int zx2]) (n := 5) (Nat.le_of_ble_eq_true rfl)
  rw [lg_entry_eq]
  generalize (lg_sl ([.ref (a 0), .int (nI zn1), .int zx2]) ++ List.replicate (5 - (lg_sl ([.ref (a 0), .int (nI zn1), .int zx2])).length) Slot.unset).toArray = ls at hl ⊢
  replace hl : lv_has ls 5 [(0, .ref (a 0)), (1, .int (nI zn1)), (2, .int zx2)] := hl
  refine gen_start (A := (fun _ => False)) (fun H locs hP hS => ?_) hP
  obtain ⟨hb0, ⟨hb1, hb2, hb3, hb4, hb5, hb6⟩, hb7, hb8⟩ := id hok
  refine lv_iload_n hx hb dX2_firstInstanceInRow_0 rfl (lv_at hl 1 rfl) ?_
  refine lv_istore_n (lv' := [(3, .int (nI zn1)), (0, .ref (a 0)), (1, .int (nI zn1)), (2, .int zx2)]) hx hb dX2_firstInstanceInRow_1 rfl hl (by decide) rfl (fun ls hl => ?_)
  obtain ⟨n, hn⟩ : ∃ n : Nat, n = zn1 + 1 := ⟨_, rfl⟩
  have hE : n ≤ 60 := by omega
  have hres : f_inst σ zn1 zx2 n = s_firstInst σ zn1 zx2 := by rw [hn]; rfl
  replace hl : lv_has ls 5 [(3, .int (nI n - nI 1)), (0, .ref (a 0)), (1, .int (nI zn1)), (2, .int zx2)] := by rw [hn, kpred]; exact hl
  clear hn
  revert hl
  revert hres
  revert hE
  revert hS
  revert hP
  revert ls
  revert locs
  revert H
  induction n with
  | zero =>
    intro H locs ls hP hS hE hres hl
    refine lv_iload_n hx hb dX2_firstInstanceInRow_2 rfl (lv_at hl 0 rfl) ?_
    refine lv_if_lt (tgt := 56) hx hb dX2_firstInstanceInRow_3 (by decide) (fun c_1 => ?_) (fun c_1 => ?_)
    · refine lv_iconst (v := (-1)) hx hb dX2_firstInstanceInRow_56 (by decide) ?_
      exact W.iret (v := (-1)) hx hb hr (fun t ht hW => ⟨⟨(-1), (), rfl, (by rw [← hres]; rfl), trivial⟩, hS.F ht⟩) hS.2.2 dX2_firstInstanceInRow_57
    · exact absurd (by decide) c_1
  | succ n ih =>
    intro H locs ls hP hS hE hres hl
    rw [kpred] at hl
    have hn6 : n < 60 := by omega
    refine lv_iload_n hx hb dX2_firstInstanceInRow_2 rfl (lv_at hl 0 rfl) ?_
    refine lv_if_lt (tgt := 56) hx hb dX2_firstInstanceInRow_3 (by decide) (fun c_2 => ?_) (fun c_2 => ?_)
    · exact absurd c_2 (nI_pos (by omega))
    · refine lv_aload_n hx hb dX2_firstInstanceInRow_6 rfl (lv_at hl 1 rfl) ?_
      refine va_get (D := D) (ci := 3) (v := .ref (a 1)) (C := RX2) (T := TX2) (N := 2) hx hb hts (by decide +kernel) hown hK.1 hP 0 rfl rfl 0 (by decide) (hts (.fieldLink RX2 10 "ChooseTree" "classes" "LChooseTree$Classes;") (by decide +kernel)) (fun _ h9 => h9) rfl dX2_firstInstanceInRow_7 ?_
      refine lv_iload_n hx hb dX2_firstInstanceInRow_10 rfl (lv_at hl 2 rfl) ?_
      refine lv_iload_n hx hb dX2_firstInstanceInRow_11 rfl (lv_at hl 0 rfl) ?_
      refine va_calli (va_runV (As := [.int (nI zn1), .int (nI n)]) (rest := []) ⟨hx, hb, hml, hown, hts⟩ (c_X0_inRow l D a k σ zn1 n hn1 hn6) (cwV 2 hts gX2_firstInstanceInRow_X0_inRow rfl rfl rfl (by decide +kernel) ⟨Nat.le_of_ble_eq_true rfl, Nat.le_of_ble_eq_true rfl⟩) (cP_V hK hP 1 1 rfl rfl) rfl rfl hl.1 rfl (lv_room (Nat.le_of_ble_eq_true rfl)) dX2_firstInstanceInRow_12 ⟨Nat.le_of_ble_eq_true rfl, Nat.le_of_ble_eq_true rfl⟩) hS (fun _ _ h => h.elim) (fun _ h => h.elim) (fun r_3 u t H1 locs ht hvm hw hB hz1 hk1 hS => ?_)
      replace hP := ro_kept hP hk1
      obtain rfl : r_3 = _ := hw
      clear hk1 hz1 hvm ht hB
      generalize H1 = H at hP hS ⊢
      refine lv_if_eq (tgt := 50) hx hb dX2_firstInstanceInRow_15 (by decide) (fun c_4 => ?_) (fun c_4 => ?_)
      · replace c_4 := bI_0.mp c_4
        refine lv_iinc (v := ((nI n) - nI 1)) (lv' := [(3, .int ((nI n) - nI 1)), (0, .ref (a 0)), (1, .int (nI zn1)), (2, .int zx2)]) hx hb dX2_firstInstanceInRow_50 hl (k := 0) rfl (kdec _) (by decide) rfl (fun ls hl => ?_)
        refine lv_goto (tgt := 2) hx hb dX2_firstInstanceInRow_53 (by decide) ?_
        exact ih H locs ls hP hS (by omega) (by rw [← hres]; simp [f_inst, c_2, c_4]) (lv_sub hl [0, 1, 2, 3] rfl)
      · replace c_4 := bI_n0.mp c_4
        refine lv_aload_n hx hb dX2_firstInstanceInRow_18 rfl (lv_at hl 1 rfl) ?_
        refine va_get (D := D) (ci := 3) (v := .ref (a 2)) (C := RX2) (T := TX2) (N := 2) hx hb hts (by decide +kernel) hown hK.1 hP 0 rfl rfl 1 (by decide) (hts (.fieldLink RX2 19 "ChooseTree" "methods" "LChooseTree$Methods;") (by decide +kernel)) (fun _ h9 => h9) rfl dX2_firstInstanceInRow_19 ?_
        refine lv_iload_n hx hb dX2_firstInstanceInRow_22 rfl (lv_at hl 0 rfl) ?_
        refine lv_iload_n hx hb dX2_firstInstanceInRow_23 rfl (lv_at hl 3 rfl) ?_
        refine va_calli (va_runV (As := [.int (nI n), .int zx2]) (rest := []) ⟨hx, hb, hml, hown, hts⟩ (c_X1_inClass l D a k σ hok n hn6 zx2) (cwV 2 hts gX2_firstInstanceInRow_X1_inClass rfl rfl rfl (by decide +kernel) ⟨Nat.le_of_ble_eq_true rfl, Nat.le_of_ble_eq_true rfl⟩) (cP_V hK hP 2 2 rfl rfl) rfl rfl hl.1 rfl (lv_room (Nat.le_of_ble_eq_true rfl)) dX2_firstInstanceInRow_24 ⟨Nat.le_of_ble_eq_true rfl, Nat.le_of_ble_eq_true rfl⟩) hS (fun _ _ h => h.elim) (fun _ h => h.elim) (fun r_5 u t H1 locs ht hvm hw hB hz1 hk1 hS => ?_)
        replace hP := ro_kept hP hk1
        obtain rfl : r_5 = _ := hw
        clear hk1 hz1 hvm ht hB
        generalize H1 = H at hP hS ⊢
        refine lv_istore (lv' := [(4, .int (m_inClass σ n zx2)), (3, .int (nI n)), (0, .ref (a 0)), (1, .int (nI zn1)), (2, .int zx2)]) hx hb dX2_firstInstanceInRow_27 hl (by decide) rfl (fun ls hl => ?_)
        refine lv_iload hx hb dX2_firstInstanceInRow_29 (lv_at hl 0 rfl) ?_
        refine lv_iconst (v := (-1)) hx hb dX2_firstInstanceInRow_31 (by decide) ?_
        refine lv_icmp_eq (tgt := 50) hx hb dX2_firstInstanceInRow_32 (by decide) (fun c_6 => ?_) (fun c_6 => ?_)
        · refine lv_iinc (v := ((nI n) - nI 1)) (lv' := [(3, .int ((nI n) - nI 1)), (4, .int (m_inClass σ n zx2)), (0, .ref (a 0)), (1, .int (nI zn1)), (2, .int zx2)]) hx hb dX2_firstInstanceInRow_50 hl (k := 1) rfl (kdec _) (by decide) rfl (fun ls hl => ?_)
          refine lv_goto (tgt := 2) hx hb dX2_firstInstanceInRow_53 (by decide) ?_
          exact ih H locs ls hP hS (by omega) (by rw [← hres]; simp [f_inst, c_2, c_4, c_6]) (lv_sub hl [0, 2, 3, 4] rfl)
        · obtain ⟨j, hj, ej⟩ := (m_inClass_of hok hn6 zx2).resolve_left c_6
          rw [ej] at hl
          have ec : (m_inClass σ n zx2).toNatClampNeg = j := by rw [ej]; exact nI_clamp (by omega)
          refine lv_aload_n hx hb dX2_firstInstanceInRow_35 rfl (lv_at hl 2 rfl) ?_
          refine va_get (D := D) (ci := 3) (v := .ref (a 2)) (C := RX2) (T := TX2) (N := 2) hx hb hts (by decide +kernel) hown hK.1 hP 0 rfl rfl 1 (by decide) (hts (.fieldLink RX2 19 "ChooseTree" "methods" "LChooseTree$Methods;") (by decide +kernel)) (fun _ h9 => h9) rfl dX2_firstInstanceInRow_36 ?_
          refine lv_iload hx hb dX2_firstInstanceInRow_39 (lv_at hl 0 rfl) ?_
          refine va_calli (va_runV (As := [.int (nI j)]) (rest := []) ⟨hx, hb, hml, hown, hts⟩ (c_X1_isStatic l D a k σ j (by omega)) (cwV 1 hts gX2_firstInstanceInRow_X1_isStatic rfl rfl rfl (by decide +kernel) ⟨Nat.le_of_ble_eq_true rfl, Nat.le_of_ble_eq_true rfl⟩) (cP_V hK hP 2 2 rfl rfl) rfl rfl hl.1 rfl (lv_room (Nat.le_of_ble_eq_true rfl)) dX2_firstInstanceInRow_41 ⟨Nat.le_of_ble_eq_true rfl, Nat.le_of_ble_eq_true rfl⟩) hS (fun _ _ h => h.elim) (fun _ h => h.elim) (fun r_7 u t H1 locs ht hvm hw hB hz1 hk1 hS => ?_)
          replace hP := ro_kept hP hk1
          obtain rfl : r_7 = _ := hw
          clear hk1 hz1 hvm ht hB
          generalize H1 = H at hP hS ⊢
          refine lv_if_ne (tgt := 50) hx hb dX2_firstInstanceInRow_44 (by decide) (fun c_8 => ?_) (fun c_8 => ?_)
          · replace c_8 := bI_n0.mp c_8
            refine lv_iinc (v := ((nI n) - nI 1)) (lv' := [(3, .int ((nI n) - nI 1)), (4, .int (nI j)), (0, .ref (a 0)), (1, .int (nI zn1)), (2, .int zx2)]) hx hb dX2_firstInstanceInRow_50 hl (k := 1) rfl (kdec _) (by decide) rfl (fun ls hl => ?_)
            refine lv_goto (tgt := 2) hx hb dX2_firstInstanceInRow_53 (by decide) ?_
            exact ih H locs ls hP hS (by omega) (by rw [← hres]; simp [f_inst, c_2, c_4, c_6, ec, c_8]) (lv_sub hl [0, 2, 3, 4] rfl)
          · replace c_8 := bI_0.mp c_8
            refine lv_iload hx hb dX2_firstInstanceInRow_47 (lv_at hl 0 rfl) ?_
            exact W.iret (v := (nI j)) hx hb hr (fun t ht hW => ⟨⟨(nI j), (), rfl, (by rw [← hres, ← ej]; simp [f_inst, c_2, c_4, c_6, ec, c_8]), trivial⟩, hS.F ht⟩) hS.2.2 dX2_firstInstanceInRow_49
set_option maxHeartbeats 4000000 in
set_option maxRecDepth 100000 in
theorem c_X2_firstReplacing (l : Launch) (D : va_G) (a : Nat → Nat) (k : Nat → ClassId) (σ : CS) (hok : cok σ) (zn1 zn2 : Nat) (hn1 : zn1 < 60) (hn2 : zn2 < 400) : Met l yX2_firstReplacing wsX2_firstReplacing (rmC 5 114) (cP D a k σ [.ref (a 0), .int (nI zn1), .int (nI zn2)]) (roQ (s_firstRepl σ zn1 zn2)) 0 0 (fun _ => False) := by
  refine Met.ofW (cc := cX2_firstReplacing) (maxL := 5) (ret := (some .int)) (by decide) rfl ?_
  intro p e s m args below meth c s₁ B hml hv
  obtain ⟨rfl, hP, hK⟩ := hv
  have hx := B.exec
  have hb := B.bytes
  have hr := B.returns
  have hts := atoms_spec (ws := wsX2_firstReplacing) B.pre
  have hown : s.vm.findClass RX2 = some m.cls := findClass_of_methodNamed B.named
  have hlocks := B.notSynchronized
  clear B
  have hl := lv_entry ([.ref (a 0), .int (nI zn1), .int (nI zn2)]) (n := 5) (Nat.le_of_ble_eq_true rfl)
  rw [lg_entry_eq]
  generalize (lg_sl ([.ref (a 0), .int (nI zn1), .int (nI zn2)]) ++ List.replicate (5 - (lg_sl ([.ref (a 0), .int (nI zn1), .int (nI zn2)])).length) Slot.unset).toArray = ls at hl ⊢
  replace hl : lv_has ls 5 [(0, .ref (a 0)), (1, .int (nI zn1)), (2, .int (nI zn2))] := hl
  refine gen_start (A := (fun _ => False)) (fun H locs hP hS => ?_) hP
  obtain ⟨hb0, ⟨hb1, hb2, hb3, hb4, hb5, hb6⟩, hb7, hb8⟩ := id hok
  refine lv_iload_n hx hb dX2_firstReplacing_0 rfl (lv_at hl 1 rfl) ?_
  refine lv_istore_n (lv' := [(3, .int (nI zn1)), (0, .ref (a 0)), (1, .int (nI zn1)), (2, .int (nI zn2))]) hx hb dX2_firstReplacing_1 rfl hl (by decide) rfl (fun ls hl => ?_)
  obtain ⟨n, hn⟩ : ∃ n : Nat, n = zn1 + 1 := ⟨_, rfl⟩
  have hE : n ≤ 60 := by omega
  have hres : f_repl σ zn1 zn2 n = s_firstRepl σ zn1 zn2 := by rw [hn]; rfl
  replace hl : lv_has ls 5 [(3, .int (nI n - nI 1)), (0, .ref (a 0)), (1, .int (nI zn1)), (2, .int (nI zn2))] := by rw [hn, kpred]; exact hl
  clear hn
  revert hl
  revert hres
  revert hE
  revert hS
  revert hP
  revert ls
  revert locs
  revert H
  induction n with
  | zero =>
    intro H locs ls hP hS hE hres hl
    refine lv_iload_n hx hb dX2_firstReplacing_2 rfl (lv_at hl 0 rfl) ?_
    refine lv_if_lt (tgt := 68) hx hb dX2_firstReplacing_3 (by decide) (fun c_1 => ?_) (fun c_1 => ?_)
    · refine lv_iconst (v := (-1)) hx hb dX2_firstReplacing_68 (by decide) ?_
      exact W.iret (v := (-1)) hx hb hr (fun t ht hW => ⟨⟨(-1), (), rfl, (by rw [← hres]; rfl), trivial⟩, hS.F ht⟩) hS.2.2 dX2_firstReplacing_69
    · exact absurd (by decide) c_1
  | succ n ih =>
    intro H locs ls hP hS hE hres hl
    rw [kpred] at hl
    have hn6 : n < 60 := by omega
    refine lv_iload_n hx hb dX2_firstReplacing_2 rfl (lv_at hl 0 rfl) ?_
    refine lv_if_lt (tgt := 68) hx hb dX2_firstReplacing_3 (by decide) (fun c_2 => ?_) (fun c_2 => ?_)
    · exact absurd c_2 (nI_pos (by omega))
    · refine lv_aload_n hx hb dX2_firstReplacing_6 rfl (lv_at hl 1 rfl) ?_
      refine va_get (D := D) (ci := 3) (v := .ref (a 1)) (C := RX2) (T := TX2) (N := 2) hx hb hts (by decide +kernel) hown hK.1 hP 0 rfl rfl 0 (by decide) (hts (.fieldLink RX2 10 "ChooseTree" "classes" "LChooseTree$Classes;") (by decide +kernel)) (fun _ h9 => h9) rfl dX2_firstReplacing_7 ?_
      refine lv_iload_n hx hb dX2_firstReplacing_10 rfl (lv_at hl 2 rfl) ?_
      refine lv_iload_n hx hb dX2_firstReplacing_11 rfl (lv_at hl 0 rfl) ?_
      refine va_calli (va_runV (As := [.int (nI zn1), .int (nI n)]) (rest := []) ⟨hx, hb, hml, hown, hts⟩ (c_X0_inRow l D a k σ zn1 n hn1 hn6) (cwV 2 hts gX2_firstReplacing_X0_inRow rfl rfl rfl (by decide +kernel) ⟨Nat.le_of_ble_eq_true rfl, Nat.le_of_ble_eq_true rfl⟩) (cP_V hK hP 1 1 rfl rfl) rfl rfl hl.1 rfl (lv_room (Nat.le_of_ble_eq_true rfl)) dX2_firstReplacing_12 ⟨Nat.le_of_ble_eq_true rfl, Nat.le_of_ble_eq_true rfl⟩) hS (fun _ _ h => h.elim) (fun _ h => h.elim) (fun r_3 u t H1 locs ht hvm hw hB hz1 hk1 hS => ?_)
      replace hP := ro_kept hP hk1
      obtain rfl : r_3 = _ := hw
      clear hk1 hz1 hvm ht hB
      generalize H1 = H at hP hS ⊢
      refine lv_if_eq (tgt := 62) hx hb dX2_firstReplacing_15 (by decide) (fun c_4 => ?_) (fun c_4 => ?_)
      · replace c_4 := bI_0.mp c_4
        refine lv_iinc (v := ((nI n) - nI 1)) (lv' := [(3, .int ((nI n) - nI 1)), (0, .ref (a 0)), (1, .int (nI zn1)), (2, .int (nI zn2))]) hx hb dX2_firstReplacing_62 hl (k := 0) rfl (kdec _) (by decide) rfl (fun ls hl => ?_)
        refine lv_goto (tgt := 2) hx hb dX2_firstReplacing_65 (by decide) ?_
        exact ih H locs ls hP hS (by omega) (by rw [← hres]; simp [f_repl, c_2, c_4]) (lv_sub hl [0, 1, 2, 3] rfl)
      · replace c_4 := bI_n0.mp c_4
        refine lv_aload_n hx hb dX2_firstReplacing_18 rfl (lv_at hl 1 rfl) ?_
        refine va_get (D := D) (ci := 3) (v := .ref (a 2)) (C := RX2) (T := TX2) (N := 2) hx hb hts (by decide +kernel) hown hK.1 hP 0 rfl rfl 1 (by decide) (hts (.fieldLink RX2 19 "ChooseTree" "methods" "LChooseTree$Methods;") (by decide +kernel)) (fun _ h9 => h9) rfl dX2_firstReplacing_19 ?_
        refine lv_iload_n hx hb dX2_firstReplacing_22 rfl (lv_at hl 0 rfl) ?_
        refine lv_aload_n hx hb dX2_firstReplacing_23 rfl (lv_at hl 1 rfl) ?_
        refine va_get (D := D) (ci := 3) (v := .ref (a 2)) (C := RX2) (T := TX2) (N := 2) hx hb hts (by decide +kernel) hown hK.1 hP 0 rfl rfl 1 (by decide) (hts (.fieldLink RX2 19 "ChooseTree" "methods" "LChooseTree$Methods;") (by decide +kernel)) (fun _ h9 => h9) rfl dX2_firstReplacing_24 ?_
        refine va_get (D := D) (ci := 2) (v := .ref (a 11)) (C := RX1) (T := TX1) (N := 7) hx hb hts (by decide +kernel) hown hK.1 hP 2 rfl rfl 2 (by decide) (hts (.fieldLink RX2 131 "ChooseTree$Methods" "name" "[I") (by decide +kernel)) (fun _ h9 => h9) rfl dX2_firstReplacing_27 ?_
        refine lv_iload_n hx hb dX2_firstReplacing_30 rfl (lv_at hl 3 rfl) ?_
        refine na_iald (D := D) hx hb hK.1 hP 11 8 rfl rfl (i := zn2) (by omega) (by decide) dX2_firstReplacing_31 ?_
        refine va_calli (va_runV (As := [.int (nI n), .int ((cs_nm σ) zn2)]) (rest := []) ⟨hx, hb, hml, hown, hts⟩ (c_X1_inClass l D a k σ hok n hn6 (cs_nm σ zn2)) (cwV 2 hts gX2_firstReplacing_X1_inClass rfl rfl rfl (by decide +kernel) ⟨Nat.le_of_ble_eq_true rfl, Nat.le_of_ble_eq_true rfl⟩) (cP_V hK hP 2 2 rfl rfl) rfl rfl hl.1 rfl (lv_room (Nat.le_of_ble_eq_true rfl)) dX2_firstReplacing_32 ⟨Nat.le_of_ble_eq_true rfl, Nat.le_of_ble_eq_true rfl⟩) hS (fun _ _ h => h.elim) (fun _ h => h.elim) (fun r_5 u t H1 locs ht hvm hw hB hz1 hk1 hS => ?_)
        replace hP := ro_kept hP hk1
        obtain rfl : r_5 = _ := hw
        clear hk1 hz1 hvm ht hB
        generalize H1 = H at hP hS ⊢
        refine lv_istore (lv' := [(4, .int (m_inClass σ n ((cs_nm σ) zn2))), (3, .int (nI n)), (0, .ref (a 0)), (1, .int (nI zn1)), (2, .int (nI zn2))]) hx hb dX2_firstReplacing_35 hl (by decide) rfl (fun ls hl => ?_)
        refine lv_iload hx hb dX2_firstReplacing_37 (lv_at hl 0 rfl) ?_
        refine lv_iconst (v := (-1)) hx hb dX2_firstReplacing_39 (by decide) ?_
        refine lv_icmp_eq (tgt := 62) hx hb dX2_firstReplacing_40 (by decide) (fun c_6 => ?_) (fun c_6 => ?_)
        · refine lv_iinc (v := ((nI n) - nI 1)) (lv' := [(3, .int ((nI n) - nI 1)), (4, .int (m_inClass σ n ((cs_nm σ) zn2))), (0, .ref (a 0)), (1, .int (nI zn1)), (2, .int (nI zn2))]) hx hb dX2_firstReplacing_62 hl (k := 1) rfl (kdec _) (by decide) rfl (fun ls hl => ?_)
          refine lv_goto (tgt := 2) hx hb dX2_firstReplacing_65 (by decide) ?_
          exact ih H locs ls hP hS (by omega) (by rw [← hres]; simp [f_repl, c_2, c_4, c_6]) (lv_sub hl [0, 2, 3, 4] rfl)
        · obtain ⟨j, hj, ej⟩ := (m_inClass_of hok hn6 ((cs_nm σ) zn2)).resolve_left c_6
          rw [ej] at hl
          have ec : (m_inClass σ n ((cs_nm σ) zn2)).toNatClampNeg = j := by rw [ej]; exact nI_clamp (by omega)
          refine lv_iload hx hb dX2_firstReplacing_43 (lv_at hl 0 rfl) ?_
          refine lv_iload_n hx hb dX2_firstReplacing_45 rfl (lv_at hl 4 rfl) ?_
          refine lv_icmp_eq (tgt := 59) hx hb dX2_firstReplacing_46 (by decide) (fun c_7 => ?_) (fun c_7 => ?_)
          · replace c_7 := ej.trans c_7
            refine lv_iload hx hb dX2_firstReplacing_59 (lv_at hl 0 rfl) ?_
            exact W.iret (v := (nI j)) hx hb hr (fun t ht hW => ⟨⟨(nI j), (), rfl, (by rw [← hres, ← ej, f_repl, if_pos ⟨c_4, c_6, Or.inl c_7⟩]), trivial⟩, hS.F ht⟩) hS.2.2 dX2_firstReplacing_61
          · replace c_7 : ¬ m_inClass σ n (cs_nm σ zn2) = nI zn2 := fun q => c_7 (ej.symm.trans q)
            refine lv_aload_n hx hb dX2_firstReplacing_49 rfl (lv_at hl 2 rfl) ?_
            refine lv_iload hx hb dX2_firstReplacing_50 (lv_at hl 0 rfl) ?_
            refine lv_iload_n hx hb dX2_firstReplacing_52 rfl (lv_at hl 4 rfl) ?_
            refine va_calli (va_runV (As := [.int (nI j), .int (nI zn2)]) (rest := []) ⟨hx, hb, hml, hown, hts⟩ (c_X2_replaces l D a k σ hok j zn2 (by omega) hn2) (cwV 2 hts gX2_firstReplacing_X2_replaces rfl rfl rfl (by decide +kernel) ⟨Nat.le_of_ble_eq_true rfl, Nat.le_of_ble_eq_true rfl⟩) (cP_V hK hP 3 0 rfl rfl) rfl rfl hl.1 rfl (lv_room (Nat.le_of_ble_eq_true rfl)) dX2_firstReplacing_53 ⟨Nat.le_of_ble_eq_true rfl, Nat.le_of_ble_eq_true rfl⟩) hS (fun _ _ h => h.elim) (fun _ h => h.elim) (fun r_8 u t H1 locs ht hvm hw hB hz1 hk1 hS => ?_)
            replace hP := ro_kept hP hk1
            obtain rfl : r_8 = _ := hw
            clear hk1 hz1 hvm ht hB
            generalize H1 = H at hP hS ⊢
            refine lv_if_eq (tgt := 62) hx hb dX2_firstReplacing_56 (by decide) (fun c_9 => ?_) (fun c_9 => ?_)
            · replace c_9 := bI_0.mp c_9
              refine lv_iinc (v := ((nI n) - nI 1)) (lv' := [(3, .int ((nI n) - nI 1)), (4, .int (nI j)), (0, .ref (a 0)), (1, .int (nI zn1)), (2, .int (nI zn2))]) hx hb dX2_firstReplacing_62 hl (k := 1) rfl (kdec _) (by decide) rfl (fun ls hl => ?_)
              refine lv_goto (tgt := 2) hx hb dX2_firstReplacing_65 (by decide) ?_
              exact ih H locs ls hP hS (by omega) (by rw [← hres]; simp [f_repl, c_2, c_4, c_6, ec, c_7, c_9]) (lv_sub hl [0, 2, 3, 4] rfl)
            · replace c_9 := bI_n0.mp c_9
              refine lv_iload hx hb dX2_firstReplacing_59 (lv_at hl 0 rfl) ?_
              exact W.iret (v := (nI j)) hx hb hr (fun t ht hW => ⟨⟨(nI j), (), rfl, (by rw [← hres, ← ej]; simp [f_repl, c_2, c_4, c_6, ec, c_7, c_9]), trivial⟩, hS.F ht⟩) hS.2.2 dX2_firstReplacing_61
set_option maxHeartbeats 4000000 in
set_option maxRecDepth 100000 in
theorem c_X2_firstInFaces (l : Launch) (D : va_G) (a : Nat → Nat) (k : Nat → ClassId) (σ : CS) (hok : cok σ) (zn1 : Nat) (hn1 : zn1 < 60) (zx2 : Int32) : Met l yX2_firstInFaces wsX2_firstInFaces (rmC 1 24) (cP D a k σ [.ref (a 0), .int (nI zn1), .int zx2]) (roQ (s_inFaces σ zn1 zx2)) 0 0 (fun _ => False) := by
  refine Met.ofW (cc := cX2_firstInFaces) (maxL := 5) (ret := (some .int)) (by decide) rfl ?_
  intro p e s m args below meth c s₁ B hml hv
  obtain ⟨rfl, hP, hK⟩ := hv
  have hx := B.exec
  have hb := B.bytes
  have hr := B.returns
  have hts := atoms_spec (ws := wsX2_firstInFaces) B.pre
  have hown : s.vm.findClass RX2 = some m.cls := findClass_of_methodNamed B.named
  have hlocks := B.notSynchronized
  clear B
  have hl := lv_entry ([.ref (a 0), .int (nI zn1), .int zx2]) (n := 5) (Nat.le_of_ble_eq_true rfl)
  rw [lg_entry_eq]
  generalize (lg_sl ([.ref (a 0), .int (nI zn1), .int zx2]) ++ List.replicate (5 - (lg_sl ([.ref (a 0), .int (nI zn1), .int zx2])).length) Slot.unset).toArray = ls at hl ⊢
  replace hl : lv_has ls 5 [(0, .ref (a 0)), (1, .int (nI zn1)), (2, .int zx2)] := hl
  refine gen_start (A := (fun _ => False)) (fun H locs hP hS => ?_) hP
  obtain ⟨hb0, ⟨hb1, hb2, hb3, hb4, hb5, hb6⟩, hb7, hb8⟩ := id hok
  refine lv_iconst (v := (nI 0)) hx hb dX2_firstInFaces_0 (by decide) ?_
  refine lv_istore_n (lv' := [(3, .int (nI 0)), (0, .ref (a 0)), (1, .int (nI zn1)), (2, .int zx2)]) hx hb dX2_firstInFaces_1 rfl hl (by decide) rfl (fun ls hl => ?_)
  have hq := hb4 zn1 hn1
  obtain ⟨n, hn⟩ : ∃ n : Nat, n = cs_fam σ zn1 := ⟨_, rfl⟩
  obtain ⟨i, hi⟩ : ∃ i : Nat, i = 0 := ⟨_, rfl⟩
  have hE : i + n = cs_fam σ zn1 := by omega
  have hres : f_faces σ zn1 zx2 n i = s_inFaces σ zn1 zx2 := by rw [hn, hi]; rfl
  replace hl : lv_has ls 5 [(3, .int (nI i)), (0, .ref (a 0)), (1, .int (nI zn1)), (2, .int zx2)] := by rw [hi]; exact hl
  clear hn hi
  revert hl
  revert hres
  revert hE
  revert hS
  revert hP
  revert ls
  revert locs
  revert H
  revert i
  induction n with
  | zero =>
    intro i H locs ls hP hS hE hres hl
    refine lv_iload_n hx hb dX2_firstInFaces_2 rfl (lv_at hl 0 rfl) ?_
    refine lv_aload_n hx hb dX2_firstInFaces_3 rfl (lv_at hl 1 rfl) ?_
    refine va_get (D := D) (ci := 3) (v := .ref (a 1)) (C := RX2) (T := TX2) (N := 2) hx hb hts (by decide +kernel) hown hK.1 hP 0 rfl rfl 0 (by decide) (hts (.fieldLink RX2 10 "ChooseTree" "classes" "LChooseTree$Classes;") (by decide +kernel)) (fun _ h9 => h9) rfl dX2_firstInFaces_4 ?_
    refine va_get (D := D) (ci := 1) (v := .ref (a 7)) (C := RX0) (T := TX0) (N := 10) hx hb hts (by decide +kernel) hown hK.1 hP 1 rfl rfl 5 (by decide) (hts (.fieldLink RX2 79 "ChooseTree$Classes" "faceAmount" "[I") (by decide +kernel)) (fun _ h9 => h9) rfl dX2_firstInFaces_7 ?_
    refine lv_iload_n hx hb dX2_firstInFaces_10 rfl (lv_at hl 2 rfl) ?_
    refine na_iald (D := D) hx hb hK.1 hP 7 4 rfl rfl (i := zn1) (by omega) (by decide) dX2_firstInFaces_11 ?_
    refine lv_icmp_ge (tgt := 49) hx hb dX2_firstInFaces_12 (by decide) (fun c_1 => ?_) (fun c_1 => ?_)
    · refine lv_iconst (v := (-1)) hx hb dX2_firstInFaces_49 (by decide) ?_
      exact W.iret (v := (-1)) hx hb hr (fun t ht hW => ⟨⟨(-1), (), rfl, (by rw [← hres]; rfl), trivial⟩, hS.F ht⟩) hS.2.2 dX2_firstInFaces_50
    · exact absurd (nI_le (by omega) (by omega)) c_1
  | succ n ih =>
    intro i H locs ls hP hS hE hres hl
    have hf6 : s_faceAt σ zn1 i < 60 := s_faceAt_lt hok hn1 (by omega)
    refine lv_iload_n hx hb dX2_firstInFaces_2 rfl (lv_at hl 0 rfl) ?_
    refine lv_aload_n hx hb dX2_firstInFaces_3 rfl (lv_at hl 1 rfl) ?_
    refine va_get (D := D) (ci := 3) (v := .ref (a 1)) (C := RX2) (T := TX2) (N := 2) hx hb hts (by decide +kernel) hown hK.1 hP 0 rfl rfl 0 (by decide) (hts (.fieldLink RX2 10 "ChooseTree" "classes" "LChooseTree$Classes;") (by decide +kernel)) (fun _ h9 => h9) rfl dX2_firstInFaces_4 ?_
    refine va_get (D := D) (ci := 1) (v := .ref (a 7)) (C := RX0) (T := TX0) (N := 10) hx hb hts (by decide +kernel) hown hK.1 hP 1 rfl rfl 5 (by decide) (hts (.fieldLink RX2 79 "ChooseTree$Classes" "faceAmount" "[I") (by decide +kernel)) (fun _ h9 => h9) rfl dX2_firstInFaces_7 ?_
    refine lv_iload_n hx hb dX2_firstInFaces_10 rfl (lv_at hl 2 rfl) ?_
    refine na_iald (D := D) hx hb hK.1 hP 7 4 rfl rfl (i := zn1) (by omega) (by decide) dX2_firstInFaces_11 ?_
    refine lv_icmp_ge (tgt := 49) hx hb dX2_firstInFaces_12 (by decide) (fun c_2 => ?_) (fun c_2 => ?_)
    · exact absurd c_2 (nI_ge (by omega) (by omega))
    · refine lv_aload_n hx hb dX2_firstInFaces_15 rfl (lv_at hl 1 rfl) ?_
      refine va_get (D := D) (ci := 3) (v := .ref (a 2)) (C := RX2) (T := TX2) (N := 2) hx hb hts (by decide +kernel) hown hK.1 hP 0 rfl rfl 1 (by decide) (hts (.fieldLink RX2 19 "ChooseTree" "methods" "LChooseTree$Methods;") (by decide +kernel)) (fun _ h9 => h9) rfl dX2_firstInFaces_16 ?_
      refine lv_aload_n hx hb dX2_firstInFaces_19 rfl (lv_at hl 1 rfl) ?_
      refine va_get (D := D) (ci := 3) (v := .ref (a 1)) (C := RX2) (T := TX2) (N := 2) hx hb hts (by decide +kernel) hown hK.1 hP 0 rfl rfl 0 (by decide) (hts (.fieldLink RX2 10 "ChooseTree" "classes" "LChooseTree$Classes;") (by decide +kernel)) (fun _ h9 => h9) rfl dX2_firstInFaces_20 ?_
      refine lv_iload_n hx hb dX2_firstInFaces_23 rfl (lv_at hl 2 rfl) ?_
      refine lv_iload_n hx hb dX2_firstInFaces_24 rfl (lv_at hl 0 rfl) ?_
      refine va_calli (va_runV (As := [.int (nI zn1), .int (nI i)]) (rest := [.ref (a 2)]) ⟨hx, hb, hml, hown, hts⟩ (c_X0_faceAt l D a k σ zn1 i hn1 (by omega)) (cwV 2 hts gX2_firstInFaces_X0_faceAt rfl rfl rfl (by decide +kernel) ⟨Nat.le_of_ble_eq_true rfl, Nat.le_of_ble_eq_true rfl⟩) (cP_V hK hP 1 1 rfl rfl) rfl rfl hl.1 rfl (lv_room (Nat.le_of_ble_eq_true rfl)) dX2_firstInFaces_25 ⟨Nat.le_of_ble_eq_true rfl, Nat.le_of_ble_eq_true rfl⟩) hS (fun _ _ h => h.elim) (fun _ h => h.elim) (fun r_3 u t H1 locs ht hvm hw hB hz1 hk1 hS => ?_)
      replace hP := ro_kept hP hk1
      obtain rfl : r_3 = _ := hw
      clear hk1 hz1 hvm ht hB
      generalize H1 = H at hP hS ⊢
      refine lv_iload_n hx hb dX2_firstInFaces_28 rfl (lv_at hl 3 rfl) ?_
      refine va_calli (va_runV (As := [.int (nI (s_faceAt σ zn1 i)), .int zx2]) (rest := []) ⟨hx, hb, hml, hown, hts⟩ (c_X1_inClass l D a k σ hok (s_faceAt σ zn1 i) hf6 zx2) (cwV 2 hts gX2_firstInFaces_X1_inClass rfl rfl rfl (by decide +kernel) ⟨Nat.le_of_ble_eq_true rfl, Nat.le_of_ble_eq_true rfl⟩) (cP_V hK hP 2 2 rfl rfl) rfl rfl hl.1 rfl (lv_room (Nat.le_of_ble_eq_true rfl)) dX2_firstInFaces_29 ⟨Nat.le_of_ble_eq_true rfl, Nat.le_of_ble_eq_true rfl⟩) hS (fun _ _ h => h.elim) (fun _ h => h.elim) (fun r_4 u t H1 locs ht hvm hw hB hz1 hk1 hS => ?_)
      replace hP := ro_kept hP hk1
      obtain rfl : r_4 = _ := hw
      clear hk1 hz1 hvm ht hB
      generalize H1 = H at hP hS ⊢
      refine lv_istore (lv' := [(4, .int (m_inClass σ (s_faceAt σ zn1 i) zx2)), (3, .int (nI i)), (0, .ref (a 0)), (1, .int (nI zn1)), (2, .int zx2)]) hx hb dX2_firstInFaces_32 hl (by decide) rfl (fun ls hl => ?_)
      refine lv_iload hx hb dX2_firstInFaces_34 (lv_at hl 0 rfl) ?_
      refine lv_iconst (v := (-1)) hx hb dX2_firstInFaces_36 (by decide) ?_
      refine lv_icmp_eq (tgt := 43) hx hb dX2_firstInFaces_37 (by decide) (fun c_5 => ?_) (fun c_5 => ?_)
      · refine lv_iinc (v := (nI (i + 1))) (lv' := [(3, .int (nI (i + 1))), (4, .int (m_inClass σ (s_faceAt σ zn1 i) zx2)), (0, .ref (a 0)), (1, .int (nI zn1)), (2, .int zx2)]) hx hb dX2_firstInFaces_43 hl (k := 1) rfl (nI_1 _) (by decide) rfl (fun ls hl => ?_)
        refine lv_goto (tgt := 2) hx hb dX2_firstInFaces_46 (by decide) ?_
        exact ih (i + 1) H locs ls hP hS (by omega) (by rw [← hres]; simp [f_faces, c_2, c_5]) (lv_sub hl [0, 2, 3, 4] rfl)
      · refine lv_iload hx hb dX2_firstInFaces_40 (lv_at hl 0 rfl) ?_
        exact W.iret (v := (m_inClass σ (s_faceAt σ zn1 i) zx2)) hx hb hr (fun t ht hW => ⟨⟨(m_inClass σ (s_faceAt σ zn1 i) zx2), (), rfl, (by rw [← hres]; simp [f_faces, c_2, c_5]), trivial⟩, hS.F ht⟩) hS.2.2 dX2_firstInFaces_42
set_option maxHeartbeats 4000000 in
set_option maxRecDepth 100000 in
theorem c_X2_hiddenFaces (l : Launch) (D : va_G) (a : Nat → Nat) (k : Nat → ClassId) (σ : CS) (hok : cok σ) (zn1 : Nat) (hn1 : zn1 < 60) (zx2 : Int32) : Met l yX2_hiddenFaces wsX2_hiddenFaces (rmC 1 24) (cP D a k σ [.ref (a 0), .int (nI zn1), .int zx2]) (roL (s_hidden σ zn1 zx2)) 0 0 (fun _ => False) := by
  refine Met.ofW (cc := cX2_hiddenFaces) (maxL := 7) (ret := (some .long)) (by decide) rfl ?_
  intro p e s m args below meth c s₁ B hml hv
  obtain ⟨rfl, hP, hK⟩ := hv
  have hx := B.exec
  have hb := B.bytes
  have hr := B.returns
  have hts := atoms_spec (ws := wsX2_hiddenFaces) B.pre
  have hown : s.vm.findClass RX2 = some m.cls := findClass_of_methodNamed B.named
  have hlocks := B.notSynchronized
  clear B
  have hl := lv_entry ([.ref (a 0), .int (nI zn1), .int zx2]) (n := 7) (Nat.le_of_ble_eq_true rfl)
  rw [lg_entry_eq]
  generalize (lg_sl ([.ref (a 0), .int (nI zn1), .int zx2]) ++ List.replicate (7 - (lg_sl ([.ref (a 0), .int (nI zn1), .int zx2])).length) Slot.unset).toArray = ls at hl ⊢
  replace hl : lv_has ls 7 [(0, .ref (a 0)), (1, .int (nI zn1)), (2, .int zx2)] := hl
  refine gen_start (A := (fun _ => False)) (fun H locs hP hS => ?_) hP
  obtain ⟨hb0, ⟨hb1, hb2, hb3, hb4, hb5, hb6⟩, hb7, hb8⟩ := id hok
  refine lv_lconst (v := 0) hx hb dX2_hiddenFaces_0 (by decide) ?_
  refine lv_lstore_n (lv' := [(3, .long (0 : Int64)), (0, .ref (a 0)), (1, .int (nI zn1)), (2, .int zx2)]) hx hb dX2_hiddenFaces_1 rfl hl (by decide) rfl (fun ls hl => ?_)
  refine lv_iconst (v := (nI 0)) hx hb dX2_hiddenFaces_2 (by decide) ?_
  refine lv_istore (lv' := [(5, .int (nI 0)), (3, .long (0 : Int64)), (0, .ref (a 0)), (1, .int (nI zn1)), (2, .int zx2)]) hx hb dX2_hiddenFaces_3 hl (by decide) rfl (fun ls hl => ?_)
  have hq := hb4 zn1 hn1
  obtain ⟨n, hn⟩ : ∃ n : Nat, n = cs_fam σ zn1 := ⟨_, rfl⟩
  obtain ⟨i, hi⟩ : ∃ i : Nat, i = 0 := ⟨_, rfl⟩
  obtain ⟨w, hww⟩ : ∃ w : Int64, w = 0 := ⟨_, rfl⟩
  have hE : i + n = cs_fam σ zn1 := by omega
  have hres : h_faces σ zn1 zx2 n i w = s_hidden σ zn1 zx2 := by rw [hn, hi, hww]; rfl
  replace hl : lv_has ls 7 [(5, .int (nI i)), (3, .long w), (0, .ref (a 0)), (1, .int (nI zn1)), (2, .int zx2)] := by rw [hi, hww]; exact hl
  clear hn hi hww
  revert hl
  revert hres
  revert hE
  revert hS
  revert hP
  revert ls
  revert locs
  revert H
  revert i
  revert w
  induction n with
  | zero =>
    intro w i H locs ls hP hS hE hres hl
    refine lv_iload hx hb dX2_hiddenFaces_5 (lv_at hl 0 rfl) ?_
    refine lv_aload_n hx hb dX2_hiddenFaces_7 rfl (lv_at hl 2 rfl) ?_
    refine va_get (D := D) (ci := 3) (v := .ref (a 1)) (C := RX2) (T := TX2) (N := 2) hx hb hts (by decide +kernel) hown hK.1 hP 0 rfl rfl 0 (by decide) (hts (.fieldLink RX2 10 "ChooseTree" "classes" "LChooseTree$Classes;") (by decide +kernel)) (fun _ h9 => h9) rfl dX2_hiddenFaces_8 ?_
    refine va_get (D := D) (ci := 1) (v := .ref (a 7)) (C := RX0) (T := TX0) (N := 10) hx hb hts (by decide +kernel) hown hK.1 hP 1 rfl rfl 5 (by decide) (hts (.fieldLink RX2 79 "ChooseTree$Classes" "faceAmount" "[I") (by decide +kernel)) (fun _ h9 => h9) rfl dX2_hiddenFaces_11 ?_
    refine lv_iload_n hx hb dX2_hiddenFaces_14 rfl (lv_at hl 3 rfl) ?_
    refine na_iald (D := D) hx hb hK.1 hP 7 4 rfl rfl (i := zn1) (by omega) (by decide) dX2_hiddenFaces_15 ?_
    refine lv_icmp_ge (tgt := 64) hx hb dX2_hiddenFaces_16 (by decide) (fun c_1 => ?_) (fun c_1 => ?_)
    · refine lv_lload_n hx hb dX2_hiddenFaces_64 rfl (lv_at hl 1 rfl) ?_
      exact W.lret (v := w) hx hb hr (fun t ht hW => ⟨⟨w, (), rfl, (by rw [← hres]; rfl), trivial⟩, hS.F ht⟩) hS.2.2 dX2_hiddenFaces_65
    · exact absurd (nI_le (by omega) (by omega)) c_1
  | succ n ih =>
    intro w i H locs ls hP hS hE hres hl
    have hf6 : s_faceAt σ zn1 i < 60 := s_faceAt_lt hok hn1 (by omega)
    refine lv_iload hx hb dX2_hiddenFaces_5 (lv_at hl 0 rfl) ?_
    refine lv_aload_n hx hb dX2_hiddenFaces_7 rfl (lv_at hl 2 rfl) ?_
    refine va_get (D := D) (ci := 3) (v := .ref (a 1)) (C := RX2) (T := TX2) (N := 2) hx hb hts (by decide +kernel) hown hK.1 hP 0 rfl rfl 0 (by decide) (hts (.fieldLink RX2 10 "ChooseTree" "classes" "LChooseTree$Classes;") (by decide +kernel)) (fun _ h9 => h9) rfl dX2_hiddenFaces_8 ?_
    refine va_get (D := D) (ci := 1) (v := .ref (a 7)) (C := RX0) (T := TX0) (N := 10) hx hb hts (by decide +kernel) hown hK.1 hP 1 rfl rfl 5 (by decide) (hts (.fieldLink RX2 79 "ChooseTree$Classes" "faceAmount" "[I") (by decide +kernel)) (fun _ h9 => h9) rfl dX2_hiddenFaces_11 ?_
    refine lv_iload_n hx hb dX2_hiddenFaces_14 rfl (lv_at hl 3 rfl) ?_
    refine na_iald (D := D) hx hb hK.1 hP 7 4 rfl rfl (i := zn1) (by omega) (by decide) dX2_hiddenFaces_15 ?_
    refine lv_icmp_ge (tgt := 64) hx hb dX2_hiddenFaces_16 (by decide) (fun c_2 => ?_) (fun c_2 => ?_)
    · exact absurd c_2 (nI_ge (by omega) (by omega))
    · refine lv_aload_n hx hb dX2_hiddenFaces_19 rfl (lv_at hl 2 rfl) ?_
      refine va_get (D := D) (ci := 3) (v := .ref (a 1)) (C := RX2) (T := TX2) (N := 2) hx hb hts (by decide +kernel) hown hK.1 hP 0 rfl rfl 0 (by decide) (hts (.fieldLink RX2 10 "ChooseTree" "classes" "LChooseTree$Classes;") (by decide +kernel)) (fun _ h9 => h9) rfl dX2_hiddenFaces_20 ?_
      refine lv_iload_n hx hb dX2_hiddenFaces_23 rfl (lv_at hl 3 rfl) ?_
      refine lv_iload hx hb dX2_hiddenFaces_24 (lv_at hl 0 rfl) ?_
      refine va_calli (va_runV (As := [.int (nI zn1), .int (nI i)]) (rest := []) ⟨hx, hb, hml, hown, hts⟩ (c_X0_faceAt l D a k σ zn1 i hn1 (by omega)) (cwV 2 hts gX2_hiddenFaces_X0_faceAt rfl rfl rfl (by decide +kernel) ⟨Nat.le_of_ble_eq_true rfl, Nat.le_of_ble_eq_true rfl⟩) (cP_V hK hP 1 1 rfl rfl) rfl rfl hl.1 rfl (lv_room (Nat.le_of_ble_eq_true rfl)) dX2_hiddenFaces_26 ⟨Nat.le_of_ble_eq_true rfl, Nat.le_of_ble_eq_true rfl⟩) hS (fun _ _ h => h.elim) (fun _ h => h.elim) (fun r_3 u t H1 locs ht hvm hw hB hz1 hk1 hS => ?_)
      replace hP := ro_kept hP hk1
      obtain rfl : r_3 = _ := hw
      clear hk1 hz1 hvm ht hB
      generalize H1 = H at hP hS ⊢
      refine lv_istore (lv' := [(6, .int (nI (s_faceAt σ zn1 i))), (5, .int (nI i)), (3, .long w), (0, .ref (a 0)), (1, .int (nI zn1)), (2, .int zx2)]) hx hb dX2_hiddenFaces_29 hl (by decide) rfl (fun ls hl => ?_)
      refine lv_aload_n hx hb dX2_hiddenFaces_31 rfl (lv_at hl 3 rfl) ?_
      refine va_get (D := D) (ci := 3) (v := .ref (a 2)) (C := RX2) (T := TX2) (N := 2) hx hb hts (by decide +kernel) hown hK.1 hP 0 rfl rfl 1 (by decide) (hts (.fieldLink RX2 19 "ChooseTree" "methods" "LChooseTree$Methods;") (by decide +kernel)) (fun _ h9 => h9) rfl dX2_hiddenFaces_32 ?_
      refine lv_iload hx hb dX2_hiddenFaces_35 (lv_at hl 0 rfl) ?_
      refine lv_iload_n hx hb dX2_hiddenFaces_37 rfl (lv_at hl 5 rfl) ?_
      refine va_calli (va_runV (As := [.int (nI (s_faceAt σ zn1 i)), .int zx2]) (rest := []) ⟨hx, hb, hml, hown, hts⟩ (c_X1_inClass l D a k σ hok (s_faceAt σ zn1 i) hf6 zx2) (cwV 2 hts gX2_hiddenFaces_X1_inClass rfl rfl rfl (by decide +kernel) ⟨Nat.le_of_ble_eq_true rfl, Nat.le_of_ble_eq_true rfl⟩) (cP_V hK hP 2 2 rfl rfl) rfl rfl hl.1 rfl (lv_room (Nat.le_of_ble_eq_true rfl)) dX2_hiddenFaces_38 ⟨Nat.le_of_ble_eq_true rfl, Nat.le_of_ble_eq_true rfl⟩) hS (fun _ _ h => h.elim) (fun _ h => h.elim) (fun r_4 u t H1 locs ht hvm hw hB hz1 hk1 hS => ?_)
      replace hP := ro_kept hP hk1
      obtain rfl : r_4 = _ := hw
      clear hk1 hz1 hvm ht hB
      generalize H1 = H at hP hS ⊢
      refine lv_iconst (v := (-1)) hx hb dX2_hiddenFaces_41 (by decide) ?_
      refine lv_icmp_eq (tgt := 58) hx hb dX2_hiddenFaces_42 (by decide) (fun c_5 => ?_) (fun c_5 => ?_)
      · refine lv_iinc (v := (nI (i + 1))) (lv' := [(5, .int (nI (i + 1))), (6, .int (nI (s_faceAt σ zn1 i))), (3, .long w), (0, .ref (a 0)), (1, .int (nI zn1)), (2, .int zx2)]) hx hb dX2_hiddenFaces_58 hl (k := 1) rfl (nI_1 _) (by decide) rfl (fun ls hl => ?_)
        refine lv_goto (tgt := 5) hx hb dX2_hiddenFaces_61 (by decide) ?_
        exact ih w (i + 1) H locs ls hP hS (by omega) (by rw [← hres]; simp [h_faces, c_2, c_5]) (lv_sub hl [0, 2, 3, 4, 5] rfl)
      · refine lv_lload_n hx hb dX2_hiddenFaces_45 rfl (lv_at hl 2 rfl) ?_
        refine lv_aload_n hx hb dX2_hiddenFaces_46 rfl (lv_at hl 3 rfl) ?_
        refine va_get (D := D) (ci := 3) (v := .ref (a 1)) (C := RX2) (T := TX2) (N := 2) hx hb hts (by decide +kernel) hown hK.1 hP 0 rfl rfl 0 (by decide) (hts (.fieldLink RX2 10 "ChooseTree" "classes" "LChooseTree$Classes;") (by decide +kernel)) (fun _ h9 => h9) rfl dX2_hiddenFaces_47 ?_
        refine va_get (D := D) (ci := 1) (v := .ref (a 6)) (C := RX0) (T := TX0) (N := 10) hx hb hts (by decide +kernel) hown hK.1 hP 1 rfl rfl 4 (by decide) (hts (.fieldLink RX2 170 "ChooseTree$Classes" "above" "[J") (by decide +kernel)) (fun _ h9 => h9) rfl dX2_hiddenFaces_50 ?_
        refine lv_iload hx hb dX2_hiddenFaces_53 (lv_at hl 0 rfl) ?_
        refine na_lald (D := D) hx hb hK.1 hP 6 3 rfl rfl (i := (s_faceAt σ zn1 i)) (by omega) (by decide) dX2_hiddenFaces_55 ?_
        refine lv_lor hx hb dX2_hiddenFaces_56 ?_
        refine lv_lstore_n (lv' := [(3, .long (w ||| ((cs_abv σ) (s_faceAt σ zn1 i)))), (6, .int (nI (s_faceAt σ zn1 i))), (5, .int (nI i)), (0, .ref (a 0)), (1, .int (nI zn1)), (2, .int zx2)]) hx hb dX2_hiddenFaces_57 rfl hl (by decide) rfl (fun ls hl => ?_)
        refine lv_iinc (v := (nI (i + 1))) (lv' := [(5, .int (nI (i + 1))), (3, .long (w ||| ((cs_abv σ) (s_faceAt σ zn1 i)))), (6, .int (nI (s_faceAt σ zn1 i))), (0, .ref (a 0)), (1, .int (nI zn1)), (2, .int zx2)]) hx hb dX2_hiddenFaces_58 hl (k := 2) rfl (nI_1 _) (by decide) rfl (fun ls hl => ?_)
        refine lv_goto (tgt := 5) hx hb dX2_hiddenFaces_61 (by decide) ?_
        exact ih (w ||| ((cs_abv σ) (s_faceAt σ zn1 i))) (i + 1) H locs ls hP hS (by omega) (by rw [← hres]; simp [h_faces, c_2, c_5]) (lv_sub hl [0, 1, 3, 4, 5] rfl)
set_option maxHeartbeats 4000000 in
set_option maxRecDepth 100000 in
theorem c_X2_nearestAt (l : Launch) (D : va_G) (a : Nat → Nat) (k : Nat → ClassId) (σ : CS) (hok : cok σ) (zn1 : Nat) (hn1 : zn1 < 60) (zx2 : Int32) (zn3 : Nat) (hn3 : zn3 < cs_fam σ zn1) (zw4 : Int64) : Met l yX2_nearestAt wsX2_nearestAt (rmC 1 24) (cP D a k σ [.ref (a 0), .int (nI zn1), .int zx2, .int (nI zn3), .long zw4]) (roQ (n_at σ zn1 zx2 zn3 zw4)) 0 0 (fun _ => False) := by
  refine Met.ofW (cc := cX2_nearestAt) (maxL := 7) (ret := (some .int)) (by decide) rfl ?_
  intro p e s m args below meth c s₁ B hml hv
  obtain ⟨rfl, hP, hK⟩ := hv
  have hx := B.exec
  have hb := B.bytes
  have hr := B.returns
  have hts := atoms_spec (ws := wsX2_nearestAt) B.pre
  have hown : s.vm.findClass RX2 = some m.cls := findClass_of_methodNamed B.named
  have hlocks := B.notSynchronized
  clear B
  have hl := lv_entry ([.ref (a 0), .int (nI zn1), .int zx2, .int (nI zn3), .long zw4]) (n := 7) (Nat.le_of_ble_eq_true rfl)
  rw [lg_entry_eq]
  generalize (lg_sl ([.ref (a 0), .int (nI zn1), .int zx2, .int (nI zn3), .long zw4]) ++ List.replicate (7 - (lg_sl ([.ref (a 0), .int (nI zn1), .int zx2, .int (nI zn3), .long zw4])).length) Slot.unset).toArray = ls at hl ⊢
  replace hl : lv_has ls 7 [(0, .ref (a 0)), (1, .int (nI zn1)), (2, .int zx2), (3, .int (nI zn3)), (4, .long zw4)] := hl
  refine gen_start (A := (fun _ => False)) (fun H locs hP hS => ?_) hP
  obtain ⟨hb0, ⟨hb1, hb2, hb3, hb4, hb5, hb6⟩, hb7, hb8⟩ := id hok
  have hq := hb4 zn1 hn1
  have hf6 : s_faceAt σ zn1 zn3 < 60 := s_faceAt_lt hok hn1 hn3
  refine lv_aload_n hx hb dX2_nearestAt_0 rfl (lv_at hl 0 rfl) ?_
  refine va_get (D := D) (ci := 3) (v := .ref (a 1)) (C := RX2) (T := TX2) (N := 2) hx hb hts (by decide +kernel) hown hK.1 hP 0 rfl rfl 0 (by decide) (hts (.fieldLink RX2 10 "ChooseTree" "classes" "LChooseTree$Classes;") (by decide +kernel)) (fun _ h9 => h9) rfl dX2_nearestAt_1 ?_
  refine lv_iload_n hx hb dX2_nearestAt_4 rfl (lv_at hl 1 rfl) ?_
  refine lv_iload_n hx hb dX2_nearestAt_5 rfl (lv_at hl 3 rfl) ?_
  refine va_calli (va_runV (As := [.int (nI zn1), .int (nI zn3)]) (rest := []) ⟨hx, hb, hml, hown, hts⟩ (c_X0_faceAt l D a k σ zn1 zn3 hn1 (by omega)) (cwV 2 hts gX2_nearestAt_X0_faceAt rfl rfl rfl (by decide +kernel) ⟨Nat.le_of_ble_eq_true rfl, Nat.le_of_ble_eq_true rfl⟩) (cP_V hK hP 1 1 rfl rfl) rfl rfl hl.1 rfl (lv_room (Nat.le_of_ble_eq_true rfl)) dX2_nearestAt_6 ⟨Nat.le_of_ble_eq_true rfl, Nat.le_of_ble_eq_true rfl⟩) hS (fun _ _ h => h.elim) (fun _ h => h.elim) (fun r_1 u t H1 locs ht hvm hw hB hz1 hk1 hS => ?_)
  replace hP := ro_kept hP hk1
  obtain rfl : r_1 = _ := hw
  clear hk1 hz1 hvm ht hB
  generalize H1 = H at hP hS ⊢
  refine lv_istore (lv' := [(6, .int (nI (s_faceAt σ zn1 zn3))), (0, .ref (a 0)), (1, .int (nI zn1)), (2, .int zx2), (3, .int (nI zn3)), (4, .long zw4)]) hx hb dX2_nearestAt_9 hl (by decide) rfl (fun ls hl => ?_)
  refine lv_lload hx hb dX2_nearestAt_11 (lv_at hl 5 rfl) ?_
  refine lv_iload hx hb dX2_nearestAt_13 (lv_at hl 0 rfl) ?_
  refine va_calli (va_runS (As := [.long zw4, .int (nI (s_faceAt σ zn1 zn3))]) (rest := []) ⟨hx, hb, hml, hown, hts⟩ (c_X2_holds l D a k σ zw4 (s_faceAt σ zn1 zn3)) (va_cwS 2 hts gX2_nearestAt_X2_holds rfl rfl rfl (by decide +kernel) ⟨Nat.le_of_ble_eq_true rfl, Nat.le_of_ble_eq_true rfl⟩) (cP_S hK hP) rfl rfl hl.1 rfl (lv_room (Nat.le_of_ble_eq_true rfl)) dX2_nearestAt_15 ⟨Nat.le_of_ble_eq_true rfl, Nat.le_of_ble_eq_true rfl⟩) hS (fun _ _ h => h.elim) (fun _ h => h.elim) (fun r_2 u t H1 locs ht hvm hw hB hz1 hk1 hS => ?_)
  replace hP := ro_kept hP hk1
  obtain rfl : r_2 = _ := hw
  clear hk1 hz1 hvm ht hB
  generalize H1 = H at hP hS ⊢
  refine lv_if_eq (tgt := 25) hx hb dX2_nearestAt_18 (by decide) (fun c_3 => ?_) (fun c_3 => ?_)
  · replace c_3 := bI_0.mp c_3
    refine lv_aload_n hx hb dX2_nearestAt_25 rfl (lv_at hl 1 rfl) ?_
    refine va_get (D := D) (ci := 3) (v := .ref (a 2)) (C := RX2) (T := TX2) (N := 2) hx hb hts (by decide +kernel) hown hK.1 hP 0 rfl rfl 1 (by decide) (hts (.fieldLink RX2 19 "ChooseTree" "methods" "LChooseTree$Methods;") (by decide +kernel)) (fun _ h9 => h9) rfl dX2_nearestAt_26 ?_
    refine lv_iload hx hb dX2_nearestAt_29 (lv_at hl 0 rfl) ?_
    refine lv_iload_n hx hb dX2_nearestAt_31 rfl (lv_at hl 3 rfl) ?_
    refine va_calli (va_runV (As := [.int (nI (s_faceAt σ zn1 zn3)), .int zx2]) (rest := []) ⟨hx, hb, hml, hown, hts⟩ (c_X1_inClass l D a k σ hok (s_faceAt σ zn1 zn3) hf6 zx2) (cwV 2 hts gX2_nearestAt_X1_inClass rfl rfl rfl (by decide +kernel) ⟨Nat.le_of_ble_eq_true rfl, Nat.le_of_ble_eq_true rfl⟩) (cP_V hK hP 2 2 rfl rfl) rfl rfl hl.1 rfl (lv_room (Nat.le_of_ble_eq_true rfl)) dX2_nearestAt_32 ⟨Nat.le_of_ble_eq_true rfl, Nat.le_of_ble_eq_true rfl⟩) hS (fun _ _ h => h.elim) (fun _ h => h.elim) (fun r_4 u t H1 locs ht hvm hw hB hz1 hk1 hS => ?_)
    replace hP := ro_kept hP hk1
    obtain rfl : r_4 = _ := hw
    clear hk1 hz1 hvm ht hB
    generalize H1 = H at hP hS ⊢
    exact W.iret (v := (m_inClass σ (s_faceAt σ zn1 zn3) zx2)) hx hb hr (fun t ht hW => ⟨⟨(m_inClass σ (s_faceAt σ zn1 zn3) zx2), (), rfl, (by simp [n_at, c_3]), trivial⟩, hS.F ht⟩) hS.2.2 dX2_nearestAt_35
  · replace c_3 := bI_n0.mp c_3
    refine lv_iconst (v := (-1)) hx hb dX2_nearestAt_21 (by decide) ?_
    refine lv_goto (tgt := 35) hx hb dX2_nearestAt_22 (by decide) ?_
    exact W.iret (v := (-1)) hx hb hr (fun t ht hW => ⟨⟨(-1), (), rfl, (by simp [n_at, c_3]), trivial⟩, hS.F ht⟩) hS.2.2 dX2_nearestAt_35
set_option maxHeartbeats 4000000 in
set_option maxRecDepth 100000 in
theorem c_X2_onlyConcreteNearest (l : Launch) (D : va_G) (a : Nat → Nat) (k : Nat → ClassId) (σ : CS) (hok : cok σ) (zn1 : Nat) (hn1 : zn1 < 60) (zx2 : Int32) : Met l yX2_onlyConcreteNearest wsX2_onlyConcreteNearest (rmC 2 50) (cP D a k σ [.ref (a 0), .int (nI zn1), .int zx2]) (roQ (s_only σ zn1 zx2)) 0 0 (fun _ => False) := by
  refine Met.ofW (cc := cX2_onlyConcreteNearest) (maxL := 8) (ret := (some .int)) (by decide) rfl ?_
  intro p e s m args below meth c s₁ B hml hv
  obtain ⟨rfl, hP, hK⟩ := hv
  have hx := B.exec
  have hb := B.bytes
  have hr := B.returns
  have hts := atoms_spec (ws := wsX2_onlyConcreteNearest) B.pre
  have hown : s.vm.findClass RX2 = some m.cls := findClass_of_methodNamed B.named
  have hlocks := B.notSynchronized
  clear B
  have hl := lv_entry ([.ref (a 0), .int (nI zn1), .int zx2]) (n := 8) (Nat.le_of_ble_eq_true rfl)
  rw [lg_entry_eq]
  generalize (lg_sl ([.ref (a 0), .int (nI zn1), .int zx2]) ++ List.replicate (8 - (lg_sl ([.ref (a 0), .int (nI zn1), .int zx2])).length) Slot.unset).toArray = ls at hl ⊢
  replace hl : lv_has ls 8 [(0, .ref (a 0)), (1, .int (nI zn1)), (2, .int zx2)] := hl
  refine gen_start (A := (fun _ => False)) (fun H locs hP hS => ?_) hP
  obtain ⟨hb0, ⟨hb1, hb2, hb3, hb4, hb5, hb6⟩, hb7, hb8⟩ := id hok
  refine lv_aload_n hx hb dX2_onlyConcreteNearest_0 rfl (lv_at hl 0 rfl) ?_
  refine lv_iload_n hx hb dX2_onlyConcreteNearest_1 rfl (lv_at hl 1 rfl) ?_
  refine lv_iload_n hx hb dX2_onlyConcreteNearest_2 rfl (lv_at hl 2 rfl) ?_
  refine va_calll (va_runV (As := [.int (nI zn1), .int zx2]) (rest := []) ⟨hx, hb, hml, hown, hts⟩ (c_X2_hiddenFaces l D a k σ hok zn1 hn1 zx2) (cwV 2 hts gX2_onlyConcreteNearest_X2_hiddenFaces rfl rfl rfl (by decide +kernel) ⟨Nat.le_of_ble_eq_true rfl, Nat.le_of_ble_eq_true rfl⟩) (cP_V hK hP 3 0 rfl rfl) rfl rfl hl.1 rfl (lv_room (Nat.le_of_ble_eq_true rfl)) dX2_onlyConcreteNearest_3 ⟨Nat.le_of_ble_eq_true rfl, Nat.le_of_ble_eq_true rfl⟩) hS (fun _ _ h => h.elim) (fun _ h => h.elim) (fun r_1 u t H1 locs ht hvm hw hB hz1 hk1 hS => ?_)
  replace hP := ro_kept hP hk1
  obtain rfl : r_1 = _ := hw
  clear hk1 hz1 hvm ht hB
  generalize H1 = H at hP hS ⊢
  refine lv_lstore_n (lv' := [(3, .long (s_hidden σ zn1 zx2)), (0, .ref (a 0)), (1, .int (nI zn1)), (2, .int zx2)]) hx hb dX2_onlyConcreteNearest_6 rfl hl (by decide) rfl (fun ls hl => ?_)
  refine lv_iconst (v := (-1)) hx hb dX2_onlyConcreteNearest_7 (by decide) ?_
  refine lv_istore (lv' := [(5, .int (-1)), (3, .long (s_hidden σ zn1 zx2)), (0, .ref (a 0)), (1, .int (nI zn1)), (2, .int zx2)]) hx hb dX2_onlyConcreteNearest_8 hl (by decide) rfl (fun ls hl => ?_)
  refine lv_iconst (v := (nI 0)) hx hb dX2_onlyConcreteNearest_10 (by decide) ?_
  refine lv_istore (lv' := [(6, .int (nI 0)), (5, .int (-1)), (3, .long (s_hidden σ zn1 zx2)), (0, .ref (a 0)), (1, .int (nI zn1)), (2, .int zx2)]) hx hb dX2_onlyConcreteNearest_11 hl (by decide) rfl (fun ls hl => ?_)
  have hq := hb4 zn1 hn1
  obtain ⟨n, hn⟩ : ∃ n : Nat, n = cs_fam σ zn1 := ⟨_, rfl⟩
  obtain ⟨i, hi⟩ : ∃ i : Nat, i = 0 := ⟨_, rfl⟩
  obtain ⟨r, hrr⟩ : ∃ r : Int32, r = -1 := ⟨_, rfl⟩
  have hE : i + n = cs_fam σ zn1 := by omega
  have hres : o_only σ zn1 zx2 (s_hidden σ zn1 zx2) n i r = s_only σ zn1 zx2 := by rw [hn, hi, hrr]; rfl
  replace hl : lv_has ls 8 [(6, .int (nI i)), (5, .int r), (3, .long (s_hidden σ zn1 zx2)), (0, .ref (a 0)), (1, .int (nI zn1)), (2, .int zx2)] := by rw [hi, hrr]; exact hl
  clear hn hi hrr
  revert hl
  revert hres
  revert hE
  revert hS
  revert hP
  revert ls
  revert locs
  revert H
  revert i
  revert r
  induction n with
  | zero =>
    intro r i H locs ls hP hS hE hres hl
    refine lv_iload hx hb dX2_onlyConcreteNearest_13 (lv_at hl 0 rfl) ?_
    refine lv_aload_n hx hb dX2_onlyConcreteNearest_15 rfl (lv_at hl 3 rfl) ?_
    refine va_get (D := D) (ci := 3) (v := .ref (a 1)) (C := RX2) (T := TX2) (N := 2) hx hb hts (by decide +kernel) hown hK.1 hP 0 rfl rfl 0 (by decide) (hts (.fieldLink RX2 10 "ChooseTree" "classes" "LChooseTree$Classes;") (by decide +kernel)) (fun _ h9 => h9) rfl dX2_onlyConcreteNearest_16 ?_
    refine va_get (D := D) (ci := 1) (v := .ref (a 7)) (C := RX0) (T := TX0) (N := 10) hx hb hts (by decide +kernel) hown hK.1 hP 1 rfl rfl 5 (by decide) (hts (.fieldLink RX2 79 "ChooseTree$Classes" "faceAmount" "[I") (by decide +kernel)) (fun _ h9 => h9) rfl dX2_onlyConcreteNearest_19 ?_
    refine lv_iload_n hx hb dX2_onlyConcreteNearest_22 rfl (lv_at hl 4 rfl) ?_
    refine na_iald (D := D) hx hb hK.1 hP 7 4 rfl rfl (i := zn1) (by omega) (by decide) dX2_onlyConcreteNearest_23 ?_
    refine lv_icmp_ge (tgt := 75) hx hb dX2_onlyConcreteNearest_24 (by decide) (fun c_2 => ?_) (fun c_2 => ?_)
    · refine lv_iload hx hb dX2_onlyConcreteNearest_75 (lv_at hl 1 rfl) ?_
      exact W.iret (v := r) hx hb hr (fun t ht hW => ⟨⟨r, (), rfl, (by rw [← hres]; rfl), trivial⟩, hS.F ht⟩) hS.2.2 dX2_onlyConcreteNearest_77
    · exact absurd (nI_le (by omega) (by omega)) c_2
  | succ n ih =>
    intro r i H locs ls hP hS hE hres hl
    have hf6 : s_faceAt σ zn1 i < 60 := s_faceAt_lt hok hn1 (by omega)
    refine lv_iload hx hb dX2_onlyConcreteNearest_13 (lv_at hl 0 rfl) ?_
    refine lv_aload_n hx hb dX2_onlyConcreteNearest_15 rfl (lv_at hl 3 rfl) ?_
    refine va_get (D := D) (ci := 3) (v := .ref (a 1)) (C := RX2) (T := TX2) (N := 2) hx hb hts (by decide +kernel) hown hK.1 hP 0 rfl rfl 0 (by decide) (hts (.fieldLink RX2 10 "ChooseTree" "classes" "LChooseTree$Classes;") (by decide +kernel)) (fun _ h9 => h9) rfl dX2_onlyConcreteNearest_16 ?_
    refine va_get (D := D) (ci := 1) (v := .ref (a 7)) (C := RX0) (T := TX0) (N := 10) hx hb hts (by decide +kernel) hown hK.1 hP 1 rfl rfl 5 (by decide) (hts (.fieldLink RX2 79 "ChooseTree$Classes" "faceAmount" "[I") (by decide +kernel)) (fun _ h9 => h9) rfl dX2_onlyConcreteNearest_19 ?_
    refine lv_iload_n hx hb dX2_onlyConcreteNearest_22 rfl (lv_at hl 4 rfl) ?_
    refine na_iald (D := D) hx hb hK.1 hP 7 4 rfl rfl (i := zn1) (by omega) (by decide) dX2_onlyConcreteNearest_23 ?_
    refine lv_icmp_ge (tgt := 75) hx hb dX2_onlyConcreteNearest_24 (by decide) (fun c_3 => ?_) (fun c_3 => ?_)
    · exact absurd c_3 (nI_ge (by omega) (by omega))
    · refine lv_aload_n hx hb dX2_onlyConcreteNearest_27 rfl (lv_at hl 3 rfl) ?_
      refine lv_iload_n hx hb dX2_onlyConcreteNearest_28 rfl (lv_at hl 4 rfl) ?_
      refine lv_iload_n hx hb dX2_onlyConcreteNearest_29 rfl (lv_at hl 5 rfl) ?_
      refine lv_iload hx hb dX2_onlyConcreteNearest_30 (lv_at hl 0 rfl) ?_
      refine lv_lload_n hx hb dX2_onlyConcreteNearest_32 rfl (lv_at hl 2 rfl) ?_
      refine va_calli (va_runV (As := [.int (nI zn1), .int zx2, .int (nI i), .long (s_hidden σ zn1 zx2)]) (rest := []) ⟨hx, hb, hml, hown, hts⟩ (c_X2_nearestAt l D a k σ hok zn1 hn1 zx2 i (by omega) (s_hidden σ zn1 zx2)) (cwV 4 hts gX2_onlyConcreteNearest_X2_nearestAt rfl rfl rfl (by decide +kernel) ⟨Nat.le_of_ble_eq_true rfl, Nat.le_of_ble_eq_true rfl⟩) (cP_V hK hP 3 0 rfl rfl) rfl rfl hl.1 rfl (lv_room (Nat.le_of_ble_eq_true rfl)) dX2_onlyConcreteNearest_33 ⟨Nat.le_of_ble_eq_true rfl, Nat.le_of_ble_eq_true rfl⟩) hS (fun _ _ h => h.elim) (fun _ h => h.elim) (fun r_4 u t H1 locs ht hvm hw hB hz1 hk1 hS => ?_)
      replace hP := ro_kept hP hk1
      obtain rfl : r_4 = _ := hw
      clear hk1 hz1 hvm ht hB
      generalize H1 = H at hP hS ⊢
      refine lv_istore (lv' := [(7, .int (n_at σ zn1 zx2 i (s_hidden σ zn1 zx2))), (6, .int (nI i)), (5, .int r), (3, .long (s_hidden σ zn1 zx2)), (0, .ref (a 0)), (1, .int (nI zn1)), (2, .int zx2)]) hx hb dX2_onlyConcreteNearest_36 hl (by decide) rfl (fun ls hl => ?_)
      refine lv_iload hx hb dX2_onlyConcreteNearest_38 (lv_at hl 0 rfl) ?_
      refine lv_iconst (v := (-1)) hx hb dX2_onlyConcreteNearest_40 (by decide) ?_
      refine lv_icmp_eq (tgt := 69) hx hb dX2_onlyConcreteNearest_41 (by decide) (fun c_5 => ?_) (fun c_5 => ?_)
      · refine lv_iinc (v := (nI (i + 1))) (lv' := [(6, .int (nI (i + 1))), (7, .int (n_at σ zn1 zx2 i (s_hidden σ zn1 zx2))), (5, .int r), (3, .long (s_hidden σ zn1 zx2)), (0, .ref (a 0)), (1, .int (nI zn1)), (2, .int zx2)]) hx hb dX2_onlyConcreteNearest_69 hl (k := 1) rfl (nI_1 _) (by decide) rfl (fun ls hl => ?_)
        refine lv_goto (tgt := 13) hx hb dX2_onlyConcreteNearest_72 (by decide) ?_
        exact ih r (i + 1) H locs ls hP hS (by omega) (by rw [← hres]; simp [o_only, c_3, c_5]) (lv_sub hl [0, 2, 3, 4, 5, 6] rfl)
      · obtain ⟨j, hj, ej⟩ := (n_at_of hok hn1 (show i < cs_fam σ zn1 by omega) zx2 (s_hidden σ zn1 zx2)).resolve_left c_5
        rw [ej] at hl
        have ec : (n_at σ zn1 zx2 i (s_hidden σ zn1 zx2)).toNatClampNeg = j := by rw [ej]; exact nI_clamp (by omega)
        refine lv_aload_n hx hb dX2_onlyConcreteNearest_44 rfl (lv_at hl 4 rfl) ?_
        refine va_get (D := D) (ci := 3) (v := .ref (a 2)) (C := RX2) (T := TX2) (N := 2) hx hb hts (by decide +kernel) hown hK.1 hP 0 rfl rfl 1 (by decide) (hts (.fieldLink RX2 19 "ChooseTree" "methods" "LChooseTree$Methods;") (by decide +kernel)) (fun _ h9 => h9) rfl dX2_onlyConcreteNearest_45 ?_
        refine lv_iload hx hb dX2_onlyConcreteNearest_48 (lv_at hl 0 rfl) ?_
        refine va_calli (va_runV (As := [.int (nI j)]) (rest := []) ⟨hx, hb, hml, hown, hts⟩ (c_X1_isAbstract l D a k σ j (by omega)) (cwV 1 hts gX2_onlyConcreteNearest_X1_isAbstract rfl rfl rfl (by decide +kernel) ⟨Nat.le_of_ble_eq_true rfl, Nat.le_of_ble_eq_true rfl⟩) (cP_V hK hP 2 2 rfl rfl) rfl rfl hl.1 rfl (lv_room (Nat.le_of_ble_eq_true rfl)) dX2_onlyConcreteNearest_50 ⟨Nat.le_of_ble_eq_true rfl, Nat.le_of_ble_eq_true rfl⟩) hS (fun _ _ h => h.elim) (fun _ h => h.elim) (fun r_6 u t H1 locs ht hvm hw hB hz1 hk1 hS => ?_)
        replace hP := ro_kept hP hk1
        obtain rfl : r_6 = _ := hw
        clear hk1 hz1 hvm ht hB
        generalize H1 = H at hP hS ⊢
        refine lv_if_ne (tgt := 69) hx hb dX2_onlyConcreteNearest_53 (by decide) (fun c_7 => ?_) (fun c_7 => ?_)
        · replace c_7 := bI_n0.mp c_7
          refine lv_iinc (v := (nI (i + 1))) (lv' := [(6, .int (nI (i + 1))), (7, .int (nI j)), (5, .int r), (3, .long (s_hidden σ zn1 zx2)), (0, .ref (a 0)), (1, .int (nI zn1)), (2, .int zx2)]) hx hb dX2_onlyConcreteNearest_69 hl (k := 1) rfl (nI_1 _) (by decide) rfl (fun ls hl => ?_)
          refine lv_goto (tgt := 13) hx hb dX2_onlyConcreteNearest_72 (by decide) ?_
          exact ih r (i + 1) H locs ls hP hS (by omega) (by rw [← hres]; simp [o_only, c_3, c_5, ec, c_7]) (lv_sub hl [0, 2, 3, 4, 5, 6] rfl)
        · replace c_7 := bI_0.mp c_7
          refine lv_iload hx hb dX2_onlyConcreteNearest_56 (lv_at hl 2 rfl) ?_
          refine lv_iconst (v := (-1)) hx hb dX2_onlyConcreteNearest_58 (by decide) ?_
          refine lv_icmp_eq (tgt := 65) hx hb dX2_onlyConcreteNearest_59 (by decide) (fun c_8 => ?_) (fun c_8 => ?_)
          · refine lv_iload hx hb dX2_onlyConcreteNearest_65 (lv_at hl 0 rfl) ?_
            refine lv_istore (lv' := [(5, .int (nI j)), (7, .int (nI j)), (6, .int (nI i)), (3, .long (s_hidden σ zn1 zx2)), (0, .ref (a 0)), (1, .int (nI zn1)), (2, .int zx2)]) hx hb dX2_onlyConcreteNearest_67 hl (by decide) rfl (fun ls hl => ?_)
            refine lv_iinc (v := (nI (i + 1))) (lv' := [(6, .int (nI (i + 1))), (5, .int (nI j)), (7, .int (nI j)), (3, .long (s_hidden σ zn1 zx2)), (0, .ref (a 0)), (1, .int (nI zn1)), (2, .int zx2)]) hx hb dX2_onlyConcreteNearest_69 hl (k := 2) rfl (nI_1 _) (by decide) rfl (fun ls hl => ?_)
            refine lv_goto (tgt := 13) hx hb dX2_onlyConcreteNearest_72 (by decide) ?_
            exact ih (nI j) (i + 1) H locs ls hP hS (by omega) (by rw [← hres, ← ej]; simp [o_only, c_3, c_5, ec, c_7, c_8]) (lv_sub hl [0, 1, 3, 4, 5, 6] rfl)
          · refine lv_bipush (v := (-26)) hx hb dX2_onlyConcreteNearest_62 (by decide) ?_
            exact W.iret (v := (-26)) hx hb hr (fun t ht hW => ⟨⟨(-26), (), rfl, (by rw [← hres]; simp [o_only, c_3, c_5, ec, c_7, c_8]), trivial⟩, hS.F ht⟩) hS.2.2 dX2_onlyConcreteNearest_64
set_option maxHeartbeats 4000000 in
set_option maxRecDepth 100000 in
theorem c_X2_nearest (l : Launch) (D : va_G) (a : Nat → Nat) (k : Nat → ClassId) (σ : CS) (hok : cok σ) (zx1 zx2 zx3 : Int32) : Met l yX2_nearest wsX2_nearest (rmC 2 50) (cP D a k σ [.ref (a 0), .int zx1, .int zx2, .int zx3]) (roQ (s_nearest σ zx1 zx2 zx3)) 0 0 (fun _ => False) := by
  refine Met.ofW (cc := cX2_nearest) (maxL := 9) (ret := (some .int)) (by decide) rfl ?_
  intro p e s m args below meth c s₁ B hml hv
  obtain ⟨rfl, hP, hK⟩ := hv
  have hx := B.exec
  have hb := B.bytes
  have hr := B.returns
  have hts := atoms_spec (ws := wsX2_nearest) B.pre
  have hown : s.vm.findClass RX2 = some m.cls := findClass_of_methodNamed B.named
  have hlocks := B.notSynchronized
  clear B
  have hl := lv_entry ([.ref (a 0), .int zx1, .int zx2, .int zx3]) (n := 9) (Nat.le_of_ble_eq_true rfl)
  rw [lg_entry_eq]
  generalize (lg_sl ([.ref (a 0), .int zx1, .int zx2, .int zx3]) ++ List.replicate (9 - (lg_sl ([.ref (a 0), .int zx1, .int zx2, .int zx3])).length) Slot.unset).toArray = ls at hl ⊢
  replace hl : lv_has ls 9 [(0, .ref (a 0)), (1, .int zx1), (2, .int zx2), (3, .int zx3)] := hl
  refine gen_start (A := (fun _ => False)) (fun H locs hP hS => ?_) hP
  obtain ⟨hb0, ⟨hb1, hb2, hb3, hb4, hb5, hb6⟩, hb7, hb8⟩ := id hok
  refine lv_aload_n hx hb dX2_nearest_0 rfl (lv_at hl 0 rfl) ?_
  refine va_get (D := D) (ci := 3) (v := .ref (a 1)) (C := RX2) (T := TX2) (N := 2) hx hb hts (by decide +kernel) hown hK.1 hP 0 rfl rfl 0 (by decide) (hts (.fieldLink RX2 10 "ChooseTree" "classes" "LChooseTree$Classes;") (by decide +kernel)) (fun _ h9 => h9) rfl dX2_nearest_1 ?_
  refine lv_iload_n hx hb dX2_nearest_4 rfl (lv_at hl 1 rfl) ?_
  refine va_calli (va_runV (As := [.int zx1]) (rest := []) ⟨hx, hb, hml, hown, hts⟩ (c_X0_exists l D a k σ zx1) (cwV 1 hts gX2_nearest_X0_exists rfl rfl rfl (by decide +kernel) ⟨Nat.le_of_ble_eq_true rfl, Nat.le_of_ble_eq_true rfl⟩) (cP_V hK hP 1 1 rfl rfl) rfl rfl hl.1 rfl (lv_room (Nat.le_of_ble_eq_true rfl)) dX2_nearest_5 ⟨Nat.le_of_ble_eq_true rfl, Nat.le_of_ble_eq_true rfl⟩) hS (fun _ _ h => h.elim) (fun _ h => h.elim) (fun r_1 u t H1 locs ht hvm hw hB hz1 hk1 hS => ?_)
  replace hP := ro_kept hP hk1
  obtain rfl : r_1 = _ := hw
  clear hk1 hz1 hvm ht hB
  generalize H1 = H at hP hS ⊢
  refine lv_if_eq (tgt := 15) hx hb dX2_nearest_8 (by decide) (fun c_2 => ?_) (fun c_2 => ?_)
  · replace c_2 := bI_0.mp c_2
    refine lv_iconst (v := (-1)) hx hb dX2_nearest_15 (by decide) ?_
    exact W.iret (v := (-1)) hx hb hr (fun t ht hW => ⟨⟨(-1), (), rfl, (by simp [s_nearest, c_2]), trivial⟩, hS.F ht⟩) hS.2.2 dX2_nearest_16
  · replace c_2 := bI_n0.mp c_2
    obtain ⟨zn1, hzn1, ezn1⟩ := s_exists_of hok c_2
    subst ezn1
    have hclzn1 := nI_clamp (n := zn1) (by omega)
    replace hn1 : zn1 < 60 := by omega
    refine lv_iload_n hx hb dX2_nearest_11 rfl (lv_at hl 3 rfl) ?_
    refine lv_if_ge (tgt := 17) hx hb dX2_nearest_12 (by decide) (fun c_3 => ?_) (fun c_3 => ?_)
    · refine lv_aload_n hx hb dX2_nearest_17 rfl (lv_at hl 0 rfl) ?_
      refine lv_iload_n hx hb dX2_nearest_18 rfl (lv_at hl 1 rfl) ?_
      refine lv_iload_n hx hb dX2_nearest_19 rfl (lv_at hl 2 rfl) ?_
      refine va_calll (va_runV (As := [.int (nI zn1), .int zx2]) (rest := []) ⟨hx, hb, hml, hown, hts⟩ (c_X2_hiddenFaces l D a k σ hok zn1 hn1 zx2) (cwV 2 hts gX2_nearest_X2_hiddenFaces rfl rfl rfl (by decide +kernel) ⟨Nat.le_of_ble_eq_true rfl, Nat.le_of_ble_eq_true rfl⟩) (cP_V hK hP 3 0 rfl rfl) rfl rfl hl.1 rfl (lv_room (Nat.le_of_ble_eq_true rfl)) dX2_nearest_20 ⟨Nat.le_of_ble_eq_true rfl, Nat.le_of_ble_eq_true rfl⟩) hS (fun _ _ h => h.elim) (fun _ h => h.elim) (fun r_4 u t H1 locs ht hvm hw hB hz1 hk1 hS => ?_)
      replace hP := ro_kept hP hk1
      obtain rfl : r_4 = _ := hw
      clear hk1 hz1 hvm ht hB
      generalize H1 = H at hP hS ⊢
      refine lv_lstore (lv' := [(4, .long (s_hidden σ zn1 zx2)), (0, .ref (a 0)), (1, .int (nI zn1)), (2, .int zx2), (3, .int zx3)]) hx hb dX2_nearest_23 hl (by decide) rfl (fun ls hl => ?_)
      refine lv_iconst (v := (nI 0)) hx hb dX2_nearest_25 (by decide) ?_
      refine lv_istore (lv' := [(6, .int (nI 0)), (4, .long (s_hidden σ zn1 zx2)), (0, .ref (a 0)), (1, .int (nI zn1)), (2, .int zx2), (3, .int zx3)]) hx hb dX2_nearest_26 hl (by decide) rfl (fun ls hl => ?_)
      refine lv_iconst (v := (nI 0)) hx hb dX2_nearest_28 (by decide) ?_
      refine lv_istore (lv' := [(7, .int (nI 0)), (6, .int (nI 0)), (4, .long (s_hidden σ zn1 zx2)), (0, .ref (a 0)), (1, .int (nI zn1)), (2, .int zx2), (3, .int zx3)]) hx hb dX2_nearest_29 hl (by decide) rfl (fun ls hl => ?_)
      have hq := hb4 zn1 hn1
      obtain ⟨n, hn⟩ : ∃ n : Nat, n = cs_fam σ zn1 := ⟨_, rfl⟩
      obtain ⟨i, hi⟩ : ∃ i : Nat, i = 0 := ⟨_, rfl⟩
      obtain ⟨q, hqq⟩ : ∃ q : Nat, q = 0 := ⟨_, rfl⟩
      have hE : i + n = cs_fam σ zn1 := by omega
      have hres : n_near σ zn1 zx2 (s_hidden σ zn1 zx2) zx3 n i q = s_nearest σ (nI zn1) zx2 zx3 := by rw [hn, hi, hqq]; simp [s_nearest, c_2, hclzn1, c_3]
      replace hl : lv_has ls 9 [(7, .int (nI i)), (6, .int (nI q)), (4, .long (s_hidden σ zn1 zx2)), (0, .ref (a 0)), (1, .int (nI zn1)), (2, .int zx2), (3, .int zx3)] := by rw [hi, hqq]; exact hl
      clear hn hi hqq
      revert hl
      revert hres
      revert hE
      revert hS
      revert hP
      revert ls
      revert locs
      revert H
      revert i
      revert q
      induction n with
      | zero =>
        intro q i H locs ls hP hS hE hres hl
        refine lv_iload hx hb dX2_nearest_31 (lv_at hl 0 rfl) ?_
        refine lv_aload_n hx hb dX2_nearest_33 rfl (lv_at hl 3 rfl) ?_
        refine va_get (D := D) (ci := 3) (v := .ref (a 1)) (C := RX2) (T := TX2) (N := 2) hx hb hts (by decide +kernel) hown hK.1 hP 0 rfl rfl 0 (by decide) (hts (.fieldLink RX2 10 "ChooseTree" "classes" "LChooseTree$Classes;") (by decide +kernel)) (fun _ h9 => h9) rfl dX2_nearest_34 ?_
        refine va_get (D := D) (ci := 1) (v := .ref (a 7)) (C := RX0) (T := TX0) (N := 10) hx hb hts (by decide +kernel) hown hK.1 hP 1 rfl rfl 5 (by decide) (hts (.fieldLink RX2 79 "ChooseTree$Classes" "faceAmount" "[I") (by decide +kernel)) (fun _ h9 => h9) rfl dX2_nearest_37 ?_
        refine lv_iload_n hx hb dX2_nearest_40 rfl (lv_at hl 4 rfl) ?_
        refine na_iald (D := D) hx hb hK.1 hP 7 4 rfl rfl (i := zn1) (by omega) (by decide) dX2_nearest_41 ?_
        refine lv_icmp_ge (tgt := 81) hx hb dX2_nearest_42 (by decide) (fun c_5 => ?_) (fun c_5 => ?_)
        · refine lv_iconst (v := (-1)) hx hb dX2_nearest_81 (by decide) ?_
          exact W.iret (v := (-1)) hx hb hr (fun t ht hW => ⟨⟨(-1), (), rfl, (by rw [← hres]; rfl), trivial⟩, hS.F ht⟩) hS.2.2 dX2_nearest_82
        · exact absurd (nI_le (by omega) (by omega)) c_5
      | succ n ih =>
        intro q i H locs ls hP hS hE hres hl
        have hf6 : s_faceAt σ zn1 i < 60 := s_faceAt_lt hok hn1 (by omega)
        refine lv_iload hx hb dX2_nearest_31 (lv_at hl 0 rfl) ?_
        refine lv_aload_n hx hb dX2_nearest_33 rfl (lv_at hl 3 rfl) ?_
        refine va_get (D := D) (ci := 3) (v := .ref (a 1)) (C := RX2) (T := TX2) (N := 2) hx hb hts (by decide +kernel) hown hK.1 hP 0 rfl rfl 0 (by decide) (hts (.fieldLink RX2 10 "ChooseTree" "classes" "LChooseTree$Classes;") (by decide +kernel)) (fun _ h9 => h9) rfl dX2_nearest_34 ?_
        refine va_get (D := D) (ci := 1) (v := .ref (a 7)) (C := RX0) (T := TX0) (N := 10) hx hb hts (by decide +kernel) hown hK.1 hP 1 rfl rfl 5 (by decide) (hts (.fieldLink RX2 79 "ChooseTree$Classes" "faceAmount" "[I") (by decide +kernel)) (fun _ h9 => h9) rfl dX2_nearest_37 ?_
        refine lv_iload_n hx hb dX2_nearest_40 rfl (lv_at hl 4 rfl) ?_
        refine na_iald (D := D) hx hb hK.1 hP 7 4 rfl rfl (i := zn1) (by omega) (by decide) dX2_nearest_41 ?_
        refine lv_icmp_ge (tgt := 81) hx hb dX2_nearest_42 (by decide) (fun c_6 => ?_) (fun c_6 => ?_)
        · exact absurd c_6 (nI_ge (by omega) (by omega))
        · refine lv_aload_n hx hb dX2_nearest_45 rfl (lv_at hl 3 rfl) ?_
          refine lv_iload_n hx hb dX2_nearest_46 rfl (lv_at hl 4 rfl) ?_
          refine lv_iload_n hx hb dX2_nearest_47 rfl (lv_at hl 5 rfl) ?_
          refine lv_iload hx hb dX2_nearest_48 (lv_at hl 0 rfl) ?_
          refine lv_lload hx hb dX2_nearest_50 (lv_at hl 2 rfl) ?_
          refine va_calli (va_runV (As := [.int (nI zn1), .int zx2, .int (nI i), .long (s_hidden σ zn1 zx2)]) (rest := []) ⟨hx, hb, hml, hown, hts⟩ (c_X2_nearestAt l D a k σ hok zn1 hn1 zx2 i (by omega) (s_hidden σ zn1 zx2)) (cwV 4 hts gX2_nearest_X2_nearestAt rfl rfl rfl (by decide +kernel) ⟨Nat.le_of_ble_eq_true rfl, Nat.le_of_ble_eq_true rfl⟩) (cP_V hK hP 3 0 rfl rfl) rfl rfl hl.1 rfl (lv_room (Nat.le_of_ble_eq_true rfl)) dX2_nearest_52 ⟨Nat.le_of_ble_eq_true rfl, Nat.le_of_ble_eq_true rfl⟩) hS (fun _ _ h => h.elim) (fun _ h => h.elim) (fun r_7 u t H1 locs ht hvm hw hB hz1 hk1 hS => ?_)
          replace hP := ro_kept hP hk1
          obtain rfl : r_7 = _ := hw
          clear hk1 hz1 hvm ht hB
          generalize H1 = H at hP hS ⊢
          refine lv_istore (lv' := [(8, .int (n_at σ zn1 zx2 i (s_hidden σ zn1 zx2))), (7, .int (nI i)), (6, .int (nI q)), (4, .long (s_hidden σ zn1 zx2)), (0, .ref (a 0)), (1, .int (nI zn1)), (2, .int zx2), (3, .int zx3)]) hx hb dX2_nearest_55 hl (by decide) rfl (fun ls hl => ?_)
          refine lv_iload hx hb dX2_nearest_57 (lv_at hl 0 rfl) ?_
          refine lv_iconst (v := (-1)) hx hb dX2_nearest_59 (by decide) ?_
          refine lv_icmp_eq (tgt := 75) hx hb dX2_nearest_60 (by decide) (fun c_8 => ?_) (fun c_8 => ?_)
          · refine lv_iinc (v := (nI (i + 1))) (lv' := [(7, .int (nI (i + 1))), (8, .int (n_at σ zn1 zx2 i (s_hidden σ zn1 zx2))), (6, .int (nI q)), (4, .long (s_hidden σ zn1 zx2)), (0, .ref (a 0)), (1, .int (nI zn1)), (2, .int zx2), (3, .int zx3)]) hx hb dX2_nearest_75 hl (k := 1) rfl (nI_1 _) (by decide) rfl (fun ls hl => ?_)
            refine lv_goto (tgt := 31) hx hb dX2_nearest_78 (by decide) ?_
            exact ih q (i + 1) H locs ls hP hS (by omega) (by rw [← hres]; simp [n_near, c_6, c_8]) (lv_sub hl [0, 2, 3, 4, 5, 6, 7] rfl)
          · refine lv_iload hx hb dX2_nearest_63 (lv_at hl 2 rfl) ?_
            refine lv_iload_n hx hb dX2_nearest_65 rfl (lv_at hl 7 rfl) ?_
            refine lv_icmp_ne (tgt := 72) hx hb dX2_nearest_66 (by decide) (fun c_9 => ?_) (fun c_9 => ?_)
            · refine lv_iinc (v := (nI (q + 1))) (lv' := [(6, .int (nI (q + 1))), (8, .int (n_at σ zn1 zx2 i (s_hidden σ zn1 zx2))), (7, .int (nI i)), (4, .long (s_hidden σ zn1 zx2)), (0, .ref (a 0)), (1, .int (nI zn1)), (2, .int zx2), (3, .int zx3)]) hx hb dX2_nearest_72 hl (k := 2) rfl (nI_1 _) (by decide) rfl (fun ls hl => ?_)
              refine lv_iinc (v := (nI (i + 1))) (lv' := [(7, .int (nI (i + 1))), (6, .int (nI (q + 1))), (8, .int (n_at σ zn1 zx2 i (s_hidden σ zn1 zx2))), (4, .long (s_hidden σ zn1 zx2)), (0, .ref (a 0)), (1, .int (nI zn1)), (2, .int zx2), (3, .int zx3)]) hx hb dX2_nearest_75 hl (k := 2) rfl (nI_1 _) (by decide) rfl (fun ls hl => ?_)
              refine lv_goto (tgt := 31) hx hb dX2_nearest_78 (by decide) ?_
              exact ih (q + 1) (i + 1) H locs ls hP hS (by omega) (by rw [← hres]; simp [n_near, c_6, c_8, c_9]) (lv_sub hl [0, 1, 3, 4, 5, 6, 7] rfl)
            · refine lv_iload hx hb dX2_nearest_69 (lv_at hl 0 rfl) ?_
              exact W.iret (v := (n_at σ zn1 zx2 i (s_hidden σ zn1 zx2))) hx hb hr (fun t ht hW => ⟨⟨(n_at σ zn1 zx2 i (s_hidden σ zn1 zx2)), (), rfl, (by rw [← hres]; simp [n_near, c_6, c_8, c_9]), trivial⟩, hS.F ht⟩) hS.2.2 dX2_nearest_71
    · refine lv_iconst (v := (-1)) hx hb dX2_nearest_15 (by decide) ?_
      exact W.iret (v := (-1)) hx hb hr (fun t ht hW => ⟨⟨(-1), (), rfl, (by simp [s_nearest, c_2, hclzn1, c_3]), trivial⟩, hS.F ht⟩) hS.2.2 dX2_nearest_16
set_option maxHeartbeats 4000000 in
set_option maxRecDepth 100000 in
theorem c_X2_unlessAbstract (l : Launch) (D : va_G) (a : Nat → Nat) (k : Nat → ClassId) (σ : CS) (zn1 : Nat) (hn1 : zn1 < 400) : Met l yX2_unlessAbstract wsX2_unlessAbstract (rmC 1 21) (cP D a k σ [.ref (a 0), .int (nI zn1)]) (roQ (u_abs σ zn1)) 0 0 (fun _ => False) := by
  refine Met.ofW (cc := cX2_unlessAbstract) (maxL := 2) (ret := (some .int)) (by decide) rfl ?_
  intro p e s m args below meth c s₁ B hml hv
  obtain ⟨rfl, hP, hK⟩ := hv
  have hx := B.exec
  have hb := B.bytes
  have hr := B.returns
  have hts := atoms_spec (ws := wsX2_unlessAbstract) B.pre
  have hown : s.vm.findClass RX2 = some m.cls := findClass_of_methodNamed B.named
  have hlocks := B.notSynchronized
  clear B
  have hl := lv_entry ([.ref (a 0), .int (nI zn1)]) (n := 2) (Nat.le_of_ble_eq_true rfl)
  rw [lg_entry_eq]
  generalize (lg_sl ([.ref (a 0), .int (nI zn1)]) ++ List.replicate (2 - (lg_sl ([.ref (a 0), .int (nI zn1)])).length) Slot.unset).toArray = ls at hl ⊢
  replace hl : lv_has ls 2 [(0, .ref (a 0)), (1, .int (nI zn1))] := hl
  refine gen_start (A := (fun _ => False)) (fun H locs hP hS => ?_) hP
  refine lv_aload_n hx hb dX2_unlessAbstract_0 rfl (lv_at hl 0 rfl) ?_
  refine va_get (D := D) (ci := 3) (v := .ref (a 2)) (C := RX2) (T := TX2) (N := 2) hx hb hts (by decide +kernel) hown hK.1 hP 0 rfl rfl 1 (by decide) (hts (.fieldLink RX2 19 "ChooseTree" "methods" "LChooseTree$Methods;") (by decide +kernel)) (fun _ h9 => h9) rfl dX2_unlessAbstract_1 ?_
  refine lv_iload_n hx hb dX2_unlessAbstract_4 rfl (lv_at hl 1 rfl) ?_
  refine va_calli (va_runV (As := [.int (nI zn1)]) (rest := []) ⟨hx, hb, hml, hown, hts⟩ (c_X1_isAbstract l D a k σ zn1 hn1) (cwV 1 hts gX2_unlessAbstract_X1_isAbstract rfl rfl rfl (by decide +kernel) ⟨Nat.le_of_ble_eq_true rfl, Nat.le_of_ble_eq_true rfl⟩) (cP_V hK hP 2 2 rfl rfl) rfl rfl hl.1 rfl (lv_room (Nat.le_of_ble_eq_true rfl)) dX2_unlessAbstract_5 ⟨Nat.le_of_ble_eq_true rfl, Nat.le_of_ble_eq_true rfl⟩) hS (fun _ _ h => h.elim) (fun _ h => h.elim) (fun r_1 u t H1 locs ht hvm hw hB hz1 hk1 hS => ?_)
  replace hP := ro_kept hP hk1
  obtain rfl : r_1 = _ := hw
  clear hk1 hz1 hvm ht hB
  generalize H1 = H at hP hS ⊢
  refine lv_if_eq (tgt := 16) hx hb dX2_unlessAbstract_8 (by decide) (fun c_2 => ?_) (fun c_2 => ?_)
  · replace c_2 := bI_0.mp c_2
    refine lv_iload_n hx hb dX2_unlessAbstract_16 rfl (lv_at hl 1 rfl) ?_
    exact W.iret (v := (nI zn1)) hx hb hr (fun t ht hW => ⟨⟨(nI zn1), (), rfl, (by simp [u_abs, c_2]), trivial⟩, hS.F ht⟩) hS.2.2 dX2_unlessAbstract_17
  · replace c_2 := bI_n0.mp c_2
    refine lv_bipush (v := (-25)) hx hb dX2_unlessAbstract_11 (by decide) ?_
    refine lv_goto (tgt := 17) hx hb dX2_unlessAbstract_13 (by decide) ?_
    exact W.iret (v := (-25)) hx hb hr (fun t ht hW => ⟨⟨(-25), (), rfl, (by simp [u_abs, c_2]), trivial⟩, hS.F ht⟩) hS.2.2 dX2_unlessAbstract_17
set_option maxHeartbeats 4000000 in
set_option maxRecDepth 100000 in
theorem c_X2_find (l : Launch) (D : va_G) (a : Nat → Nat) (k : Nat → ClassId) (σ : CS) (hok : cok σ) (zx1 zx2 : Int32) : Met l yX2_find wsX2_find (rmC 4 90) (cP D a k σ [.ref (a 0), .int zx1, .int zx2]) (roQ (s_find σ zx1 zx2)) 0 0 (fun _ => False) := by
  refine Met.ofW (cc := cX2_find) (maxL := 5) (ret := (some .int)) (by decide) rfl ?_
  intro p e s m args below meth c s₁ B hml hv
  obtain ⟨rfl, hP, hK⟩ := hv
  have hx := B.exec
  have hb := B.bytes
  have hr := B.returns
  have hts := atoms_spec (ws := wsX2_find) B.pre
  have hown : s.vm.findClass RX2 = some m.cls := findClass_of_methodNamed B.named
  have hlocks := B.notSynchronized
  clear B
  have hl := lv_entry ([.ref (a 0), .int zx1, .int zx2]) (n := 5) (Nat.le_of_ble_eq_true rfl)
  rw [lg_entry_eq]
  generalize (lg_sl ([.ref (a 0), .int zx1, .int zx2]) ++ List.replicate (5 - (lg_sl ([.ref (a 0), .int zx1, .int zx2])).length) Slot.unset).toArray = ls at hl ⊢
  replace hl : lv_has ls 5 [(0, .ref (a 0)), (1, .int zx1), (2, .int zx2)] := hl
  refine gen_start (A := (fun _ => False)) (fun H locs hP hS => ?_) hP
  obtain ⟨hb0, ⟨hb1, hb2, hb3, hb4, hb5, hb6⟩, hb7, hb8⟩ := id hok
  refine lv_aload_n hx hb dX2_find_0 rfl (lv_at hl 0 rfl) ?_
  refine va_get (D := D) (ci := 3) (v := .ref (a 1)) (C := RX2) (T := TX2) (N := 2) hx hb hts (by decide +kernel) hown hK.1 hP 0 rfl rfl 0 (by decide) (hts (.fieldLink RX2 10 "ChooseTree" "classes" "LChooseTree$Classes;") (by decide +kernel)) (fun _ h9 => h9) rfl dX2_find_1 ?_
  refine lv_iload_n hx hb dX2_find_4 rfl (lv_at hl 1 rfl) ?_
  refine va_calli (va_runV (As := [.int zx1]) (rest := []) ⟨hx, hb, hml, hown, hts⟩ (c_X0_exists l D a k σ zx1) (cwV 1 hts gX2_find_X0_exists rfl rfl rfl (by decide +kernel) ⟨Nat.le_of_ble_eq_true rfl, Nat.le_of_ble_eq_true rfl⟩) (cP_V hK hP 1 1 rfl rfl) rfl rfl hl.1 rfl (lv_room (Nat.le_of_ble_eq_true rfl)) dX2_find_5 ⟨Nat.le_of_ble_eq_true rfl, Nat.le_of_ble_eq_true rfl⟩) hS (fun _ _ h => h.elim) (fun _ h => h.elim) (fun r_1 u t H1 locs ht hvm hw hB hz1 hk1 hS => ?_)
  replace hP := ro_kept hP hk1
  obtain rfl : r_1 = _ := hw
  clear hk1 hz1 hvm ht hB
  generalize H1 = H at hP hS ⊢
  refine lv_if_ne (tgt := 14) hx hb dX2_find_8 (by decide) (fun c_2 => ?_) (fun c_2 => ?_)
  · replace c_2 := bI_n0.mp c_2
    obtain ⟨zj1, hzj1, ezj1⟩ := s_exists_of hok c_2
    subst ezj1
    have hclzj1 := nI_clamp (n := zj1) (by omega)
    refine lv_aload_n hx hb dX2_find_14 rfl (lv_at hl 0 rfl) ?_
    refine lv_iload_n hx hb dX2_find_15 rfl (lv_at hl 1 rfl) ?_
    refine lv_iload_n hx hb dX2_find_16 rfl (lv_at hl 2 rfl) ?_
    refine va_calli (va_runV (As := [.int (nI zj1), .int zx2]) (rest := []) ⟨hx, hb, hml, hown, hts⟩ (c_X2_firstInRow l D a k σ hok zj1 (by omega) zx2) (cwV 2 hts gX2_find_X2_firstInRow rfl rfl rfl (by decide +kernel) ⟨Nat.le_of_ble_eq_true rfl, Nat.le_of_ble_eq_true rfl⟩) (cP_V hK hP 3 0 rfl rfl) rfl rfl hl.1 rfl (lv_room (Nat.le_of_ble_eq_true rfl)) dX2_find_17 ⟨Nat.le_of_ble_eq_true rfl, Nat.le_of_ble_eq_true rfl⟩) hS (fun _ _ h => h.elim) (fun _ h => h.elim) (fun r_3 u t H1 locs ht hvm hw hB hz1 hk1 hS => ?_)
    replace hP := ro_kept hP hk1
    obtain rfl : r_3 = _ := hw
    clear hk1 hz1 hvm ht hB
    generalize H1 = H at hP hS ⊢
    refine lv_istore_n (lv' := [(3, .int (s_firstInRow σ zj1 zx2)), (0, .ref (a 0)), (1, .int (nI zj1)), (2, .int zx2)]) hx hb dX2_find_20 rfl hl (by decide) rfl (fun ls hl => ?_)
    refine lv_iload_n hx hb dX2_find_21 rfl (lv_at hl 0 rfl) ?_
    refine lv_iconst (v := (-1)) hx hb dX2_find_22 (by decide) ?_
    refine lv_icmp_eq (tgt := 28) hx hb dX2_find_23 (by decide) (fun c_4 => ?_) (fun c_4 => ?_)
    · refine lv_aload_n hx hb dX2_find_28 rfl (lv_at hl 1 rfl) ?_
      refine lv_iload_n hx hb dX2_find_29 rfl (lv_at hl 2 rfl) ?_
      refine lv_iload_n hx hb dX2_find_30 rfl (lv_at hl 3 rfl) ?_
      refine va_calli (va_runV (As := [.int (nI zj1), .int zx2]) (rest := []) ⟨hx, hb, hml, hown, hts⟩ (c_X2_onlyConcreteNearest l D a k σ hok zj1 (by omega) zx2) (cwV 2 hts gX2_find_X2_onlyConcreteNearest rfl rfl rfl (by decide +kernel) ⟨Nat.le_of_ble_eq_true rfl, Nat.le_of_ble_eq_true rfl⟩) (cP_V hK hP 3 0 rfl rfl) rfl rfl hl.1 rfl (lv_room (Nat.le_of_ble_eq_true rfl)) dX2_find_31 ⟨Nat.le_of_ble_eq_true rfl, Nat.le_of_ble_eq_true rfl⟩) hS (fun _ _ h => h.elim) (fun _ h => h.elim) (fun r_5 u t H1 locs ht hvm hw hB hz1 hk1 hS => ?_)
      replace hP := ro_kept hP hk1
      obtain rfl : r_5 = _ := hw
      clear hk1 hz1 hvm ht hB
      generalize H1 = H at hP hS ⊢
      refine lv_istore (lv' := [(4, .int (s_only σ zj1 zx2)), (3, .int (s_firstInRow σ zj1 zx2)), (0, .ref (a 0)), (1, .int (nI zj1)), (2, .int zx2)]) hx hb dX2_find_34 hl (by decide) rfl (fun ls hl => ?_)
      refine lv_iload hx hb dX2_find_36 (lv_at hl 0 rfl) ?_
      refine lv_if_lt (tgt := 46) hx hb dX2_find_38 (by decide) (fun c_6 => ?_) (fun c_6 => ?_)
      · refine lv_aload_n hx hb dX2_find_46 rfl (lv_at hl 2 rfl) ?_
        refine lv_iload_n hx hb dX2_find_47 rfl (lv_at hl 3 rfl) ?_
        refine lv_iload_n hx hb dX2_find_48 rfl (lv_at hl 4 rfl) ?_
        refine va_calli (va_runV (As := [.int (nI zj1), .int zx2]) (rest := []) ⟨hx, hb, hml, hown, hts⟩ (c_X2_firstInFaces l D a k σ hok zj1 (by omega) zx2) (cwV 2 hts gX2_find_X2_firstInFaces rfl rfl rfl (by decide +kernel) ⟨Nat.le_of_ble_eq_true rfl, Nat.le_of_ble_eq_true rfl⟩) (cP_V hK hP 3 0 rfl rfl) rfl rfl hl.1 rfl (lv_room (Nat.le_of_ble_eq_true rfl)) dX2_find_49 ⟨Nat.le_of_ble_eq_true rfl, Nat.le_of_ble_eq_true rfl⟩) hS (fun _ _ h => h.elim) (fun _ h => h.elim) (fun r_7 u t H1 locs ht hvm hw hB hz1 hk1 hS => ?_)
        replace hP := ro_kept hP hk1
        obtain rfl : r_7 = _ := hw
        clear hk1 hz1 hvm ht hB
        generalize H1 = H at hP hS ⊢
        exact W.iret (v := (s_inFaces σ zj1 zx2)) hx hb hr (fun t ht hW => ⟨⟨(s_inFaces σ zj1 zx2), (), rfl, (by simp only [s_find, c_2, hclzj1, c_4, c_6]; simp [c_2, hclzj1, c_4, c_6]), trivial⟩, hS.F ht⟩) hS.2.2 dX2_find_52
      · refine lv_iload hx hb dX2_find_41 (lv_at hl 0 rfl) ?_
        refine lv_goto (tgt := 52) hx hb dX2_find_43 (by decide) ?_
        exact W.iret (v := (s_only σ zj1 zx2)) hx hb hr (fun t ht hW => ⟨⟨(s_only σ zj1 zx2), (), rfl, (by simp only [s_find, c_2, hclzj1, c_4, c_6]; simp [c_2, hclzj1, c_4, c_6]), trivial⟩, hS.F ht⟩) hS.2.2 dX2_find_52
    · refine lv_iload_n hx hb dX2_find_26 rfl (lv_at hl 0 rfl) ?_
      exact W.iret (v := (s_firstInRow σ zj1 zx2)) hx hb hr (fun t ht hW => ⟨⟨(s_firstInRow σ zj1 zx2), (), rfl, (by simp only [s_find, c_2, hclzj1, c_4]; simp [c_2, hclzj1, c_4]), trivial⟩, hS.F ht⟩) hS.2.2 dX2_find_27
  · replace c_2 := bI_0.mp c_2
    refine lv_bipush (v := (-14)) hx hb dX2_find_11 (by decide) ?_
    exact W.iret (v := (-14)) hx hb hr (fun t ht hW => ⟨⟨(-14), (), rfl, (by simp only [s_find, c_2]; simp [c_2]), trivial⟩, hS.F ht⟩) hS.2.2 dX2_find_13
set_option maxHeartbeats 4000000 in
set_option maxRecDepth 100000 in
theorem c_X2_choose (l : Launch) (D : va_G) (a : Nat → Nat) (k : Nat → ClassId) (σ : CS) (hok : cok σ) (zx1 zx2 : Int32) : Met l yX2_choose wsX2_choose (rmC 6 138) (cP D a k σ [.ref (a 0), .int zx1, .int zx2]) (roQ (s_choose σ zx1 zx2)) 0 0 (fun _ => False) := by
  refine Met.ofW (cc := cX2_choose) (maxL := 5) (ret := (some .int)) (by decide) rfl ?_
  intro p e s m args below meth c s₁ B hml hv
  obtain ⟨rfl, hP, hK⟩ := hv
  have hx := B.exec
  have hb := B.bytes
  have hr := B.returns
  have hts := atoms_spec (ws := wsX2_choose) B.pre
  have hown : s.vm.findClass RX2 = some m.cls := findClass_of_methodNamed B.named
  have hlocks := B.notSynchronized
  clear B
  have hl := lv_entry ([.ref (a 0), .int zx1, .int zx2]) (n := 5) (Nat.le_of_ble_eq_true rfl)
  rw [lg_entry_eq]
  generalize (lg_sl ([.ref (a 0), .int zx1, .int zx2]) ++ List.replicate (5 - (lg_sl ([.ref (a 0), .int zx1, .int zx2])).length) Slot.unset).toArray = ls at hl ⊢
  replace hl : lv_has ls 5 [(0, .ref (a 0)), (1, .int zx1), (2, .int zx2)] := hl
  refine gen_start (A := (fun _ => False)) (fun H locs hP hS => ?_) hP
  obtain ⟨hb0, ⟨hb1, hb2, hb3, hb4, hb5, hb6⟩, hb7, hb8⟩ := id hok
  refine lv_aload_n hx hb dX2_choose_0 rfl (lv_at hl 0 rfl) ?_
  refine va_get (D := D) (ci := 3) (v := .ref (a 1)) (C := RX2) (T := TX2) (N := 2) hx hb hts (by decide +kernel) hown hK.1 hP 0 rfl rfl 0 (by decide) (hts (.fieldLink RX2 10 "ChooseTree" "classes" "LChooseTree$Classes;") (by decide +kernel)) (fun _ h9 => h9) rfl dX2_choose_1 ?_
  refine lv_iload_n hx hb dX2_choose_4 rfl (lv_at hl 1 rfl) ?_
  refine va_calli (va_runV (As := [.int zx1]) (rest := []) ⟨hx, hb, hml, hown, hts⟩ (c_X0_isPlain l D a k σ hok zx1) (cwV 1 hts gX2_choose_X0_isPlain rfl rfl rfl (by decide +kernel) ⟨Nat.le_of_ble_eq_true rfl, Nat.le_of_ble_eq_true rfl⟩) (cP_V hK hP 1 1 rfl rfl) rfl rfl hl.1 rfl (lv_room (Nat.le_of_ble_eq_true rfl)) dX2_choose_5 ⟨Nat.le_of_ble_eq_true rfl, Nat.le_of_ble_eq_true rfl⟩) hS (fun _ _ h => h.elim) (fun _ h => h.elim) (fun r_1 u t H1 locs ht hvm hw hB hz1 hk1 hS => ?_)
  replace hP := ro_kept hP hk1
  obtain rfl : r_1 = _ := hw
  clear hk1 hz1 hvm ht hB
  generalize H1 = H at hP hS ⊢
  refine lv_if_eq (tgt := 33) hx hb dX2_choose_8 (by decide) (fun c_2 => ?_) (fun c_2 => ?_)
  · replace c_2 := bI_0.mp c_2
    refine lv_bipush (v := (-14)) hx hb dX2_choose_33 (by decide) ?_
    exact W.iret (v := (-14)) hx hb hr (fun t ht hW => ⟨⟨(-14), (), rfl, (by simp [s_choose, c_2]), trivial⟩, hS.F ht⟩) hS.2.2 dX2_choose_35
  · replace c_2 := bI_n0.mp c_2
    obtain ⟨zj1, hzj1, ezj1⟩ := s_isPlain_of hok c_2
    subst ezj1
    have hclzj1 := nI_clamp (n := zj1) (by omega)
    refine lv_aload_n hx hb dX2_choose_11 rfl (lv_at hl 0 rfl) ?_
    refine va_get (D := D) (ci := 3) (v := .ref (a 2)) (C := RX2) (T := TX2) (N := 2) hx hb hts (by decide +kernel) hown hK.1 hP 0 rfl rfl 1 (by decide) (hts (.fieldLink RX2 19 "ChooseTree" "methods" "LChooseTree$Methods;") (by decide +kernel)) (fun _ h9 => h9) rfl dX2_choose_12 ?_
    refine lv_iload_n hx hb dX2_choose_15 rfl (lv_at hl 2 rfl) ?_
    refine va_calli (va_runV (As := [.int zx2]) (rest := []) ⟨hx, hb, hml, hown, hts⟩ (c_X1_exists l D a k σ zx2) (cwV 1 hts gX2_choose_X1_exists rfl rfl rfl (by decide +kernel) ⟨Nat.le_of_ble_eq_true rfl, Nat.le_of_ble_eq_true rfl⟩) (cP_V hK hP 2 2 rfl rfl) rfl rfl hl.1 rfl (lv_room (Nat.le_of_ble_eq_true rfl)) dX2_choose_16 ⟨Nat.le_of_ble_eq_true rfl, Nat.le_of_ble_eq_true rfl⟩) hS (fun _ _ h => h.elim) (fun _ h => h.elim) (fun r_3 u t H1 locs ht hvm hw hB hz1 hk1 hS => ?_)
    replace hP := ro_kept hP hk1
    obtain rfl : r_3 = _ := hw
    clear hk1 hz1 hvm ht hB
    generalize H1 = H at hP hS ⊢
    refine lv_if_eq (tgt := 33) hx hb dX2_choose_19 (by decide) (fun c_4 => ?_) (fun c_4 => ?_)
    · replace c_4 := bI_0.mp c_4
      refine lv_bipush (v := (-14)) hx hb dX2_choose_33 (by decide) ?_
      exact W.iret (v := (-14)) hx hb hr (fun t ht hW => ⟨⟨(-14), (), rfl, (by simp [s_choose, c_2, hclzj1, c_4]), trivial⟩, hS.F ht⟩) hS.2.2 dX2_choose_35
    · replace c_4 := bI_n0.mp c_4
      obtain ⟨zj2, hzj2, ezj2⟩ := m_exists_of hok c_4
      subst ezj2
      have hclzj2 := nI_clamp (n := zj2) (by omega)
      refine lv_aload_n hx hb dX2_choose_22 rfl (lv_at hl 0 rfl) ?_
      refine va_get (D := D) (ci := 3) (v := .ref (a 2)) (C := RX2) (T := TX2) (N := 2) hx hb hts (by decide +kernel) hown hK.1 hP 0 rfl rfl 1 (by decide) (hts (.fieldLink RX2 19 "ChooseTree" "methods" "LChooseTree$Methods;") (by decide +kernel)) (fun _ h9 => h9) rfl dX2_choose_23 ?_
      refine lv_iload_n hx hb dX2_choose_26 rfl (lv_at hl 2 rfl) ?_
      refine va_calli (va_runV (As := [.int (nI zj2)]) (rest := []) ⟨hx, hb, hml, hown, hts⟩ (c_X1_isStatic l D a k σ zj2 (by omega)) (cwV 1 hts gX2_choose_X1_isStatic rfl rfl rfl (by decide +kernel) ⟨Nat.le_of_ble_eq_true rfl, Nat.le_of_ble_eq_true rfl⟩) (cP_V hK hP 2 2 rfl rfl) rfl rfl hl.1 rfl (lv_room (Nat.le_of_ble_eq_true rfl)) dX2_choose_27 ⟨Nat.le_of_ble_eq_true rfl, Nat.le_of_ble_eq_true rfl⟩) hS (fun _ _ h => h.elim) (fun _ h => h.elim) (fun r_5 u t H1 locs ht hvm hw hB hz1 hk1 hS => ?_)
      replace hP := ro_kept hP hk1
      obtain rfl : r_5 = _ := hw
      clear hk1 hz1 hvm ht hB
      generalize H1 = H at hP hS ⊢
      refine lv_if_eq (tgt := 36) hx hb dX2_choose_30 (by decide) (fun c_6 => ?_) (fun c_6 => ?_)
      · replace c_6 := bI_0.mp c_6
        refine lv_aload_n hx hb dX2_choose_36 rfl (lv_at hl 0 rfl) ?_
        refine lv_iload_n hx hb dX2_choose_37 rfl (lv_at hl 1 rfl) ?_
        refine lv_aload_n hx hb dX2_choose_38 rfl (lv_at hl 0 rfl) ?_
        refine va_get (D := D) (ci := 3) (v := .ref (a 2)) (C := RX2) (T := TX2) (N := 2) hx hb hts (by decide +kernel) hown hK.1 hP 0 rfl rfl 1 (by decide) (hts (.fieldLink RX2 19 "ChooseTree" "methods" "LChooseTree$Methods;") (by decide +kernel)) (fun _ h9 => h9) rfl dX2_choose_39 ?_
        refine va_get (D := D) (ci := 2) (v := .ref (a 10)) (C := RX1) (T := TX1) (N := 7) hx hb hts (by decide +kernel) hown hK.1 hP 2 rfl rfl 1 (by decide) (hts (.fieldLink RX2 115 "ChooseTree$Methods" "owner" "[I") (by decide +kernel)) (fun _ h9 => h9) rfl dX2_choose_42 ?_
        refine lv_iload_n hx hb dX2_choose_45 rfl (lv_at hl 2 rfl) ?_
        refine na_iald (D := D) hx hb hK.1 hP 10 7 rfl rfl (i := zj2) (by omega) (by decide) dX2_choose_46 ?_
        refine va_calli (va_runV (As := [.int (nI zj1), .int (nI ((cs_ow σ) zj2))]) (rest := []) ⟨hx, hb, hml, hown, hts⟩ (c_X2_isBelow l D a k σ hok (nI zj1) (nI (cs_ow σ zj2))) (cwV 2 hts gX2_choose_X2_isBelow rfl rfl rfl (by decide +kernel) ⟨Nat.le_of_ble_eq_true rfl, Nat.le_of_ble_eq_true rfl⟩) (cP_V hK hP 3 0 rfl rfl) rfl rfl hl.1 rfl (lv_room (Nat.le_of_ble_eq_true rfl)) dX2_choose_47 ⟨Nat.le_of_ble_eq_true rfl, Nat.le_of_ble_eq_true rfl⟩) hS (fun _ _ h => h.elim) (fun _ h => h.elim) (fun r_7 u t H1 locs ht hvm hw hB hz1 hk1 hS => ?_)
        replace hP := ro_kept hP hk1
        obtain rfl : r_7 = _ := hw
        clear hk1 hz1 hvm ht hB
        generalize H1 = H at hP hS ⊢
        refine lv_if_ne (tgt := 56) hx hb dX2_choose_50 (by decide) (fun c_8 => ?_) (fun c_8 => ?_)
        · replace c_8 := bI_n0.mp c_8
          refine lv_aload_n hx hb dX2_choose_56 rfl (lv_at hl 0 rfl) ?_
          refine va_get (D := D) (ci := 3) (v := .ref (a 2)) (C := RX2) (T := TX2) (N := 2) hx hb hts (by decide +kernel) hown hK.1 hP 0 rfl rfl 1 (by decide) (hts (.fieldLink RX2 19 "ChooseTree" "methods" "LChooseTree$Methods;") (by decide +kernel)) (fun _ h9 => h9) rfl dX2_choose_57 ?_
          refine lv_iload_n hx hb dX2_choose_60 rfl (lv_at hl 2 rfl) ?_
          refine va_calli (va_runV (As := [.int (nI zj2)]) (rest := []) ⟨hx, hb, hml, hown, hts⟩ (c_X1_isPrivate l D a k σ zj2 (by omega)) (cwV 1 hts gX2_choose_X1_isPrivate rfl rfl rfl (by decide +kernel) ⟨Nat.le_of_ble_eq_true rfl, Nat.le_of_ble_eq_true rfl⟩) (cP_V hK hP 2 2 rfl rfl) rfl rfl hl.1 rfl (lv_room (Nat.le_of_ble_eq_true rfl)) dX2_choose_61 ⟨Nat.le_of_ble_eq_true rfl, Nat.le_of_ble_eq_true rfl⟩) hS (fun _ _ h => h.elim) (fun _ h => h.elim) (fun r_9 u t H1 locs ht hvm hw hB hz1 hk1 hS => ?_)
          replace hP := ro_kept hP hk1
          obtain rfl : r_9 = _ := hw
          clear hk1 hz1 hvm ht hB
          generalize H1 = H at hP hS ⊢
          refine lv_if_eq (tgt := 69) hx hb dX2_choose_64 (by decide) (fun c_10 => ?_) (fun c_10 => ?_)
          · replace c_10 := bI_0.mp c_10
            refine lv_aload_n hx hb dX2_choose_69 rfl (lv_at hl 0 rfl) ?_
            refine lv_iload_n hx hb dX2_choose_70 rfl (lv_at hl 1 rfl) ?_
            refine lv_iload_n hx hb dX2_choose_71 rfl (lv_at hl 2 rfl) ?_
            refine va_calli (va_runV (As := [.int (nI zj1), .int (nI zj2)]) (rest := []) ⟨hx, hb, hml, hown, hts⟩ (c_X2_firstReplacing l D a k σ hok zj1 zj2 (by omega) (by omega)) (cwV 2 hts gX2_choose_X2_firstReplacing rfl rfl rfl (by decide +kernel) ⟨Nat.le_of_ble_eq_true rfl, Nat.le_of_ble_eq_true rfl⟩) (cP_V hK hP 3 0 rfl rfl) rfl rfl hl.1 rfl (lv_room (Nat.le_of_ble_eq_true rfl)) dX2_choose_72 ⟨Nat.le_of_ble_eq_true rfl, Nat.le_of_ble_eq_true rfl⟩) hS (fun _ _ h => h.elim) (fun _ h => h.elim) (fun r_11 u t H1 locs ht hvm hw hB hz1 hk1 hS => ?_)
            replace hP := ro_kept hP hk1
            obtain rfl : r_11 = _ := hw
            clear hk1 hz1 hvm ht hB
            generalize H1 = H at hP hS ⊢
            refine lv_istore_n (lv' := [(3, .int (s_firstRepl σ zj1 zj2)), (0, .ref (a 0)), (1, .int (nI zj1)), (2, .int (nI zj2))]) hx hb dX2_choose_75 rfl hl (by decide) rfl (fun ls hl => ?_)
            refine lv_iload_n hx hb dX2_choose_76 rfl (lv_at hl 0 rfl) ?_
            refine lv_iconst (v := (-1)) hx hb dX2_choose_77 (by decide) ?_
            refine lv_icmp_eq (tgt := 87) hx hb dX2_choose_78 (by decide) (fun c_12 => ?_) (fun c_12 => ?_)
            · refine lv_aload_n hx hb dX2_choose_87 rfl (lv_at hl 1 rfl) ?_
              refine lv_iload_n hx hb dX2_choose_88 rfl (lv_at hl 2 rfl) ?_
              refine lv_aload_n hx hb dX2_choose_89 rfl (lv_at hl 1 rfl) ?_
              refine va_get (D := D) (ci := 3) (v := .ref (a 2)) (C := RX2) (T := TX2) (N := 2) hx hb hts (by decide +kernel) hown hK.1 hP 0 rfl rfl 1 (by decide) (hts (.fieldLink RX2 19 "ChooseTree" "methods" "LChooseTree$Methods;") (by decide +kernel)) (fun _ h9 => h9) rfl dX2_choose_90 ?_
              refine va_get (D := D) (ci := 2) (v := .ref (a 11)) (C := RX1) (T := TX1) (N := 7) hx hb hts (by decide +kernel) hown hK.1 hP 2 rfl rfl 2 (by decide) (hts (.fieldLink RX2 131 "ChooseTree$Methods" "name" "[I") (by decide +kernel)) (fun _ h9 => h9) rfl dX2_choose_93 ?_
              refine lv_iload_n hx hb dX2_choose_96 rfl (lv_at hl 3 rfl) ?_
              refine na_iald (D := D) hx hb hK.1 hP 11 8 rfl rfl (i := zj2) (by omega) (by decide) dX2_choose_97 ?_
              refine va_calli (va_runV (As := [.int (nI zj1), .int ((cs_nm σ) zj2)]) (rest := []) ⟨hx, hb, hml, hown, hts⟩ (c_X2_onlyConcreteNearest l D a k σ hok zj1 (by omega) (cs_nm σ zj2)) (cwV 2 hts gX2_choose_X2_onlyConcreteNearest rfl rfl rfl (by decide +kernel) ⟨Nat.le_of_ble_eq_true rfl, Nat.le_of_ble_eq_true rfl⟩) (cP_V hK hP 3 0 rfl rfl) rfl rfl hl.1 rfl (lv_room (Nat.le_of_ble_eq_true rfl)) dX2_choose_98 ⟨Nat.le_of_ble_eq_true rfl, Nat.le_of_ble_eq_true rfl⟩) hS (fun _ _ h => h.elim) (fun _ h => h.elim) (fun r_13 u t H1 locs ht hvm hw hB hz1 hk1 hS => ?_)
              replace hP := ro_kept hP hk1
              obtain rfl : r_13 = _ := hw
              clear hk1 hz1 hvm ht hB
              generalize H1 = H at hP hS ⊢
              refine lv_istore (lv' := [(4, .int (s_only σ zj1 ((cs_nm σ) zj2))), (3, .int (s_firstRepl σ zj1 zj2)), (0, .ref (a 0)), (1, .int (nI zj1)), (2, .int (nI zj2))]) hx hb dX2_choose_101 hl (by decide) rfl (fun ls hl => ?_)
              refine lv_iload hx hb dX2_choose_103 (lv_at hl 0 rfl) ?_
              refine lv_iconst (v := (-1)) hx hb dX2_choose_105 (by decide) ?_
              refine lv_icmp_ne (tgt := 114) hx hb dX2_choose_106 (by decide) (fun c_14 => ?_) (fun c_14 => ?_)
              · refine lv_iload hx hb dX2_choose_114 (lv_at hl 0 rfl) ?_
                exact W.iret (v := (s_only σ zj1 ((cs_nm σ) zj2))) hx hb hr (fun t ht hW => ⟨⟨(s_only σ zj1 ((cs_nm σ) zj2)), (), rfl, (by simp [s_choose, c_2, hclzj1, c_4, hclzj2, c_6, c_8, c_10, c_12, c_14]), trivial⟩, hS.F ht⟩) hS.2.2 dX2_choose_116
              · refine lv_bipush (v := (-25)) hx hb dX2_choose_109 (by decide) ?_
                refine lv_goto (tgt := 116) hx hb dX2_choose_111 (by decide) ?_
                exact W.iret (v := (-25)) hx hb hr (fun t ht hW => ⟨⟨(-25), (), rfl, (by simp [s_choose, c_2, hclzj1, c_4, hclzj2, c_6, c_8, c_10, c_12, c_14]), trivial⟩, hS.F ht⟩) hS.2.2 dX2_choose_116
            · obtain ⟨j, hj, ej⟩ := (f_repl_of hok zj1 zj2 (zj1 + 1) (by omega)).resolve_left c_12
              rw [show s_firstRepl σ zj1 zj2 = nI j from ej] at hl
              have ec : (s_firstRepl σ zj1 zj2).toNatClampNeg = j := by rw [show s_firstRepl σ zj1 zj2 = nI j from ej]; exact nI_clamp (by omega)
              refine lv_aload_n hx hb dX2_choose_81 rfl (lv_at hl 1 rfl) ?_
              refine lv_iload_n hx hb dX2_choose_82 rfl (lv_at hl 0 rfl) ?_
              refine va_calli (va_runV (As := [.int (nI j)]) (rest := []) ⟨hx, hb, hml, hown, hts⟩ (c_X2_unlessAbstract l D a k σ j (by omega)) (cwV 1 hts gX2_choose_X2_unlessAbstract rfl rfl rfl (by decide +kernel) ⟨Nat.le_of_ble_eq_true rfl, Nat.le_of_ble_eq_true rfl⟩) (cP_V hK hP 3 0 rfl rfl) rfl rfl hl.1 rfl (lv_room (Nat.le_of_ble_eq_true rfl)) dX2_choose_83 ⟨Nat.le_of_ble_eq_true rfl, Nat.le_of_ble_eq_true rfl⟩) hS (fun _ _ h => h.elim) (fun _ h => h.elim) (fun r_15 u t H1 locs ht hvm hw hB hz1 hk1 hS => ?_)
              replace hP := ro_kept hP hk1
              obtain rfl : r_15 = _ := hw
              clear hk1 hz1 hvm ht hB
              generalize H1 = H at hP hS ⊢
              exact W.iret (v := (u_abs σ j)) hx hb hr (fun t ht hW => ⟨⟨(u_abs σ j), (), rfl, (by simp [s_choose, c_2, hclzj1, c_4, hclzj2, c_6, c_8, c_10, c_12, ec]), trivial⟩, hS.F ht⟩) hS.2.2 dX2_choose_86
          · replace c_10 := bI_n0.mp c_10
            refine lv_iload_n hx hb dX2_choose_67 rfl (lv_at hl 2 rfl) ?_
            exact W.iret (v := (nI zj2)) hx hb hr (fun t ht hW => ⟨⟨(nI zj2), (), rfl, (by simp [s_choose, c_2, hclzj1, c_4, hclzj2, c_6, c_8, c_10]), trivial⟩, hS.F ht⟩) hS.2.2 dX2_choose_68
        · replace c_8 := bI_0.mp c_8
          refine lv_bipush (v := (-14)) hx hb dX2_choose_53 (by decide) ?_
          exact W.iret (v := (-14)) hx hb hr (fun t ht hW => ⟨⟨(-14), (), rfl, (by simp [s_choose, c_2, hclzj1, c_4, hclzj2, c_6, c_8]), trivial⟩, hS.F ht⟩) hS.2.2 dX2_choose_55
      · replace c_6 := bI_n0.mp c_6
        refine lv_bipush (v := (-14)) hx hb dX2_choose_33 (by decide) ?_
        exact W.iret (v := (-14)) hx hb hr (fun t ht hW => ⟨⟨(-14), (), rfl, (by simp [s_choose, c_2, hclzj1, c_4, hclzj2, c_6]), trivial⟩, hS.F ht⟩) hS.2.2 dX2_choose_35
set_option maxHeartbeats 4000000 in
set_option maxRecDepth 100000 in
theorem c_X2_special (l : Launch) (D : va_G) (a : Nat → Nat) (k : Nat → ClassId) (σ : CS) (hok : cok σ) (zx1 zx2 zx3 : Int32) : Met l yX2_special wsX2_special (rmC 5 114) (cP D a k σ [.ref (a 0), .int zx1, .int zx2, .int zx3]) (roQ (s_special σ zx1 zx2 zx3)) 0 0 (fun _ => False) := by
  refine Met.ofW (cc := cX2_special) (maxL := 9) (ret := (some .int)) (by decide) rfl ?_
  intro p e s m args below meth c s₁ B hml hv
  obtain ⟨rfl, hP, hK⟩ := hv
  have hx := B.exec
  have hb := B.bytes
  have hr := B.returns
  have hts := atoms_spec (ws := wsX2_special) B.pre
  have hown : s.vm.findClass RX2 = some m.cls := findClass_of_methodNamed B.named
  have hlocks := B.notSynchronized
  clear B
  have hl := lv_entry ([.ref (a 0), .int zx1, .int zx2, .int zx3]) (n := 9) (Nat.le_of_ble_eq_true rfl)
  rw [lg_entry_eq]
  generalize (lg_sl ([.ref (a 0), .int zx1, .int zx2, .int zx3]) ++ List.replicate (9 - (lg_sl ([.ref (a 0), .int zx1, .int zx2, .int zx3])).length) Slot.unset).toArray = ls at hl ⊢
  replace hl : lv_has ls 9 [(0, .ref (a 0)), (1, .int zx1), (2, .int zx2), (3, .int zx3)] := hl
  refine gen_start (A := (fun _ => False)) (fun H locs hP hS => ?_) hP
  obtain ⟨hb0, ⟨hb1, hb2, hb3, hb4, hb5, hb6⟩, hb7, hb8⟩ := id hok
  refine lv_aload_n hx hb dX2_special_0 rfl (lv_at hl 0 rfl) ?_
  refine va_get (D := D) (ci := 3) (v := .ref (a 1)) (C := RX2) (T := TX2) (N := 2) hx hb hts (by decide +kernel) hown hK.1 hP 0 rfl rfl 0 (by decide) (hts (.fieldLink RX2 10 "ChooseTree" "classes" "LChooseTree$Classes;") (by decide +kernel)) (fun _ h9 => h9) rfl dX2_special_1 ?_
  refine lv_iload_n hx hb dX2_special_4 rfl (lv_at hl 1 rfl) ?_
  refine va_calli (va_runV (As := [.int zx1]) (rest := []) ⟨hx, hb, hml, hown, hts⟩ (c_X0_isPlain l D a k σ hok zx1) (cwV 1 hts gX2_special_X0_isPlain rfl rfl rfl (by decide +kernel) ⟨Nat.le_of_ble_eq_true rfl, Nat.le_of_ble_eq_true rfl⟩) (cP_V hK hP 1 1 rfl rfl) rfl rfl hl.1 rfl (lv_room (Nat.le_of_ble_eq_true rfl)) dX2_special_5 ⟨Nat.le_of_ble_eq_true rfl, Nat.le_of_ble_eq_true rfl⟩) hS (fun _ _ h => h.elim) (fun _ h => h.elim) (fun r_1 u t H1 locs ht hvm hw hB hz1 hk1 hS => ?_)
  replace hP := ro_kept hP hk1
  obtain rfl : r_1 = _ := hw
  clear hk1 hz1 hvm ht hB
  generalize H1 = H at hP hS ⊢
  refine lv_if_eq (tgt := 22) hx hb dX2_special_8 (by decide) (fun c_2 => ?_) (fun c_2 => ?_)
  · replace c_2 := bI_0.mp c_2
    refine lv_bipush (v := (-14)) hx hb dX2_special_22 (by decide) ?_
    exact W.iret (v := (-14)) hx hb hr (fun t ht hW => ⟨⟨(-14), (), rfl, (by simp [s_special, sp_tail, c_2]), trivial⟩, hS.F ht⟩) hS.2.2 dX2_special_24
  · replace c_2 := bI_n0.mp c_2
    obtain ⟨zj1, hzj1, ezj1⟩ := s_isPlain_of hok c_2
    subst ezj1
    have hclzj1 := nI_clamp (n := zj1) (by omega)
    refine lv_aload_n hx hb dX2_special_11 rfl (lv_at hl 0 rfl) ?_
    refine va_get (D := D) (ci := 3) (v := .ref (a 1)) (C := RX2) (T := TX2) (N := 2) hx hb hts (by decide +kernel) hown hK.1 hP 0 rfl rfl 0 (by decide) (hts (.fieldLink RX2 10 "ChooseTree" "classes" "LChooseTree$Classes;") (by decide +kernel)) (fun _ h9 => h9) rfl dX2_special_12 ?_
    refine lv_iload_n hx hb dX2_special_15 rfl (lv_at hl 2 rfl) ?_
    refine va_calli (va_runV (As := [.int zx2]) (rest := []) ⟨hx, hb, hml, hown, hts⟩ (c_X0_isPlain l D a k σ hok zx2) (cwV 1 hts gX2_special_X0_isPlain rfl rfl rfl (by decide +kernel) ⟨Nat.le_of_ble_eq_true rfl, Nat.le_of_ble_eq_true rfl⟩) (cP_V hK hP 1 1 rfl rfl) rfl rfl hl.1 rfl (lv_room (Nat.le_of_ble_eq_true rfl)) dX2_special_16 ⟨Nat.le_of_ble_eq_true rfl, Nat.le_of_ble_eq_true rfl⟩) hS (fun _ _ h => h.elim) (fun _ h => h.elim) (fun r_3 u t H1 locs ht hvm hw hB hz1 hk1 hS => ?_)
    replace hP := ro_kept hP hk1
    obtain rfl : r_3 = _ := hw
    clear hk1 hz1 hvm ht hB
    generalize H1 = H at hP hS ⊢
    refine lv_if_ne (tgt := 25) hx hb dX2_special_19 (by decide) (fun c_4 => ?_) (fun c_4 => ?_)
    · replace c_4 := bI_n0.mp c_4
      obtain ⟨zj2, hzj2, ezj2⟩ := s_isPlain_of hok c_4
      subst ezj2
      have hclzj2 := nI_clamp (n := zj2) (by omega)
      refine lv_aload_n hx hb dX2_special_25 rfl (lv_at hl 0 rfl) ?_
      refine lv_iload_n hx hb dX2_special_26 rfl (lv_at hl 2 rfl) ?_
      refine lv_iload_n hx hb dX2_special_27 rfl (lv_at hl 3 rfl) ?_
      refine va_calli (va_runV (As := [.int (nI zj2), .int zx3]) (rest := []) ⟨hx, hb, hml, hown, hts⟩ (c_X2_find l D a k σ hok (nI zj2) zx3) (cwV 2 hts gX2_special_X2_find rfl rfl rfl (by decide +kernel) ⟨Nat.le_of_ble_eq_true rfl, Nat.le_of_ble_eq_true rfl⟩) (cP_V hK hP 3 0 rfl rfl) rfl rfl hl.1 rfl (lv_room (Nat.le_of_ble_eq_true rfl)) dX2_special_28 ⟨Nat.le_of_ble_eq_true rfl, Nat.le_of_ble_eq_true rfl⟩) hS (fun _ _ h => h.elim) (fun _ h => h.elim) (fun r_5 u t H1 locs ht hvm hw hB hz1 hk1 hS => ?_)
      replace hP := ro_kept hP hk1
      obtain rfl : r_5 = _ := hw
      clear hk1 hz1 hvm ht hB
      generalize H1 = H at hP hS ⊢
      refine lv_istore (lv' := [(4, .int (s_find σ (nI zj2) zx3)), (0, .ref (a 0)), (1, .int (nI zj1)), (2, .int (nI zj2)), (3, .int zx3)]) hx hb dX2_special_31 hl (by decide) rfl (fun ls hl => ?_)
      refine lv_iload hx hb dX2_special_33 (lv_at hl 0 rfl) ?_
      refine lv_if_ge (tgt := 41) hx hb dX2_special_35 (by decide) (fun c_6 => ?_) (fun c_6 => ?_)
      · obtain ⟨zj3, hj3, ej3⟩ := s_find_of hok c_6
        rw [ej3] at hl
        have ec3 : (s_find σ (nI zj2) zx3).toNatClampNeg = zj3 := by rw [ej3]; exact nI_clamp (by omega)
        refine lv_aload_n hx hb dX2_special_41 rfl (lv_at hl 1 rfl) ?_
        refine va_get (D := D) (ci := 3) (v := .ref (a 2)) (C := RX2) (T := TX2) (N := 2) hx hb hts (by decide +kernel) hown hK.1 hP 0 rfl rfl 1 (by decide) (hts (.fieldLink RX2 19 "ChooseTree" "methods" "LChooseTree$Methods;") (by decide +kernel)) (fun _ h9 => h9) rfl dX2_special_42 ?_
        refine lv_iload hx hb dX2_special_45 (lv_at hl 0 rfl) ?_
        refine va_calli (va_runV (As := [.int (nI zj3)]) (rest := []) ⟨hx, hb, hml, hown, hts⟩ (c_X1_isStatic l D a k σ zj3 (by omega)) (cwV 1 hts gX2_special_X1_isStatic rfl rfl rfl (by decide +kernel) ⟨Nat.le_of_ble_eq_true rfl, Nat.le_of_ble_eq_true rfl⟩) (cP_V hK hP 2 2 rfl rfl) rfl rfl hl.1 rfl (lv_room (Nat.le_of_ble_eq_true rfl)) dX2_special_47 ⟨Nat.le_of_ble_eq_true rfl, Nat.le_of_ble_eq_true rfl⟩) hS (fun _ _ h => h.elim) (fun _ h => h.elim) (fun r_7 u t H1 locs ht hvm hw hB hz1 hk1 hS => ?_)
        replace hP := ro_kept hP hk1
        obtain rfl : r_7 = _ := hw
        clear hk1 hz1 hvm ht hB
        generalize H1 = H at hP hS ⊢
        refine lv_if_eq (tgt := 56) hx hb dX2_special_50 (by decide) (fun c_8 => ?_) (fun c_8 => ?_)
        · replace c_8 := bI_0.mp c_8
          refine lv_aload_n hx hb dX2_special_56 rfl (lv_at hl 1 rfl) ?_
          refine va_get (D := D) (ci := 3) (v := .ref (a 2)) (C := RX2) (T := TX2) (N := 2) hx hb hts (by decide +kernel) hown hK.1 hP 0 rfl rfl 1 (by decide) (hts (.fieldLink RX2 19 "ChooseTree" "methods" "LChooseTree$Methods;") (by decide +kernel)) (fun _ h9 => h9) rfl dX2_special_57 ?_
          refine lv_iload hx hb dX2_special_60 (lv_at hl 0 rfl) ?_
          refine va_calli (va_runV (As := [.int (nI zj3)]) (rest := []) ⟨hx, hb, hml, hown, hts⟩ (c_X1_isPrivate l D a k σ zj3 (by omega)) (cwV 1 hts gX2_special_X1_isPrivate rfl rfl rfl (by decide +kernel) ⟨Nat.le_of_ble_eq_true rfl, Nat.le_of_ble_eq_true rfl⟩) (cP_V hK hP 2 2 rfl rfl) rfl rfl hl.1 rfl (lv_room (Nat.le_of_ble_eq_true rfl)) dX2_special_62 ⟨Nat.le_of_ble_eq_true rfl, Nat.le_of_ble_eq_true rfl⟩) hS (fun _ _ h => h.elim) (fun _ h => h.elim) (fun r_9 u t H1 locs ht hvm hw hB hz1 hk1 hS => ?_)
          replace hP := ro_kept hP hk1
          obtain rfl : r_9 = _ := hw
          clear hk1 hz1 hvm ht hB
          generalize H1 = H at hP hS ⊢
          refine lv_if_ne (tgt := 80) hx hb dX2_special_65 (by decide) (fun c_10 => ?_) (fun c_10 => ?_)
          · replace c_10 := bI_n0.mp c_10
            refine lv_iconst (v := (nI 1)) hx hb dX2_special_80 (by decide) ?_
            refine lv_goto (tgt := 85) hx hb dX2_special_81 (by decide) ?_
            refine lv_istore (lv' := [(5, .int (nI 1)), (4, .int (nI zj3)), (0, .ref (a 0)), (1, .int (nI zj1)), (2, .int (nI zj2)), (3, .int zx3)]) hx hb dX2_special_85 hl (by decide) rfl (fun ls hl => ?_)
            refine lv_iload hx hb dX2_special_87 (lv_at hl 0 rfl) ?_
            refine lv_if_eq (tgt := 96) hx hb dX2_special_89 (by decide) (fun c_11 => ?_) (fun c_11 => ?_)
            · exact absurd c_11 (by decide)
            · refine lv_iload_n hx hb dX2_special_92 rfl (lv_at hl 4 rfl) ?_
              refine lv_goto (tgt := 105) hx hb dX2_special_93 (by decide) ?_
              refine lv_istore (lv' := [(6, .int (nI zj2)), (5, .int (nI 1)), (4, .int (nI zj3)), (0, .ref (a 0)), (1, .int (nI zj1)), (2, .int (nI zj2)), (3, .int zx3)]) hx hb dX2_special_105 hl (by decide) rfl (fun ls hl => ?_)
              refine lv_aload_n hx hb dX2_special_107 rfl (lv_at hl 3 rfl) ?_
              refine lv_iload hx hb dX2_special_108 (lv_at hl 0 rfl) ?_
              refine lv_iload_n hx hb dX2_special_110 rfl (lv_at hl 6 rfl) ?_
              refine va_calli (va_runV (As := [.int (nI zj2), .int zx3]) (rest := []) ⟨hx, hb, hml, hown, hts⟩ (c_X2_firstInstanceInRow l D a k σ hok zj2 (by first | omega | exact hb6 _ (by omega)) zx3) (cwV 2 hts gX2_special_X2_firstInstanceInRow rfl rfl rfl (by decide +kernel) ⟨Nat.le_of_ble_eq_true rfl, Nat.le_of_ble_eq_true rfl⟩) (cP_V hK hP 3 0 rfl rfl) rfl rfl hl.1 rfl (lv_room (Nat.le_of_ble_eq_true rfl)) dX2_special_111 ⟨Nat.le_of_ble_eq_true rfl, Nat.le_of_ble_eq_true rfl⟩) hS (fun _ _ h => h.elim) (fun _ h => h.elim) (fun r_12 u t H1 locs ht hvm hw hB hz1 hk1 hS => ?_)
              replace hP := ro_kept hP hk1
              obtain rfl : r_12 = _ := hw
              clear hk1 hz1 hvm ht hB
              generalize H1 = H at hP hS ⊢
              refine lv_istore (lv' := [(7, .int (s_firstInst σ zj2 zx3)), (6, .int (nI zj2)), (5, .int (nI 1)), (4, .int (nI zj3)), (0, .ref (a 0)), (1, .int (nI zj1)), (2, .int (nI zj2)), (3, .int zx3)]) hx hb dX2_special_114 hl (by decide) rfl (fun ls hl => ?_)
              refine lv_iload hx hb dX2_special_116 (lv_at hl 0 rfl) ?_
              refine lv_iconst (v := (-1)) hx hb dX2_special_118 (by decide) ?_
              refine lv_icmp_eq (tgt := 129) hx hb dX2_special_119 (by decide) (fun c_13 => ?_) (fun c_13 => ?_)
              · refine lv_aload_n hx hb dX2_special_129 rfl (lv_at hl 4 rfl) ?_
                refine lv_iload hx hb dX2_special_130 (lv_at hl 1 rfl) ?_
                refine lv_iload_n hx hb dX2_special_132 rfl (lv_at hl 7 rfl) ?_
                refine va_calli (va_runV (As := [.int (nI zj2), .int zx3]) (rest := []) ⟨hx, hb, hml, hown, hts⟩ (c_X2_onlyConcreteNearest l D a k σ hok zj2 (by first | omega | exact hb6 _ (by omega)) zx3) (cwV 2 hts gX2_special_X2_onlyConcreteNearest rfl rfl rfl (by decide +kernel) ⟨Nat.le_of_ble_eq_true rfl, Nat.le_of_ble_eq_true rfl⟩) (cP_V hK hP 3 0 rfl rfl) rfl rfl hl.1 rfl (lv_room (Nat.le_of_ble_eq_true rfl)) dX2_special_133 ⟨Nat.le_of_ble_eq_true rfl, Nat.le_of_ble_eq_true rfl⟩) hS (fun _ _ h => h.elim) (fun _ h => h.elim) (fun r_14 u t H1 locs ht hvm hw hB hz1 hk1 hS => ?_)
                replace hP := ro_kept hP hk1
                obtain rfl : r_14 = _ := hw
                clear hk1 hz1 hvm ht hB
                generalize H1 = H at hP hS ⊢
                refine lv_istore (lv' := [(8, .int (s_only σ zj2 zx3)), (7, .int (s_firstInst σ zj2 zx3)), (6, .int (nI zj2)), (5, .int (nI 1)), (4, .int (nI zj3)), (0, .ref (a 0)), (1, .int (nI zj1)), (2, .int (nI zj2)), (3, .int zx3)]) hx hb dX2_special_136 hl (by decide) rfl (fun ls hl => ?_)
                refine lv_iload hx hb dX2_special_138 (lv_at hl 0 rfl) ?_
                refine lv_if_lt (tgt := 148) hx hb dX2_special_140 (by decide) (fun c_15 => ?_) (fun c_15 => ?_)
                · refine lv_bipush (v := (-25)) hx hb dX2_special_148 (by decide) ?_
                  exact W.iret (v := (-25)) hx hb hr (fun t ht hW => ⟨⟨(-25), (), rfl, (by simp [s_special, sp_tail, c_2, hclzj1, c_4, hclzj2, c_6, ec3, c_8, c_10, c_13, c_15]), trivial⟩, hS.F ht⟩) hS.2.2 dX2_special_150
                · refine lv_iload hx hb dX2_special_143 (lv_at hl 0 rfl) ?_
                  refine lv_goto (tgt := 150) hx hb dX2_special_145 (by decide) ?_
                  exact W.iret (v := (s_only σ zj2 zx3)) hx hb hr (fun t ht hW => ⟨⟨(s_only σ zj2 zx3), (), rfl, (by simp [s_special, sp_tail, c_2, hclzj1, c_4, hclzj2, c_6, ec3, c_8, c_10, c_13, c_15]), trivial⟩, hS.F ht⟩) hS.2.2 dX2_special_150
              · obtain ⟨j, hj, ej⟩ := (f_inst_of hok zj2 zx3 (zj2 + 1) (by first | omega | exact hb6 _ (by omega))).resolve_left c_13
                rw [show s_firstInst σ zj2 zx3 = nI j from ej] at hl
                have ec : (s_firstInst σ zj2 zx3).toNatClampNeg = j := by rw [show s_firstInst σ zj2 zx3 = nI j from ej]; exact nI_clamp (by omega)
                refine lv_aload_n hx hb dX2_special_122 rfl (lv_at hl 4 rfl) ?_
                refine lv_iload hx hb dX2_special_123 (lv_at hl 0 rfl) ?_
                refine va_calli (va_runV (As := [.int (nI j)]) (rest := []) ⟨hx, hb, hml, hown, hts⟩ (c_X2_unlessAbstract l D a k σ j (by omega)) (cwV 1 hts gX2_special_X2_unlessAbstract rfl rfl rfl (by decide +kernel) ⟨Nat.le_of_ble_eq_true rfl, Nat.le_of_ble_eq_true rfl⟩) (cP_V hK hP 3 0 rfl rfl) rfl rfl hl.1 rfl (lv_room (Nat.le_of_ble_eq_true rfl)) dX2_special_125 ⟨Nat.le_of_ble_eq_true rfl, Nat.le_of_ble_eq_true rfl⟩) hS (fun _ _ h => h.elim) (fun _ h => h.elim) (fun r_16 u t H1 locs ht hvm hw hB hz1 hk1 hS => ?_)
                replace hP := ro_kept hP hk1
                obtain rfl : r_16 = _ := hw
                clear hk1 hz1 hvm ht hB
                generalize H1 = H at hP hS ⊢
                exact W.iret (v := (u_abs σ j)) hx hb hr (fun t ht hW => ⟨⟨(u_abs σ j), (), rfl, (by simp [s_special, sp_tail, c_2, hclzj1, c_4, hclzj2, c_6, ec3, c_8, c_10, c_13, ec]), trivial⟩, hS.F ht⟩) hS.2.2 dX2_special_128
          · replace c_10 := bI_0.mp c_10
            refine lv_aload_n hx hb dX2_special_68 rfl (lv_at hl 1 rfl) ?_
            refine va_get (D := D) (ci := 3) (v := .ref (a 1)) (C := RX2) (T := TX2) (N := 2) hx hb hts (by decide +kernel) hown hK.1 hP 0 rfl rfl 0 (by decide) (hts (.fieldLink RX2 10 "ChooseTree" "classes" "LChooseTree$Classes;") (by decide +kernel)) (fun _ h9 => h9) rfl dX2_special_69 ?_
            refine lv_iload_n hx hb dX2_special_72 rfl (lv_at hl 2 rfl) ?_
            refine lv_iload_n hx hb dX2_special_73 rfl (lv_at hl 3 rfl) ?_
            refine va_calli (va_runV (As := [.int (nI zj1), .int (nI zj2)]) (rest := []) ⟨hx, hb, hml, hown, hts⟩ (c_X0_below l D a k σ zj1 zj2 (by omega)) (cwV 2 hts gX2_special_X0_below rfl rfl rfl (by decide +kernel) ⟨Nat.le_of_ble_eq_true rfl, Nat.le_of_ble_eq_true rfl⟩) (cP_V hK hP 1 1 rfl rfl) rfl rfl hl.1 rfl (lv_room (Nat.le_of_ble_eq_true rfl)) dX2_special_74 ⟨Nat.le_of_ble_eq_true rfl, Nat.le_of_ble_eq_true rfl⟩) hS (fun _ _ h => h.elim) (fun _ h => h.elim) (fun r_17 u t H1 locs ht hvm hw hB hz1 hk1 hS => ?_)
            replace hP := ro_kept hP hk1
            obtain rfl : r_17 = _ := hw
            clear hk1 hz1 hvm ht hB
            generalize H1 = H at hP hS ⊢
            refine lv_if_ne (tgt := 84) hx hb dX2_special_77 (by decide) (fun c_18 => ?_) (fun c_18 => ?_)
            · replace c_18 := bI_n0.mp c_18
              refine lv_iconst (v := (nI 0)) hx hb dX2_special_84 (by decide) ?_
              refine lv_istore (lv' := [(5, .int (nI 0)), (4, .int (nI zj3)), (0, .ref (a 0)), (1, .int (nI zj1)), (2, .int (nI zj2)), (3, .int zx3)]) hx hb dX2_special_85 hl (by decide) rfl (fun ls hl => ?_)
              refine lv_iload hx hb dX2_special_87 (lv_at hl 0 rfl) ?_
              refine lv_if_eq (tgt := 96) hx hb dX2_special_89 (by decide) (fun c_19 => ?_) (fun c_19 => ?_)
              · refine lv_aload_n hx hb dX2_special_96 rfl (lv_at hl 2 rfl) ?_
                refine va_get (D := D) (ci := 3) (v := .ref (a 1)) (C := RX2) (T := TX2) (N := 2) hx hb hts (by decide +kernel) hown hK.1 hP 0 rfl rfl 0 (by decide) (hts (.fieldLink RX2 10 "ChooseTree" "classes" "LChooseTree$Classes;") (by decide +kernel)) (fun _ h9 => h9) rfl dX2_special_97 ?_
                refine va_get (D := D) (ci := 1) (v := .ref (a 3)) (C := RX0) (T := TX0) (N := 10) hx hb hts (by decide +kernel) hown hK.1 hP 1 rfl rfl 1 (by decide) (hts (.fieldLink RX2 137 "ChooseTree$Classes" "parent" "[I") (by decide +kernel)) (fun _ h9 => h9) rfl dX2_special_100 ?_
                refine lv_iload_n hx hb dX2_special_103 rfl (lv_at hl 3 rfl) ?_
                refine na_iald (D := D) hx hb hK.1 hP 3 0 rfl rfl (i := zj1) (by omega) (by decide) dX2_special_104 ?_
                refine lv_istore (lv' := [(6, .int (nI ((cs_par σ) zj1))), (5, .int (nI 0)), (4, .int (nI zj3)), (0, .ref (a 0)), (1, .int (nI zj1)), (2, .int (nI zj2)), (3, .int zx3)]) hx hb dX2_special_105 hl (by decide) rfl (fun ls hl => ?_)
                refine lv_aload_n hx hb dX2_special_107 rfl (lv_at hl 3 rfl) ?_
                refine lv_iload hx hb dX2_special_108 (lv_at hl 0 rfl) ?_
                refine lv_iload_n hx hb dX2_special_110 rfl (lv_at hl 6 rfl) ?_
                refine va_calli (va_runV (As := [.int (nI ((cs_par σ) zj1)), .int zx3]) (rest := []) ⟨hx, hb, hml, hown, hts⟩ (c_X2_firstInstanceInRow l D a k σ hok ((cs_par σ) zj1) (by first | omega | exact hb6 _ (by omega)) zx3) (cwV 2 hts gX2_special_X2_firstInstanceInRow rfl rfl rfl (by decide +kernel) ⟨Nat.le_of_ble_eq_true rfl, Nat.le_of_ble_eq_true rfl⟩) (cP_V hK hP 3 0 rfl rfl) rfl rfl hl.1 rfl (lv_room (Nat.le_of_ble_eq_true rfl)) dX2_special_111 ⟨Nat.le_of_ble_eq_true rfl, Nat.le_of_ble_eq_true rfl⟩) hS (fun _ _ h => h.elim) (fun _ h => h.elim) (fun r_20 u t H1 locs ht hvm hw hB hz1 hk1 hS => ?_)
                replace hP := ro_kept hP hk1
                obtain rfl : r_20 = _ := hw
                clear hk1 hz1 hvm ht hB
                generalize H1 = H at hP hS ⊢
                refine lv_istore (lv' := [(7, .int (s_firstInst σ ((cs_par σ) zj1) zx3)), (6, .int (nI ((cs_par σ) zj1))), (5, .int (nI 0)), (4, .int (nI zj3)), (0, .ref (a 0)), (1, .int (nI zj1)), (2, .int (nI zj2)), (3, .int zx3)]) hx hb dX2_special_114 hl (by decide) rfl (fun ls hl => ?_)
                refine lv_iload hx hb dX2_special_116 (lv_at hl 0 rfl) ?_
                refine lv_iconst (v := (-1)) hx hb dX2_special_118 (by decide) ?_
                refine lv_icmp_eq (tgt := 129) hx hb dX2_special_119 (by decide) (fun c_21 => ?_) (fun c_21 => ?_)
                · refine lv_aload_n hx hb dX2_special_129 rfl (lv_at hl 4 rfl) ?_
                  refine lv_iload hx hb dX2_special_130 (lv_at hl 1 rfl) ?_
                  refine lv_iload_n hx hb dX2_special_132 rfl (lv_at hl 7 rfl) ?_
                  refine va_calli (va_runV (As := [.int (nI ((cs_par σ) zj1)), .int zx3]) (rest := []) ⟨hx, hb, hml, hown, hts⟩ (c_X2_onlyConcreteNearest l D a k σ hok ((cs_par σ) zj1) (by first | omega | exact hb6 _ (by omega)) zx3) (cwV 2 hts gX2_special_X2_onlyConcreteNearest rfl rfl rfl (by decide +kernel) ⟨Nat.le_of_ble_eq_true rfl, Nat.le_of_ble_eq_true rfl⟩) (cP_V hK hP 3 0 rfl rfl) rfl rfl hl.1 rfl (lv_room (Nat.le_of_ble_eq_true rfl)) dX2_special_133 ⟨Nat.le_of_ble_eq_true rfl, Nat.le_of_ble_eq_true rfl⟩) hS (fun _ _ h => h.elim) (fun _ h => h.elim) (fun r_22 u t H1 locs ht hvm hw hB hz1 hk1 hS => ?_)
                  replace hP := ro_kept hP hk1
                  obtain rfl : r_22 = _ := hw
                  clear hk1 hz1 hvm ht hB
                  generalize H1 = H at hP hS ⊢
                  refine lv_istore (lv' := [(8, .int (s_only σ ((cs_par σ) zj1) zx3)), (7, .int (s_firstInst σ ((cs_par σ) zj1) zx3)), (6, .int (nI ((cs_par σ) zj1))), (5, .int (nI 0)), (4, .int (nI zj3)), (0, .ref (a 0)), (1, .int (nI zj1)), (2, .int (nI zj2)), (3, .int zx3)]) hx hb dX2_special_136 hl (by decide) rfl (fun ls hl => ?_)
                  refine lv_iload hx hb dX2_special_138 (lv_at hl 0 rfl) ?_
                  refine lv_if_lt (tgt := 148) hx hb dX2_special_140 (by decide) (fun c_23 => ?_) (fun c_23 => ?_)
                  · refine lv_bipush (v := (-25)) hx hb dX2_special_148 (by decide) ?_
                    exact W.iret (v := (-25)) hx hb hr (fun t ht hW => ⟨⟨(-25), (), rfl, (by simp [s_special, sp_tail, c_2, hclzj1, c_4, hclzj2, c_6, ec3, c_8, c_10, c_18, c_21, c_23]), trivial⟩, hS.F ht⟩) hS.2.2 dX2_special_150
                  · refine lv_iload hx hb dX2_special_143 (lv_at hl 0 rfl) ?_
                    refine lv_goto (tgt := 150) hx hb dX2_special_145 (by decide) ?_
                    exact W.iret (v := (s_only σ ((cs_par σ) zj1) zx3)) hx hb hr (fun t ht hW => ⟨⟨(s_only σ ((cs_par σ) zj1) zx3), (), rfl, (by simp [s_special, sp_tail, c_2, hclzj1, c_4, hclzj2, c_6, ec3, c_8, c_10, c_18, c_21, c_23]), trivial⟩, hS.F ht⟩) hS.2.2 dX2_special_150
                · obtain ⟨j, hj, ej⟩ := (f_inst_of hok ((cs_par σ) zj1) zx3 (((cs_par σ) zj1) + 1) (by first | omega | exact hb6 _ (by omega))).resolve_left c_21
                  rw [show s_firstInst σ ((cs_par σ) zj1) zx3 = nI j from ej] at hl
                  have ec : (s_firstInst σ ((cs_par σ) zj1) zx3).toNatClampNeg = j := by rw [show s_firstInst σ ((cs_par σ) zj1) zx3 = nI j from ej]; exact nI_clamp (by omega)
                  refine lv_aload_n hx hb dX2_special_122 rfl (lv_at hl 4 rfl) ?_
                  refine lv_iload hx hb dX2_special_123 (lv_at hl 0 rfl) ?_
                  refine va_calli (va_runV (As := [.int (nI j)]) (rest := []) ⟨hx, hb, hml, hown, hts⟩ (c_X2_unlessAbstract l D a k σ j (by omega)) (cwV 1 hts gX2_special_X2_unlessAbstract rfl rfl rfl (by decide +kernel) ⟨Nat.le_of_ble_eq_true rfl, Nat.le_of_ble_eq_true rfl⟩) (cP_V hK hP 3 0 rfl rfl) rfl rfl hl.1 rfl (lv_room (Nat.le_of_ble_eq_true rfl)) dX2_special_125 ⟨Nat.le_of_ble_eq_true rfl, Nat.le_of_ble_eq_true rfl⟩) hS (fun _ _ h => h.elim) (fun _ h => h.elim) (fun r_24 u t H1 locs ht hvm hw hB hz1 hk1 hS => ?_)
                  replace hP := ro_kept hP hk1
                  obtain rfl : r_24 = _ := hw
                  clear hk1 hz1 hvm ht hB
                  generalize H1 = H at hP hS ⊢
                  exact W.iret (v := (u_abs σ j)) hx hb hr (fun t ht hW => ⟨⟨(u_abs σ j), (), rfl, (by simp [s_special, sp_tail, c_2, hclzj1, c_4, hclzj2, c_6, ec3, c_8, c_10, c_18, c_21, ec]), trivial⟩, hS.F ht⟩) hS.2.2 dX2_special_128
              · exact absurd rfl c_19
            · replace c_18 := bI_0.mp c_18
              refine lv_iconst (v := (nI 1)) hx hb dX2_special_80 (by decide) ?_
              refine lv_goto (tgt := 85) hx hb dX2_special_81 (by decide) ?_
              refine lv_istore (lv' := [(5, .int (nI 1)), (4, .int (nI zj3)), (0, .ref (a 0)), (1, .int (nI zj1)), (2, .int (nI zj2)), (3, .int zx3)]) hx hb dX2_special_85 hl (by decide) rfl (fun ls hl => ?_)
              refine lv_iload hx hb dX2_special_87 (lv_at hl 0 rfl) ?_
              refine lv_if_eq (tgt := 96) hx hb dX2_special_89 (by decide) (fun c_25 => ?_) (fun c_25 => ?_)
              · exact absurd c_25 (by decide)
              · refine lv_iload_n hx hb dX2_special_92 rfl (lv_at hl 4 rfl) ?_
                refine lv_goto (tgt := 105) hx hb dX2_special_93 (by decide) ?_
                refine lv_istore (lv' := [(6, .int (nI zj2)), (5, .int (nI 1)), (4, .int (nI zj3)), (0, .ref (a 0)), (1, .int (nI zj1)), (2, .int (nI zj2)), (3, .int zx3)]) hx hb dX2_special_105 hl (by decide) rfl (fun ls hl => ?_)
                refine lv_aload_n hx hb dX2_special_107 rfl (lv_at hl 3 rfl) ?_
                refine lv_iload hx hb dX2_special_108 (lv_at hl 0 rfl) ?_
                refine lv_iload_n hx hb dX2_special_110 rfl (lv_at hl 6 rfl) ?_
                refine va_calli (va_runV (As := [.int (nI zj2), .int zx3]) (rest := []) ⟨hx, hb, hml, hown, hts⟩ (c_X2_firstInstanceInRow l D a k σ hok zj2 (by first | omega | exact hb6 _ (by omega)) zx3) (cwV 2 hts gX2_special_X2_firstInstanceInRow rfl rfl rfl (by decide +kernel) ⟨Nat.le_of_ble_eq_true rfl, Nat.le_of_ble_eq_true rfl⟩) (cP_V hK hP 3 0 rfl rfl) rfl rfl hl.1 rfl (lv_room (Nat.le_of_ble_eq_true rfl)) dX2_special_111 ⟨Nat.le_of_ble_eq_true rfl, Nat.le_of_ble_eq_true rfl⟩) hS (fun _ _ h => h.elim) (fun _ h => h.elim) (fun r_26 u t H1 locs ht hvm hw hB hz1 hk1 hS => ?_)
                replace hP := ro_kept hP hk1
                obtain rfl : r_26 = _ := hw
                clear hk1 hz1 hvm ht hB
                generalize H1 = H at hP hS ⊢
                refine lv_istore (lv' := [(7, .int (s_firstInst σ zj2 zx3)), (6, .int (nI zj2)), (5, .int (nI 1)), (4, .int (nI zj3)), (0, .ref (a 0)), (1, .int (nI zj1)), (2, .int (nI zj2)), (3, .int zx3)]) hx hb dX2_special_114 hl (by decide) rfl (fun ls hl => ?_)
                refine lv_iload hx hb dX2_special_116 (lv_at hl 0 rfl) ?_
                refine lv_iconst (v := (-1)) hx hb dX2_special_118 (by decide) ?_
                refine lv_icmp_eq (tgt := 129) hx hb dX2_special_119 (by decide) (fun c_27 => ?_) (fun c_27 => ?_)
                · refine lv_aload_n hx hb dX2_special_129 rfl (lv_at hl 4 rfl) ?_
                  refine lv_iload hx hb dX2_special_130 (lv_at hl 1 rfl) ?_
                  refine lv_iload_n hx hb dX2_special_132 rfl (lv_at hl 7 rfl) ?_
                  refine va_calli (va_runV (As := [.int (nI zj2), .int zx3]) (rest := []) ⟨hx, hb, hml, hown, hts⟩ (c_X2_onlyConcreteNearest l D a k σ hok zj2 (by first | omega | exact hb6 _ (by omega)) zx3) (cwV 2 hts gX2_special_X2_onlyConcreteNearest rfl rfl rfl (by decide +kernel) ⟨Nat.le_of_ble_eq_true rfl, Nat.le_of_ble_eq_true rfl⟩) (cP_V hK hP 3 0 rfl rfl) rfl rfl hl.1 rfl (lv_room (Nat.le_of_ble_eq_true rfl)) dX2_special_133 ⟨Nat.le_of_ble_eq_true rfl, Nat.le_of_ble_eq_true rfl⟩) hS (fun _ _ h => h.elim) (fun _ h => h.elim) (fun r_28 u t H1 locs ht hvm hw hB hz1 hk1 hS => ?_)
                  replace hP := ro_kept hP hk1
                  obtain rfl : r_28 = _ := hw
                  clear hk1 hz1 hvm ht hB
                  generalize H1 = H at hP hS ⊢
                  refine lv_istore (lv' := [(8, .int (s_only σ zj2 zx3)), (7, .int (s_firstInst σ zj2 zx3)), (6, .int (nI zj2)), (5, .int (nI 1)), (4, .int (nI zj3)), (0, .ref (a 0)), (1, .int (nI zj1)), (2, .int (nI zj2)), (3, .int zx3)]) hx hb dX2_special_136 hl (by decide) rfl (fun ls hl => ?_)
                  refine lv_iload hx hb dX2_special_138 (lv_at hl 0 rfl) ?_
                  refine lv_if_lt (tgt := 148) hx hb dX2_special_140 (by decide) (fun c_29 => ?_) (fun c_29 => ?_)
                  · refine lv_bipush (v := (-25)) hx hb dX2_special_148 (by decide) ?_
                    exact W.iret (v := (-25)) hx hb hr (fun t ht hW => ⟨⟨(-25), (), rfl, (by simp [s_special, sp_tail, c_2, hclzj1, c_4, hclzj2, c_6, ec3, c_8, c_10, c_18, c_27, c_29]), trivial⟩, hS.F ht⟩) hS.2.2 dX2_special_150
                  · refine lv_iload hx hb dX2_special_143 (lv_at hl 0 rfl) ?_
                    refine lv_goto (tgt := 150) hx hb dX2_special_145 (by decide) ?_
                    exact W.iret (v := (s_only σ zj2 zx3)) hx hb hr (fun t ht hW => ⟨⟨(s_only σ zj2 zx3), (), rfl, (by simp [s_special, sp_tail, c_2, hclzj1, c_4, hclzj2, c_6, ec3, c_8, c_10, c_18, c_27, c_29]), trivial⟩, hS.F ht⟩) hS.2.2 dX2_special_150
                · obtain ⟨j, hj, ej⟩ := (f_inst_of hok zj2 zx3 (zj2 + 1) (by first | omega | exact hb6 _ (by omega))).resolve_left c_27
                  rw [show s_firstInst σ zj2 zx3 = nI j from ej] at hl
                  have ec : (s_firstInst σ zj2 zx3).toNatClampNeg = j := by rw [show s_firstInst σ zj2 zx3 = nI j from ej]; exact nI_clamp (by omega)
                  refine lv_aload_n hx hb dX2_special_122 rfl (lv_at hl 4 rfl) ?_
                  refine lv_iload hx hb dX2_special_123 (lv_at hl 0 rfl) ?_
                  refine va_calli (va_runV (As := [.int (nI j)]) (rest := []) ⟨hx, hb, hml, hown, hts⟩ (c_X2_unlessAbstract l D a k σ j (by omega)) (cwV 1 hts gX2_special_X2_unlessAbstract rfl rfl rfl (by decide +kernel) ⟨Nat.le_of_ble_eq_true rfl, Nat.le_of_ble_eq_true rfl⟩) (cP_V hK hP 3 0 rfl rfl) rfl rfl hl.1 rfl (lv_room (Nat.le_of_ble_eq_true rfl)) dX2_special_125 ⟨Nat.le_of_ble_eq_true rfl, Nat.le_of_ble_eq_true rfl⟩) hS (fun _ _ h => h.elim) (fun _ h => h.elim) (fun r_30 u t H1 locs ht hvm hw hB hz1 hk1 hS => ?_)
                  replace hP := ro_kept hP hk1
                  obtain rfl : r_30 = _ := hw
                  clear hk1 hz1 hvm ht hB
                  generalize H1 = H at hP hS ⊢
                  exact W.iret (v := (u_abs σ j)) hx hb hr (fun t ht hW => ⟨⟨(u_abs σ j), (), rfl, (by simp [s_special, sp_tail, c_2, hclzj1, c_4, hclzj2, c_6, ec3, c_8, c_10, c_18, c_27, ec]), trivial⟩, hS.F ht⟩) hS.2.2 dX2_special_128
        · replace c_8 := bI_n0.mp c_8
          refine lv_bipush (v := (-21)) hx hb dX2_special_53 (by decide) ?_
          exact W.iret (v := (-21)) hx hb hr (fun t ht hW => ⟨⟨(-21), (), rfl, (by simp [s_special, sp_tail, c_2, hclzj1, c_4, hclzj2, c_6, ec3, c_8]), trivial⟩, hS.F ht⟩) hS.2.2 dX2_special_55
      · refine lv_bipush (v := (-12)) hx hb dX2_special_38 (by decide) ?_
        exact W.iret (v := (-12)) hx hb hr (fun t ht hW => ⟨⟨(-12), (), rfl, (by simp [s_special, sp_tail, c_2, hclzj1, c_4, hclzj2, c_6]), trivial⟩, hS.F ht⟩) hS.2.2 dX2_special_40
    · replace c_4 := bI_0.mp c_4
      refine lv_bipush (v := (-14)) hx hb dX2_special_22 (by decide) ?_
      exact W.iret (v := (-14)) hx hb hr (fun t ht hW => ⟨⟨(-14), (), rfl, (by simp [s_special, sp_tail, c_2, hclzj1, c_4]), trivial⟩, hS.F ht⟩) hS.2.2 dX2_special_24
