set_option maxHeartbeats 4000000 in
set_option maxRecDepth 100000 in
theorem c_X0_listFace (l : Launch) (D : va_G) (a : Nat → Nat) (k : Nat → ClassId) (σ : CS) (hinj : cInj a) (hok : bok σ) (zn1 zn2 : Nat) (hn1 : zn1 < 60) : Met l yX0_listFace wsX0_listFace (rmC 1 22) (cP D a k σ [.ref (a 1), .int (nI zn1), .int (nI zn2)]) (wrV D a k (s_listFace σ zn1 zn2)) 0 0 (ca a) := by
  refine Met.ofW (cc := cX0_listFace) (maxL := 4) (ret := none) (by decide) rfl ?_
  intro p e s m args below meth c s₁ B hml hv
  obtain ⟨rfl, hP, hK⟩ := hv
  have hx := B.exec
  have hb := B.bytes
  have hr := B.returns
  have hts := atoms_spec (ws := wsX0_listFace) B.pre
  have hown : s.vm.findClass RX0 = some m.cls := findClass_of_methodNamed B.named
  have hlocks := B.notSynchronized
  clear B
  have hl := lv_entry ([.ref (a 1), .int (nI zn1), .int (nI zn2)]) (n := 4) (Nat.le_of_ble_eq_true rfl)
  rw [lg_entry_eq]
  generalize (lg_sl ([.ref (a 1), .int (nI zn1), .int (nI zn2)]) ++ List.replicate (4 - (lg_sl ([.ref (a 1), .int (nI zn1), .int (nI zn2)])).length) Slot.unset).toArray = ls at hl ⊢
  replace hl : lv_has ls 4 [(0, .ref (a 1)), (1, .int (nI zn1)), (2, .int (nI zn2))] := hl
  refine gen_start (A := (ca a)) (fun H locs hP hS => ?_) hP
  have hD : va_D (ca a) (cw a k σ) := cw_D hinj
  obtain ⟨hb1, hb2, hb3, hb4, hb5, hb6⟩ := id hok
  have hq1 := hb4 zn1 hn1
  refine lv_iconst (v := (nI 0)) hx hb dX0_listFace_0 (by decide) ?_
  refine lv_istore_n (lv' := [(3, .int (nI 0)), (0, .ref (a 1)), (1, .int (nI zn1)), (2, .int (nI zn2))]) hx hb dX0_listFace_1 rfl hl (by decide) rfl (fun ls hl => ?_)
  obtain ⟨n, hn⟩ : ∃ n, n = cs_fam σ zn1 := ⟨_, rfl⟩
  obtain ⟨i, hi⟩ : ∃ i : Nat, i = 0 := ⟨_, rfl⟩
  have hE : i + n = cs_fam σ zn1 := by omega
  have hres : l_has (s_faceAt σ zn1) zn2 n i = l_has (s_faceAt σ zn1) zn2 (cs_fam σ zn1) 0 := by rw [hn, hi]
  replace hl : lv_has ls 4 [(3, .int (nI i)), (0, .ref (a 1)), (1, .int (nI zn1)), (2, .int (nI zn2))] := by rw [hi]; exact hl
  clear hn hi hD
  revert hl
  revert hres
  revert hE
  revert hS
  revert hP
  revert ls
  revert locs
  revert H
  revert i
  induction n with
  | zero =>
    intro i H locs ls hP hS hE hres hl
    have hD : va_D (ca a) (cw a k σ) := cw_D hinj
    refine lv_iload_n hx hb dX0_listFace_2 rfl (lv_at hl 0 rfl) ?_
    refine lv_aload_n hx hb dX0_listFace_3 rfl (lv_at hl 1 rfl) ?_
    refine va_get (D := D) (ci := 1) (v := .ref (a 7)) (C := RX0) (T := TX0) (N := 10) hx hb hts (by decide +kernel) hown hK.1 hP 1 rfl rfl 5 (by decide) (hts (.fieldLink RX0 30 "ChooseTree$Classes" "faceAmount" "[I") (by decide +kernel)) (fun _ h9 => h9) rfl dX0_listFace_4 ?_
    refine lv_iload_n hx hb dX0_listFace_7 rfl (lv_at hl 2 rfl) ?_
    refine na_iald (D := D) hx hb hK.1 hP 7 4 rfl rfl (i := zn1) (by omega) (by decide) dX0_listFace_8 ?_
    refine lv_icmp_ge (tgt := 29) hx hb dX0_listFace_9 (by decide) (fun c_1 => ?_) (fun c_1 => ?_)
    · refine lv_aload_n hx hb dX0_listFace_29 rfl (lv_at hl 1 rfl) ?_
      refine va_get (D := D) (ci := 1) (v := .ref (a 8)) (C := RX0) (T := TX0) (N := 10) hx hb hts (by decide +kernel) hown hK.1 hP 1 rfl rfl 6 (by decide) (hts (.fieldLink RX0 33 "ChooseTree$Classes" "faceStart" "[I") (by decide +kernel)) (fun _ h9 => h9) rfl dX0_listFace_30 ?_
      refine lv_iload_n hx hb dX0_listFace_33 rfl (lv_at hl 2 rfl) ?_
      refine na_iald (D := D) hx hb hK.1 hP 8 5 rfl rfl (i := zn1) (by omega) (by decide) dX0_listFace_34 ?_
      refine lv_aload_n hx hb dX0_listFace_35 rfl (lv_at hl 1 rfl) ?_
      refine va_get (D := D) (ci := 1) (v := .ref (a 7)) (C := RX0) (T := TX0) (N := 10) hx hb hts (by decide +kernel) hown hK.1 hP 1 rfl rfl 5 (by decide) (hts (.fieldLink RX0 30 "ChooseTree$Classes" "faceAmount" "[I") (by decide +kernel)) (fun _ h9 => h9) rfl dX0_listFace_36 ?_
      refine lv_iload_n hx hb dX0_listFace_39 rfl (lv_at hl 2 rfl) ?_
      refine na_iald (D := D) hx hb hK.1 hP 7 4 rfl rfl (i := zn1) (by omega) (by decide) dX0_listFace_40 ?_
      refine lv_iaddN hx hb dX0_listFace_41 ?_
      refine lv_istore_n (lv' := [(3, .int (nI (((cs_fst σ) zn1) + ((cs_fam σ) zn1)))), (0, .ref (a 1)), (1, .int (nI zn1)), (2, .int (nI zn2))]) hx hb dX0_listFace_42 rfl hl (by decide) rfl (fun ls hl => ?_)
      refine lv_iload_n hx hb dX0_listFace_43 rfl (lv_at hl 0 rfl) ?_
      refine lv_aload_n hx hb dX0_listFace_44 rfl (lv_at hl 1 rfl) ?_
      refine va_get (D := D) (ci := 1) (v := .ref (a 9)) (C := RX0) (T := TX0) (N := 10) hx hb hts (by decide +kernel) hown hK.1 hP 1 rfl rfl 7 (by decide) (hts (.fieldLink RX0 36 "ChooseTree$Classes" "faceList" "[I") (by decide +kernel)) (fun _ h9 => h9) rfl dX0_listFace_45 ?_
      refine va_alen (D := D) (v := nI 1800) hx hb hK.1 hP 9 6 rfl rfl rfl dX0_listFace_48 ?_
      refine lv_icmp_ge (tgt := 69) hx hb dX0_listFace_49 (by decide) (fun c_2 => ?_) (fun c_2 => ?_)
      · have hpl := nle (by omega) (by omega) c_2
        have e : s_listFace σ zn1 zn2 = σ := by rw [s_listFace, if_neg (by rw [← hres]; simp [l_has]), if_neg (by omega)]
        exact W.vret hx hb hr (fun t ht hW => ⟨⟨(), rfl, trivial, show va_P D vwCl (cw a k _) t.heap from (by rw [ht]; exact (by rw [e]; exact hP))⟩, hS.F ht⟩) hS.2.2 dX0_listFace_69
      · have hpl := nlt (by omega) (by omega) c_2
        have e := show s_listFace σ zn1 zn2 = _ from (by rw [s_listFace, if_neg (by rw [← hres]; simp [l_has]), if_pos hpl])
        refine lv_aload_n hx hb dX0_listFace_52 rfl (lv_at hl 1 rfl) ?_
        refine va_get (D := D) (ci := 1) (v := .ref (a 9)) (C := RX0) (T := TX0) (N := 10) hx hb hts (by decide +kernel) hown hK.1 hP 1 rfl rfl 7 (by decide) (hts (.fieldLink RX0 36 "ChooseTree$Classes" "faceList" "[I") (by decide +kernel)) (fun _ h9 => h9) rfl dX0_listFace_53 ?_
        refine lv_iload_n hx hb dX0_listFace_56 rfl (lv_at hl 0 rfl) ?_
        refine lv_iload_n hx hb dX0_listFace_57 rfl (lv_at hl 3 rfl) ?_
        refine na_iastN (D := D) hx hb hK.1 hP hD hS 9 6 rfl rfl (i := (((cs_fst σ) zn1) + ((cs_fam σ) zn1))) (v := zn2) hpl (by decide) dX0_listFace_58 (fun H locs hP hD hS => ?_)
        replace hP : va_P D vwCl (cw a k (cs_mk (cs_n σ) (cs_par σ) (cs_pack σ) (cs_face σ) (cs_abv σ) (cs_fam σ) (cs_fst σ) (va_up (cs_fls σ) (((cs_fst σ) zn1) + ((cs_fam σ) zn1)) zn2) (cs_own σ) (cs_opt σ) (cs_m σ) (cs_ow σ) (cs_nm σ) (cs_fi σ) (cs_am σ) (cs_si σ) (cs_ki σ))) H := hP
        replace hD : va_D (ca a) (cw a k (cs_mk (cs_n σ) (cs_par σ) (cs_pack σ) (cs_face σ) (cs_abv σ) (cs_fam σ) (cs_fst σ) (va_up (cs_fls σ) (((cs_fst σ) zn1) + ((cs_fam σ) zn1)) zn2) (cs_own σ) (cs_opt σ) (cs_m σ) (cs_ow σ) (cs_nm σ) (cs_fi σ) (cs_am σ) (cs_si σ) (cs_ki σ))) := cw_D hinj
        refine lv_aload_n hx hb dX0_listFace_59 rfl (lv_at hl 1 rfl) ?_
        refine va_get (D := D) (ci := 1) (v := .ref (a 7)) (C := RX0) (T := TX0) (N := 10) hx hb hts (by decide +kernel) hown hK.1 hP 1 rfl rfl 5 (by decide) (hts (.fieldLink RX0 30 "ChooseTree$Classes" "faceAmount" "[I") (by decide +kernel)) (fun _ h9 => h9) rfl dX0_listFace_60 ?_
        refine lv_iload_n hx hb dX0_listFace_63 rfl (lv_at hl 2 rfl) ?_
        refine lv_dup2_11 hx hb dX0_listFace_64 rfl rfl ?_
        refine na_iald (D := D) hx hb hK.1 hP 7 4 rfl rfl (i := zn1) (by omega) (by decide) dX0_listFace_65 ?_
        refine lv_iconst (v := (nI 1)) hx hb dX0_listFace_66 (by decide) ?_
        refine lv_iaddN hx hb dX0_listFace_67 ?_
        refine na_iastN (D := D) hx hb hK.1 hP hD hS 7 4 rfl rfl (i := zn1) (v := (((cs_fam σ) zn1) + 1)) (by omega) (by decide) dX0_listFace_68 (fun H locs hP hD hS => ?_)
        replace hP : va_P D vwCl (cw a k (cs_mk (cs_n σ) (cs_par σ) (cs_pack σ) (cs_face σ) (cs_abv σ) (va_up (cs_fam σ) zn1 (((cs_fam σ) zn1) + 1)) (cs_fst σ) (va_up (cs_fls σ) (((cs_fst σ) zn1) + ((cs_fam σ) zn1)) zn2) (cs_own σ) (cs_opt σ) (cs_m σ) (cs_ow σ) (cs_nm σ) (cs_fi σ) (cs_am σ) (cs_si σ) (cs_ki σ))) H := hP
        replace hD : va_D (ca a) (cw a k (cs_mk (cs_n σ) (cs_par σ) (cs_pack σ) (cs_face σ) (cs_abv σ) (va_up (cs_fam σ) zn1 (((cs_fam σ) zn1) + 1)) (cs_fst σ) (va_up (cs_fls σ) (((cs_fst σ) zn1) + ((cs_fam σ) zn1)) zn2) (cs_own σ) (cs_opt σ) (cs_m σ) (cs_ow σ) (cs_nm σ) (cs_fi σ) (cs_am σ) (cs_si σ) (cs_ki σ))) := cw_D hinj
        exact W.vret hx hb hr (fun t ht hW => ⟨⟨(), rfl, trivial, show va_P D vwCl (cw a k _) t.heap from (by rw [ht]; exact (by rw [e]; exact hP))⟩, hS.F ht⟩) hS.2.2 dX0_listFace_69
    · exact absurd (nI_le (by omega) (by omega)) c_1
  | succ n ih =>
    intro i H locs ls hP hS hE hres hl
    have hD : va_D (ca a) (cw a k σ) := cw_D hinj
    refine lv_iload_n hx hb dX0_listFace_2 rfl (lv_at hl 0 rfl) ?_
    refine lv_aload_n hx hb dX0_listFace_3 rfl (lv_at hl 1 rfl) ?_
    refine va_get (D := D) (ci := 1) (v := .ref (a 7)) (C := RX0) (T := TX0) (N := 10) hx hb hts (by decide +kernel) hown hK.1 hP 1 rfl rfl 5 (by decide) (hts (.fieldLink RX0 30 "ChooseTree$Classes" "faceAmount" "[I") (by decide +kernel)) (fun _ h9 => h9) rfl dX0_listFace_4 ?_
    refine lv_iload_n hx hb dX0_listFace_7 rfl (lv_at hl 2 rfl) ?_
    refine na_iald (D := D) hx hb hK.1 hP 7 4 rfl rfl (i := zn1) (by omega) (by decide) dX0_listFace_8 ?_
    refine lv_icmp_ge (tgt := 29) hx hb dX0_listFace_9 (by decide) (fun c_3 => ?_) (fun c_3 => ?_)
    · exact absurd c_3 (nI_ge (by omega) (by omega))
    · refine lv_aload_n hx hb dX0_listFace_12 rfl (lv_at hl 1 rfl) ?_
      refine lv_iload_n hx hb dX0_listFace_13 rfl (lv_at hl 2 rfl) ?_
      refine lv_iload_n hx hb dX0_listFace_14 rfl (lv_at hl 0 rfl) ?_
      refine va_calli (va_runV (As := [.int (nI zn1), .int (nI i)]) (rest := []) ⟨hx, hb, hml, hown, hts⟩ (c_X0_faceAt l D a k σ zn1 i hn1 (by omega)) (cwV 2 hts gX0_listFace_X0_faceAt rfl rfl rfl (by decide +kernel) ⟨Nat.le_of_ble_eq_true rfl, Nat.le_of_ble_eq_true rfl⟩) (cP_V hK hP 1 1 rfl rfl) rfl rfl hl.1 rfl (lv_room (Nat.le_of_ble_eq_true rfl)) dX0_listFace_15 ⟨Nat.le_of_ble_eq_true rfl, Nat.le_of_ble_eq_true rfl⟩) hS (fun _ _ h => h.elim) (fun _ h => h.elim) (fun r_4 u t H1 locs ht hvm hw hB hz1 hk1 hS => ?_)
      replace hP := ro_kept hP hk1
      obtain rfl : r_4 = _ := hw
      clear hk1 hz1 hvm ht hB
      generalize H1 = H at hP hS ⊢
      refine lv_iload_n hx hb dX0_listFace_18 rfl (lv_at hl 3 rfl) ?_
      refine lv_icmp_ne (tgt := 23) hx hb dX0_listFace_19 (by decide) (fun c_5 => ?_) (fun c_5 => ?_)
      · refine lv_iinc (v := (nI (i + 1))) (lv' := [(3, .int (nI (i + 1))), (0, .ref (a 1)), (1, .int (nI zn1)), (2, .int (nI zn2))]) hx hb dX0_listFace_23 hl (k := 0) rfl (nI_1 _) (by decide) rfl (fun ls hl => ?_)
        refine lv_goto (tgt := 2) hx hb dX0_listFace_26 (by decide) ?_
        exact ih (i + 1) H locs ls hP hS (by omega) (by rw [← hres, l_has, if_neg c_5]) (lv_sub hl [0, 1, 2, 3] rfl)
      · have e : s_listFace σ zn1 zn2 = σ := by rw [s_listFace, if_pos (by rw [← hres, l_has, if_pos c_5])]
        exact W.vret hx hb hr (fun t ht hW => ⟨⟨(), rfl, trivial, show va_P D vwCl (cw a k _) t.heap from (by rw [ht]; exact (by rw [e]; exact hP))⟩, hS.F ht⟩) hS.2.2 dX0_listFace_22
set_option maxHeartbeats 4000000 in
set_option maxRecDepth 100000 in
theorem c_X0_listFacesOf (l : Launch) (D : va_G) (a : Nat → Nat) (k : Nat → ClassId) (σ : CS) (hinj : cInj a) (hok : bok σ) (zn1 zn2 : Nat) (hn1 : zn1 < 60) (hn2 : zn2 < 60) : Met l yX0_listFacesOf wsX0_listFacesOf (rmC 2 45) (cP D a k σ [.ref (a 1), .int (nI zn1), .int (nI zn2)]) (wrV D a k (s_listFacesOf σ zn1 zn2)) 0 0 (ca a) := by
  refine Met.ofW (cc := cX0_listFacesOf) (maxL := 5) (ret := none) (by decide) rfl ?_
  intro p e s m args below meth c s₁ B hml hv
  obtain ⟨rfl, hP, hK⟩ := hv
  have hx := B.exec
  have hb := B.bytes
  have hr := B.returns
  have hts := atoms_spec (ws := wsX0_listFacesOf) B.pre
  have hown : s.vm.findClass RX0 = some m.cls := findClass_of_methodNamed B.named
  have hlocks := B.notSynchronized
  clear B
  have hl := lv_entry ([.ref (a 1), .int (nI zn1), .int (nI zn2)]) (n := 5) (Nat.le_of_ble_eq_true rfl)
  rw [lg_entry_eq]
  generalize (lg_sl ([.ref (a 1), .int (nI zn1), .int (nI zn2)]) ++ List.replicate (5 - (lg_sl ([.ref (a 1), .int (nI zn1), .int (nI zn2)])).length) Slot.unset).toArray = ls at hl ⊢
  replace hl : lv_has ls 5 [(0, .ref (a 1)), (1, .int (nI zn1)), (2, .int (nI zn2))] := hl
  refine gen_start (A := (ca a)) (fun H locs hP hS => ?_) hP
  have hD : va_D (ca a) (cw a k σ) := cw_D hinj
  obtain ⟨hb1, hb2, hb3, hb4, hb5, hb6⟩ := id hok
  have hq1 := hb4 zn2 hn2
  refine lv_aload_n hx hb dX0_listFacesOf_0 rfl (lv_at hl 0 rfl) ?_
  refine va_get (D := D) (ci := 1) (v := .ref (a 7)) (C := RX0) (T := TX0) (N := 10) hx hb hts (by decide +kernel) hown hK.1 hP 1 rfl rfl 5 (by decide) (hts (.fieldLink RX0 30 "ChooseTree$Classes" "faceAmount" "[I") (by decide +kernel)) (fun _ h9 => h9) rfl dX0_listFacesOf_1 ?_
  refine lv_iload_n hx hb dX0_listFacesOf_4 rfl (lv_at hl 2 rfl) ?_
  refine na_iald (D := D) hx hb hK.1 hP 7 4 rfl rfl (i := zn2) (by omega) (by decide) dX0_listFacesOf_5 ?_
  refine lv_istore_n (lv' := [(3, .int (nI ((cs_fam σ) zn2))), (0, .ref (a 1)), (1, .int (nI zn1)), (2, .int (nI zn2))]) hx hb dX0_listFacesOf_6 rfl hl (by decide) rfl (fun ls hl => ?_)
  refine lv_iconst (v := (nI 0)) hx hb dX0_listFacesOf_7 (by decide) ?_
  refine lv_istore (lv' := [(4, .int (nI 0)), (3, .int (nI ((cs_fam σ) zn2))), (0, .ref (a 1)), (1, .int (nI zn1)), (2, .int (nI zn2))]) hx hb dX0_listFacesOf_8 hl (by decide) rfl (fun ls hl => ?_)
  obtain ⟨n, hn⟩ : ∃ n, n = cs_fam σ zn2 := ⟨_, rfl⟩
  obtain ⟨i, hi⟩ : ∃ i : Nat, i = 0 := ⟨_, rfl⟩
  obtain ⟨τ, hτ⟩ : ∃ τ : CS, τ = σ := ⟨_, rfl⟩
  have hE : i + n = cs_fam σ zn2 ∧ cs_fst τ zn2 + i + n ≤ 1800 ∧ bok τ := ⟨by omega, by rw [hτ]; omega, by rw [hτ]; exact hok⟩
  have hres : s_listAll zn1 zn2 n i τ = s_listFacesOf σ zn1 zn2 := by rw [hn, hi, hτ]; rfl
  replace hl : lv_has ls 5 [(4, .int (nI i)), (3, .int (nI ((cs_fam σ) zn2))), (0, .ref (a 1)), (1, .int (nI zn1)), (2, .int (nI zn2))] := by rw [hi]; exact hl
  rw [← hτ] at hP
  clear hn hi hD hτ
  revert hl
  revert hres
  revert hE
  revert hS
  revert hP
  revert ls
  revert locs
  revert H
  revert i
  revert τ
  induction n with
  | zero =>
    intro τ i H locs ls hP hS hE hres hl
    obtain ⟨hE, hB, hokt⟩ := hE
    refine lv_iload hx hb dX0_listFacesOf_10 (lv_at hl 0 rfl) ?_
    refine lv_iload_n hx hb dX0_listFacesOf_12 rfl (lv_at hl 1 rfl) ?_
    refine lv_icmp_ge (tgt := 34) hx hb dX0_listFacesOf_13 (by decide) (fun c_1 => ?_) (fun c_1 => ?_)
    · exact W.vret hx hb hr (fun t ht hW => ⟨⟨(), rfl, trivial, show va_P D vwCl (cw a k _) t.heap from (by rw [ht]; exact (by rw [← hres]; exact hP))⟩, hS.F ht⟩) hS.2.2 dX0_listFacesOf_34
    · exact absurd (nI_le (by omega) (by omega)) c_1
  | succ n ih =>
    intro τ i H locs ls hP hS hE hres hl
    obtain ⟨hE, hB, hokt⟩ := hE
    have hD : va_D (ca a) (cw a k τ) := cw_D hinj
    have hf6 : s_faceAt τ zn2 i < 60 := hokt.2.2.2.2.1 _ (by omega)
    have hkp := (s_listFace_keep τ zn1 (s_faceAt τ zn2 i)).1.2.2.2.2.2.1
    refine lv_iload hx hb dX0_listFacesOf_10 (lv_at hl 0 rfl) ?_
    refine lv_iload_n hx hb dX0_listFacesOf_12 rfl (lv_at hl 1 rfl) ?_
    refine lv_icmp_ge (tgt := 34) hx hb dX0_listFacesOf_13 (by decide) (fun c_2 => ?_) (fun c_2 => ?_)
    · exact absurd c_2 (nI_ge (by omega) (by omega))
    · refine lv_aload_n hx hb dX0_listFacesOf_16 rfl (lv_at hl 2 rfl) ?_
      refine lv_iload_n hx hb dX0_listFacesOf_17 rfl (lv_at hl 3 rfl) ?_
      refine lv_aload_n hx hb dX0_listFacesOf_18 rfl (lv_at hl 2 rfl) ?_
      refine lv_iload_n hx hb dX0_listFacesOf_19 rfl (lv_at hl 4 rfl) ?_
      refine lv_iload hx hb dX0_listFacesOf_20 (lv_at hl 0 rfl) ?_
      refine va_calli (va_runV (As := [.int (nI zn2), .int (nI i)]) (rest := [.int (nI zn1), .ref (a 1)]) ⟨hx, hb, hml, hown, hts⟩ (c_X0_faceAt l D a k τ zn2 i hn2 (by omega)) (cwV 2 hts gX0_listFacesOf_X0_faceAt rfl rfl rfl (by decide +kernel) ⟨Nat.le_of_ble_eq_true rfl, Nat.le_of_ble_eq_true rfl⟩) (cP_V hK hP 1 1 rfl rfl) rfl rfl hl.1 rfl (lv_room (Nat.le_of_ble_eq_true rfl)) dX0_listFacesOf_22 ⟨Nat.le_of_ble_eq_true rfl, Nat.le_of_ble_eq_true rfl⟩) hS (fun _ _ h => h.elim) (fun _ h => h.elim) (fun r_3 u t H1 locs ht hvm hw hB hz1 hk1 hS => ?_)
      replace hP := ro_kept hP hk1
      obtain rfl : r_3 = _ := hw
      clear hk1 hz1 hvm ht hB
      generalize H1 = H at hP hS ⊢
      refine va_callv (va_runV (As := [.int (nI zn1), .int (nI (s_faceAt τ zn2 i))]) (rest := []) ⟨hx, hb, hml, hown, hts⟩ (c_X0_listFace l D a k τ hinj hokt zn1 (s_faceAt τ zn2 i) hn1) (cwV 2 hts gX0_listFacesOf_X0_listFace rfl rfl rfl (by decide +kernel) ⟨Nat.le_of_ble_eq_true rfl, Nat.le_of_ble_eq_true rfl⟩) (cP_V hK hP 1 1 rfl rfl) rfl rfl hl.1 rfl (lv_room (Nat.le_of_ble_eq_true rfl)) dX0_listFacesOf_25 ⟨Nat.le_of_ble_eq_true rfl, Nat.le_of_ble_eq_true rfl⟩) hS (fun _ _ h => h) (fun _ h => h) (fun u t H1 locs ht hvm hw hB hz1 hk1 hS => ?_)
      replace hB : va_P D vwCl (cw a k (s_listFace τ zn1 (s_faceAt τ zn2 i))) t.heap := hB
      rw [ht] at hB
      clear hk1 hz1 hvm ht hP hD hw
      have hP := hB
      clear hB
      have hP : va_P D vwCl (cw a k (s_listFace τ zn1 (s_faceAt τ zn2 i))) H1 := hP
      have hD : va_D (ca a) (cw a k (s_listFace τ zn1 (s_faceAt τ zn2 i))) := cw_D hinj
      generalize H1 = H at hP hS ⊢
      refine lv_iinc (v := (nI (i + 1))) (lv' := [(4, .int (nI (i + 1))), (3, .int (nI ((cs_fam σ) zn2))), (0, .ref (a 1)), (1, .int (nI zn1)), (2, .int (nI zn2))]) hx hb dX0_listFacesOf_28 hl (k := 0) rfl (nI_1 _) (by decide) rfl (fun ls hl => ?_)
      refine lv_goto (tgt := 10) hx hb dX0_listFacesOf_31 (by decide) ?_
      exact ih _ (i + 1) H locs ls hP hS ⟨by omega, by rw [hkp]; omega, s_listFace_bok hokt hn1 hf6⟩ hres (lv_sub hl [0, 1, 2, 3, 4] rfl)
set_option maxHeartbeats 4000000 in
set_option maxRecDepth 100000 in
theorem c_X1_append (l : Launch) (D : va_G) (a : Nat → Nat) (k : Nat → ClassId) (σ : CS) (hinj : cInj a) (zn1 : Nat) (hn1 : zn1 < 60) (hm4 : cs_m σ < 400) (zx2 zx3 zx4 : Int32) : Met l yX1_append wsX1_append (rmC 0 0) (cP D a k σ [.ref (a 2), .int (nI zn1), .int zx2, .int zx3, .int zx4]) (wrI D a k (nI (cs_m σ)) (m_append σ zn1 zx2 zx3 zx4)) 0 0 (ca a) := by
  refine Met.ofW (cc := cX1_append) (maxL := 6) (ret := (some .int)) (by decide) rfl ?_
  intro p e s m args below meth c s₁ B hml hv
  obtain ⟨rfl, hP, hK⟩ := hv
  have hx := B.exec
  have hb := B.bytes
  have hr := B.returns
  have hts := atoms_spec (ws := wsX1_append) B.pre
  have hown : s.vm.findClass RX1 = some m.cls := findClass_of_methodNamed B.named
  have hlocks := B.notSynchronized
  clear B
  have hl := lv_entry ([.ref (a 2), .int (nI zn1), .int zx2, .int zx3, .int zx4]) (n := 6) (Nat.le_of_ble_eq_true rfl)
  rw [lg_entry_eq]
  generalize (lg_sl ([.ref (a 2), .int (nI zn1), .int zx2, .int zx3, .int zx4]) ++ List.replicate (6 - (lg_sl ([.ref (a 2), .int (nI zn1), .int zx2, .int zx3, .int zx4])).length) Slot.unset).toArray = ls at hl ⊢
  replace hl : lv_has ls 6 [(0, .ref (a 2)), (1, .int (nI zn1)), (2, .int zx2), (3, .int zx3), (4, .int zx4)] := hl
  refine gen_start (A := (ca a)) (fun H locs hP hS => ?_) hP
  have hD : va_D (ca a) (cw a k σ) := cw_D hinj
  refine lv_aload_n hx hb dX1_append_0 rfl (lv_at hl 0 rfl) ?_
  refine va_get (D := D) (ci := 2) (v := .int (nI (cs_m σ))) (C := RX1) (T := TX1) (N := 7) hx hb hts (by decide +kernel) hown hK.1 hP 2 rfl rfl 0 (by decide) (hts (.fieldLink RX1 9 "ChooseTree$Methods" "count" "I") (by decide +kernel)) (fun _ h9 => h9) rfl dX1_append_1 ?_
  refine lv_istore (lv' := [(5, .int (nI (cs_m σ))), (0, .ref (a 2)), (1, .int (nI zn1)), (2, .int zx2), (3, .int zx3), (4, .int zx4)]) hx hb dX1_append_4 hl (by decide) rfl (fun ls hl => ?_)
  refine lv_aload_n hx hb dX1_append_6 rfl (lv_at hl 1 rfl) ?_
  refine va_get (D := D) (ci := 2) (v := .ref (a 13)) (C := RX1) (T := TX1) (N := 7) hx hb hts (by decide +kernel) hown hK.1 hP 2 rfl rfl 4 (by decide) (hts (.fieldLink RX1 25 "ChooseTree$Methods" "amount" "[I") (by decide +kernel)) (fun _ h9 => h9) rfl dX1_append_7 ?_
  refine lv_iload_n hx hb dX1_append_10 rfl (lv_at hl 2 rfl) ?_
  refine na_iald (D := D) hx hb hK.1 hP 13 10 rfl rfl (i := zn1) (by omega) (by decide) dX1_append_11 ?_
  refine lv_if_ne (tgt := 23) hx hb dX1_append_12 (by decide) (fun c_1 => ?_) (fun c_1 => ?_)
  · have e := show m_append σ zn1 zx2 zx3 zx4 = _ from (by unfold m_append; rw [if_neg c_1])
    refine lv_aload_n hx hb dX1_append_23 rfl (lv_at hl 1 rfl) ?_
    refine va_get (D := D) (ci := 2) (v := .ref (a 13)) (C := RX1) (T := TX1) (N := 7) hx hb hts (by decide +kernel) hown hK.1 hP 2 rfl rfl 4 (by decide) (hts (.fieldLink RX1 25 "ChooseTree$Methods" "amount" "[I") (by decide +kernel)) (fun _ h9 => h9) rfl dX1_append_24 ?_
    refine lv_iload_n hx hb dX1_append_27 rfl (lv_at hl 2 rfl) ?_
    refine lv_dup2_11 hx hb dX1_append_28 rfl rfl ?_
    refine na_iald (D := D) hx hb hK.1 hP 13 10 rfl rfl (i := zn1) (by omega) (by decide) dX1_append_29 ?_
    refine lv_iconst (v := (nI 1)) hx hb dX1_append_30 (by decide) ?_
    refine lv_iaddN hx hb dX1_append_31 ?_
    refine na_iastN (D := D) hx hb hK.1 hP hD hS 13 10 rfl rfl (i := zn1) (v := (((cs_am σ) zn1) + 1)) (by omega) (by decide) dX1_append_32 (fun H locs hP hD hS => ?_)
    replace hP : va_P D vwCl (cw a k (cs_mk (cs_n σ) (cs_par σ) (cs_pack σ) (cs_face σ) (cs_abv σ) (cs_fam σ) (cs_fst σ) (cs_fls σ) (cs_own σ) (cs_opt σ) (cs_m σ) (cs_ow σ) (cs_nm σ) (cs_fi σ) (va_up (cs_am σ) zn1 (((cs_am σ) zn1) + 1)) (cs_si σ) (cs_ki σ))) H := hP
    replace hD : va_D (ca a) (cw a k (cs_mk (cs_n σ) (cs_par σ) (cs_pack σ) (cs_face σ) (cs_abv σ) (cs_fam σ) (cs_fst σ) (cs_fls σ) (cs_own σ) (cs_opt σ) (cs_m σ) (cs_ow σ) (cs_nm σ) (cs_fi σ) (va_up (cs_am σ) zn1 (((cs_am σ) zn1) + 1)) (cs_si σ) (cs_ki σ))) := cw_D hinj
    refine lv_aload_n hx hb dX1_append_33 rfl (lv_at hl 1 rfl) ?_
    refine va_get (D := D) (ci := 2) (v := .ref (a 10)) (C := RX1) (T := TX1) (N := 7) hx hb hts (by decide +kernel) hown hK.1 hP 2 rfl rfl 1 (by decide) (hts (.fieldLink RX1 15 "ChooseTree$Methods" "owner" "[I") (by decide +kernel)) (fun _ h9 => h9) rfl dX1_append_34 ?_
    refine lv_iload hx hb dX1_append_37 (lv_at hl 0 rfl) ?_
    refine lv_iload_n hx hb dX1_append_39 rfl (lv_at hl 2 rfl) ?_
    refine na_iastN (D := D) hx hb hK.1 hP hD hS 10 7 rfl rfl (i := (cs_m σ)) (v := zn1) (by omega) (by decide) dX1_append_40 (fun H locs hP hD hS => ?_)
    replace hP : va_P D vwCl (cw a k (cs_mk (cs_n σ) (cs_par σ) (cs_pack σ) (cs_face σ) (cs_abv σ) (cs_fam σ) (cs_fst σ) (cs_fls σ) (cs_own σ) (cs_opt σ) (cs_m σ) (va_up (cs_ow σ) (cs_m σ) zn1) (cs_nm σ) (cs_fi σ) (va_up (cs_am σ) zn1 (((cs_am σ) zn1) + 1)) (cs_si σ) (cs_ki σ))) H := hP
    replace hD : va_D (ca a) (cw a k (cs_mk (cs_n σ) (cs_par σ) (cs_pack σ) (cs_face σ) (cs_abv σ) (cs_fam σ) (cs_fst σ) (cs_fls σ) (cs_own σ) (cs_opt σ) (cs_m σ) (va_up (cs_ow σ) (cs_m σ) zn1) (cs_nm σ) (cs_fi σ) (va_up (cs_am σ) zn1 (((cs_am σ) zn1) + 1)) (cs_si σ) (cs_ki σ))) := cw_D hinj
    refine lv_aload_n hx hb dX1_append_41 rfl (lv_at hl 1 rfl) ?_
    refine va_get (D := D) (ci := 2) (v := .ref (a 11)) (C := RX1) (T := TX1) (N := 7) hx hb hts (by decide +kernel) hown hK.1 hP 2 rfl rfl 2 (by decide) (hts (.fieldLink RX1 19 "ChooseTree$Methods" "name" "[I") (by decide +kernel)) (fun _ h9 => h9) rfl dX1_append_42 ?_
    refine lv_iload hx hb dX1_append_45 (lv_at hl 0 rfl) ?_
    refine lv_iload_n hx hb dX1_append_47 rfl (lv_at hl 3 rfl) ?_
    refine na_iast (D := D) hx hb hK.1 hP hD hS 11 8 rfl rfl (i := (cs_m σ)) (x := zx2) (by omega) (by decide) dX1_append_48 (fun H locs hP hD hS => ?_)
    replace hP : va_P D vwCl (cw a k (cs_mk (cs_n σ) (cs_par σ) (cs_pack σ) (cs_face σ) (cs_abv σ) (cs_fam σ) (cs_fst σ) (cs_fls σ) (cs_own σ) (cs_opt σ) (cs_m σ) (va_up (cs_ow σ) (cs_m σ) zn1) (upd (cs_nm σ) (cs_m σ) zx2) (cs_fi σ) (va_up (cs_am σ) zn1 (((cs_am σ) zn1) + 1)) (cs_si σ) (cs_ki σ))) H := hP
    replace hD : va_D (ca a) (cw a k (cs_mk (cs_n σ) (cs_par σ) (cs_pack σ) (cs_face σ) (cs_abv σ) (cs_fam σ) (cs_fst σ) (cs_fls σ) (cs_own σ) (cs_opt σ) (cs_m σ) (va_up (cs_ow σ) (cs_m σ) zn1) (upd (cs_nm σ) (cs_m σ) zx2) (cs_fi σ) (va_up (cs_am σ) zn1 (((cs_am σ) zn1) + 1)) (cs_si σ) (cs_ki σ))) := cw_D hinj
    refine lv_aload_n hx hb dX1_append_49 rfl (lv_at hl 1 rfl) ?_
    refine va_get (D := D) (ci := 2) (v := .ref (a 14)) (C := RX1) (T := TX1) (N := 7) hx hb hts (by decide +kernel) hown hK.1 hP 2 rfl rfl 5 (by decide) (hts (.fieldLink RX1 28 "ChooseTree$Methods" "sight" "[I") (by decide +kernel)) (fun _ h9 => h9) rfl dX1_append_50 ?_
    refine lv_iload hx hb dX1_append_53 (lv_at hl 0 rfl) ?_
    refine lv_iload_n hx hb dX1_append_55 rfl (lv_at hl 4 rfl) ?_
    refine na_iast (D := D) hx hb hK.1 hP hD hS 14 11 rfl rfl (i := (cs_m σ)) (x := zx3) (by omega) (by decide) dX1_append_56 (fun H locs hP hD hS => ?_)
    replace hP : va_P D vwCl (cw a k (cs_mk (cs_n σ) (cs_par σ) (cs_pack σ) (cs_face σ) (cs_abv σ) (cs_fam σ) (cs_fst σ) (cs_fls σ) (cs_own σ) (cs_opt σ) (cs_m σ) (va_up (cs_ow σ) (cs_m σ) zn1) (upd (cs_nm σ) (cs_m σ) zx2) (cs_fi σ) (va_up (cs_am σ) zn1 (((cs_am σ) zn1) + 1)) (upd (cs_si σ) (cs_m σ) zx3) (cs_ki σ))) H := hP
    replace hD : va_D (ca a) (cw a k (cs_mk (cs_n σ) (cs_par σ) (cs_pack σ) (cs_face σ) (cs_abv σ) (cs_fam σ) (cs_fst σ) (cs_fls σ) (cs_own σ) (cs_opt σ) (cs_m σ) (va_up (cs_ow σ) (cs_m σ) zn1) (upd (cs_nm σ) (cs_m σ) zx2) (cs_fi σ) (va_up (cs_am σ) zn1 (((cs_am σ) zn1) + 1)) (upd (cs_si σ) (cs_m σ) zx3) (cs_ki σ))) := cw_D hinj
    refine lv_aload_n hx hb dX1_append_57 rfl (lv_at hl 1 rfl) ?_
    refine va_get (D := D) (ci := 2) (v := .ref (a 15)) (C := RX1) (T := TX1) (N := 7) hx hb hts (by decide +kernel) hown hK.1 hP 2 rfl rfl 6 (by decide) (hts (.fieldLink RX1 31 "ChooseTree$Methods" "kind" "[I") (by decide +kernel)) (fun _ h9 => h9) rfl dX1_append_58 ?_
    refine lv_iload hx hb dX1_append_61 (lv_at hl 0 rfl) ?_
    refine lv_iload hx hb dX1_append_63 (lv_at hl 5 rfl) ?_
    refine na_iast (D := D) hx hb hK.1 hP hD hS 15 12 rfl rfl (i := (cs_m σ)) (x := zx4) (by omega) (by decide) dX1_append_65 (fun H locs hP hD hS => ?_)
    replace hP : va_P D vwCl (cw a k (cs_mk (cs_n σ) (cs_par σ) (cs_pack σ) (cs_face σ) (cs_abv σ) (cs_fam σ) (cs_fst σ) (cs_fls σ) (cs_own σ) (cs_opt σ) (cs_m σ) (va_up (cs_ow σ) (cs_m σ) zn1) (upd (cs_nm σ) (cs_m σ) zx2) (cs_fi σ) (va_up (cs_am σ) zn1 (((cs_am σ) zn1) + 1)) (upd (cs_si σ) (cs_m σ) zx3) (upd (cs_ki σ) (cs_m σ) zx4))) H := hP
    replace hD : va_D (ca a) (cw a k (cs_mk (cs_n σ) (cs_par σ) (cs_pack σ) (cs_face σ) (cs_abv σ) (cs_fam σ) (cs_fst σ) (cs_fls σ) (cs_own σ) (cs_opt σ) (cs_m σ) (va_up (cs_ow σ) (cs_m σ) zn1) (upd (cs_nm σ) (cs_m σ) zx2) (cs_fi σ) (va_up (cs_am σ) zn1 (((cs_am σ) zn1) + 1)) (upd (cs_si σ) (cs_m σ) zx3) (upd (cs_ki σ) (cs_m σ) zx4))) := cw_D hinj
    refine lv_aload_n hx hb dX1_append_66 rfl (lv_at hl 1 rfl) ?_
    refine lv_dup hx hb dX1_append_67 rfl ?_
    refine va_get (D := D) (ci := 2) (v := .int (nI (cs_m σ))) (C := RX1) (T := TX1) (N := 7) hx hb hts (by decide +kernel) hown hK.1 hP 2 rfl rfl 0 (by decide) (hts (.fieldLink RX1 9 "ChooseTree$Methods" "count" "I") (by decide +kernel)) (fun _ h9 => h9) rfl dX1_append_68 ?_
    refine lv_iconst (v := (nI 1)) hx hb dX1_append_71 (by decide) ?_
    refine lv_iaddN hx hb dX1_append_72 ?_
    refine va_put (D := D) (ci := 2) (v := .int (nI ((cs_m σ) + 1))) (ty := .int) (C := RX1) (T := TX1) (N := 7) hx hb hts (by decide +kernel) tyX1 tyX1_ok nmX1 hown hK.1 hP hD hS 2 rfl rfl 0 (by decide) (hts (.fieldLink RX1 9 "ChooseTree$Methods" "count" "I") (by decide +kernel)) (fun _ h9 => h9) rfl (by decide +kernel) rfl rfl (Nat.le_of_ble_eq_true rfl) dX1_append_73 (fun H locs hP hD hS => ?_)
    replace hP : va_P D vwCl (cw a k (cs_mk (cs_n σ) (cs_par σ) (cs_pack σ) (cs_face σ) (cs_abv σ) (cs_fam σ) (cs_fst σ) (cs_fls σ) (cs_own σ) (cs_opt σ) ((cs_m σ) + 1) (va_up (cs_ow σ) (cs_m σ) zn1) (upd (cs_nm σ) (cs_m σ) zx2) (cs_fi σ) (va_up (cs_am σ) zn1 (((cs_am σ) zn1) + 1)) (upd (cs_si σ) (cs_m σ) zx3) (upd (cs_ki σ) (cs_m σ) zx4))) H := hP
    replace hD : va_D (ca a) (cw a k (cs_mk (cs_n σ) (cs_par σ) (cs_pack σ) (cs_face σ) (cs_abv σ) (cs_fam σ) (cs_fst σ) (cs_fls σ) (cs_own σ) (cs_opt σ) ((cs_m σ) + 1) (va_up (cs_ow σ) (cs_m σ) zn1) (upd (cs_nm σ) (cs_m σ) zx2) (cs_fi σ) (va_up (cs_am σ) zn1 (((cs_am σ) zn1) + 1)) (upd (cs_si σ) (cs_m σ) zx3) (upd (cs_ki σ) (cs_m σ) zx4))) := cw_D hinj
    refine lv_iload hx hb dX1_append_76 (lv_at hl 0 rfl) ?_
    exact W.iret (v := (nI (cs_m σ))) hx hb hr (fun t ht hW => ⟨⟨(nI (cs_m σ)), (), rfl, rfl, show va_P D vwCl (cw a k _) t.heap from (by rw [ht]; exact (by rw [e]; exact hP))⟩, hS.F ht⟩) hS.2.2 dX1_append_78
  · have e := show m_append σ zn1 zx2 zx3 zx4 = _ from (by unfold m_append; rw [if_pos c_1])
    refine lv_aload_n hx hb dX1_append_15 rfl (lv_at hl 1 rfl) ?_
    refine va_get (D := D) (ci := 2) (v := .ref (a 12)) (C := RX1) (T := TX1) (N := 7) hx hb hts (by decide +kernel) hown hK.1 hP 2 rfl rfl 3 (by decide) (hts (.fieldLink RX1 22 "ChooseTree$Methods" "first" "[I") (by decide +kernel)) (fun _ h9 => h9) rfl dX1_append_16 ?_
    refine lv_iload_n hx hb dX1_append_19 rfl (lv_at hl 2 rfl) ?_
    refine lv_iload hx hb dX1_append_20 (lv_at hl 0 rfl) ?_
    refine na_iastN (D := D) hx hb hK.1 hP hD hS 12 9 rfl rfl (i := zn1) (v := (cs_m σ)) (by omega) (by decide) dX1_append_22 (fun H locs hP hD hS => ?_)
    replace hP : va_P D vwCl (cw a k (cs_mk (cs_n σ) (cs_par σ) (cs_pack σ) (cs_face σ) (cs_abv σ) (cs_fam σ) (cs_fst σ) (cs_fls σ) (cs_own σ) (cs_opt σ) (cs_m σ) (cs_ow σ) (cs_nm σ) (va_up (cs_fi σ) zn1 (cs_m σ)) (cs_am σ) (cs_si σ) (cs_ki σ))) H := hP
    replace hD : va_D (ca a) (cw a k (cs_mk (cs_n σ) (cs_par σ) (cs_pack σ) (cs_face σ) (cs_abv σ) (cs_fam σ) (cs_fst σ) (cs_fls σ) (cs_own σ) (cs_opt σ) (cs_m σ) (cs_ow σ) (cs_nm σ) (va_up (cs_fi σ) zn1 (cs_m σ)) (cs_am σ) (cs_si σ) (cs_ki σ))) := cw_D hinj
    refine lv_aload_n hx hb dX1_append_23 rfl (lv_at hl 1 rfl) ?_
    refine va_get (D := D) (ci := 2) (v := .ref (a 13)) (C := RX1) (T := TX1) (N := 7) hx hb hts (by decide +kernel) hown hK.1 hP 2 rfl rfl 4 (by decide) (hts (.fieldLink RX1 25 "ChooseTree$Methods" "amount" "[I") (by decide +kernel)) (fun _ h9 => h9) rfl dX1_append_24 ?_
    refine lv_iload_n hx hb dX1_append_27 rfl (lv_at hl 2 rfl) ?_
    refine lv_dup2_11 hx hb dX1_append_28 rfl rfl ?_
    refine na_iald (D := D) hx hb hK.1 hP 13 10 rfl rfl (i := zn1) (by omega) (by decide) dX1_append_29 ?_
    refine lv_iconst (v := (nI 1)) hx hb dX1_append_30 (by decide) ?_
    refine lv_iaddN hx hb dX1_append_31 ?_
    refine na_iastN (D := D) hx hb hK.1 hP hD hS 13 10 rfl rfl (i := zn1) (v := (((cs_am σ) zn1) + 1)) (by omega) (by decide) dX1_append_32 (fun H locs hP hD hS => ?_)
    replace hP : va_P D vwCl (cw a k (cs_mk (cs_n σ) (cs_par σ) (cs_pack σ) (cs_face σ) (cs_abv σ) (cs_fam σ) (cs_fst σ) (cs_fls σ) (cs_own σ) (cs_opt σ) (cs_m σ) (cs_ow σ) (cs_nm σ) (va_up (cs_fi σ) zn1 (cs_m σ)) (va_up (cs_am σ) zn1 (((cs_am σ) zn1) + 1)) (cs_si σ) (cs_ki σ))) H := hP
    replace hD : va_D (ca a) (cw a k (cs_mk (cs_n σ) (cs_par σ) (cs_pack σ) (cs_face σ) (cs_abv σ) (cs_fam σ) (cs_fst σ) (cs_fls σ) (cs_own σ) (cs_opt σ) (cs_m σ) (cs_ow σ) (cs_nm σ) (va_up (cs_fi σ) zn1 (cs_m σ)) (va_up (cs_am σ) zn1 (((cs_am σ) zn1) + 1)) (cs_si σ) (cs_ki σ))) := cw_D hinj
    refine lv_aload_n hx hb dX1_append_33 rfl (lv_at hl 1 rfl) ?_
    refine va_get (D := D) (ci := 2) (v := .ref (a 10)) (C := RX1) (T := TX1) (N := 7) hx hb hts (by decide +kernel) hown hK.1 hP 2 rfl rfl 1 (by decide) (hts (.fieldLink RX1 15 "ChooseTree$Methods" "owner" "[I") (by decide +kernel)) (fun _ h9 => h9) rfl dX1_append_34 ?_
    refine lv_iload hx hb dX1_append_37 (lv_at hl 0 rfl) ?_
    refine lv_iload_n hx hb dX1_append_39 rfl (lv_at hl 2 rfl) ?_
    refine na_iastN (D := D) hx hb hK.1 hP hD hS 10 7 rfl rfl (i := (cs_m σ)) (v := zn1) (by omega) (by decide) dX1_append_40 (fun H locs hP hD hS => ?_)
    replace hP : va_P D vwCl (cw a k (cs_mk (cs_n σ) (cs_par σ) (cs_pack σ) (cs_face σ) (cs_abv σ) (cs_fam σ) (cs_fst σ) (cs_fls σ) (cs_own σ) (cs_opt σ) (cs_m σ) (va_up (cs_ow σ) (cs_m σ) zn1) (cs_nm σ) (va_up (cs_fi σ) zn1 (cs_m σ)) (va_up (cs_am σ) zn1 (((cs_am σ) zn1) + 1)) (cs_si σ) (cs_ki σ))) H := hP
    replace hD : va_D (ca a) (cw a k (cs_mk (cs_n σ) (cs_par σ) (cs_pack σ) (cs_face σ) (cs_abv σ) (cs_fam σ) (cs_fst σ) (cs_fls σ) (cs_own σ) (cs_opt σ) (cs_m σ) (va_up (cs_ow σ) (cs_m σ) zn1) (cs_nm σ) (va_up (cs_fi σ) zn1 (cs_m σ)) (va_up (cs_am σ) zn1 (((cs_am σ) zn1) + 1)) (cs_si σ) (cs_ki σ))) := cw_D hinj
    refine lv_aload_n hx hb dX1_append_41 rfl (lv_at hl 1 rfl) ?_
    refine va_get (D := D) (ci := 2) (v := .ref (a 11)) (C := RX1) (T := TX1) (N := 7) hx hb hts (by decide +kernel) hown hK.1 hP 2 rfl rfl 2 (by decide) (hts (.fieldLink RX1 19 "ChooseTree$Methods" "name" "[I") (by decide +kernel)) (fun _ h9 => h9) rfl dX1_append_42 ?_
    refine lv_iload hx hb dX1_append_45 (lv_at hl 0 rfl) ?_
    refine lv_iload_n hx hb dX1_append_47 rfl (lv_at hl 3 rfl) ?_
    refine na_iast (D := D) hx hb hK.1 hP hD hS 11 8 rfl rfl (i := (cs_m σ)) (x := zx2) (by omega) (by decide) dX1_append_48 (fun H locs hP hD hS => ?_)
    replace hP : va_P D vwCl (cw a k (cs_mk (cs_n σ) (cs_par σ) (cs_pack σ) (cs_face σ) (cs_abv σ) (cs_fam σ) (cs_fst σ) (cs_fls σ) (cs_own σ) (cs_opt σ) (cs_m σ) (va_up (cs_ow σ) (cs_m σ) zn1) (upd (cs_nm σ) (cs_m σ) zx2) (va_up (cs_fi σ) zn1 (cs_m σ)) (va_up (cs_am σ) zn1 (((cs_am σ) zn1) + 1)) (cs_si σ) (cs_ki σ))) H := hP
    replace hD : va_D (ca a) (cw a k (cs_mk (cs_n σ) (cs_par σ) (cs_pack σ) (cs_face σ) (cs_abv σ) (cs_fam σ) (cs_fst σ) (cs_fls σ) (cs_own σ) (cs_opt σ) (cs_m σ) (va_up (cs_ow σ) (cs_m σ) zn1) (upd (cs_nm σ) (cs_m σ) zx2) (va_up (cs_fi σ) zn1 (cs_m σ)) (va_up (cs_am σ) zn1 (((cs_am σ) zn1) + 1)) (cs_si σ) (cs_ki σ))) := cw_D hinj
    refine lv_aload_n hx hb dX1_append_49 rfl (lv_at hl 1 rfl) ?_
    refine va_get (D := D) (ci := 2) (v := .ref (a 14)) (C := RX1) (T := TX1) (N := 7) hx hb hts (by decide +kernel) hown hK.1 hP 2 rfl rfl 5 (by decide) (hts (.fieldLink RX1 28 "ChooseTree$Methods" "sight" "[I") (by decide +kernel)) (fun _ h9 => h9) rfl dX1_append_50 ?_
    refine lv_iload hx hb dX1_append_53 (lv_at hl 0 rfl) ?_
    refine lv_iload_n hx hb dX1_append_55 rfl (lv_at hl 4 rfl) ?_
    refine na_iast (D := D) hx hb hK.1 hP hD hS 14 11 rfl rfl (i := (cs_m σ)) (x := zx3) (by omega) (by decide) dX1_append_56 (fun H locs hP hD hS => ?_)
    replace hP : va_P D vwCl (cw a k (cs_mk (cs_n σ) (cs_par σ) (cs_pack σ) (cs_face σ) (cs_abv σ) (cs_fam σ) (cs_fst σ) (cs_fls σ) (cs_own σ) (cs_opt σ) (cs_m σ) (va_up (cs_ow σ) (cs_m σ) zn1) (upd (cs_nm σ) (cs_m σ) zx2) (va_up (cs_fi σ) zn1 (cs_m σ)) (va_up (cs_am σ) zn1 (((cs_am σ) zn1) + 1)) (upd (cs_si σ) (cs_m σ) zx3) (cs_ki σ))) H := hP
    replace hD : va_D (ca a) (cw a k (cs_mk (cs_n σ) (cs_par σ) (cs_pack σ) (cs_face σ) (cs_abv σ) (cs_fam σ) (cs_fst σ) (cs_fls σ) (cs_own σ) (cs_opt σ) (cs_m σ) (va_up (cs_ow σ) (cs_m σ) zn1) (upd (cs_nm σ) (cs_m σ) zx2) (va_up (cs_fi σ) zn1 (cs_m σ)) (va_up (cs_am σ) zn1 (((cs_am σ) zn1) + 1)) (upd (cs_si σ) (cs_m σ) zx3) (cs_ki σ))) := cw_D hinj
    refine lv_aload_n hx hb dX1_append_57 rfl (lv_at hl 1 rfl) ?_
    refine va_get (D := D) (ci := 2) (v := .ref (a 15)) (C := RX1) (T := TX1) (N := 7) hx hb hts (by decide +kernel) hown hK.1 hP 2 rfl rfl 6 (by decide) (hts (.fieldLink RX1 31 "ChooseTree$Methods" "kind" "[I") (by decide +kernel)) (fun _ h9 => h9) rfl dX1_append_58 ?_
    refine lv_iload hx hb dX1_append_61 (lv_at hl 0 rfl) ?_
    refine lv_iload hx hb dX1_append_63 (lv_at hl 5 rfl) ?_
    refine na_iast (D := D) hx hb hK.1 hP hD hS 15 12 rfl rfl (i := (cs_m σ)) (x := zx4) (by omega) (by decide) dX1_append_65 (fun H locs hP hD hS => ?_)
    replace hP : va_P D vwCl (cw a k (cs_mk (cs_n σ) (cs_par σ) (cs_pack σ) (cs_face σ) (cs_abv σ) (cs_fam σ) (cs_fst σ) (cs_fls σ) (cs_own σ) (cs_opt σ) (cs_m σ) (va_up (cs_ow σ) (cs_m σ) zn1) (upd (cs_nm σ) (cs_m σ) zx2) (va_up (cs_fi σ) zn1 (cs_m σ)) (va_up (cs_am σ) zn1 (((cs_am σ) zn1) + 1)) (upd (cs_si σ) (cs_m σ) zx3) (upd (cs_ki σ) (cs_m σ) zx4))) H := hP
    replace hD : va_D (ca a) (cw a k (cs_mk (cs_n σ) (cs_par σ) (cs_pack σ) (cs_face σ) (cs_abv σ) (cs_fam σ) (cs_fst σ) (cs_fls σ) (cs_own σ) (cs_opt σ) (cs_m σ) (va_up (cs_ow σ) (cs_m σ) zn1) (upd (cs_nm σ) (cs_m σ) zx2) (va_up (cs_fi σ) zn1 (cs_m σ)) (va_up (cs_am σ) zn1 (((cs_am σ) zn1) + 1)) (upd (cs_si σ) (cs_m σ) zx3) (upd (cs_ki σ) (cs_m σ) zx4))) := cw_D hinj
    refine lv_aload_n hx hb dX1_append_66 rfl (lv_at hl 1 rfl) ?_
    refine lv_dup hx hb dX1_append_67 rfl ?_
    refine va_get (D := D) (ci := 2) (v := .int (nI (cs_m σ))) (C := RX1) (T := TX1) (N := 7) hx hb hts (by decide +kernel) hown hK.1 hP 2 rfl rfl 0 (by decide) (hts (.fieldLink RX1 9 "ChooseTree$Methods" "count" "I") (by decide +kernel)) (fun _ h9 => h9) rfl dX1_append_68 ?_
    refine lv_iconst (v := (nI 1)) hx hb dX1_append_71 (by decide) ?_
    refine lv_iaddN hx hb dX1_append_72 ?_
    refine va_put (D := D) (ci := 2) (v := .int (nI ((cs_m σ) + 1))) (ty := .int) (C := RX1) (T := TX1) (N := 7) hx hb hts (by decide +kernel) tyX1 tyX1_ok nmX1 hown hK.1 hP hD hS 2 rfl rfl 0 (by decide) (hts (.fieldLink RX1 9 "ChooseTree$Methods" "count" "I") (by decide +kernel)) (fun _ h9 => h9) rfl (by decide +kernel) rfl rfl (Nat.le_of_ble_eq_true rfl) dX1_append_73 (fun H locs hP hD hS => ?_)
    replace hP : va_P D vwCl (cw a k (cs_mk (cs_n σ) (cs_par σ) (cs_pack σ) (cs_face σ) (cs_abv σ) (cs_fam σ) (cs_fst σ) (cs_fls σ) (cs_own σ) (cs_opt σ) ((cs_m σ) + 1) (va_up (cs_ow σ) (cs_m σ) zn1) (upd (cs_nm σ) (cs_m σ) zx2) (va_up (cs_fi σ) zn1 (cs_m σ)) (va_up (cs_am σ) zn1 (((cs_am σ) zn1) + 1)) (upd (cs_si σ) (cs_m σ) zx3) (upd (cs_ki σ) (cs_m σ) zx4))) H := hP
    replace hD : va_D (ca a) (cw a k (cs_mk (cs_n σ) (cs_par σ) (cs_pack σ) (cs_face σ) (cs_abv σ) (cs_fam σ) (cs_fst σ) (cs_fls σ) (cs_own σ) (cs_opt σ) ((cs_m σ) + 1) (va_up (cs_ow σ) (cs_m σ) zn1) (upd (cs_nm σ) (cs_m σ) zx2) (va_up (cs_fi σ) zn1 (cs_m σ)) (va_up (cs_am σ) zn1 (((cs_am σ) zn1) + 1)) (upd (cs_si σ) (cs_m σ) zx3) (upd (cs_ki σ) (cs_m σ) zx4))) := cw_D hinj
    refine lv_iload hx hb dX1_append_76 (lv_at hl 0 rfl) ?_
    exact W.iret (v := (nI (cs_m σ))) hx hb hr (fun t ht hW => ⟨⟨(nI (cs_m σ)), (), rfl, rfl, show va_P D vwCl (cw a k _) t.heap from (by rw [ht]; exact (by rw [e]; exact hP))⟩, hS.F ht⟩) hS.2.2 dX1_append_78
set_option maxHeartbeats 4000000 in
set_option maxRecDepth 100000 in
theorem c_X0_append (l : Launch) (D : va_G) (a : Nat → Nat) (k : Nat → ClassId) (σ : CS) (hinj : cInj a) (hok : cok σ) (zn1 : Nat) (hn1 : zn1 < 60) (hn6 : cs_n σ < 60) (zx2 : Int32) (zb3 : Bool) : Met l yX0_append wsX0_append (rmC 3 69) (cP D a k σ [.ref (a 1), .int (nI zn1), .int zx2, .int (bI zb3)]) (wrI D a k (nI (cs_n σ)) (s_append σ zn1 zx2 zb3)) 0 0 (ca a) := by
  refine Met.ofW (cc := cX0_append) (maxL := 5) (ret := (some .int)) (by decide) rfl ?_
  intro p e s m args below meth c s₁ B hml hv
  obtain ⟨rfl, hP, hK⟩ := hv
  have hx := B.exec
  have hb := B.bytes
  have hr := B.returns
  have hts := atoms_spec (ws := wsX0_append) B.pre
  have hown : s.vm.findClass RX0 = some m.cls := findClass_of_methodNamed B.named
  have hlocks := B.notSynchronized
  clear B
  have hl := lv_entry ([.ref (a 1), .int (nI zn1), .int zx2, .int (bI zb3)]) (n := 5) (Nat.le_of_ble_eq_true rfl)
  rw [lg_entry_eq]
  generalize (lg_sl ([.ref (a 1), .int (nI zn1), .int zx2, .int (bI zb3)]) ++ List.replicate (5 - (lg_sl ([.ref (a 1), .int (nI zn1), .int zx2, .int (bI zb3)])).length) Slot.unset).toArray = ls at hl ⊢
  replace hl : lv_has ls 5 [(0, .ref (a 1)), (1, .int (nI zn1)), (2, .int zx2), (3, .int (bI zb3))] := hl
  refine gen_start (A := (ca a)) (fun H locs hP hS => ?_) hP
  have hD : va_D (ca a) (cw a k σ) := cw_D hinj
  obtain ⟨hb0, hb1, hb7, hb8⟩ := id hok
  refine lv_aload_n hx hb dX0_append_0 rfl (lv_at hl 0 rfl) ?_
  refine va_get (D := D) (ci := 1) (v := .int (nI (cs_n σ))) (C := RX0) (T := TX0) (N := 10) hx hb hts (by decide +kernel) hown hK.1 hP 1 rfl rfl 0 (by decide) (hts (.fieldLink RX0 9 "ChooseTree$Classes" "count" "I") (by decide +kernel)) (fun _ h9 => h9) rfl dX0_append_1 ?_
  refine lv_istore (lv' := [(4, .int (nI (cs_n σ))), (0, .ref (a 1)), (1, .int (nI zn1)), (2, .int zx2), (3, .int (bI zb3))]) hx hb dX0_append_4 hl (by decide) rfl (fun ls hl => ?_)
  refine lv_aload_n hx hb dX0_append_6 rfl (lv_at hl 1 rfl) ?_
  refine va_get (D := D) (ci := 1) (v := .ref (a 8)) (C := RX0) (T := TX0) (N := 10) hx hb hts (by decide +kernel) hown hK.1 hP 1 rfl rfl 6 (by decide) (hts (.fieldLink RX0 33 "ChooseTree$Classes" "faceStart" "[I") (by decide +kernel)) (fun _ h9 => h9) rfl dX0_append_7 ?_
  refine lv_iload hx hb dX0_append_10 (lv_at hl 0 rfl) ?_
  refine lv_aload_n hx hb dX0_append_12 rfl (lv_at hl 1 rfl) ?_
  refine va_get (D := D) (ci := 1) (v := .ref (a 8)) (C := RX0) (T := TX0) (N := 10) hx hb hts (by decide +kernel) hown hK.1 hP 1 rfl rfl 6 (by decide) (hts (.fieldLink RX0 33 "ChooseTree$Classes" "faceStart" "[I") (by decide +kernel)) (fun _ h9 => h9) rfl dX0_append_13 ?_
  refine lv_iload hx hb dX0_append_16 (lv_at hl 0 rfl) ?_
  refine lv_iconst (v := (nI 1)) hx hb dX0_append_18 (by decide) ?_
  refine lv_isubN hx hb dX0_append_19 (by omega) ?_
  refine na_iald (D := D) hx hb hK.1 hP 8 5 rfl rfl (i := ((cs_n σ) - 1)) (by omega) (by decide) dX0_append_20 ?_
  refine lv_aload_n hx hb dX0_append_21 rfl (lv_at hl 1 rfl) ?_
  refine va_get (D := D) (ci := 1) (v := .ref (a 7)) (C := RX0) (T := TX0) (N := 10) hx hb hts (by decide +kernel) hown hK.1 hP 1 rfl rfl 5 (by decide) (hts (.fieldLink RX0 30 "ChooseTree$Classes" "faceAmount" "[I") (by decide +kernel)) (fun _ h9 => h9) rfl dX0_append_22 ?_
  refine lv_iload hx hb dX0_append_25 (lv_at hl 0 rfl) ?_
  refine lv_iconst (v := (nI 1)) hx hb dX0_append_27 (by decide) ?_
  refine lv_isubN hx hb dX0_append_28 (by omega) ?_
  refine na_iald (D := D) hx hb hK.1 hP 7 4 rfl rfl (i := ((cs_n σ) - 1)) (by omega) (by decide) dX0_append_29 ?_
  refine lv_iaddN hx hb dX0_append_30 ?_
  refine na_iastN (D := D) hx hb hK.1 hP hD hS 8 5 rfl rfl (i := (cs_n σ)) (v := (((cs_fst σ) ((cs_n σ) - 1)) + ((cs_fam σ) ((cs_n σ) - 1)))) (by omega) (by decide) dX0_append_31 (fun H locs hP hD hS => ?_)
  replace hP : va_P D vwCl (cw a k (cs_mk (cs_n σ) (cs_par σ) (cs_pack σ) (cs_face σ) (cs_abv σ) (cs_fam σ) (va_up (cs_fst σ) (cs_n σ) (((cs_fst σ) ((cs_n σ) - 1)) + ((cs_fam σ) ((cs_n σ) - 1)))) (cs_fls σ) (cs_own σ) (cs_opt σ) (cs_m σ) (cs_ow σ) (cs_nm σ) (cs_fi σ) (cs_am σ) (cs_si σ) (cs_ki σ))) H := hP
  replace hD : va_D (ca a) (cw a k (cs_mk (cs_n σ) (cs_par σ) (cs_pack σ) (cs_face σ) (cs_abv σ) (cs_fam σ) (va_up (cs_fst σ) (cs_n σ) (((cs_fst σ) ((cs_n σ) - 1)) + ((cs_fam σ) ((cs_n σ) - 1)))) (cs_fls σ) (cs_own σ) (cs_opt σ) (cs_m σ) (cs_ow σ) (cs_nm σ) (cs_fi σ) (cs_am σ) (cs_si σ) (cs_ki σ))) := cw_D hinj
  refine lv_aload_n hx hb dX0_append_32 rfl (lv_at hl 1 rfl) ?_
  refine va_get (D := D) (ci := 1) (v := .ref (a 3)) (C := RX0) (T := TX0) (N := 10) hx hb hts (by decide +kernel) hown hK.1 hP 1 rfl rfl 1 (by decide) (hts (.fieldLink RX0 15 "ChooseTree$Classes" "parent" "[I") (by decide +kernel)) (fun _ h9 => h9) rfl dX0_append_33 ?_
  refine lv_iload hx hb dX0_append_36 (lv_at hl 0 rfl) ?_
  refine lv_iload_n hx hb dX0_append_38 rfl (lv_at hl 2 rfl) ?_
  refine na_iastN (D := D) hx hb hK.1 hP hD hS 3 0 rfl rfl (i := (cs_n σ)) (v := zn1) (by omega) (by decide) dX0_append_39 (fun H locs hP hD hS => ?_)
  replace hP : va_P D vwCl (cw a k (cs_mk (cs_n σ) (va_up (cs_par σ) (cs_n σ) zn1) (cs_pack σ) (cs_face σ) (cs_abv σ) (cs_fam σ) (va_up (cs_fst σ) (cs_n σ) (((cs_fst σ) ((cs_n σ) - 1)) + ((cs_fam σ) ((cs_n σ) - 1)))) (cs_fls σ) (cs_own σ) (cs_opt σ) (cs_m σ) (cs_ow σ) (cs_nm σ) (cs_fi σ) (cs_am σ) (cs_si σ) (cs_ki σ))) H := hP
  replace hD : va_D (ca a) (cw a k (cs_mk (cs_n σ) (va_up (cs_par σ) (cs_n σ) zn1) (cs_pack σ) (cs_face σ) (cs_abv σ) (cs_fam σ) (va_up (cs_fst σ) (cs_n σ) (((cs_fst σ) ((cs_n σ) - 1)) + ((cs_fam σ) ((cs_n σ) - 1)))) (cs_fls σ) (cs_own σ) (cs_opt σ) (cs_m σ) (cs_ow σ) (cs_nm σ) (cs_fi σ) (cs_am σ) (cs_si σ) (cs_ki σ))) := cw_D hinj
  refine lv_aload_n hx hb dX0_append_40 rfl (lv_at hl 1 rfl) ?_
  refine va_get (D := D) (ci := 1) (v := .ref (a 4)) (C := RX0) (T := TX0) (N := 10) hx hb hts (by decide +kernel) hown hK.1 hP 1 rfl rfl 2 (by decide) (hts (.fieldLink RX0 19 "ChooseTree$Classes" "pack" "[I") (by decide +kernel)) (fun _ h9 => h9) rfl dX0_append_41 ?_
  refine lv_iload hx hb dX0_append_44 (lv_at hl 0 rfl) ?_
  refine lv_iload_n hx hb dX0_append_46 rfl (lv_at hl 3 rfl) ?_
  refine na_iast (D := D) hx hb hK.1 hP hD hS 4 1 rfl rfl (i := (cs_n σ)) (x := zx2) (by omega) (by decide) dX0_append_47 (fun H locs hP hD hS => ?_)
  replace hP : va_P D vwCl (cw a k (cs_mk (cs_n σ) (va_up (cs_par σ) (cs_n σ) zn1) (upd (cs_pack σ) (cs_n σ) zx2) (cs_face σ) (cs_abv σ) (cs_fam σ) (va_up (cs_fst σ) (cs_n σ) (((cs_fst σ) ((cs_n σ) - 1)) + ((cs_fam σ) ((cs_n σ) - 1)))) (cs_fls σ) (cs_own σ) (cs_opt σ) (cs_m σ) (cs_ow σ) (cs_nm σ) (cs_fi σ) (cs_am σ) (cs_si σ) (cs_ki σ))) H := hP
  replace hD : va_D (ca a) (cw a k (cs_mk (cs_n σ) (va_up (cs_par σ) (cs_n σ) zn1) (upd (cs_pack σ) (cs_n σ) zx2) (cs_face σ) (cs_abv σ) (cs_fam σ) (va_up (cs_fst σ) (cs_n σ) (((cs_fst σ) ((cs_n σ) - 1)) + ((cs_fam σ) ((cs_n σ) - 1)))) (cs_fls σ) (cs_own σ) (cs_opt σ) (cs_m σ) (cs_ow σ) (cs_nm σ) (cs_fi σ) (cs_am σ) (cs_si σ) (cs_ki σ))) := cw_D hinj
  refine lv_aload_n hx hb dX0_append_48 rfl (lv_at hl 1 rfl) ?_
  refine va_get (D := D) (ci := 1) (v := .ref (a 5)) (C := RX0) (T := TX0) (N := 10) hx hb hts (by decide +kernel) hown hK.1 hP 1 rfl rfl 3 (by decide) (hts (.fieldLink RX0 22 "ChooseTree$Classes" "face" "[Z") (by decide +kernel)) (fun _ h9 => h9) rfl dX0_append_49 ?_
  refine lv_iload hx hb dX0_append_52 (lv_at hl 0 rfl) ?_
  refine lv_iload_n hx hb dX0_append_54 rfl (lv_at hl 4 rfl) ?_
  refine na_zast (D := D) hx hb hK.1 hP hD hS 5 2 rfl rfl (i := (cs_n σ)) (x := (bI zb3)) (by omega) (by decide) (bI_vnar _) dX0_append_55 (fun H locs hP hD hS => ?_)
  replace hP : va_P D vwCl (cw a k (cs_mk (cs_n σ) (va_up (cs_par σ) (cs_n σ) zn1) (upd (cs_pack σ) (cs_n σ) zx2) (upd (cs_face σ) (cs_n σ) (bI zb3)) (cs_abv σ) (cs_fam σ) (va_up (cs_fst σ) (cs_n σ) (((cs_fst σ) ((cs_n σ) - 1)) + ((cs_fam σ) ((cs_n σ) - 1)))) (cs_fls σ) (cs_own σ) (cs_opt σ) (cs_m σ) (cs_ow σ) (cs_nm σ) (cs_fi σ) (cs_am σ) (cs_si σ) (cs_ki σ))) H := hP
  replace hD : va_D (ca a) (cw a k (cs_mk (cs_n σ) (va_up (cs_par σ) (cs_n σ) zn1) (upd (cs_pack σ) (cs_n σ) zx2) (upd (cs_face σ) (cs_n σ) (bI zb3)) (cs_abv σ) (cs_fam σ) (va_up (cs_fst σ) (cs_n σ) (((cs_fst σ) ((cs_n σ) - 1)) + ((cs_fam σ) ((cs_n σ) - 1)))) (cs_fls σ) (cs_own σ) (cs_opt σ) (cs_m σ) (cs_ow σ) (cs_nm σ) (cs_fi σ) (cs_am σ) (cs_si σ) (cs_ki σ))) := cw_D hinj
  refine lv_aload_n hx hb dX0_append_56 rfl (lv_at hl 1 rfl) ?_
  refine va_get (D := D) (ci := 1) (v := .ref (a 6)) (C := RX0) (T := TX0) (N := 10) hx hb hts (by decide +kernel) hown hK.1 hP 1 rfl rfl 4 (by decide) (hts (.fieldLink RX0 26 "ChooseTree$Classes" "above" "[J") (by decide +kernel)) (fun _ h9 => h9) rfl dX0_append_57 ?_
  refine lv_iload hx hb dX0_append_60 (lv_at hl 0 rfl) ?_
  refine lv_aload_n hx hb dX0_append_62 rfl (lv_at hl 1 rfl) ?_
  refine va_get (D := D) (ci := 1) (v := .ref (a 6)) (C := RX0) (T := TX0) (N := 10) hx hb hts (by decide +kernel) hown hK.1 hP 1 rfl rfl 4 (by decide) (hts (.fieldLink RX0 26 "ChooseTree$Classes" "above" "[J") (by decide +kernel)) (fun _ h9 => h9) rfl dX0_append_63 ?_
  refine lv_iload_n hx hb dX0_append_66 rfl (lv_at hl 2 rfl) ?_
  refine na_lald (D := D) hx hb hK.1 hP 6 3 rfl rfl (i := zn1) (by omega) (by decide) dX0_append_67 ?_
  refine lv_lconst (v := 1) hx hb dX0_append_68 (by decide) ?_
  refine lv_iload_n hx hb dX0_append_69 rfl (lv_at hl 2 rfl) ?_
  refine lv_lshl (v := (shlL (1 : Int64) (nI zn1))) hx hb dX0_append_70 rfl ?_
  refine lv_lor hx hb dX0_append_71 ?_
  refine na_last (D := D) hx hb hK.1 hP hD hS 6 3 rfl rfl (i := (cs_n σ)) (by omega) (by decide) dX0_append_72 (fun H locs hP hD hS => ?_)
  replace hP : va_P D vwCl (cw a k (cs_mk (cs_n σ) (va_up (cs_par σ) (cs_n σ) zn1) (upd (cs_pack σ) (cs_n σ) zx2) (upd (cs_face σ) (cs_n σ) (bI zb3)) (vp_updL (cs_abv σ) (cs_n σ) (((cs_abv σ) zn1) ||| (shlL (1 : Int64) (nI zn1)))) (cs_fam σ) (va_up (cs_fst σ) (cs_n σ) (((cs_fst σ) ((cs_n σ) - 1)) + ((cs_fam σ) ((cs_n σ) - 1)))) (cs_fls σ) (cs_own σ) (cs_opt σ) (cs_m σ) (cs_ow σ) (cs_nm σ) (cs_fi σ) (cs_am σ) (cs_si σ) (cs_ki σ))) H := hP
  replace hD : va_D (ca a) (cw a k (cs_mk (cs_n σ) (va_up (cs_par σ) (cs_n σ) zn1) (upd (cs_pack σ) (cs_n σ) zx2) (upd (cs_face σ) (cs_n σ) (bI zb3)) (vp_updL (cs_abv σ) (cs_n σ) (((cs_abv σ) zn1) ||| (shlL (1 : Int64) (nI zn1)))) (cs_fam σ) (va_up (cs_fst σ) (cs_n σ) (((cs_fst σ) ((cs_n σ) - 1)) + ((cs_fam σ) ((cs_n σ) - 1)))) (cs_fls σ) (cs_own σ) (cs_opt σ) (cs_m σ) (cs_ow σ) (cs_nm σ) (cs_fi σ) (cs_am σ) (cs_si σ) (cs_ki σ))) := cw_D hinj
  refine lv_aload_n hx hb dX0_append_73 rfl (lv_at hl 1 rfl) ?_
  refine lv_lconst (v := 0) hx hb dX0_append_74 (by decide) ?_
  refine va_put (D := D) (ci := 1) (v := .long (0 : Int64)) (ty := .long) (C := RX0) (T := TX0) (N := 10) hx hb hts (by decide +kernel) tyX0 tyX0_ok nmX0 hown hK.1 hP hD hS 1 rfl rfl 8 (by decide) (hts (.fieldLink RX0 39 "ChooseTree$Classes" "ownFaces" "J") (by decide +kernel)) (fun _ h9 => h9) rfl (by decide +kernel) rfl rfl (Nat.le_of_ble_eq_true rfl) dX0_append_75 (fun H locs hP hD hS => ?_)
  replace hP : va_P D vwCl (cw a k (cs_mk (cs_n σ) (va_up (cs_par σ) (cs_n σ) zn1) (upd (cs_pack σ) (cs_n σ) zx2) (upd (cs_face σ) (cs_n σ) (bI zb3)) (vp_updL (cs_abv σ) (cs_n σ) (((cs_abv σ) zn1) ||| (shlL (1 : Int64) (nI zn1)))) (cs_fam σ) (va_up (cs_fst σ) (cs_n σ) (((cs_fst σ) ((cs_n σ) - 1)) + ((cs_fam σ) ((cs_n σ) - 1)))) (cs_fls σ) (0 : Int64) (cs_opt σ) (cs_m σ) (cs_ow σ) (cs_nm σ) (cs_fi σ) (cs_am σ) (cs_si σ) (cs_ki σ))) H := hP
  replace hD : va_D (ca a) (cw a k (cs_mk (cs_n σ) (va_up (cs_par σ) (cs_n σ) zn1) (upd (cs_pack σ) (cs_n σ) zx2) (upd (cs_face σ) (cs_n σ) (bI zb3)) (vp_updL (cs_abv σ) (cs_n σ) (((cs_abv σ) zn1) ||| (shlL (1 : Int64) (nI zn1)))) (cs_fam σ) (va_up (cs_fst σ) (cs_n σ) (((cs_fst σ) ((cs_n σ) - 1)) + ((cs_fam σ) ((cs_n σ) - 1)))) (cs_fls σ) (0 : Int64) (cs_opt σ) (cs_m σ) (cs_ow σ) (cs_nm σ) (cs_fi σ) (cs_am σ) (cs_si σ) (cs_ki σ))) := cw_D hinj
  refine lv_aload_n hx hb dX0_append_78 rfl (lv_at hl 1 rfl) ?_
  refine lv_iconst (v := (nI 0)) hx hb dX0_append_79 (by decide) ?_
  refine va_put (D := D) (ci := 1) (v := .int (nI 0)) (ty := .int) (C := RX0) (T := TX0) (N := 10) hx hb hts (by decide +kernel) tyX0 tyX0_ok nmX0 hown hK.1 hP hD hS 1 rfl rfl 9 (by decide) (hts (.fieldLink RX0 43 "ChooseTree$Classes" "ownPart" "I") (by decide +kernel)) (fun _ h9 => h9) rfl (by decide +kernel) rfl rfl (Nat.le_of_ble_eq_true rfl) dX0_append_80 (fun H locs hP hD hS => ?_)
  replace hP : va_P D vwCl (cw a k (cs_mk (cs_n σ) (va_up (cs_par σ) (cs_n σ) zn1) (upd (cs_pack σ) (cs_n σ) zx2) (upd (cs_face σ) (cs_n σ) (bI zb3)) (vp_updL (cs_abv σ) (cs_n σ) (((cs_abv σ) zn1) ||| (shlL (1 : Int64) (nI zn1)))) (cs_fam σ) (va_up (cs_fst σ) (cs_n σ) (((cs_fst σ) ((cs_n σ) - 1)) + ((cs_fam σ) ((cs_n σ) - 1)))) (cs_fls σ) (0 : Int64) 0 (cs_m σ) (cs_ow σ) (cs_nm σ) (cs_fi σ) (cs_am σ) (cs_si σ) (cs_ki σ))) H := hP
  replace hD : va_D (ca a) (cw a k (cs_mk (cs_n σ) (va_up (cs_par σ) (cs_n σ) zn1) (upd (cs_pack σ) (cs_n σ) zx2) (upd (cs_face σ) (cs_n σ) (bI zb3)) (vp_updL (cs_abv σ) (cs_n σ) (((cs_abv σ) zn1) ||| (shlL (1 : Int64) (nI zn1)))) (cs_fam σ) (va_up (cs_fst σ) (cs_n σ) (((cs_fst σ) ((cs_n σ) - 1)) + ((cs_fam σ) ((cs_n σ) - 1)))) (cs_fls σ) (0 : Int64) 0 (cs_m σ) (cs_ow σ) (cs_nm σ) (cs_fi σ) (cs_am σ) (cs_si σ) (cs_ki σ))) := cw_D hinj
  replace hP : va_P D vwCl (cw a k (s_app0 σ zn1 zx2 zb3)) H := hP
  replace hD : va_D (ca a) (cw a k (s_app0 σ zn1 zx2 zb3)) := cw_D hinj
  refine lv_aload_n hx hb dX0_append_83 rfl (lv_at hl 1 rfl) ?_
  refine lv_iload hx hb dX0_append_84 (lv_at hl 0 rfl) ?_
  refine lv_iload_n hx hb dX0_append_86 rfl (lv_at hl 2 rfl) ?_
  refine va_callv (va_runV (As := [.int (nI (cs_n σ)), .int (nI zn1)]) (rest := []) ⟨hx, hb, hml, hown, hts⟩ (c_X0_listFacesOf l D a k (s_app0 σ zn1 zx2 zb3) hinj (s_app0_bok hok hn1 hn6 zx2 zb3) (cs_n σ) zn1 hn6 hn1) (cwV 2 hts gX0_append_X0_listFacesOf rfl rfl rfl (by decide +kernel) ⟨Nat.le_of_ble_eq_true rfl, Nat.le_of_ble_eq_true rfl⟩) (cP_V hK hP 1 1 rfl rfl) rfl rfl hl.1 rfl (lv_room (Nat.le_of_ble_eq_true rfl)) dX0_append_87 ⟨Nat.le_of_ble_eq_true rfl, Nat.le_of_ble_eq_true rfl⟩) hS (fun _ _ h => h) (fun _ h => h) (fun u t H1 locs ht hvm hw hB hz1 hk1 hS => ?_)
  replace hB : va_P D vwCl (cw a k (s_listFacesOf (s_app0 σ zn1 zx2 zb3) (cs_n σ) zn1)) t.heap := hB
  rw [ht] at hB
  clear hk1 hz1 hvm ht hP hD hw
  have hP := hB
  clear hB
  have hP : va_P D vwCl (cw a k (s_listFacesOf (s_app0 σ zn1 zx2 zb3) (cs_n σ) zn1)) H1 := hP
  have hD : va_D (ca a) (cw a k (s_listFacesOf (s_app0 σ zn1 zx2 zb3) (cs_n σ) zn1)) := cw_D hinj
  generalize H1 = H at hP hS ⊢
  refine lv_aload_n hx hb dX0_append_90 rfl (lv_at hl 1 rfl) ?_
  refine lv_dup hx hb dX0_append_91 rfl ?_
  refine va_get (D := D) (ci := 1) (v := .int (nI (cs_n (s_listFacesOf (s_app0 σ zn1 zx2 zb3) (cs_n σ) zn1)))) (C := RX0) (T := TX0) (N := 10) hx hb hts (by decide +kernel) hown hK.1 hP 1 rfl rfl 0 (by decide) (hts (.fieldLink RX0 9 "ChooseTree$Classes" "count" "I") (by decide +kernel)) (fun _ h9 => h9) rfl dX0_append_92 ?_
  refine lv_iconst (v := (nI 1)) hx hb dX0_append_95 (by decide) ?_
  refine lv_iaddN hx hb dX0_append_96 ?_
  refine va_put (D := D) (ci := 1) (v := .int (nI ((cs_n (s_listFacesOf (s_app0 σ zn1 zx2 zb3) (cs_n σ) zn1)) + 1))) (ty := .int) (C := RX0) (T := TX0) (N := 10) hx hb hts (by decide +kernel) tyX0 tyX0_ok nmX0 hown hK.1 hP hD hS 1 rfl rfl 0 (by decide) (hts (.fieldLink RX0 9 "ChooseTree$Classes" "count" "I") (by decide +kernel)) (fun _ h9 => h9) rfl (by decide +kernel) rfl rfl (Nat.le_of_ble_eq_true rfl) dX0_append_97 (fun H locs hP hD hS => ?_)
  replace hP : va_P D vwCl (cw a k (cs_mk ((cs_n (s_listFacesOf (s_app0 σ zn1 zx2 zb3) (cs_n σ) zn1)) + 1) (cs_par (s_listFacesOf (s_app0 σ zn1 zx2 zb3) (cs_n σ) zn1)) (cs_pack (s_listFacesOf (s_app0 σ zn1 zx2 zb3) (cs_n σ) zn1)) (cs_face (s_listFacesOf (s_app0 σ zn1 zx2 zb3) (cs_n σ) zn1)) (cs_abv (s_listFacesOf (s_app0 σ zn1 zx2 zb3) (cs_n σ) zn1)) (cs_fam (s_listFacesOf (s_app0 σ zn1 zx2 zb3) (cs_n σ) zn1)) (cs_fst (s_listFacesOf (s_app0 σ zn1 zx2 zb3) (cs_n σ) zn1)) (cs_fls (s_listFacesOf (s_app0 σ zn1 zx2 zb3) (cs_n σ) zn1)) (cs_own (s_listFacesOf (s_app0 σ zn1 zx2 zb3) (cs_n σ) zn1)) (cs_opt (s_listFacesOf (s_app0 σ zn1 zx2 zb3) (cs_n σ) zn1)) (cs_m (s_listFacesOf (s_app0 σ zn1 zx2 zb3) (cs_n σ) zn1)) (cs_ow (s_listFacesOf (s_app0 σ zn1 zx2 zb3) (cs_n σ) zn1)) (cs_nm (s_listFacesOf (s_app0 σ zn1 zx2 zb3) (cs_n σ) zn1)) (cs_fi (s_listFacesOf (s_app0 σ zn1 zx2 zb3) (cs_n σ) zn1)) (cs_am (s_listFacesOf (s_app0 σ zn1 zx2 zb3) (cs_n σ) zn1)) (cs_si (s_listFacesOf (s_app0 σ zn1 zx2 zb3) (cs_n σ) zn1)) (cs_ki (s_listFacesOf (s_app0 σ zn1 zx2 zb3) (cs_n σ) zn1)))) H := hP
  replace hD : va_D (ca a) (cw a k (cs_mk ((cs_n (s_listFacesOf (s_app0 σ zn1 zx2 zb3) (cs_n σ) zn1)) + 1) (cs_par (s_listFacesOf (s_app0 σ zn1 zx2 zb3) (cs_n σ) zn1)) (cs_pack (s_listFacesOf (s_app0 σ zn1 zx2 zb3) (cs_n σ) zn1)) (cs_face (s_listFacesOf (s_app0 σ zn1 zx2 zb3) (cs_n σ) zn1)) (cs_abv (s_listFacesOf (s_app0 σ zn1 zx2 zb3) (cs_n σ) zn1)) (cs_fam (s_listFacesOf (s_app0 σ zn1 zx2 zb3) (cs_n σ) zn1)) (cs_fst (s_listFacesOf (s_app0 σ zn1 zx2 zb3) (cs_n σ) zn1)) (cs_fls (s_listFacesOf (s_app0 σ zn1 zx2 zb3) (cs_n σ) zn1)) (cs_own (s_listFacesOf (s_app0 σ zn1 zx2 zb3) (cs_n σ) zn1)) (cs_opt (s_listFacesOf (s_app0 σ zn1 zx2 zb3) (cs_n σ) zn1)) (cs_m (s_listFacesOf (s_app0 σ zn1 zx2 zb3) (cs_n σ) zn1)) (cs_ow (s_listFacesOf (s_app0 σ zn1 zx2 zb3) (cs_n σ) zn1)) (cs_nm (s_listFacesOf (s_app0 σ zn1 zx2 zb3) (cs_n σ) zn1)) (cs_fi (s_listFacesOf (s_app0 σ zn1 zx2 zb3) (cs_n σ) zn1)) (cs_am (s_listFacesOf (s_app0 σ zn1 zx2 zb3) (cs_n σ) zn1)) (cs_si (s_listFacesOf (s_app0 σ zn1 zx2 zb3) (cs_n σ) zn1)) (cs_ki (s_listFacesOf (s_app0 σ zn1 zx2 zb3) (cs_n σ) zn1)))) := cw_D hinj
  refine lv_iload hx hb dX0_append_100 (lv_at hl 0 rfl) ?_
  exact W.iret (v := (nI (cs_n σ))) hx hb hr (fun t ht hW => ⟨⟨(nI (cs_n σ)), (), rfl, rfl, show va_P D vwCl (cw a k _) t.heap from (by rw [ht]; exact hP)⟩, hS.F ht⟩) hS.2.2 dX0_append_102
set_option maxHeartbeats 4000000 in
set_option maxRecDepth 100000 in
theorem c_J13_bitCount_95d88 (l : Launch) (D : va_G) (a : Nat → Nat) (k : Nat → ClassId) (σ : CS) (zw1 : Int64) : Met l yJ13_bitCount_95d88 wsJ13_bitCount_95d88 (rmC 0 0) (cP D a k σ [.long zw1]) (roQ (j_bits zw1)) 0 0 (fun _ => False) := by
  refine Met.ofW (cc := cJ13_bitCount_95d88) (maxL := 2) (ret := (some .int)) (by decide) rfl ?_
  intro p e s m args below meth c s₁ B hml hv
  obtain ⟨rfl, hP, hK⟩ := hv
  have hx := B.exec
  have hb := B.bytes
  have hr := B.returns
  have hts := atoms_spec (ws := wsJ13_bitCount_95d88) B.pre
  have hown : s.vm.findClass RJ13 = some m.cls := findClass_of_methodNamed B.named
  have hlocks := B.notSynchronized
  clear B
  have hl := lv_entry ([.long zw1]) (n := 2) (Nat.le_of_ble_eq_true rfl)
  rw [lg_entry_eq]
  generalize (lg_sl ([.long zw1]) ++ List.replicate (2 - (lg_sl ([.long zw1])).length) Slot.unset).toArray = ls at hl ⊢
  replace hl : lv_has ls 2 [(0, .long zw1)] := hl
  refine gen_start (A := (fun _ => False)) (fun H locs hP hS => ?_) hP
  refine lv_lload_n hx hb dJ13_bitCount_95d88_0 rfl (lv_at hl 0 rfl) ?_
  refine lv_lload_n hx hb dJ13_bitCount_95d88_1 rfl (lv_at hl 0 rfl) ?_
  refine lv_iconst (v := (nI 1)) hx hb dJ13_bitCount_95d88_2 (by decide) ?_
  refine lv_lushr (v := (ushL zw1 (nI 1))) hx hb dJ13_bitCount_95d88_3 rfl ?_
  refine lv_ldc2 (v := (6148914691236517205)) hx hb hown (hts (.constantLong RJ13 314 (6148914691236517205)) (by decide +kernel)) dJ13_bitCount_95d88_4 ?_
  refine lv_land hx hb dJ13_bitCount_95d88_7 ?_
  refine lv_lsub hx hb dJ13_bitCount_95d88_8 ?_
  refine lv_topl (fun y1 ey1 => ?_)
  replace ey1 : y1 = (bc1 zw1) := ey1
  refine lv_lstore_n (lv' := [(0, .long y1)]) hx hb dJ13_bitCount_95d88_9 rfl hl (by decide) rfl (fun ls hl => ?_)
  refine lv_lload_n hx hb dJ13_bitCount_95d88_10 rfl (lv_at hl 0 rfl) ?_
  refine lv_ldc2 (v := (3689348814741910323)) hx hb hown (hts (.constantLong RJ13 316 (3689348814741910323)) (by decide +kernel)) dJ13_bitCount_95d88_11 ?_
  refine lv_land hx hb dJ13_bitCount_95d88_14 ?_
  refine lv_lload_n hx hb dJ13_bitCount_95d88_15 rfl (lv_at hl 0 rfl) ?_
  refine lv_iconst (v := (nI 2)) hx hb dJ13_bitCount_95d88_16 (by decide) ?_
  refine lv_lushr (v := (ushL y1 (nI 2))) hx hb dJ13_bitCount_95d88_17 rfl ?_
  refine lv_ldc2 (v := (3689348814741910323)) hx hb hown (hts (.constantLong RJ13 316 (3689348814741910323)) (by decide +kernel)) dJ13_bitCount_95d88_18 ?_
  refine lv_land hx hb dJ13_bitCount_95d88_21 ?_
  refine lv_ladd hx hb dJ13_bitCount_95d88_22 ?_
  refine lv_topl (fun y2 ey2 => ?_)
  replace ey2 : y2 = (bc2 y1) := ey2
  refine lv_lstore_n (lv' := [(0, .long y2)]) hx hb dJ13_bitCount_95d88_23 rfl hl (by decide) rfl (fun ls hl => ?_)
  refine lv_lload_n hx hb dJ13_bitCount_95d88_24 rfl (lv_at hl 0 rfl) ?_
  refine lv_lload_n hx hb dJ13_bitCount_95d88_25 rfl (lv_at hl 0 rfl) ?_
  refine lv_iconst (v := (nI 4)) hx hb dJ13_bitCount_95d88_26 (by decide) ?_
  refine lv_lushr (v := (ushL y2 (nI 4))) hx hb dJ13_bitCount_95d88_27 rfl ?_
  refine lv_ladd hx hb dJ13_bitCount_95d88_28 ?_
  refine lv_ldc2 (v := (1085102592571150095)) hx hb hown (hts (.constantLong RJ13 318 (1085102592571150095)) (by decide +kernel)) dJ13_bitCount_95d88_29 ?_
  refine lv_land hx hb dJ13_bitCount_95d88_32 ?_
  refine lv_topl (fun y3 ey3 => ?_)
  replace ey3 : y3 = (bc3 y2) := ey3
  refine lv_lstore_n (lv' := [(0, .long y3)]) hx hb dJ13_bitCount_95d88_33 rfl hl (by decide) rfl (fun ls hl => ?_)
  refine lv_lload_n hx hb dJ13_bitCount_95d88_34 rfl (lv_at hl 0 rfl) ?_
  refine lv_lload_n hx hb dJ13_bitCount_95d88_35 rfl (lv_at hl 0 rfl) ?_
  refine lv_bipush (v := (nI 8)) hx hb dJ13_bitCount_95d88_36 (by decide) ?_
  refine lv_lushr (v := (ushL y3 (nI 8))) hx hb dJ13_bitCount_95d88_38 rfl ?_
  refine lv_ladd hx hb dJ13_bitCount_95d88_39 ?_
  refine lv_topl (fun y4 ey4 => ?_)
  replace ey4 : y4 = (bc4 y3) := ey4
  refine lv_lstore_n (lv' := [(0, .long y4)]) hx hb dJ13_bitCount_95d88_40 rfl hl (by decide) rfl (fun ls hl => ?_)
  refine lv_lload_n hx hb dJ13_bitCount_95d88_41 rfl (lv_at hl 0 rfl) ?_
  refine lv_lload_n hx hb dJ13_bitCount_95d88_42 rfl (lv_at hl 0 rfl) ?_
  refine lv_bipush (v := (nI 16)) hx hb dJ13_bitCount_95d88_43 (by decide) ?_
  refine lv_lushr (v := (ushL y4 (nI 16))) hx hb dJ13_bitCount_95d88_45 rfl ?_
  refine lv_ladd hx hb dJ13_bitCount_95d88_46 ?_
  refine lv_topl (fun y5 ey5 => ?_)
  replace ey5 : y5 = (bc5 y4) := ey5
  refine lv_lstore_n (lv' := [(0, .long y5)]) hx hb dJ13_bitCount_95d88_47 rfl hl (by decide) rfl (fun ls hl => ?_)
  refine lv_lload_n hx hb dJ13_bitCount_95d88_48 rfl (lv_at hl 0 rfl) ?_
  refine lv_lload_n hx hb dJ13_bitCount_95d88_49 rfl (lv_at hl 0 rfl) ?_
  refine lv_bipush (v := (nI 32)) hx hb dJ13_bitCount_95d88_50 (by decide) ?_
  refine lv_lushr (v := (ushL y5 (nI 32))) hx hb dJ13_bitCount_95d88_52 rfl ?_
  refine lv_ladd hx hb dJ13_bitCount_95d88_53 ?_
  refine lv_topl (fun y6 ey6 => ?_)
  replace ey6 : y6 = (bc6 y5) := ey6
  refine lv_lstore_n (lv' := [(0, .long y6)]) hx hb dJ13_bitCount_95d88_54 rfl hl (by decide) rfl (fun ls hl => ?_)
  refine lv_lload_n hx hb dJ13_bitCount_95d88_55 rfl (lv_at hl 0 rfl) ?_
  refine lv_l2i (v := (y6).toInt32) hx hb dJ13_bitCount_95d88_56 rfl ?_
  refine lv_bipush (v := (nI 127)) hx hb dJ13_bitCount_95d88_57 (by decide) ?_
  refine lv_iand hx hb dJ13_bitCount_95d88_59 ?_
  exact W.iret (v := ((y6).toInt32 &&& (nI 127))) hx hb hr (fun t ht hW => ⟨⟨((y6).toInt32 &&& (nI 127)), (), rfl, (by rw [ey6, ey5, ey4, ey3, ey2, ey1]; rfl), trivial⟩, hS.F ht⟩) hS.2.2 dJ13_bitCount_95d88_60
set_option maxHeartbeats 4000000 in
set_option maxRecDepth 100000 in
theorem c_X0_ownAmount (l : Launch) (D : va_G) (a : Nat → Nat) (k : Nat → ClassId) (σ : CS)  : Met l yX0_ownAmount wsX0_ownAmount (rmC 1 21) (cP D a k σ [.ref (a 1)]) (roQ (j_bits (cs_own σ))) 0 0 (fun _ => False) := by
  refine Met.ofW (cc := cX0_ownAmount) (maxL := 1) (ret := (some .int)) (by decide) rfl ?_
  intro p e s m args below meth c s₁ B hml hv
  obtain ⟨rfl, hP, hK⟩ := hv
  have hx := B.exec
  have hb := B.bytes
  have hr := B.returns
  have hts := atoms_spec (ws := wsX0_ownAmount) B.pre
  have hown : s.vm.findClass RX0 = some m.cls := findClass_of_methodNamed B.named
  have hlocks := B.notSynchronized
  clear B
  have hl := lv_entry ([.ref (a 1)]) (n := 1) (Nat.le_of_ble_eq_true rfl)
  rw [lg_entry_eq]
  generalize (lg_sl ([.ref (a 1)]) ++ List.replicate (1 - (lg_sl ([.ref (a 1)])).length) Slot.unset).toArray = ls at hl ⊢
  replace hl : lv_has ls 1 [(0, .ref (a 1))] := hl
  refine gen_start (A := (fun _ => False)) (fun H locs hP hS => ?_) hP
  refine lv_aload_n hx hb dX0_ownAmount_0 rfl (lv_at hl 0 rfl) ?_
  refine va_get (D := D) (ci := 1) (v := .long (cs_own σ)) (C := RX0) (T := TX0) (N := 10) hx hb hts (by decide +kernel) hown hK.1 hP 1 rfl rfl 8 (by decide) (hts (.fieldLink RX0 39 "ChooseTree$Classes" "ownFaces" "J") (by decide +kernel)) (fun _ h9 => h9) rfl dX0_ownAmount_1 ?_
  refine va_calli (va_runS (As := [.long (cs_own σ)]) (rest := []) ⟨hx, hb, hml, hown, hts⟩ (c_J13_bitCount_95d88 l D a k σ (cs_own σ)) (va_cwS 1 hts gX0_ownAmount_J13_bitCount_95d88 rfl rfl rfl (by decide +kernel) ⟨Nat.le_of_ble_eq_true rfl, Nat.le_of_ble_eq_true rfl⟩) (cP_S hK hP) rfl rfl hl.1 rfl (lv_room (Nat.le_of_ble_eq_true rfl)) dX0_ownAmount_4 ⟨Nat.le_of_ble_eq_true rfl, Nat.le_of_ble_eq_true rfl⟩) hS (fun _ _ h => h.elim) (fun _ h => h.elim) (fun r_1 u t H1 locs ht hvm hw hB hz1 hk1 hS => ?_)
  replace hP := ro_kept hP hk1
  obtain rfl : r_1 = _ := hw
  clear hk1 hz1 hvm ht hB
  generalize H1 = H at hP hS ⊢
  exact W.iret (v := (j_bits (cs_own σ))) hx hb hr (fun t ht hW => ⟨⟨(j_bits (cs_own σ)), (), rfl, rfl, trivial⟩, hS.F ht⟩) hS.2.2 dX0_ownAmount_7
set_option maxHeartbeats 4000000 in
set_option maxRecDepth 100000 in
theorem c_X0_latestImplements (l : Launch) (D : va_G) (a : Nat → Nat) (k : Nat → ClassId) (σ : CS) (zn1 : Nat) : Met l yX0_latestImplements wsX0_latestImplements (rmC 1 22) (cP D a k σ [.ref (a 1), .int (nI zn1)]) (roQ (bI (s_holds (cs_own σ) zn1))) 0 0 (fun _ => False) := by
  refine Met.ofW (cc := cX0_latestImplements) (maxL := 2) (ret := (some .boolean)) (by decide) rfl ?_
  intro p e s m args below meth c s₁ B hml hv
  obtain ⟨rfl, hP, hK⟩ := hv
  have hx := B.exec
  have hb := B.bytes
  have hr := B.returns
  have hts := atoms_spec (ws := wsX0_latestImplements) B.pre
  have hown : s.vm.findClass RX0 = some m.cls := findClass_of_methodNamed B.named
  have hlocks := B.notSynchronized
  clear B
  have hl := lv_entry ([.ref (a 1), .int (nI zn1)]) (n := 2) (Nat.le_of_ble_eq_true rfl)
  rw [lg_entry_eq]
  generalize (lg_sl ([.ref (a 1), .int (nI zn1)]) ++ List.replicate (2 - (lg_sl ([.ref (a 1), .int (nI zn1)])).length) Slot.unset).toArray = ls at hl ⊢
  replace hl : lv_has ls 2 [(0, .ref (a 1)), (1, .int (nI zn1))] := hl
  refine gen_start (A := (fun _ => False)) (fun H locs hP hS => ?_) hP
  refine lv_aload_n hx hb dX0_latestImplements_0 rfl (lv_at hl 0 rfl) ?_
  refine va_get (D := D) (ci := 1) (v := .long (cs_own σ)) (C := RX0) (T := TX0) (N := 10) hx hb hts (by decide +kernel) hown hK.1 hP 1 rfl rfl 8 (by decide) (hts (.fieldLink RX0 39 "ChooseTree$Classes" "ownFaces" "J") (by decide +kernel)) (fun _ h9 => h9) rfl dX0_latestImplements_1 ?_
  refine lv_iload_n hx hb dX0_latestImplements_4 rfl (lv_at hl 1 rfl) ?_
  refine va_calli (va_runSN (As := [.long (cs_own σ), .int (nI zn1)]) (rest := []) ⟨hx, hb, hml, hown, hts⟩ (c_X2_holds l D a k σ (cs_own σ) zn1) ⟨va_cnB 2 hts gX0_latestImplements_X2_holds_n50 rfl rfl rfl hK.2 (hts (.initialized RX2) (by decide +kernel)) (by decide +kernel) ⟨Nat.le_of_ble_eq_true rfl, Nat.le_of_ble_eq_true rfl⟩, hts (.static yX2_holds) (by decide +kernel), trivial⟩ (cP_S hK hP) rfl rfl hl.1 rfl (lv_room (Nat.le_of_ble_eq_true rfl)) dX0_latestImplements_5 ⟨Nat.le_of_ble_eq_true rfl, Nat.le_of_ble_eq_true rfl⟩) hS (fun _ _ h => h.elim) (fun _ h => h.elim) (fun r_1 u t H1 locs ht hvm hw hB hz1 hk1 hS => ?_)
  replace hP := ro_kept hP hk1
  obtain rfl : r_1 = _ := hw
  clear hk1 hz1 hvm ht hB
  generalize H1 = H at hP hS ⊢
  exact W.zret (v := (bI (s_holds (cs_own σ) zn1))) hx hb hr (bI_nar _) (fun t ht hW => ⟨⟨(bI (s_holds (cs_own σ) zn1)), (), rfl, rfl, trivial⟩, hS.F ht⟩) hS.2.2 dX0_latestImplements_8
set_option maxHeartbeats 4000000 in
set_option maxRecDepth 100000 in
theorem c_X0_giveFace (l : Launch) (D : va_G) (a : Nat → Nat) (k : Nat → ClassId) (σ : CS) (hinj : cInj a) (hok : cok σ) (zn1 zn2 : Nat) (hn1 : zn1 = cs_n σ - 1) (hn2 : zn2 < 60) : Met l yX0_giveFace wsX0_giveFace (rmC 3 69) (cP D a k σ [.ref (a 1), .int (nI zn1), .int (nI zn2)]) (wrV D a k (s_giveFace σ zn1 zn2)) 0 0 (ca a) := by
  refine Met.ofW (cc := cX0_giveFace) (maxL := 3) (ret := none) (by decide) rfl ?_
  intro p e s m args below meth c s₁ B hml hv
  obtain ⟨rfl, hP, hK⟩ := hv
  have hx := B.exec
  have hb := B.bytes
  have hr := B.returns
  have hts := atoms_spec (ws := wsX0_giveFace) B.pre
  have hown : s.vm.findClass RX0 = some m.cls := findClass_of_methodNamed B.named
  have hlocks := B.notSynchronized
  clear B
  have hl := lv_entry ([.ref (a 1), .int (nI zn1), .int (nI zn2)]) (n := 3) (Nat.le_of_ble_eq_true rfl)
  rw [lg_entry_eq]
  generalize (lg_sl ([.ref (a 1), .int (nI zn1), .int (nI zn2)]) ++ List.replicate (3 - (lg_sl ([.ref (a 1), .int (nI zn1), .int (nI zn2)])).length) Slot.unset).toArray = ls at hl ⊢
  replace hl : lv_has ls 3 [(0, .ref (a 1)), (1, .int (nI zn1)), (2, .int (nI zn2))] := hl
  refine gen_start (A := (ca a)) (fun H locs hP hS => ?_) hP
  have hD : va_D (ca a) (cw a k σ) := cw_D hinj
  obtain ⟨hb0, hb1, hb7, hb8⟩ := id hok
  have hc6 : zn1 < 60 := by omega
  have hk0 := s_give0_bok (f := zn2) hok hn1
  obtain ⟨hk1, hk2, hk3⟩ := s_give1_ok hok hn1 hn2
  have hk4 : cs_par (s_give2 (s_give1 σ zn1 zn2) zn1) zn1 < 60 := hk1.2.2.2.2.2 zn1 hc6
  refine lv_aload_n hx hb dX0_giveFace_0 rfl (lv_at hl 0 rfl) ?_
  refine lv_dup hx hb dX0_giveFace_1 rfl ?_
  refine va_get (D := D) (ci := 1) (v := .long (cs_own σ)) (C := RX0) (T := TX0) (N := 10) hx hb hts (by decide +kernel) hown hK.1 hP 1 rfl rfl 8 (by decide) (hts (.fieldLink RX0 39 "ChooseTree$Classes" "ownFaces" "J") (by decide +kernel)) (fun _ h9 => h9) rfl dX0_giveFace_2 ?_
  refine lv_lconst (v := 1) hx hb dX0_giveFace_5 (by decide) ?_
  refine lv_iload_n hx hb dX0_giveFace_6 rfl (lv_at hl 2 rfl) ?_
  refine lv_lshl (v := (shlL (1 : Int64) (nI zn2))) hx hb dX0_giveFace_7 rfl ?_
  refine lv_lor hx hb dX0_giveFace_8 ?_
  refine va_put (D := D) (ci := 1) (v := .long ((cs_own σ) ||| (shlL (1 : Int64) (nI zn2)))) (ty := .long) (C := RX0) (T := TX0) (N := 10) hx hb hts (by decide +kernel) tyX0 tyX0_ok nmX0 hown hK.1 hP hD hS 1 rfl rfl 8 (by decide) (hts (.fieldLink RX0 39 "ChooseTree$Classes" "ownFaces" "J") (by decide +kernel)) (fun _ h9 => h9) rfl (by decide +kernel) rfl rfl (Nat.le_of_ble_eq_true rfl) dX0_giveFace_9 (fun H locs hP hD hS => ?_)
  replace hP : va_P D vwCl (cw a k (cs_mk (cs_n σ) (cs_par σ) (cs_pack σ) (cs_face σ) (cs_abv σ) (cs_fam σ) (cs_fst σ) (cs_fls σ) ((cs_own σ) ||| (shlL (1 : Int64) (nI zn2))) (cs_opt σ) (cs_m σ) (cs_ow σ) (cs_nm σ) (cs_fi σ) (cs_am σ) (cs_si σ) (cs_ki σ))) H := hP
  replace hD : va_D (ca a) (cw a k (cs_mk (cs_n σ) (cs_par σ) (cs_pack σ) (cs_face σ) (cs_abv σ) (cs_fam σ) (cs_fst σ) (cs_fls σ) ((cs_own σ) ||| (shlL (1 : Int64) (nI zn2))) (cs_opt σ) (cs_m σ) (cs_ow σ) (cs_nm σ) (cs_fi σ) (cs_am σ) (cs_si σ) (cs_ki σ))) := cw_D hinj
  refine lv_aload_n hx hb dX0_giveFace_12 rfl (lv_at hl 0 rfl) ?_
  refine va_get (D := D) (ci := 1) (v := .ref (a 6)) (C := RX0) (T := TX0) (N := 10) hx hb hts (by decide +kernel) hown hK.1 hP 1 rfl rfl 4 (by decide) (hts (.fieldLink RX0 26 "ChooseTree$Classes" "above" "[J") (by decide +kernel)) (fun _ h9 => h9) rfl dX0_giveFace_13 ?_
  refine lv_iload_n hx hb dX0_giveFace_16 rfl (lv_at hl 1 rfl) ?_
  refine lv_dup2_11 hx hb dX0_giveFace_17 rfl rfl ?_
  refine na_lald (D := D) hx hb hK.1 hP 6 3 rfl rfl (i := zn1) (by omega) (by decide) dX0_giveFace_18 ?_
  refine lv_aload_n hx hb dX0_giveFace_19 rfl (lv_at hl 0 rfl) ?_
  refine va_get (D := D) (ci := 1) (v := .ref (a 6)) (C := RX0) (T := TX0) (N := 10) hx hb hts (by decide +kernel) hown hK.1 hP 1 rfl rfl 4 (by decide) (hts (.fieldLink RX0 26 "ChooseTree$Classes" "above" "[J") (by decide +kernel)) (fun _ h9 => h9) rfl dX0_giveFace_20 ?_
  refine lv_iload_n hx hb dX0_giveFace_23 rfl (lv_at hl 2 rfl) ?_
  refine na_lald (D := D) hx hb hK.1 hP 6 3 rfl rfl (i := zn2) (by omega) (by decide) dX0_giveFace_24 ?_
  refine lv_lconst (v := 1) hx hb dX0_giveFace_25 (by decide) ?_
  refine lv_iload_n hx hb dX0_giveFace_26 rfl (lv_at hl 2 rfl) ?_
  refine lv_lshl (v := (shlL (1 : Int64) (nI zn2))) hx hb dX0_giveFace_27 rfl ?_
  refine lv_lor hx hb dX0_giveFace_28 ?_
  refine lv_lor hx hb dX0_giveFace_29 ?_
  refine na_last (D := D) hx hb hK.1 hP hD hS 6 3 rfl rfl (i := zn1) (by omega) (by decide) dX0_giveFace_30 (fun H locs hP hD hS => ?_)
  replace hP : va_P D vwCl (cw a k (cs_mk (cs_n σ) (cs_par σ) (cs_pack σ) (cs_face σ) (vp_updL (cs_abv σ) zn1 (((cs_abv σ) zn1) ||| (((cs_abv σ) zn2) ||| (shlL (1 : Int64) (nI zn2))))) (cs_fam σ) (cs_fst σ) (cs_fls σ) ((cs_own σ) ||| (shlL (1 : Int64) (nI zn2))) (cs_opt σ) (cs_m σ) (cs_ow σ) (cs_nm σ) (cs_fi σ) (cs_am σ) (cs_si σ) (cs_ki σ))) H := hP
  replace hD : va_D (ca a) (cw a k (cs_mk (cs_n σ) (cs_par σ) (cs_pack σ) (cs_face σ) (vp_updL (cs_abv σ) zn1 (((cs_abv σ) zn1) ||| (((cs_abv σ) zn2) ||| (shlL (1 : Int64) (nI zn2))))) (cs_fam σ) (cs_fst σ) (cs_fls σ) ((cs_own σ) ||| (shlL (1 : Int64) (nI zn2))) (cs_opt σ) (cs_m σ) (cs_ow σ) (cs_nm σ) (cs_fi σ) (cs_am σ) (cs_si σ) (cs_ki σ))) := cw_D hinj
  refine lv_aload_n hx hb dX0_giveFace_31 rfl (lv_at hl 0 rfl) ?_
  refine va_get (D := D) (ci := 1) (v := .ref (a 7)) (C := RX0) (T := TX0) (N := 10) hx hb hts (by decide +kernel) hown hK.1 hP 1 rfl rfl 5 (by decide) (hts (.fieldLink RX0 30 "ChooseTree$Classes" "faceAmount" "[I") (by decide +kernel)) (fun _ h9 => h9) rfl dX0_giveFace_32 ?_
  refine lv_iload_n hx hb dX0_giveFace_35 rfl (lv_at hl 1 rfl) ?_
  refine lv_aload_n hx hb dX0_giveFace_36 rfl (lv_at hl 0 rfl) ?_
  refine va_get (D := D) (ci := 1) (v := .int (nI (cs_opt σ))) (C := RX0) (T := TX0) (N := 10) hx hb hts (by decide +kernel) hown hK.1 hP 1 rfl rfl 9 (by decide) (hts (.fieldLink RX0 43 "ChooseTree$Classes" "ownPart" "I") (by decide +kernel)) (fun _ h9 => h9) rfl dX0_giveFace_37 ?_
  refine na_iastN (D := D) hx hb hK.1 hP hD hS 7 4 rfl rfl (i := zn1) (v := (cs_opt σ)) (by omega) (by decide) dX0_giveFace_40 (fun H locs hP hD hS => ?_)
  replace hP : va_P D vwCl (cw a k (cs_mk (cs_n σ) (cs_par σ) (cs_pack σ) (cs_face σ) (vp_updL (cs_abv σ) zn1 (((cs_abv σ) zn1) ||| (((cs_abv σ) zn2) ||| (shlL (1 : Int64) (nI zn2))))) (va_up (cs_fam σ) zn1 (cs_opt σ)) (cs_fst σ) (cs_fls σ) ((cs_own σ) ||| (shlL (1 : Int64) (nI zn2))) (cs_opt σ) (cs_m σ) (cs_ow σ) (cs_nm σ) (cs_fi σ) (cs_am σ) (cs_si σ) (cs_ki σ))) H := hP
  replace hD : va_D (ca a) (cw a k (cs_mk (cs_n σ) (cs_par σ) (cs_pack σ) (cs_face σ) (vp_updL (cs_abv σ) zn1 (((cs_abv σ) zn1) ||| (((cs_abv σ) zn2) ||| (shlL (1 : Int64) (nI zn2))))) (va_up (cs_fam σ) zn1 (cs_opt σ)) (cs_fst σ) (cs_fls σ) ((cs_own σ) ||| (shlL (1 : Int64) (nI zn2))) (cs_opt σ) (cs_m σ) (cs_ow σ) (cs_nm σ) (cs_fi σ) (cs_am σ) (cs_si σ) (cs_ki σ))) := cw_D hinj
  replace hP : va_P D vwCl (cw a k (s_give0 σ zn1 zn2)) H := hP
  replace hD : va_D (ca a) (cw a k (s_give0 σ zn1 zn2)) := cw_D hinj
  refine lv_aload_n hx hb dX0_giveFace_41 rfl (lv_at hl 0 rfl) ?_
  refine lv_iload_n hx hb dX0_giveFace_42 rfl (lv_at hl 1 rfl) ?_
  refine lv_iload_n hx hb dX0_giveFace_43 rfl (lv_at hl 2 rfl) ?_
  refine va_callv (va_runV (As := [.int (nI zn1), .int (nI zn2)]) (rest := []) ⟨hx, hb, hml, hown, hts⟩ (c_X0_listFace l D a k (s_give0 σ zn1 zn2) hinj hk0 zn1 zn2 hc6) (cwV 2 hts gX0_giveFace_X0_listFace rfl rfl rfl (by decide +kernel) ⟨Nat.le_of_ble_eq_true rfl, Nat.le_of_ble_eq_true rfl⟩) (cP_V hK hP 1 1 rfl rfl) rfl rfl hl.1 rfl (lv_room (Nat.le_of_ble_eq_true rfl)) dX0_giveFace_44 ⟨Nat.le_of_ble_eq_true rfl, Nat.le_of_ble_eq_true rfl⟩) hS (fun _ _ h => h) (fun _ h => h) (fun u t H1 locs ht hvm hw hB hz1 hk1 hS => ?_)
  replace hB : va_P D vwCl (cw a k (s_listFace (s_give0 σ zn1 zn2) zn1 zn2)) t.heap := hB
  rw [ht] at hB
  clear hk1 hz1 hvm ht hP hD hw
  have hP := hB
  clear hB
  have hP : va_P D vwCl (cw a k (s_listFace (s_give0 σ zn1 zn2) zn1 zn2)) H1 := hP
  have hD : va_D (ca a) (cw a k (s_listFace (s_give0 σ zn1 zn2) zn1 zn2)) := cw_D hinj
  generalize H1 = H at hP hS ⊢
  refine lv_aload_n hx hb dX0_giveFace_47 rfl (lv_at hl 0 rfl) ?_
  refine lv_iload_n hx hb dX0_giveFace_48 rfl (lv_at hl 1 rfl) ?_
  refine lv_iload_n hx hb dX0_giveFace_49 rfl (lv_at hl 2 rfl) ?_
  refine va_callv (va_runV (As := [.int (nI zn1), .int (nI zn2)]) (rest := []) ⟨hx, hb, hml, hown, hts⟩ (c_X0_listFacesOf l D a k (s_listFace (s_give0 σ zn1 zn2) zn1 zn2) hinj (s_listFace_bok hk0 hc6 hn2) zn1 zn2 hc6 hn2) (cwV 2 hts gX0_giveFace_X0_listFacesOf rfl rfl rfl (by decide +kernel) ⟨Nat.le_of_ble_eq_true rfl, Nat.le_of_ble_eq_true rfl⟩) (cP_V hK hP 1 1 rfl rfl) rfl rfl hl.1 rfl (lv_room (Nat.le_of_ble_eq_true rfl)) dX0_giveFace_50 ⟨Nat.le_of_ble_eq_true rfl, Nat.le_of_ble_eq_true rfl⟩) hS (fun _ _ h => h) (fun _ h => h) (fun u t H1 locs ht hvm hw hB hz1 hk1 hS => ?_)
  replace hB : va_P D vwCl (cw a k (s_give1 σ zn1 zn2)) t.heap := hB
  rw [ht] at hB
  clear hk1 hz1 hvm ht hP hD hw
  have hP := hB
  clear hB
  have hP : va_P D vwCl (cw a k (s_give1 σ zn1 zn2)) H1 := hP
  have hD : va_D (ca a) (cw a k (s_give1 σ zn1 zn2)) := cw_D hinj
  generalize H1 = H at hP hS ⊢
  refine lv_aload_n hx hb dX0_giveFace_53 rfl (lv_at hl 0 rfl) ?_
  refine lv_aload_n hx hb dX0_giveFace_54 rfl (lv_at hl 0 rfl) ?_
  refine va_get (D := D) (ci := 1) (v := .ref (a 7)) (C := RX0) (T := TX0) (N := 10) hx hb hts (by decide +kernel) hown hK.1 hP 1 rfl rfl 5 (by decide) (hts (.fieldLink RX0 30 "ChooseTree$Classes" "faceAmount" "[I") (by decide +kernel)) (fun _ h9 => h9) rfl dX0_giveFace_55 ?_
  refine lv_iload_n hx hb dX0_giveFace_58 rfl (lv_at hl 1 rfl) ?_
  refine na_iald (D := D) hx hb hK.1 hP 7 4 rfl rfl (i := zn1) (by omega) (by decide) dX0_giveFace_59 ?_
  refine va_put (D := D) (ci := 1) (v := .int (nI ((cs_fam (s_give1 σ zn1 zn2)) zn1))) (ty := .int) (C := RX0) (T := TX0) (N := 10) hx hb hts (by decide +kernel) tyX0 tyX0_ok nmX0 hown hK.1 hP hD hS 1 rfl rfl 9 (by decide) (hts (.fieldLink RX0 43 "ChooseTree$Classes" "ownPart" "I") (by decide +kernel)) (fun _ h9 => h9) rfl (by decide +kernel) rfl rfl (Nat.le_of_ble_eq_true rfl) dX0_giveFace_60 (fun H locs hP hD hS => ?_)
  replace hP : va_P D vwCl (cw a k (cs_mk (cs_n (s_give1 σ zn1 zn2)) (cs_par (s_give1 σ zn1 zn2)) (cs_pack (s_give1 σ zn1 zn2)) (cs_face (s_give1 σ zn1 zn2)) (cs_abv (s_give1 σ zn1 zn2)) (cs_fam (s_give1 σ zn1 zn2)) (cs_fst (s_give1 σ zn1 zn2)) (cs_fls (s_give1 σ zn1 zn2)) (cs_own (s_give1 σ zn1 zn2)) ((cs_fam (s_give1 σ zn1 zn2)) zn1) (cs_m (s_give1 σ zn1 zn2)) (cs_ow (s_give1 σ zn1 zn2)) (cs_nm (s_give1 σ zn1 zn2)) (cs_fi (s_give1 σ zn1 zn2)) (cs_am (s_give1 σ zn1 zn2)) (cs_si (s_give1 σ zn1 zn2)) (cs_ki (s_give1 σ zn1 zn2)))) H := hP
  replace hD : va_D (ca a) (cw a k (cs_mk (cs_n (s_give1 σ zn1 zn2)) (cs_par (s_give1 σ zn1 zn2)) (cs_pack (s_give1 σ zn1 zn2)) (cs_face (s_give1 σ zn1 zn2)) (cs_abv (s_give1 σ zn1 zn2)) (cs_fam (s_give1 σ zn1 zn2)) (cs_fst (s_give1 σ zn1 zn2)) (cs_fls (s_give1 σ zn1 zn2)) (cs_own (s_give1 σ zn1 zn2)) ((cs_fam (s_give1 σ zn1 zn2)) zn1) (cs_m (s_give1 σ zn1 zn2)) (cs_ow (s_give1 σ zn1 zn2)) (cs_nm (s_give1 σ zn1 zn2)) (cs_fi (s_give1 σ zn1 zn2)) (cs_am (s_give1 σ zn1 zn2)) (cs_si (s_give1 σ zn1 zn2)) (cs_ki (s_give1 σ zn1 zn2)))) := cw_D hinj
  replace hP : va_P D vwCl (cw a k (s_give2 (s_give1 σ zn1 zn2) zn1)) H := hP
  replace hD : va_D (ca a) (cw a k (s_give2 (s_give1 σ zn1 zn2) zn1)) := cw_D hinj
  refine lv_aload_n hx hb dX0_giveFace_63 rfl (lv_at hl 0 rfl) ?_
  refine lv_iload_n hx hb dX0_giveFace_64 rfl (lv_at hl 1 rfl) ?_
  refine lv_aload_n hx hb dX0_giveFace_65 rfl (lv_at hl 0 rfl) ?_
  refine va_get (D := D) (ci := 1) (v := .ref (a 3)) (C := RX0) (T := TX0) (N := 10) hx hb hts (by decide +kernel) hown hK.1 hP 1 rfl rfl 1 (by decide) (hts (.fieldLink RX0 15 "ChooseTree$Classes" "parent" "[I") (by decide +kernel)) (fun _ h9 => h9) rfl dX0_giveFace_66 ?_
  refine lv_iload_n hx hb dX0_giveFace_69 rfl (lv_at hl 1 rfl) ?_
  refine na_iald (D := D) hx hb hK.1 hP 3 0 rfl rfl (i := zn1) (by omega) (by decide) dX0_giveFace_70 ?_
  refine va_callv (va_runV (As := [.int (nI zn1), .int (nI ((cs_par (s_give2 (s_give1 σ zn1 zn2) zn1)) zn1))]) (rest := []) ⟨hx, hb, hml, hown, hts⟩ (c_X0_listFacesOf l D a k (s_give2 (s_give1 σ zn1 zn2) zn1) hinj (s_give2_bok hk1 zn1) zn1 (cs_par (s_give2 (s_give1 σ zn1 zn2) zn1) zn1) hc6 hk4) (cwV 2 hts gX0_giveFace_X0_listFacesOf rfl rfl rfl (by decide +kernel) ⟨Nat.le_of_ble_eq_true rfl, Nat.le_of_ble_eq_true rfl⟩) (cP_V hK hP 1 1 rfl rfl) rfl rfl hl.1 rfl (lv_room (Nat.le_of_ble_eq_true rfl)) dX0_giveFace_71 ⟨Nat.le_of_ble_eq_true rfl, Nat.le_of_ble_eq_true rfl⟩) hS (fun _ _ h => h) (fun _ h => h) (fun u t H1 locs ht hvm hw hB hz1 hk1 hS => ?_)
  replace hB : va_P D vwCl (cw a k (s_giveFace σ zn1 zn2)) t.heap := hB
  rw [ht] at hB
  clear hk1 hz1 hvm ht hP hD hw
  have hP := hB
  clear hB
  have hP : va_P D vwCl (cw a k (s_giveFace σ zn1 zn2)) H1 := hP
  have hD : va_D (ca a) (cw a k (s_giveFace σ zn1 zn2)) := cw_D hinj
  generalize H1 = H at hP hS ⊢
  exact W.vret hx hb hr (fun t ht hW => ⟨⟨(), rfl, trivial, show va_P D vwCl (cw a k _) t.heap from (by rw [ht]; exact hP)⟩, hS.F ht⟩) hS.2.2 dX0_giveFace_74
