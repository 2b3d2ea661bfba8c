set_option maxHeartbeats 4000000 in
set_option maxRecDepth 100000 in
theorem c_J8_newLength_cabcc (l : Launch) (D : va_G) (cO : ClassId) (mi : Nat) (L : List Nat) (f : Nat → va_E) (n h : Nat) (hh : 1 ≤ h) (hn : n + h < 2 ^ 27) : Met l yJ8_newLength_cabcc wsJ8_newLength_cabcc (rmC 1 30) (mP D cO mi L f [.int (nI n), .int (nI 1), .int (nI h)]) (roQ (nI (n + h))) 0 0 (fun _ => False) := by
  refine Met.ofW (cc := cJ8_newLength_cabcc) (maxL := 4) (ret := (some .int)) (by decide) rfl ?_
  intro p e s m args below meth cq s₁ B hml hv
  obtain ⟨rfl, hP, hK⟩ := hv
  have hx := B.exec
  have hb := B.bytes
  have hr := B.returns
  have hts := atoms_spec (ws := wsJ8_newLength_cabcc) B.pre
  have hown : s.vm.findClass RJ8 = some m.cls := findClass_of_methodNamed B.named
  have hlocks := B.notSynchronized
  clear B
  have hl := lv_entry ([.int (nI n), .int (nI 1), .int (nI h)]) (n := 4) (Nat.le_of_ble_eq_true rfl)
  rw [lg_entry_eq]
  generalize (lg_sl ([.int (nI n), .int (nI 1), .int (nI h)]) ++ List.replicate (4 - (lg_sl ([.int (nI n), .int (nI 1), .int (nI h)])).length) Slot.unset).toArray = ls at hl ⊢
  replace hl : lv_has ls 4 [(0, .int (nI n)), (1, .int (nI 1)), (2, .int (nI h))] := hl
  refine gen_start (A := fun _ => False) (fun H locs hP hS => ?_) hP
  refine lv_iload_n hx hb dJ8_newLength_cabcc_0 rfl (lv_at hl 0 rfl) ?_
  refine lv_iload_n hx hb dJ8_newLength_cabcc_1 rfl (lv_at hl 1 rfl) ?_
  refine lv_iload_n hx hb dJ8_newLength_cabcc_2 rfl (lv_at hl 2 rfl) ?_
  refine va_mmax hx hb (by rw [hml]; exact hl.1.symm) hown (hts (.methodLink RJ8 194 Lib.Math.max.name) (by decide +kernel)) (hts (.static Lib.Math.max.name) (by decide +kernel)) (hts (.initialized "java/lang/Math") (by decide +kernel)) (hts (.code Lib.Math.max.name Lib.Math.max.code 2 (some .int)) (List.mem_of_getElem? (i := 4) rfl)) (Nat.le_of_ble_eq_true rfl) (Nat.le_of_ble_eq_true rfl) (Nat.zero_le _) (Nat.zero_le _) dJ8_newLength_cabcc_3 ?_
  rw [mx1 hh (by omega)]
  refine lv_iaddN hx hb dJ8_newLength_cabcc_6 ?_
  refine lv_istore_n (lv' := [(3, .int (nI (n + h))), (0, .int (nI n)), (1, .int (nI 1)), (2, .int (nI h))]) hx hb dJ8_newLength_cabcc_7 rfl hl (by decide) rfl (fun ls hl => ?_)
  refine lv_iconst (v := (nI 0)) hx hb dJ8_newLength_cabcc_8 (by decide) ?_
  refine lv_iload_n hx hb dJ8_newLength_cabcc_9 rfl (lv_at hl 0 rfl) ?_
  refine lv_icmp_ge (tgt := 21) hx hb dJ8_newLength_cabcc_10 (by decide) (fun c_1 => ?_) (fun c_1 => ?_)
  · exact absurd c_1 (nI_ge (a := 0) (by omega) (by omega))
  · refine lv_iload_n hx hb dJ8_newLength_cabcc_13 rfl (lv_at hl 0 rfl) ?_
    refine lv_ldc (v := nI 2147483639) hx hb hown (hts (.constant RJ8 200 (2147483639)) (by decide +kernel)) dJ8_newLength_cabcc_14 ?_
    refine lv_icmp_gt (tgt := 21) hx hb dJ8_newLength_cabcc_16 (by decide) (fun c_2 => ?_) (fun c_2 => ?_)
    · exact absurd c_2 (nI_nlt (a := 2147483639) (by omega) (by decide))
    · refine lv_iload_n hx hb dJ8_newLength_cabcc_19 rfl (lv_at hl 0 rfl) ?_
      exact W.iret (v := (nI (n + h))) hx hb hr (fun t ht hW => ⟨⟨(nI (n + h)), (), rfl, rfl, trivial⟩, hS.F ht⟩) hS.2.2 dJ8_newLength_cabcc_20
set_option maxHeartbeats 4000000 in
set_option maxRecDepth 100000 in
theorem c_J7_copyOf_6403c (l : Launch) (D : va_G) (cO : ClassId) (mi e0 : Nat) (L : List Nat) (f : Nat → va_E) (sz : Nat) (hnd : L.Nodup) (d n k : Nat) (hd : d ∈ L) (g : Nat → Option Nat) (hfd : f d = refs n g cO) (hnk : n ≤ k) (hk : k < 2 ^ 27) (hel : ∀ i, i < n → ∀ y, g i = some y → mobj L f y) : Met l yJ7_copyOf_6403c wsJ7_copyOf_6403c { frames := 1, cells := 1, slots := k, locals := 60 } (mW D cO mi e0 L f sz [.ref d, .int (nI k), .ref mi]) (wQq D L sz (fun r u => ∃ (q : Nat) (g2 : Nat → Option Nat), r = some q ∧ q ∉ L ∧ u = (L ++ [q], va_up f q (refs k g2 cO)) ∧ (∀ i, i < n → g2 i = g i))) 1 k (mA L sz) := by
  refine Met.ofW (cc := cJ7_copyOf_6403c) (maxL := 4) (ret := (some (.array (.object "java/lang/Object")))) (by decide) rfl ?_
  intro p e s m args below meth cq s₁ B hml hv
  obtain ⟨rfl, hsz, hP, hK, hJ⟩ := hv
  have hx := B.exec
  have hb := B.bytes
  have hr := B.returns
  have hts := atoms_spec (ws := wsJ7_copyOf_6403c) B.pre
  have hown : s.vm.findClass RJ7 = some m.cls := findClass_of_methodNamed B.named
  have hlocks := B.notSynchronized
  have hin := (name_of_methodNamed B.named B.method).1
  clear B
  have hl := lv_entry ([.ref d, .int (nI k), .ref mi]) (n := 4) (Nat.le_of_ble_eq_true rfl)
  rw [lg_entry_eq]
  generalize (lg_sl ([.ref d, .int (nI k), .ref mi]) ++ List.replicate (4 - (lg_sl ([.ref d, .int (nI k), .ref mi])).length) Slot.unset).toArray = ls at hl ⊢
  replace hl : lv_has ls 4 [(0, .ref d), (1, .int (nI k)), (2, .ref mi)] := hl
  have hA : ∀ q : Nat, s.heap.size ≤ q → mA L sz q := fun q h => Or.inr (by omega)
  have hE : pext L sz L := pext.rf hnd
  have hD : va_D (mA L sz) (va_pl L f) := hE.D
  refine gen_start (A := mA L sz) (fun H locs hP hS => ?_) hP
  refine lv_aload_n hx hb dJ7_copyOf_6403c_0 rfl (lv_at hl 2 rfl) ?_
  refine va_ldcM hx hb hown (hts (.classLink RJ7 110 "[Ljava/lang/Object;") (by decide +kernel)) hK.2.2.1 dJ7_copyOf_6403c_1 ?_
  refine lv_acmp_ne (rx := (some mi)) (ry := (some mi)) (tgt := 13) hx hb dJ7_copyOf_6403c_3 (by decide) (fun c_1 => ?_) (fun c_1 => ?_)
  · exact absurd rfl c_1
  · refine lv_iload_n hx hb dJ7_copyOf_6403c_6 rfl (lv_at hl 1 rfl) ?_
    refine pl_newq (D := D) hx hb hown (hts (.classLink RJ7 2 "java/lang/Object") (by decide +kernel)) hK.2.1 hK.1 hP hD hS hA (n := k) (by omega) (Nat.le_refl _) (by show 0 + k ≤ k; omega) dJ7_copyOf_6403c_7 (fun q7 H hq hAq hP hS => ?_)
    have hqs : sz ≤ q7 := hAq.resolve_left (fun z => hq (hE.mem z))
    obtain ⟨f2, hf2⟩ : ∃ z, z = va_up f q7 (refs k (fun _ => none) cO) := ⟨_, rfl⟩
    rw [← hf2] at hP
    have F_d_2 : f2 d = refs n g cO := by rw [hf2, va_up_ne _ _ (show d ≠ q7 from fun e9 => hq (e9 ▸ hd))]; exact hfd
    have M_d_2 := List.mem_append_left [q7] hd
    have F_q7_2 : f2 q7 = refs k (fun _ => none) cO := by rw [hf2]; exact va_up_self _ _ _
    have M_q7_2 : q7 ∈ L ++ [q7] := List.mem_append_right _ (List.mem_singleton.mpr rfl)
    replace hE : pext L sz (L ++ [q7]) := hE.tr (Nat.le_refl _) (pext.one hE.nd hq hqs)
    have hD : va_D (mA L sz) (va_pl (L ++ [q7]) f2) := hE.D
    refine lv_goto (tgt := 24) hx hb dJ7_copyOf_6403c_10 (by decide) ?_
    refine lv_astore_n (lv' := [(3, .ref q7), (0, .ref d), (1, .int (nI k)), (2, .ref mi)]) hx hb dJ7_copyOf_6403c_24 rfl hl (by decide) rfl (fun ls hl => ?_)
    refine lv_aload_n hx hb dJ7_copyOf_6403c_25 rfl (lv_at hl 1 rfl) ?_
    refine lv_iconst (v := (nI 0)) hx hb dJ7_copyOf_6403c_26 (by decide) ?_
    refine lv_aload_n hx hb dJ7_copyOf_6403c_27 rfl (lv_at hl 0 rfl) ?_
    refine lv_iconst (v := (nI 0)) hx hb dJ7_copyOf_6403c_28 (by decide) ?_
    refine lv_aload_n hx hb dJ7_copyOf_6403c_29 rfl (lv_at hl 1 rfl) ?_
    refine pl_alen (D := D) hx hb hK.1 hP 0 M_d_2 F_d_2 rfl dJ7_copyOf_6403c_30 ?_
    refine lv_iload_n hx hb dJ7_copyOf_6403c_31 rfl (lv_at hl 2 rfl) ?_
    refine va_mmin hx hb (by rw [hml]; exact hl.1.symm) hown (hts (.methodLink RJ7 304 Lib.Math.min.name) (by decide +kernel)) (hts (.static Lib.Math.min.name) (by decide +kernel)) (hts (.initialized "java/lang/Math") (by decide +kernel)) (hts (.code Lib.Math.min.name Lib.Math.min.code 2 (some .int)) (List.mem_of_getElem? (i := 6) rfl)) (Nat.le_of_ble_eq_true rfl) (Nat.le_of_ble_eq_true rfl) (Nat.le_refl _) (by show 0 + k ≤ k; omega) dJ7_copyOf_6403c_32 ?_
    rw [mn1 hnk (by omega)]
    obtain ⟨i0, hi0⟩ := pl_ix (f := f2) M_d_2
    obtain ⟨i1, hi1⟩ := pl_ix (f := f2) M_q7_2
    have hj1 := hi1
    rw [F_d_2] at hi0
    rw [F_q7_2] at hj1
    have hcl := nI_clamp (n := n) (by omega)
    have hc0 := nI_clamp (n := 0) (by omega)
    refine va_copyM hx hb (by rw [hml]; exact hl.1.symm) hown (hts (.methodLink RJ7 150 arraycopyName) (by decide +kernel)) (hts (.native arraycopyName) (by decide +kernel)) (hts (.static arraycopyName) (by decide +kernel)) (hts (.initialized "java/lang/System") (by decide +kernel)) hK.1 hP hD hS i0 i1 0 0 hi0 hj1 rfl rfl (by decide) (by decide) (nI_pos (by omega)) (by rw [hc0, hcl]; omega) (by rw [hc0, hcl]; omega) (fun i hi y hy => ?_) (Nat.le_of_ble_eq_true rfl) (Nat.le_of_ble_eq_true rfl) dJ7_copyOf_6403c_35 (fun H1 locs1 h1 h2 h3 => ?_)
    · rw [hcl] at hi
      rw [hc0, Nat.zero_add] at hy
      have hob := hel i hi y hy
      exact mobj.any hK hP (by rw [hf2]; exact hob.up (fun _ z => List.mem_append_left _ z) (fun e9 => hq (e9 ▸ hob.1)))
    rw [pl_st hD M_q7_2 hi1, hcl, hc0, hf2, bx_uu] at h1
    clear hP hS
    have hP := h1
    have hS := h3
    clear h1 h3 h2 hi0 hi1 hj1
    generalize H1 = H at hP hS ⊢
    generalize locs1 = locs at hS ⊢
    refine lv_aload_n hx hb dJ7_copyOf_6403c_38 rfl (lv_at hl 0 rfl) ?_
    refine W.widen (k := 1) (n := k) (by first | exact Nat.le_refl _ | omega) (by omega) ?_
    exact W.aret (v := va_rf (some q7)) hx hb hr (Or.inr ⟨_, rfl⟩) (va_rf_or _) (fun t ht hW => ⟨⟨(some q7), ((L ++ [q7]), (va_up f q7 (refs k (va_cpy g (fun _ => none) 0 0 n) cO))), rfl, ⟨⟨q7, _, rfl, hq, rfl, fun i hi => by rw [pk_cpy_in (Nat.zero_le _) (by omega)]; simp⟩, hE⟩, show va_P D vwCl (va_pl _ _) t.heap from (by rw [ht]; exact hP)⟩, hS.F ht⟩) hS.2.2 dJ7_copyOf_6403c_39
