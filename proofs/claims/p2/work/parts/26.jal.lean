/-- an ArrayList of c elements: its data at d (or the constant empty array), room n; k: what the next growth takes -/
def alG (e0 : Nat) (cO : ClassId) (L : List Nat) (f : Nat → va_E) (d c n k : Nat) (g : Nat → Option Nat) : Prop := (d = e0 ∧ c = 0 ∧ n = 0 ∧ k = 10) ∨ (d ∈ L ∧ f d = refs n g cO ∧ 2 ≤ n ∧ n ≤ 10000 ∧ c ≤ n ∧ k = n + n / 2 ∧ ∀ i, i < c → ∀ y, g i = some y → mobj L f y)
/-- what add leaves -/
def alPost (cO : ClassId) (L : List Nat) (f : Nat → va_E) (a d c n k : Nat) (g : Nat → Option Nat) (mc : Int32) (x : Nat) (u : PS) : Prop := ∃ (d2 n2 : Nat) (g2 : Nat → Option Nat), ((u.1 = L ∧ d2 = d ∧ n2 = n ∧ d ∈ L) ∨ (u.1 = L ++ [d2] ∧ d2 ∉ L ∧ n2 = k ∧ c = n)) ∧ u.2 a = alc mc d2 (c + 1) ∧ u.2 d2 = refs n2 g2 cO ∧ c + 1 ≤ n2 ∧ (∀ i, i < c → g2 i = g i) ∧ g2 c = some x ∧ (∀ b, b ≠ a → b ≠ d2 → u.2 b = f b)
/-- what clear leaves -/
def clPost (cO : ClassId) (L : List Nat) (f : Nat → va_E) (a d n : Nat) (mc : Int32) (u : PS) : Prop := u.1 = L ∧ u.2 a = alc mc d 0 ∧ (∀ b, b ≠ a → b ≠ d → u.2 b = f b) ∧ (d ∈ L → ∃ g2, u.2 d = refs n g2 cO)
def roV : Array Value → State → Outcome → State → Prop := va_Qv (fun (_ : Unit) => True) (fun _ _ => True) (fun _ => False)
theorem alG.up {e0 : Nat} {cO : ClassId} {L : List Nat} {f : Nat → va_E} {d c n k : Nat} {g : Nat → Option Nat} {a : Nat} {mc mc2 : Int32} (h : alG e0 cO L f d c n k g) (hf : f a = alc mc d c) : alG e0 cO L (va_up f a (alc mc2 d c)) d c n k g := by
  rcases h with h | ⟨h1, h2, h3, h4, h5, h6, h7⟩
  · exact Or.inl h
  · have hda : d ≠ a := fun e => by rw [e, hf] at h2; cases h2
    exact Or.inr ⟨h1, by rw [va_up_ne _ _ hda]; exact h2, h3, h4, h5, h6, fun i hi y hy => (h7 i hi y hy).up (fun _ z => z) ((h7 i hi y hy).neal hf)⟩
set_option maxHeartbeats 4000000 in
set_option maxRecDepth 100000 in
theorem c_Jx4a65c_add3G (l : Launch) (D : va_G) (cO : ClassId) (mi e0 : Nat) (L : List Nat) (f : Nat → va_E) (sz : Nat) (hnd : L.Nodup) (a : Nat) (ha : a ∈ L) (mc : Int32) (d c : Nat) (hf : f a = alc mc d c) (x : Nat) (hxo : mobj L f x) (n k : Nat) (g : Nat → Option Nat) (hg : alG e0 cO L f d c n k g) (hcn9 : c = n) : Met l yJx4a65c_add_72be8 wsJx4a65c_add_72be8 { frames := 5, cells := 1, slots := k, locals := 147 } (mW D cO mi e0 L f sz [.ref a, .ref x, .ref d, .int (nI c)]) (wQv D L sz (fun u => alPost cO L f a d c n k g mc x u)) 1 k (mA L sz) := by
  refine Met.ofW (cc := cJx4a65c_add_72be8) (maxL := 4) (ret := none) (by decide) rfl ?_
  intro p e s m args below meth cq s₁ B hml hv
  obtain ⟨rfl, hsz, hP, hK, hJ⟩ := hv
  have hx := B.exec
  have hb := B.bytes
  have hr := B.returns
  have hts := atoms_spec (ws := wsJx4a65c_add_72be8) B.pre
  have hown : s.vm.findClass RJx4a65c = some m.cls := findClass_of_methodNamed B.named
  have hlocks := B.notSynchronized
  have hin := (name_of_methodNamed B.named B.method).1
  clear B
  have hl := lv_entry ([.ref a, .ref x, .ref d, .int (nI c)]) (n := 4) (Nat.le_of_ble_eq_true rfl)
  rw [lg_entry_eq]
  generalize (lg_sl ([.ref a, .ref x, .ref d, .int (nI c)]) ++ List.replicate (4 - (lg_sl ([.ref a, .ref x, .ref d, .int (nI c)])).length) Slot.unset).toArray = ls at hl ⊢
  replace hl : lv_has ls 4 [(0, .ref a), (1, .ref x), (2, .ref d), (3, .int (nI c))] := hl
  have hA : ∀ q : Nat, s.heap.size ≤ q → mA L sz q := fun q h => Or.inr (by omega)
  have hE : pext L sz L := pext.rf hnd
  have hD : va_D (mA L sz) (va_pl L f) := hE.D
  refine gen_start (A := mA L sz) (fun H locs hP hS => ?_) hP
  rcases hg with ⟨e1, e2, e3, e4⟩ | ⟨hd, hfd, hn2, hn3, hcn, e4, hel⟩
  · subst e1; subst e2; subst e3
    refine lv_iload_n hx hb dJx4a65c_add_72be8_0 rfl (lv_at hl 3 rfl) ?_
    refine lv_aload_n hx hb dJx4a65c_add_72be8_1 rfl (lv_at hl 2 rfl) ?_
    refine va_tlen (v := nI 0) hx hb hJ.2 hS rfl dJx4a65c_add_72be8_2 ?_
    refine lv_icmp_ne (tgt := 11) hx hb dJx4a65c_add_72be8_3 (by decide) (fun c_1 => ?_) (fun c_1 => ?_)
    · exact absurd rfl c_1
    · refine lv_aload_n hx hb dJx4a65c_add_72be8_6 rfl (lv_at hl 0 rfl) ?_
      have hszH : sz ≤ H.size := by have := hS.1; omega
      have hPold := hP
      refine va_callq (va_runV (As := []) (rest := []) ⟨hx, hb, hml, hown, hts⟩ (c_Jx4a65c_grow_d5877 l D cO mi d L f H.size hE.nd a ha mc d 0 hf g k (Or.inl ⟨rfl, rfl, e4⟩)) (cwV 0 hts gJx4a65c_add_72be8_Jx4a65c_grow_d5877 rfl rfl rfl (by decide +kernel) ⟨Nat.le_of_ble_eq_true rfl, Nat.le_of_ble_eq_true rfl⟩) (mW_V hK hJ hS (hE.sub (by have := hS.1; omega)) hP 0 rfl ha hf) rfl rfl hl.1 rfl (lv_room (Nat.le_of_ble_eq_true rfl)) dJx4a65c_add_72be8_7 ⟨Nat.le_refl _, by show 0 + k ≤ k; omega⟩) hS (fun q _ h => (hE.sub (by have := hS.1; omega)) q h) (hE.sub (by have := hS.1; omega)) (fun r_2 u t H1 locs ht hvm hw hB hz1 hk1 hS => ?_)
      obtain ⟨L2, f2⟩ := u
      obtain ⟨hw, hE1⟩ := hw
      replace hB : va_P D vwCl (va_pl L2 f2) t.heap := hB
      rw [ht] at hB
      replace hE : pext L sz L2 := hE.tr (hszH) hE1
      obtain ⟨q, g2, hr1, hq, hu, hg2⟩ := hw
      subst hr1
      cases hu
      have Fq2 : va_up (va_up f q (refs k g2 cO)) a (alc mc q 0) q = refs k g2 cO := by rw [va_up_ne _ _ (show q ≠ a from fun e9 => hq (e9 ▸ ha))]; exact va_up_self _ _ _
      have Fa2 : va_up (va_up f q (refs k g2 cO)) a (alc mc q 0) a = alc mc q 0 := va_up_self _ _ _
      have Ma2 := List.mem_append_left [q] ha
      have Mq2 : q ∈ L ++ [q] := List.mem_append_right _ (List.mem_singleton.mpr rfl)
      clear hPold hP hk1 hz1 hvm ht hszH hE1
      have hP := hB
      clear hB
      generalize H1 = H at hP hS ⊢
      have hD : va_D (mA L sz) (va_pl (L ++ [q]) (va_up (va_up f q (refs k g2 cO)) a (alc mc q 0))) := hE.D
      refine lv_astore_n (lv' := [(2, .ref q), (0, .ref a), (1, .ref x), (3, .int (nI 0))]) hx hb dJx4a65c_add_72be8_10 rfl hl (by decide) rfl (fun ls hl => ?_)
      refine lv_aload_n hx hb dJx4a65c_add_72be8_11 rfl (lv_at hl 0 rfl) ?_
      refine lv_iload_n hx hb dJx4a65c_add_72be8_12 rfl (lv_at hl 3 rfl) ?_
      refine lv_aload_n hx hb dJx4a65c_add_72be8_13 rfl (lv_at hl 2 rfl) ?_
      refine pl_aast (D := D) hx hb hK.1 hP hD hS 0 Mq2 Fq2 rfl (mobj.any hK hP (mobj.up (mobj.up hxo (fun _ z => List.mem_append_left [q] z) (show x ≠ q from fun e9 => hq (e9 ▸ hxo.1))) (fun _ z => z) (show x ≠ a from hxo.neal hf))) (i := 0) (by omega) (by omega) dJx4a65c_add_72be8_14 (fun H locs hP hS => ?_)
      obtain ⟨f3, hf3⟩ : ∃ z, z = va_up (va_up (va_up f q (refs k g2 cO)) a (alc mc q 0)) q (refs k (va_up g2 0 (some x)) cO) := ⟨_, rfl⟩
      rw [← hf3] at hP
      have F_a_3 : f3 a = .inr (0, [.int mc, .ref q, .int (nI 0)]) := by rw [hf3, va_up_ne _ _ (show a ≠ q from (cell_ne Fa2 Fq2 (by intro e8; first | (cases e8; done) | (simp at e8; done))))]; exact Fa2
      have F_q_3 : f3 q = refs k (va_up g2 0 (some x)) cO := by rw [hf3]; exact va_up_self _ _ _
      have hD : va_D (mA L sz) (va_pl (L ++ [q]) f3) := hE.D
      refine lv_aload_n hx hb dJx4a65c_add_72be8_15 rfl (lv_at hl 1 rfl) ?_
      refine lv_iload_n hx hb dJx4a65c_add_72be8_16 rfl (lv_at hl 3 rfl) ?_
      refine lv_iconst (v := (nI 1)) hx hb dJx4a65c_add_72be8_17 (by decide) ?_
      refine lv_iaddN hx hb dJx4a65c_add_72be8_18 ?_
      refine pl_put (D := D) (ci := 0) (v := .int (nI (0 + 1))) (ty := .int) (C := RJx4a65c) (T := TJx4a65c) (N := 3) hx hb hts (by decide +kernel) tyJx4a65c tyJx4a65c_ok nmJx4a65c hown hK.1 hP hD hS Ma2 F_a_3 rfl 2 (by decide) (hts (.fieldLink RJx4a65c 48 "java/util/ArrayList" "size" "I") (by decide +kernel)) (fun _ h9 => h9) rfl (by decide +kernel) rfl rfl (Nat.le_of_ble_eq_true rfl) dJx4a65c_add_72be8_19 (fun H locs hP hS => ?_)
      replace hP : va_P D vwCl (va_pl (L ++ [q]) (va_up f3 a (.inr (0, [.int mc, .ref q, .int (nI (0 + 1))])))) H := hP
      obtain ⟨f4, hf4⟩ : ∃ z, z = va_up f3 a (.inr (0, [.int mc, .ref q, .int (nI (0 + 1))])) := ⟨_, rfl⟩
      rw [← hf4] at hP
      have F_q_4 : f4 q = refs k (va_up g2 0 (some x)) cO := by rw [hf4, va_up_ne _ _ (show q ≠ a from (cell_ne F_q_3 F_a_3 (by intro e8; first | (cases e8; done) | (simp at e8; done))))]; exact F_q_3
      have F_a_4 : f4 a = .inr (0, [.int mc, .ref q, .int (nI (0 + 1))]) := by rw [hf4]; exact va_up_self _ _ _
      have hD : va_D (mA L sz) (va_pl (L ++ [q]) f4) := hE.D
      refine W.widen (k := 1) (n := k) (by omega) (by omega) ?_
      exact W.vret hx hb hr (fun t ht hW => ⟨⟨((L ++ [q]), f4), rfl, ⟨⟨q, k, va_up g2 0 (some x), Or.inr ⟨rfl, hq, rfl, rfl⟩, F_a_4, F_q_4, by omega, fun i hi => by rw [va_up_ne _ _ (show i ≠ 0 by omega)]; exact hg2 i hi, va_up_self _ _ _, fun b h1 h2 => by show f4 b = f b; rw [hf4, va_up_ne _ _ h1, hf3, va_up_ne _ _ h2, va_up_ne _ _ h1, va_up_ne _ _ h2]⟩, hE⟩, show va_P D vwCl (va_pl _ _) t.heap from (by rw [ht]; exact hP)⟩, hS.F ht⟩) hS.2.2 dJx4a65c_add_72be8_22
  · have hx2 := hx
    refine lv_iload_n hx hb dJx4a65c_add_72be8_0 rfl (lv_at hl 3 rfl) ?_
    refine lv_aload_n hx hb dJx4a65c_add_72be8_1 rfl (lv_at hl 2 rfl) ?_
    refine pl_alen (D := D) hx hb hK.1 hP 0 hd hfd rfl dJx4a65c_add_72be8_2 ?_
    refine lv_icmp_ne (tgt := 11) hx hb dJx4a65c_add_72be8_3 (by decide) (fun c_5 => ?_) (fun c_5 => ?_)
    · exact absurd (by rw [hcn9]) c_5
    · rw [← hcn9] at hfd e4
      refine lv_aload_n hx hb dJx4a65c_add_72be8_6 rfl (lv_at hl 0 rfl) ?_
      have hszH : sz ≤ H.size := by have := hS.1; omega
      have hPold := hP
      refine va_callq (va_runV (As := []) (rest := []) ⟨hx, hb, hml, hown, hts⟩ (c_Jx4a65c_grow_d5877 l D cO mi e0 L f H.size hE.nd a ha mc d c hf g k (Or.inr ⟨hd, hfd, by omega, by omega, e4, hel⟩)) (cwV 0 hts gJx4a65c_add_72be8_Jx4a65c_grow_d5877 rfl rfl rfl (by decide +kernel) ⟨Nat.le_of_ble_eq_true rfl, Nat.le_of_ble_eq_true rfl⟩) (mW_V hK hJ hS (hE.sub (by have := hS.1; omega)) hP 0 rfl ha hf) rfl rfl hl.1 rfl (lv_room (Nat.le_of_ble_eq_true rfl)) dJx4a65c_add_72be8_7 ⟨Nat.le_refl _, by show 0 + k ≤ k; omega⟩) hS (fun q _ h => (hE.sub (by have := hS.1; omega)) q h) (hE.sub (by have := hS.1; omega)) (fun r_6 u t H1 locs ht hvm hw hB hz1 hk1 hS => ?_)
      obtain ⟨L6, f6⟩ := u
      obtain ⟨hw, hE1⟩ := hw
      replace hB : va_P D vwCl (va_pl L6 f6) t.heap := hB
      rw [ht] at hB
      replace hE : pext L sz L6 := hE.tr (hszH) hE1
      obtain ⟨q, g2, hr1, hq, hu, hg2⟩ := hw
      subst hr1
      cases hu
      have Fq2 : va_up (va_up f q (refs k g2 cO)) a (alc mc q c) q = refs k g2 cO := by rw [va_up_ne _ _ (show q ≠ a from fun e9 => hq (e9 ▸ ha))]; exact va_up_self _ _ _
      have Fa2 : va_up (va_up f q (refs k g2 cO)) a (alc mc q c) a = alc mc q c := va_up_self _ _ _
      have Ma2 := List.mem_append_left [q] ha
      have Mq2 : q ∈ L ++ [q] := List.mem_append_right _ (List.mem_singleton.mpr rfl)
      clear hPold hP hk1 hz1 hvm ht hszH hE1
      have hP := hB
      clear hB
      generalize H1 = H at hP hS ⊢
      have hD : va_D (mA L sz) (va_pl (L ++ [q]) (va_up (va_up f q (refs k g2 cO)) a (alc mc q c))) := hE.D
      refine lv_astore_n (lv' := [(2, .ref q), (0, .ref a), (1, .ref x), (3, .int (nI c))]) hx hb dJx4a65c_add_72be8_10 rfl hl (by decide) rfl (fun ls hl => ?_)
      refine lv_aload_n hx hb dJx4a65c_add_72be8_11 rfl (lv_at hl 0 rfl) ?_
      refine lv_iload_n hx hb dJx4a65c_add_72be8_12 rfl (lv_at hl 3 rfl) ?_
      refine lv_aload_n hx hb dJx4a65c_add_72be8_13 rfl (lv_at hl 2 rfl) ?_
      refine pl_aast (D := D) hx hb hK.1 hP hD hS 0 Mq2 Fq2 rfl (mobj.any hK hP (mobj.up (mobj.up hxo (fun _ z => List.mem_append_left [q] z) (show x ≠ q from fun e9 => hq (e9 ▸ hxo.1))) (fun _ z => z) (show x ≠ a from hxo.neal hf))) (i := c) (by omega) (by omega) dJx4a65c_add_72be8_14 (fun H locs hP hS => ?_)
      obtain ⟨f7, hf7⟩ : ∃ z, z = va_up (va_up (va_up f q (refs k g2 cO)) a (alc mc q c)) q (refs k (va_up g2 c (some x)) cO) := ⟨_, rfl⟩
      rw [← hf7] at hP
      have F_a_7 : f7 a = .inr (0, [.int mc, .ref q, .int (nI c)]) := by rw [hf7, va_up_ne _ _ (show a ≠ q from (cell_ne Fa2 Fq2 (by intro e8; first | (cases e8; done) | (simp at e8; done))))]; exact Fa2
      have F_q_7 : f7 q = refs k (va_up g2 c (some x)) cO := by rw [hf7]; exact va_up_self _ _ _
      have hD : va_D (mA L sz) (va_pl (L ++ [q]) f7) := hE.D
      refine lv_aload_n hx hb dJx4a65c_add_72be8_15 rfl (lv_at hl 1 rfl) ?_
      refine lv_iload_n hx hb dJx4a65c_add_72be8_16 rfl (lv_at hl 3 rfl) ?_
      refine lv_iconst (v := (nI 1)) hx hb dJx4a65c_add_72be8_17 (by decide) ?_
      refine lv_iaddN hx hb dJx4a65c_add_72be8_18 ?_
      refine pl_put (D := D) (ci := 0) (v := .int (nI (c + 1))) (ty := .int) (C := RJx4a65c) (T := TJx4a65c) (N := 3) hx hb hts (by decide +kernel) tyJx4a65c tyJx4a65c_ok nmJx4a65c hown hK.1 hP hD hS Ma2 F_a_7 rfl 2 (by decide) (hts (.fieldLink RJx4a65c 48 "java/util/ArrayList" "size" "I") (by decide +kernel)) (fun _ h9 => h9) rfl (by decide +kernel) rfl rfl (Nat.le_of_ble_eq_true rfl) dJx4a65c_add_72be8_19 (fun H locs hP hS => ?_)
      replace hP : va_P D vwCl (va_pl (L ++ [q]) (va_up f7 a (.inr (0, [.int mc, .ref q, .int (nI (c + 1))])))) H := hP
      obtain ⟨f8, hf8⟩ : ∃ z, z = va_up f7 a (.inr (0, [.int mc, .ref q, .int (nI (c + 1))])) := ⟨_, rfl⟩
      rw [← hf8] at hP
      have F_q_8 : f8 q = refs k (va_up g2 c (some x)) cO := by rw [hf8, va_up_ne _ _ (show q ≠ a from (cell_ne F_q_7 F_a_7 (by intro e8; first | (cases e8; done) | (simp at e8; done))))]; exact F_q_7
      have F_a_8 : f8 a = .inr (0, [.int mc, .ref q, .int (nI (c + 1))]) := by rw [hf8]; exact va_up_self _ _ _
      have hD : va_D (mA L sz) (va_pl (L ++ [q]) f8) := hE.D
      refine W.widen (k := 1) (n := k) (by omega) (by omega) ?_
      exact W.vret hx hb hr (fun t ht hW => ⟨⟨((L ++ [q]), f8), rfl, ⟨⟨q, k, va_up g2 c (some x), Or.inr ⟨rfl, hq, rfl, hcn9⟩, F_a_8, F_q_8, by omega, fun i hi => by rw [va_up_ne _ _ (show i ≠ c by omega)]; exact hg2 i hi, va_up_self _ _ _, fun b h1 h2 => by show f8 b = f b; rw [hf8, va_up_ne _ _ h1, hf7, va_up_ne _ _ h2, va_up_ne _ _ h1, va_up_ne _ _ h2]⟩, hE⟩, show va_P D vwCl (va_pl _ _) t.heap from (by rw [ht]; exact hP)⟩, hS.F ht⟩) hS.2.2 dJx4a65c_add_72be8_22
set_option maxHeartbeats 4000000 in
set_option maxRecDepth 100000 in
theorem c_Jx4a65c_addG (l : Launch) (D : va_G) (cO : ClassId) (mi e0 : Nat) (L : List Nat) (f : Nat → va_E) (sz : Nat) (hnd : L.Nodup) (a : Nat) (ha : a ∈ L) (mc : Int32) (d c : Nat) (hf : f a = alc mc d c) (x : Nat) (hxo : mobj L f x) (n k : Nat) (g : Nat → Option Nat) (hg : alG e0 cO L f d c n k g) (hcn9 : c = n) : Met l yJx4a65c_add_9ea2d wsJx4a65c_add_9ea2d { frames := 6, cells := 1, slots := k, locals := 170 } (mW D cO mi e0 L f sz [.ref a, .ref x]) (wQi D L sz (fun r u => r = nI 1 ∧ alPost cO L f a d c n k g (mc + nI 1) x u)) 1 k (mA L sz) := by
  refine Met.ofW (cc := cJx4a65c_add_9ea2d) (maxL := 2) (ret := (some .boolean)) (by decide) rfl ?_
  intro p e s m args below meth cq s₁ B hml hv
  obtain ⟨rfl, hsz, hP, hK, hJ⟩ := hv
  have hx := B.exec
  have hb := B.bytes
  have hr := B.returns
  have hts := atoms_spec (ws := wsJx4a65c_add_9ea2d) B.pre
  have hown : s.vm.findClass RJx4a65c = some m.cls := findClass_of_methodNamed B.named
  have hlocks := B.notSynchronized
  have hin := (name_of_methodNamed B.named B.method).1
  clear B
  have hl := lv_entry ([.ref a, .ref x]) (n := 2) (Nat.le_of_ble_eq_true rfl)
  rw [lg_entry_eq]
  generalize (lg_sl ([.ref a, .ref x]) ++ List.replicate (2 - (lg_sl ([.ref a, .ref x])).length) Slot.unset).toArray = ls at hl ⊢
  replace hl : lv_has ls 2 [(0, .ref a), (1, .ref x)] := hl
  have hA : ∀ q : Nat, s.heap.size ≤ q → mA L sz q := fun q h => Or.inr (by omega)
  have hE : pext L sz L := pext.rf hnd
  have hD : va_D (mA L sz) (va_pl L f) := hE.D
  refine gen_start (A := mA L sz) (fun H locs hP hS => ?_) hP
  refine lv_aload_n hx hb dJx4a65c_add_9ea2d_0 rfl (lv_at hl 0 rfl) ?_
  refine lv_dup hx hb dJx4a65c_add_9ea2d_1 rfl ?_
  refine pl_get (D := D) (ci := 0) (v := .int mc) (C := RJx4a65c) (T := TJx4a65c) (N := 3) hx hb hts (by decide +kernel) hown hK.1 hP ha hf rfl 0 (by decide) (hts (.fieldLink RJx4a65c 63 "java/util/ArrayList" "modCount" "I") (by decide +kernel)) (fun x9 h9 => u_same (hts (.sameField "java/util/ArrayList" "java/util/AbstractList" "modCount" "I") (by decide +kernel)) x9 h9) rfl dJx4a65c_add_9ea2d_2 ?_
  refine lv_iconst (v := (nI 1)) hx hb dJx4a65c_add_9ea2d_5 (by decide) ?_
  refine lv_iadd hx hb dJx4a65c_add_9ea2d_6 ?_
  refine pl_put (D := D) (ci := 0) (v := .int (mc + (nI 1))) (ty := .int) (C := RJx4a65c) (T := TJx4a65c) (N := 3) hx hb hts (by decide +kernel) tyJx4a65c tyJx4a65c_ok nmJx4a65c hown hK.1 hP hD hS ha hf rfl 0 (by decide) (hts (.fieldLink RJx4a65c 63 "java/util/ArrayList" "modCount" "I") (by decide +kernel)) (fun x9 h9 => u_same (hts (.sameField "java/util/ArrayList" "java/util/AbstractList" "modCount" "I") (by decide +kernel)) x9 h9) rfl (by decide +kernel) rfl rfl (Nat.le_of_ble_eq_true rfl) dJx4a65c_add_9ea2d_7 (fun H locs hP hS => ?_)
  replace hP : va_P D vwCl (va_pl L (va_up f a (.inr (0, [.int (mc + (nI 1)), .ref d, .int (nI c)])))) H := hP
  obtain ⟨f1, hf1⟩ : ∃ z, z = va_up f a (.inr (0, [.int (mc + (nI 1)), .ref d, .int (nI c)])) := ⟨_, rfl⟩
  rw [← hf1] at hP
  have F_a_1 : f1 a = .inr (0, [.int (mc + (nI 1)), .ref d, .int (nI c)]) := by rw [hf1]; exact va_up_self _ _ _
  have hD : va_D (mA L sz) (va_pl L f1) := hE.D
  refine lv_aload_n hx hb dJx4a65c_add_9ea2d_10 rfl (lv_at hl 0 rfl) ?_
  refine lv_aload_n hx hb dJx4a65c_add_9ea2d_11 rfl (lv_at hl 1 rfl) ?_
  refine lv_aload_n hx hb dJx4a65c_add_9ea2d_12 rfl (lv_at hl 0 rfl) ?_
  refine pl_get (D := D) (ci := 0) (v := .ref d) (C := RJx4a65c) (T := TJx4a65c) (N := 3) hx hb hts (by decide +kernel) hown hK.1 hP ha F_a_1 rfl 1 (by decide) (hts (.fieldLink RJx4a65c 9 "java/util/ArrayList" "elementData" "[Ljava/lang/Object;") (by decide +kernel)) (fun _ h9 => h9) rfl dJx4a65c_add_9ea2d_13 ?_
  refine lv_aload_n hx hb dJx4a65c_add_9ea2d_16 rfl (lv_at hl 0 rfl) ?_
  refine pl_get (D := D) (ci := 0) (v := .int (nI c)) (C := RJx4a65c) (T := TJx4a65c) (N := 3) hx hb hts (by decide +kernel) hown hK.1 hP ha F_a_1 rfl 2 (by decide) (hts (.fieldLink RJx4a65c 48 "java/util/ArrayList" "size" "I") (by decide +kernel)) (fun _ h9 => h9) rfl dJx4a65c_add_9ea2d_17 ?_
  have hszH : sz ≤ H.size := by have := hS.1; omega
  have hPold := hP
  refine va_callv (va_runV (As := [.ref x, .ref d, .int (nI c)]) (rest := []) ⟨hx, hb, hml, hown, hts⟩ (c_Jx4a65c_add3G l D cO mi e0 L f1 H.size hE.nd a ha (mc + nI 1) d c F_a_1 x (by rw [hf1]; exact hxo.up (fun _ z => z) (hxo.neal hf)) n k g (by rw [hf1]; exact hg.up hf) hcn9) (cwV 3 hts gJx4a65c_add_9ea2d_Jx4a65c_add_72be8 rfl rfl rfl (by decide +kernel) ⟨Nat.le_of_ble_eq_true rfl, Nat.le_of_ble_eq_true rfl⟩) (mW_V hK hJ hS (hE.sub (by have := hS.1; omega)) hP 0 rfl ha F_a_1) rfl rfl hl.1 rfl (lv_room (Nat.le_of_ble_eq_true rfl)) dJx4a65c_add_9ea2d_20 ⟨Nat.le_refl _, by show 0 + k ≤ k; omega⟩) hS (fun q _ h => (hE.sub (by have := hS.1; omega)) q h) (hE.sub (by have := hS.1; omega)) (fun u t H1 locs ht hvm hw hB hz1 hk1 hS => ?_)
  obtain ⟨L2, f2⟩ := u
  obtain ⟨hw, hE1⟩ := hw
  replace hB : va_P D vwCl (va_pl L2 f2) t.heap := hB
  rw [ht] at hB
  replace hE : pext L sz L2 := hE.tr (hszH) hE1
  obtain ⟨d2, n2, g2, hw1, hw2, hw3, hw4, hw5, hw6, hw7⟩ := hw
  clear hPold hP hk1 hz1 hvm ht hszH hE1
  have hP := hB
  clear hB
  generalize H1 = H at hP hS ⊢
  have hD : va_D (mA L sz) (va_pl L2 f2) := hE.D
  refine lv_iconst (v := (nI 1)) hx hb dJx4a65c_add_9ea2d_23 (by decide) ?_
  refine W.widen (k := 1) (n := k) (by first | exact Nat.le_refl _ | omega) (by omega) ?_
  exact W.zret (v := (nI 1)) hx hb hr rfl (fun t ht hW => ⟨⟨(nI 1), (L2, f2), rfl, ⟨⟨rfl, d2, n2, g2, hw1, hw2, hw3, hw4, hw5, hw6, fun b h1 h2 => (hw7 b h1 h2).trans (by rw [hf1, va_up_ne _ _ h1])⟩, hE⟩, show va_P D vwCl (va_pl _ _) t.heap from (by rw [ht]; exact hP)⟩, hS.F ht⟩) hS.2.2 dJx4a65c_add_9ea2d_24
set_option maxHeartbeats 4000000 in
set_option maxRecDepth 100000 in
theorem c_Jx4a65c_add3N (l : Launch) (D : va_G) (cO : ClassId) (mi e0 : Nat) (L : List Nat) (f : Nat → va_E) (sz : Nat) (hnd : L.Nodup) (a : Nat) (ha : a ∈ L) (mc : Int32) (d c : Nat) (hf : f a = alc mc d c) (x : Nat) (hxo : mobj L f x) (n k : Nat) (g : Nat → Option Nat) (hg : alG e0 cO L f d c n k g) (hcn9 : c < n) : Met l yJx4a65c_add_72be8 wsJx4a65c_add_72be8 { frames := 0, cells := 0, slots := 0, locals := 0 } (mW D cO mi e0 L f sz [.ref a, .ref x, .ref d, .int (nI c)]) (wQv D L sz (fun u => alPost cO L f a d c n k g mc x u)) 0 0 (mA L sz) := by
  refine Met.ofW (cc := cJx4a65c_add_72be8) (maxL := 4) (ret := none) (by decide) rfl ?_
  intro p e s m args below meth cq s₁ B hml hv
  obtain ⟨rfl, hsz, hP, hK, hJ⟩ := hv
  have hx := B.exec
  have hb := B.bytes
  have hr := B.returns
  have hts := atoms_spec (ws := wsJx4a65c_add_72be8) B.pre
  have hown : s.vm.findClass RJx4a65c = some m.cls := findClass_of_methodNamed B.named
  have hlocks := B.notSynchronized
  have hin := (name_of_methodNamed B.named B.method).1
  clear B
  have hl := lv_entry ([.ref a, .ref x, .ref d, .int (nI c)]) (n := 4) (Nat.le_of_ble_eq_true rfl)
  rw [lg_entry_eq]
  generalize (lg_sl ([.ref a, .ref x, .ref d, .int (nI c)]) ++ List.replicate (4 - (lg_sl ([.ref a, .ref x, .ref d, .int (nI c)])).length) Slot.unset).toArray = ls at hl ⊢
  replace hl : lv_has ls 4 [(0, .ref a), (1, .ref x), (2, .ref d), (3, .int (nI c))] := hl
  have hA : ∀ q : Nat, s.heap.size ≤ q → mA L sz q := fun q h => Or.inr (by omega)
  have hE : pext L sz L := pext.rf hnd
  have hD : va_D (mA L sz) (va_pl L f) := hE.D
  refine gen_start (A := mA L sz) (fun H locs hP hS => ?_) hP
  rcases hg with ⟨e1, e2, e3, e4⟩ | ⟨hd, hfd, hn2, hn3, hcn, e4, hel⟩
  · exact absurd hcn9 (by omega)
  · have hx2 := hx
    refine lv_iload_n hx hb dJx4a65c_add_72be8_0 rfl (lv_at hl 3 rfl) ?_
    refine lv_aload_n hx hb dJx4a65c_add_72be8_1 rfl (lv_at hl 2 rfl) ?_
    refine pl_alen (D := D) hx hb hK.1 hP 0 hd hfd rfl dJx4a65c_add_72be8_2 ?_
    refine lv_icmp_ne (tgt := 11) hx hb dJx4a65c_add_72be8_3 (by decide) (fun c_1 => ?_) (fun c_1 => ?_)
    · refine lv_aload_n hx hb dJx4a65c_add_72be8_11 rfl (lv_at hl 2 rfl) ?_
      refine lv_iload_n hx hb dJx4a65c_add_72be8_12 rfl (lv_at hl 3 rfl) ?_
      refine lv_aload_n hx hb dJx4a65c_add_72be8_13 rfl (lv_at hl 1 rfl) ?_
      refine pl_aast (D := D) hx hb hK.1 hP hD hS 0 hd hfd rfl (mobj.any hK hP hxo) (i := c) (by omega) (by omega) dJx4a65c_add_72be8_14 (fun H locs hP hS => ?_)
      obtain ⟨f2, hf2⟩ : ∃ z, z = va_up f d (refs n (va_up g c (some x)) cO) := ⟨_, rfl⟩
      rw [← hf2] at hP
      have F_a_2 : f2 a = .inr (0, [.int mc, .ref d, .int (nI c)]) := by rw [hf2, va_up_ne _ _ (show a ≠ d from (cell_ne hf hfd (by intro e8; first | (cases e8; done) | (simp at e8; done))))]; exact hf
      have F_d_2 : f2 d = refs n (va_up g c (some x)) cO := by rw [hf2]; exact va_up_self _ _ _
      have hD : va_D (mA L sz) (va_pl L f2) := hE.D
      refine lv_aload_n hx hb dJx4a65c_add_72be8_15 rfl (lv_at hl 0 rfl) ?_
      refine lv_iload_n hx hb dJx4a65c_add_72be8_16 rfl (lv_at hl 3 rfl) ?_
      refine lv_iconst (v := (nI 1)) hx hb dJx4a65c_add_72be8_17 (by decide) ?_
      refine lv_iaddN hx hb dJx4a65c_add_72be8_18 ?_
      refine pl_put (D := D) (ci := 0) (v := .int (nI (c + 1))) (ty := .int) (C := RJx4a65c) (T := TJx4a65c) (N := 3) hx hb hts (by decide +kernel) tyJx4a65c tyJx4a65c_ok nmJx4a65c hown hK.1 hP hD hS ha F_a_2 rfl 2 (by decide) (hts (.fieldLink RJx4a65c 48 "java/util/ArrayList" "size" "I") (by decide +kernel)) (fun _ h9 => h9) rfl (by decide +kernel) rfl rfl (Nat.le_of_ble_eq_true rfl) dJx4a65c_add_72be8_19 (fun H locs hP hS => ?_)
      replace hP : va_P D vwCl (va_pl L (va_up f2 a (.inr (0, [.int mc, .ref d, .int (nI (c + 1))])))) H := hP
      obtain ⟨f3, hf3⟩ : ∃ z, z = va_up f2 a (.inr (0, [.int mc, .ref d, .int (nI (c + 1))])) := ⟨_, rfl⟩
      rw [← hf3] at hP
      have F_d_3 : f3 d = refs n (va_up g c (some x)) cO := by rw [hf3, va_up_ne _ _ (show d ≠ a from (cell_ne F_d_2 F_a_2 (by intro e8; first | (cases e8; done) | (simp at e8; done))))]; exact F_d_2
      have F_a_3 : f3 a = .inr (0, [.int mc, .ref d, .int (nI (c + 1))]) := by rw [hf3]; exact va_up_self _ _ _
      have hD : va_D (mA L sz) (va_pl L f3) := hE.D
      refine W.widen (k := 0) (n := 0) (by omega) (by omega) ?_
      exact W.vret hx hb hr (fun t ht hW => ⟨⟨(L, f3), rfl, ⟨⟨d, n, va_up g c (some x), Or.inl ⟨rfl, rfl, rfl, hd⟩, F_a_3, F_d_3, by omega, fun i hi => va_up_ne _ _ (show i ≠ c by omega), va_up_self _ _ _, fun b h1 h2 => by show f3 b = f b; rw [hf3, va_up_ne _ _ h1, hf2, va_up_ne _ _ h2]⟩, hE⟩, show va_P D vwCl (va_pl _ _) t.heap from (by rw [ht]; exact hP)⟩, hS.F ht⟩) hS.2.2 dJx4a65c_add_72be8_22
    · exact absurd ((nI_eq (by omega) (by omega)).mp c_1) (by omega)
set_option maxHeartbeats 4000000 in
set_option maxRecDepth 100000 in
theorem c_Jx4a65c_addN (l : Launch) (D : va_G) (cO : ClassId) (mi e0 : Nat) (L : List Nat) (f : Nat → va_E) (sz : Nat) (hnd : L.Nodup) (a : Nat) (ha : a ∈ L) (mc : Int32) (d c : Nat) (hf : f a = alc mc d c) (x : Nat) (hxo : mobj L f x) (n k : Nat) (g : Nat → Option Nat) (hg : alG e0 cO L f d c n k g) (hcn9 : c < n) : Met l yJx4a65c_add_9ea2d wsJx4a65c_add_9ea2d { frames := 1, cells := 0, slots := 0, locals := 23 } (mW D cO mi e0 L f sz [.ref a, .ref x]) (wQi D L sz (fun r u => r = nI 1 ∧ alPost cO L f a d c n k g (mc + nI 1) x u)) 0 0 (mA L sz) := by
  refine Met.ofW (cc := cJx4a65c_add_9ea2d) (maxL := 2) (ret := (some .boolean)) (by decide) rfl ?_
  intro p e s m args below meth cq s₁ B hml hv
  obtain ⟨rfl, hsz, hP, hK, hJ⟩ := hv
  have hx := B.exec
  have hb := B.bytes
  have hr := B.returns
  have hts := atoms_spec (ws := wsJx4a65c_add_9ea2d) B.pre
  have hown : s.vm.findClass RJx4a65c = some m.cls := findClass_of_methodNamed B.named
  have hlocks := B.notSynchronized
  have hin := (name_of_methodNamed B.named B.method).1
  clear B
  have hl := lv_entry ([.ref a, .ref x]) (n := 2) (Nat.le_of_ble_eq_true rfl)
  rw [lg_entry_eq]
  generalize (lg_sl ([.ref a, .ref x]) ++ List.replicate (2 - (lg_sl ([.ref a, .ref x])).length) Slot.unset).toArray = ls at hl ⊢
  replace hl : lv_has ls 2 [(0, .ref a), (1, .ref x)] := hl
  have hA : ∀ q : Nat, s.heap.size ≤ q → mA L sz q := fun q h => Or.inr (by omega)
  have hE : pext L sz L := pext.rf hnd
  have hD : va_D (mA L sz) (va_pl L f) := hE.D
  refine gen_start (A := mA L sz) (fun H locs hP hS => ?_) hP
  refine lv_aload_n hx hb dJx4a65c_add_9ea2d_0 rfl (lv_at hl 0 rfl) ?_
  refine lv_dup hx hb dJx4a65c_add_9ea2d_1 rfl ?_
  refine pl_get (D := D) (ci := 0) (v := .int mc) (C := RJx4a65c) (T := TJx4a65c) (N := 3) hx hb hts (by decide +kernel) hown hK.1 hP ha hf rfl 0 (by decide) (hts (.fieldLink RJx4a65c 63 "java/util/ArrayList" "modCount" "I") (by decide +kernel)) (fun x9 h9 => u_same (hts (.sameField "java/util/ArrayList" "java/util/AbstractList" "modCount" "I") (by decide +kernel)) x9 h9) rfl dJx4a65c_add_9ea2d_2 ?_
  refine lv_iconst (v := (nI 1)) hx hb dJx4a65c_add_9ea2d_5 (by decide) ?_
  refine lv_iadd hx hb dJx4a65c_add_9ea2d_6 ?_
  refine pl_put (D := D) (ci := 0) (v := .int (mc + (nI 1))) (ty := .int) (C := RJx4a65c) (T := TJx4a65c) (N := 3) hx hb hts (by decide +kernel) tyJx4a65c tyJx4a65c_ok nmJx4a65c hown hK.1 hP hD hS ha hf rfl 0 (by decide) (hts (.fieldLink RJx4a65c 63 "java/util/ArrayList" "modCount" "I") (by decide +kernel)) (fun x9 h9 => u_same (hts (.sameField "java/util/ArrayList" "java/util/AbstractList" "modCount" "I") (by decide +kernel)) x9 h9) rfl (by decide +kernel) rfl rfl (Nat.le_of_ble_eq_true rfl) dJx4a65c_add_9ea2d_7 (fun H locs hP hS => ?_)
  replace hP : va_P D vwCl (va_pl L (va_up f a (.inr (0, [.int (mc + (nI 1)), .ref d, .int (nI c)])))) H := hP
  obtain ⟨f1, hf1⟩ : ∃ z, z = va_up f a (.inr (0, [.int (mc + (nI 1)), .ref d, .int (nI c)])) := ⟨_, rfl⟩
  rw [← hf1] at hP
  have F_a_1 : f1 a = .inr (0, [.int (mc + (nI 1)), .ref d, .int (nI c)]) := by rw [hf1]; exact va_up_self _ _ _
  have hD : va_D (mA L sz) (va_pl L f1) := hE.D
  refine lv_aload_n hx hb dJx4a65c_add_9ea2d_10 rfl (lv_at hl 0 rfl) ?_
  refine lv_aload_n hx hb dJx4a65c_add_9ea2d_11 rfl (lv_at hl 1 rfl) ?_
  refine lv_aload_n hx hb dJx4a65c_add_9ea2d_12 rfl (lv_at hl 0 rfl) ?_
  refine pl_get (D := D) (ci := 0) (v := .ref d) (C := RJx4a65c) (T := TJx4a65c) (N := 3) hx hb hts (by decide +kernel) hown hK.1 hP ha F_a_1 rfl 1 (by decide) (hts (.fieldLink RJx4a65c 9 "java/util/ArrayList" "elementData" "[Ljava/lang/Object;") (by decide +kernel)) (fun _ h9 => h9) rfl dJx4a65c_add_9ea2d_13 ?_
  refine lv_aload_n hx hb dJx4a65c_add_9ea2d_16 rfl (lv_at hl 0 rfl) ?_
  refine pl_get (D := D) (ci := 0) (v := .int (nI c)) (C := RJx4a65c) (T := TJx4a65c) (N := 3) hx hb hts (by decide +kernel) hown hK.1 hP ha F_a_1 rfl 2 (by decide) (hts (.fieldLink RJx4a65c 48 "java/util/ArrayList" "size" "I") (by decide +kernel)) (fun _ h9 => h9) rfl dJx4a65c_add_9ea2d_17 ?_
  have hszH : sz ≤ H.size := by have := hS.1; omega
  have hPold := hP
  refine va_callv (va_runV (As := [.ref x, .ref d, .int (nI c)]) (rest := []) ⟨hx, hb, hml, hown, hts⟩ (c_Jx4a65c_add3N l D cO mi e0 L f1 H.size hE.nd a ha (mc + nI 1) d c F_a_1 x (by rw [hf1]; exact hxo.up (fun _ z => z) (hxo.neal hf)) n k g (by rw [hf1]; exact hg.up hf) hcn9) (cwV 3 hts gJx4a65c_add_9ea2d_Jx4a65c_add_72be8 rfl rfl rfl (by decide +kernel) ⟨Nat.le_of_ble_eq_true rfl, Nat.le_of_ble_eq_true rfl⟩) (mW_V hK hJ hS (hE.sub (by have := hS.1; omega)) hP 0 rfl ha F_a_1) rfl rfl hl.1 rfl (lv_room (Nat.le_of_ble_eq_true rfl)) dJx4a65c_add_9ea2d_20 ⟨Nat.le_refl _, Nat.le_refl _⟩) hS (fun q _ h => (hE.sub (by have := hS.1; omega)) q h) (hE.sub (by have := hS.1; omega)) (fun u t H1 locs ht hvm hw hB hz1 hk1 hS => ?_)
  obtain ⟨L2, f2⟩ := u
  obtain ⟨hw, hE1⟩ := hw
  replace hB : va_P D vwCl (va_pl L2 f2) t.heap := hB
  rw [ht] at hB
  replace hE : pext L sz L2 := hE.tr (hszH) hE1
  obtain ⟨d2, n2, g2, hw1, hw2, hw3, hw4, hw5, hw6, hw7⟩ := hw
  clear hPold hP hk1 hz1 hvm ht hszH hE1
  have hP := hB
  clear hB
  generalize H1 = H at hP hS ⊢
  have hD : va_D (mA L sz) (va_pl L2 f2) := hE.D
  refine lv_iconst (v := (nI 1)) hx hb dJx4a65c_add_9ea2d_23 (by decide) ?_
  refine W.widen (k := 0) (n := 0) (by first | exact Nat.le_refl _ | omega) (by omega) ?_
  exact W.zret (v := (nI 1)) hx hb hr rfl (fun t ht hW => ⟨⟨(nI 1), (L2, f2), rfl, ⟨⟨rfl, d2, n2, g2, hw1, hw2, hw3, hw4, hw5, hw6, fun b h1 h2 => (hw7 b h1 h2).trans (by rw [hf1, va_up_ne _ _ h1])⟩, hE⟩, show va_P D vwCl (va_pl _ _) t.heap from (by rw [ht]; exact hP)⟩, hS.F ht⟩) hS.2.2 dJx4a65c_add_9ea2d_24
set_option maxHeartbeats 4000000 in
set_option maxRecDepth 100000 in
theorem c_Jxa1e45_init_da8c8 (l : Launch) (D : va_G) (cO : ClassId) (mi : Nat) (L : List Nat) (f : Nat → va_E) (a : Nat) : Met l yJxa1e45_init_da8c8 wsJxa1e45_init_da8c8 (rmC 1 12) (mP D cO mi L f [.ref a]) roV 0 0 (fun _ => False) := by
  refine Met.ofW (cc := cJxa1e45_init_da8c8) (maxL := 1) (ret := none) (by decide) rfl ?_
  intro p e s m args below meth cq s₁ B hml hv
  obtain ⟨rfl, hP, hK⟩ := hv
  have hx := B.exec
  have hb := B.bytes
  have hr := B.returns
  have hts := atoms_spec (ws := wsJxa1e45_init_da8c8) B.pre
  have hown : s.vm.findClass RJxa1e45 = some m.cls := findClass_of_methodNamed B.named
  have hlocks := B.notSynchronized
  clear B
  have hl := lv_entry ([.ref a]) (n := 1) (Nat.le_of_ble_eq_true rfl)
  rw [lg_entry_eq]
  generalize (lg_sl ([.ref a]) ++ List.replicate (1 - (lg_sl ([.ref a])).length) Slot.unset).toArray = ls at hl ⊢
  replace hl : lv_has ls 1 [(0, .ref a)] := hl
  refine gen_start (A := fun _ => False) (fun H locs hP hS => ?_) hP
  refine lv_aload_n hx hb dJxa1e45_init_da8c8_0 rfl (lv_at hl 0 rfl) ?_
  refine W.objInit hx hb hown (hts (.methodLink RJxa1e45 1 objectInit) (by decide +kernel)) (hts (.instanceMethod objectInit) (by decide +kernel)) (hts _ (List.mem_of_getElem? (i := 3) rfl)) rfl (by rw [hml]; exact hl.1) rfl dJxa1e45_init_da8c8_1 (Nat.le_of_ble_eq_true rfl) (Nat.le_of_ble_eq_true rfl) ?_
  refine W.eq (g2 := F0 m 4 ls []) rfl ?_
  exact W.vret hx hb hr (fun t ht hW => ⟨⟨(), rfl, trivial, trivial⟩, hS.F ht⟩) hS.2.2 dJxa1e45_init_da8c8_4
set_option maxHeartbeats 4000000 in
set_option maxRecDepth 100000 in
theorem c_Jxc12de_init_da8c8 (l : Launch) (D : va_G) (cO : ClassId) (mi e0 : Nat) (L : List Nat) (f : Nat → va_E) (sz : Nat) (hnd : L.Nodup) (a : Nat) (ha : a ∈ L) (hf : f a = .inr (0, [.int 0, .null, .int 0])) : Met l yJxc12de_init_da8c8 wsJxc12de_init_da8c8 { frames := 2, cells := 0, slots := 0, locals := 32 } (mW D cO mi e0 L f sz [.ref a]) (wQv D L sz (fun u => u = (L, va_up f a (.inr (0, [.int (nI 0), .null, .int 0]))))) 0 0 (mA L sz) := by
  refine Met.ofW (cc := cJxc12de_init_da8c8) (maxL := 1) (ret := none) (by decide) rfl ?_
  intro p e s m args below meth cq s₁ B hml hv
  obtain ⟨rfl, hsz, hP, hK, hJ⟩ := hv
  have hx := B.exec
  have hb := B.bytes
  have hr := B.returns
  have hts := atoms_spec (ws := wsJxc12de_init_da8c8) B.pre
  have hown : s.vm.findClass RJxc12de = some m.cls := findClass_of_methodNamed B.named
  have hlocks := B.notSynchronized
  have hin := (name_of_methodNamed B.named B.method).1
  clear B
  have hl := lv_entry ([.ref a]) (n := 1) (Nat.le_of_ble_eq_true rfl)
  rw [lg_entry_eq]
  generalize (lg_sl ([.ref a]) ++ List.replicate (1 - (lg_sl ([.ref a])).length) Slot.unset).toArray = ls at hl ⊢
  replace hl : lv_has ls 1 [(0, .ref a)] := hl
  have hA : ∀ q : Nat, s.heap.size ≤ q → mA L sz q := fun q h => Or.inr (by omega)
  have hE : pext L sz L := pext.rf hnd
  have hD : va_D (mA L sz) (va_pl L f) := hE.D
  refine gen_start (A := mA L sz) (fun H locs hP hS => ?_) hP
  refine lv_aload_n hx hb dJxc12de_init_da8c8_0 rfl (lv_at hl 0 rfl) ?_
  refine va_callv (va_runI (As := []) (rest := []) ⟨hx, hb, hml, hown, hts⟩ (c_Jxa1e45_init_da8c8 l D cO mi L f a) (cwI 0 hts gJxc12de_init_da8c8_Jxa1e45_init_da8c8 rfl rfl rfl (hts (.initialized RJxa1e45) (by decide +kernel)) (hts (.methodLink RJxc12de 1 yJxa1e45_init_da8c8) (by decide +kernel)) (hts (.instanceMethod yJxa1e45_init_da8c8) (by decide +kernel)) rfl (by decide +kernel) ⟨Nat.le_of_ble_eq_true rfl, Nat.le_of_ble_eq_true rfl⟩) (mP_S hK hP) rfl rfl hl.1 rfl (lv_room (Nat.le_of_ble_eq_true rfl)) dJxc12de_init_da8c8_1 ⟨Nat.zero_le _, Nat.zero_le _⟩) hS (fun _ _ h => h.elim) (fun _ h => h.elim) (fun u t H1 locs ht hvm hw hB hz1 hk1 hS => ?_)
  replace hP := ro_kept hP hk1
  clear hk1 hz1 hvm ht hB hw
  generalize H1 = H at hP hS ⊢
  refine lv_aload_n hx hb dJxc12de_init_da8c8_4 rfl (lv_at hl 0 rfl) ?_
  refine lv_iconst (v := (nI 0)) hx hb dJxc12de_init_da8c8_5 (by decide) ?_
  refine pl_put (D := D) (ci := 0) (v := .int (nI 0)) (ty := .int) (C := RJx4a65c) (T := TJx4a65c) (N := 3) hx hb hts (by decide +kernel) tyJx4a65c tyJx4a65c_ok nmJx4a65c hown hK.1 hP hD hS ha hf rfl 0 (by decide) (hts (.fieldLink RJxc12de 7 "java/util/AbstractList" "modCount" "I") (by decide +kernel)) (fun _ h9 => h9) rfl (by decide +kernel) rfl rfl (Nat.le_of_ble_eq_true rfl) dJxc12de_init_da8c8_6 (fun H locs hP hS => ?_)
  replace hP : va_P D vwCl (va_pl L (va_up f a (.inr (0, [.int (nI 0), .null, .int 0])))) H := hP
  obtain ⟨f1, hf1⟩ : ∃ z, z = va_up f a (.inr (0, [.int (nI 0), .null, .int 0])) := ⟨_, rfl⟩
  rw [← hf1] at hP
  have F_a_1 : f1 a = .inr (0, [.int (nI 0), .null, .int 0]) := by rw [hf1]; exact va_up_self _ _ _
  have hD : va_D (mA L sz) (va_pl L f1) := hE.D
  refine W.widen (k := 0) (n := 0) (by first | exact Nat.le_refl _ | omega) (by first | exact Nat.le_refl _ | omega) ?_
  exact W.vret hx hb hr (fun t ht hW => ⟨⟨(L, f1), rfl, ⟨(by rw [hf1]), hE⟩, show va_P D vwCl (va_pl _ _) t.heap from (by rw [ht]; exact hP)⟩, hS.F ht⟩) hS.2.2 dJxc12de_init_da8c8_9
set_option maxHeartbeats 4000000 in
set_option maxRecDepth 100000 in
theorem c_Jx4a65c_init_da8c8 (l : Launch) (D : va_G) (cO : ClassId) (mi e0 : Nat) (L : List Nat) (f : Nat → va_E) (sz : Nat) (hnd : L.Nodup) (a : Nat) (ha : a ∈ L) (hf : f a = .inr (0, [.int 0, .null, .int 0])) : Met l yJx4a65c_init_da8c8 wsJx4a65c_init_da8c8 { frames := 3, cells := 0, slots := 0, locals := 52 } (mW D cO mi e0 L f sz [.ref a]) (wQv D L sz (fun u => u = (L, va_up f a (alc (nI 0) e0 0)))) 0 0 (mA L sz) := by
  refine Met.ofW (cc := cJx4a65c_init_da8c8) (maxL := 1) (ret := none) (by decide) rfl ?_
  intro p e s m args below meth cq s₁ B hml hv
  obtain ⟨rfl, hsz, hP, hK, hJ⟩ := hv
  have hx := B.exec
  have hb := B.bytes
  have hr := B.returns
  have hts := atoms_spec (ws := wsJx4a65c_init_da8c8) B.pre
  have hown : s.vm.findClass RJx4a65c = some m.cls := findClass_of_methodNamed B.named
  have hlocks := B.notSynchronized
  have hin := (name_of_methodNamed B.named B.method).1
  clear B
  have hl := lv_entry ([.ref a]) (n := 1) (Nat.le_of_ble_eq_true rfl)
  rw [lg_entry_eq]
  generalize (lg_sl ([.ref a]) ++ List.replicate (1 - (lg_sl ([.ref a])).length) Slot.unset).toArray = ls at hl ⊢
  replace hl : lv_has ls 1 [(0, .ref a)] := hl
  have hA : ∀ q : Nat, s.heap.size ≤ q → mA L sz q := fun q h => Or.inr (by omega)
  have hE : pext L sz L := pext.rf hnd
  have hD : va_D (mA L sz) (va_pl L f) := hE.D
  refine gen_start (A := mA L sz) (fun H locs hP hS => ?_) hP
  refine lv_aload_n hx hb dJx4a65c_init_da8c8_0 rfl (lv_at hl 0 rfl) ?_
  have hszH : sz ≤ H.size := by have := hS.1; omega
  have hPold := hP
  refine va_callv (va_runI (As := []) (rest := []) ⟨hx, hb, hml, hown, hts⟩ (c_Jxc12de_init_da8c8 l D cO mi e0 L f H.size hE.nd a ha hf) (cwI 0 hts gJx4a65c_init_da8c8_Jxc12de_init_da8c8 rfl rfl rfl (hts (.initialized RJxc12de) (by decide +kernel)) (hts (.methodLink RJx4a65c 1 yJxc12de_init_da8c8) (by decide +kernel)) (hts (.instanceMethod yJxc12de_init_da8c8) (by decide +kernel)) rfl (by decide +kernel) ⟨Nat.le_of_ble_eq_true rfl, Nat.le_of_ble_eq_true rfl⟩) (mW_S hK hJ hS (hE.sub (by have := hS.1; omega)) hP) rfl rfl hl.1 rfl (lv_room (Nat.le_of_ble_eq_true rfl)) dJx4a65c_init_da8c8_1 ⟨Nat.le_refl _, Nat.le_refl _⟩) hS (fun q _ h => (hE.sub (by have := hS.1; omega)) q h) (hE.sub (by have := hS.1; omega)) (fun u t H1 locs ht hvm hw hB hz1 hk1 hS => ?_)
  obtain ⟨L1, f1⟩ := u
  obtain ⟨hw, hE1⟩ := hw
  replace hB : va_P D vwCl (va_pl L1 f1) t.heap := hB
  rw [ht] at hB
  replace hE : pext L sz L1 := hE.tr (hszH) hE1
  cases hw
  have Fa2 : va_up f a (.inr (0, [.int (nI 0), .null, .int 0])) a = .inr (0, [.int (nI 0), .null, .int 0]) := va_up_self _ _ _
  clear hPold hP hk1 hz1 hvm ht hszH hE1
  have hP := hB
  clear hB
  generalize H1 = H at hP hS ⊢
  have hD : va_D (mA L sz) (va_pl L (va_up f a (.inr (0, [.int (nI 0), .null, .int 0])))) := hE.D
  refine lv_aload_n hx hb dJx4a65c_init_da8c8_4 rfl (lv_at hl 0 rfl) ?_
  refine va_gets (v := .ref e0) hx hb hJ.1 hS hown (hts (.fieldLink RJx4a65c 39 "java/util/ArrayList" "DEFAULTCAPACITY_EMPTY_ELEMENTDATA" "[Ljava/lang/Object;") (by decide +kernel)) (fun _ h9 => h9) dJx4a65c_init_da8c8_5 ?_
  refine pl_put (D := D) (ci := 0) (v := .ref e0) (ty := .array (.object "java/lang/Object")) (C := RJx4a65c) (T := TJx4a65c) (N := 3) hx hb hts (by decide +kernel) tyJx4a65c tyJx4a65c_ok nmJx4a65c hown hK.1 hP hD hS ha Fa2 rfl 1 (by decide) (hts (.fieldLink RJx4a65c 9 "java/util/ArrayList" "elementData" "[Ljava/lang/Object;") (by decide +kernel)) (fun _ h9 => h9) rfl (by decide +kernel) rfl rfl (Nat.le_of_ble_eq_true rfl) dJx4a65c_init_da8c8_8 (fun H locs hP hS => ?_)
  replace hP : va_P D vwCl (va_pl L (va_up (va_up f a (.inr (0, [.int (nI 0), .null, .int 0]))) a (.inr (0, [.int (nI 0), .ref e0, .int 0])))) H := hP
  obtain ⟨f2, hf2⟩ : ∃ z, z = va_up (va_up f a (.inr (0, [.int (nI 0), .null, .int 0]))) a (.inr (0, [.int (nI 0), .ref e0, .int 0])) := ⟨_, rfl⟩
  rw [← hf2] at hP
  have F_a_2 : f2 a = .inr (0, [.int (nI 0), .ref e0, .int 0]) := by rw [hf2]; exact va_up_self _ _ _
  have hD : va_D (mA L sz) (va_pl L f2) := hE.D
  refine W.widen (k := 0) (n := 0) (by first | exact Nat.le_refl _ | omega) (by first | exact Nat.le_refl _ | omega) ?_
  exact W.vret hx hb hr (fun t ht hW => ⟨⟨(L, f2), rfl, ⟨(by rw [hf2, bx_uu]; rfl), hE⟩, show va_P D vwCl (va_pl _ _) t.heap from (by rw [ht]; exact hP)⟩, hS.F ht⟩) hS.2.2 dJx4a65c_init_da8c8_11
set_option maxHeartbeats 4000000 in
set_option maxRecDepth 100000 in
theorem c_Jx4a65c_clear_da8c8 (l : Launch) (D : va_G) (cO : ClassId) (mi e0 : Nat) (L : List Nat) (f : Nat → va_E) (sz : Nat) (hnd : L.Nodup) (a : Nat) (ha : a ∈ L) (mc : Int32) (d c : Nat) (hf : f a = alc mc d c) (n k : Nat) (g : Nat → Option Nat) (hg : alG e0 cO L f d c n k g) (he0 : e0 ∉ L) : Met l yJx4a65c_clear_da8c8 wsJx4a65c_clear_da8c8 { frames := 0, cells := 0, slots := 0, locals := 0 } (mW D cO mi e0 L f sz [.ref a]) (wQv D L sz (fun u => clPost cO L f a d n (mc + nI 1) u)) 0 0 (mA L sz) := by
  refine Met.ofW (cc := cJx4a65c_clear_da8c8) (maxL := 4) (ret := none) (by decide) rfl ?_
  intro p e s m args below meth cq s₁ B hml hv
  obtain ⟨rfl, hsz, hP, hK, hJ⟩ := hv
  have hx := B.exec
  have hb := B.bytes
  have hr := B.returns
  have hts := atoms_spec (ws := wsJx4a65c_clear_da8c8) B.pre
  have hown : s.vm.findClass RJx4a65c = some m.cls := findClass_of_methodNamed B.named
  have hlocks := B.notSynchronized
  have hin := (name_of_methodNamed B.named B.method).1
  clear B
  have hl := lv_entry ([.ref a]) (n := 4) (Nat.le_of_ble_eq_true rfl)
  rw [lg_entry_eq]
  generalize (lg_sl ([.ref a]) ++ List.replicate (4 - (lg_sl ([.ref a])).length) Slot.unset).toArray = ls at hl ⊢
  replace hl : lv_has ls 4 [(0, .ref a)] := hl
  have hA : ∀ q : Nat, s.heap.size ≤ q → mA L sz q := fun q h => Or.inr (by omega)
  have hE : pext L sz L := pext.rf hnd
  have hD : va_D (mA L sz) (va_pl L f) := hE.D
  refine gen_start (A := mA L sz) (fun H locs hP hS => ?_) hP
  refine lv_aload_n hx hb dJx4a65c_clear_da8c8_0 rfl (lv_at hl 0 rfl) ?_
  refine lv_dup hx hb dJx4a65c_clear_da8c8_1 rfl ?_
  refine pl_get (D := D) (ci := 0) (v := .int mc) (C := RJx4a65c) (T := TJx4a65c) (N := 3) hx hb hts (by decide +kernel) hown hK.1 hP ha hf rfl 0 (by decide) (hts (.fieldLink RJx4a65c 63 "java/util/ArrayList" "modCount" "I") (by decide +kernel)) (fun x9 h9 => u_same (hts (.sameField "java/util/ArrayList" "java/util/AbstractList" "modCount" "I") (by decide +kernel)) x9 h9) rfl dJx4a65c_clear_da8c8_2 ?_
  refine lv_iconst (v := (nI 1)) hx hb dJx4a65c_clear_da8c8_5 (by decide) ?_
  refine lv_iadd hx hb dJx4a65c_clear_da8c8_6 ?_
  refine pl_put (D := D) (ci := 0) (v := .int (mc + (nI 1))) (ty := .int) (C := RJx4a65c) (T := TJx4a65c) (N := 3) hx hb hts (by decide +kernel) tyJx4a65c tyJx4a65c_ok nmJx4a65c hown hK.1 hP hD hS ha hf rfl 0 (by decide) (hts (.fieldLink RJx4a65c 63 "java/util/ArrayList" "modCount" "I") (by decide +kernel)) (fun x9 h9 => u_same (hts (.sameField "java/util/ArrayList" "java/util/AbstractList" "modCount" "I") (by decide +kernel)) x9 h9) rfl (by decide +kernel) rfl rfl (Nat.le_of_ble_eq_true rfl) dJx4a65c_clear_da8c8_7 (fun H locs hP hS => ?_)
  replace hP : va_P D vwCl (va_pl L (va_up f a (.inr (0, [.int (mc + (nI 1)), .ref d, .int (nI c)])))) H := hP
  obtain ⟨f1, hf1⟩ : ∃ z, z = va_up f a (.inr (0, [.int (mc + (nI 1)), .ref d, .int (nI c)])) := ⟨_, rfl⟩
  rw [← hf1] at hP
  have F_a_1 : f1 a = .inr (0, [.int (mc + (nI 1)), .ref d, .int (nI c)]) := by rw [hf1]; exact va_up_self _ _ _
  have hD : va_D (mA L sz) (va_pl L f1) := hE.D
  refine lv_aload_n hx hb dJx4a65c_clear_da8c8_10 rfl (lv_at hl 0 rfl) ?_
  refine pl_get (D := D) (ci := 0) (v := .ref d) (C := RJx4a65c) (T := TJx4a65c) (N := 3) hx hb hts (by decide +kernel) hown hK.1 hP ha F_a_1 rfl 1 (by decide) (hts (.fieldLink RJx4a65c 9 "java/util/ArrayList" "elementData" "[Ljava/lang/Object;") (by decide +kernel)) (fun _ h9 => h9) rfl dJx4a65c_clear_da8c8_11 ?_
  refine lv_astore_n (lv' := [(1, .ref d), (0, .ref a)]) hx hb dJx4a65c_clear_da8c8_14 rfl hl (by decide) rfl (fun ls hl => ?_)
  refine lv_aload_n hx hb dJx4a65c_clear_da8c8_15 rfl (lv_at hl 1 rfl) ?_
  refine pl_get (D := D) (ci := 0) (v := .int (nI c)) (C := RJx4a65c) (T := TJx4a65c) (N := 3) hx hb hts (by decide +kernel) hown hK.1 hP ha F_a_1 rfl 2 (by decide) (hts (.fieldLink RJx4a65c 48 "java/util/ArrayList" "size" "I") (by decide +kernel)) (fun _ h9 => h9) rfl dJx4a65c_clear_da8c8_16 ?_
  refine lv_istore_n (lv' := [(2, .int (nI c)), (1, .ref d), (0, .ref a)]) hx hb dJx4a65c_clear_da8c8_19 rfl hl (by decide) rfl (fun ls hl => ?_)
  refine lv_aload_n hx hb dJx4a65c_clear_da8c8_20 rfl (lv_at hl 2 rfl) ?_
  refine lv_iconst (v := (nI 0)) hx hb dJx4a65c_clear_da8c8_21 (by decide) ?_
  refine lv_dup_x1 hx hb dJx4a65c_clear_da8c8_22 rfl rfl ?_
  refine pl_put (D := D) (ci := 0) (v := .int (nI 0)) (ty := .int) (C := RJx4a65c) (T := TJx4a65c) (N := 3) hx hb hts (by decide +kernel) tyJx4a65c tyJx4a65c_ok nmJx4a65c hown hK.1 hP hD hS ha F_a_1 rfl 2 (by decide) (hts (.fieldLink RJx4a65c 48 "java/util/ArrayList" "size" "I") (by decide +kernel)) (fun _ h9 => h9) rfl (by decide +kernel) rfl rfl (Nat.le_of_ble_eq_true rfl) dJx4a65c_clear_da8c8_23 (fun H locs hP hS => ?_)
  replace hP : va_P D vwCl (va_pl L (va_up f1 a (.inr (0, [.int (mc + (nI 1)), .ref d, .int (nI 0)])))) H := hP
  obtain ⟨f2, hf2⟩ : ∃ z, z = va_up f1 a (.inr (0, [.int (mc + (nI 1)), .ref d, .int (nI 0)])) := ⟨_, rfl⟩
  rw [← hf2] at hP
  have F_a_2 : f2 a = .inr (0, [.int (mc + (nI 1)), .ref d, .int (nI 0)]) := by rw [hf2]; exact va_up_self _ _ _
  have hD : va_D (mA L sz) (va_pl L f2) := hE.D
  refine lv_istore_n (lv' := [(3, .int (nI 0)), (2, .int (nI c)), (1, .ref d), (0, .ref a)]) hx hb dJx4a65c_clear_da8c8_26 rfl hl (by decide) rfl (fun ls hl => ?_)
  have hag : ∀ b, b ≠ a → b ≠ d → f2 b = f b := fun b h1 h2 => by rw [hf2, va_up_ne _ _ h1, hf1, va_up_ne _ _ h1]
  rcases hg with ⟨e1, e2, e3, e4⟩ | ⟨hd, hfd, hn2, hn3, hcn, e4, hel⟩
  · subst e2
    refine lv_iload_n hx hb dJx4a65c_clear_da8c8_27 rfl (lv_at hl 0 rfl) ?_
    refine lv_iload_n hx hb dJx4a65c_clear_da8c8_28 rfl (lv_at hl 1 rfl) ?_
    refine lv_icmp_ge (tgt := 42) hx hb dJx4a65c_clear_da8c8_29 (by decide) (fun c_3 => ?_) (fun c_3 => ?_)
    · refine W.widen (k := 0) (n := 0) (by first | exact Nat.le_refl _ | omega) (by first | exact Nat.le_refl _ | omega) ?_
      exact W.vret hx hb hr (fun t ht hW => ⟨⟨(L, f2), rfl, ⟨⟨rfl, F_a_2, hag, fun hdL => absurd (e1 ▸ hdL) he0⟩, hE⟩, show va_P D vwCl (va_pl _ _) t.heap from (by rw [ht]; exact hP)⟩, hS.F ht⟩) hS.2.2 dJx4a65c_clear_da8c8_42
    · exact absurd (nI_le (Nat.le_refl 0) (by omega)) c_3
  · have hda : d ≠ a := fun e9 => by rw [e9, hf] at hfd; cases hfd
    have hFd : f2 d = refs n g cO := by rw [hf2, va_up_ne _ _ hda, hf1, va_up_ne _ _ hda]; exact hfd
    obtain ⟨fz, hfz⟩ : ∃ z, z = f2 := ⟨_, rfl⟩
    obtain ⟨gz, hgz⟩ : ∃ z, z = g := ⟨_, rfl⟩
    obtain ⟨iz, hiz⟩ : ∃ z : Nat, z = 0 := ⟨_, rfl⟩
    obtain ⟨nz, hnz⟩ : ∃ z : Nat, z = c := ⟨_, rfl⟩
    have hE9 : iz + nz = c := by omega
    have hFa : fz a = alc (mc + nI 1) d 0 := by rw [hfz]; exact F_a_2
    replace hFd : fz d = refs n gz cO := by rw [hfz, hgz]; exact hFd
    replace hag : ∀ b, b ≠ a → b ≠ d → fz b = f b := by rw [hfz]; exact hag
    rw [← hfz] at hP
    replace hl : lv_has ls 4 [(3, .int (nI iz)), (2, .int (nI c)), (1, .ref d), (0, .ref a)] := by rw [hiz]; exact hl
    clear hD hfz hgz hiz hnz
    revert hl
    revert hFd
    revert hFa
    revert hag
    revert hE9
    revert hS
    revert hP
    revert ls
    revert locs
    revert H
    revert gz
    revert fz
    revert iz
    induction nz with
    | zero =>
      intro iz fz gz H locs ls hP hS hE9 hag hFa hFd hl
      have hD : va_D (mA L sz) (va_pl L fz) := hE.D
      refine lv_iload_n hx hb dJx4a65c_clear_da8c8_27 rfl (lv_at hl 0 rfl) ?_
      refine lv_iload_n hx hb dJx4a65c_clear_da8c8_28 rfl (lv_at hl 1 rfl) ?_
      refine lv_icmp_ge (tgt := 42) hx hb dJx4a65c_clear_da8c8_29 (by decide) (fun c_4 => ?_) (fun c_4 => ?_)
      · refine W.widen (k := 0) (n := 0) (by first | exact Nat.le_refl _ | omega) (by first | exact Nat.le_refl _ | omega) ?_
        exact W.vret hx hb hr (fun t ht hW => ⟨⟨(L, fz), rfl, ⟨⟨rfl, hFa, hag, fun _ => ⟨gz, hFd⟩⟩, hE⟩, show va_P D vwCl (va_pl _ _) t.heap from (by rw [ht]; exact hP)⟩, hS.F ht⟩) hS.2.2 dJx4a65c_clear_da8c8_42
      · exact absurd (nI_le (by omega) (by omega)) c_4
    | succ nz ih =>
      intro iz fz gz H locs ls hP hS hE9 hag hFa hFd hl
      have hD : va_D (mA L sz) (va_pl L fz) := hE.D
      refine lv_iload_n hx hb dJx4a65c_clear_da8c8_27 rfl (lv_at hl 0 rfl) ?_
      refine lv_iload_n hx hb dJx4a65c_clear_da8c8_28 rfl (lv_at hl 1 rfl) ?_
      refine lv_icmp_ge (tgt := 42) hx hb dJx4a65c_clear_da8c8_29 (by decide) (fun c_5 => ?_) (fun c_5 => ?_)
      · exact absurd c_5 (nI_ge (by omega) (by omega))
      · refine lv_aload_n hx hb dJx4a65c_clear_da8c8_32 rfl (lv_at hl 2 rfl) ?_
        refine lv_iload_n hx hb dJx4a65c_clear_da8c8_33 rfl (lv_at hl 0 rfl) ?_
        refine lv_null hx hb dJx4a65c_clear_da8c8_34 ?_
        refine pl_aastN (D := D) hx hb hK.1 hP hD hS 0 hd hFd rfl (i := iz) (by omega) (by omega) dJx4a65c_clear_da8c8_35 (fun H locs hP hS => ?_)
        obtain ⟨f6, hf6⟩ : ∃ z, z = va_up fz d (refs n (va_up gz iz none) cO) := ⟨_, rfl⟩
        rw [← hf6] at hP
        have F_a_6 : f6 a = .inr (0, [.int (mc + nI 1), .ref d, .int (nI 0)]) := by rw [hf6, va_up_ne _ _ (show a ≠ d from (cell_ne hFa hFd (by intro e8; first | (cases e8; done) | (simp at e8; done))))]; exact hFa
        have F_d_6 : f6 d = refs n (va_up gz iz none) cO := by rw [hf6]; exact va_up_self _ _ _
        have hD : va_D (mA L sz) (va_pl L f6) := hE.D
        refine lv_iinc (v := (nI (iz + 1))) (lv' := [(3, .int (nI (iz + 1))), (2, .int (nI c)), (1, .ref d), (0, .ref a)]) hx hb dJx4a65c_clear_da8c8_36 hl (k := 0) rfl (nI_1 _) (by decide) rfl (fun ls hl => ?_)
        refine lv_goto (tgt := 27) hx hb dJx4a65c_clear_da8c8_39 (by decide) ?_
        exact ih (iz + 1) f6 _ H locs ls hP hS (by omega) (fun b h1 h2 => by rw [hf6, va_up_ne _ _ h2]; exact hag b h1 h2) F_a_6 F_d_6 (lv_sub hl [0, 1, 2, 3] rfl)
