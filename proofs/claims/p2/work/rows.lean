section
-- ===== PART A: goes FIRST, ahead of the names: the tables' words, and 'selects' of the private methods out of them =====
/-- a private method of a class that the tables say can be made, by its rows of tables_1 -/
def lw_okq (q : MethodName × Nat) : Prop := (q.1.cls ≠ "java/lang/invoke/MethodHandle" ∧ q.1.cls ≠ "java/lang/invoke/VarHandle") ∧ Cond.instantiable q.1.cls q.2 ∈ tables_1 ∧ Cond.privateMethod q.1 ∈ tables_1 ∧ Cond.instanceMethod q.1 ∈ tables_1
theorem lw_p0 : lw_okq (⟨"ChooseTree$Classes", "listFacesOf", "(II)V"⟩, 10) := ⟨⟨by decide +kernel, by decide +kernel⟩, List.mem_of_getElem? (i := 26) (by decide +kernel), List.mem_of_getElem? (i := 128) (by decide +kernel), List.mem_of_getElem? (i := 129) (by decide +kernel)⟩
theorem lw_p1 : lw_okq (⟨"ChooseTree$Classes", "listFace", "(II)V"⟩, 10) := ⟨⟨by decide +kernel, by decide +kernel⟩, List.mem_of_getElem? (i := 26) (by decide +kernel), List.mem_of_getElem? (i := 136) (by decide +kernel), List.mem_of_getElem? (i := 137) (by decide +kernel)⟩
theorem lw_p2 : lw_okq (⟨"ChooseTree", "replaces", "(II)Z"⟩, 2) := ⟨⟨by decide +kernel, by decide +kernel⟩, List.mem_of_getElem? (i := 18) (by decide +kernel), List.mem_of_getElem? (i := 210) (by decide +kernel), List.mem_of_getElem? (i := 211) (by decide +kernel)⟩
theorem lw_p3 : lw_okq (⟨"ChooseTree", "couldReplace", "(II)Z"⟩, 2) := ⟨⟨by decide +kernel, by decide +kernel⟩, List.mem_of_getElem? (i := 18) (by decide +kernel), List.mem_of_getElem? (i := 214) (by decide +kernel), List.mem_of_getElem? (i := 215) (by decide +kernel)⟩
theorem lw_p4 : lw_okq (⟨"ChooseTree", "replacesBetween", "(II)Z"⟩, 2) := ⟨⟨by decide +kernel, by decide +kernel⟩, List.mem_of_getElem? (i := 18) (by decide +kernel), List.mem_of_getElem? (i := 234) (by decide +kernel), List.mem_of_getElem? (i := 235) (by decide +kernel)⟩
theorem lw_p5 : lw_okq (⟨"ChooseTree", "replacesFinal", "(I)Z"⟩, 2) := ⟨⟨by decide +kernel, by decide +kernel⟩, List.mem_of_getElem? (i := 18) (by decide +kernel), List.mem_of_getElem? (i := 247) (by decide +kernel), List.mem_of_getElem? (i := 248) (by decide +kernel)⟩
theorem lw_p6 : lw_okq (⟨"ChooseTree", "hiddenFaces", "(II)J"⟩, 2) := ⟨⟨by decide +kernel, by decide +kernel⟩, List.mem_of_getElem? (i := 18) (by decide +kernel), List.mem_of_getElem? (i := 259) (by decide +kernel), List.mem_of_getElem? (i := 260) (by decide +kernel)⟩
theorem lw_p7 : lw_okq (⟨"ChooseTree", "nearestAt", "(IIIJ)I"⟩, 2) := ⟨⟨by decide +kernel, by decide +kernel⟩, List.mem_of_getElem? (i := 18) (by decide +kernel), List.mem_of_getElem? (i := 263) (by decide +kernel), List.mem_of_getElem? (i := 264) (by decide +kernel)⟩
theorem lw_p8 : lw_okq (⟨"ChooseTree", "firstInRow", "(II)I"⟩, 2) := ⟨⟨by decide +kernel, by decide +kernel⟩, List.mem_of_getElem? (i := 18) (by decide +kernel), List.mem_of_getElem? (i := 272) (by decide +kernel), List.mem_of_getElem? (i := 273) (by decide +kernel)⟩
theorem lw_p9 : lw_okq (⟨"ChooseTree", "onlyConcreteNearest", "(II)I"⟩, 2) := ⟨⟨by decide +kernel, by decide +kernel⟩, List.mem_of_getElem? (i := 18) (by decide +kernel), List.mem_of_getElem? (i := 276) (by decide +kernel), List.mem_of_getElem? (i := 277) (by decide +kernel)⟩
theorem lw_p10 : lw_okq (⟨"ChooseTree", "firstInFaces", "(II)I"⟩, 2) := ⟨⟨by decide +kernel, by decide +kernel⟩, List.mem_of_getElem? (i := 18) (by decide +kernel), List.mem_of_getElem? (i := 284) (by decide +kernel), List.mem_of_getElem? (i := 285) (by decide +kernel)⟩
theorem lw_p11 : lw_okq (⟨"ChooseTree", "firstReplacing", "(II)I"⟩, 2) := ⟨⟨by decide +kernel, by decide +kernel⟩, List.mem_of_getElem? (i := 18) (by decide +kernel), List.mem_of_getElem? (i := 295) (by decide +kernel), List.mem_of_getElem? (i := 296) (by decide +kernel)⟩
theorem lw_p12 : lw_okq (⟨"ChooseTree", "unlessAbstract", "(I)I"⟩, 2) := ⟨⟨by decide +kernel, by decide +kernel⟩, List.mem_of_getElem? (i := 18) (by decide +kernel), List.mem_of_getElem? (i := 299) (by decide +kernel), List.mem_of_getElem? (i := 300) (by decide +kernel)⟩
theorem lw_p13 : lw_okq (⟨"ChooseTree", "firstInstanceInRow", "(II)I"⟩, 2) := ⟨⟨by decide +kernel, by decide +kernel⟩, List.mem_of_getElem? (i := 18) (by decide +kernel), List.mem_of_getElem? (i := 308) (by decide +kernel), List.mem_of_getElem? (i := 309) (by decide +kernel)⟩
theorem lw_p14 : lw_okq (⟨"ChooseTree", "replacesFromBelow", "(II)Z"⟩, 2) := ⟨⟨by decide +kernel, by decide +kernel⟩, List.mem_of_getElem? (i := 18) (by decide +kernel), List.mem_of_getElem? (i := 316) (by decide +kernel), List.mem_of_getElem? (i := 317) (by decide +kernel)⟩
theorem lw_p15 : lw_okq (⟨"ChooseTree", "replacesOfPlain", "(II)Z"⟩, 2) := ⟨⟨by decide +kernel, by decide +kernel⟩, List.mem_of_getElem? (i := 18) (by decide +kernel), List.mem_of_getElem? (i := 320) (by decide +kernel), List.mem_of_getElem? (i := 321) (by decide +kernel)⟩
def lw_privs_1 : List (MethodName × Nat) := [(⟨"ChooseTree$Classes", "listFacesOf", "(II)V"⟩, 10), (⟨"ChooseTree$Classes", "listFace", "(II)V"⟩, 10), (⟨"ChooseTree", "replaces", "(II)Z"⟩, 2), (⟨"ChooseTree", "couldReplace", "(II)Z"⟩, 2), (⟨"ChooseTree", "replacesBetween", "(II)Z"⟩, 2), (⟨"ChooseTree", "replacesFinal", "(I)Z"⟩, 2), (⟨"ChooseTree", "hiddenFaces", "(II)J"⟩, 2), (⟨"ChooseTree", "nearestAt", "(IIIJ)I"⟩, 2), (⟨"ChooseTree", "firstInRow", "(II)I"⟩, 2), (⟨"ChooseTree", "onlyConcreteNearest", "(II)I"⟩, 2), (⟨"ChooseTree", "firstInFaces", "(II)I"⟩, 2), (⟨"ChooseTree", "firstReplacing", "(II)I"⟩, 2), (⟨"ChooseTree", "unlessAbstract", "(I)I"⟩, 2), (⟨"ChooseTree", "firstInstanceInRow", "(II)I"⟩, 2), (⟨"ChooseTree", "replacesFromBelow", "(II)Z"⟩, 2), (⟨"ChooseTree", "replacesOfPlain", "(II)Z"⟩, 2)]
theorem lw_r1 : ∀ q ∈ lw_privs_1, lw_okq q := List.forall_mem_cons.mpr ⟨lw_p0, List.forall_mem_cons.mpr ⟨lw_p1, List.forall_mem_cons.mpr ⟨lw_p2, List.forall_mem_cons.mpr ⟨lw_p3, List.forall_mem_cons.mpr ⟨lw_p4, List.forall_mem_cons.mpr ⟨lw_p5, List.forall_mem_cons.mpr ⟨lw_p6, List.forall_mem_cons.mpr ⟨lw_p7, List.forall_mem_cons.mpr ⟨lw_p8, List.forall_mem_cons.mpr ⟨lw_p9, List.forall_mem_cons.mpr ⟨lw_p10, List.forall_mem_cons.mpr ⟨lw_p11, List.forall_mem_cons.mpr ⟨lw_p12, List.forall_mem_cons.mpr ⟨lw_p13, List.forall_mem_cons.mpr ⟨lw_p14, List.forall_mem_cons.mpr ⟨lw_p15, fun _ h => absurd h List.not_mem_nil⟩⟩⟩⟩⟩⟩⟩⟩⟩⟩⟩⟩⟩⟩⟩⟩
theorem lw_p16 : lw_okq (⟨"java/util/ArrayList", "add", "(Ljava/lang/Object;[Ljava/lang/Object;I)V"⟩, 3) := ⟨⟨by decide +kernel, by decide +kernel⟩, List.mem_of_getElem? (i := 330) (by decide +kernel), List.mem_of_getElem? (i := 404) (by decide +kernel), List.mem_of_getElem? (i := 405) (by decide +kernel)⟩
theorem lw_p17 : lw_okq (⟨"java/util/ArrayList", "grow", "()[Ljava/lang/Object;"⟩, 3) := ⟨⟨by decide +kernel, by decide +kernel⟩, List.mem_of_getElem? (i := 330) (by decide +kernel), List.mem_of_getElem? (i := 408) (by decide +kernel), List.mem_of_getElem? (i := 409) (by decide +kernel)⟩
theorem lw_p18 : lw_okq (⟨"java/util/ArrayList", "grow", "(I)[Ljava/lang/Object;"⟩, 3) := ⟨⟨by decide +kernel, by decide +kernel⟩, List.mem_of_getElem? (i := 330) (by decide +kernel), List.mem_of_getElem? (i := 412) (by decide +kernel), List.mem_of_getElem? (i := 413) (by decide +kernel)⟩
theorem lw_p19 : lw_okq (⟨"ChooseTreeModel", "at", "(I)LChooseTreeModel$Cls;"⟩, 3) := ⟨⟨by decide +kernel, by decide +kernel⟩, List.mem_of_getElem? (i := 324) (by decide +kernel), List.mem_of_getElem? (i := 468) (by decide +kernel), List.mem_of_getElem? (i := 469) (by decide +kernel)⟩
theorem lw_p20 : lw_okq (⟨"ChooseTreeModel", "lies", "(LChooseTreeModel$Cls;LChooseTreeModel$Cls;)Z"⟩, 3) := ⟨⟨by decide +kernel, by decide +kernel⟩, List.mem_of_getElem? (i := 324) (by decide +kernel), List.mem_of_getElem? (i := 551) (by decide +kernel), List.mem_of_getElem? (i := 552) (by decide +kernel)⟩
theorem lw_p21 : lw_okq (⟨"ChooseTreeModel", "leadsTo", "(LChooseTreeModel$Cls;LChooseTreeModel$Cls;)Z"⟩, 3) := ⟨⟨by decide +kernel, by decide +kernel⟩, List.mem_of_getElem? (i := 324) (by decide +kernel), List.mem_of_getElem? (i := 555) (by decide +kernel), List.mem_of_getElem? (i := 556) (by decide +kernel)⟩
theorem lw_p22 : lw_okq (⟨"ChooseTreeModel", "facesOf", "(LChooseTreeModel$Cls;)Ljava/util/ArrayList;"⟩, 3) := ⟨⟨by decide +kernel, by decide +kernel⟩, List.mem_of_getElem? (i := 324) (by decide +kernel), List.mem_of_getElem? (i := 563) (by decide +kernel), List.mem_of_getElem? (i := 564) (by decide +kernel)⟩
theorem lw_p23 : lw_okq (⟨"ChooseTreeModel", "gather", "(LChooseTreeModel$Cls;Ljava/util/ArrayList;)V"⟩, 3) := ⟨⟨by decide +kernel, by decide +kernel⟩, List.mem_of_getElem? (i := 324) (by decide +kernel), List.mem_of_getElem? (i := 571) (by decide +kernel), List.mem_of_getElem? (i := 572) (by decide +kernel)⟩
theorem lw_p24 : lw_okq (⟨"ChooseTreeModel", "met", "(I)LChooseTreeModel$Met;"⟩, 3) := ⟨⟨by decide +kernel, by decide +kernel⟩, List.mem_of_getElem? (i := 324) (by decide +kernel), List.mem_of_getElem? (i := 579) (by decide +kernel), List.mem_of_getElem? (i := 580) (by decide +kernel)⟩
theorem lw_p25 : lw_okq (⟨"ChooseTreeModel", "isNearest", "(Ljava/util/ArrayList;II)Z"⟩, 3) := ⟨⟨by decide +kernel, by decide +kernel⟩, List.mem_of_getElem? (i := 324) (by decide +kernel), List.mem_of_getElem? (i := 597) (by decide +kernel), List.mem_of_getElem? (i := 598) (by decide +kernel)⟩
theorem lw_p26 : lw_okq (⟨"ChooseTreeModel", "single", "(LChooseTreeModel$Cls;I)I"⟩, 3) := ⟨⟨by decide +kernel, by decide +kernel⟩, List.mem_of_getElem? (i := 324) (by decide +kernel), List.mem_of_getElem? (i := 605) (by decide +kernel), List.mem_of_getElem? (i := 606) (by decide +kernel)⟩
def lw_privs_2 : List (MethodName × Nat) := [(⟨"java/util/ArrayList", "add", "(Ljava/lang/Object;[Ljava/lang/Object;I)V"⟩, 3), (⟨"java/util/ArrayList", "grow", "()[Ljava/lang/Object;"⟩, 3), (⟨"java/util/ArrayList", "grow", "(I)[Ljava/lang/Object;"⟩, 3), (⟨"ChooseTreeModel", "at", "(I)LChooseTreeModel$Cls;"⟩, 3), (⟨"ChooseTreeModel", "lies", "(LChooseTreeModel$Cls;LChooseTreeModel$Cls;)Z"⟩, 3), (⟨"ChooseTreeModel", "leadsTo", "(LChooseTreeModel$Cls;LChooseTreeModel$Cls;)Z"⟩, 3), (⟨"ChooseTreeModel", "facesOf", "(LChooseTreeModel$Cls;)Ljava/util/ArrayList;"⟩, 3), (⟨"ChooseTreeModel", "gather", "(LChooseTreeModel$Cls;Ljava/util/ArrayList;)V"⟩, 3), (⟨"ChooseTreeModel", "met", "(I)LChooseTreeModel$Met;"⟩, 3), (⟨"ChooseTreeModel", "isNearest", "(Ljava/util/ArrayList;II)Z"⟩, 3), (⟨"ChooseTreeModel", "single", "(LChooseTreeModel$Cls;I)I"⟩, 3)]
theorem lw_r2 : ∀ q ∈ lw_privs_2, lw_okq q := List.forall_mem_cons.mpr ⟨lw_p16, List.forall_mem_cons.mpr ⟨lw_p17, List.forall_mem_cons.mpr ⟨lw_p18, List.forall_mem_cons.mpr ⟨lw_p19, List.forall_mem_cons.mpr ⟨lw_p20, List.forall_mem_cons.mpr ⟨lw_p21, List.forall_mem_cons.mpr ⟨lw_p22, List.forall_mem_cons.mpr ⟨lw_p23, List.forall_mem_cons.mpr ⟨lw_p24, List.forall_mem_cons.mpr ⟨lw_p25, List.forall_mem_cons.mpr ⟨lw_p26, fun _ h => absurd h List.not_mem_nil⟩⟩⟩⟩⟩⟩⟩⟩⟩⟩⟩
def lw_privs : List (MethodName × Nat) := lw_privs_1 ++ (lw_privs_2)
def lw_tbl : List Cond := k2_sels lw_privs ++ tables_1
theorem lw_privs_ok : ∀ q ∈ lw_privs, lw_okq q := by
  show ∀ q ∈ lw_privs_1 ++ (lw_privs_2), lw_okq q
  exact List.forall_mem_append.mpr ⟨lw_r1, lw_r2⟩
/-! ===== BEGIN words of one list among another's, by their places ===== -/
theorem goodIn_r {big : List Cond} (ws : List Cond) (ps : List Nat) (hp : ws = ps.filterMap (fun i => big[i]?)) (h : ws.all goodWord = true) : GoodIn big ws := by
  intro w hw
  have h1 := List.all_eq_true.mp h w hw
  rw [hp] at hw
  obtain ⟨i, -, hi⟩ := List.mem_filterMap.mp hw
  have hm : w ∈ big := by first | exact List.mem_of_getElem? hi | exact List.getElem?_mem hi
  exact ⟨hm, good_of_word h1⟩
theorem goodIn_app {big a b : List Cond} (ha : GoodIn big a) (hb : GoodIn big b) : GoodIn big (a ++ b) := fun w h => (List.mem_append.mp h).elim (ha w) (hb w)
theorem goodIn_ca {big a b : List Cond} {c : Cond} (ha : GoodIn big (c :: a)) (hb : GoodIn big b) : GoodIn big (c :: (a ++ b)) := fun w h => (List.mem_cons.mp h).elim (fun e => ha w (List.mem_cons.mpr (Or.inl e))) (fun h => (List.mem_append.mp h).elim (fun h => ha w (List.mem_cons.mpr (Or.inr h))) (hb w))
theorem goodIn_sub {big ws : List Cond} (hm : ∀ w ∈ ws, w ∈ big) (h : ws.all goodWord = true) : GoodIn big ws := fun w hw => ⟨hm w hw, good_of_word (List.all_eq_true.mp h w hw)⟩
/-! ===== END ===== -/

/-! ===== BEGIN printed: names, fields, word lists, decode rows ===== -/
def RX0 : String := "ChooseTree$Classes"
def TX0 : u_T := fun k => match k with
  | 0 => ("ChooseTree$Classes", "count", "I", false)
  | 1 => ("ChooseTree$Classes", "parent", "[I", true)
  | 2 => ("ChooseTree$Classes", "pack", "[I", true)
  | 3 => ("ChooseTree$Classes", "face", "[Z", true)
  | 4 => ("ChooseTree$Classes", "above", "[J", true)
  | 5 => ("ChooseTree$Classes", "faceAmount", "[I", true)
  | 6 => ("ChooseTree$Classes", "faceStart", "[I", true)
  | 7 => ("ChooseTree$Classes", "faceList", "[I", true)
  | 8 => ("ChooseTree$Classes", "ownFaces", "J", false)
  | _ => ("ChooseTree$Classes", "ownPart", "I", false)
def tyX0 : Nat → FieldType := fun k => match k with
  | 0 => .int
  | 1 => .array .int
  | 2 => .array .int
  | 3 => .array .boolean
  | 4 => .array .long
  | 5 => .array .int
  | 6 => .array .int
  | 7 => .array .int
  | 8 => .long
  | _ => .int
abbrev wsX00 : List Cond := u_ws RX0 TX0 10
theorem nmX0 : ∀ a, a < 10 → ∀ b, b < 10 → a ≠ b → (TX0 a).2.1 ≠ (TX0 b).2.1 := by decide +kernel
theorem tyX0_ok : ∀ k, k < 10 → parseFieldDescriptor (TX0 k).2.2.1 = some (tyX0 k) := by decide +kernel
abbrev cX0_init : ByteArray := prog_2_method_1_code
def yX0_init : MethodName := ⟨RX0, "<init>", "()V"⟩
abbrev cX0_exists : ByteArray := prog_2_method_2_code
def yX0_exists : MethodName := ⟨RX0, "exists", "(I)Z"⟩
abbrev cX0_isFace : ByteArray := prog_2_method_3_code
def yX0_isFace : MethodName := ⟨RX0, "isFace", "(I)Z"⟩
abbrev cX0_isPlain : ByteArray := prog_2_method_4_code
def yX0_isPlain : MethodName := ⟨RX0, "isPlain", "(I)Z"⟩
abbrev cX0_isLatest : ByteArray := prog_2_method_5_code
def yX0_isLatest : MethodName := ⟨RX0, "isLatest", "(I)Z"⟩
abbrev cX0_below : ByteArray := prog_2_method_6_code
def yX0_below : MethodName := ⟨RX0, "below", "(II)Z"⟩
abbrev cX0_inRow : ByteArray := prog_2_method_7_code
def yX0_inRow : MethodName := ⟨RX0, "inRow", "(II)Z"⟩
abbrev cX0_faceAt : ByteArray := prog_2_method_8_code
def yX0_faceAt : MethodName := ⟨RX0, "faceAt", "(II)I"⟩
abbrev cX0_append : ByteArray := prog_2_method_9_code
def yX0_append : MethodName := ⟨RX0, "append", "(IIZ)I"⟩
abbrev cX0_latestImplements : ByteArray := prog_2_method_10_code
def yX0_latestImplements : MethodName := ⟨RX0, "latestImplements", "(I)Z"⟩
abbrev cX0_ownAmount : ByteArray := prog_2_method_11_code
def yX0_ownAmount : MethodName := ⟨RX0, "ownAmount", "()I"⟩
abbrev cX0_giveFace : ByteArray := prog_2_method_12_code
def yX0_giveFace : MethodName := ⟨RX0, "giveFace", "(II)V"⟩
abbrev cX0_listFacesOf : ByteArray := prog_2_method_13_code
def yX0_listFacesOf : MethodName := ⟨RX0, "listFacesOf", "(II)V"⟩
abbrev cX0_listFace : ByteArray := prog_2_method_14_code
def yX0_listFace : MethodName := ⟨RX0, "listFace", "(II)V"⟩
def RX1 : String := "ChooseTree$Methods"
def TX1 : u_T := fun k => match k with
  | 0 => ("ChooseTree$Methods", "count", "I", false)
  | 1 => ("ChooseTree$Methods", "owner", "[I", true)
  | 2 => ("ChooseTree$Methods", "name", "[I", true)
  | 3 => ("ChooseTree$Methods", "first", "[I", true)
  | 4 => ("ChooseTree$Methods", "amount", "[I", true)
  | 5 => ("ChooseTree$Methods", "sight", "[I", true)
  | _ => ("ChooseTree$Methods", "kind", "[I", true)
def tyX1 : Nat → FieldType := fun k => match k with
  | 0 => .int
  | 1 => .array .int
  | 2 => .array .int
  | 3 => .array .int
  | 4 => .array .int
  | 5 => .array .int
  | _ => .array .int
abbrev wsX10 : List Cond := u_ws RX1 TX1 7
theorem nmX1 : ∀ a, a < 7 → ∀ b, b < 7 → a ≠ b → (TX1 a).2.1 ≠ (TX1 b).2.1 := by decide +kernel
theorem tyX1_ok : ∀ k, k < 7 → parseFieldDescriptor (TX1 k).2.2.1 = some (tyX1 k) := by decide +kernel
abbrev cX1_init : ByteArray := prog_3_method_1_code
def yX1_init : MethodName := ⟨RX1, "<init>", "()V"⟩
abbrev cX1_exists : ByteArray := prog_3_method_2_code
def yX1_exists : MethodName := ⟨RX1, "exists", "(I)Z"⟩
abbrev cX1_isStatic : ByteArray := prog_3_method_3_code
def yX1_isStatic : MethodName := ⟨RX1, "isStatic", "(I)Z"⟩
abbrev cX1_isFinal : ByteArray := prog_3_method_4_code
def yX1_isFinal : MethodName := ⟨RX1, "isFinal", "(I)Z"⟩
abbrev cX1_isAbstract : ByteArray := prog_3_method_5_code
def yX1_isAbstract : MethodName := ⟨RX1, "isAbstract", "(I)Z"⟩
abbrev cX1_isPrivate : ByteArray := prog_3_method_6_code
def yX1_isPrivate : MethodName := ⟨RX1, "isPrivate", "(I)Z"⟩
abbrev cX1_isVirtual : ByteArray := prog_3_method_7_code
def yX1_isVirtual : MethodName := ⟨RX1, "isVirtual", "(I)Z"⟩
abbrev cX1_isPublicOrProtected : ByteArray := prog_3_method_8_code
def yX1_isPublicOrProtected : MethodName := ⟨RX1, "isPublicOrProtected", "(I)Z"⟩
abbrev cX1_inClass : ByteArray := prog_3_method_9_code
def yX1_inClass : MethodName := ⟨RX1, "inClass", "(II)I"⟩
abbrev cX1_append : ByteArray := prog_3_method_10_code
def yX1_append : MethodName := ⟨RX1, "append", "(IIII)I"⟩
def RX2 : String := "ChooseTree"
def TX2 : u_T := fun k => match k with
  | 0 => ("ChooseTree", "classes", "LChooseTree$Classes;", true)
  | _ => ("ChooseTree", "methods", "LChooseTree$Methods;", true)
def tyX2 : Nat → FieldType := fun k => match k with
  | 0 => .object "ChooseTree$Classes"
  | _ => .object "ChooseTree$Methods"
abbrev wsX20 : List Cond := u_ws RX2 TX2 2
theorem nmX2 : ∀ a, a < 2 → ∀ b, b < 2 → a ≠ b → (TX2 a).2.1 ≠ (TX2 b).2.1 := by decide +kernel
theorem tyX2_ok : ∀ k, k < 2 → parseFieldDescriptor (TX2 k).2.2.1 = some (tyX2 k) := by decide +kernel
abbrev cX2_init : ByteArray := prog_1_method_1_code
def yX2_init : MethodName := ⟨RX2, "<init>", "()V"⟩
abbrev cX2_add : ByteArray := prog_1_method_2_code
def yX2_add : MethodName := ⟨RX2, "add", "(III)I"⟩
abbrev cX2_implement : ByteArray := prog_1_method_3_code
def yX2_implement : MethodName := ⟨RX2, "implement", "(II)I"⟩
abbrev cX2_method : ByteArray := prog_1_method_4_code
def yX2_method : MethodName := ⟨RX2, "method", "(IIII)I"⟩
abbrev cX2_isBelow : ByteArray := prog_1_method_5_code
def yX2_isBelow : MethodName := ⟨RX2, "isBelow", "(II)Z"⟩
abbrev cX2_face : ByteArray := prog_1_method_6_code
def yX2_face : MethodName := ⟨RX2, "face", "(II)I"⟩
abbrev cX2_overrides : ByteArray := prog_1_method_7_code
def yX2_overrides : MethodName := ⟨RX2, "overrides", "(II)Z"⟩
abbrev cX2_broken : ByteArray := prog_1_method_8_code
def yX2_broken : MethodName := ⟨RX2, "broken", "(I)I"⟩
abbrev cX2_nearest : ByteArray := prog_1_method_9_code
def yX2_nearest : MethodName := ⟨RX2, "nearest", "(III)I"⟩
abbrev cX2_find : ByteArray := prog_1_method_10_code
def yX2_find : MethodName := ⟨RX2, "find", "(II)I"⟩
abbrev cX2_choose : ByteArray := prog_1_method_11_code
def yX2_choose : MethodName := ⟨RX2, "choose", "(II)I"⟩
abbrev cX2_special : ByteArray := prog_1_method_12_code
def yX2_special : MethodName := ⟨RX2, "special", "(III)I"⟩
abbrev cX2_kin : ByteArray := prog_1_method_13_code
def yX2_kin : MethodName := ⟨RX2, "kin", "(I)I"⟩
abbrev cX2_fits : ByteArray := prog_1_method_14_code
def yX2_fits : MethodName := ⟨RX2, "fits", "(IIZ)Z"⟩
abbrev cX2_replaces : ByteArray := prog_1_method_15_code
def yX2_replaces : MethodName := ⟨RX2, "replaces", "(II)Z"⟩
abbrev cX2_couldReplace : ByteArray := prog_1_method_16_code
def yX2_couldReplace : MethodName := ⟨RX2, "couldReplace", "(II)Z"⟩
abbrev cX2_replacesBetween : ByteArray := prog_1_method_17_code
def yX2_replacesBetween : MethodName := ⟨RX2, "replacesBetween", "(II)Z"⟩
abbrev cX2_replacesFinal : ByteArray := prog_1_method_18_code
def yX2_replacesFinal : MethodName := ⟨RX2, "replacesFinal", "(I)Z"⟩
abbrev cX2_replacesFromBelow : ByteArray := prog_1_method_19_code
def yX2_replacesFromBelow : MethodName := ⟨RX2, "replacesFromBelow", "(II)Z"⟩
abbrev cX2_replacesOfPlain : ByteArray := prog_1_method_20_code
def yX2_replacesOfPlain : MethodName := ⟨RX2, "replacesOfPlain", "(II)Z"⟩
abbrev cX2_firstInRow : ByteArray := prog_1_method_21_code
def yX2_firstInRow : MethodName := ⟨RX2, "firstInRow", "(II)I"⟩
abbrev cX2_firstInstanceInRow : ByteArray := prog_1_method_22_code
def yX2_firstInstanceInRow : MethodName := ⟨RX2, "firstInstanceInRow", "(II)I"⟩
abbrev cX2_firstReplacing : ByteArray := prog_1_method_23_code
def yX2_firstReplacing : MethodName := ⟨RX2, "firstReplacing", "(II)I"⟩
abbrev cX2_firstInFaces : ByteArray := prog_1_method_24_code
def yX2_firstInFaces : MethodName := ⟨RX2, "firstInFaces", "(II)I"⟩
abbrev cX2_hiddenFaces : ByteArray := prog_1_method_25_code
def yX2_hiddenFaces : MethodName := ⟨RX2, "hiddenFaces", "(II)J"⟩
abbrev cX2_nearestAt : ByteArray := prog_1_method_26_code
def yX2_nearestAt : MethodName := ⟨RX2, "nearestAt", "(IIIJ)I"⟩
abbrev cX2_onlyConcreteNearest : ByteArray := prog_1_method_27_code
def yX2_onlyConcreteNearest : MethodName := ⟨RX2, "onlyConcreteNearest", "(II)I"⟩
abbrev cX2_unlessAbstract : ByteArray := prog_1_method_28_code
def yX2_unlessAbstract : MethodName := ⟨RX2, "unlessAbstract", "(I)I"⟩
abbrev cX2_holds : ByteArray := prog_1_method_29_code
def yX2_holds : MethodName := ⟨RX2, "holds", "(JI)Z"⟩
def RX3 : String := "ChooseTreeModel$Cls"
def TX3 : u_T := fun k => match k with
  | 0 => ("ChooseTreeModel$Cls", "number", "I", true)
  | 1 => ("ChooseTreeModel$Cls", "pack", "I", true)
  | 2 => ("ChooseTreeModel$Cls", "parent", "LChooseTreeModel$Cls;", true)
  | 3 => ("ChooseTreeModel$Cls", "isFace", "Z", true)
  | 4 => ("ChooseTreeModel$Cls", "faces", "Ljava/util/ArrayList;", true)
  | 5 => ("ChooseTreeModel$Cls", "methods", "Ljava/util/ArrayList;", true)
  | 6 => ("ChooseTreeModel$Cls", "all", "Ljava/util/ArrayList;", true)
  | 7 => ("ChooseTreeModel$Cls", "put", "I", false)
  | _ => ("ChooseTreeModel$Cls", "mark", "I", false)
def tyX3 : Nat → FieldType := fun k => match k with
  | 0 => .int
  | 1 => .int
  | 2 => .object "ChooseTreeModel$Cls"
  | 3 => .boolean
  | 4 => .object "java/util/ArrayList"
  | 5 => .object "java/util/ArrayList"
  | 6 => .object "java/util/ArrayList"
  | 7 => .int
  | _ => .int
abbrev wsX30 : List Cond := u_ws RX3 TX3 9
theorem nmX3 : ∀ a, a < 9 → ∀ b, b < 9 → a ≠ b → (TX3 a).2.1 ≠ (TX3 b).2.1 := by decide +kernel
theorem tyX3_ok : ∀ k, k < 9 → parseFieldDescriptor (TX3 k).2.2.1 = some (tyX3 k) := by decide +kernel
abbrev cX3_init : ByteArray := prog_6_method_1_code
def yX3_init : MethodName := ⟨RX3, "<init>", "(ILChooseTreeModel$Cls;IZ)V"⟩
abbrev cX3_named : ByteArray := prog_6_method_2_code
def yX3_named : MethodName := ⟨RX3, "named", "(I)LChooseTreeModel$Met;"⟩
def RX4 : String := "ChooseTreeModel$Met"
def TX4 : u_T := fun k => match k with
  | 0 => ("ChooseTreeModel$Met", "number", "I", true)
  | 1 => ("ChooseTreeModel$Met", "name", "I", true)
  | 2 => ("ChooseTreeModel$Met", "sight", "I", true)
  | 3 => ("ChooseTreeModel$Met", "owner", "LChooseTreeModel$Cls;", true)
  | 4 => ("ChooseTreeModel$Met", "isStatic", "Z", true)
  | 5 => ("ChooseTreeModel$Met", "isFinal", "Z", true)
  | _ => ("ChooseTreeModel$Met", "isAbstract", "Z", true)
def tyX4 : Nat → FieldType := fun k => match k with
  | 0 => .int
  | 1 => .int
  | 2 => .int
  | 3 => .object "ChooseTreeModel$Cls"
  | 4 => .boolean
  | 5 => .boolean
  | _ => .boolean
abbrev wsX40 : List Cond := u_ws RX4 TX4 7
theorem nmX4 : ∀ a, a < 7 → ∀ b, b < 7 → a ≠ b → (TX4 a).2.1 ≠ (TX4 b).2.1 := by decide +kernel
theorem tyX4_ok : ∀ k, k < 7 → parseFieldDescriptor (TX4 k).2.2.1 = some (tyX4 k) := by decide +kernel
abbrev cX4_init : ByteArray := prog_7_method_1_code
def yX4_init : MethodName := ⟨RX4, "<init>", "(ILChooseTreeModel$Cls;III)V"⟩
def RX5 : String := "ChooseTreeModel"
def TX5 : u_T := fun k => match k with
  | 0 => ("ChooseTreeModel", "classes", "Ljava/util/ArrayList;", true)
  | 1 => ("ChooseTreeModel", "methods", "Ljava/util/ArrayList;", true)
  | _ => ("ChooseTreeModel", "mark", "I", false)
def tyX5 : Nat → FieldType := fun k => match k with
  | 0 => .object "java/util/ArrayList"
  | 1 => .object "java/util/ArrayList"
  | _ => .int
abbrev wsX50 : List Cond := u_ws RX5 TX5 3
theorem nmX5 : ∀ a, a < 3 → ∀ b, b < 3 → a ≠ b → (TX5 a).2.1 ≠ (TX5 b).2.1 := by decide +kernel
theorem tyX5_ok : ∀ k, k < 3 → parseFieldDescriptor (TX5 k).2.2.1 = some (tyX5 k) := by decide +kernel
abbrev cX5_init : ByteArray := prog_5_method_1_code
def yX5_init : MethodName := ⟨RX5, "<init>", "()V"⟩
abbrev cX5_at : ByteArray := prog_5_method_3_code
def yX5_at : MethodName := ⟨RX5, "at", "(I)LChooseTreeModel$Cls;"⟩
abbrev cX5_met : ByteArray := prog_5_method_4_code
def yX5_met : MethodName := ⟨RX5, "met", "(I)LChooseTreeModel$Met;"⟩
abbrev cX5_isName : ByteArray := prog_5_method_5_code
def yX5_isName : MethodName := ⟨RX5, "isName", "(I)Z"⟩
abbrev cX5_add : ByteArray := prog_5_method_6_code
def yX5_add : MethodName := ⟨RX5, "add", "(III)I"⟩
abbrev cX5_implement : ByteArray := prog_5_method_7_code
def yX5_implement : MethodName := ⟨RX5, "implement", "(II)I"⟩
abbrev cX5_hasFace : ByteArray := prog_5_method_8_code
def yX5_hasFace : MethodName := ⟨RX5, "hasFace", "(LChooseTreeModel$Cls;LChooseTreeModel$Cls;)Z"⟩
abbrev cX5_method : ByteArray := prog_5_method_9_code
def yX5_method : MethodName := ⟨RX5, "method", "(IIII)I"⟩
abbrev cX5_lies : ByteArray := prog_5_method_10_code
def yX5_lies : MethodName := ⟨RX5, "lies", "(LChooseTreeModel$Cls;LChooseTreeModel$Cls;)Z"⟩
abbrev cX5_leadsTo : ByteArray := prog_5_method_11_code
def yX5_leadsTo : MethodName := ⟨RX5, "leadsTo", "(LChooseTreeModel$Cls;LChooseTreeModel$Cls;)Z"⟩
abbrev cX5_isBelow : ByteArray := prog_5_method_12_code
def yX5_isBelow : MethodName := ⟨RX5, "isBelow", "(II)Z"⟩
abbrev cX5_facesOf : ByteArray := prog_5_method_13_code
def yX5_facesOf : MethodName := ⟨RX5, "facesOf", "(LChooseTreeModel$Cls;)Ljava/util/ArrayList;"⟩
abbrev cX5_gather : ByteArray := prog_5_method_14_code
def yX5_gather : MethodName := ⟨RX5, "gather", "(LChooseTreeModel$Cls;Ljava/util/ArrayList;)V"⟩
abbrev cX5_face : ByteArray := prog_5_method_15_code
def yX5_face : MethodName := ⟨RX5, "face", "(II)I"⟩
abbrev cX5_isFree : ByteArray := prog_5_method_16_code
def yX5_isFree : MethodName := ⟨RX5, "isFree", "(LChooseTreeModel$Met;)Z"⟩
abbrev cX5_goesOver : ByteArray := prog_5_method_17_code
def yX5_goesOver : MethodName := ⟨RX5, "goesOver", "(LChooseTreeModel$Met;LChooseTreeModel$Met;)Z"⟩
abbrev cX5_overrides : ByteArray := prog_5_method_18_code
def yX5_overrides : MethodName := ⟨RX5, "overrides", "(II)Z"⟩
abbrev cX5_broken : ByteArray := prog_5_method_19_code
def yX5_broken : MethodName := ⟨RX5, "broken", "(I)I"⟩
abbrev cX5_isNearest : ByteArray := prog_5_method_20_code
def yX5_isNearest : MethodName := ⟨RX5, "isNearest", "(Ljava/util/ArrayList;II)Z"⟩
abbrev cX5_nearest : ByteArray := prog_5_method_21_code
def yX5_nearest : MethodName := ⟨RX5, "nearest", "(III)I"⟩
abbrev cX5_single : ByteArray := prog_5_method_22_code
def yX5_single : MethodName := ⟨RX5, "single", "(LChooseTreeModel$Cls;I)I"⟩
abbrev cX5_find : ByteArray := prog_5_method_23_code
def yX5_find : MethodName := ⟨RX5, "find", "(II)I"⟩
abbrev cX5_choose : ByteArray := prog_5_method_24_code
def yX5_choose : MethodName := ⟨RX5, "choose", "(II)I"⟩
abbrev cX5_special : ByteArray := prog_5_method_25_code
def yX5_special : MethodName := ⟨RX5, "special", "(III)I"⟩
abbrev cX5_kin : ByteArray := prog_5_method_26_code
def yX5_kin : MethodName := ⟨RX5, "kin", "(I)I"⟩
def RJx145de : String := "java/io/Serializable"
def TJx145de : u_T := fun k => match k with
  | _ => ("", "", "", false)
def tyJx145de : Nat → FieldType := fun k => match k with
  | _ => .int
abbrev wsJx145de0 : List Cond := u_ws RJx145de TJx145de 0
theorem nmJx145de : ∀ a, a < 0 → ∀ b, b < 0 → a ≠ b → (TJx145de a).2.1 ≠ (TJx145de b).2.1 := by decide +kernel
theorem tyJx145de_ok : ∀ k, k < 0 → parseFieldDescriptor (TJx145de k).2.2.1 = some (tyJx145de k) := by decide +kernel
def RJx8e188 : String := "java/lang/Cloneable"
def TJx8e188 : u_T := fun k => match k with
  | _ => ("", "", "", false)
def tyJx8e188 : Nat → FieldType := fun k => match k with
  | _ => .int
abbrev wsJx8e1880 : List Cond := u_ws RJx8e188 TJx8e188 0
theorem nmJx8e188 : ∀ a, a < 0 → ∀ b, b < 0 → a ≠ b → (TJx8e188 a).2.1 ≠ (TJx8e188 b).2.1 := by decide +kernel
theorem tyJx8e188_ok : ∀ k, k < 0 → parseFieldDescriptor (TJx8e188 k).2.2.1 = some (tyJx8e188 k) := by decide +kernel
def RJxab1ab : String := "java/lang/Iterable"
def TJxab1ab : u_T := fun k => match k with
  | _ => ("", "", "", false)
def tyJxab1ab : Nat → FieldType := fun k => match k with
  | _ => .int
abbrev wsJxab1ab0 : List Cond := u_ws RJxab1ab TJxab1ab 0
theorem nmJxab1ab : ∀ a, a < 0 → ∀ b, b < 0 → a ≠ b → (TJxab1ab a).2.1 ≠ (TJxab1ab b).2.1 := by decide +kernel
theorem tyJxab1ab_ok : ∀ k, k < 0 → parseFieldDescriptor (TJxab1ab k).2.2.1 = some (tyJxab1ab k) := by decide +kernel
def RJ13 : String := "java/lang/Long"
def TJ13 : u_T := fun k => match k with
  | _ => ("", "", "", false)
def tyJ13 : Nat → FieldType := fun k => match k with
  | _ => .int
abbrev wsJ130 : List Cond := u_ws RJ13 TJ13 0
theorem nmJ13 : ∀ a, a < 0 → ∀ b, b < 0 → a ≠ b → (TJ13 a).2.1 ≠ (TJ13 b).2.1 := by decide +kernel
theorem tyJ13_ok : ∀ k, k < 0 → parseFieldDescriptor (TJ13 k).2.2.1 = some (tyJ13 k) := by decide +kernel
abbrev cJ13_bitCount_95d88 : ByteArray := prog_11_method_50_code
def yJ13_bitCount_95d88 : MethodName := ⟨RJ13, "bitCount", "(J)I"⟩
def RJ9 : String := "java/lang/Math"
def TJ9 : u_T := fun k => match k with
  | _ => ("", "", "", false)
def tyJ9 : Nat → FieldType := fun k => match k with
  | _ => .int
abbrev wsJ90 : List Cond := u_ws RJ9 TJ9 0
theorem nmJ9 : ∀ a, a < 0 → ∀ b, b < 0 → a ≠ b → (TJ9 a).2.1 ≠ (TJ9 b).2.1 := by decide +kernel
theorem tyJ9_ok : ∀ k, k < 0 → parseFieldDescriptor (TJ9 k).2.2.1 = some (tyJ9 k) := by decide +kernel
abbrev cJ9_max_7cf53 : ByteArray := prog_12_method_65_code
def yJ9_max_7cf53 : MethodName := ⟨RJ9, "max", "(II)I"⟩
abbrev cJ9_min_7cf53 : ByteArray := prog_12_method_69_code
def yJ9_min_7cf53 : MethodName := ⟨RJ9, "min", "(II)I"⟩
def RJ10 : String := "java/lang/System"
def TJ10 : u_T := fun k => match k with
  | _ => ("", "", "", false)
def tyJ10 : Nat → FieldType := fun k => match k with
  | _ => .int
abbrev wsJ100 : List Cond := u_ws RJ10 TJ10 0
theorem nmJ10 : ∀ a, a < 0 → ∀ b, b < 0 → a ≠ b → (TJ10 a).2.1 ≠ (TJ10 b).2.1 := by decide +kernel
theorem tyJ10_ok : ∀ k, k < 0 → parseFieldDescriptor (TJ10 k).2.2.1 = some (tyJ10 k) := by decide +kernel
def RJxa1e45 : String := "java/util/AbstractCollection"
def TJxa1e45 : u_T := fun k => match k with
  | _ => ("", "", "", false)
def tyJxa1e45 : Nat → FieldType := fun k => match k with
  | _ => .int
abbrev wsJxa1e450 : List Cond := u_ws RJxa1e45 TJxa1e45 0
theorem nmJxa1e45 : ∀ a, a < 0 → ∀ b, b < 0 → a ≠ b → (TJxa1e45 a).2.1 ≠ (TJxa1e45 b).2.1 := by decide +kernel
theorem tyJxa1e45_ok : ∀ k, k < 0 → parseFieldDescriptor (TJxa1e45 k).2.2.1 = some (tyJxa1e45 k) := by decide +kernel
abbrev cJxa1e45_init_da8c8 : ByteArray := prog_14_method_1_code
def yJxa1e45_init_da8c8 : MethodName := ⟨RJxa1e45, "<init>", "()V"⟩
def RJxc12de : String := "java/util/AbstractList"
def TJxc12de : u_T := fun k => match k with
  | _ => ("", "", "", false)
def tyJxc12de : Nat → FieldType := fun k => match k with
  | _ => .int
abbrev wsJxc12de0 : List Cond := u_ws RJxc12de TJxc12de 0
theorem nmJxc12de : ∀ a, a < 0 → ∀ b, b < 0 → a ≠ b → (TJxc12de a).2.1 ≠ (TJxc12de b).2.1 := by decide +kernel
theorem tyJxc12de_ok : ∀ k, k < 0 → parseFieldDescriptor (TJxc12de k).2.2.1 = some (tyJxc12de k) := by decide +kernel
abbrev cJxc12de_init_da8c8 : ByteArray := prog_15_method_1_code
def yJxc12de_init_da8c8 : MethodName := ⟨RJxc12de, "<init>", "()V"⟩
def RJx4a65c : String := "java/util/ArrayList"
def TJx4a65c : u_T := fun k => match k with
  | 0 => ("java/util/AbstractList", "modCount", "I", false)
  | 1 => ("java/util/ArrayList", "elementData", "[Ljava/lang/Object;", false)
  | _ => ("java/util/ArrayList", "size", "I", false)
def tyJx4a65c : Nat → FieldType := fun k => match k with
  | 0 => .int
  | 1 => .array (.object "java/lang/Object")
  | _ => .int
abbrev wsJx4a65c0 : List Cond := u_ws RJx4a65c TJx4a65c 3
theorem nmJx4a65c : ∀ a, a < 3 → ∀ b, b < 3 → a ≠ b → (TJx4a65c a).2.1 ≠ (TJx4a65c b).2.1 := by decide +kernel
theorem tyJx4a65c_ok : ∀ k, k < 3 → parseFieldDescriptor (TJx4a65c k).2.2.1 = some (tyJx4a65c k) := by decide +kernel
abbrev cJx4a65c_init_da8c8 : ByteArray := prog_16_method_2_code
def yJx4a65c_init_da8c8 : MethodName := ⟨RJx4a65c, "<init>", "()V"⟩
abbrev cJx4a65c_grow_92f84 : ByteArray := prog_16_method_6_code
def yJx4a65c_grow_92f84 : MethodName := ⟨RJx4a65c, "grow", "(I)[Ljava/lang/Object;"⟩
abbrev cJx4a65c_grow_d5877 : ByteArray := prog_16_method_7_code
def yJx4a65c_grow_d5877 : MethodName := ⟨RJx4a65c, "grow", "()[Ljava/lang/Object;"⟩
abbrev cJx4a65c_size_8abf5 : ByteArray := prog_16_method_8_code
def yJx4a65c_size_8abf5 : MethodName := ⟨RJx4a65c, "size", "()I"⟩
abbrev cJx4a65c_elementData_915e3 : ByteArray := prog_16_method_18_code
def yJx4a65c_elementData_915e3 : MethodName := ⟨RJx4a65c, "elementData", "(I)Ljava/lang/Object;"⟩
abbrev cJx4a65c_get_915e3 : ByteArray := prog_16_method_20_code
def yJx4a65c_get_915e3 : MethodName := ⟨RJx4a65c, "get", "(I)Ljava/lang/Object;"⟩
abbrev cJx4a65c_add_72be8 : ByteArray := prog_16_method_24_code
def yJx4a65c_add_72be8 : MethodName := ⟨RJx4a65c, "add", "(Ljava/lang/Object;[Ljava/lang/Object;I)V"⟩
abbrev cJx4a65c_add_9ea2d : ByteArray := prog_16_method_25_code
def yJx4a65c_add_9ea2d : MethodName := ⟨RJx4a65c, "add", "(Ljava/lang/Object;)Z"⟩
abbrev cJx4a65c_clear_da8c8 : ByteArray := prog_16_method_40_code
def yJx4a65c_clear_da8c8 : MethodName := ⟨RJx4a65c, "clear", "()V"⟩
def RJ7 : String := "java/util/Arrays"
def TJ7 : u_T := fun k => match k with
  | _ => ("", "", "", false)
def tyJ7 : Nat → FieldType := fun k => match k with
  | _ => .int
abbrev wsJ70 : List Cond := u_ws RJ7 TJ7 0
theorem nmJ7 : ∀ a, a < 0 → ∀ b, b < 0 → a ≠ b → (TJ7 a).2.1 ≠ (TJ7 b).2.1 := by decide +kernel
theorem tyJ7_ok : ∀ k, k < 0 → parseFieldDescriptor (TJ7 k).2.2.1 = some (tyJ7 k) := by decide +kernel
abbrev cJ7_copyOf_1904c : ByteArray := prog_17_method_119_code
def yJ7_copyOf_1904c : MethodName := ⟨RJ7, "copyOf", "([Ljava/lang/Object;I)[Ljava/lang/Object;"⟩
abbrev cJ7_copyOf_6403c : ByteArray := prog_17_method_120_code
def yJ7_copyOf_6403c : MethodName := ⟨RJ7, "copyOf", "([Ljava/lang/Object;ILjava/lang/Class;)[Ljava/lang/Object;"⟩
def RJx5ef63 : String := "java/util/Collection"
def TJx5ef63 : u_T := fun k => match k with
  | _ => ("", "", "", false)
def tyJx5ef63 : Nat → FieldType := fun k => match k with
  | _ => .int
abbrev wsJx5ef630 : List Cond := u_ws RJx5ef63 TJx5ef63 0
theorem nmJx5ef63 : ∀ a, a < 0 → ∀ b, b < 0 → a ≠ b → (TJx5ef63 a).2.1 ≠ (TJx5ef63 b).2.1 := by decide +kernel
theorem tyJx5ef63_ok : ∀ k, k < 0 → parseFieldDescriptor (TJx5ef63 k).2.2.1 = some (tyJx5ef63 k) := by decide +kernel
def RJxbd725 : String := "java/util/List"
def TJxbd725 : u_T := fun k => match k with
  | _ => ("", "", "", false)
def tyJxbd725 : Nat → FieldType := fun k => match k with
  | _ => .int
abbrev wsJxbd7250 : List Cond := u_ws RJxbd725 TJxbd725 0
theorem nmJxbd725 : ∀ a, a < 0 → ∀ b, b < 0 → a ≠ b → (TJxbd725 a).2.1 ≠ (TJxbd725 b).2.1 := by decide +kernel
theorem tyJxbd725_ok : ∀ k, k < 0 → parseFieldDescriptor (TJxbd725 k).2.2.1 = some (tyJxbd725 k) := by decide +kernel
def RJ15 : String := "java/util/Objects"
def TJ15 : u_T := fun k => match k with
  | _ => ("", "", "", false)
def tyJ15 : Nat → FieldType := fun k => match k with
  | _ => .int
abbrev wsJ150 : List Cond := u_ws RJ15 TJ15 0
theorem nmJ15 : ∀ a, a < 0 → ∀ b, b < 0 → a ≠ b → (TJ15 a).2.1 ≠ (TJ15 b).2.1 := by decide +kernel
theorem tyJ15_ok : ∀ k, k < 0 → parseFieldDescriptor (TJ15 k).2.2.1 = some (tyJ15 k) := by decide +kernel
abbrev cJ15_checkIndex_7cf53 : ByteArray := prog_20_method_17_code
def yJ15_checkIndex_7cf53 : MethodName := ⟨RJ15, "checkIndex", "(II)I"⟩
def RJxf0a74 : String := "java/util/RandomAccess"
def TJxf0a74 : u_T := fun k => match k with
  | _ => ("", "", "", false)
def tyJxf0a74 : Nat → FieldType := fun k => match k with
  | _ => .int
abbrev wsJxf0a740 : List Cond := u_ws RJxf0a74 TJxf0a74 0
theorem nmJxf0a74 : ∀ a, a < 0 → ∀ b, b < 0 → a ≠ b → (TJxf0a74 a).2.1 ≠ (TJxf0a74 b).2.1 := by decide +kernel
theorem tyJxf0a74_ok : ∀ k, k < 0 → parseFieldDescriptor (TJxf0a74 k).2.2.1 = some (tyJxf0a74 k) := by decide +kernel
def RJxa66e6 : String := "java/util/SequencedCollection"
def TJxa66e6 : u_T := fun k => match k with
  | _ => ("", "", "", false)
def tyJxa66e6 : Nat → FieldType := fun k => match k with
  | _ => .int
abbrev wsJxa66e60 : List Cond := u_ws RJxa66e6 TJxa66e6 0
theorem nmJxa66e6 : ∀ a, a < 0 → ∀ b, b < 0 → a ≠ b → (TJxa66e6 a).2.1 ≠ (TJxa66e6 b).2.1 := by decide +kernel
theorem tyJxa66e6_ok : ∀ k, k < 0 → parseFieldDescriptor (TJxa66e6 k).2.2.1 = some (tyJxa66e6 k) := by decide +kernel
def RJ8 : String := "jdk/internal/util/ArraysSupport"
def TJ8 : u_T := fun k => match k with
  | _ => ("", "", "", false)
def tyJ8 : Nat → FieldType := fun k => match k with
  | _ => .int
abbrev wsJ80 : List Cond := u_ws RJ8 TJ8 0
theorem nmJ8 : ∀ a, a < 0 → ∀ b, b < 0 → a ≠ b → (TJ8 a).2.1 ≠ (TJ8 b).2.1 := by decide +kernel
theorem tyJ8_ok : ∀ k, k < 0 → parseFieldDescriptor (TJ8 k).2.2.1 = some (tyJ8 k) := by decide +kernel
abbrev cJ8_newLength_cabcc : ByteArray := prog_23_method_27_code
def yJ8_newLength_cabcc : MethodName := ⟨RJ8, "newLength", "(III)I"⟩
abbrev cJ8_hugeLength_7cf53 : ByteArray := prog_23_method_28_code
def yJ8_hugeLength_7cf53 : MethodName := ⟨RJ8, "hugeLength", "(II)I"⟩
def RJ3 : String := "jdk/internal/util/Preconditions"
def TJ3 : u_T := fun k => match k with
  | _ => ("", "", "", false)
def tyJ3 : Nat → FieldType := fun k => match k with
  | _ => .int
abbrev wsJ30 : List Cond := u_ws RJ3 TJ3 0
theorem nmJ3 : ∀ a, a < 0 → ∀ b, b < 0 → a ≠ b → (TJ3 a).2.1 ≠ (TJ3 b).2.1 := by decide +kernel
theorem tyJ3_ok : ∀ k, k < 0 → parseFieldDescriptor (TJ3 k).2.2.1 = some (tyJ3 k) := by decide +kernel
abbrev cJ3_checkIndex_8e157 : ByteArray := prog_24_method_11_code
def yJ3_checkIndex_8e157 : MethodName := ⟨RJ3, "checkIndex", "(IILjava/util/function/BiFunction;)I"⟩
def RL : String := "ChooseTreeLaw"
abbrev cL_law : ByteArray := code
def yL_law : MethodName := ⟨RL, "law", "([I)Z"⟩
def wsX0_init : List Cond := .code yX0_init cX0_init 1 none :: ([.methodLink RX0 3 objectInit, .instanceMethod objectInit, .code objectInit ⟨#[0xb1]⟩ 1 none, .fieldLink RX0 9 "ChooseTree$Classes" "count" "I", .arrayClass .int, .fieldLink RX0 15 "ChooseTree$Classes" "parent" "[I", .fieldLink RX0 19 "ChooseTree$Classes" "pack" "[I", .arrayClass .boolean, .fieldLink RX0 22 "ChooseTree$Classes" "face" "[Z", .arrayClass .long, .fieldLink RX0 26 "ChooseTree$Classes" "above" "[J", .fieldLink RX0 30 "ChooseTree$Classes" "faceAmount" "[I", .fieldLink RX0 33 "ChooseTree$Classes" "faceStart" "[I", .fieldLink RX0 36 "ChooseTree$Classes" "faceList" "[I", .fieldLink RX0 39 "ChooseTree$Classes" "ownFaces" "J", .fieldLink RX0 43 "ChooseTree$Classes" "ownPart" "I"] ++ wsX00)
def wsX0_exists : List Cond := .code yX0_exists cX0_exists 2 (some .boolean) :: ([.fieldLink RX0 9 "ChooseTree$Classes" "count" "I"] ++ wsX00)
def wsX0_isFace : List Cond := .code yX0_isFace cX0_isFace 2 (some .boolean) :: ([.fieldLink RX0 22 "ChooseTree$Classes" "face" "[Z", .methodLink RX0 46 yX0_exists, .instanceMethod yX0_exists, .selects RX0 yX0_exists yX0_exists, .initialized RX0, .code yX0_exists cX0_exists 2 (some .boolean), .fieldLink RX0 9 "ChooseTree$Classes" "count" "I"] ++ wsX00)
def wsX0_isPlain : List Cond := .code yX0_isPlain cX0_isPlain 2 (some .boolean) :: ([.fieldLink RX0 22 "ChooseTree$Classes" "face" "[Z", .methodLink RX0 46 yX0_exists, .instanceMethod yX0_exists, .selects RX0 yX0_exists yX0_exists, .initialized RX0, .code yX0_exists cX0_exists 2 (some .boolean), .fieldLink RX0 9 "ChooseTree$Classes" "count" "I"] ++ wsX00)
def wsX0_isLatest : List Cond := .code yX0_isLatest cX0_isLatest 2 (some .boolean) :: ([.fieldLink RX0 9 "ChooseTree$Classes" "count" "I"] ++ wsX00)
def wsX2_holds : List Cond := .code yX2_holds cX2_holds 3 (some .boolean) :: ([])
def wsX0_below : List Cond := .code yX0_below cX0_below 3 (some .boolean) :: ([.fieldLink RX0 26 "ChooseTree$Classes" "above" "[J", .static yX2_holds, .initialized RX2, .code yX2_holds cX2_holds 3 (some .boolean)] ++ wsX00)
def wsX0_inRow : List Cond := .code yX0_inRow cX0_inRow 3 (some .boolean) :: ([.fieldLink RX0 22 "ChooseTree$Classes" "face" "[Z", .methodLink RX0 54 yX0_below, .instanceMethod yX0_below, .selects RX0 yX0_below yX0_below, .initialized RX0, .code yX0_below cX0_below 3 (some .boolean), .fieldLink RX0 26 "ChooseTree$Classes" "above" "[J", .static yX2_holds, .initialized RX2, .code yX2_holds cX2_holds 3 (some .boolean)] ++ wsX00)
def wsX0_faceAt : List Cond := .code yX0_faceAt cX0_faceAt 3 (some .int) :: ([.fieldLink RX0 36 "ChooseTree$Classes" "faceList" "[I", .fieldLink RX0 33 "ChooseTree$Classes" "faceStart" "[I"] ++ wsX00)
def wsX0_listFace : List Cond := .code yX0_listFace cX0_listFace 4 none :: ([.fieldLink RX0 30 "ChooseTree$Classes" "faceAmount" "[I", .fieldLink RX0 33 "ChooseTree$Classes" "faceStart" "[I", .fieldLink RX0 36 "ChooseTree$Classes" "faceList" "[I", .methodLink RX0 71 yX0_faceAt, .instanceMethod yX0_faceAt, .selects RX0 yX0_faceAt yX0_faceAt, .initialized RX0, .code yX0_faceAt cX0_faceAt 3 (some .int)] ++ wsX00)
def wsX0_listFacesOf : List Cond := .code yX0_listFacesOf cX0_listFacesOf 5 none :: ([.fieldLink RX0 30 "ChooseTree$Classes" "faceAmount" "[I", .methodLink RX0 71 yX0_faceAt, .instanceMethod yX0_faceAt, .selects RX0 yX0_faceAt yX0_faceAt, .initialized RX0, .code yX0_faceAt cX0_faceAt 3 (some .int), .fieldLink RX0 36 "ChooseTree$Classes" "faceList" "[I", .fieldLink RX0 33 "ChooseTree$Classes" "faceStart" "[I", .methodLink RX0 68 yX0_listFace, .instanceMethod yX0_listFace, .selects RX0 yX0_listFace yX0_listFace, .code yX0_listFace cX0_listFace 4 none] ++ wsX00)
def wsX0_append : List Cond := .code yX0_append cX0_append 5 (some .int) :: ([.fieldLink RX0 9 "ChooseTree$Classes" "count" "I", .fieldLink RX0 33 "ChooseTree$Classes" "faceStart" "[I", .fieldLink RX0 30 "ChooseTree$Classes" "faceAmount" "[I", .fieldLink RX0 15 "ChooseTree$Classes" "parent" "[I", .fieldLink RX0 19 "ChooseTree$Classes" "pack" "[I", .fieldLink RX0 22 "ChooseTree$Classes" "face" "[Z", .fieldLink RX0 26 "ChooseTree$Classes" "above" "[J", .fieldLink RX0 39 "ChooseTree$Classes" "ownFaces" "J", .fieldLink RX0 43 "ChooseTree$Classes" "ownPart" "I", .methodLink RX0 58 yX0_listFacesOf, .instanceMethod yX0_listFacesOf, .selects RX0 yX0_listFacesOf yX0_listFacesOf, .initialized RX0, .code yX0_listFacesOf cX0_listFacesOf 5 none, .methodLink RX0 71 yX0_faceAt, .instanceMethod yX0_faceAt, .selects RX0 yX0_faceAt yX0_faceAt, .code yX0_faceAt cX0_faceAt 3 (some .int), .fieldLink RX0 36 "ChooseTree$Classes" "faceList" "[I", .methodLink RX0 68 yX0_listFace, .instanceMethod yX0_listFace, .selects RX0 yX0_listFace yX0_listFace, .code yX0_listFace cX0_listFace 4 none] ++ wsX00)
def wsX0_latestImplements : List Cond := .code yX0_latestImplements cX0_latestImplements 2 (some .boolean) :: ([.fieldLink RX0 39 "ChooseTree$Classes" "ownFaces" "J", .static yX2_holds, .initialized RX2, .code yX2_holds cX2_holds 3 (some .boolean)] ++ wsX00)
def wsJ13_bitCount_95d88 : List Cond := .code yJ13_bitCount_95d88 cJ13_bitCount_95d88 2 (some .int) :: ([.constantLong RJ13 314 (6148914691236517205), .constantLong RJ13 316 (3689348814741910323), .constantLong RJ13 318 (1085102592571150095)])
def wsX0_ownAmount : List Cond := .code yX0_ownAmount cX0_ownAmount 1 (some .int) :: ([.fieldLink RX0 39 "ChooseTree$Classes" "ownFaces" "J", .methodLink RX0 62 yJ13_bitCount_95d88, .static yJ13_bitCount_95d88, .initialized RJ13, .code yJ13_bitCount_95d88 cJ13_bitCount_95d88 2 (some .int), .constantLong RJ13 314 (6148914691236517205), .constantLong RJ13 316 (3689348814741910323), .constantLong RJ13 318 (1085102592571150095)] ++ wsX00)
def wsX0_giveFace : List Cond := .code yX0_giveFace cX0_giveFace 3 none :: ([.fieldLink RX0 39 "ChooseTree$Classes" "ownFaces" "J", .fieldLink RX0 26 "ChooseTree$Classes" "above" "[J", .fieldLink RX0 30 "ChooseTree$Classes" "faceAmount" "[I", .fieldLink RX0 43 "ChooseTree$Classes" "ownPart" "I", .fieldLink RX0 15 "ChooseTree$Classes" "parent" "[I", .methodLink RX0 68 yX0_listFace, .instanceMethod yX0_listFace, .selects RX0 yX0_listFace yX0_listFace, .initialized RX0, .code yX0_listFace cX0_listFace 4 none, .fieldLink RX0 33 "ChooseTree$Classes" "faceStart" "[I", .fieldLink RX0 36 "ChooseTree$Classes" "faceList" "[I", .methodLink RX0 71 yX0_faceAt, .instanceMethod yX0_faceAt, .selects RX0 yX0_faceAt yX0_faceAt, .code yX0_faceAt cX0_faceAt 3 (some .int), .methodLink RX0 58 yX0_listFacesOf, .instanceMethod yX0_listFacesOf, .selects RX0 yX0_listFacesOf yX0_listFacesOf, .code yX0_listFacesOf cX0_listFacesOf 5 none] ++ wsX00)
def wsX1_init : List Cond := .code yX1_init cX1_init 1 none :: ([.methodLink RX1 3 objectInit, .instanceMethod objectInit, .code objectInit ⟨#[0xb1]⟩ 1 none, .fieldLink RX1 9 "ChooseTree$Methods" "count" "I", .arrayClass .int, .fieldLink RX1 15 "ChooseTree$Methods" "owner" "[I", .fieldLink RX1 19 "ChooseTree$Methods" "name" "[I", .fieldLink RX1 22 "ChooseTree$Methods" "first" "[I", .fieldLink RX1 25 "ChooseTree$Methods" "amount" "[I", .fieldLink RX1 28 "ChooseTree$Methods" "sight" "[I", .fieldLink RX1 31 "ChooseTree$Methods" "kind" "[I"] ++ wsX10)
def wsX1_exists : List Cond := .code yX1_exists cX1_exists 2 (some .boolean) :: ([.fieldLink RX1 9 "ChooseTree$Methods" "count" "I"] ++ wsX10)
def wsX1_isStatic : List Cond := .code yX1_isStatic cX1_isStatic 2 (some .boolean) :: ([.fieldLink RX1 31 "ChooseTree$Methods" "kind" "[I"] ++ wsX10)
def wsX1_isFinal : List Cond := .code yX1_isFinal cX1_isFinal 2 (some .boolean) :: ([.fieldLink RX1 31 "ChooseTree$Methods" "kind" "[I"] ++ wsX10)
def wsX1_isAbstract : List Cond := .code yX1_isAbstract cX1_isAbstract 2 (some .boolean) :: ([.fieldLink RX1 31 "ChooseTree$Methods" "kind" "[I"] ++ wsX10)
def wsX1_isPrivate : List Cond := .code yX1_isPrivate cX1_isPrivate 2 (some .boolean) :: ([.fieldLink RX1 28 "ChooseTree$Methods" "sight" "[I"] ++ wsX10)
def wsX1_isVirtual : List Cond := .code yX1_isVirtual cX1_isVirtual 2 (some .boolean) :: ([.methodLink RX1 34 yX1_isStatic, .instanceMethod yX1_isStatic, .selects RX1 yX1_isStatic yX1_isStatic, .initialized RX1, .code yX1_isStatic cX1_isStatic 2 (some .boolean), .fieldLink RX1 31 "ChooseTree$Methods" "kind" "[I", .methodLink RX1 38 yX1_isPrivate, .instanceMethod yX1_isPrivate, .selects RX1 yX1_isPrivate yX1_isPrivate, .code yX1_isPrivate cX1_isPrivate 2 (some .boolean), .fieldLink RX1 28 "ChooseTree$Methods" "sight" "[I"] ++ wsX10)
def wsX1_isPublicOrProtected : List Cond := .code yX1_isPublicOrProtected cX1_isPublicOrProtected 2 (some .boolean) :: ([.fieldLink RX1 28 "ChooseTree$Methods" "sight" "[I"] ++ wsX10)
def wsX1_inClass : List Cond := .code yX1_inClass cX1_inClass 5 (some .int) :: ([.fieldLink RX1 22 "ChooseTree$Methods" "first" "[I", .fieldLink RX1 25 "ChooseTree$Methods" "amount" "[I", .fieldLink RX1 19 "ChooseTree$Methods" "name" "[I"] ++ wsX10)
def wsX1_append : List Cond := .code yX1_append cX1_append 6 (some .int) :: ([.fieldLink RX1 9 "ChooseTree$Methods" "count" "I", .fieldLink RX1 25 "ChooseTree$Methods" "amount" "[I", .fieldLink RX1 22 "ChooseTree$Methods" "first" "[I", .fieldLink RX1 15 "ChooseTree$Methods" "owner" "[I", .fieldLink RX1 19 "ChooseTree$Methods" "name" "[I", .fieldLink RX1 28 "ChooseTree$Methods" "sight" "[I", .fieldLink RX1 31 "ChooseTree$Methods" "kind" "[I"] ++ wsX10)
def wsX2_init_r1 : List Cond := [Cond.methodLink RX2 1 objectInit, Cond.instanceMethod objectInit, Cond.code objectInit ⟨#[0xb1]⟩ 1 none, Cond.classLink RX2 7 RX0, Cond.instantiable RX0 10, Cond.initialized RX0, Cond.fieldLink RX2 10 "ChooseTree" "classes" "LChooseTree$Classes;", Cond.classLink RX2 16 RX1, Cond.instantiable RX1 7, Cond.initialized RX1, Cond.fieldLink RX2 19 "ChooseTree" "methods" "LChooseTree$Methods;", Cond.instanceMethod yX0_init, Cond.code yX0_init cX0_init 1 none, Cond.methodLink RX0 3 objectInit, Cond.fieldLink RX0 9 "ChooseTree$Classes" "count" "I", Cond.arrayClass .int, Cond.fieldLink RX0 15 "ChooseTree$Classes" "parent" "[I", Cond.fieldLink RX0 19 "ChooseTree$Classes" "pack" "[I", Cond.arrayClass .boolean, Cond.fieldLink RX0 22 "ChooseTree$Classes" "face" "[Z", Cond.arrayClass .long, Cond.fieldLink RX0 26 "ChooseTree$Classes" "above" "[J", Cond.fieldLink RX0 30 "ChooseTree$Classes" "faceAmount" "[I", Cond.fieldLink RX0 33 "ChooseTree$Classes" "faceStart" "[I"]
def wsX2_init_r2 : List Cond := [Cond.fieldLink RX0 36 "ChooseTree$Classes" "faceList" "[I", Cond.fieldLink RX0 39 "ChooseTree$Classes" "ownFaces" "J", Cond.fieldLink RX0 43 "ChooseTree$Classes" "ownPart" "I", Cond.instanceMethod yX1_init, Cond.code yX1_init cX1_init 1 none, Cond.methodLink RX1 3 objectInit, Cond.fieldLink RX1 9 "ChooseTree$Methods" "count" "I", Cond.fieldLink RX1 15 "ChooseTree$Methods" "owner" "[I", Cond.fieldLink RX1 19 "ChooseTree$Methods" "name" "[I", Cond.fieldLink RX1 22 "ChooseTree$Methods" "first" "[I", Cond.fieldLink RX1 25 "ChooseTree$Methods" "amount" "[I", Cond.fieldLink RX1 28 "ChooseTree$Methods" "sight" "[I", Cond.fieldLink RX1 31 "ChooseTree$Methods" "kind" "[I"]
def wsX2_init : List Cond := .code yX2_init cX2_init 1 none :: ((wsX2_init_r1 ++ wsX2_init_r2) ++ wsX00 ++ wsX20 ++ wsX10)
def wsX2_add_r1 : List Cond := [Cond.fieldLink RX2 10 "ChooseTree" "classes" "LChooseTree$Classes;", Cond.fieldLink RX2 27 "ChooseTree$Classes" "count" "I", Cond.methodLink RX2 23 yX0_isPlain, Cond.instanceMethod yX0_isPlain, Cond.selects RX0 yX0_isPlain yX0_isPlain, Cond.initialized RX0, Cond.code yX0_isPlain cX0_isPlain 2 (some .boolean), Cond.fieldLink RX0 22 "ChooseTree$Classes" "face" "[Z", Cond.methodLink RX0 46 yX0_exists, Cond.instanceMethod yX0_exists, Cond.selects RX0 yX0_exists yX0_exists, Cond.code yX0_exists cX0_exists 2 (some .boolean), Cond.fieldLink RX0 9 "ChooseTree$Classes" "count" "I", Cond.methodLink RX2 31 yX0_append, Cond.instanceMethod yX0_append, Cond.selects RX0 yX0_append yX0_append, Cond.code yX0_append cX0_append 5 (some .int), Cond.fieldLink RX0 33 "ChooseTree$Classes" "faceStart" "[I", Cond.fieldLink RX0 30 "ChooseTree$Classes" "faceAmount" "[I", Cond.fieldLink RX0 15 "ChooseTree$Classes" "parent" "[I", Cond.fieldLink RX0 19 "ChooseTree$Classes" "pack" "[I", Cond.fieldLink RX0 26 "ChooseTree$Classes" "above" "[J", Cond.fieldLink RX0 39 "ChooseTree$Classes" "ownFaces" "J", Cond.fieldLink RX0 43 "ChooseTree$Classes" "ownPart" "I"]
def wsX2_add_r2 : List Cond := [Cond.methodLink RX0 58 yX0_listFacesOf, Cond.instanceMethod yX0_listFacesOf, Cond.selects RX0 yX0_listFacesOf yX0_listFacesOf, Cond.code yX0_listFacesOf cX0_listFacesOf 5 none, Cond.methodLink RX0 71 yX0_faceAt, Cond.instanceMethod yX0_faceAt, Cond.selects RX0 yX0_faceAt yX0_faceAt, Cond.code yX0_faceAt cX0_faceAt 3 (some .int), Cond.fieldLink RX0 36 "ChooseTree$Classes" "faceList" "[I", Cond.methodLink RX0 68 yX0_listFace, Cond.instanceMethod yX0_listFace, Cond.selects RX0 yX0_listFace yX0_listFace, Cond.code yX0_listFace cX0_listFace 4 none]
def wsX2_add : List Cond := .code yX2_add cX2_add 5 (some .int) :: ((wsX2_add_r1 ++ wsX2_add_r2) ++ wsX20 ++ wsX00)
def wsX2_implement_r1 : List Cond := [Cond.fieldLink RX2 10 "ChooseTree" "classes" "LChooseTree$Classes;", Cond.fieldLink RX2 19 "ChooseTree" "methods" "LChooseTree$Methods;", Cond.fieldLink RX2 44 "ChooseTree$Methods" "amount" "[I", Cond.methodLink RX2 35 yX0_isLatest, Cond.instanceMethod yX0_isLatest, Cond.selects RX0 yX0_isLatest yX0_isLatest, Cond.initialized RX0, Cond.code yX0_isLatest cX0_isLatest 2 (some .boolean), Cond.fieldLink RX0 9 "ChooseTree$Classes" "count" "I", Cond.methodLink RX2 38 yX0_isFace, Cond.instanceMethod yX0_isFace, Cond.selects RX0 yX0_isFace yX0_isFace, Cond.code yX0_isFace cX0_isFace 2 (some .boolean), Cond.fieldLink RX0 22 "ChooseTree$Classes" "face" "[Z", Cond.methodLink RX0 46 yX0_exists, Cond.instanceMethod yX0_exists, Cond.selects RX0 yX0_exists yX0_exists, Cond.code yX0_exists cX0_exists 2 (some .boolean), Cond.methodLink RX2 41 yX0_latestImplements, Cond.instanceMethod yX0_latestImplements, Cond.selects RX0 yX0_latestImplements yX0_latestImplements, Cond.code yX0_latestImplements cX0_latestImplements 2 (some .boolean), Cond.fieldLink RX0 39 "ChooseTree$Classes" "ownFaces" "J", Cond.static yX2_holds]
def wsX2_implement_r2 : List Cond := [Cond.initialized RX2, Cond.code yX2_holds cX2_holds 3 (some .boolean), Cond.methodLink RX2 48 yX0_ownAmount, Cond.instanceMethod yX0_ownAmount, Cond.selects RX0 yX0_ownAmount yX0_ownAmount, Cond.code yX0_ownAmount cX0_ownAmount 1 (some .int), Cond.methodLink RX0 62 yJ13_bitCount_95d88, Cond.static yJ13_bitCount_95d88, Cond.initialized RJ13, Cond.code yJ13_bitCount_95d88 cJ13_bitCount_95d88 2 (some .int), Cond.constantLong RJ13 314 (6148914691236517205), Cond.constantLong RJ13 316 (3689348814741910323), Cond.constantLong RJ13 318 (1085102592571150095), Cond.methodLink RX2 52 yX0_giveFace, Cond.instanceMethod yX0_giveFace, Cond.selects RX0 yX0_giveFace yX0_giveFace, Cond.code yX0_giveFace cX0_giveFace 3 none, Cond.fieldLink RX0 26 "ChooseTree$Classes" "above" "[J", Cond.fieldLink RX0 30 "ChooseTree$Classes" "faceAmount" "[I", Cond.fieldLink RX0 43 "ChooseTree$Classes" "ownPart" "I", Cond.fieldLink RX0 15 "ChooseTree$Classes" "parent" "[I", Cond.methodLink RX0 68 yX0_listFace, Cond.instanceMethod yX0_listFace, Cond.selects RX0 yX0_listFace yX0_listFace]
def wsX2_implement_r3 : List Cond := [Cond.code yX0_listFace cX0_listFace 4 none, Cond.fieldLink RX0 33 "ChooseTree$Classes" "faceStart" "[I", Cond.fieldLink RX0 36 "ChooseTree$Classes" "faceList" "[I", Cond.methodLink RX0 71 yX0_faceAt, Cond.instanceMethod yX0_faceAt, Cond.selects RX0 yX0_faceAt yX0_faceAt, Cond.code yX0_faceAt cX0_faceAt 3 (some .int), Cond.methodLink RX0 58 yX0_listFacesOf, Cond.instanceMethod yX0_listFacesOf, Cond.selects RX0 yX0_listFacesOf yX0_listFacesOf, Cond.code yX0_listFacesOf cX0_listFacesOf 5 none]
def wsX2_implement : List Cond := .code yX2_implement cX2_implement 3 (some .int) :: ((wsX2_implement_r1 ++ (wsX2_implement_r2 ++ wsX2_implement_r3)) ++ wsX20 ++ wsX10 ++ wsX00)
def wsX2_fits : List Cond := .code yX2_fits cX2_fits 3 (some .boolean) :: ([])
def wsX2_method_r1 : List Cond := [Cond.fieldLink RX2 10 "ChooseTree" "classes" "LChooseTree$Classes;", Cond.fieldLink RX2 56 "ChooseTree$Classes" "face" "[Z", Cond.fieldLink RX2 19 "ChooseTree" "methods" "LChooseTree$Methods;", Cond.fieldLink RX2 68 "ChooseTree$Methods" "count" "I", Cond.methodLink RX2 35 yX0_isLatest, Cond.instanceMethod yX0_isLatest, Cond.selects RX0 yX0_isLatest yX0_isLatest, Cond.initialized RX0, Cond.code yX0_isLatest cX0_isLatest 2 (some .boolean), Cond.fieldLink RX0 9 "ChooseTree$Classes" "count" "I", Cond.methodLink RX2 60 yX2_fits, Cond.static yX2_fits, Cond.initialized RX2, Cond.code yX2_fits cX2_fits 3 (some .boolean), Cond.methodLink RX2 64 yX1_inClass, Cond.instanceMethod yX1_inClass, Cond.selects RX1 yX1_inClass yX1_inClass, Cond.initialized RX1, Cond.code yX1_inClass cX1_inClass 5 (some .int), Cond.fieldLink RX1 22 "ChooseTree$Methods" "first" "[I", Cond.fieldLink RX1 25 "ChooseTree$Methods" "amount" "[I", Cond.fieldLink RX1 19 "ChooseTree$Methods" "name" "[I", Cond.methodLink RX2 69 yX1_append, Cond.instanceMethod yX1_append]
def wsX2_method_r2 : List Cond := [Cond.selects RX1 yX1_append yX1_append, Cond.code yX1_append cX1_append 6 (some .int), Cond.fieldLink RX1 9 "ChooseTree$Methods" "count" "I", Cond.fieldLink RX1 15 "ChooseTree$Methods" "owner" "[I", Cond.fieldLink RX1 28 "ChooseTree$Methods" "sight" "[I", Cond.fieldLink RX1 31 "ChooseTree$Methods" "kind" "[I"]
def wsX2_method : List Cond := .code yX2_method cX2_method 5 (some .int) :: ((wsX2_method_r1 ++ wsX2_method_r2) ++ wsX20 ++ wsX00 ++ wsX10)
def wsX2_isBelow : List Cond := .code yX2_isBelow cX2_isBelow 3 (some .boolean) :: ([.fieldLink RX2 10 "ChooseTree" "classes" "LChooseTree$Classes;", .methodLink RX2 72 yX0_exists, .instanceMethod yX0_exists, .selects RX0 yX0_exists yX0_exists, .initialized RX0, .code yX0_exists cX0_exists 2 (some .boolean), .fieldLink RX0 9 "ChooseTree$Classes" "count" "I", .methodLink RX2 75 yX0_below, .instanceMethod yX0_below, .selects RX0 yX0_below yX0_below, .code yX0_below cX0_below 3 (some .boolean), .fieldLink RX0 26 "ChooseTree$Classes" "above" "[J", .static yX2_holds, .initialized RX2, .code yX2_holds cX2_holds 3 (some .boolean)] ++ wsX20 ++ wsX00)
def wsX2_face : List Cond := .code yX2_face cX2_face 3 (some .int) :: ([.fieldLink RX2 10 "ChooseTree" "classes" "LChooseTree$Classes;", .fieldLink RX2 79 "ChooseTree$Classes" "faceAmount" "[I", .methodLink RX2 72 yX0_exists, .instanceMethod yX0_exists, .selects RX0 yX0_exists yX0_exists, .initialized RX0, .code yX0_exists cX0_exists 2 (some .boolean), .fieldLink RX0 9 "ChooseTree$Classes" "count" "I", .methodLink RX2 82 yX0_faceAt, .instanceMethod yX0_faceAt, .selects RX0 yX0_faceAt yX0_faceAt, .code yX0_faceAt cX0_faceAt 3 (some .int), .fieldLink RX0 36 "ChooseTree$Classes" "faceList" "[I", .fieldLink RX0 33 "ChooseTree$Classes" "faceStart" "[I"] ++ wsX20 ++ wsX00)
def wsX2_couldReplace : List Cond := .code yX2_couldReplace cX2_couldReplace 3 (some .boolean) :: ([.fieldLink RX2 19 "ChooseTree" "methods" "LChooseTree$Methods;", .fieldLink RX2 131 "ChooseTree$Methods" "name" "[I", .methodLink RX2 161 yX1_isVirtual, .instanceMethod yX1_isVirtual, .selects RX1 yX1_isVirtual yX1_isVirtual, .initialized RX1, .code yX1_isVirtual cX1_isVirtual 2 (some .boolean), .methodLink RX1 34 yX1_isStatic, .instanceMethod yX1_isStatic, .selects RX1 yX1_isStatic yX1_isStatic, .code yX1_isStatic cX1_isStatic 2 (some .boolean), .fieldLink RX1 31 "ChooseTree$Methods" "kind" "[I", .methodLink RX1 38 yX1_isPrivate, .instanceMethod yX1_isPrivate, .selects RX1 yX1_isPrivate yX1_isPrivate, .code yX1_isPrivate cX1_isPrivate 2 (some .boolean), .fieldLink RX1 28 "ChooseTree$Methods" "sight" "[I"] ++ wsX20 ++ wsX10)
def wsX2_replacesBetween_r1 : List Cond := [Cond.fieldLink RX2 19 "ChooseTree" "methods" "LChooseTree$Methods;", Cond.fieldLink RX2 115 "ChooseTree$Methods" "owner" "[I", Cond.fieldLink RX2 10 "ChooseTree" "classes" "LChooseTree$Classes;", Cond.fieldLink RX2 131 "ChooseTree$Methods" "name" "[I", Cond.fieldLink RX2 155 "ChooseTree$Classes" "pack" "[I", Cond.methodLink RX2 164 yX0_inRow, Cond.instanceMethod yX0_inRow, Cond.selects RX0 yX0_inRow yX0_inRow, Cond.initialized RX0, Cond.code yX0_inRow cX0_inRow 3 (some .boolean), Cond.fieldLink RX0 22 "ChooseTree$Classes" "face" "[Z", Cond.methodLink RX0 54 yX0_below, Cond.instanceMethod yX0_below, Cond.selects RX0 yX0_below yX0_below, Cond.code yX0_below cX0_below 3 (some .boolean), Cond.fieldLink RX0 26 "ChooseTree$Classes" "above" "[J", Cond.static yX2_holds, Cond.initialized RX2, Cond.code yX2_holds cX2_holds 3 (some .boolean), Cond.methodLink RX2 64 yX1_inClass, Cond.instanceMethod yX1_inClass, Cond.selects RX1 yX1_inClass yX1_inClass, Cond.initialized RX1, Cond.code yX1_inClass cX1_inClass 5 (some .int)]
def wsX2_replacesBetween_r2 : List Cond := [Cond.fieldLink RX1 22 "ChooseTree$Methods" "first" "[I", Cond.fieldLink RX1 25 "ChooseTree$Methods" "amount" "[I", Cond.fieldLink RX1 19 "ChooseTree$Methods" "name" "[I", Cond.methodLink RX2 161 yX1_isVirtual, Cond.instanceMethod yX1_isVirtual, Cond.selects RX1 yX1_isVirtual yX1_isVirtual, Cond.code yX1_isVirtual cX1_isVirtual 2 (some .boolean), Cond.methodLink RX1 34 yX1_isStatic, Cond.instanceMethod yX1_isStatic, Cond.selects RX1 yX1_isStatic yX1_isStatic, Cond.code yX1_isStatic cX1_isStatic 2 (some .boolean), Cond.fieldLink RX1 31 "ChooseTree$Methods" "kind" "[I", Cond.methodLink RX1 38 yX1_isPrivate, Cond.instanceMethod yX1_isPrivate, Cond.selects RX1 yX1_isPrivate yX1_isPrivate, Cond.code yX1_isPrivate cX1_isPrivate 2 (some .boolean), Cond.fieldLink RX1 28 "ChooseTree$Methods" "sight" "[I", Cond.methodLink RX2 152 yX1_isPublicOrProtected, Cond.instanceMethod yX1_isPublicOrProtected, Cond.selects RX1 yX1_isPublicOrProtected yX1_isPublicOrProtected, Cond.code yX1_isPublicOrProtected cX1_isPublicOrProtected 2 (some .boolean)]
def wsX2_replacesBetween : List Cond := .code yX2_replacesBetween cX2_replacesBetween 7 (some .boolean) :: ((wsX2_replacesBetween_r1 ++ wsX2_replacesBetween_r2) ++ wsX20 ++ wsX10 ++ wsX00)
def wsX2_replaces_r1 : List Cond := [Cond.fieldLink RX2 19 "ChooseTree" "methods" "LChooseTree$Methods;", Cond.fieldLink RX2 10 "ChooseTree" "classes" "LChooseTree$Classes;", Cond.fieldLink RX2 155 "ChooseTree$Classes" "pack" "[I", Cond.fieldLink RX2 115 "ChooseTree$Methods" "owner" "[I", Cond.methodLink RX2 149 yX2_couldReplace, Cond.instanceMethod yX2_couldReplace, Cond.selects RX2 yX2_couldReplace yX2_couldReplace, Cond.initialized RX2, Cond.code yX2_couldReplace cX2_couldReplace 3 (some .boolean), Cond.fieldLink RX2 131 "ChooseTree$Methods" "name" "[I", Cond.methodLink RX2 161 yX1_isVirtual, Cond.instanceMethod yX1_isVirtual, Cond.selects RX1 yX1_isVirtual yX1_isVirtual, Cond.initialized RX1, Cond.code yX1_isVirtual cX1_isVirtual 2 (some .boolean), Cond.methodLink RX1 34 yX1_isStatic, Cond.instanceMethod yX1_isStatic, Cond.selects RX1 yX1_isStatic yX1_isStatic, Cond.code yX1_isStatic cX1_isStatic 2 (some .boolean), Cond.fieldLink RX1 31 "ChooseTree$Methods" "kind" "[I", Cond.methodLink RX1 38 yX1_isPrivate, Cond.instanceMethod yX1_isPrivate, Cond.selects RX1 yX1_isPrivate yX1_isPrivate, Cond.code yX1_isPrivate cX1_isPrivate 2 (some .boolean)]
def wsX2_replaces_r2 : List Cond := [Cond.fieldLink RX1 28 "ChooseTree$Methods" "sight" "[I", Cond.methodLink RX2 152 yX1_isPublicOrProtected, Cond.instanceMethod yX1_isPublicOrProtected, Cond.selects RX1 yX1_isPublicOrProtected yX1_isPublicOrProtected, Cond.code yX1_isPublicOrProtected cX1_isPublicOrProtected 2 (some .boolean), Cond.methodLink RX2 158 yX2_replacesBetween, Cond.instanceMethod yX2_replacesBetween, Cond.selects RX2 yX2_replacesBetween yX2_replacesBetween, Cond.code yX2_replacesBetween cX2_replacesBetween 7 (some .boolean), Cond.methodLink RX2 164 yX0_inRow, Cond.instanceMethod yX0_inRow, Cond.selects RX0 yX0_inRow yX0_inRow, Cond.initialized RX0, Cond.code yX0_inRow cX0_inRow 3 (some .boolean), Cond.fieldLink RX0 22 "ChooseTree$Classes" "face" "[Z", Cond.methodLink RX0 54 yX0_below, Cond.instanceMethod yX0_below, Cond.selects RX0 yX0_below yX0_below, Cond.code yX0_below cX0_below 3 (some .boolean), Cond.fieldLink RX0 26 "ChooseTree$Classes" "above" "[J", Cond.static yX2_holds, Cond.code yX2_holds cX2_holds 3 (some .boolean), Cond.methodLink RX2 64 yX1_inClass, Cond.instanceMethod yX1_inClass]
def wsX2_replaces_r3 : List Cond := [Cond.selects RX1 yX1_inClass yX1_inClass, Cond.code yX1_inClass cX1_inClass 5 (some .int), Cond.fieldLink RX1 22 "ChooseTree$Methods" "first" "[I", Cond.fieldLink RX1 25 "ChooseTree$Methods" "amount" "[I", Cond.fieldLink RX1 19 "ChooseTree$Methods" "name" "[I"]
def wsX2_replaces : List Cond := .code yX2_replaces cX2_replaces 3 (some .boolean) :: ((wsX2_replaces_r1 ++ (wsX2_replaces_r2 ++ wsX2_replaces_r3)) ++ wsX20 ++ wsX00 ++ wsX10)
def wsX2_overrides_r1 : List Cond := [Cond.fieldLink RX2 19 "ChooseTree" "methods" "LChooseTree$Methods;", Cond.methodLink RX2 85 yX1_exists, Cond.instanceMethod yX1_exists, Cond.selects RX1 yX1_exists yX1_exists, Cond.initialized RX1, Cond.code yX1_exists cX1_exists 2 (some .boolean), Cond.fieldLink RX1 9 "ChooseTree$Methods" "count" "I", Cond.methodLink RX2 86 yX2_replaces, Cond.instanceMethod yX2_replaces, Cond.selects RX2 yX2_replaces yX2_replaces, Cond.initialized RX2, Cond.code yX2_replaces cX2_replaces 3 (some .boolean), Cond.fieldLink RX2 10 "ChooseTree" "classes" "LChooseTree$Classes;", Cond.fieldLink RX2 155 "ChooseTree$Classes" "pack" "[I", Cond.fieldLink RX2 115 "ChooseTree$Methods" "owner" "[I", Cond.methodLink RX2 149 yX2_couldReplace, Cond.instanceMethod yX2_couldReplace, Cond.selects RX2 yX2_couldReplace yX2_couldReplace, Cond.code yX2_couldReplace cX2_couldReplace 3 (some .boolean), Cond.fieldLink RX2 131 "ChooseTree$Methods" "name" "[I", Cond.methodLink RX2 161 yX1_isVirtual, Cond.instanceMethod yX1_isVirtual, Cond.selects RX1 yX1_isVirtual yX1_isVirtual, Cond.code yX1_isVirtual cX1_isVirtual 2 (some .boolean)]
def wsX2_overrides_r2 : List Cond := [Cond.methodLink RX1 34 yX1_isStatic, Cond.instanceMethod yX1_isStatic, Cond.selects RX1 yX1_isStatic yX1_isStatic, Cond.code yX1_isStatic cX1_isStatic 2 (some .boolean), Cond.fieldLink RX1 31 "ChooseTree$Methods" "kind" "[I", Cond.methodLink RX1 38 yX1_isPrivate, Cond.instanceMethod yX1_isPrivate, Cond.selects RX1 yX1_isPrivate yX1_isPrivate, Cond.code yX1_isPrivate cX1_isPrivate 2 (some .boolean), Cond.fieldLink RX1 28 "ChooseTree$Methods" "sight" "[I", Cond.methodLink RX2 152 yX1_isPublicOrProtected, Cond.instanceMethod yX1_isPublicOrProtected, Cond.selects RX1 yX1_isPublicOrProtected yX1_isPublicOrProtected, Cond.code yX1_isPublicOrProtected cX1_isPublicOrProtected 2 (some .boolean), Cond.methodLink RX2 158 yX2_replacesBetween, Cond.instanceMethod yX2_replacesBetween, Cond.selects RX2 yX2_replacesBetween yX2_replacesBetween, Cond.code yX2_replacesBetween cX2_replacesBetween 7 (some .boolean), Cond.methodLink RX2 164 yX0_inRow, Cond.instanceMethod yX0_inRow, Cond.selects RX0 yX0_inRow yX0_inRow, Cond.initialized RX0, Cond.code yX0_inRow cX0_inRow 3 (some .boolean), Cond.fieldLink RX0 22 "ChooseTree$Classes" "face" "[Z"]
def wsX2_overrides_r3 : List Cond := [Cond.methodLink RX0 54 yX0_below, Cond.instanceMethod yX0_below, Cond.selects RX0 yX0_below yX0_below, Cond.code yX0_below cX0_below 3 (some .boolean), Cond.fieldLink RX0 26 "ChooseTree$Classes" "above" "[J", Cond.static yX2_holds, Cond.code yX2_holds cX2_holds 3 (some .boolean), Cond.methodLink RX2 64 yX1_inClass, Cond.instanceMethod yX1_inClass, Cond.selects RX1 yX1_inClass yX1_inClass, Cond.code yX1_inClass cX1_inClass 5 (some .int), Cond.fieldLink RX1 22 "ChooseTree$Methods" "first" "[I", Cond.fieldLink RX1 25 "ChooseTree$Methods" "amount" "[I", Cond.fieldLink RX1 19 "ChooseTree$Methods" "name" "[I"]
def wsX2_overrides : List Cond := .code yX2_overrides cX2_overrides 3 (some .boolean) :: ((wsX2_overrides_r1 ++ (wsX2_overrides_r2 ++ wsX2_overrides_r3)) ++ wsX20 ++ wsX10 ++ wsX00)
def wsX2_replacesFinal_r1 : List Cond := [Cond.fieldLink RX2 19 "ChooseTree" "methods" "LChooseTree$Methods;", Cond.fieldLink RX2 115 "ChooseTree$Methods" "owner" "[I", Cond.fieldLink RX2 10 "ChooseTree" "classes" "LChooseTree$Classes;", Cond.fieldLink RX2 131 "ChooseTree$Methods" "name" "[I", Cond.methodLink RX2 164 yX0_inRow, Cond.instanceMethod yX0_inRow, Cond.selects RX0 yX0_inRow yX0_inRow, Cond.initialized RX0, Cond.code yX0_inRow cX0_inRow 3 (some .boolean), Cond.fieldLink RX0 22 "ChooseTree$Classes" "face" "[Z", Cond.methodLink RX0 54 yX0_below, Cond.instanceMethod yX0_below, Cond.selects RX0 yX0_below yX0_below, Cond.code yX0_below cX0_below 3 (some .boolean), Cond.fieldLink RX0 26 "ChooseTree$Classes" "above" "[J", Cond.static yX2_holds, Cond.initialized RX2, Cond.code yX2_holds cX2_holds 3 (some .boolean), Cond.methodLink RX2 64 yX1_inClass, Cond.instanceMethod yX1_inClass, Cond.selects RX1 yX1_inClass yX1_inClass, Cond.initialized RX1, Cond.code yX1_inClass cX1_inClass 5 (some .int), Cond.fieldLink RX1 22 "ChooseTree$Methods" "first" "[I"]
def wsX2_replacesFinal_r2 : List Cond := [Cond.fieldLink RX1 25 "ChooseTree$Methods" "amount" "[I", Cond.fieldLink RX1 19 "ChooseTree$Methods" "name" "[I", Cond.methodLink RX2 167 yX1_isFinal, Cond.instanceMethod yX1_isFinal, Cond.selects RX1 yX1_isFinal yX1_isFinal, Cond.code yX1_isFinal cX1_isFinal 2 (some .boolean), Cond.fieldLink RX1 31 "ChooseTree$Methods" "kind" "[I", Cond.methodLink RX2 86 yX2_replaces, Cond.instanceMethod yX2_replaces, Cond.selects RX2 yX2_replaces yX2_replaces, Cond.code yX2_replaces cX2_replaces 3 (some .boolean), Cond.fieldLink RX2 155 "ChooseTree$Classes" "pack" "[I", Cond.methodLink RX2 149 yX2_couldReplace, Cond.instanceMethod yX2_couldReplace, Cond.selects RX2 yX2_couldReplace yX2_couldReplace, Cond.code yX2_couldReplace cX2_couldReplace 3 (some .boolean), Cond.methodLink RX2 161 yX1_isVirtual, Cond.instanceMethod yX1_isVirtual, Cond.selects RX1 yX1_isVirtual yX1_isVirtual, Cond.code yX1_isVirtual cX1_isVirtual 2 (some .boolean), Cond.methodLink RX1 34 yX1_isStatic, Cond.instanceMethod yX1_isStatic, Cond.selects RX1 yX1_isStatic yX1_isStatic, Cond.code yX1_isStatic cX1_isStatic 2 (some .boolean)]
def wsX2_replacesFinal_r3 : List Cond := [Cond.methodLink RX1 38 yX1_isPrivate, Cond.instanceMethod yX1_isPrivate, Cond.selects RX1 yX1_isPrivate yX1_isPrivate, Cond.code yX1_isPrivate cX1_isPrivate 2 (some .boolean), Cond.fieldLink RX1 28 "ChooseTree$Methods" "sight" "[I", Cond.methodLink RX2 152 yX1_isPublicOrProtected, Cond.instanceMethod yX1_isPublicOrProtected, Cond.selects RX1 yX1_isPublicOrProtected yX1_isPublicOrProtected, Cond.code yX1_isPublicOrProtected cX1_isPublicOrProtected 2 (some .boolean), Cond.methodLink RX2 158 yX2_replacesBetween, Cond.instanceMethod yX2_replacesBetween, Cond.selects RX2 yX2_replacesBetween yX2_replacesBetween, Cond.code yX2_replacesBetween cX2_replacesBetween 7 (some .boolean)]
def wsX2_replacesFinal : List Cond := .code yX2_replacesFinal cX2_replacesFinal 5 (some .boolean) :: ((wsX2_replacesFinal_r1 ++ (wsX2_replacesFinal_r2 ++ wsX2_replacesFinal_r3)) ++ wsX20 ++ wsX10 ++ wsX00)
def wsX2_broken_r1 : List Cond := [Cond.fieldLink RX2 10 "ChooseTree" "classes" "LChooseTree$Classes;", Cond.fieldLink RX2 19 "ChooseTree" "methods" "LChooseTree$Methods;", Cond.fieldLink RX2 89 "ChooseTree$Methods" "first" "[I", Cond.fieldLink RX2 44 "ChooseTree$Methods" "amount" "[I", Cond.methodLink RX2 72 yX0_exists, Cond.instanceMethod yX0_exists, Cond.selects RX0 yX0_exists yX0_exists, Cond.initialized RX0, Cond.code yX0_exists cX0_exists 2 (some .boolean), Cond.fieldLink RX0 9 "ChooseTree$Classes" "count" "I", Cond.methodLink RX2 92 yX2_replacesFinal, Cond.instanceMethod yX2_replacesFinal, Cond.selects RX2 yX2_replacesFinal yX2_replacesFinal, Cond.initialized RX2, Cond.code yX2_replacesFinal cX2_replacesFinal 5 (some .boolean), Cond.fieldLink RX2 115 "ChooseTree$Methods" "owner" "[I", Cond.fieldLink RX2 131 "ChooseTree$Methods" "name" "[I", Cond.methodLink RX2 164 yX0_inRow, Cond.instanceMethod yX0_inRow, Cond.selects RX0 yX0_inRow yX0_inRow, Cond.code yX0_inRow cX0_inRow 3 (some .boolean), Cond.fieldLink RX0 22 "ChooseTree$Classes" "face" "[Z", Cond.methodLink RX0 54 yX0_below, Cond.instanceMethod yX0_below]
def wsX2_broken_r2 : List Cond := [Cond.selects RX0 yX0_below yX0_below, Cond.code yX0_below cX0_below 3 (some .boolean), Cond.fieldLink RX0 26 "ChooseTree$Classes" "above" "[J", Cond.static yX2_holds, Cond.code yX2_holds cX2_holds 3 (some .boolean), Cond.methodLink RX2 64 yX1_inClass, Cond.instanceMethod yX1_inClass, Cond.selects RX1 yX1_inClass yX1_inClass, Cond.initialized RX1, Cond.code yX1_inClass cX1_inClass 5 (some .int), Cond.fieldLink RX1 22 "ChooseTree$Methods" "first" "[I", Cond.fieldLink RX1 25 "ChooseTree$Methods" "amount" "[I", Cond.fieldLink RX1 19 "ChooseTree$Methods" "name" "[I", Cond.methodLink RX2 167 yX1_isFinal, Cond.instanceMethod yX1_isFinal, Cond.selects RX1 yX1_isFinal yX1_isFinal, Cond.code yX1_isFinal cX1_isFinal 2 (some .boolean), Cond.fieldLink RX1 31 "ChooseTree$Methods" "kind" "[I", Cond.methodLink RX2 86 yX2_replaces, Cond.instanceMethod yX2_replaces, Cond.selects RX2 yX2_replaces yX2_replaces, Cond.code yX2_replaces cX2_replaces 3 (some .boolean), Cond.fieldLink RX2 155 "ChooseTree$Classes" "pack" "[I", Cond.methodLink RX2 149 yX2_couldReplace]
def wsX2_broken_r3 : List Cond := [Cond.instanceMethod yX2_couldReplace, Cond.selects RX2 yX2_couldReplace yX2_couldReplace, Cond.code yX2_couldReplace cX2_couldReplace 3 (some .boolean), Cond.methodLink RX2 161 yX1_isVirtual, Cond.instanceMethod yX1_isVirtual, Cond.selects RX1 yX1_isVirtual yX1_isVirtual, Cond.code yX1_isVirtual cX1_isVirtual 2 (some .boolean), Cond.methodLink RX1 34 yX1_isStatic, Cond.instanceMethod yX1_isStatic, Cond.selects RX1 yX1_isStatic yX1_isStatic, Cond.code yX1_isStatic cX1_isStatic 2 (some .boolean), Cond.methodLink RX1 38 yX1_isPrivate, Cond.instanceMethod yX1_isPrivate, Cond.selects RX1 yX1_isPrivate yX1_isPrivate, Cond.code yX1_isPrivate cX1_isPrivate 2 (some .boolean), Cond.fieldLink RX1 28 "ChooseTree$Methods" "sight" "[I", Cond.methodLink RX2 152 yX1_isPublicOrProtected, Cond.instanceMethod yX1_isPublicOrProtected, Cond.selects RX1 yX1_isPublicOrProtected yX1_isPublicOrProtected, Cond.code yX1_isPublicOrProtected cX1_isPublicOrProtected 2 (some .boolean), Cond.methodLink RX2 158 yX2_replacesBetween, Cond.instanceMethod yX2_replacesBetween, Cond.selects RX2 yX2_replacesBetween yX2_replacesBetween, Cond.code yX2_replacesBetween cX2_replacesBetween 7 (some .boolean)]
def wsX2_broken : List Cond := .code yX2_broken cX2_broken 4 (some .int) :: ((wsX2_broken_r1 ++ (wsX2_broken_r2 ++ wsX2_broken_r3)) ++ wsX20 ++ wsX10 ++ wsX00)
def wsX2_hiddenFaces : List Cond := .code yX2_hiddenFaces cX2_hiddenFaces 7 (some .long) :: ([.fieldLink RX2 10 "ChooseTree" "classes" "LChooseTree$Classes;", .fieldLink RX2 79 "ChooseTree$Classes" "faceAmount" "[I", .fieldLink RX2 19 "ChooseTree" "methods" "LChooseTree$Methods;", .fieldLink RX2 170 "ChooseTree$Classes" "above" "[J", .methodLink RX2 82 yX0_faceAt, .instanceMethod yX0_faceAt, .selects RX0 yX0_faceAt yX0_faceAt, .initialized RX0, .code yX0_faceAt cX0_faceAt 3 (some .int), .fieldLink RX0 36 "ChooseTree$Classes" "faceList" "[I", .fieldLink RX0 33 "ChooseTree$Classes" "faceStart" "[I", .methodLink RX2 64 yX1_inClass, .instanceMethod yX1_inClass, .selects RX1 yX1_inClass yX1_inClass, .initialized RX1, .code yX1_inClass cX1_inClass 5 (some .int), .fieldLink RX1 22 "ChooseTree$Methods" "first" "[I", .fieldLink RX1 25 "ChooseTree$Methods" "amount" "[I", .fieldLink RX1 19 "ChooseTree$Methods" "name" "[I"] ++ wsX20 ++ wsX00 ++ wsX10)
def wsX2_nearestAt : List Cond := .code yX2_nearestAt cX2_nearestAt 7 (some .int) :: ([.fieldLink RX2 10 "ChooseTree" "classes" "LChooseTree$Classes;", .fieldLink RX2 19 "ChooseTree" "methods" "LChooseTree$Methods;", .methodLink RX2 82 yX0_faceAt, .instanceMethod yX0_faceAt, .selects RX0 yX0_faceAt yX0_faceAt, .initialized RX0, .code yX0_faceAt cX0_faceAt 3 (some .int), .fieldLink RX0 36 "ChooseTree$Classes" "faceList" "[I", .fieldLink RX0 33 "ChooseTree$Classes" "faceStart" "[I", .methodLink RX2 174 yX2_holds, .static yX2_holds, .initialized RX2, .code yX2_holds cX2_holds 3 (some .boolean), .methodLink RX2 64 yX1_inClass, .instanceMethod yX1_inClass, .selects RX1 yX1_inClass yX1_inClass, .initialized RX1, .code yX1_inClass cX1_inClass 5 (some .int), .fieldLink RX1 22 "ChooseTree$Methods" "first" "[I", .fieldLink RX1 25 "ChooseTree$Methods" "amount" "[I", .fieldLink RX1 19 "ChooseTree$Methods" "name" "[I"] ++ wsX20 ++ wsX00 ++ wsX10)
def wsX2_nearest_r1 : List Cond := [Cond.fieldLink RX2 10 "ChooseTree" "classes" "LChooseTree$Classes;", Cond.fieldLink RX2 79 "ChooseTree$Classes" "faceAmount" "[I", Cond.methodLink RX2 72 yX0_exists, Cond.instanceMethod yX0_exists, Cond.selects RX0 yX0_exists yX0_exists, Cond.initialized RX0, Cond.code yX0_exists cX0_exists 2 (some .boolean), Cond.fieldLink RX0 9 "ChooseTree$Classes" "count" "I", Cond.methodLink RX2 95 yX2_hiddenFaces, Cond.instanceMethod yX2_hiddenFaces, Cond.selects RX2 yX2_hiddenFaces yX2_hiddenFaces, Cond.initialized RX2, Cond.code yX2_hiddenFaces cX2_hiddenFaces 7 (some .long), Cond.fieldLink RX2 19 "ChooseTree" "methods" "LChooseTree$Methods;", Cond.fieldLink RX2 170 "ChooseTree$Classes" "above" "[J", Cond.methodLink RX2 82 yX0_faceAt, Cond.instanceMethod yX0_faceAt, Cond.selects RX0 yX0_faceAt yX0_faceAt, Cond.code yX0_faceAt cX0_faceAt 3 (some .int), Cond.fieldLink RX0 36 "ChooseTree$Classes" "faceList" "[I", Cond.fieldLink RX0 33 "ChooseTree$Classes" "faceStart" "[I", Cond.methodLink RX2 64 yX1_inClass, Cond.instanceMethod yX1_inClass, Cond.selects RX1 yX1_inClass yX1_inClass]
def wsX2_nearest_r2 : List Cond := [Cond.initialized RX1, Cond.code yX1_inClass cX1_inClass 5 (some .int), Cond.fieldLink RX1 22 "ChooseTree$Methods" "first" "[I", Cond.fieldLink RX1 25 "ChooseTree$Methods" "amount" "[I", Cond.fieldLink RX1 19 "ChooseTree$Methods" "name" "[I", Cond.methodLink RX2 99 yX2_nearestAt, Cond.instanceMethod yX2_nearestAt, Cond.selects RX2 yX2_nearestAt yX2_nearestAt, Cond.code yX2_nearestAt cX2_nearestAt 7 (some .int), Cond.methodLink RX2 174 yX2_holds, Cond.static yX2_holds, Cond.code yX2_holds cX2_holds 3 (some .boolean)]
def wsX2_nearest : List Cond := .code yX2_nearest cX2_nearest 9 (some .int) :: ((wsX2_nearest_r1 ++ wsX2_nearest_r2) ++ wsX20 ++ wsX00 ++ wsX10)
def wsX2_firstInRow : List Cond := .code yX2_firstInRow cX2_firstInRow 5 (some .int) :: ([.fieldLink RX2 10 "ChooseTree" "classes" "LChooseTree$Classes;", .fieldLink RX2 19 "ChooseTree" "methods" "LChooseTree$Methods;", .methodLink RX2 164 yX0_inRow, .instanceMethod yX0_inRow, .selects RX0 yX0_inRow yX0_inRow, .initialized RX0, .code yX0_inRow cX0_inRow 3 (some .boolean), .fieldLink RX0 22 "ChooseTree$Classes" "face" "[Z", .methodLink RX0 54 yX0_below, .instanceMethod yX0_below, .selects RX0 yX0_below yX0_below, .code yX0_below cX0_below 3 (some .boolean), .fieldLink RX0 26 "ChooseTree$Classes" "above" "[J", .static yX2_holds, .initialized RX2, .code yX2_holds cX2_holds 3 (some .boolean), .methodLink RX2 64 yX1_inClass, .instanceMethod yX1_inClass, .selects RX1 yX1_inClass yX1_inClass, .initialized RX1, .code yX1_inClass cX1_inClass 5 (some .int), .fieldLink RX1 22 "ChooseTree$Methods" "first" "[I", .fieldLink RX1 25 "ChooseTree$Methods" "amount" "[I", .fieldLink RX1 19 "ChooseTree$Methods" "name" "[I"] ++ wsX20 ++ wsX00 ++ wsX10)
def wsX2_onlyConcreteNearest_r1 : List Cond := [Cond.fieldLink RX2 10 "ChooseTree" "classes" "LChooseTree$Classes;", Cond.fieldLink RX2 79 "ChooseTree$Classes" "faceAmount" "[I", Cond.fieldLink RX2 19 "ChooseTree" "methods" "LChooseTree$Methods;", Cond.methodLink RX2 95 yX2_hiddenFaces, Cond.instanceMethod yX2_hiddenFaces, Cond.selects RX2 yX2_hiddenFaces yX2_hiddenFaces, Cond.initialized RX2, Cond.code yX2_hiddenFaces cX2_hiddenFaces 7 (some .long), Cond.fieldLink RX2 170 "ChooseTree$Classes" "above" "[J", Cond.methodLink RX2 82 yX0_faceAt, Cond.instanceMethod yX0_faceAt, Cond.selects RX0 yX0_faceAt yX0_faceAt, Cond.initialized RX0, Cond.code yX0_faceAt cX0_faceAt 3 (some .int), Cond.fieldLink RX0 36 "ChooseTree$Classes" "faceList" "[I", Cond.fieldLink RX0 33 "ChooseTree$Classes" "faceStart" "[I", Cond.methodLink RX2 64 yX1_inClass, Cond.instanceMethod yX1_inClass, Cond.selects RX1 yX1_inClass yX1_inClass, Cond.initialized RX1, Cond.code yX1_inClass cX1_inClass 5 (some .int), Cond.fieldLink RX1 22 "ChooseTree$Methods" "first" "[I", Cond.fieldLink RX1 25 "ChooseTree$Methods" "amount" "[I", Cond.fieldLink RX1 19 "ChooseTree$Methods" "name" "[I"]
def wsX2_onlyConcreteNearest_r2 : List Cond := [Cond.methodLink RX2 99 yX2_nearestAt, Cond.instanceMethod yX2_nearestAt, Cond.selects RX2 yX2_nearestAt yX2_nearestAt, Cond.code yX2_nearestAt cX2_nearestAt 7 (some .int), Cond.methodLink RX2 174 yX2_holds, Cond.static yX2_holds, Cond.code yX2_holds cX2_holds 3 (some .boolean), Cond.methodLink RX2 178 yX1_isAbstract, Cond.instanceMethod yX1_isAbstract, Cond.selects RX1 yX1_isAbstract yX1_isAbstract, Cond.code yX1_isAbstract cX1_isAbstract 2 (some .boolean), Cond.fieldLink RX1 31 "ChooseTree$Methods" "kind" "[I"]
def wsX2_onlyConcreteNearest : List Cond := .code yX2_onlyConcreteNearest cX2_onlyConcreteNearest 8 (some .int) :: ((wsX2_onlyConcreteNearest_r1 ++ wsX2_onlyConcreteNearest_r2) ++ wsX20 ++ wsX00 ++ wsX10)
def wsX2_firstInFaces : List Cond := .code yX2_firstInFaces cX2_firstInFaces 5 (some .int) :: ([.fieldLink RX2 10 "ChooseTree" "classes" "LChooseTree$Classes;", .fieldLink RX2 79 "ChooseTree$Classes" "faceAmount" "[I", .fieldLink RX2 19 "ChooseTree" "methods" "LChooseTree$Methods;", .methodLink RX2 82 yX0_faceAt, .instanceMethod yX0_faceAt, .selects RX0 yX0_faceAt yX0_faceAt, .initialized RX0, .code yX0_faceAt cX0_faceAt 3 (some .int), .fieldLink RX0 36 "ChooseTree$Classes" "faceList" "[I", .fieldLink RX0 33 "ChooseTree$Classes" "faceStart" "[I", .methodLink RX2 64 yX1_inClass, .instanceMethod yX1_inClass, .selects RX1 yX1_inClass yX1_inClass, .initialized RX1, .code yX1_inClass cX1_inClass 5 (some .int), .fieldLink RX1 22 "ChooseTree$Methods" "first" "[I", .fieldLink RX1 25 "ChooseTree$Methods" "amount" "[I", .fieldLink RX1 19 "ChooseTree$Methods" "name" "[I"] ++ wsX20 ++ wsX00 ++ wsX10)
def wsX2_find_r1 : List Cond := [Cond.fieldLink RX2 10 "ChooseTree" "classes" "LChooseTree$Classes;", Cond.methodLink RX2 72 yX0_exists, Cond.instanceMethod yX0_exists, Cond.selects RX0 yX0_exists yX0_exists, Cond.initialized RX0, Cond.code yX0_exists cX0_exists 2 (some .boolean), Cond.fieldLink RX0 9 "ChooseTree$Classes" "count" "I", Cond.methodLink RX2 103 yX2_firstInRow, Cond.instanceMethod yX2_firstInRow, Cond.selects RX2 yX2_firstInRow yX2_firstInRow, Cond.initialized RX2, Cond.code yX2_firstInRow cX2_firstInRow 5 (some .int), Cond.fieldLink RX2 19 "ChooseTree" "methods" "LChooseTree$Methods;", Cond.methodLink RX2 164 yX0_inRow, Cond.instanceMethod yX0_inRow, Cond.selects RX0 yX0_inRow yX0_inRow, Cond.code yX0_inRow cX0_inRow 3 (some .boolean), Cond.fieldLink RX0 22 "ChooseTree$Classes" "face" "[Z", Cond.methodLink RX0 54 yX0_below, Cond.instanceMethod yX0_below, Cond.selects RX0 yX0_below yX0_below, Cond.code yX0_below cX0_below 3 (some .boolean), Cond.fieldLink RX0 26 "ChooseTree$Classes" "above" "[J", Cond.static yX2_holds]
def wsX2_find_r2 : List Cond := [Cond.code yX2_holds cX2_holds 3 (some .boolean), Cond.methodLink RX2 64 yX1_inClass, Cond.instanceMethod yX1_inClass, Cond.selects RX1 yX1_inClass yX1_inClass, Cond.initialized RX1, Cond.code yX1_inClass cX1_inClass 5 (some .int), Cond.fieldLink RX1 22 "ChooseTree$Methods" "first" "[I", Cond.fieldLink RX1 25 "ChooseTree$Methods" "amount" "[I", Cond.fieldLink RX1 19 "ChooseTree$Methods" "name" "[I", Cond.methodLink RX2 106 yX2_onlyConcreteNearest, Cond.instanceMethod yX2_onlyConcreteNearest, Cond.selects RX2 yX2_onlyConcreteNearest yX2_onlyConcreteNearest, Cond.code yX2_onlyConcreteNearest cX2_onlyConcreteNearest 8 (some .int), Cond.fieldLink RX2 79 "ChooseTree$Classes" "faceAmount" "[I", Cond.methodLink RX2 95 yX2_hiddenFaces, Cond.instanceMethod yX2_hiddenFaces, Cond.selects RX2 yX2_hiddenFaces yX2_hiddenFaces, Cond.code yX2_hiddenFaces cX2_hiddenFaces 7 (some .long), Cond.fieldLink RX2 170 "ChooseTree$Classes" "above" "[J", Cond.methodLink RX2 82 yX0_faceAt, Cond.instanceMethod yX0_faceAt, Cond.selects RX0 yX0_faceAt yX0_faceAt, Cond.code yX0_faceAt cX0_faceAt 3 (some .int), Cond.fieldLink RX0 36 "ChooseTree$Classes" "faceList" "[I"]
def wsX2_find_r3 : List Cond := [Cond.fieldLink RX0 33 "ChooseTree$Classes" "faceStart" "[I", Cond.methodLink RX2 99 yX2_nearestAt, Cond.instanceMethod yX2_nearestAt, Cond.selects RX2 yX2_nearestAt yX2_nearestAt, Cond.code yX2_nearestAt cX2_nearestAt 7 (some .int), Cond.methodLink RX2 174 yX2_holds, Cond.methodLink RX2 178 yX1_isAbstract, Cond.instanceMethod yX1_isAbstract, Cond.selects RX1 yX1_isAbstract yX1_isAbstract, Cond.code yX1_isAbstract cX1_isAbstract 2 (some .boolean), Cond.fieldLink RX1 31 "ChooseTree$Methods" "kind" "[I", Cond.methodLink RX2 109 yX2_firstInFaces, Cond.instanceMethod yX2_firstInFaces, Cond.selects RX2 yX2_firstInFaces yX2_firstInFaces, Cond.code yX2_firstInFaces cX2_firstInFaces 5 (some .int)]
def wsX2_find : List Cond := .code yX2_find cX2_find 5 (some .int) :: ((wsX2_find_r1 ++ (wsX2_find_r2 ++ wsX2_find_r3)) ++ wsX20 ++ wsX00 ++ wsX10)
def wsX2_firstReplacing_r1 : List Cond := [Cond.fieldLink RX2 10 "ChooseTree" "classes" "LChooseTree$Classes;", Cond.fieldLink RX2 19 "ChooseTree" "methods" "LChooseTree$Methods;", Cond.fieldLink RX2 131 "ChooseTree$Methods" "name" "[I", Cond.methodLink RX2 164 yX0_inRow, Cond.instanceMethod yX0_inRow, Cond.selects RX0 yX0_inRow yX0_inRow, Cond.initialized RX0, Cond.code yX0_inRow cX0_inRow 3 (some .boolean), Cond.fieldLink RX0 22 "ChooseTree$Classes" "face" "[Z", Cond.methodLink RX0 54 yX0_below, Cond.instanceMethod yX0_below, Cond.selects RX0 yX0_below yX0_below, Cond.code yX0_below cX0_below 3 (some .boolean), Cond.fieldLink RX0 26 "ChooseTree$Classes" "above" "[J", Cond.static yX2_holds, Cond.initialized RX2, Cond.code yX2_holds cX2_holds 3 (some .boolean), Cond.methodLink RX2 64 yX1_inClass, Cond.instanceMethod yX1_inClass, Cond.selects RX1 yX1_inClass yX1_inClass, Cond.initialized RX1, Cond.code yX1_inClass cX1_inClass 5 (some .int), Cond.fieldLink RX1 22 "ChooseTree$Methods" "first" "[I", Cond.fieldLink RX1 25 "ChooseTree$Methods" "amount" "[I"]
def wsX2_firstReplacing_r2 : List Cond := [Cond.fieldLink RX1 19 "ChooseTree$Methods" "name" "[I", Cond.methodLink RX2 86 yX2_replaces, Cond.instanceMethod yX2_replaces, Cond.selects RX2 yX2_replaces yX2_replaces, Cond.code yX2_replaces cX2_replaces 3 (some .boolean), Cond.fieldLink RX2 155 "ChooseTree$Classes" "pack" "[I", Cond.fieldLink RX2 115 "ChooseTree$Methods" "owner" "[I", Cond.methodLink RX2 149 yX2_couldReplace, Cond.instanceMethod yX2_couldReplace, Cond.selects RX2 yX2_couldReplace yX2_couldReplace, Cond.code yX2_couldReplace cX2_couldReplace 3 (some .boolean), Cond.methodLink RX2 161 yX1_isVirtual, Cond.instanceMethod yX1_isVirtual, Cond.selects RX1 yX1_isVirtual yX1_isVirtual, Cond.code yX1_isVirtual cX1_isVirtual 2 (some .boolean), Cond.methodLink RX1 34 yX1_isStatic, Cond.instanceMethod yX1_isStatic, Cond.selects RX1 yX1_isStatic yX1_isStatic, Cond.code yX1_isStatic cX1_isStatic 2 (some .boolean), Cond.fieldLink RX1 31 "ChooseTree$Methods" "kind" "[I", Cond.methodLink RX1 38 yX1_isPrivate, Cond.instanceMethod yX1_isPrivate, Cond.selects RX1 yX1_isPrivate yX1_isPrivate, Cond.code yX1_isPrivate cX1_isPrivate 2 (some .boolean)]
def wsX2_firstReplacing_r3 : List Cond := [Cond.fieldLink RX1 28 "ChooseTree$Methods" "sight" "[I", Cond.methodLink RX2 152 yX1_isPublicOrProtected, Cond.instanceMethod yX1_isPublicOrProtected, Cond.selects RX1 yX1_isPublicOrProtected yX1_isPublicOrProtected, Cond.code yX1_isPublicOrProtected cX1_isPublicOrProtected 2 (some .boolean), Cond.methodLink RX2 158 yX2_replacesBetween, Cond.instanceMethod yX2_replacesBetween, Cond.selects RX2 yX2_replacesBetween yX2_replacesBetween, Cond.code yX2_replacesBetween cX2_replacesBetween 7 (some .boolean)]
def wsX2_firstReplacing : List Cond := .code yX2_firstReplacing cX2_firstReplacing 5 (some .int) :: ((wsX2_firstReplacing_r1 ++ (wsX2_firstReplacing_r2 ++ wsX2_firstReplacing_r3)) ++ wsX20 ++ wsX10 ++ wsX00)
def wsX2_unlessAbstract : List Cond := .code yX2_unlessAbstract cX2_unlessAbstract 2 (some .int) :: ([.fieldLink RX2 19 "ChooseTree" "methods" "LChooseTree$Methods;", .methodLink RX2 178 yX1_isAbstract, .instanceMethod yX1_isAbstract, .selects RX1 yX1_isAbstract yX1_isAbstract, .initialized RX1, .code yX1_isAbstract cX1_isAbstract 2 (some .boolean), .fieldLink RX1 31 "ChooseTree$Methods" "kind" "[I"] ++ wsX20 ++ wsX10)
def wsX2_choose_r1 : List Cond := [Cond.fieldLink RX2 10 "ChooseTree" "classes" "LChooseTree$Classes;", Cond.fieldLink RX2 19 "ChooseTree" "methods" "LChooseTree$Methods;", Cond.fieldLink RX2 115 "ChooseTree$Methods" "owner" "[I", Cond.fieldLink RX2 131 "ChooseTree$Methods" "name" "[I", Cond.methodLink RX2 23 yX0_isPlain, Cond.instanceMethod yX0_isPlain, Cond.selects RX0 yX0_isPlain yX0_isPlain, Cond.initialized RX0, Cond.code yX0_isPlain cX0_isPlain 2 (some .boolean), Cond.fieldLink RX0 22 "ChooseTree$Classes" "face" "[Z", Cond.methodLink RX0 46 yX0_exists, Cond.instanceMethod yX0_exists, Cond.selects RX0 yX0_exists yX0_exists, Cond.code yX0_exists cX0_exists 2 (some .boolean), Cond.fieldLink RX0 9 "ChooseTree$Classes" "count" "I", Cond.methodLink RX2 85 yX1_exists, Cond.instanceMethod yX1_exists, Cond.selects RX1 yX1_exists yX1_exists, Cond.initialized RX1, Cond.code yX1_exists cX1_exists 2 (some .boolean), Cond.fieldLink RX1 9 "ChooseTree$Methods" "count" "I", Cond.methodLink RX2 112 yX1_isStatic, Cond.instanceMethod yX1_isStatic, Cond.selects RX1 yX1_isStatic yX1_isStatic]
def wsX2_choose_r2 : List Cond := [Cond.code yX1_isStatic cX1_isStatic 2 (some .boolean), Cond.fieldLink RX1 31 "ChooseTree$Methods" "kind" "[I", Cond.methodLink RX2 118 yX2_isBelow, Cond.instanceMethod yX2_isBelow, Cond.selects RX2 yX2_isBelow yX2_isBelow, Cond.initialized RX2, Cond.code yX2_isBelow cX2_isBelow 3 (some .boolean), Cond.methodLink RX2 72 yX0_exists, Cond.methodLink RX2 75 yX0_below, Cond.instanceMethod yX0_below, Cond.selects RX0 yX0_below yX0_below, Cond.code yX0_below cX0_below 3 (some .boolean), Cond.fieldLink RX0 26 "ChooseTree$Classes" "above" "[J", Cond.static yX2_holds, Cond.code yX2_holds cX2_holds 3 (some .boolean), Cond.methodLink RX2 121 yX1_isPrivate, Cond.instanceMethod yX1_isPrivate, Cond.selects RX1 yX1_isPrivate yX1_isPrivate, Cond.code yX1_isPrivate cX1_isPrivate 2 (some .boolean), Cond.fieldLink RX1 28 "ChooseTree$Methods" "sight" "[I", Cond.methodLink RX2 124 yX2_firstReplacing, Cond.instanceMethod yX2_firstReplacing, Cond.selects RX2 yX2_firstReplacing yX2_firstReplacing, Cond.code yX2_firstReplacing cX2_firstReplacing 5 (some .int)]
def wsX2_choose_r3 : List Cond := [Cond.methodLink RX2 164 yX0_inRow, Cond.instanceMethod yX0_inRow, Cond.selects RX0 yX0_inRow yX0_inRow, Cond.code yX0_inRow cX0_inRow 3 (some .boolean), Cond.methodLink RX0 54 yX0_below, Cond.methodLink RX2 64 yX1_inClass, Cond.instanceMethod yX1_inClass, Cond.selects RX1 yX1_inClass yX1_inClass, Cond.code yX1_inClass cX1_inClass 5 (some .int), Cond.fieldLink RX1 22 "ChooseTree$Methods" "first" "[I", Cond.fieldLink RX1 25 "ChooseTree$Methods" "amount" "[I", Cond.fieldLink RX1 19 "ChooseTree$Methods" "name" "[I", Cond.methodLink RX2 86 yX2_replaces, Cond.instanceMethod yX2_replaces, Cond.selects RX2 yX2_replaces yX2_replaces, Cond.code yX2_replaces cX2_replaces 3 (some .boolean), Cond.fieldLink RX2 155 "ChooseTree$Classes" "pack" "[I", Cond.methodLink RX2 149 yX2_couldReplace, Cond.instanceMethod yX2_couldReplace, Cond.selects RX2 yX2_couldReplace yX2_couldReplace, Cond.code yX2_couldReplace cX2_couldReplace 3 (some .boolean), Cond.methodLink RX2 161 yX1_isVirtual, Cond.instanceMethod yX1_isVirtual, Cond.selects RX1 yX1_isVirtual yX1_isVirtual]
def wsX2_choose_r4 : List Cond := [Cond.code yX1_isVirtual cX1_isVirtual 2 (some .boolean), Cond.methodLink RX1 34 yX1_isStatic, Cond.methodLink RX1 38 yX1_isPrivate, Cond.methodLink RX2 152 yX1_isPublicOrProtected, Cond.instanceMethod yX1_isPublicOrProtected, Cond.selects RX1 yX1_isPublicOrProtected yX1_isPublicOrProtected, Cond.code yX1_isPublicOrProtected cX1_isPublicOrProtected 2 (some .boolean), Cond.methodLink RX2 158 yX2_replacesBetween, Cond.instanceMethod yX2_replacesBetween, Cond.selects RX2 yX2_replacesBetween yX2_replacesBetween, Cond.code yX2_replacesBetween cX2_replacesBetween 7 (some .boolean), Cond.methodLink RX2 127 yX2_unlessAbstract, Cond.instanceMethod yX2_unlessAbstract, Cond.selects RX2 yX2_unlessAbstract yX2_unlessAbstract, Cond.code yX2_unlessAbstract cX2_unlessAbstract 2 (some .int), Cond.methodLink RX2 178 yX1_isAbstract, Cond.instanceMethod yX1_isAbstract, Cond.selects RX1 yX1_isAbstract yX1_isAbstract, Cond.code yX1_isAbstract cX1_isAbstract 2 (some .boolean), Cond.methodLink RX2 106 yX2_onlyConcreteNearest, Cond.instanceMethod yX2_onlyConcreteNearest, Cond.selects RX2 yX2_onlyConcreteNearest yX2_onlyConcreteNearest, Cond.code yX2_onlyConcreteNearest cX2_onlyConcreteNearest 8 (some .int), Cond.fieldLink RX2 79 "ChooseTree$Classes" "faceAmount" "[I"]
def wsX2_choose_r5 : List Cond := [Cond.methodLink RX2 95 yX2_hiddenFaces, Cond.instanceMethod yX2_hiddenFaces, Cond.selects RX2 yX2_hiddenFaces yX2_hiddenFaces, Cond.code yX2_hiddenFaces cX2_hiddenFaces 7 (some .long), Cond.fieldLink RX2 170 "ChooseTree$Classes" "above" "[J", Cond.methodLink RX2 82 yX0_faceAt, Cond.instanceMethod yX0_faceAt, Cond.selects RX0 yX0_faceAt yX0_faceAt, Cond.code yX0_faceAt cX0_faceAt 3 (some .int), Cond.fieldLink RX0 36 "ChooseTree$Classes" "faceList" "[I", Cond.fieldLink RX0 33 "ChooseTree$Classes" "faceStart" "[I", Cond.methodLink RX2 99 yX2_nearestAt, Cond.instanceMethod yX2_nearestAt, Cond.selects RX2 yX2_nearestAt yX2_nearestAt, Cond.code yX2_nearestAt cX2_nearestAt 7 (some .int), Cond.methodLink RX2 174 yX2_holds]
def wsX2_choose : List Cond := .code yX2_choose cX2_choose 5 (some .int) :: ((wsX2_choose_r1 ++ (wsX2_choose_r2 ++ (wsX2_choose_r3 ++ (wsX2_choose_r4 ++ wsX2_choose_r5)))) ++ wsX20 ++ wsX10 ++ wsX00)
def wsX2_firstInstanceInRow_r1 : List Cond := [Cond.fieldLink RX2 10 "ChooseTree" "classes" "LChooseTree$Classes;", Cond.fieldLink RX2 19 "ChooseTree" "methods" "LChooseTree$Methods;", Cond.methodLink RX2 164 yX0_inRow, Cond.instanceMethod yX0_inRow, Cond.selects RX0 yX0_inRow yX0_inRow, Cond.initialized RX0, Cond.code yX0_inRow cX0_inRow 3 (some .boolean), Cond.fieldLink RX0 22 "ChooseTree$Classes" "face" "[Z", Cond.methodLink RX0 54 yX0_below, Cond.instanceMethod yX0_below, Cond.selects RX0 yX0_below yX0_below, Cond.code yX0_below cX0_below 3 (some .boolean), Cond.fieldLink RX0 26 "ChooseTree$Classes" "above" "[J", Cond.static yX2_holds, Cond.initialized RX2, Cond.code yX2_holds cX2_holds 3 (some .boolean), Cond.methodLink RX2 64 yX1_inClass, Cond.instanceMethod yX1_inClass, Cond.selects RX1 yX1_inClass yX1_inClass, Cond.initialized RX1, Cond.code yX1_inClass cX1_inClass 5 (some .int), Cond.fieldLink RX1 22 "ChooseTree$Methods" "first" "[I", Cond.fieldLink RX1 25 "ChooseTree$Methods" "amount" "[I", Cond.fieldLink RX1 19 "ChooseTree$Methods" "name" "[I"]
def wsX2_firstInstanceInRow_r2 : List Cond := [Cond.methodLink RX2 112 yX1_isStatic, Cond.instanceMethod yX1_isStatic, Cond.selects RX1 yX1_isStatic yX1_isStatic, Cond.code yX1_isStatic cX1_isStatic 2 (some .boolean), Cond.fieldLink RX1 31 "ChooseTree$Methods" "kind" "[I"]
def wsX2_firstInstanceInRow : List Cond := .code yX2_firstInstanceInRow cX2_firstInstanceInRow 5 (some .int) :: ((wsX2_firstInstanceInRow_r1 ++ wsX2_firstInstanceInRow_r2) ++ wsX20 ++ wsX00 ++ wsX10)
def wsX2_special_r1 : List Cond := [Cond.fieldLink RX2 10 "ChooseTree" "classes" "LChooseTree$Classes;", Cond.fieldLink RX2 19 "ChooseTree" "methods" "LChooseTree$Methods;", Cond.fieldLink RX2 137 "ChooseTree$Classes" "parent" "[I", Cond.methodLink RX2 23 yX0_isPlain, Cond.instanceMethod yX0_isPlain, Cond.selects RX0 yX0_isPlain yX0_isPlain, Cond.initialized RX0, Cond.code yX0_isPlain cX0_isPlain 2 (some .boolean), Cond.fieldLink RX0 22 "ChooseTree$Classes" "face" "[Z", Cond.methodLink RX0 46 yX0_exists, Cond.instanceMethod yX0_exists, Cond.selects RX0 yX0_exists yX0_exists, Cond.code yX0_exists cX0_exists 2 (some .boolean), Cond.fieldLink RX0 9 "ChooseTree$Classes" "count" "I", Cond.methodLink RX2 134 yX2_find, Cond.instanceMethod yX2_find, Cond.selects RX2 yX2_find yX2_find, Cond.initialized RX2, Cond.code yX2_find cX2_find 5 (some .int), Cond.methodLink RX2 72 yX0_exists, Cond.methodLink RX2 103 yX2_firstInRow, Cond.instanceMethod yX2_firstInRow, Cond.selects RX2 yX2_firstInRow yX2_firstInRow, Cond.code yX2_firstInRow cX2_firstInRow 5 (some .int)]
def wsX2_special_r2 : List Cond := [Cond.methodLink RX2 164 yX0_inRow, Cond.instanceMethod yX0_inRow, Cond.selects RX0 yX0_inRow yX0_inRow, Cond.code yX0_inRow cX0_inRow 3 (some .boolean), Cond.methodLink RX0 54 yX0_below, Cond.instanceMethod yX0_below, Cond.selects RX0 yX0_below yX0_below, Cond.code yX0_below cX0_below 3 (some .boolean), Cond.fieldLink RX0 26 "ChooseTree$Classes" "above" "[J", Cond.static yX2_holds, Cond.code yX2_holds cX2_holds 3 (some .boolean), Cond.methodLink RX2 64 yX1_inClass, Cond.instanceMethod yX1_inClass, Cond.selects RX1 yX1_inClass yX1_inClass, Cond.initialized RX1, Cond.code yX1_inClass cX1_inClass 5 (some .int), Cond.fieldLink RX1 22 "ChooseTree$Methods" "first" "[I", Cond.fieldLink RX1 25 "ChooseTree$Methods" "amount" "[I", Cond.fieldLink RX1 19 "ChooseTree$Methods" "name" "[I", Cond.methodLink RX2 106 yX2_onlyConcreteNearest, Cond.instanceMethod yX2_onlyConcreteNearest, Cond.selects RX2 yX2_onlyConcreteNearest yX2_onlyConcreteNearest, Cond.code yX2_onlyConcreteNearest cX2_onlyConcreteNearest 8 (some .int), Cond.fieldLink RX2 79 "ChooseTree$Classes" "faceAmount" "[I"]
def wsX2_special_r3 : List Cond := [Cond.methodLink RX2 95 yX2_hiddenFaces, Cond.instanceMethod yX2_hiddenFaces, Cond.selects RX2 yX2_hiddenFaces yX2_hiddenFaces, Cond.code yX2_hiddenFaces cX2_hiddenFaces 7 (some .long), Cond.fieldLink RX2 170 "ChooseTree$Classes" "above" "[J", Cond.methodLink RX2 82 yX0_faceAt, Cond.instanceMethod yX0_faceAt, Cond.selects RX0 yX0_faceAt yX0_faceAt, Cond.code yX0_faceAt cX0_faceAt 3 (some .int), Cond.fieldLink RX0 36 "ChooseTree$Classes" "faceList" "[I", Cond.fieldLink RX0 33 "ChooseTree$Classes" "faceStart" "[I", Cond.methodLink RX2 99 yX2_nearestAt, Cond.instanceMethod yX2_nearestAt, Cond.selects RX2 yX2_nearestAt yX2_nearestAt, Cond.code yX2_nearestAt cX2_nearestAt 7 (some .int), Cond.methodLink RX2 174 yX2_holds, Cond.methodLink RX2 178 yX1_isAbstract, Cond.instanceMethod yX1_isAbstract, Cond.selects RX1 yX1_isAbstract yX1_isAbstract, Cond.code yX1_isAbstract cX1_isAbstract 2 (some .boolean), Cond.fieldLink RX1 31 "ChooseTree$Methods" "kind" "[I", Cond.methodLink RX2 109 yX2_firstInFaces, Cond.instanceMethod yX2_firstInFaces, Cond.selects RX2 yX2_firstInFaces yX2_firstInFaces]
def wsX2_special_r4 : List Cond := [Cond.code yX2_firstInFaces cX2_firstInFaces 5 (some .int), Cond.methodLink RX2 112 yX1_isStatic, Cond.instanceMethod yX1_isStatic, Cond.selects RX1 yX1_isStatic yX1_isStatic, Cond.code yX1_isStatic cX1_isStatic 2 (some .boolean), Cond.methodLink RX2 121 yX1_isPrivate, Cond.instanceMethod yX1_isPrivate, Cond.selects RX1 yX1_isPrivate yX1_isPrivate, Cond.code yX1_isPrivate cX1_isPrivate 2 (some .boolean), Cond.fieldLink RX1 28 "ChooseTree$Methods" "sight" "[I", Cond.methodLink RX2 75 yX0_below, Cond.methodLink RX2 140 yX2_firstInstanceInRow, Cond.instanceMethod yX2_firstInstanceInRow, Cond.selects RX2 yX2_firstInstanceInRow yX2_firstInstanceInRow, Cond.code yX2_firstInstanceInRow cX2_firstInstanceInRow 5 (some .int), Cond.methodLink RX2 127 yX2_unlessAbstract, Cond.instanceMethod yX2_unlessAbstract, Cond.selects RX2 yX2_unlessAbstract yX2_unlessAbstract, Cond.code yX2_unlessAbstract cX2_unlessAbstract 2 (some .int)]
def wsX2_special : List Cond := .code yX2_special cX2_special 9 (some .int) :: ((wsX2_special_r1 ++ (wsX2_special_r2 ++ (wsX2_special_r3 ++ wsX2_special_r4))) ++ wsX20 ++ wsX00 ++ wsX10)
def wsX2_replacesFromBelow_r1 : List Cond := [Cond.fieldLink RX2 10 "ChooseTree" "classes" "LChooseTree$Classes;", Cond.fieldLink RX2 19 "ChooseTree" "methods" "LChooseTree$Methods;", Cond.fieldLink RX2 115 "ChooseTree$Methods" "owner" "[I", Cond.methodLink RX2 75 yX0_below, Cond.instanceMethod yX0_below, Cond.selects RX0 yX0_below yX0_below, Cond.initialized RX0, Cond.code yX0_below cX0_below 3 (some .boolean), Cond.fieldLink RX0 26 "ChooseTree$Classes" "above" "[J", Cond.static yX2_holds, Cond.initialized RX2, Cond.code yX2_holds cX2_holds 3 (some .boolean), Cond.methodLink RX2 86 yX2_replaces, Cond.instanceMethod yX2_replaces, Cond.selects RX2 yX2_replaces yX2_replaces, Cond.code yX2_replaces cX2_replaces 3 (some .boolean), Cond.fieldLink RX2 155 "ChooseTree$Classes" "pack" "[I", Cond.methodLink RX2 149 yX2_couldReplace, Cond.instanceMethod yX2_couldReplace, Cond.selects RX2 yX2_couldReplace yX2_couldReplace, Cond.code yX2_couldReplace cX2_couldReplace 3 (some .boolean), Cond.fieldLink RX2 131 "ChooseTree$Methods" "name" "[I", Cond.methodLink RX2 161 yX1_isVirtual, Cond.instanceMethod yX1_isVirtual]
def wsX2_replacesFromBelow_r2 : List Cond := [Cond.selects RX1 yX1_isVirtual yX1_isVirtual, Cond.initialized RX1, Cond.code yX1_isVirtual cX1_isVirtual 2 (some .boolean), Cond.methodLink RX1 34 yX1_isStatic, Cond.instanceMethod yX1_isStatic, Cond.selects RX1 yX1_isStatic yX1_isStatic, Cond.code yX1_isStatic cX1_isStatic 2 (some .boolean), Cond.fieldLink RX1 31 "ChooseTree$Methods" "kind" "[I", Cond.methodLink RX1 38 yX1_isPrivate, Cond.instanceMethod yX1_isPrivate, Cond.selects RX1 yX1_isPrivate yX1_isPrivate, Cond.code yX1_isPrivate cX1_isPrivate 2 (some .boolean), Cond.fieldLink RX1 28 "ChooseTree$Methods" "sight" "[I", Cond.methodLink RX2 152 yX1_isPublicOrProtected, Cond.instanceMethod yX1_isPublicOrProtected, Cond.selects RX1 yX1_isPublicOrProtected yX1_isPublicOrProtected, Cond.code yX1_isPublicOrProtected cX1_isPublicOrProtected 2 (some .boolean), Cond.methodLink RX2 158 yX2_replacesBetween, Cond.instanceMethod yX2_replacesBetween, Cond.selects RX2 yX2_replacesBetween yX2_replacesBetween, Cond.code yX2_replacesBetween cX2_replacesBetween 7 (some .boolean), Cond.methodLink RX2 164 yX0_inRow, Cond.instanceMethod yX0_inRow, Cond.selects RX0 yX0_inRow yX0_inRow]
def wsX2_replacesFromBelow_r3 : List Cond := [Cond.code yX0_inRow cX0_inRow 3 (some .boolean), Cond.fieldLink RX0 22 "ChooseTree$Classes" "face" "[Z", Cond.methodLink RX0 54 yX0_below, Cond.methodLink RX2 64 yX1_inClass, Cond.instanceMethod yX1_inClass, Cond.selects RX1 yX1_inClass yX1_inClass, Cond.code yX1_inClass cX1_inClass 5 (some .int), Cond.fieldLink RX1 22 "ChooseTree$Methods" "first" "[I", Cond.fieldLink RX1 25 "ChooseTree$Methods" "amount" "[I", Cond.fieldLink RX1 19 "ChooseTree$Methods" "name" "[I"]
def wsX2_replacesFromBelow : List Cond := .code yX2_replacesFromBelow cX2_replacesFromBelow 3 (some .boolean) :: ((wsX2_replacesFromBelow_r1 ++ (wsX2_replacesFromBelow_r2 ++ wsX2_replacesFromBelow_r3)) ++ wsX20 ++ wsX10 ++ wsX00)
def wsX2_replacesOfPlain_r1 : List Cond := [Cond.fieldLink RX2 10 "ChooseTree" "classes" "LChooseTree$Classes;", Cond.fieldLink RX2 56 "ChooseTree$Classes" "face" "[Z", Cond.fieldLink RX2 19 "ChooseTree" "methods" "LChooseTree$Methods;", Cond.fieldLink RX2 115 "ChooseTree$Methods" "owner" "[I", Cond.methodLink RX2 86 yX2_replaces, Cond.instanceMethod yX2_replaces, Cond.selects RX2 yX2_replaces yX2_replaces, Cond.initialized RX2, Cond.code yX2_replaces cX2_replaces 3 (some .boolean), Cond.fieldLink RX2 155 "ChooseTree$Classes" "pack" "[I", Cond.methodLink RX2 149 yX2_couldReplace, Cond.instanceMethod yX2_couldReplace, Cond.selects RX2 yX2_couldReplace yX2_couldReplace, Cond.code yX2_couldReplace cX2_couldReplace 3 (some .boolean), Cond.fieldLink RX2 131 "ChooseTree$Methods" "name" "[I", Cond.methodLink RX2 161 yX1_isVirtual, Cond.instanceMethod yX1_isVirtual, Cond.selects RX1 yX1_isVirtual yX1_isVirtual, Cond.initialized RX1, Cond.code yX1_isVirtual cX1_isVirtual 2 (some .boolean), Cond.methodLink RX1 34 yX1_isStatic, Cond.instanceMethod yX1_isStatic, Cond.selects RX1 yX1_isStatic yX1_isStatic, Cond.code yX1_isStatic cX1_isStatic 2 (some .boolean)]
def wsX2_replacesOfPlain_r2 : List Cond := [Cond.fieldLink RX1 31 "ChooseTree$Methods" "kind" "[I", Cond.methodLink RX1 38 yX1_isPrivate, Cond.instanceMethod yX1_isPrivate, Cond.selects RX1 yX1_isPrivate yX1_isPrivate, Cond.code yX1_isPrivate cX1_isPrivate 2 (some .boolean), Cond.fieldLink RX1 28 "ChooseTree$Methods" "sight" "[I", Cond.methodLink RX2 152 yX1_isPublicOrProtected, Cond.instanceMethod yX1_isPublicOrProtected, Cond.selects RX1 yX1_isPublicOrProtected yX1_isPublicOrProtected, Cond.code yX1_isPublicOrProtected cX1_isPublicOrProtected 2 (some .boolean), Cond.methodLink RX2 158 yX2_replacesBetween, Cond.instanceMethod yX2_replacesBetween, Cond.selects RX2 yX2_replacesBetween yX2_replacesBetween, Cond.code yX2_replacesBetween cX2_replacesBetween 7 (some .boolean), Cond.methodLink RX2 164 yX0_inRow, Cond.instanceMethod yX0_inRow, Cond.selects RX0 yX0_inRow yX0_inRow, Cond.initialized RX0, Cond.code yX0_inRow cX0_inRow 3 (some .boolean), Cond.fieldLink RX0 22 "ChooseTree$Classes" "face" "[Z", Cond.methodLink RX0 54 yX0_below, Cond.instanceMethod yX0_below, Cond.selects RX0 yX0_below yX0_below, Cond.code yX0_below cX0_below 3 (some .boolean)]
def wsX2_replacesOfPlain_r3 : List Cond := [Cond.fieldLink RX0 26 "ChooseTree$Classes" "above" "[J", Cond.static yX2_holds, Cond.code yX2_holds cX2_holds 3 (some .boolean), Cond.methodLink RX2 64 yX1_inClass, Cond.instanceMethod yX1_inClass, Cond.selects RX1 yX1_inClass yX1_inClass, Cond.code yX1_inClass cX1_inClass 5 (some .int), Cond.fieldLink RX1 22 "ChooseTree$Methods" "first" "[I", Cond.fieldLink RX1 25 "ChooseTree$Methods" "amount" "[I", Cond.fieldLink RX1 19 "ChooseTree$Methods" "name" "[I"]
def wsX2_replacesOfPlain : List Cond := .code yX2_replacesOfPlain cX2_replacesOfPlain 3 (some .boolean) :: ((wsX2_replacesOfPlain_r1 ++ (wsX2_replacesOfPlain_r2 ++ wsX2_replacesOfPlain_r3)) ++ wsX20 ++ wsX00 ++ wsX10)
def wsX2_kin_r1 : List Cond := [Cond.fieldLink RX2 19 "ChooseTree" "methods" "LChooseTree$Methods;", Cond.fieldLink RX2 68 "ChooseTree$Methods" "count" "I", Cond.methodLink RX2 85 yX1_exists, Cond.instanceMethod yX1_exists, Cond.selects RX1 yX1_exists yX1_exists, Cond.initialized RX1, Cond.code yX1_exists cX1_exists 2 (some .boolean), Cond.fieldLink RX1 9 "ChooseTree$Methods" "count" "I", Cond.methodLink RX2 143 yX2_replacesFromBelow, Cond.instanceMethod yX2_replacesFromBelow, Cond.selects RX2 yX2_replacesFromBelow yX2_replacesFromBelow, Cond.initialized RX2, Cond.code yX2_replacesFromBelow cX2_replacesFromBelow 3 (some .boolean), Cond.fieldLink RX2 10 "ChooseTree" "classes" "LChooseTree$Classes;", Cond.fieldLink RX2 115 "ChooseTree$Methods" "owner" "[I", Cond.methodLink RX2 75 yX0_below, Cond.instanceMethod yX0_below, Cond.selects RX0 yX0_below yX0_below, Cond.initialized RX0, Cond.code yX0_below cX0_below 3 (some .boolean), Cond.fieldLink RX0 26 "ChooseTree$Classes" "above" "[J", Cond.static yX2_holds, Cond.code yX2_holds cX2_holds 3 (some .boolean), Cond.methodLink RX2 86 yX2_replaces]
def wsX2_kin_r2 : List Cond := [Cond.instanceMethod yX2_replaces, Cond.selects RX2 yX2_replaces yX2_replaces, Cond.code yX2_replaces cX2_replaces 3 (some .boolean), Cond.fieldLink RX2 155 "ChooseTree$Classes" "pack" "[I", Cond.methodLink RX2 149 yX2_couldReplace, Cond.instanceMethod yX2_couldReplace, Cond.selects RX2 yX2_couldReplace yX2_couldReplace, Cond.code yX2_couldReplace cX2_couldReplace 3 (some .boolean), Cond.fieldLink RX2 131 "ChooseTree$Methods" "name" "[I", Cond.methodLink RX2 161 yX1_isVirtual, Cond.instanceMethod yX1_isVirtual, Cond.selects RX1 yX1_isVirtual yX1_isVirtual, Cond.code yX1_isVirtual cX1_isVirtual 2 (some .boolean), Cond.methodLink RX1 34 yX1_isStatic, Cond.instanceMethod yX1_isStatic, Cond.selects RX1 yX1_isStatic yX1_isStatic, Cond.code yX1_isStatic cX1_isStatic 2 (some .boolean), Cond.fieldLink RX1 31 "ChooseTree$Methods" "kind" "[I", Cond.methodLink RX1 38 yX1_isPrivate, Cond.instanceMethod yX1_isPrivate, Cond.selects RX1 yX1_isPrivate yX1_isPrivate, Cond.code yX1_isPrivate cX1_isPrivate 2 (some .boolean), Cond.fieldLink RX1 28 "ChooseTree$Methods" "sight" "[I", Cond.methodLink RX2 152 yX1_isPublicOrProtected]
def wsX2_kin_r3 : List Cond := [Cond.instanceMethod yX1_isPublicOrProtected, Cond.selects RX1 yX1_isPublicOrProtected yX1_isPublicOrProtected, Cond.code yX1_isPublicOrProtected cX1_isPublicOrProtected 2 (some .boolean), Cond.methodLink RX2 158 yX2_replacesBetween, Cond.instanceMethod yX2_replacesBetween, Cond.selects RX2 yX2_replacesBetween yX2_replacesBetween, Cond.code yX2_replacesBetween cX2_replacesBetween 7 (some .boolean), Cond.methodLink RX2 164 yX0_inRow, Cond.instanceMethod yX0_inRow, Cond.selects RX0 yX0_inRow yX0_inRow, Cond.code yX0_inRow cX0_inRow 3 (some .boolean), Cond.fieldLink RX0 22 "ChooseTree$Classes" "face" "[Z", Cond.methodLink RX0 54 yX0_below, Cond.methodLink RX2 64 yX1_inClass, Cond.instanceMethod yX1_inClass, Cond.selects RX1 yX1_inClass yX1_inClass, Cond.code yX1_inClass cX1_inClass 5 (some .int), Cond.fieldLink RX1 22 "ChooseTree$Methods" "first" "[I", Cond.fieldLink RX1 25 "ChooseTree$Methods" "amount" "[I", Cond.fieldLink RX1 19 "ChooseTree$Methods" "name" "[I", Cond.methodLink RX2 146 yX2_replacesOfPlain, Cond.instanceMethod yX2_replacesOfPlain, Cond.selects RX2 yX2_replacesOfPlain yX2_replacesOfPlain, Cond.code yX2_replacesOfPlain cX2_replacesOfPlain 3 (some .boolean)]
def wsX2_kin_r4 : List Cond := [Cond.fieldLink RX2 56 "ChooseTree$Classes" "face" "[Z"]
def wsX2_kin : List Cond := .code yX2_kin cX2_kin 4 (some .int) :: ((wsX2_kin_r1 ++ (wsX2_kin_r2 ++ (wsX2_kin_r3 ++ wsX2_kin_r4))) ++ wsX20 ++ wsX10 ++ wsX00)
def wsJxa1e45_init_da8c8 : List Cond := .code yJxa1e45_init_da8c8 cJxa1e45_init_da8c8 1 none :: ([.methodLink RJxa1e45 1 objectInit, .instanceMethod objectInit, .code objectInit ⟨#[0xb1]⟩ 1 none])
def wsJxc12de_init_da8c8 : List Cond := .code yJxc12de_init_da8c8 cJxc12de_init_da8c8 1 none :: ([.fieldLink RJxc12de 7 "java/util/AbstractList" "modCount" "I", .methodLink RJxc12de 1 yJxa1e45_init_da8c8, .instanceMethod yJxa1e45_init_da8c8, .initialized RJxa1e45, .code yJxa1e45_init_da8c8 cJxa1e45_init_da8c8 1 none, .methodLink RJxa1e45 1 objectInit, .instanceMethod objectInit, .code objectInit ⟨#[0xb1]⟩ 1 none] ++ wsJx4a65c0)
def wsJx4a65c_init_da8c8 : List Cond := .code yJx4a65c_init_da8c8 cJx4a65c_init_da8c8 1 none :: ([.fieldLink RJx4a65c 39 "java/util/ArrayList" "DEFAULTCAPACITY_EMPTY_ELEMENTDATA" "[Ljava/lang/Object;", .fieldLink RJx4a65c 9 "java/util/ArrayList" "elementData" "[Ljava/lang/Object;", .methodLink RJx4a65c 1 yJxc12de_init_da8c8, .instanceMethod yJxc12de_init_da8c8, .initialized RJxc12de, .code yJxc12de_init_da8c8 cJxc12de_init_da8c8 1 none, .fieldLink RJxc12de 7 "java/util/AbstractList" "modCount" "I", .methodLink RJxc12de 1 yJxa1e45_init_da8c8, .instanceMethod yJxa1e45_init_da8c8, .initialized RJxa1e45, .code yJxa1e45_init_da8c8 cJxa1e45_init_da8c8 1 none, .methodLink RJxa1e45 1 objectInit, .instanceMethod objectInit, .code objectInit ⟨#[0xb1]⟩ 1 none] ++ wsJx4a65c0)
def wsX3_init_r1 : List Cond := [Cond.methodLink RX3 1 objectInit, Cond.instanceMethod objectInit, Cond.code objectInit ⟨#[0xb1]⟩ 1 none, Cond.classLink RX3 7 RJx4a65c, Cond.instantiable RJx4a65c 3, Cond.initialized RJx4a65c, Cond.fieldLink RX3 10 "ChooseTreeModel$Cls" "faces" "Ljava/util/ArrayList;", Cond.fieldLink RX3 16 "ChooseTreeModel$Cls" "methods" "Ljava/util/ArrayList;", Cond.fieldLink RX3 19 "ChooseTreeModel$Cls" "all" "Ljava/util/ArrayList;", Cond.fieldLink RX3 22 "ChooseTreeModel$Cls" "put" "I", Cond.fieldLink RX3 26 "ChooseTreeModel$Cls" "number" "I", Cond.fieldLink RX3 29 "ChooseTreeModel$Cls" "parent" "LChooseTreeModel$Cls;", Cond.fieldLink RX3 33 "ChooseTreeModel$Cls" "pack" "I", Cond.fieldLink RX3 36 "ChooseTreeModel$Cls" "isFace" "Z", Cond.methodLink RX3 9 yJx4a65c_init_da8c8, Cond.instanceMethod yJx4a65c_init_da8c8, Cond.code yJx4a65c_init_da8c8 cJx4a65c_init_da8c8 1 none, Cond.fieldLink RJx4a65c 39 "java/util/ArrayList" "DEFAULTCAPACITY_EMPTY_ELEMENTDATA" "[Ljava/lang/Object;", Cond.fieldLink RJx4a65c 9 "java/util/ArrayList" "elementData" "[Ljava/lang/Object;", Cond.methodLink RJx4a65c 1 yJxc12de_init_da8c8, Cond.instanceMethod yJxc12de_init_da8c8, Cond.initialized RJxc12de, Cond.code yJxc12de_init_da8c8 cJxc12de_init_da8c8 1 none, Cond.fieldLink RJxc12de 7 "java/util/AbstractList" "modCount" "I"]
def wsX3_init_r2 : List Cond := [Cond.methodLink RJxc12de 1 yJxa1e45_init_da8c8, Cond.instanceMethod yJxa1e45_init_da8c8, Cond.initialized RJxa1e45, Cond.code yJxa1e45_init_da8c8 cJxa1e45_init_da8c8 1 none, Cond.methodLink RJxa1e45 1 objectInit]
def wsX3_init : List Cond := .code yX3_init cX3_init 5 none :: ((wsX3_init_r1 ++ wsX3_init_r2) ++ wsJx4a65c0 ++ wsX30)
def wsJx4a65c_size_8abf5 : List Cond := .code yJx4a65c_size_8abf5 cJx4a65c_size_8abf5 1 (some .int) :: ([.fieldLink RJx4a65c 48 "java/util/ArrayList" "size" "I"] ++ wsJx4a65c0)
def wsJ3_checkIndex_8e157 : List Cond := .code yJ3_checkIndex_8e157 cJ3_checkIndex_8e157 3 (some .int) :: ([])
def wsJ15_checkIndex_7cf53 : List Cond := .code yJ15_checkIndex_7cf53 cJ15_checkIndex_7cf53 2 (some .int) :: ([.methodLink RJ15 105 yJ3_checkIndex_8e157, .static yJ3_checkIndex_8e157, .initialized RJ3, .code yJ3_checkIndex_8e157 cJ3_checkIndex_8e157 3 (some .int)])
def wsJx4a65c_elementData_915e3 : List Cond := .code yJx4a65c_elementData_915e3 cJx4a65c_elementData_915e3 2 (some (.object "java/lang/Object")) :: ([.fieldLink RJx4a65c 9 "java/util/ArrayList" "elementData" "[Ljava/lang/Object;"] ++ wsJx4a65c0)
def wsJx4a65c_get_915e3 : List Cond := .code yJx4a65c_get_915e3 cJx4a65c_get_915e3 2 (some (.object "java/lang/Object")) :: ([.fieldLink RJx4a65c 48 "java/util/ArrayList" "size" "I", .methodLink RJx4a65c 118 yJ15_checkIndex_7cf53, .static yJ15_checkIndex_7cf53, .initialized RJ15, .code yJ15_checkIndex_7cf53 cJ15_checkIndex_7cf53 2 (some .int), .methodLink RJ15 105 yJ3_checkIndex_8e157, .static yJ3_checkIndex_8e157, .initialized RJ3, .code yJ3_checkIndex_8e157 cJ3_checkIndex_8e157 3 (some .int), .methodLink RJx4a65c 123 yJx4a65c_elementData_915e3, .instanceMethod yJx4a65c_elementData_915e3, .selects RJx4a65c yJx4a65c_elementData_915e3 yJx4a65c_elementData_915e3, .initialized RJx4a65c, .code yJx4a65c_elementData_915e3 cJx4a65c_elementData_915e3 2 (some (.object "java/lang/Object")), .fieldLink RJx4a65c 9 "java/util/ArrayList" "elementData" "[Ljava/lang/Object;"] ++ wsJx4a65c0)
def wsX3_named_r1 : List Cond := [Cond.fieldLink RX3 16 "ChooseTreeModel$Cls" "methods" "Ljava/util/ArrayList;", Cond.classLink RX3 48 "ChooseTreeModel$Met", Cond.fieldLink RX3 50 "ChooseTreeModel$Met" "name" "I", Cond.methodLink RX3 40 yJx4a65c_size_8abf5, Cond.instanceMethod yJx4a65c_size_8abf5, Cond.selects RJx4a65c yJx4a65c_size_8abf5 yJx4a65c_size_8abf5, Cond.initialized RJx4a65c, Cond.code yJx4a65c_size_8abf5 cJx4a65c_size_8abf5 1 (some .int), Cond.fieldLink RJx4a65c 48 "java/util/ArrayList" "size" "I", Cond.methodLink RX3 44 yJx4a65c_get_915e3, Cond.instanceMethod yJx4a65c_get_915e3, Cond.selects RJx4a65c yJx4a65c_get_915e3 yJx4a65c_get_915e3, Cond.code yJx4a65c_get_915e3 cJx4a65c_get_915e3 2 (some (.object "java/lang/Object")), Cond.methodLink RJx4a65c 118 yJ15_checkIndex_7cf53, Cond.static yJ15_checkIndex_7cf53, Cond.initialized RJ15, Cond.code yJ15_checkIndex_7cf53 cJ15_checkIndex_7cf53 2 (some .int), Cond.methodLink RJ15 105 yJ3_checkIndex_8e157, Cond.static yJ3_checkIndex_8e157, Cond.initialized RJ3, Cond.code yJ3_checkIndex_8e157 cJ3_checkIndex_8e157 3 (some .int), Cond.methodLink RJx4a65c 123 yJx4a65c_elementData_915e3, Cond.instanceMethod yJx4a65c_elementData_915e3, Cond.selects RJx4a65c yJx4a65c_elementData_915e3 yJx4a65c_elementData_915e3]
def wsX3_named_r2 : List Cond := [Cond.code yJx4a65c_elementData_915e3 cJx4a65c_elementData_915e3 2 (some (.object "java/lang/Object")), Cond.fieldLink RJx4a65c 9 "java/util/ArrayList" "elementData" "[Ljava/lang/Object;"]
def wsX3_named : List Cond := .code yX3_named cX3_named 3 (some (.object "ChooseTreeModel$Met")) :: ((wsX3_named_r1 ++ wsX3_named_r2) ++ wsX30 ++ wsX40 ++ wsJx4a65c0)
def wsX4_init : List Cond := .code yX4_init cX4_init 6 none :: ([.methodLink RX4 1 objectInit, .instanceMethod objectInit, .code objectInit ⟨#[0xb1]⟩ 1 none, .fieldLink RX4 7 "ChooseTreeModel$Met" "number" "I", .fieldLink RX4 13 "ChooseTreeModel$Met" "owner" "LChooseTreeModel$Cls;", .fieldLink RX4 17 "ChooseTreeModel$Met" "name" "I", .fieldLink RX4 20 "ChooseTreeModel$Met" "sight" "I", .fieldLink RX4 23 "ChooseTreeModel$Met" "isStatic" "Z", .fieldLink RX4 27 "ChooseTreeModel$Met" "isFinal" "Z", .fieldLink RX4 30 "ChooseTreeModel$Met" "isAbstract" "Z"] ++ wsX40)
def wsJ8_hugeLength_7cf53 : List Cond := .code yJ8_hugeLength_7cf53 cJ8_hugeLength_7cf53 3 (some .int) :: ([.constant RJ8 200 (2147483639)])
def wsJ8_newLength_cabcc : List Cond := .code yJ8_newLength_cabcc cJ8_newLength_cabcc 4 (some .int) :: ([.methodLink RJ8 194 Lib.Math.max.name, .static Lib.Math.max.name, .initialized "java/lang/Math", .code Lib.Math.max.name Lib.Math.max.code 2 (some .int), .constant RJ8 200 (2147483639), .methodLink RJ8 201 yJ8_hugeLength_7cf53, .static yJ8_hugeLength_7cf53, .initialized RJ8, .code yJ8_hugeLength_7cf53 cJ8_hugeLength_7cf53 3 (some .int)])
def wsJ7_copyOf_6403c : List Cond := .code yJ7_copyOf_6403c cJ7_copyOf_6403c 4 (some (.array (.object "java/lang/Object"))) :: ([.classLink RJ7 110 "[Ljava/lang/Object;", .classLink RJ7 2 "java/lang/Object", .methodLink RJ7 304 Lib.Math.min.name, .static Lib.Math.min.name, .initialized "java/lang/Math", .code Lib.Math.min.name Lib.Math.min.code 2 (some .int), .methodLink RJ7 150 arraycopyName, .native arraycopyName, .static arraycopyName, .initialized "java/lang/System"])
def wsJ7_copyOf_1904c : List Cond := .code yJ7_copyOf_1904c cJ7_copyOf_1904c 2 (some (.array (.object "java/lang/Object"))) :: ([.methodLink RJ7 86 ⟨"java/lang/Object", "getClass", "()Ljava/lang/Class;"⟩, .selects "[Ljava/lang/Object;" ⟨"java/lang/Object", "getClass", "()Ljava/lang/Class;"⟩ ⟨"java/lang/Object", "getClass", "()Ljava/lang/Class;"⟩, .instanceMethod ⟨"java/lang/Object", "getClass", "()Ljava/lang/Class;"⟩, .native ⟨"java/lang/Object", "getClass", "()Ljava/lang/Class;"⟩, .methodLink RJ7 300 yJ7_copyOf_6403c, .static yJ7_copyOf_6403c, .initialized RJ7, .code yJ7_copyOf_6403c cJ7_copyOf_6403c 4 (some (.array (.object "java/lang/Object"))), .classLink RJ7 110 "[Ljava/lang/Object;", .classLink RJ7 2 "java/lang/Object", .methodLink RJ7 304 Lib.Math.min.name, .static Lib.Math.min.name, .initialized "java/lang/Math", .code Lib.Math.min.name Lib.Math.min.code 2 (some .int), .methodLink RJ7 150 arraycopyName, .native arraycopyName, .static arraycopyName, .initialized "java/lang/System"])
def wsJx4a65c_grow_92f84_r1 : List Cond := [Cond.fieldLink RJx4a65c 9 "java/util/ArrayList" "elementData" "[Ljava/lang/Object;", Cond.fieldLink RJx4a65c 39 "java/util/ArrayList" "DEFAULTCAPACITY_EMPTY_ELEMENTDATA" "[Ljava/lang/Object;", Cond.methodLink RJx4a65c 79 Lib.Math.max.name, Cond.static Lib.Math.max.name, Cond.initialized "java/lang/Math", Cond.code Lib.Math.max.name Lib.Math.max.code 2 (some .int), Cond.classLink RJx4a65c 7 "java/lang/Object", Cond.methodLink RJx4a65c 73 yJ8_newLength_cabcc, Cond.static yJ8_newLength_cabcc, Cond.initialized RJ8, Cond.code yJ8_newLength_cabcc cJ8_newLength_cabcc 4 (some .int), Cond.methodLink RJ8 194 Lib.Math.max.name, Cond.constant RJ8 200 (2147483639), Cond.methodLink RJ8 201 yJ8_hugeLength_7cf53, Cond.static yJ8_hugeLength_7cf53, Cond.code yJ8_hugeLength_7cf53 cJ8_hugeLength_7cf53 3 (some .int), Cond.methodLink RJx4a65c 66 yJ7_copyOf_1904c, Cond.static yJ7_copyOf_1904c, Cond.initialized RJ7, Cond.code yJ7_copyOf_1904c cJ7_copyOf_1904c 2 (some (.array (.object "java/lang/Object"))), Cond.methodLink RJ7 86 ⟨"java/lang/Object", "getClass", "()Ljava/lang/Class;"⟩, Cond.selects "[Ljava/lang/Object;" ⟨"java/lang/Object", "getClass", "()Ljava/lang/Class;"⟩ ⟨"java/lang/Object", "getClass", "()Ljava/lang/Class;"⟩, Cond.instanceMethod ⟨"java/lang/Object", "getClass", "()Ljava/lang/Class;"⟩, Cond.native ⟨"java/lang/Object", "getClass", "()Ljava/lang/Class;"⟩]
def wsJx4a65c_grow_92f84_r2 : List Cond := [Cond.methodLink RJ7 300 yJ7_copyOf_6403c, Cond.static yJ7_copyOf_6403c, Cond.code yJ7_copyOf_6403c cJ7_copyOf_6403c 4 (some (.array (.object "java/lang/Object"))), Cond.classLink RJ7 110 "[Ljava/lang/Object;", Cond.classLink RJ7 2 "java/lang/Object", Cond.methodLink RJ7 304 Lib.Math.min.name, Cond.static Lib.Math.min.name, Cond.code Lib.Math.min.name Lib.Math.min.code 2 (some .int), Cond.methodLink RJ7 150 arraycopyName, Cond.native arraycopyName, Cond.static arraycopyName, Cond.initialized "java/lang/System"]
def wsJx4a65c_grow_92f84 : List Cond := .code yJx4a65c_grow_92f84 cJx4a65c_grow_92f84 4 (some (.array (.object "java/lang/Object"))) :: ((wsJx4a65c_grow_92f84_r1 ++ wsJx4a65c_grow_92f84_r2) ++ wsJx4a65c0)
def wsJx4a65c_grow_d5877_r1 : List Cond := [Cond.fieldLink RJx4a65c 48 "java/util/ArrayList" "size" "I", Cond.methodLink RJx4a65c 69 yJx4a65c_grow_92f84, Cond.instanceMethod yJx4a65c_grow_92f84, Cond.selects RJx4a65c yJx4a65c_grow_92f84 yJx4a65c_grow_92f84, Cond.initialized RJx4a65c, Cond.code yJx4a65c_grow_92f84 cJx4a65c_grow_92f84 4 (some (.array (.object "java/lang/Object"))), Cond.fieldLink RJx4a65c 9 "java/util/ArrayList" "elementData" "[Ljava/lang/Object;", Cond.fieldLink RJx4a65c 39 "java/util/ArrayList" "DEFAULTCAPACITY_EMPTY_ELEMENTDATA" "[Ljava/lang/Object;", Cond.methodLink RJx4a65c 79 Lib.Math.max.name, Cond.static Lib.Math.max.name, Cond.initialized "java/lang/Math", Cond.code Lib.Math.max.name Lib.Math.max.code 2 (some .int), Cond.classLink RJx4a65c 7 "java/lang/Object", Cond.methodLink RJx4a65c 73 yJ8_newLength_cabcc, Cond.static yJ8_newLength_cabcc, Cond.initialized RJ8, Cond.code yJ8_newLength_cabcc cJ8_newLength_cabcc 4 (some .int), Cond.methodLink RJ8 194 Lib.Math.max.name, Cond.constant RJ8 200 (2147483639), Cond.methodLink RJ8 201 yJ8_hugeLength_7cf53, Cond.static yJ8_hugeLength_7cf53, Cond.code yJ8_hugeLength_7cf53 cJ8_hugeLength_7cf53 3 (some .int), Cond.methodLink RJx4a65c 66 yJ7_copyOf_1904c, Cond.static yJ7_copyOf_1904c]
def wsJx4a65c_grow_d5877_r2 : List Cond := [Cond.initialized RJ7, Cond.code yJ7_copyOf_1904c cJ7_copyOf_1904c 2 (some (.array (.object "java/lang/Object"))), Cond.methodLink RJ7 86 ⟨"java/lang/Object", "getClass", "()Ljava/lang/Class;"⟩, Cond.selects "[Ljava/lang/Object;" ⟨"java/lang/Object", "getClass", "()Ljava/lang/Class;"⟩ ⟨"java/lang/Object", "getClass", "()Ljava/lang/Class;"⟩, Cond.instanceMethod ⟨"java/lang/Object", "getClass", "()Ljava/lang/Class;"⟩, Cond.native ⟨"java/lang/Object", "getClass", "()Ljava/lang/Class;"⟩, Cond.methodLink RJ7 300 yJ7_copyOf_6403c, Cond.static yJ7_copyOf_6403c, Cond.code yJ7_copyOf_6403c cJ7_copyOf_6403c 4 (some (.array (.object "java/lang/Object"))), Cond.classLink RJ7 110 "[Ljava/lang/Object;", Cond.classLink RJ7 2 "java/lang/Object", Cond.methodLink RJ7 304 Lib.Math.min.name, Cond.static Lib.Math.min.name, Cond.code Lib.Math.min.name Lib.Math.min.code 2 (some .int), Cond.methodLink RJ7 150 arraycopyName, Cond.native arraycopyName, Cond.static arraycopyName, Cond.initialized "java/lang/System"]
def wsJx4a65c_grow_d5877 : List Cond := .code yJx4a65c_grow_d5877 cJx4a65c_grow_d5877 1 (some (.array (.object "java/lang/Object"))) :: ((wsJx4a65c_grow_d5877_r1 ++ wsJx4a65c_grow_d5877_r2) ++ wsJx4a65c0)
def wsJx4a65c_add_72be8_r1 : List Cond := [Cond.fieldLink RJx4a65c 48 "java/util/ArrayList" "size" "I", Cond.methodLink RJx4a65c 129 yJx4a65c_grow_d5877, Cond.instanceMethod yJx4a65c_grow_d5877, Cond.selects RJx4a65c yJx4a65c_grow_d5877 yJx4a65c_grow_d5877, Cond.initialized RJx4a65c, Cond.code yJx4a65c_grow_d5877 cJx4a65c_grow_d5877 1 (some (.array (.object "java/lang/Object"))), Cond.methodLink RJx4a65c 69 yJx4a65c_grow_92f84, Cond.instanceMethod yJx4a65c_grow_92f84, Cond.selects RJx4a65c yJx4a65c_grow_92f84 yJx4a65c_grow_92f84, Cond.code yJx4a65c_grow_92f84 cJx4a65c_grow_92f84 4 (some (.array (.object "java/lang/Object"))), Cond.fieldLink RJx4a65c 9 "java/util/ArrayList" "elementData" "[Ljava/lang/Object;", Cond.fieldLink RJx4a65c 39 "java/util/ArrayList" "DEFAULTCAPACITY_EMPTY_ELEMENTDATA" "[Ljava/lang/Object;", Cond.methodLink RJx4a65c 79 Lib.Math.max.name, Cond.static Lib.Math.max.name, Cond.initialized "java/lang/Math", Cond.code Lib.Math.max.name Lib.Math.max.code 2 (some .int), Cond.classLink RJx4a65c 7 "java/lang/Object", Cond.methodLink RJx4a65c 73 yJ8_newLength_cabcc, Cond.static yJ8_newLength_cabcc, Cond.initialized RJ8, Cond.code yJ8_newLength_cabcc cJ8_newLength_cabcc 4 (some .int), Cond.methodLink RJ8 194 Lib.Math.max.name, Cond.constant RJ8 200 (2147483639), Cond.methodLink RJ8 201 yJ8_hugeLength_7cf53]
def wsJx4a65c_add_72be8_r2 : List Cond := [Cond.static yJ8_hugeLength_7cf53, Cond.code yJ8_hugeLength_7cf53 cJ8_hugeLength_7cf53 3 (some .int), Cond.methodLink RJx4a65c 66 yJ7_copyOf_1904c, Cond.static yJ7_copyOf_1904c, Cond.initialized RJ7, Cond.code yJ7_copyOf_1904c cJ7_copyOf_1904c 2 (some (.array (.object "java/lang/Object"))), Cond.methodLink RJ7 86 ⟨"java/lang/Object", "getClass", "()Ljava/lang/Class;"⟩, Cond.selects "[Ljava/lang/Object;" ⟨"java/lang/Object", "getClass", "()Ljava/lang/Class;"⟩ ⟨"java/lang/Object", "getClass", "()Ljava/lang/Class;"⟩, Cond.instanceMethod ⟨"java/lang/Object", "getClass", "()Ljava/lang/Class;"⟩, Cond.native ⟨"java/lang/Object", "getClass", "()Ljava/lang/Class;"⟩, Cond.methodLink RJ7 300 yJ7_copyOf_6403c, Cond.static yJ7_copyOf_6403c, Cond.code yJ7_copyOf_6403c cJ7_copyOf_6403c 4 (some (.array (.object "java/lang/Object"))), Cond.classLink RJ7 110 "[Ljava/lang/Object;", Cond.classLink RJ7 2 "java/lang/Object", Cond.methodLink RJ7 304 Lib.Math.min.name, Cond.static Lib.Math.min.name, Cond.code Lib.Math.min.name Lib.Math.min.code 2 (some .int), Cond.methodLink RJ7 150 arraycopyName, Cond.native arraycopyName, Cond.static arraycopyName, Cond.initialized "java/lang/System"]
def wsJx4a65c_add_72be8 : List Cond := .code yJx4a65c_add_72be8 cJx4a65c_add_72be8 4 none :: ((wsJx4a65c_add_72be8_r1 ++ wsJx4a65c_add_72be8_r2) ++ wsJx4a65c0)
def wsJx4a65c_add_9ea2d_r1 : List Cond := [Cond.fieldLink RJx4a65c 63 "java/util/ArrayList" "modCount" "I", Cond.sameField "java/util/ArrayList" "java/util/AbstractList" "modCount" "I", Cond.fieldLink RJx4a65c 9 "java/util/ArrayList" "elementData" "[Ljava/lang/Object;", Cond.fieldLink RJx4a65c 48 "java/util/ArrayList" "size" "I", Cond.methodLink RJx4a65c 131 yJx4a65c_add_72be8, Cond.instanceMethod yJx4a65c_add_72be8, Cond.selects RJx4a65c yJx4a65c_add_72be8 yJx4a65c_add_72be8, Cond.initialized RJx4a65c, Cond.code yJx4a65c_add_72be8 cJx4a65c_add_72be8 4 none, Cond.methodLink RJx4a65c 129 yJx4a65c_grow_d5877, Cond.instanceMethod yJx4a65c_grow_d5877, Cond.selects RJx4a65c yJx4a65c_grow_d5877 yJx4a65c_grow_d5877, Cond.code yJx4a65c_grow_d5877 cJx4a65c_grow_d5877 1 (some (.array (.object "java/lang/Object"))), Cond.methodLink RJx4a65c 69 yJx4a65c_grow_92f84, Cond.instanceMethod yJx4a65c_grow_92f84, Cond.selects RJx4a65c yJx4a65c_grow_92f84 yJx4a65c_grow_92f84, Cond.code yJx4a65c_grow_92f84 cJx4a65c_grow_92f84 4 (some (.array (.object "java/lang/Object"))), Cond.fieldLink RJx4a65c 39 "java/util/ArrayList" "DEFAULTCAPACITY_EMPTY_ELEMENTDATA" "[Ljava/lang/Object;", Cond.methodLink RJx4a65c 79 Lib.Math.max.name, Cond.static Lib.Math.max.name, Cond.initialized "java/lang/Math", Cond.code Lib.Math.max.name Lib.Math.max.code 2 (some .int), Cond.classLink RJx4a65c 7 "java/lang/Object", Cond.methodLink RJx4a65c 73 yJ8_newLength_cabcc]
def wsJx4a65c_add_9ea2d_r2 : List Cond := [Cond.static yJ8_newLength_cabcc, Cond.initialized RJ8, Cond.code yJ8_newLength_cabcc cJ8_newLength_cabcc 4 (some .int), Cond.methodLink RJ8 194 Lib.Math.max.name, Cond.constant RJ8 200 (2147483639), Cond.methodLink RJ8 201 yJ8_hugeLength_7cf53, Cond.static yJ8_hugeLength_7cf53, Cond.code yJ8_hugeLength_7cf53 cJ8_hugeLength_7cf53 3 (some .int), Cond.methodLink RJx4a65c 66 yJ7_copyOf_1904c, Cond.static yJ7_copyOf_1904c, Cond.initialized RJ7, Cond.code yJ7_copyOf_1904c cJ7_copyOf_1904c 2 (some (.array (.object "java/lang/Object"))), Cond.methodLink RJ7 86 ⟨"java/lang/Object", "getClass", "()Ljava/lang/Class;"⟩, Cond.selects "[Ljava/lang/Object;" ⟨"java/lang/Object", "getClass", "()Ljava/lang/Class;"⟩ ⟨"java/lang/Object", "getClass", "()Ljava/lang/Class;"⟩, Cond.instanceMethod ⟨"java/lang/Object", "getClass", "()Ljava/lang/Class;"⟩, Cond.native ⟨"java/lang/Object", "getClass", "()Ljava/lang/Class;"⟩, Cond.methodLink RJ7 300 yJ7_copyOf_6403c, Cond.static yJ7_copyOf_6403c, Cond.code yJ7_copyOf_6403c cJ7_copyOf_6403c 4 (some (.array (.object "java/lang/Object"))), Cond.classLink RJ7 110 "[Ljava/lang/Object;", Cond.classLink RJ7 2 "java/lang/Object", Cond.methodLink RJ7 304 Lib.Math.min.name, Cond.static Lib.Math.min.name, Cond.code Lib.Math.min.name Lib.Math.min.code 2 (some .int)]
def wsJx4a65c_add_9ea2d_r3 : List Cond := [Cond.methodLink RJ7 150 arraycopyName, Cond.native arraycopyName, Cond.static arraycopyName, Cond.initialized "java/lang/System"]
def wsJx4a65c_add_9ea2d : List Cond := .code yJx4a65c_add_9ea2d cJx4a65c_add_9ea2d 2 (some .boolean) :: ((wsJx4a65c_add_9ea2d_r1 ++ (wsJx4a65c_add_9ea2d_r2 ++ wsJx4a65c_add_9ea2d_r3)) ++ wsJx4a65c0)
def wsX5_init_r1 : List Cond := [Cond.methodLink RX5 1 objectInit, Cond.instanceMethod objectInit, Cond.code objectInit ⟨#[0xb1]⟩ 1 none, Cond.classLink RX5 7 RJx4a65c, Cond.instantiable RJx4a65c 3, Cond.initialized RJx4a65c, Cond.fieldLink RX5 10 "ChooseTreeModel" "classes" "Ljava/util/ArrayList;", Cond.fieldLink RX5 16 "ChooseTreeModel" "methods" "Ljava/util/ArrayList;", Cond.classLink RX5 19 RX3, Cond.instantiable RX3 9, Cond.initialized RX3, Cond.methodLink RX5 9 yJx4a65c_init_da8c8, Cond.instanceMethod yJx4a65c_init_da8c8, Cond.code yJx4a65c_init_da8c8 cJx4a65c_init_da8c8 1 none, Cond.fieldLink RJx4a65c 39 "java/util/ArrayList" "DEFAULTCAPACITY_EMPTY_ELEMENTDATA" "[Ljava/lang/Object;", Cond.fieldLink RJx4a65c 9 "java/util/ArrayList" "elementData" "[Ljava/lang/Object;", Cond.methodLink RJx4a65c 1 yJxc12de_init_da8c8, Cond.instanceMethod yJxc12de_init_da8c8, Cond.initialized RJxc12de, Cond.code yJxc12de_init_da8c8 cJxc12de_init_da8c8 1 none, Cond.fieldLink RJxc12de 7 "java/util/AbstractList" "modCount" "I", Cond.methodLink RJxc12de 1 yJxa1e45_init_da8c8, Cond.instanceMethod yJxa1e45_init_da8c8, Cond.initialized RJxa1e45]
def wsX5_init_r2 : List Cond := [Cond.code yJxa1e45_init_da8c8 cJxa1e45_init_da8c8 1 none, Cond.methodLink RJxa1e45 1 objectInit, Cond.methodLink RX5 21 yX3_init, Cond.instanceMethod yX3_init, Cond.code yX3_init cX3_init 5 none, Cond.methodLink RX3 1 objectInit, Cond.classLink RX3 7 RJx4a65c, Cond.fieldLink RX3 10 "ChooseTreeModel$Cls" "faces" "Ljava/util/ArrayList;", Cond.fieldLink RX3 16 "ChooseTreeModel$Cls" "methods" "Ljava/util/ArrayList;", Cond.fieldLink RX3 19 "ChooseTreeModel$Cls" "all" "Ljava/util/ArrayList;", Cond.fieldLink RX3 22 "ChooseTreeModel$Cls" "put" "I", Cond.fieldLink RX3 26 "ChooseTreeModel$Cls" "number" "I", Cond.fieldLink RX3 29 "ChooseTreeModel$Cls" "parent" "LChooseTreeModel$Cls;", Cond.fieldLink RX3 33 "ChooseTreeModel$Cls" "pack" "I", Cond.fieldLink RX3 36 "ChooseTreeModel$Cls" "isFace" "Z", Cond.methodLink RX3 9 yJx4a65c_init_da8c8, Cond.methodLink RX5 24 yJx4a65c_add_9ea2d, Cond.instanceMethod yJx4a65c_add_9ea2d, Cond.selects RJx4a65c yJx4a65c_add_9ea2d yJx4a65c_add_9ea2d, Cond.code yJx4a65c_add_9ea2d cJx4a65c_add_9ea2d 2 (some .boolean), Cond.fieldLink RJx4a65c 63 "java/util/ArrayList" "modCount" "I", Cond.sameField "java/util/ArrayList" "java/util/AbstractList" "modCount" "I", Cond.fieldLink RJx4a65c 48 "java/util/ArrayList" "size" "I", Cond.methodLink RJx4a65c 131 yJx4a65c_add_72be8]
def wsX5_init_r3 : List Cond := [Cond.instanceMethod yJx4a65c_add_72be8, Cond.selects RJx4a65c yJx4a65c_add_72be8 yJx4a65c_add_72be8, Cond.code yJx4a65c_add_72be8 cJx4a65c_add_72be8 4 none, Cond.methodLink RJx4a65c 129 yJx4a65c_grow_d5877, Cond.instanceMethod yJx4a65c_grow_d5877, Cond.selects RJx4a65c yJx4a65c_grow_d5877 yJx4a65c_grow_d5877, Cond.code yJx4a65c_grow_d5877 cJx4a65c_grow_d5877 1 (some (.array (.object "java/lang/Object"))), Cond.methodLink RJx4a65c 69 yJx4a65c_grow_92f84, Cond.instanceMethod yJx4a65c_grow_92f84, Cond.selects RJx4a65c yJx4a65c_grow_92f84 yJx4a65c_grow_92f84, Cond.code yJx4a65c_grow_92f84 cJx4a65c_grow_92f84 4 (some (.array (.object "java/lang/Object"))), Cond.methodLink RJx4a65c 79 Lib.Math.max.name, Cond.static Lib.Math.max.name, Cond.initialized "java/lang/Math", Cond.code Lib.Math.max.name Lib.Math.max.code 2 (some .int), Cond.classLink RJx4a65c 7 "java/lang/Object", Cond.methodLink RJx4a65c 73 yJ8_newLength_cabcc, Cond.static yJ8_newLength_cabcc, Cond.initialized RJ8, Cond.code yJ8_newLength_cabcc cJ8_newLength_cabcc 4 (some .int), Cond.methodLink RJ8 194 Lib.Math.max.name, Cond.constant RJ8 200 (2147483639), Cond.methodLink RJ8 201 yJ8_hugeLength_7cf53, Cond.static yJ8_hugeLength_7cf53]
def wsX5_init_r4 : List Cond := [Cond.code yJ8_hugeLength_7cf53 cJ8_hugeLength_7cf53 3 (some .int), Cond.methodLink RJx4a65c 66 yJ7_copyOf_1904c, Cond.static yJ7_copyOf_1904c, Cond.initialized RJ7, Cond.code yJ7_copyOf_1904c cJ7_copyOf_1904c 2 (some (.array (.object "java/lang/Object"))), Cond.methodLink RJ7 86 ⟨"java/lang/Object", "getClass", "()Ljava/lang/Class;"⟩, Cond.selects "[Ljava/lang/Object;" ⟨"java/lang/Object", "getClass", "()Ljava/lang/Class;"⟩ ⟨"java/lang/Object", "getClass", "()Ljava/lang/Class;"⟩, Cond.instanceMethod ⟨"java/lang/Object", "getClass", "()Ljava/lang/Class;"⟩, Cond.native ⟨"java/lang/Object", "getClass", "()Ljava/lang/Class;"⟩, Cond.methodLink RJ7 300 yJ7_copyOf_6403c, Cond.static yJ7_copyOf_6403c, Cond.code yJ7_copyOf_6403c cJ7_copyOf_6403c 4 (some (.array (.object "java/lang/Object"))), Cond.classLink RJ7 110 "[Ljava/lang/Object;", Cond.classLink RJ7 2 "java/lang/Object", Cond.methodLink RJ7 304 Lib.Math.min.name, Cond.static Lib.Math.min.name, Cond.code Lib.Math.min.name Lib.Math.min.code 2 (some .int), Cond.methodLink RJ7 150 arraycopyName, Cond.native arraycopyName, Cond.static arraycopyName, Cond.initialized "java/lang/System"]
def wsX5_init : List Cond := .code yX5_init cX5_init 1 none :: ((wsX5_init_r1 ++ (wsX5_init_r2 ++ (wsX5_init_r3 ++ wsX5_init_r4))) ++ wsJx4a65c0 ++ wsX50 ++ wsX30)
def wsX5_at_r1 : List Cond := [Cond.fieldLink RX5 10 "ChooseTreeModel" "classes" "Ljava/util/ArrayList;", Cond.classLink RX5 19 "ChooseTreeModel$Cls", Cond.methodLink RX5 28 yJx4a65c_size_8abf5, Cond.instanceMethod yJx4a65c_size_8abf5, Cond.selects RJx4a65c yJx4a65c_size_8abf5 yJx4a65c_size_8abf5, Cond.initialized RJx4a65c, Cond.code yJx4a65c_size_8abf5 cJx4a65c_size_8abf5 1 (some .int), Cond.fieldLink RJx4a65c 48 "java/util/ArrayList" "size" "I", Cond.methodLink RX5 32 yJx4a65c_get_915e3, Cond.instanceMethod yJx4a65c_get_915e3, Cond.selects RJx4a65c yJx4a65c_get_915e3 yJx4a65c_get_915e3, Cond.code yJx4a65c_get_915e3 cJx4a65c_get_915e3 2 (some (.object "java/lang/Object")), Cond.methodLink RJx4a65c 118 yJ15_checkIndex_7cf53, Cond.static yJ15_checkIndex_7cf53, Cond.initialized RJ15, Cond.code yJ15_checkIndex_7cf53 cJ15_checkIndex_7cf53 2 (some .int), Cond.methodLink RJ15 105 yJ3_checkIndex_8e157, Cond.static yJ3_checkIndex_8e157, Cond.initialized RJ3, Cond.code yJ3_checkIndex_8e157 cJ3_checkIndex_8e157 3 (some .int), Cond.methodLink RJx4a65c 123 yJx4a65c_elementData_915e3, Cond.instanceMethod yJx4a65c_elementData_915e3, Cond.selects RJx4a65c yJx4a65c_elementData_915e3 yJx4a65c_elementData_915e3, Cond.code yJx4a65c_elementData_915e3 cJx4a65c_elementData_915e3 2 (some (.object "java/lang/Object"))]
def wsX5_at_r2 : List Cond := [Cond.fieldLink RJx4a65c 9 "java/util/ArrayList" "elementData" "[Ljava/lang/Object;"]
def wsX5_at : List Cond := .code yX5_at cX5_at 2 (some (.object "ChooseTreeModel$Cls")) :: ((wsX5_at_r1 ++ wsX5_at_r2) ++ wsX50 ++ wsJx4a65c0)
def wsX5_met_r1 : List Cond := [Cond.fieldLink RX5 16 "ChooseTreeModel" "methods" "Ljava/util/ArrayList;", Cond.classLink RX5 36 "ChooseTreeModel$Met", Cond.methodLink RX5 28 yJx4a65c_size_8abf5, Cond.instanceMethod yJx4a65c_size_8abf5, Cond.selects RJx4a65c yJx4a65c_size_8abf5 yJx4a65c_size_8abf5, Cond.initialized RJx4a65c, Cond.code yJx4a65c_size_8abf5 cJx4a65c_size_8abf5 1 (some .int), Cond.fieldLink RJx4a65c 48 "java/util/ArrayList" "size" "I", Cond.methodLink RX5 32 yJx4a65c_get_915e3, Cond.instanceMethod yJx4a65c_get_915e3, Cond.selects RJx4a65c yJx4a65c_get_915e3 yJx4a65c_get_915e3, Cond.code yJx4a65c_get_915e3 cJx4a65c_get_915e3 2 (some (.object "java/lang/Object")), Cond.methodLink RJx4a65c 118 yJ15_checkIndex_7cf53, Cond.static yJ15_checkIndex_7cf53, Cond.initialized RJ15, Cond.code yJ15_checkIndex_7cf53 cJ15_checkIndex_7cf53 2 (some .int), Cond.methodLink RJ15 105 yJ3_checkIndex_8e157, Cond.static yJ3_checkIndex_8e157, Cond.initialized RJ3, Cond.code yJ3_checkIndex_8e157 cJ3_checkIndex_8e157 3 (some .int), Cond.methodLink RJx4a65c 123 yJx4a65c_elementData_915e3, Cond.instanceMethod yJx4a65c_elementData_915e3, Cond.selects RJx4a65c yJx4a65c_elementData_915e3 yJx4a65c_elementData_915e3, Cond.code yJx4a65c_elementData_915e3 cJx4a65c_elementData_915e3 2 (some (.object "java/lang/Object"))]
def wsX5_met_r2 : List Cond := [Cond.fieldLink RJx4a65c 9 "java/util/ArrayList" "elementData" "[Ljava/lang/Object;"]
def wsX5_met : List Cond := .code yX5_met cX5_met 2 (some (.object "ChooseTreeModel$Met")) :: ((wsX5_met_r1 ++ wsX5_met_r2) ++ wsX50 ++ wsJx4a65c0)
def wsX5_isName : List Cond := .code yX5_isName cX5_isName 1 (some .boolean) :: ([])
def wsX5_add_r1 : List Cond := [Cond.fieldLink RX5 42 "ChooseTreeModel$Cls" "isFace" "Z", Cond.fieldLink RX5 10 "ChooseTreeModel" "classes" "Ljava/util/ArrayList;", Cond.classLink RX5 19 RX3, Cond.instantiable RX3 9, Cond.initialized RX3, Cond.methodLink RX5 38 yX5_at, Cond.instanceMethod yX5_at, Cond.selects RX5 yX5_at yX5_at, Cond.initialized RX5, Cond.code yX5_at cX5_at 2 (some (.object "ChooseTreeModel$Cls")), Cond.classLink RX5 19 "ChooseTreeModel$Cls", Cond.methodLink RX5 28 yJx4a65c_size_8abf5, Cond.instanceMethod yJx4a65c_size_8abf5, Cond.selects RJx4a65c yJx4a65c_size_8abf5 yJx4a65c_size_8abf5, Cond.initialized RJx4a65c, Cond.code yJx4a65c_size_8abf5 cJx4a65c_size_8abf5 1 (some .int), Cond.fieldLink RJx4a65c 48 "java/util/ArrayList" "size" "I", Cond.methodLink RX5 32 yJx4a65c_get_915e3, Cond.instanceMethod yJx4a65c_get_915e3, Cond.selects RJx4a65c yJx4a65c_get_915e3 yJx4a65c_get_915e3, Cond.code yJx4a65c_get_915e3 cJx4a65c_get_915e3 2 (some (.object "java/lang/Object")), Cond.methodLink RJx4a65c 118 yJ15_checkIndex_7cf53, Cond.static yJ15_checkIndex_7cf53, Cond.initialized RJ15]
def wsX5_add_r2 : List Cond := [Cond.code yJ15_checkIndex_7cf53 cJ15_checkIndex_7cf53 2 (some .int), Cond.methodLink RJ15 105 yJ3_checkIndex_8e157, Cond.static yJ3_checkIndex_8e157, Cond.initialized RJ3, Cond.code yJ3_checkIndex_8e157 cJ3_checkIndex_8e157 3 (some .int), Cond.methodLink RJx4a65c 123 yJx4a65c_elementData_915e3, Cond.instanceMethod yJx4a65c_elementData_915e3, Cond.selects RJx4a65c yJx4a65c_elementData_915e3 yJx4a65c_elementData_915e3, Cond.code yJx4a65c_elementData_915e3 cJx4a65c_elementData_915e3 2 (some (.object "java/lang/Object")), Cond.fieldLink RJx4a65c 9 "java/util/ArrayList" "elementData" "[Ljava/lang/Object;", Cond.methodLink RX5 21 yX3_init, Cond.instanceMethod yX3_init, Cond.code yX3_init cX3_init 5 none, Cond.methodLink RX3 1 objectInit, Cond.instanceMethod objectInit, Cond.code objectInit ⟨#[0xb1]⟩ 1 none, Cond.classLink RX3 7 RJx4a65c, Cond.instantiable RJx4a65c 3, Cond.fieldLink RX3 10 "ChooseTreeModel$Cls" "faces" "Ljava/util/ArrayList;", Cond.fieldLink RX3 16 "ChooseTreeModel$Cls" "methods" "Ljava/util/ArrayList;", Cond.fieldLink RX3 19 "ChooseTreeModel$Cls" "all" "Ljava/util/ArrayList;", Cond.fieldLink RX3 22 "ChooseTreeModel$Cls" "put" "I", Cond.fieldLink RX3 26 "ChooseTreeModel$Cls" "number" "I", Cond.fieldLink RX3 29 "ChooseTreeModel$Cls" "parent" "LChooseTreeModel$Cls;"]
def wsX5_add_r3 : List Cond := [Cond.fieldLink RX3 33 "ChooseTreeModel$Cls" "pack" "I", Cond.fieldLink RX3 36 "ChooseTreeModel$Cls" "isFace" "Z", Cond.methodLink RX3 9 yJx4a65c_init_da8c8, Cond.instanceMethod yJx4a65c_init_da8c8, Cond.code yJx4a65c_init_da8c8 cJx4a65c_init_da8c8 1 none, Cond.fieldLink RJx4a65c 39 "java/util/ArrayList" "DEFAULTCAPACITY_EMPTY_ELEMENTDATA" "[Ljava/lang/Object;", Cond.methodLink RJx4a65c 1 yJxc12de_init_da8c8, Cond.instanceMethod yJxc12de_init_da8c8, Cond.initialized RJxc12de, Cond.code yJxc12de_init_da8c8 cJxc12de_init_da8c8 1 none, Cond.fieldLink RJxc12de 7 "java/util/AbstractList" "modCount" "I", Cond.methodLink RJxc12de 1 yJxa1e45_init_da8c8, Cond.instanceMethod yJxa1e45_init_da8c8, Cond.initialized RJxa1e45, Cond.code yJxa1e45_init_da8c8 cJxa1e45_init_da8c8 1 none, Cond.methodLink RJxa1e45 1 objectInit, Cond.methodLink RX5 24 yJx4a65c_add_9ea2d, Cond.instanceMethod yJx4a65c_add_9ea2d, Cond.selects RJx4a65c yJx4a65c_add_9ea2d yJx4a65c_add_9ea2d, Cond.code yJx4a65c_add_9ea2d cJx4a65c_add_9ea2d 2 (some .boolean), Cond.fieldLink RJx4a65c 63 "java/util/ArrayList" "modCount" "I", Cond.sameField "java/util/ArrayList" "java/util/AbstractList" "modCount" "I", Cond.methodLink RJx4a65c 131 yJx4a65c_add_72be8, Cond.instanceMethod yJx4a65c_add_72be8]
def wsX5_add_r4 : List Cond := [Cond.selects RJx4a65c yJx4a65c_add_72be8 yJx4a65c_add_72be8, Cond.code yJx4a65c_add_72be8 cJx4a65c_add_72be8 4 none, Cond.methodLink RJx4a65c 129 yJx4a65c_grow_d5877, Cond.instanceMethod yJx4a65c_grow_d5877, Cond.selects RJx4a65c yJx4a65c_grow_d5877 yJx4a65c_grow_d5877, Cond.code yJx4a65c_grow_d5877 cJx4a65c_grow_d5877 1 (some (.array (.object "java/lang/Object"))), Cond.methodLink RJx4a65c 69 yJx4a65c_grow_92f84, Cond.instanceMethod yJx4a65c_grow_92f84, Cond.selects RJx4a65c yJx4a65c_grow_92f84 yJx4a65c_grow_92f84, Cond.code yJx4a65c_grow_92f84 cJx4a65c_grow_92f84 4 (some (.array (.object "java/lang/Object"))), Cond.methodLink RJx4a65c 79 Lib.Math.max.name, Cond.static Lib.Math.max.name, Cond.initialized "java/lang/Math", Cond.code Lib.Math.max.name Lib.Math.max.code 2 (some .int), Cond.classLink RJx4a65c 7 "java/lang/Object", Cond.methodLink RJx4a65c 73 yJ8_newLength_cabcc, Cond.static yJ8_newLength_cabcc, Cond.initialized RJ8, Cond.code yJ8_newLength_cabcc cJ8_newLength_cabcc 4 (some .int), Cond.methodLink RJ8 194 Lib.Math.max.name, Cond.constant RJ8 200 (2147483639), Cond.methodLink RJ8 201 yJ8_hugeLength_7cf53, Cond.static yJ8_hugeLength_7cf53, Cond.code yJ8_hugeLength_7cf53 cJ8_hugeLength_7cf53 3 (some .int)]
def wsX5_add_r5 : List Cond := [Cond.methodLink RJx4a65c 66 yJ7_copyOf_1904c, Cond.static yJ7_copyOf_1904c, Cond.initialized RJ7, Cond.code yJ7_copyOf_1904c cJ7_copyOf_1904c 2 (some (.array (.object "java/lang/Object"))), Cond.methodLink RJ7 86 ⟨"java/lang/Object", "getClass", "()Ljava/lang/Class;"⟩, Cond.selects "[Ljava/lang/Object;" ⟨"java/lang/Object", "getClass", "()Ljava/lang/Class;"⟩ ⟨"java/lang/Object", "getClass", "()Ljava/lang/Class;"⟩, Cond.instanceMethod ⟨"java/lang/Object", "getClass", "()Ljava/lang/Class;"⟩, Cond.native ⟨"java/lang/Object", "getClass", "()Ljava/lang/Class;"⟩, Cond.methodLink RJ7 300 yJ7_copyOf_6403c, Cond.static yJ7_copyOf_6403c, Cond.code yJ7_copyOf_6403c cJ7_copyOf_6403c 4 (some (.array (.object "java/lang/Object"))), Cond.classLink RJ7 110 "[Ljava/lang/Object;", Cond.classLink RJ7 2 "java/lang/Object", Cond.methodLink RJ7 304 Lib.Math.min.name, Cond.static Lib.Math.min.name, Cond.code Lib.Math.min.name Lib.Math.min.code 2 (some .int), Cond.methodLink RJ7 150 arraycopyName, Cond.native arraycopyName, Cond.static arraycopyName, Cond.initialized "java/lang/System"]
def wsX5_add : List Cond := .code yX5_add cX5_add 5 (some .int) :: ((wsX5_add_r1 ++ (wsX5_add_r2 ++ (wsX5_add_r3 ++ (wsX5_add_r4 ++ wsX5_add_r5)))) ++ wsX30 ++ wsX50 ++ wsJx4a65c0)
def wsX5_hasFace : List Cond := .code yX5_hasFace cX5_hasFace 3 (some .boolean) :: ([.fieldLink RX5 51 "ChooseTreeModel$Cls" "faces" "Ljava/util/ArrayList;", .methodLink RX5 28 yJx4a65c_size_8abf5, .instanceMethod yJx4a65c_size_8abf5, .selects RJx4a65c yJx4a65c_size_8abf5 yJx4a65c_size_8abf5, .initialized RJx4a65c, .code yJx4a65c_size_8abf5 cJx4a65c_size_8abf5 1 (some .int), .fieldLink RJx4a65c 48 "java/util/ArrayList" "size" "I", .methodLink RX5 32 yJx4a65c_get_915e3, .instanceMethod yJx4a65c_get_915e3, .selects RJx4a65c yJx4a65c_get_915e3 yJx4a65c_get_915e3, .code yJx4a65c_get_915e3 cJx4a65c_get_915e3 2 (some (.object "java/lang/Object")), .methodLink RJx4a65c 118 yJ15_checkIndex_7cf53, .static yJ15_checkIndex_7cf53, .initialized RJ15, .code yJ15_checkIndex_7cf53 cJ15_checkIndex_7cf53 2 (some .int), .methodLink RJ15 105 yJ3_checkIndex_8e157, .static yJ3_checkIndex_8e157, .initialized RJ3, .code yJ3_checkIndex_8e157 cJ3_checkIndex_8e157 3 (some .int), .methodLink RJx4a65c 123 yJx4a65c_elementData_915e3, .instanceMethod yJx4a65c_elementData_915e3, .selects RJx4a65c yJx4a65c_elementData_915e3 yJx4a65c_elementData_915e3, .code yJx4a65c_elementData_915e3 cJx4a65c_elementData_915e3 2 (some (.object "java/lang/Object")), .fieldLink RJx4a65c 9 "java/util/ArrayList" "elementData" "[Ljava/lang/Object;"] ++ wsX30 ++ wsJx4a65c0)
def wsX5_implement_r1 : List Cond := [Cond.fieldLink RX5 10 "ChooseTreeModel" "classes" "Ljava/util/ArrayList;", Cond.fieldLink RX5 42 "ChooseTreeModel$Cls" "isFace" "Z", Cond.fieldLink RX5 46 "ChooseTreeModel$Cls" "methods" "Ljava/util/ArrayList;", Cond.fieldLink RX5 51 "ChooseTreeModel$Cls" "faces" "Ljava/util/ArrayList;", Cond.methodLink RX5 38 yX5_at, Cond.instanceMethod yX5_at, Cond.selects RX5 yX5_at yX5_at, Cond.initialized RX5, Cond.code yX5_at cX5_at 2 (some (.object "ChooseTreeModel$Cls")), Cond.classLink RX5 19 "ChooseTreeModel$Cls", Cond.methodLink RX5 28 yJx4a65c_size_8abf5, Cond.instanceMethod yJx4a65c_size_8abf5, Cond.selects RJx4a65c yJx4a65c_size_8abf5 yJx4a65c_size_8abf5, Cond.initialized RJx4a65c, Cond.code yJx4a65c_size_8abf5 cJx4a65c_size_8abf5 1 (some .int), Cond.fieldLink RJx4a65c 48 "java/util/ArrayList" "size" "I", Cond.methodLink RX5 32 yJx4a65c_get_915e3, Cond.instanceMethod yJx4a65c_get_915e3, Cond.selects RJx4a65c yJx4a65c_get_915e3 yJx4a65c_get_915e3, Cond.code yJx4a65c_get_915e3 cJx4a65c_get_915e3 2 (some (.object "java/lang/Object")), Cond.methodLink RJx4a65c 118 yJ15_checkIndex_7cf53, Cond.static yJ15_checkIndex_7cf53, Cond.initialized RJ15, Cond.code yJ15_checkIndex_7cf53 cJ15_checkIndex_7cf53 2 (some .int)]
def wsX5_implement_r2 : List Cond := [Cond.methodLink RJ15 105 yJ3_checkIndex_8e157, Cond.static yJ3_checkIndex_8e157, Cond.initialized RJ3, Cond.code yJ3_checkIndex_8e157 cJ3_checkIndex_8e157 3 (some .int), Cond.methodLink RJx4a65c 123 yJx4a65c_elementData_915e3, Cond.instanceMethod yJx4a65c_elementData_915e3, Cond.selects RJx4a65c yJx4a65c_elementData_915e3 yJx4a65c_elementData_915e3, Cond.code yJx4a65c_elementData_915e3 cJx4a65c_elementData_915e3 2 (some (.object "java/lang/Object")), Cond.fieldLink RJx4a65c 9 "java/util/ArrayList" "elementData" "[Ljava/lang/Object;", Cond.methodLink RX5 47 yX5_hasFace, Cond.static yX5_hasFace, Cond.code yX5_hasFace cX5_hasFace 3 (some .boolean), Cond.methodLink RX5 24 yJx4a65c_add_9ea2d, Cond.instanceMethod yJx4a65c_add_9ea2d, Cond.selects RJx4a65c yJx4a65c_add_9ea2d yJx4a65c_add_9ea2d, Cond.code yJx4a65c_add_9ea2d cJx4a65c_add_9ea2d 2 (some .boolean), Cond.fieldLink RJx4a65c 63 "java/util/ArrayList" "modCount" "I", Cond.sameField "java/util/ArrayList" "java/util/AbstractList" "modCount" "I", Cond.methodLink RJx4a65c 131 yJx4a65c_add_72be8, Cond.instanceMethod yJx4a65c_add_72be8, Cond.selects RJx4a65c yJx4a65c_add_72be8 yJx4a65c_add_72be8, Cond.code yJx4a65c_add_72be8 cJx4a65c_add_72be8 4 none, Cond.methodLink RJx4a65c 129 yJx4a65c_grow_d5877, Cond.instanceMethod yJx4a65c_grow_d5877]
def wsX5_implement_r3 : List Cond := [Cond.selects RJx4a65c yJx4a65c_grow_d5877 yJx4a65c_grow_d5877, Cond.code yJx4a65c_grow_d5877 cJx4a65c_grow_d5877 1 (some (.array (.object "java/lang/Object"))), Cond.methodLink RJx4a65c 69 yJx4a65c_grow_92f84, Cond.instanceMethod yJx4a65c_grow_92f84, Cond.selects RJx4a65c yJx4a65c_grow_92f84 yJx4a65c_grow_92f84, Cond.code yJx4a65c_grow_92f84 cJx4a65c_grow_92f84 4 (some (.array (.object "java/lang/Object"))), Cond.fieldLink RJx4a65c 39 "java/util/ArrayList" "DEFAULTCAPACITY_EMPTY_ELEMENTDATA" "[Ljava/lang/Object;", Cond.methodLink RJx4a65c 79 Lib.Math.max.name, Cond.static Lib.Math.max.name, Cond.initialized "java/lang/Math", Cond.code Lib.Math.max.name Lib.Math.max.code 2 (some .int), Cond.classLink RJx4a65c 7 "java/lang/Object", Cond.methodLink RJx4a65c 73 yJ8_newLength_cabcc, Cond.static yJ8_newLength_cabcc, Cond.initialized RJ8, Cond.code yJ8_newLength_cabcc cJ8_newLength_cabcc 4 (some .int), Cond.methodLink RJ8 194 Lib.Math.max.name, Cond.constant RJ8 200 (2147483639), Cond.methodLink RJ8 201 yJ8_hugeLength_7cf53, Cond.static yJ8_hugeLength_7cf53, Cond.code yJ8_hugeLength_7cf53 cJ8_hugeLength_7cf53 3 (some .int), Cond.methodLink RJx4a65c 66 yJ7_copyOf_1904c, Cond.static yJ7_copyOf_1904c, Cond.initialized RJ7]
def wsX5_implement_r4 : List Cond := [Cond.code yJ7_copyOf_1904c cJ7_copyOf_1904c 2 (some (.array (.object "java/lang/Object"))), Cond.methodLink RJ7 86 ⟨"java/lang/Object", "getClass", "()Ljava/lang/Class;"⟩, Cond.selects "[Ljava/lang/Object;" ⟨"java/lang/Object", "getClass", "()Ljava/lang/Class;"⟩ ⟨"java/lang/Object", "getClass", "()Ljava/lang/Class;"⟩, Cond.instanceMethod ⟨"java/lang/Object", "getClass", "()Ljava/lang/Class;"⟩, Cond.native ⟨"java/lang/Object", "getClass", "()Ljava/lang/Class;"⟩, Cond.methodLink RJ7 300 yJ7_copyOf_6403c, Cond.static yJ7_copyOf_6403c, Cond.code yJ7_copyOf_6403c cJ7_copyOf_6403c 4 (some (.array (.object "java/lang/Object"))), Cond.classLink RJ7 110 "[Ljava/lang/Object;", Cond.classLink RJ7 2 "java/lang/Object", Cond.methodLink RJ7 304 Lib.Math.min.name, Cond.static Lib.Math.min.name, Cond.code Lib.Math.min.name Lib.Math.min.code 2 (some .int), Cond.methodLink RJ7 150 arraycopyName, Cond.native arraycopyName, Cond.static arraycopyName, Cond.initialized "java/lang/System"]
def wsX5_implement : List Cond := .code yX5_implement cX5_implement 5 (some .int) :: ((wsX5_implement_r1 ++ (wsX5_implement_r2 ++ (wsX5_implement_r3 ++ wsX5_implement_r4))) ++ wsX50 ++ wsX30 ++ wsJx4a65c0)
def wsX5_method_r1 : List Cond := [Cond.fieldLink RX5 10 "ChooseTreeModel" "classes" "Ljava/util/ArrayList;", Cond.classLink RX5 19 "ChooseTreeModel$Cls", Cond.fieldLink RX5 42 "ChooseTreeModel$Cls" "isFace" "Z", Cond.fieldLink RX5 16 "ChooseTreeModel" "methods" "Ljava/util/ArrayList;", Cond.classLink RX5 36 RX4, Cond.instantiable RX4 7, Cond.initialized RX4, Cond.fieldLink RX5 46 "ChooseTreeModel$Cls" "methods" "Ljava/util/ArrayList;", Cond.fieldLink RX5 65 "ChooseTreeModel$Met" "number" "I", Cond.methodLink RX5 28 yJx4a65c_size_8abf5, Cond.instanceMethod yJx4a65c_size_8abf5, Cond.selects RJx4a65c yJx4a65c_size_8abf5 yJx4a65c_size_8abf5, Cond.initialized RJx4a65c, Cond.code yJx4a65c_size_8abf5 cJx4a65c_size_8abf5 1 (some .int), Cond.fieldLink RJx4a65c 48 "java/util/ArrayList" "size" "I", Cond.methodLink RX5 32 yJx4a65c_get_915e3, Cond.instanceMethod yJx4a65c_get_915e3, Cond.selects RJx4a65c yJx4a65c_get_915e3 yJx4a65c_get_915e3, Cond.code yJx4a65c_get_915e3 cJx4a65c_get_915e3 2 (some (.object "java/lang/Object")), Cond.methodLink RJx4a65c 118 yJ15_checkIndex_7cf53, Cond.static yJ15_checkIndex_7cf53, Cond.initialized RJ15, Cond.code yJ15_checkIndex_7cf53 cJ15_checkIndex_7cf53 2 (some .int), Cond.methodLink RJ15 105 yJ3_checkIndex_8e157]
def wsX5_method_r2 : List Cond := [Cond.static yJ3_checkIndex_8e157, Cond.initialized RJ3, Cond.code yJ3_checkIndex_8e157 cJ3_checkIndex_8e157 3 (some .int), Cond.methodLink RJx4a65c 123 yJx4a65c_elementData_915e3, Cond.instanceMethod yJx4a65c_elementData_915e3, Cond.selects RJx4a65c yJx4a65c_elementData_915e3 yJx4a65c_elementData_915e3, Cond.code yJx4a65c_elementData_915e3 cJx4a65c_elementData_915e3 2 (some (.object "java/lang/Object")), Cond.fieldLink RJx4a65c 9 "java/util/ArrayList" "elementData" "[Ljava/lang/Object;", Cond.methodLink RX5 54 yX5_isName, Cond.static yX5_isName, Cond.initialized RX5, Cond.code yX5_isName cX5_isName 1 (some .boolean), Cond.methodLink RX5 58 yX3_named, Cond.instanceMethod yX3_named, Cond.selects RX3 yX3_named yX3_named, Cond.initialized RX3, Cond.code yX3_named cX3_named 3 (some (.object "ChooseTreeModel$Met")), Cond.fieldLink RX3 16 "ChooseTreeModel$Cls" "methods" "Ljava/util/ArrayList;", Cond.classLink RX3 48 "ChooseTreeModel$Met", Cond.fieldLink RX3 50 "ChooseTreeModel$Met" "name" "I", Cond.methodLink RX3 40 yJx4a65c_size_8abf5, Cond.methodLink RX3 44 yJx4a65c_get_915e3, Cond.methodLink RX5 62 yX4_init, Cond.instanceMethod yX4_init]
def wsX5_method_r3 : List Cond := [Cond.code yX4_init cX4_init 6 none, Cond.methodLink RX4 1 objectInit, Cond.instanceMethod objectInit, Cond.code objectInit ⟨#[0xb1]⟩ 1 none, Cond.fieldLink RX4 7 "ChooseTreeModel$Met" "number" "I", Cond.fieldLink RX4 13 "ChooseTreeModel$Met" "owner" "LChooseTreeModel$Cls;", Cond.fieldLink RX4 17 "ChooseTreeModel$Met" "name" "I", Cond.fieldLink RX4 20 "ChooseTreeModel$Met" "sight" "I", Cond.fieldLink RX4 23 "ChooseTreeModel$Met" "isStatic" "Z", Cond.fieldLink RX4 27 "ChooseTreeModel$Met" "isFinal" "Z", Cond.fieldLink RX4 30 "ChooseTreeModel$Met" "isAbstract" "Z", Cond.methodLink RX5 24 yJx4a65c_add_9ea2d, Cond.instanceMethod yJx4a65c_add_9ea2d, Cond.selects RJx4a65c yJx4a65c_add_9ea2d yJx4a65c_add_9ea2d, Cond.code yJx4a65c_add_9ea2d cJx4a65c_add_9ea2d 2 (some .boolean), Cond.fieldLink RJx4a65c 63 "java/util/ArrayList" "modCount" "I", Cond.sameField "java/util/ArrayList" "java/util/AbstractList" "modCount" "I", Cond.methodLink RJx4a65c 131 yJx4a65c_add_72be8, Cond.instanceMethod yJx4a65c_add_72be8, Cond.selects RJx4a65c yJx4a65c_add_72be8 yJx4a65c_add_72be8, Cond.code yJx4a65c_add_72be8 cJx4a65c_add_72be8 4 none, Cond.methodLink RJx4a65c 129 yJx4a65c_grow_d5877, Cond.instanceMethod yJx4a65c_grow_d5877, Cond.selects RJx4a65c yJx4a65c_grow_d5877 yJx4a65c_grow_d5877]
def wsX5_method_r4 : List Cond := [Cond.code yJx4a65c_grow_d5877 cJx4a65c_grow_d5877 1 (some (.array (.object "java/lang/Object"))), Cond.methodLink RJx4a65c 69 yJx4a65c_grow_92f84, Cond.instanceMethod yJx4a65c_grow_92f84, Cond.selects RJx4a65c yJx4a65c_grow_92f84 yJx4a65c_grow_92f84, Cond.code yJx4a65c_grow_92f84 cJx4a65c_grow_92f84 4 (some (.array (.object "java/lang/Object"))), Cond.fieldLink RJx4a65c 39 "java/util/ArrayList" "DEFAULTCAPACITY_EMPTY_ELEMENTDATA" "[Ljava/lang/Object;", Cond.methodLink RJx4a65c 79 Lib.Math.max.name, Cond.static Lib.Math.max.name, Cond.initialized "java/lang/Math", Cond.code Lib.Math.max.name Lib.Math.max.code 2 (some .int), Cond.classLink RJx4a65c 7 "java/lang/Object", Cond.methodLink RJx4a65c 73 yJ8_newLength_cabcc, Cond.static yJ8_newLength_cabcc, Cond.initialized RJ8, Cond.code yJ8_newLength_cabcc cJ8_newLength_cabcc 4 (some .int), Cond.methodLink RJ8 194 Lib.Math.max.name, Cond.constant RJ8 200 (2147483639), Cond.methodLink RJ8 201 yJ8_hugeLength_7cf53, Cond.static yJ8_hugeLength_7cf53, Cond.code yJ8_hugeLength_7cf53 cJ8_hugeLength_7cf53 3 (some .int), Cond.methodLink RJx4a65c 66 yJ7_copyOf_1904c, Cond.static yJ7_copyOf_1904c, Cond.initialized RJ7, Cond.code yJ7_copyOf_1904c cJ7_copyOf_1904c 2 (some (.array (.object "java/lang/Object")))]
def wsX5_method_r5 : List Cond := [Cond.methodLink RJ7 86 ⟨"java/lang/Object", "getClass", "()Ljava/lang/Class;"⟩, Cond.selects "[Ljava/lang/Object;" ⟨"java/lang/Object", "getClass", "()Ljava/lang/Class;"⟩ ⟨"java/lang/Object", "getClass", "()Ljava/lang/Class;"⟩, Cond.instanceMethod ⟨"java/lang/Object", "getClass", "()Ljava/lang/Class;"⟩, Cond.native ⟨"java/lang/Object", "getClass", "()Ljava/lang/Class;"⟩, Cond.methodLink RJ7 300 yJ7_copyOf_6403c, Cond.static yJ7_copyOf_6403c, Cond.code yJ7_copyOf_6403c cJ7_copyOf_6403c 4 (some (.array (.object "java/lang/Object"))), Cond.classLink RJ7 110 "[Ljava/lang/Object;", Cond.classLink RJ7 2 "java/lang/Object", Cond.methodLink RJ7 304 Lib.Math.min.name, Cond.static Lib.Math.min.name, Cond.code Lib.Math.min.name Lib.Math.min.code 2 (some .int), Cond.methodLink RJ7 150 arraycopyName, Cond.native arraycopyName, Cond.static arraycopyName, Cond.initialized "java/lang/System"]
def wsX5_method : List Cond := .code yX5_method cX5_method 7 (some .int) :: ((wsX5_method_r1 ++ (wsX5_method_r2 ++ (wsX5_method_r3 ++ (wsX5_method_r4 ++ wsX5_method_r5)))) ++ wsX50 ++ wsX30 ++ wsX40 ++ wsJx4a65c0)
def wsX5_leadsTo_r1 : List Cond := [Cond.fieldLink RX5 75 "ChooseTreeModel$Cls" "mark" "I", Cond.fieldLink RX5 69 "ChooseTreeModel" "mark" "I", Cond.fieldLink RX5 76 "ChooseTreeModel$Cls" "number" "I", Cond.fieldLink RX5 77 "ChooseTreeModel$Cls" "parent" "LChooseTreeModel$Cls;", Cond.fieldLink RX5 51 "ChooseTreeModel$Cls" "faces" "Ljava/util/ArrayList;", Cond.classLink RX5 19 "ChooseTreeModel$Cls", Cond.methodLink RX5 72 yX5_leadsTo, Cond.instanceMethod yX5_leadsTo, Cond.selects RX5 yX5_leadsTo yX5_leadsTo, Cond.initialized RX5, Cond.methodLink RX5 28 yJx4a65c_size_8abf5, Cond.instanceMethod yJx4a65c_size_8abf5, Cond.selects RJx4a65c yJx4a65c_size_8abf5 yJx4a65c_size_8abf5, Cond.initialized RJx4a65c, Cond.code yJx4a65c_size_8abf5 cJx4a65c_size_8abf5 1 (some .int), Cond.fieldLink RJx4a65c 48 "java/util/ArrayList" "size" "I", Cond.methodLink RX5 32 yJx4a65c_get_915e3, Cond.instanceMethod yJx4a65c_get_915e3, Cond.selects RJx4a65c yJx4a65c_get_915e3 yJx4a65c_get_915e3, Cond.code yJx4a65c_get_915e3 cJx4a65c_get_915e3 2 (some (.object "java/lang/Object")), Cond.methodLink RJx4a65c 118 yJ15_checkIndex_7cf53, Cond.static yJ15_checkIndex_7cf53, Cond.initialized RJ15, Cond.code yJ15_checkIndex_7cf53 cJ15_checkIndex_7cf53 2 (some .int)]
def wsX5_leadsTo_r2 : List Cond := [Cond.methodLink RJ15 105 yJ3_checkIndex_8e157, Cond.static yJ3_checkIndex_8e157, Cond.initialized RJ3, Cond.code yJ3_checkIndex_8e157 cJ3_checkIndex_8e157 3 (some .int), Cond.methodLink RJx4a65c 123 yJx4a65c_elementData_915e3, Cond.instanceMethod yJx4a65c_elementData_915e3, Cond.selects RJx4a65c yJx4a65c_elementData_915e3 yJx4a65c_elementData_915e3, Cond.code yJx4a65c_elementData_915e3 cJx4a65c_elementData_915e3 2 (some (.object "java/lang/Object")), Cond.fieldLink RJx4a65c 9 "java/util/ArrayList" "elementData" "[Ljava/lang/Object;"]
def wsX5_leadsTo : List Cond := .code yX5_leadsTo cX5_leadsTo 4 (some .boolean) :: ((wsX5_leadsTo_r1 ++ wsX5_leadsTo_r2) ++ wsX30 ++ wsX50 ++ wsJx4a65c0)
def wsX5_lies_r1 : List Cond := [Cond.fieldLink RX5 69 "ChooseTreeModel" "mark" "I", Cond.methodLink RX5 72 yX5_leadsTo, Cond.instanceMethod yX5_leadsTo, Cond.selects RX5 yX5_leadsTo yX5_leadsTo, Cond.initialized RX5, Cond.code yX5_leadsTo cX5_leadsTo 4 (some .boolean), Cond.fieldLink RX5 75 "ChooseTreeModel$Cls" "mark" "I", Cond.fieldLink RX5 76 "ChooseTreeModel$Cls" "number" "I", Cond.fieldLink RX5 77 "ChooseTreeModel$Cls" "parent" "LChooseTreeModel$Cls;", Cond.fieldLink RX5 51 "ChooseTreeModel$Cls" "faces" "Ljava/util/ArrayList;", Cond.classLink RX5 19 "ChooseTreeModel$Cls", Cond.methodLink RX5 28 yJx4a65c_size_8abf5, Cond.instanceMethod yJx4a65c_size_8abf5, Cond.selects RJx4a65c yJx4a65c_size_8abf5 yJx4a65c_size_8abf5, Cond.initialized RJx4a65c, Cond.code yJx4a65c_size_8abf5 cJx4a65c_size_8abf5 1 (some .int), Cond.fieldLink RJx4a65c 48 "java/util/ArrayList" "size" "I", Cond.methodLink RX5 32 yJx4a65c_get_915e3, Cond.instanceMethod yJx4a65c_get_915e3, Cond.selects RJx4a65c yJx4a65c_get_915e3 yJx4a65c_get_915e3, Cond.code yJx4a65c_get_915e3 cJx4a65c_get_915e3 2 (some (.object "java/lang/Object")), Cond.methodLink RJx4a65c 118 yJ15_checkIndex_7cf53, Cond.static yJ15_checkIndex_7cf53, Cond.initialized RJ15]
def wsX5_lies_r2 : List Cond := [Cond.code yJ15_checkIndex_7cf53 cJ15_checkIndex_7cf53 2 (some .int), Cond.methodLink RJ15 105 yJ3_checkIndex_8e157, Cond.static yJ3_checkIndex_8e157, Cond.initialized RJ3, Cond.code yJ3_checkIndex_8e157 cJ3_checkIndex_8e157 3 (some .int), Cond.methodLink RJx4a65c 123 yJx4a65c_elementData_915e3, Cond.instanceMethod yJx4a65c_elementData_915e3, Cond.selects RJx4a65c yJx4a65c_elementData_915e3 yJx4a65c_elementData_915e3, Cond.code yJx4a65c_elementData_915e3 cJx4a65c_elementData_915e3 2 (some (.object "java/lang/Object")), Cond.fieldLink RJx4a65c 9 "java/util/ArrayList" "elementData" "[Ljava/lang/Object;"]
def wsX5_lies : List Cond := .code yX5_lies cX5_lies 3 (some .boolean) :: ((wsX5_lies_r1 ++ wsX5_lies_r2) ++ wsX50 ++ wsX30 ++ wsJx4a65c0)
def wsX5_isBelow_r1 : List Cond := [Cond.methodLink RX5 38 yX5_at, Cond.instanceMethod yX5_at, Cond.selects RX5 yX5_at yX5_at, Cond.initialized RX5, Cond.code yX5_at cX5_at 2 (some (.object "ChooseTreeModel$Cls")), Cond.fieldLink RX5 10 "ChooseTreeModel" "classes" "Ljava/util/ArrayList;", Cond.classLink RX5 19 "ChooseTreeModel$Cls", Cond.methodLink RX5 28 yJx4a65c_size_8abf5, Cond.instanceMethod yJx4a65c_size_8abf5, Cond.selects RJx4a65c yJx4a65c_size_8abf5 yJx4a65c_size_8abf5, Cond.initialized RJx4a65c, Cond.code yJx4a65c_size_8abf5 cJx4a65c_size_8abf5 1 (some .int), Cond.fieldLink RJx4a65c 48 "java/util/ArrayList" "size" "I", Cond.methodLink RX5 32 yJx4a65c_get_915e3, Cond.instanceMethod yJx4a65c_get_915e3, Cond.selects RJx4a65c yJx4a65c_get_915e3 yJx4a65c_get_915e3, Cond.code yJx4a65c_get_915e3 cJx4a65c_get_915e3 2 (some (.object "java/lang/Object")), Cond.methodLink RJx4a65c 118 yJ15_checkIndex_7cf53, Cond.static yJ15_checkIndex_7cf53, Cond.initialized RJ15, Cond.code yJ15_checkIndex_7cf53 cJ15_checkIndex_7cf53 2 (some .int), Cond.methodLink RJ15 105 yJ3_checkIndex_8e157, Cond.static yJ3_checkIndex_8e157, Cond.initialized RJ3]
def wsX5_isBelow_r2 : List Cond := [Cond.code yJ3_checkIndex_8e157 cJ3_checkIndex_8e157 3 (some .int), Cond.methodLink RJx4a65c 123 yJx4a65c_elementData_915e3, Cond.instanceMethod yJx4a65c_elementData_915e3, Cond.selects RJx4a65c yJx4a65c_elementData_915e3 yJx4a65c_elementData_915e3, Cond.code yJx4a65c_elementData_915e3 cJx4a65c_elementData_915e3 2 (some (.object "java/lang/Object")), Cond.fieldLink RJx4a65c 9 "java/util/ArrayList" "elementData" "[Ljava/lang/Object;", Cond.methodLink RX5 81 yX5_lies, Cond.instanceMethod yX5_lies, Cond.selects RX5 yX5_lies yX5_lies, Cond.code yX5_lies cX5_lies 3 (some .boolean), Cond.fieldLink RX5 69 "ChooseTreeModel" "mark" "I", Cond.methodLink RX5 72 yX5_leadsTo, Cond.instanceMethod yX5_leadsTo, Cond.selects RX5 yX5_leadsTo yX5_leadsTo, Cond.code yX5_leadsTo cX5_leadsTo 4 (some .boolean), Cond.fieldLink RX5 75 "ChooseTreeModel$Cls" "mark" "I", Cond.fieldLink RX5 76 "ChooseTreeModel$Cls" "number" "I", Cond.fieldLink RX5 77 "ChooseTreeModel$Cls" "parent" "LChooseTreeModel$Cls;", Cond.fieldLink RX5 51 "ChooseTreeModel$Cls" "faces" "Ljava/util/ArrayList;"]
def wsX5_isBelow : List Cond := .code yX5_isBelow cX5_isBelow 3 (some .boolean) :: ((wsX5_isBelow_r1 ++ wsX5_isBelow_r2) ++ wsX50 ++ wsJx4a65c0 ++ wsX30)
def wsJx4a65c_clear_da8c8 : List Cond := .code yJx4a65c_clear_da8c8 cJx4a65c_clear_da8c8 4 none :: ([.fieldLink RJx4a65c 63 "java/util/ArrayList" "modCount" "I", .sameField "java/util/ArrayList" "java/util/AbstractList" "modCount" "I", .fieldLink RJx4a65c 9 "java/util/ArrayList" "elementData" "[Ljava/lang/Object;", .fieldLink RJx4a65c 48 "java/util/ArrayList" "size" "I"] ++ wsJx4a65c0)
def wsX5_gather_r1 : List Cond := [Cond.fieldLink RX5 51 "ChooseTreeModel$Cls" "faces" "Ljava/util/ArrayList;", Cond.classLink RX5 19 "ChooseTreeModel$Cls", Cond.fieldLink RX5 75 "ChooseTreeModel$Cls" "mark" "I", Cond.fieldLink RX5 69 "ChooseTreeModel" "mark" "I", Cond.fieldLink RX5 77 "ChooseTreeModel$Cls" "parent" "LChooseTreeModel$Cls;", Cond.methodLink RX5 28 yJx4a65c_size_8abf5, Cond.instanceMethod yJx4a65c_size_8abf5, Cond.selects RJx4a65c yJx4a65c_size_8abf5 yJx4a65c_size_8abf5, Cond.initialized RJx4a65c, Cond.code yJx4a65c_size_8abf5 cJx4a65c_size_8abf5 1 (some .int), Cond.fieldLink RJx4a65c 48 "java/util/ArrayList" "size" "I", Cond.methodLink RX5 32 yJx4a65c_get_915e3, Cond.instanceMethod yJx4a65c_get_915e3, Cond.selects RJx4a65c yJx4a65c_get_915e3 yJx4a65c_get_915e3, Cond.code yJx4a65c_get_915e3 cJx4a65c_get_915e3 2 (some (.object "java/lang/Object")), Cond.methodLink RJx4a65c 118 yJ15_checkIndex_7cf53, Cond.static yJ15_checkIndex_7cf53, Cond.initialized RJ15, Cond.code yJ15_checkIndex_7cf53 cJ15_checkIndex_7cf53 2 (some .int), Cond.methodLink RJ15 105 yJ3_checkIndex_8e157, Cond.static yJ3_checkIndex_8e157, Cond.initialized RJ3, Cond.code yJ3_checkIndex_8e157 cJ3_checkIndex_8e157 3 (some .int), Cond.methodLink RJx4a65c 123 yJx4a65c_elementData_915e3]
def wsX5_gather_r2 : List Cond := [Cond.instanceMethod yJx4a65c_elementData_915e3, Cond.selects RJx4a65c yJx4a65c_elementData_915e3 yJx4a65c_elementData_915e3, Cond.code yJx4a65c_elementData_915e3 cJx4a65c_elementData_915e3 2 (some (.object "java/lang/Object")), Cond.fieldLink RJx4a65c 9 "java/util/ArrayList" "elementData" "[Ljava/lang/Object;", Cond.methodLink RX5 24 yJx4a65c_add_9ea2d, Cond.instanceMethod yJx4a65c_add_9ea2d, Cond.selects RJx4a65c yJx4a65c_add_9ea2d yJx4a65c_add_9ea2d, Cond.code yJx4a65c_add_9ea2d cJx4a65c_add_9ea2d 2 (some .boolean), Cond.fieldLink RJx4a65c 63 "java/util/ArrayList" "modCount" "I", Cond.sameField "java/util/ArrayList" "java/util/AbstractList" "modCount" "I", Cond.methodLink RJx4a65c 131 yJx4a65c_add_72be8, Cond.instanceMethod yJx4a65c_add_72be8, Cond.selects RJx4a65c yJx4a65c_add_72be8 yJx4a65c_add_72be8, Cond.code yJx4a65c_add_72be8 cJx4a65c_add_72be8 4 none, Cond.methodLink RJx4a65c 129 yJx4a65c_grow_d5877, Cond.instanceMethod yJx4a65c_grow_d5877, Cond.selects RJx4a65c yJx4a65c_grow_d5877 yJx4a65c_grow_d5877, Cond.code yJx4a65c_grow_d5877 cJx4a65c_grow_d5877 1 (some (.array (.object "java/lang/Object"))), Cond.methodLink RJx4a65c 69 yJx4a65c_grow_92f84, Cond.instanceMethod yJx4a65c_grow_92f84, Cond.selects RJx4a65c yJx4a65c_grow_92f84 yJx4a65c_grow_92f84, Cond.code yJx4a65c_grow_92f84 cJx4a65c_grow_92f84 4 (some (.array (.object "java/lang/Object"))), Cond.fieldLink RJx4a65c 39 "java/util/ArrayList" "DEFAULTCAPACITY_EMPTY_ELEMENTDATA" "[Ljava/lang/Object;", Cond.methodLink RJx4a65c 79 Lib.Math.max.name]
def wsX5_gather_r3 : List Cond := [Cond.static Lib.Math.max.name, Cond.initialized "java/lang/Math", Cond.code Lib.Math.max.name Lib.Math.max.code 2 (some .int), Cond.classLink RJx4a65c 7 "java/lang/Object", Cond.methodLink RJx4a65c 73 yJ8_newLength_cabcc, Cond.static yJ8_newLength_cabcc, Cond.initialized RJ8, Cond.code yJ8_newLength_cabcc cJ8_newLength_cabcc 4 (some .int), Cond.methodLink RJ8 194 Lib.Math.max.name, Cond.constant RJ8 200 (2147483639), Cond.methodLink RJ8 201 yJ8_hugeLength_7cf53, Cond.static yJ8_hugeLength_7cf53, Cond.code yJ8_hugeLength_7cf53 cJ8_hugeLength_7cf53 3 (some .int), Cond.methodLink RJx4a65c 66 yJ7_copyOf_1904c, Cond.static yJ7_copyOf_1904c, Cond.initialized RJ7, Cond.code yJ7_copyOf_1904c cJ7_copyOf_1904c 2 (some (.array (.object "java/lang/Object"))), Cond.methodLink RJ7 86 ⟨"java/lang/Object", "getClass", "()Ljava/lang/Class;"⟩, Cond.selects "[Ljava/lang/Object;" ⟨"java/lang/Object", "getClass", "()Ljava/lang/Class;"⟩ ⟨"java/lang/Object", "getClass", "()Ljava/lang/Class;"⟩, Cond.instanceMethod ⟨"java/lang/Object", "getClass", "()Ljava/lang/Class;"⟩, Cond.native ⟨"java/lang/Object", "getClass", "()Ljava/lang/Class;"⟩, Cond.methodLink RJ7 300 yJ7_copyOf_6403c, Cond.static yJ7_copyOf_6403c, Cond.code yJ7_copyOf_6403c cJ7_copyOf_6403c 4 (some (.array (.object "java/lang/Object")))]
def wsX5_gather_r4 : List Cond := [Cond.classLink RJ7 110 "[Ljava/lang/Object;", Cond.classLink RJ7 2 "java/lang/Object", Cond.methodLink RJ7 304 Lib.Math.min.name, Cond.static Lib.Math.min.name, Cond.code Lib.Math.min.name Lib.Math.min.code 2 (some .int), Cond.methodLink RJ7 150 arraycopyName, Cond.native arraycopyName, Cond.static arraycopyName, Cond.initialized "java/lang/System", Cond.methodLink RX5 93 yX5_gather, Cond.instanceMethod yX5_gather, Cond.selects RX5 yX5_gather yX5_gather, Cond.initialized RX5]
def wsX5_gather : List Cond := .code yX5_gather cX5_gather 5 none :: ((wsX5_gather_r1 ++ (wsX5_gather_r2 ++ (wsX5_gather_r3 ++ wsX5_gather_r4))) ++ wsX30 ++ wsX50 ++ wsJx4a65c0)
def wsX5_facesOf_r1 : List Cond := [Cond.fieldLink RX5 84 "ChooseTreeModel$Cls" "put" "I", Cond.fieldLink RX5 51 "ChooseTreeModel$Cls" "faces" "Ljava/util/ArrayList;", Cond.fieldLink RX5 87 "ChooseTreeModel$Cls" "all" "Ljava/util/ArrayList;", Cond.fieldLink RX5 69 "ChooseTreeModel" "mark" "I", Cond.methodLink RX5 28 yJx4a65c_size_8abf5, Cond.instanceMethod yJx4a65c_size_8abf5, Cond.selects RJx4a65c yJx4a65c_size_8abf5 yJx4a65c_size_8abf5, Cond.initialized RJx4a65c, Cond.code yJx4a65c_size_8abf5 cJx4a65c_size_8abf5 1 (some .int), Cond.fieldLink RJx4a65c 48 "java/util/ArrayList" "size" "I", Cond.methodLink RX5 90 yJx4a65c_clear_da8c8, Cond.instanceMethod yJx4a65c_clear_da8c8, Cond.selects RJx4a65c yJx4a65c_clear_da8c8 yJx4a65c_clear_da8c8, Cond.code yJx4a65c_clear_da8c8 cJx4a65c_clear_da8c8 4 none, Cond.fieldLink RJx4a65c 63 "java/util/ArrayList" "modCount" "I", Cond.sameField "java/util/ArrayList" "java/util/AbstractList" "modCount" "I", Cond.fieldLink RJx4a65c 9 "java/util/ArrayList" "elementData" "[Ljava/lang/Object;", Cond.methodLink RX5 93 yX5_gather, Cond.instanceMethod yX5_gather, Cond.selects RX5 yX5_gather yX5_gather, Cond.initialized RX5, Cond.code yX5_gather cX5_gather 5 none, Cond.classLink RX5 19 "ChooseTreeModel$Cls", Cond.fieldLink RX5 75 "ChooseTreeModel$Cls" "mark" "I"]
def wsX5_facesOf_r2 : List Cond := [Cond.fieldLink RX5 77 "ChooseTreeModel$Cls" "parent" "LChooseTreeModel$Cls;", Cond.methodLink RX5 32 yJx4a65c_get_915e3, Cond.instanceMethod yJx4a65c_get_915e3, Cond.selects RJx4a65c yJx4a65c_get_915e3 yJx4a65c_get_915e3, Cond.code yJx4a65c_get_915e3 cJx4a65c_get_915e3 2 (some (.object "java/lang/Object")), Cond.methodLink RJx4a65c 118 yJ15_checkIndex_7cf53, Cond.static yJ15_checkIndex_7cf53, Cond.initialized RJ15, Cond.code yJ15_checkIndex_7cf53 cJ15_checkIndex_7cf53 2 (some .int), Cond.methodLink RJ15 105 yJ3_checkIndex_8e157, Cond.static yJ3_checkIndex_8e157, Cond.initialized RJ3, Cond.code yJ3_checkIndex_8e157 cJ3_checkIndex_8e157 3 (some .int), Cond.methodLink RJx4a65c 123 yJx4a65c_elementData_915e3, Cond.instanceMethod yJx4a65c_elementData_915e3, Cond.selects RJx4a65c yJx4a65c_elementData_915e3 yJx4a65c_elementData_915e3, Cond.code yJx4a65c_elementData_915e3 cJx4a65c_elementData_915e3 2 (some (.object "java/lang/Object")), Cond.methodLink RX5 24 yJx4a65c_add_9ea2d, Cond.instanceMethod yJx4a65c_add_9ea2d, Cond.selects RJx4a65c yJx4a65c_add_9ea2d yJx4a65c_add_9ea2d, Cond.code yJx4a65c_add_9ea2d cJx4a65c_add_9ea2d 2 (some .boolean), Cond.methodLink RJx4a65c 131 yJx4a65c_add_72be8, Cond.instanceMethod yJx4a65c_add_72be8, Cond.selects RJx4a65c yJx4a65c_add_72be8 yJx4a65c_add_72be8]
def wsX5_facesOf_r3 : List Cond := [Cond.code yJx4a65c_add_72be8 cJx4a65c_add_72be8 4 none, Cond.methodLink RJx4a65c 129 yJx4a65c_grow_d5877, Cond.instanceMethod yJx4a65c_grow_d5877, Cond.selects RJx4a65c yJx4a65c_grow_d5877 yJx4a65c_grow_d5877, Cond.code yJx4a65c_grow_d5877 cJx4a65c_grow_d5877 1 (some (.array (.object "java/lang/Object"))), Cond.methodLink RJx4a65c 69 yJx4a65c_grow_92f84, Cond.instanceMethod yJx4a65c_grow_92f84, Cond.selects RJx4a65c yJx4a65c_grow_92f84 yJx4a65c_grow_92f84, Cond.code yJx4a65c_grow_92f84 cJx4a65c_grow_92f84 4 (some (.array (.object "java/lang/Object"))), Cond.fieldLink RJx4a65c 39 "java/util/ArrayList" "DEFAULTCAPACITY_EMPTY_ELEMENTDATA" "[Ljava/lang/Object;", Cond.methodLink RJx4a65c 79 Lib.Math.max.name, Cond.static Lib.Math.max.name, Cond.initialized "java/lang/Math", Cond.code Lib.Math.max.name Lib.Math.max.code 2 (some .int), Cond.classLink RJx4a65c 7 "java/lang/Object", Cond.methodLink RJx4a65c 73 yJ8_newLength_cabcc, Cond.static yJ8_newLength_cabcc, Cond.initialized RJ8, Cond.code yJ8_newLength_cabcc cJ8_newLength_cabcc 4 (some .int), Cond.methodLink RJ8 194 Lib.Math.max.name, Cond.constant RJ8 200 (2147483639), Cond.methodLink RJ8 201 yJ8_hugeLength_7cf53, Cond.static yJ8_hugeLength_7cf53, Cond.code yJ8_hugeLength_7cf53 cJ8_hugeLength_7cf53 3 (some .int)]
def wsX5_facesOf_r4 : List Cond := [Cond.methodLink RJx4a65c 66 yJ7_copyOf_1904c, Cond.static yJ7_copyOf_1904c, Cond.initialized RJ7, Cond.code yJ7_copyOf_1904c cJ7_copyOf_1904c 2 (some (.array (.object "java/lang/Object"))), Cond.methodLink RJ7 86 ⟨"java/lang/Object", "getClass", "()Ljava/lang/Class;"⟩, Cond.selects "[Ljava/lang/Object;" ⟨"java/lang/Object", "getClass", "()Ljava/lang/Class;"⟩ ⟨"java/lang/Object", "getClass", "()Ljava/lang/Class;"⟩, Cond.instanceMethod ⟨"java/lang/Object", "getClass", "()Ljava/lang/Class;"⟩, Cond.native ⟨"java/lang/Object", "getClass", "()Ljava/lang/Class;"⟩, Cond.methodLink RJ7 300 yJ7_copyOf_6403c, Cond.static yJ7_copyOf_6403c, Cond.code yJ7_copyOf_6403c cJ7_copyOf_6403c 4 (some (.array (.object "java/lang/Object"))), Cond.classLink RJ7 110 "[Ljava/lang/Object;", Cond.classLink RJ7 2 "java/lang/Object", Cond.methodLink RJ7 304 Lib.Math.min.name, Cond.static Lib.Math.min.name, Cond.code Lib.Math.min.name Lib.Math.min.code 2 (some .int), Cond.methodLink RJ7 150 arraycopyName, Cond.native arraycopyName, Cond.static arraycopyName, Cond.initialized "java/lang/System"]
def wsX5_facesOf : List Cond := .code yX5_facesOf cX5_facesOf 2 (some (.object "java/util/ArrayList")) :: ((wsX5_facesOf_r1 ++ (wsX5_facesOf_r2 ++ (wsX5_facesOf_r3 ++ wsX5_facesOf_r4))) ++ wsX30 ++ wsX50 ++ wsJx4a65c0)
def wsX5_face_r1 : List Cond := [Cond.classLink RX5 19 "ChooseTreeModel$Cls", Cond.fieldLink RX5 76 "ChooseTreeModel$Cls" "number" "I", Cond.methodLink RX5 38 yX5_at, Cond.instanceMethod yX5_at, Cond.selects RX5 yX5_at yX5_at, Cond.initialized RX5, Cond.code yX5_at cX5_at 2 (some (.object "ChooseTreeModel$Cls")), Cond.fieldLink RX5 10 "ChooseTreeModel" "classes" "Ljava/util/ArrayList;", Cond.methodLink RX5 28 yJx4a65c_size_8abf5, Cond.instanceMethod yJx4a65c_size_8abf5, Cond.selects RJx4a65c yJx4a65c_size_8abf5 yJx4a65c_size_8abf5, Cond.initialized RJx4a65c, Cond.code yJx4a65c_size_8abf5 cJx4a65c_size_8abf5 1 (some .int), Cond.fieldLink RJx4a65c 48 "java/util/ArrayList" "size" "I", Cond.methodLink RX5 32 yJx4a65c_get_915e3, Cond.instanceMethod yJx4a65c_get_915e3, Cond.selects RJx4a65c yJx4a65c_get_915e3 yJx4a65c_get_915e3, Cond.code yJx4a65c_get_915e3 cJx4a65c_get_915e3 2 (some (.object "java/lang/Object")), Cond.methodLink RJx4a65c 118 yJ15_checkIndex_7cf53, Cond.static yJ15_checkIndex_7cf53, Cond.initialized RJ15, Cond.code yJ15_checkIndex_7cf53 cJ15_checkIndex_7cf53 2 (some .int), Cond.methodLink RJ15 105 yJ3_checkIndex_8e157, Cond.static yJ3_checkIndex_8e157]
def wsX5_face_r2 : List Cond := [Cond.initialized RJ3, Cond.code yJ3_checkIndex_8e157 cJ3_checkIndex_8e157 3 (some .int), Cond.methodLink RJx4a65c 123 yJx4a65c_elementData_915e3, Cond.instanceMethod yJx4a65c_elementData_915e3, Cond.selects RJx4a65c yJx4a65c_elementData_915e3 yJx4a65c_elementData_915e3, Cond.code yJx4a65c_elementData_915e3 cJx4a65c_elementData_915e3 2 (some (.object "java/lang/Object")), Cond.fieldLink RJx4a65c 9 "java/util/ArrayList" "elementData" "[Ljava/lang/Object;", Cond.methodLink RX5 97 yX5_facesOf, Cond.instanceMethod yX5_facesOf, Cond.selects RX5 yX5_facesOf yX5_facesOf, Cond.code yX5_facesOf cX5_facesOf 2 (some (.object "java/util/ArrayList")), Cond.fieldLink RX5 84 "ChooseTreeModel$Cls" "put" "I", Cond.fieldLink RX5 51 "ChooseTreeModel$Cls" "faces" "Ljava/util/ArrayList;", Cond.fieldLink RX5 87 "ChooseTreeModel$Cls" "all" "Ljava/util/ArrayList;", Cond.fieldLink RX5 69 "ChooseTreeModel" "mark" "I", Cond.methodLink RX5 90 yJx4a65c_clear_da8c8, Cond.instanceMethod yJx4a65c_clear_da8c8, Cond.selects RJx4a65c yJx4a65c_clear_da8c8 yJx4a65c_clear_da8c8, Cond.code yJx4a65c_clear_da8c8 cJx4a65c_clear_da8c8 4 none, Cond.fieldLink RJx4a65c 63 "java/util/ArrayList" "modCount" "I", Cond.sameField "java/util/ArrayList" "java/util/AbstractList" "modCount" "I", Cond.methodLink RX5 93 yX5_gather, Cond.instanceMethod yX5_gather, Cond.selects RX5 yX5_gather yX5_gather]
def wsX5_face_r3 : List Cond := [Cond.code yX5_gather cX5_gather 5 none, Cond.fieldLink RX5 75 "ChooseTreeModel$Cls" "mark" "I", Cond.fieldLink RX5 77 "ChooseTreeModel$Cls" "parent" "LChooseTreeModel$Cls;", Cond.methodLink RX5 24 yJx4a65c_add_9ea2d, Cond.instanceMethod yJx4a65c_add_9ea2d, Cond.selects RJx4a65c yJx4a65c_add_9ea2d yJx4a65c_add_9ea2d, Cond.code yJx4a65c_add_9ea2d cJx4a65c_add_9ea2d 2 (some .boolean), Cond.methodLink RJx4a65c 131 yJx4a65c_add_72be8, Cond.instanceMethod yJx4a65c_add_72be8, Cond.selects RJx4a65c yJx4a65c_add_72be8 yJx4a65c_add_72be8, Cond.code yJx4a65c_add_72be8 cJx4a65c_add_72be8 4 none, Cond.methodLink RJx4a65c 129 yJx4a65c_grow_d5877, Cond.instanceMethod yJx4a65c_grow_d5877, Cond.selects RJx4a65c yJx4a65c_grow_d5877 yJx4a65c_grow_d5877, Cond.code yJx4a65c_grow_d5877 cJx4a65c_grow_d5877 1 (some (.array (.object "java/lang/Object"))), Cond.methodLink RJx4a65c 69 yJx4a65c_grow_92f84, Cond.instanceMethod yJx4a65c_grow_92f84, Cond.selects RJx4a65c yJx4a65c_grow_92f84 yJx4a65c_grow_92f84, Cond.code yJx4a65c_grow_92f84 cJx4a65c_grow_92f84 4 (some (.array (.object "java/lang/Object"))), Cond.fieldLink RJx4a65c 39 "java/util/ArrayList" "DEFAULTCAPACITY_EMPTY_ELEMENTDATA" "[Ljava/lang/Object;", Cond.methodLink RJx4a65c 79 Lib.Math.max.name, Cond.static Lib.Math.max.name, Cond.initialized "java/lang/Math", Cond.code Lib.Math.max.name Lib.Math.max.code 2 (some .int)]
def wsX5_face_r4 : List Cond := [Cond.classLink RJx4a65c 7 "java/lang/Object", Cond.methodLink RJx4a65c 73 yJ8_newLength_cabcc, Cond.static yJ8_newLength_cabcc, Cond.initialized RJ8, Cond.code yJ8_newLength_cabcc cJ8_newLength_cabcc 4 (some .int), Cond.methodLink RJ8 194 Lib.Math.max.name, Cond.constant RJ8 200 (2147483639), Cond.methodLink RJ8 201 yJ8_hugeLength_7cf53, Cond.static yJ8_hugeLength_7cf53, Cond.code yJ8_hugeLength_7cf53 cJ8_hugeLength_7cf53 3 (some .int), Cond.methodLink RJx4a65c 66 yJ7_copyOf_1904c, Cond.static yJ7_copyOf_1904c, Cond.initialized RJ7, Cond.code yJ7_copyOf_1904c cJ7_copyOf_1904c 2 (some (.array (.object "java/lang/Object"))), Cond.methodLink RJ7 86 ⟨"java/lang/Object", "getClass", "()Ljava/lang/Class;"⟩, Cond.selects "[Ljava/lang/Object;" ⟨"java/lang/Object", "getClass", "()Ljava/lang/Class;"⟩ ⟨"java/lang/Object", "getClass", "()Ljava/lang/Class;"⟩, Cond.instanceMethod ⟨"java/lang/Object", "getClass", "()Ljava/lang/Class;"⟩, Cond.native ⟨"java/lang/Object", "getClass", "()Ljava/lang/Class;"⟩, Cond.methodLink RJ7 300 yJ7_copyOf_6403c, Cond.static yJ7_copyOf_6403c, Cond.code yJ7_copyOf_6403c cJ7_copyOf_6403c 4 (some (.array (.object "java/lang/Object"))), Cond.classLink RJ7 110 "[Ljava/lang/Object;", Cond.classLink RJ7 2 "java/lang/Object", Cond.methodLink RJ7 304 Lib.Math.min.name]
def wsX5_face_r5 : List Cond := [Cond.static Lib.Math.min.name, Cond.code Lib.Math.min.name Lib.Math.min.code 2 (some .int), Cond.methodLink RJ7 150 arraycopyName, Cond.native arraycopyName, Cond.static arraycopyName, Cond.initialized "java/lang/System"]
def wsX5_face : List Cond := .code yX5_face cX5_face 4 (some .int) :: ((wsX5_face_r1 ++ (wsX5_face_r2 ++ (wsX5_face_r3 ++ (wsX5_face_r4 ++ wsX5_face_r5)))) ++ wsX30 ++ wsX50 ++ wsJx4a65c0)
def wsX5_isFree : List Cond := .code yX5_isFree cX5_isFree 1 (some .boolean) :: ([.fieldLink RX5 101 "ChooseTreeModel$Met" "isStatic" "Z", .fieldLink RX5 104 "ChooseTreeModel$Met" "sight" "I"] ++ wsX40)
def wsX5_goesOver_r1 : List Cond := [Cond.fieldLink RX5 107 "ChooseTreeModel$Met" "owner" "LChooseTreeModel$Cls;", Cond.fieldLink RX5 110 "ChooseTreeModel$Met" "name" "I", Cond.fieldLink RX5 104 "ChooseTreeModel$Met" "sight" "I", Cond.fieldLink RX5 117 "ChooseTreeModel$Cls" "pack" "I", Cond.fieldLink RX5 77 "ChooseTreeModel$Cls" "parent" "LChooseTreeModel$Cls;", Cond.methodLink RX5 113 yX5_isFree, Cond.static yX5_isFree, Cond.initialized RX5, Cond.code yX5_isFree cX5_isFree 1 (some .boolean), Cond.fieldLink RX5 101 "ChooseTreeModel$Met" "isStatic" "Z", Cond.methodLink RX5 58 yX3_named, Cond.instanceMethod yX3_named, Cond.selects RX3 yX3_named yX3_named, Cond.initialized RX3, Cond.code yX3_named cX3_named 3 (some (.object "ChooseTreeModel$Met")), Cond.fieldLink RX3 16 "ChooseTreeModel$Cls" "methods" "Ljava/util/ArrayList;", Cond.classLink RX3 48 "ChooseTreeModel$Met", Cond.fieldLink RX3 50 "ChooseTreeModel$Met" "name" "I", Cond.methodLink RX3 40 yJx4a65c_size_8abf5, Cond.instanceMethod yJx4a65c_size_8abf5, Cond.selects RJx4a65c yJx4a65c_size_8abf5 yJx4a65c_size_8abf5, Cond.initialized RJx4a65c, Cond.code yJx4a65c_size_8abf5 cJx4a65c_size_8abf5 1 (some .int), Cond.fieldLink RJx4a65c 48 "java/util/ArrayList" "size" "I"]
def wsX5_goesOver_r2 : List Cond := [Cond.methodLink RX3 44 yJx4a65c_get_915e3, Cond.instanceMethod yJx4a65c_get_915e3, Cond.selects RJx4a65c yJx4a65c_get_915e3 yJx4a65c_get_915e3, Cond.code yJx4a65c_get_915e3 cJx4a65c_get_915e3 2 (some (.object "java/lang/Object")), Cond.methodLink RJx4a65c 118 yJ15_checkIndex_7cf53, Cond.static yJ15_checkIndex_7cf53, Cond.initialized RJ15, Cond.code yJ15_checkIndex_7cf53 cJ15_checkIndex_7cf53 2 (some .int), Cond.methodLink RJ15 105 yJ3_checkIndex_8e157, Cond.static yJ3_checkIndex_8e157, Cond.initialized RJ3, Cond.code yJ3_checkIndex_8e157 cJ3_checkIndex_8e157 3 (some .int), Cond.methodLink RJx4a65c 123 yJx4a65c_elementData_915e3, Cond.instanceMethod yJx4a65c_elementData_915e3, Cond.selects RJx4a65c yJx4a65c_elementData_915e3 yJx4a65c_elementData_915e3, Cond.code yJx4a65c_elementData_915e3 cJx4a65c_elementData_915e3 2 (some (.object "java/lang/Object")), Cond.fieldLink RJx4a65c 9 "java/util/ArrayList" "elementData" "[Ljava/lang/Object;"]
def wsX5_goesOver : List Cond := .code yX5_goesOver cX5_goesOver 5 (some .boolean) :: ((wsX5_goesOver_r1 ++ wsX5_goesOver_r2) ++ wsX40 ++ wsX30 ++ wsJx4a65c0)
def wsX5_overrides_r1 : List Cond := [Cond.methodLink RX5 120 yX5_met, Cond.instanceMethod yX5_met, Cond.selects RX5 yX5_met yX5_met, Cond.initialized RX5, Cond.code yX5_met cX5_met 2 (some (.object "ChooseTreeModel$Met")), Cond.fieldLink RX5 16 "ChooseTreeModel" "methods" "Ljava/util/ArrayList;", Cond.classLink RX5 36 "ChooseTreeModel$Met", Cond.methodLink RX5 28 yJx4a65c_size_8abf5, Cond.instanceMethod yJx4a65c_size_8abf5, Cond.selects RJx4a65c yJx4a65c_size_8abf5 yJx4a65c_size_8abf5, Cond.initialized RJx4a65c, Cond.code yJx4a65c_size_8abf5 cJx4a65c_size_8abf5 1 (some .int), Cond.fieldLink RJx4a65c 48 "java/util/ArrayList" "size" "I", Cond.methodLink RX5 32 yJx4a65c_get_915e3, Cond.instanceMethod yJx4a65c_get_915e3, Cond.selects RJx4a65c yJx4a65c_get_915e3 yJx4a65c_get_915e3, Cond.code yJx4a65c_get_915e3 cJx4a65c_get_915e3 2 (some (.object "java/lang/Object")), Cond.methodLink RJx4a65c 118 yJ15_checkIndex_7cf53, Cond.static yJ15_checkIndex_7cf53, Cond.initialized RJ15, Cond.code yJ15_checkIndex_7cf53 cJ15_checkIndex_7cf53 2 (some .int), Cond.methodLink RJ15 105 yJ3_checkIndex_8e157, Cond.static yJ3_checkIndex_8e157, Cond.initialized RJ3]
def wsX5_overrides_r2 : List Cond := [Cond.code yJ3_checkIndex_8e157 cJ3_checkIndex_8e157 3 (some .int), Cond.methodLink RJx4a65c 123 yJx4a65c_elementData_915e3, Cond.instanceMethod yJx4a65c_elementData_915e3, Cond.selects RJx4a65c yJx4a65c_elementData_915e3 yJx4a65c_elementData_915e3, Cond.code yJx4a65c_elementData_915e3 cJx4a65c_elementData_915e3 2 (some (.object "java/lang/Object")), Cond.fieldLink RJx4a65c 9 "java/util/ArrayList" "elementData" "[Ljava/lang/Object;", Cond.methodLink RX5 123 yX5_goesOver, Cond.static yX5_goesOver, Cond.code yX5_goesOver cX5_goesOver 5 (some .boolean), Cond.fieldLink RX5 107 "ChooseTreeModel$Met" "owner" "LChooseTreeModel$Cls;", Cond.fieldLink RX5 110 "ChooseTreeModel$Met" "name" "I", Cond.fieldLink RX5 104 "ChooseTreeModel$Met" "sight" "I", Cond.fieldLink RX5 117 "ChooseTreeModel$Cls" "pack" "I", Cond.fieldLink RX5 77 "ChooseTreeModel$Cls" "parent" "LChooseTreeModel$Cls;", Cond.methodLink RX5 113 yX5_isFree, Cond.static yX5_isFree, Cond.code yX5_isFree cX5_isFree 1 (some .boolean), Cond.fieldLink RX5 101 "ChooseTreeModel$Met" "isStatic" "Z", Cond.methodLink RX5 58 yX3_named, Cond.instanceMethod yX3_named, Cond.selects RX3 yX3_named yX3_named, Cond.initialized RX3, Cond.code yX3_named cX3_named 3 (some (.object "ChooseTreeModel$Met")), Cond.fieldLink RX3 16 "ChooseTreeModel$Cls" "methods" "Ljava/util/ArrayList;"]
def wsX5_overrides_r3 : List Cond := [Cond.classLink RX3 48 "ChooseTreeModel$Met", Cond.fieldLink RX3 50 "ChooseTreeModel$Met" "name" "I", Cond.methodLink RX3 40 yJx4a65c_size_8abf5, Cond.methodLink RX3 44 yJx4a65c_get_915e3]
def wsX5_overrides : List Cond := .code yX5_overrides cX5_overrides 3 (some .boolean) :: ((wsX5_overrides_r1 ++ (wsX5_overrides_r2 ++ wsX5_overrides_r3)) ++ wsX50 ++ wsJx4a65c0 ++ wsX40 ++ wsX30)
def wsX5_broken_r1 : List Cond := [Cond.fieldLink RX5 46 "ChooseTreeModel$Cls" "methods" "Ljava/util/ArrayList;", Cond.classLink RX5 36 "ChooseTreeModel$Met", Cond.fieldLink RX5 77 "ChooseTreeModel$Cls" "parent" "LChooseTreeModel$Cls;", Cond.fieldLink RX5 110 "ChooseTreeModel$Met" "name" "I", Cond.fieldLink RX5 127 "ChooseTreeModel$Met" "isFinal" "Z", Cond.fieldLink RX5 65 "ChooseTreeModel$Met" "number" "I", Cond.methodLink RX5 38 yX5_at, Cond.instanceMethod yX5_at, Cond.selects RX5 yX5_at yX5_at, Cond.initialized RX5, Cond.code yX5_at cX5_at 2 (some (.object "ChooseTreeModel$Cls")), Cond.fieldLink RX5 10 "ChooseTreeModel" "classes" "Ljava/util/ArrayList;", Cond.classLink RX5 19 "ChooseTreeModel$Cls", Cond.methodLink RX5 28 yJx4a65c_size_8abf5, Cond.instanceMethod yJx4a65c_size_8abf5, Cond.selects RJx4a65c yJx4a65c_size_8abf5 yJx4a65c_size_8abf5, Cond.initialized RJx4a65c, Cond.code yJx4a65c_size_8abf5 cJx4a65c_size_8abf5 1 (some .int), Cond.fieldLink RJx4a65c 48 "java/util/ArrayList" "size" "I", Cond.methodLink RX5 32 yJx4a65c_get_915e3, Cond.instanceMethod yJx4a65c_get_915e3, Cond.selects RJx4a65c yJx4a65c_get_915e3 yJx4a65c_get_915e3, Cond.code yJx4a65c_get_915e3 cJx4a65c_get_915e3 2 (some (.object "java/lang/Object")), Cond.methodLink RJx4a65c 118 yJ15_checkIndex_7cf53]
def wsX5_broken_r2 : List Cond := [Cond.static yJ15_checkIndex_7cf53, Cond.initialized RJ15, Cond.code yJ15_checkIndex_7cf53 cJ15_checkIndex_7cf53 2 (some .int), Cond.methodLink RJ15 105 yJ3_checkIndex_8e157, Cond.static yJ3_checkIndex_8e157, Cond.initialized RJ3, Cond.code yJ3_checkIndex_8e157 cJ3_checkIndex_8e157 3 (some .int), Cond.methodLink RJx4a65c 123 yJx4a65c_elementData_915e3, Cond.instanceMethod yJx4a65c_elementData_915e3, Cond.selects RJx4a65c yJx4a65c_elementData_915e3 yJx4a65c_elementData_915e3, Cond.code yJx4a65c_elementData_915e3 cJx4a65c_elementData_915e3 2 (some (.object "java/lang/Object")), Cond.fieldLink RJx4a65c 9 "java/util/ArrayList" "elementData" "[Ljava/lang/Object;", Cond.methodLink RX5 58 yX3_named, Cond.instanceMethod yX3_named, Cond.selects RX3 yX3_named yX3_named, Cond.initialized RX3, Cond.code yX3_named cX3_named 3 (some (.object "ChooseTreeModel$Met")), Cond.fieldLink RX3 16 "ChooseTreeModel$Cls" "methods" "Ljava/util/ArrayList;", Cond.classLink RX3 48 "ChooseTreeModel$Met", Cond.fieldLink RX3 50 "ChooseTreeModel$Met" "name" "I", Cond.methodLink RX3 40 yJx4a65c_size_8abf5, Cond.methodLink RX3 44 yJx4a65c_get_915e3, Cond.methodLink RX5 123 yX5_goesOver, Cond.static yX5_goesOver]
def wsX5_broken_r3 : List Cond := [Cond.code yX5_goesOver cX5_goesOver 5 (some .boolean), Cond.fieldLink RX5 107 "ChooseTreeModel$Met" "owner" "LChooseTreeModel$Cls;", Cond.fieldLink RX5 104 "ChooseTreeModel$Met" "sight" "I", Cond.fieldLink RX5 117 "ChooseTreeModel$Cls" "pack" "I", Cond.methodLink RX5 113 yX5_isFree, Cond.static yX5_isFree, Cond.code yX5_isFree cX5_isFree 1 (some .boolean), Cond.fieldLink RX5 101 "ChooseTreeModel$Met" "isStatic" "Z"]
def wsX5_broken : List Cond := .code yX5_broken cX5_broken 7 (some .int) :: ((wsX5_broken_r1 ++ (wsX5_broken_r2 ++ wsX5_broken_r3)) ++ wsX30 ++ wsX40 ++ wsX50 ++ wsJx4a65c0)
def wsX5_isNearest_r1 : List Cond := [Cond.classLink RX5 19 "ChooseTreeModel$Cls", Cond.methodLink RX5 32 yJx4a65c_get_915e3, Cond.instanceMethod yJx4a65c_get_915e3, Cond.selects RJx4a65c yJx4a65c_get_915e3 yJx4a65c_get_915e3, Cond.initialized RJx4a65c, Cond.code yJx4a65c_get_915e3 cJx4a65c_get_915e3 2 (some (.object "java/lang/Object")), Cond.fieldLink RJx4a65c 48 "java/util/ArrayList" "size" "I", Cond.methodLink RJx4a65c 118 yJ15_checkIndex_7cf53, Cond.static yJ15_checkIndex_7cf53, Cond.initialized RJ15, Cond.code yJ15_checkIndex_7cf53 cJ15_checkIndex_7cf53 2 (some .int), Cond.methodLink RJ15 105 yJ3_checkIndex_8e157, Cond.static yJ3_checkIndex_8e157, Cond.initialized RJ3, Cond.code yJ3_checkIndex_8e157 cJ3_checkIndex_8e157 3 (some .int), Cond.methodLink RJx4a65c 123 yJx4a65c_elementData_915e3, Cond.instanceMethod yJx4a65c_elementData_915e3, Cond.selects RJx4a65c yJx4a65c_elementData_915e3 yJx4a65c_elementData_915e3, Cond.code yJx4a65c_elementData_915e3 cJx4a65c_elementData_915e3 2 (some (.object "java/lang/Object")), Cond.fieldLink RJx4a65c 9 "java/util/ArrayList" "elementData" "[Ljava/lang/Object;", Cond.methodLink RX5 58 yX3_named, Cond.instanceMethod yX3_named, Cond.selects RX3 yX3_named yX3_named, Cond.initialized RX3]
def wsX5_isNearest_r2 : List Cond := [Cond.code yX3_named cX3_named 3 (some (.object "ChooseTreeModel$Met")), Cond.fieldLink RX3 16 "ChooseTreeModel$Cls" "methods" "Ljava/util/ArrayList;", Cond.classLink RX3 48 "ChooseTreeModel$Met", Cond.fieldLink RX3 50 "ChooseTreeModel$Met" "name" "I", Cond.methodLink RX3 40 yJx4a65c_size_8abf5, Cond.instanceMethod yJx4a65c_size_8abf5, Cond.selects RJx4a65c yJx4a65c_size_8abf5 yJx4a65c_size_8abf5, Cond.code yJx4a65c_size_8abf5 cJx4a65c_size_8abf5 1 (some .int), Cond.methodLink RX3 44 yJx4a65c_get_915e3, Cond.methodLink RX5 28 yJx4a65c_size_8abf5, Cond.methodLink RX5 81 yX5_lies, Cond.instanceMethod yX5_lies, Cond.selects RX5 yX5_lies yX5_lies, Cond.initialized RX5, Cond.code yX5_lies cX5_lies 3 (some .boolean), Cond.fieldLink RX5 69 "ChooseTreeModel" "mark" "I", Cond.methodLink RX5 72 yX5_leadsTo, Cond.instanceMethod yX5_leadsTo, Cond.selects RX5 yX5_leadsTo yX5_leadsTo, Cond.code yX5_leadsTo cX5_leadsTo 4 (some .boolean), Cond.fieldLink RX5 75 "ChooseTreeModel$Cls" "mark" "I", Cond.fieldLink RX5 76 "ChooseTreeModel$Cls" "number" "I", Cond.fieldLink RX5 77 "ChooseTreeModel$Cls" "parent" "LChooseTreeModel$Cls;", Cond.fieldLink RX5 51 "ChooseTreeModel$Cls" "faces" "Ljava/util/ArrayList;"]
def wsX5_isNearest : List Cond := .code yX5_isNearest cX5_isNearest 5 (some .boolean) :: ((wsX5_isNearest_r1 ++ wsX5_isNearest_r2) ++ wsJx4a65c0 ++ wsX30 ++ wsX40 ++ wsX50)
def wsX5_nearest_r1 : List Cond := [Cond.classLink RX5 19 "ChooseTreeModel$Cls", Cond.fieldLink RX5 65 "ChooseTreeModel$Met" "number" "I", Cond.methodLink RX5 38 yX5_at, Cond.instanceMethod yX5_at, Cond.selects RX5 yX5_at yX5_at, Cond.initialized RX5, Cond.code yX5_at cX5_at 2 (some (.object "ChooseTreeModel$Cls")), Cond.fieldLink RX5 10 "ChooseTreeModel" "classes" "Ljava/util/ArrayList;", Cond.methodLink RX5 28 yJx4a65c_size_8abf5, Cond.instanceMethod yJx4a65c_size_8abf5, Cond.selects RJx4a65c yJx4a65c_size_8abf5 yJx4a65c_size_8abf5, Cond.initialized RJx4a65c, Cond.code yJx4a65c_size_8abf5 cJx4a65c_size_8abf5 1 (some .int), Cond.fieldLink RJx4a65c 48 "java/util/ArrayList" "size" "I", Cond.methodLink RX5 32 yJx4a65c_get_915e3, Cond.instanceMethod yJx4a65c_get_915e3, Cond.selects RJx4a65c yJx4a65c_get_915e3 yJx4a65c_get_915e3, Cond.code yJx4a65c_get_915e3 cJx4a65c_get_915e3 2 (some (.object "java/lang/Object")), Cond.methodLink RJx4a65c 118 yJ15_checkIndex_7cf53, Cond.static yJ15_checkIndex_7cf53, Cond.initialized RJ15, Cond.code yJ15_checkIndex_7cf53 cJ15_checkIndex_7cf53 2 (some .int), Cond.methodLink RJ15 105 yJ3_checkIndex_8e157, Cond.static yJ3_checkIndex_8e157]
def wsX5_nearest_r2 : List Cond := [Cond.initialized RJ3, Cond.code yJ3_checkIndex_8e157 cJ3_checkIndex_8e157 3 (some .int), Cond.methodLink RJx4a65c 123 yJx4a65c_elementData_915e3, Cond.instanceMethod yJx4a65c_elementData_915e3, Cond.selects RJx4a65c yJx4a65c_elementData_915e3 yJx4a65c_elementData_915e3, Cond.code yJx4a65c_elementData_915e3 cJx4a65c_elementData_915e3 2 (some (.object "java/lang/Object")), Cond.fieldLink RJx4a65c 9 "java/util/ArrayList" "elementData" "[Ljava/lang/Object;", Cond.methodLink RX5 54 yX5_isName, Cond.static yX5_isName, Cond.code yX5_isName cX5_isName 1 (some .boolean), Cond.methodLink RX5 97 yX5_facesOf, Cond.instanceMethod yX5_facesOf, Cond.selects RX5 yX5_facesOf yX5_facesOf, Cond.code yX5_facesOf cX5_facesOf 2 (some (.object "java/util/ArrayList")), Cond.fieldLink RX5 84 "ChooseTreeModel$Cls" "put" "I", Cond.fieldLink RX5 51 "ChooseTreeModel$Cls" "faces" "Ljava/util/ArrayList;", Cond.fieldLink RX5 87 "ChooseTreeModel$Cls" "all" "Ljava/util/ArrayList;", Cond.fieldLink RX5 69 "ChooseTreeModel" "mark" "I", Cond.methodLink RX5 90 yJx4a65c_clear_da8c8, Cond.instanceMethod yJx4a65c_clear_da8c8, Cond.selects RJx4a65c yJx4a65c_clear_da8c8 yJx4a65c_clear_da8c8, Cond.code yJx4a65c_clear_da8c8 cJx4a65c_clear_da8c8 4 none, Cond.fieldLink RJx4a65c 63 "java/util/ArrayList" "modCount" "I", Cond.sameField "java/util/ArrayList" "java/util/AbstractList" "modCount" "I"]
def wsX5_nearest_r3 : List Cond := [Cond.methodLink RX5 93 yX5_gather, Cond.instanceMethod yX5_gather, Cond.selects RX5 yX5_gather yX5_gather, Cond.code yX5_gather cX5_gather 5 none, Cond.fieldLink RX5 75 "ChooseTreeModel$Cls" "mark" "I", Cond.fieldLink RX5 77 "ChooseTreeModel$Cls" "parent" "LChooseTreeModel$Cls;", Cond.methodLink RX5 24 yJx4a65c_add_9ea2d, Cond.instanceMethod yJx4a65c_add_9ea2d, Cond.selects RJx4a65c yJx4a65c_add_9ea2d yJx4a65c_add_9ea2d, Cond.code yJx4a65c_add_9ea2d cJx4a65c_add_9ea2d 2 (some .boolean), Cond.methodLink RJx4a65c 131 yJx4a65c_add_72be8, Cond.instanceMethod yJx4a65c_add_72be8, Cond.selects RJx4a65c yJx4a65c_add_72be8 yJx4a65c_add_72be8, Cond.code yJx4a65c_add_72be8 cJx4a65c_add_72be8 4 none, Cond.methodLink RJx4a65c 129 yJx4a65c_grow_d5877, Cond.instanceMethod yJx4a65c_grow_d5877, Cond.selects RJx4a65c yJx4a65c_grow_d5877 yJx4a65c_grow_d5877, Cond.code yJx4a65c_grow_d5877 cJx4a65c_grow_d5877 1 (some (.array (.object "java/lang/Object"))), Cond.methodLink RJx4a65c 69 yJx4a65c_grow_92f84, Cond.instanceMethod yJx4a65c_grow_92f84, Cond.selects RJx4a65c yJx4a65c_grow_92f84 yJx4a65c_grow_92f84, Cond.code yJx4a65c_grow_92f84 cJx4a65c_grow_92f84 4 (some (.array (.object "java/lang/Object"))), Cond.fieldLink RJx4a65c 39 "java/util/ArrayList" "DEFAULTCAPACITY_EMPTY_ELEMENTDATA" "[Ljava/lang/Object;", Cond.methodLink RJx4a65c 79 Lib.Math.max.name]
def wsX5_nearest_r4 : List Cond := [Cond.static Lib.Math.max.name, Cond.initialized "java/lang/Math", Cond.code Lib.Math.max.name Lib.Math.max.code 2 (some .int), Cond.classLink RJx4a65c 7 "java/lang/Object", Cond.methodLink RJx4a65c 73 yJ8_newLength_cabcc, Cond.static yJ8_newLength_cabcc, Cond.initialized RJ8, Cond.code yJ8_newLength_cabcc cJ8_newLength_cabcc 4 (some .int), Cond.methodLink RJ8 194 Lib.Math.max.name, Cond.constant RJ8 200 (2147483639), Cond.methodLink RJ8 201 yJ8_hugeLength_7cf53, Cond.static yJ8_hugeLength_7cf53, Cond.code yJ8_hugeLength_7cf53 cJ8_hugeLength_7cf53 3 (some .int), Cond.methodLink RJx4a65c 66 yJ7_copyOf_1904c, Cond.static yJ7_copyOf_1904c, Cond.initialized RJ7, Cond.code yJ7_copyOf_1904c cJ7_copyOf_1904c 2 (some (.array (.object "java/lang/Object"))), Cond.methodLink RJ7 86 ⟨"java/lang/Object", "getClass", "()Ljava/lang/Class;"⟩, Cond.selects "[Ljava/lang/Object;" ⟨"java/lang/Object", "getClass", "()Ljava/lang/Class;"⟩ ⟨"java/lang/Object", "getClass", "()Ljava/lang/Class;"⟩, Cond.instanceMethod ⟨"java/lang/Object", "getClass", "()Ljava/lang/Class;"⟩, Cond.native ⟨"java/lang/Object", "getClass", "()Ljava/lang/Class;"⟩, Cond.methodLink RJ7 300 yJ7_copyOf_6403c, Cond.static yJ7_copyOf_6403c, Cond.code yJ7_copyOf_6403c cJ7_copyOf_6403c 4 (some (.array (.object "java/lang/Object")))]
def wsX5_nearest_r5 : List Cond := [Cond.classLink RJ7 110 "[Ljava/lang/Object;", Cond.classLink RJ7 2 "java/lang/Object", Cond.methodLink RJ7 304 Lib.Math.min.name, Cond.static Lib.Math.min.name, Cond.code Lib.Math.min.name Lib.Math.min.code 2 (some .int), Cond.methodLink RJ7 150 arraycopyName, Cond.native arraycopyName, Cond.static arraycopyName, Cond.initialized "java/lang/System", Cond.methodLink RX5 130 yX5_isNearest, Cond.instanceMethod yX5_isNearest, Cond.selects RX5 yX5_isNearest yX5_isNearest, Cond.code yX5_isNearest cX5_isNearest 5 (some .boolean), Cond.methodLink RX5 58 yX3_named, Cond.instanceMethod yX3_named, Cond.selects RX3 yX3_named yX3_named, Cond.initialized RX3, Cond.code yX3_named cX3_named 3 (some (.object "ChooseTreeModel$Met")), Cond.fieldLink RX3 16 "ChooseTreeModel$Cls" "methods" "Ljava/util/ArrayList;", Cond.classLink RX3 48 "ChooseTreeModel$Met", Cond.fieldLink RX3 50 "ChooseTreeModel$Met" "name" "I", Cond.methodLink RX3 40 yJx4a65c_size_8abf5, Cond.methodLink RX3 44 yJx4a65c_get_915e3, Cond.methodLink RX5 81 yX5_lies]
def wsX5_nearest_r6 : List Cond := [Cond.instanceMethod yX5_lies, Cond.selects RX5 yX5_lies yX5_lies, Cond.code yX5_lies cX5_lies 3 (some .boolean), Cond.methodLink RX5 72 yX5_leadsTo, Cond.instanceMethod yX5_leadsTo, Cond.selects RX5 yX5_leadsTo yX5_leadsTo, Cond.code yX5_leadsTo cX5_leadsTo 4 (some .boolean), Cond.fieldLink RX5 76 "ChooseTreeModel$Cls" "number" "I"]
def wsX5_nearest : List Cond := .code yX5_nearest cX5_nearest 7 (some .int) :: ((wsX5_nearest_r1 ++ (wsX5_nearest_r2 ++ (wsX5_nearest_r3 ++ (wsX5_nearest_r4 ++ (wsX5_nearest_r5 ++ wsX5_nearest_r6))))) ++ wsX40 ++ wsX50 ++ wsJx4a65c0 ++ wsX30)
def wsX5_single_r1 : List Cond := [Cond.classLink RX5 19 "ChooseTreeModel$Cls", Cond.fieldLink RX5 134 "ChooseTreeModel$Met" "isAbstract" "Z", Cond.fieldLink RX5 65 "ChooseTreeModel$Met" "number" "I", Cond.methodLink RX5 97 yX5_facesOf, Cond.instanceMethod yX5_facesOf, Cond.selects RX5 yX5_facesOf yX5_facesOf, Cond.initialized RX5, Cond.code yX5_facesOf cX5_facesOf 2 (some (.object "java/util/ArrayList")), Cond.fieldLink RX5 84 "ChooseTreeModel$Cls" "put" "I", Cond.fieldLink RX5 51 "ChooseTreeModel$Cls" "faces" "Ljava/util/ArrayList;", Cond.fieldLink RX5 87 "ChooseTreeModel$Cls" "all" "Ljava/util/ArrayList;", Cond.fieldLink RX5 69 "ChooseTreeModel" "mark" "I", Cond.methodLink RX5 28 yJx4a65c_size_8abf5, Cond.instanceMethod yJx4a65c_size_8abf5, Cond.selects RJx4a65c yJx4a65c_size_8abf5 yJx4a65c_size_8abf5, Cond.initialized RJx4a65c, Cond.code yJx4a65c_size_8abf5 cJx4a65c_size_8abf5 1 (some .int), Cond.fieldLink RJx4a65c 48 "java/util/ArrayList" "size" "I", Cond.methodLink RX5 90 yJx4a65c_clear_da8c8, Cond.instanceMethod yJx4a65c_clear_da8c8, Cond.selects RJx4a65c yJx4a65c_clear_da8c8 yJx4a65c_clear_da8c8, Cond.code yJx4a65c_clear_da8c8 cJx4a65c_clear_da8c8 4 none, Cond.fieldLink RJx4a65c 63 "java/util/ArrayList" "modCount" "I", Cond.sameField "java/util/ArrayList" "java/util/AbstractList" "modCount" "I"]
def wsX5_single_r2 : List Cond := [Cond.fieldLink RJx4a65c 9 "java/util/ArrayList" "elementData" "[Ljava/lang/Object;", Cond.methodLink RX5 93 yX5_gather, Cond.instanceMethod yX5_gather, Cond.selects RX5 yX5_gather yX5_gather, Cond.code yX5_gather cX5_gather 5 none, Cond.fieldLink RX5 75 "ChooseTreeModel$Cls" "mark" "I", Cond.fieldLink RX5 77 "ChooseTreeModel$Cls" "parent" "LChooseTreeModel$Cls;", Cond.methodLink RX5 32 yJx4a65c_get_915e3, Cond.instanceMethod yJx4a65c_get_915e3, Cond.selects RJx4a65c yJx4a65c_get_915e3 yJx4a65c_get_915e3, Cond.code yJx4a65c_get_915e3 cJx4a65c_get_915e3 2 (some (.object "java/lang/Object")), Cond.methodLink RJx4a65c 118 yJ15_checkIndex_7cf53, Cond.static yJ15_checkIndex_7cf53, Cond.initialized RJ15, Cond.code yJ15_checkIndex_7cf53 cJ15_checkIndex_7cf53 2 (some .int), Cond.methodLink RJ15 105 yJ3_checkIndex_8e157, Cond.static yJ3_checkIndex_8e157, Cond.initialized RJ3, Cond.code yJ3_checkIndex_8e157 cJ3_checkIndex_8e157 3 (some .int), Cond.methodLink RJx4a65c 123 yJx4a65c_elementData_915e3, Cond.instanceMethod yJx4a65c_elementData_915e3, Cond.selects RJx4a65c yJx4a65c_elementData_915e3 yJx4a65c_elementData_915e3, Cond.code yJx4a65c_elementData_915e3 cJx4a65c_elementData_915e3 2 (some (.object "java/lang/Object")), Cond.methodLink RX5 24 yJx4a65c_add_9ea2d]
def wsX5_single_r3 : List Cond := [Cond.instanceMethod yJx4a65c_add_9ea2d, Cond.selects RJx4a65c yJx4a65c_add_9ea2d yJx4a65c_add_9ea2d, Cond.code yJx4a65c_add_9ea2d cJx4a65c_add_9ea2d 2 (some .boolean), Cond.methodLink RJx4a65c 131 yJx4a65c_add_72be8, Cond.instanceMethod yJx4a65c_add_72be8, Cond.selects RJx4a65c yJx4a65c_add_72be8 yJx4a65c_add_72be8, Cond.code yJx4a65c_add_72be8 cJx4a65c_add_72be8 4 none, Cond.methodLink RJx4a65c 129 yJx4a65c_grow_d5877, Cond.instanceMethod yJx4a65c_grow_d5877, Cond.selects RJx4a65c yJx4a65c_grow_d5877 yJx4a65c_grow_d5877, Cond.code yJx4a65c_grow_d5877 cJx4a65c_grow_d5877 1 (some (.array (.object "java/lang/Object"))), Cond.methodLink RJx4a65c 69 yJx4a65c_grow_92f84, Cond.instanceMethod yJx4a65c_grow_92f84, Cond.selects RJx4a65c yJx4a65c_grow_92f84 yJx4a65c_grow_92f84, Cond.code yJx4a65c_grow_92f84 cJx4a65c_grow_92f84 4 (some (.array (.object "java/lang/Object"))), Cond.fieldLink RJx4a65c 39 "java/util/ArrayList" "DEFAULTCAPACITY_EMPTY_ELEMENTDATA" "[Ljava/lang/Object;", Cond.methodLink RJx4a65c 79 Lib.Math.max.name, Cond.static Lib.Math.max.name, Cond.initialized "java/lang/Math", Cond.code Lib.Math.max.name Lib.Math.max.code 2 (some .int), Cond.classLink RJx4a65c 7 "java/lang/Object", Cond.methodLink RJx4a65c 73 yJ8_newLength_cabcc, Cond.static yJ8_newLength_cabcc, Cond.initialized RJ8]
def wsX5_single_r4 : List Cond := [Cond.code yJ8_newLength_cabcc cJ8_newLength_cabcc 4 (some .int), Cond.methodLink RJ8 194 Lib.Math.max.name, Cond.constant RJ8 200 (2147483639), Cond.methodLink RJ8 201 yJ8_hugeLength_7cf53, Cond.static yJ8_hugeLength_7cf53, Cond.code yJ8_hugeLength_7cf53 cJ8_hugeLength_7cf53 3 (some .int), Cond.methodLink RJx4a65c 66 yJ7_copyOf_1904c, Cond.static yJ7_copyOf_1904c, Cond.initialized RJ7, Cond.code yJ7_copyOf_1904c cJ7_copyOf_1904c 2 (some (.array (.object "java/lang/Object"))), Cond.methodLink RJ7 86 ⟨"java/lang/Object", "getClass", "()Ljava/lang/Class;"⟩, Cond.selects "[Ljava/lang/Object;" ⟨"java/lang/Object", "getClass", "()Ljava/lang/Class;"⟩ ⟨"java/lang/Object", "getClass", "()Ljava/lang/Class;"⟩, Cond.instanceMethod ⟨"java/lang/Object", "getClass", "()Ljava/lang/Class;"⟩, Cond.native ⟨"java/lang/Object", "getClass", "()Ljava/lang/Class;"⟩, Cond.methodLink RJ7 300 yJ7_copyOf_6403c, Cond.static yJ7_copyOf_6403c, Cond.code yJ7_copyOf_6403c cJ7_copyOf_6403c 4 (some (.array (.object "java/lang/Object"))), Cond.classLink RJ7 110 "[Ljava/lang/Object;", Cond.classLink RJ7 2 "java/lang/Object", Cond.methodLink RJ7 304 Lib.Math.min.name, Cond.static Lib.Math.min.name, Cond.code Lib.Math.min.name Lib.Math.min.code 2 (some .int), Cond.methodLink RJ7 150 arraycopyName, Cond.native arraycopyName]
def wsX5_single_r5 : List Cond := [Cond.static arraycopyName, Cond.initialized "java/lang/System", Cond.methodLink RX5 130 yX5_isNearest, Cond.instanceMethod yX5_isNearest, Cond.selects RX5 yX5_isNearest yX5_isNearest, Cond.code yX5_isNearest cX5_isNearest 5 (some .boolean), Cond.methodLink RX5 58 yX3_named, Cond.instanceMethod yX3_named, Cond.selects RX3 yX3_named yX3_named, Cond.initialized RX3, Cond.code yX3_named cX3_named 3 (some (.object "ChooseTreeModel$Met")), Cond.fieldLink RX3 16 "ChooseTreeModel$Cls" "methods" "Ljava/util/ArrayList;", Cond.classLink RX3 48 "ChooseTreeModel$Met", Cond.fieldLink RX3 50 "ChooseTreeModel$Met" "name" "I", Cond.methodLink RX3 40 yJx4a65c_size_8abf5, Cond.methodLink RX3 44 yJx4a65c_get_915e3, Cond.methodLink RX5 81 yX5_lies, Cond.instanceMethod yX5_lies, Cond.selects RX5 yX5_lies yX5_lies, Cond.code yX5_lies cX5_lies 3 (some .boolean), Cond.methodLink RX5 72 yX5_leadsTo, Cond.instanceMethod yX5_leadsTo, Cond.selects RX5 yX5_leadsTo yX5_leadsTo, Cond.code yX5_leadsTo cX5_leadsTo 4 (some .boolean)]
def wsX5_single_r6 : List Cond := [Cond.fieldLink RX5 76 "ChooseTreeModel$Cls" "number" "I"]
def wsX5_single : List Cond := .code yX5_single cX5_single 6 (some .int) :: ((wsX5_single_r1 ++ (wsX5_single_r2 ++ (wsX5_single_r3 ++ (wsX5_single_r4 ++ (wsX5_single_r5 ++ wsX5_single_r6))))) ++ wsX40 ++ wsX30 ++ wsX50 ++ wsJx4a65c0)
def wsX5_find_r1 : List Cond := [Cond.fieldLink RX5 65 "ChooseTreeModel$Met" "number" "I", Cond.fieldLink RX5 42 "ChooseTreeModel$Cls" "isFace" "Z", Cond.fieldLink RX5 77 "ChooseTreeModel$Cls" "parent" "LChooseTreeModel$Cls;", Cond.classLink RX5 19 "ChooseTreeModel$Cls", Cond.methodLink RX5 38 yX5_at, Cond.instanceMethod yX5_at, Cond.selects RX5 yX5_at yX5_at, Cond.initialized RX5, Cond.code yX5_at cX5_at 2 (some (.object "ChooseTreeModel$Cls")), Cond.fieldLink RX5 10 "ChooseTreeModel" "classes" "Ljava/util/ArrayList;", Cond.methodLink RX5 28 yJx4a65c_size_8abf5, Cond.instanceMethod yJx4a65c_size_8abf5, Cond.selects RJx4a65c yJx4a65c_size_8abf5 yJx4a65c_size_8abf5, Cond.initialized RJx4a65c, Cond.code yJx4a65c_size_8abf5 cJx4a65c_size_8abf5 1 (some .int), Cond.fieldLink RJx4a65c 48 "java/util/ArrayList" "size" "I", Cond.methodLink RX5 32 yJx4a65c_get_915e3, Cond.instanceMethod yJx4a65c_get_915e3, Cond.selects RJx4a65c yJx4a65c_get_915e3 yJx4a65c_get_915e3, Cond.code yJx4a65c_get_915e3 cJx4a65c_get_915e3 2 (some (.object "java/lang/Object")), Cond.methodLink RJx4a65c 118 yJ15_checkIndex_7cf53, Cond.static yJ15_checkIndex_7cf53, Cond.initialized RJ15, Cond.code yJ15_checkIndex_7cf53 cJ15_checkIndex_7cf53 2 (some .int)]
def wsX5_find_r2 : List Cond := [Cond.methodLink RJ15 105 yJ3_checkIndex_8e157, Cond.static yJ3_checkIndex_8e157, Cond.initialized RJ3, Cond.code yJ3_checkIndex_8e157 cJ3_checkIndex_8e157 3 (some .int), Cond.methodLink RJx4a65c 123 yJx4a65c_elementData_915e3, Cond.instanceMethod yJx4a65c_elementData_915e3, Cond.selects RJx4a65c yJx4a65c_elementData_915e3 yJx4a65c_elementData_915e3, Cond.code yJx4a65c_elementData_915e3 cJx4a65c_elementData_915e3 2 (some (.object "java/lang/Object")), Cond.fieldLink RJx4a65c 9 "java/util/ArrayList" "elementData" "[Ljava/lang/Object;", Cond.methodLink RX5 54 yX5_isName, Cond.static yX5_isName, Cond.code yX5_isName cX5_isName 1 (some .boolean), Cond.methodLink RX5 58 yX3_named, Cond.instanceMethod yX3_named, Cond.selects RX3 yX3_named yX3_named, Cond.initialized RX3, Cond.code yX3_named cX3_named 3 (some (.object "ChooseTreeModel$Met")), Cond.fieldLink RX3 16 "ChooseTreeModel$Cls" "methods" "Ljava/util/ArrayList;", Cond.classLink RX3 48 "ChooseTreeModel$Met", Cond.fieldLink RX3 50 "ChooseTreeModel$Met" "name" "I", Cond.methodLink RX3 40 yJx4a65c_size_8abf5, Cond.methodLink RX3 44 yJx4a65c_get_915e3, Cond.methodLink RX5 137 yX5_single, Cond.instanceMethod yX5_single]
def wsX5_find_r3 : List Cond := [Cond.selects RX5 yX5_single yX5_single, Cond.code yX5_single cX5_single 6 (some .int), Cond.fieldLink RX5 134 "ChooseTreeModel$Met" "isAbstract" "Z", Cond.methodLink RX5 97 yX5_facesOf, Cond.instanceMethod yX5_facesOf, Cond.selects RX5 yX5_facesOf yX5_facesOf, Cond.code yX5_facesOf cX5_facesOf 2 (some (.object "java/util/ArrayList")), Cond.fieldLink RX5 84 "ChooseTreeModel$Cls" "put" "I", Cond.fieldLink RX5 51 "ChooseTreeModel$Cls" "faces" "Ljava/util/ArrayList;", Cond.fieldLink RX5 87 "ChooseTreeModel$Cls" "all" "Ljava/util/ArrayList;", Cond.fieldLink RX5 69 "ChooseTreeModel" "mark" "I", Cond.methodLink RX5 90 yJx4a65c_clear_da8c8, Cond.instanceMethod yJx4a65c_clear_da8c8, Cond.selects RJx4a65c yJx4a65c_clear_da8c8 yJx4a65c_clear_da8c8, Cond.code yJx4a65c_clear_da8c8 cJx4a65c_clear_da8c8 4 none, Cond.fieldLink RJx4a65c 63 "java/util/ArrayList" "modCount" "I", Cond.sameField "java/util/ArrayList" "java/util/AbstractList" "modCount" "I", Cond.methodLink RX5 93 yX5_gather, Cond.instanceMethod yX5_gather, Cond.selects RX5 yX5_gather yX5_gather, Cond.code yX5_gather cX5_gather 5 none, Cond.fieldLink RX5 75 "ChooseTreeModel$Cls" "mark" "I", Cond.methodLink RX5 24 yJx4a65c_add_9ea2d, Cond.instanceMethod yJx4a65c_add_9ea2d]
def wsX5_find_r4 : List Cond := [Cond.selects RJx4a65c yJx4a65c_add_9ea2d yJx4a65c_add_9ea2d, Cond.code yJx4a65c_add_9ea2d cJx4a65c_add_9ea2d 2 (some .boolean), Cond.methodLink RJx4a65c 131 yJx4a65c_add_72be8, Cond.instanceMethod yJx4a65c_add_72be8, Cond.selects RJx4a65c yJx4a65c_add_72be8 yJx4a65c_add_72be8, Cond.code yJx4a65c_add_72be8 cJx4a65c_add_72be8 4 none, Cond.methodLink RJx4a65c 129 yJx4a65c_grow_d5877, Cond.instanceMethod yJx4a65c_grow_d5877, Cond.selects RJx4a65c yJx4a65c_grow_d5877 yJx4a65c_grow_d5877, Cond.code yJx4a65c_grow_d5877 cJx4a65c_grow_d5877 1 (some (.array (.object "java/lang/Object"))), Cond.methodLink RJx4a65c 69 yJx4a65c_grow_92f84, Cond.instanceMethod yJx4a65c_grow_92f84, Cond.selects RJx4a65c yJx4a65c_grow_92f84 yJx4a65c_grow_92f84, Cond.code yJx4a65c_grow_92f84 cJx4a65c_grow_92f84 4 (some (.array (.object "java/lang/Object"))), Cond.fieldLink RJx4a65c 39 "java/util/ArrayList" "DEFAULTCAPACITY_EMPTY_ELEMENTDATA" "[Ljava/lang/Object;", Cond.methodLink RJx4a65c 79 Lib.Math.max.name, Cond.static Lib.Math.max.name, Cond.initialized "java/lang/Math", Cond.code Lib.Math.max.name Lib.Math.max.code 2 (some .int), Cond.classLink RJx4a65c 7 "java/lang/Object", Cond.methodLink RJx4a65c 73 yJ8_newLength_cabcc, Cond.static yJ8_newLength_cabcc, Cond.initialized RJ8, Cond.code yJ8_newLength_cabcc cJ8_newLength_cabcc 4 (some .int)]
def wsX5_find_r5 : List Cond := [Cond.methodLink RJ8 194 Lib.Math.max.name, Cond.constant RJ8 200 (2147483639), Cond.methodLink RJ8 201 yJ8_hugeLength_7cf53, Cond.static yJ8_hugeLength_7cf53, Cond.code yJ8_hugeLength_7cf53 cJ8_hugeLength_7cf53 3 (some .int), Cond.methodLink RJx4a65c 66 yJ7_copyOf_1904c, Cond.static yJ7_copyOf_1904c, Cond.initialized RJ7, Cond.code yJ7_copyOf_1904c cJ7_copyOf_1904c 2 (some (.array (.object "java/lang/Object"))), Cond.methodLink RJ7 86 ⟨"java/lang/Object", "getClass", "()Ljava/lang/Class;"⟩, Cond.selects "[Ljava/lang/Object;" ⟨"java/lang/Object", "getClass", "()Ljava/lang/Class;"⟩ ⟨"java/lang/Object", "getClass", "()Ljava/lang/Class;"⟩, Cond.instanceMethod ⟨"java/lang/Object", "getClass", "()Ljava/lang/Class;"⟩, Cond.native ⟨"java/lang/Object", "getClass", "()Ljava/lang/Class;"⟩, Cond.methodLink RJ7 300 yJ7_copyOf_6403c, Cond.static yJ7_copyOf_6403c, Cond.code yJ7_copyOf_6403c cJ7_copyOf_6403c 4 (some (.array (.object "java/lang/Object"))), Cond.classLink RJ7 110 "[Ljava/lang/Object;", Cond.classLink RJ7 2 "java/lang/Object", Cond.methodLink RJ7 304 Lib.Math.min.name, Cond.static Lib.Math.min.name, Cond.code Lib.Math.min.name Lib.Math.min.code 2 (some .int), Cond.methodLink RJ7 150 arraycopyName, Cond.native arraycopyName, Cond.static arraycopyName]
def wsX5_find_r6 : List Cond := [Cond.initialized "java/lang/System", Cond.methodLink RX5 130 yX5_isNearest, Cond.instanceMethod yX5_isNearest, Cond.selects RX5 yX5_isNearest yX5_isNearest, Cond.code yX5_isNearest cX5_isNearest 5 (some .boolean), Cond.methodLink RX5 81 yX5_lies, Cond.instanceMethod yX5_lies, Cond.selects RX5 yX5_lies yX5_lies, Cond.code yX5_lies cX5_lies 3 (some .boolean), Cond.methodLink RX5 72 yX5_leadsTo, Cond.instanceMethod yX5_leadsTo, Cond.selects RX5 yX5_leadsTo yX5_leadsTo, Cond.code yX5_leadsTo cX5_leadsTo 4 (some .boolean), Cond.fieldLink RX5 76 "ChooseTreeModel$Cls" "number" "I"]
def wsX5_find : List Cond := .code yX5_find cX5_find 7 (some .int) :: ((wsX5_find_r1 ++ (wsX5_find_r2 ++ (wsX5_find_r3 ++ (wsX5_find_r4 ++ (wsX5_find_r5 ++ wsX5_find_r6))))) ++ wsX40 ++ wsX30 ++ wsX50 ++ wsJx4a65c0)
def wsX5_choose_r1 : List Cond := [Cond.fieldLink RX5 42 "ChooseTreeModel$Cls" "isFace" "Z", Cond.fieldLink RX5 101 "ChooseTreeModel$Met" "isStatic" "Z", Cond.fieldLink RX5 107 "ChooseTreeModel$Met" "owner" "LChooseTreeModel$Cls;", Cond.fieldLink RX5 104 "ChooseTreeModel$Met" "sight" "I", Cond.fieldLink RX5 110 "ChooseTreeModel$Met" "name" "I", Cond.fieldLink RX5 134 "ChooseTreeModel$Met" "isAbstract" "Z", Cond.fieldLink RX5 65 "ChooseTreeModel$Met" "number" "I", Cond.fieldLink RX5 77 "ChooseTreeModel$Cls" "parent" "LChooseTreeModel$Cls;", Cond.methodLink RX5 38 yX5_at, Cond.instanceMethod yX5_at, Cond.selects RX5 yX5_at yX5_at, Cond.initialized RX5, Cond.code yX5_at cX5_at 2 (some (.object "ChooseTreeModel$Cls")), Cond.fieldLink RX5 10 "ChooseTreeModel" "classes" "Ljava/util/ArrayList;", Cond.classLink RX5 19 "ChooseTreeModel$Cls", Cond.methodLink RX5 28 yJx4a65c_size_8abf5, Cond.instanceMethod yJx4a65c_size_8abf5, Cond.selects RJx4a65c yJx4a65c_size_8abf5 yJx4a65c_size_8abf5, Cond.initialized RJx4a65c, Cond.code yJx4a65c_size_8abf5 cJx4a65c_size_8abf5 1 (some .int), Cond.fieldLink RJx4a65c 48 "java/util/ArrayList" "size" "I", Cond.methodLink RX5 32 yJx4a65c_get_915e3, Cond.instanceMethod yJx4a65c_get_915e3, Cond.selects RJx4a65c yJx4a65c_get_915e3 yJx4a65c_get_915e3]
def wsX5_choose_r2 : List Cond := [Cond.code yJx4a65c_get_915e3 cJx4a65c_get_915e3 2 (some (.object "java/lang/Object")), Cond.methodLink RJx4a65c 118 yJ15_checkIndex_7cf53, Cond.static yJ15_checkIndex_7cf53, Cond.initialized RJ15, Cond.code yJ15_checkIndex_7cf53 cJ15_checkIndex_7cf53 2 (some .int), Cond.methodLink RJ15 105 yJ3_checkIndex_8e157, Cond.static yJ3_checkIndex_8e157, Cond.initialized RJ3, Cond.code yJ3_checkIndex_8e157 cJ3_checkIndex_8e157 3 (some .int), Cond.methodLink RJx4a65c 123 yJx4a65c_elementData_915e3, Cond.instanceMethod yJx4a65c_elementData_915e3, Cond.selects RJx4a65c yJx4a65c_elementData_915e3 yJx4a65c_elementData_915e3, Cond.code yJx4a65c_elementData_915e3 cJx4a65c_elementData_915e3 2 (some (.object "java/lang/Object")), Cond.fieldLink RJx4a65c 9 "java/util/ArrayList" "elementData" "[Ljava/lang/Object;", Cond.methodLink RX5 120 yX5_met, Cond.instanceMethod yX5_met, Cond.selects RX5 yX5_met yX5_met, Cond.code yX5_met cX5_met 2 (some (.object "ChooseTreeModel$Met")), Cond.fieldLink RX5 16 "ChooseTreeModel" "methods" "Ljava/util/ArrayList;", Cond.classLink RX5 36 "ChooseTreeModel$Met", Cond.methodLink RX5 81 yX5_lies, Cond.instanceMethod yX5_lies, Cond.selects RX5 yX5_lies yX5_lies, Cond.code yX5_lies cX5_lies 3 (some .boolean)]
def wsX5_choose_r3 : List Cond := [Cond.fieldLink RX5 69 "ChooseTreeModel" "mark" "I", Cond.methodLink RX5 72 yX5_leadsTo, Cond.instanceMethod yX5_leadsTo, Cond.selects RX5 yX5_leadsTo yX5_leadsTo, Cond.code yX5_leadsTo cX5_leadsTo 4 (some .boolean), Cond.fieldLink RX5 75 "ChooseTreeModel$Cls" "mark" "I", Cond.fieldLink RX5 76 "ChooseTreeModel$Cls" "number" "I", Cond.fieldLink RX5 51 "ChooseTreeModel$Cls" "faces" "Ljava/util/ArrayList;", Cond.methodLink RX5 58 yX3_named, Cond.instanceMethod yX3_named, Cond.selects RX3 yX3_named yX3_named, Cond.initialized RX3, Cond.code yX3_named cX3_named 3 (some (.object "ChooseTreeModel$Met")), Cond.fieldLink RX3 16 "ChooseTreeModel$Cls" "methods" "Ljava/util/ArrayList;", Cond.classLink RX3 48 "ChooseTreeModel$Met", Cond.fieldLink RX3 50 "ChooseTreeModel$Met" "name" "I", Cond.methodLink RX3 40 yJx4a65c_size_8abf5, Cond.methodLink RX3 44 yJx4a65c_get_915e3, Cond.methodLink RX5 123 yX5_goesOver, Cond.static yX5_goesOver, Cond.code yX5_goesOver cX5_goesOver 5 (some .boolean), Cond.fieldLink RX5 117 "ChooseTreeModel$Cls" "pack" "I", Cond.methodLink RX5 113 yX5_isFree, Cond.static yX5_isFree]
def wsX5_choose_r4 : List Cond := [Cond.code yX5_isFree cX5_isFree 1 (some .boolean), Cond.methodLink RX5 137 yX5_single, Cond.instanceMethod yX5_single, Cond.selects RX5 yX5_single yX5_single, Cond.code yX5_single cX5_single 6 (some .int), Cond.methodLink RX5 97 yX5_facesOf, Cond.instanceMethod yX5_facesOf, Cond.selects RX5 yX5_facesOf yX5_facesOf, Cond.code yX5_facesOf cX5_facesOf 2 (some (.object "java/util/ArrayList")), Cond.fieldLink RX5 84 "ChooseTreeModel$Cls" "put" "I", Cond.fieldLink RX5 87 "ChooseTreeModel$Cls" "all" "Ljava/util/ArrayList;", Cond.methodLink RX5 90 yJx4a65c_clear_da8c8, Cond.instanceMethod yJx4a65c_clear_da8c8, Cond.selects RJx4a65c yJx4a65c_clear_da8c8 yJx4a65c_clear_da8c8, Cond.code yJx4a65c_clear_da8c8 cJx4a65c_clear_da8c8 4 none, Cond.fieldLink RJx4a65c 63 "java/util/ArrayList" "modCount" "I", Cond.sameField "java/util/ArrayList" "java/util/AbstractList" "modCount" "I", Cond.methodLink RX5 93 yX5_gather, Cond.instanceMethod yX5_gather, Cond.selects RX5 yX5_gather yX5_gather, Cond.code yX5_gather cX5_gather 5 none, Cond.methodLink RX5 24 yJx4a65c_add_9ea2d, Cond.instanceMethod yJx4a65c_add_9ea2d, Cond.selects RJx4a65c yJx4a65c_add_9ea2d yJx4a65c_add_9ea2d]
def wsX5_choose_r5 : List Cond := [Cond.code yJx4a65c_add_9ea2d cJx4a65c_add_9ea2d 2 (some .boolean), Cond.methodLink RJx4a65c 131 yJx4a65c_add_72be8, Cond.instanceMethod yJx4a65c_add_72be8, Cond.selects RJx4a65c yJx4a65c_add_72be8 yJx4a65c_add_72be8, Cond.code yJx4a65c_add_72be8 cJx4a65c_add_72be8 4 none, Cond.methodLink RJx4a65c 129 yJx4a65c_grow_d5877, Cond.instanceMethod yJx4a65c_grow_d5877, Cond.selects RJx4a65c yJx4a65c_grow_d5877 yJx4a65c_grow_d5877, Cond.code yJx4a65c_grow_d5877 cJx4a65c_grow_d5877 1 (some (.array (.object "java/lang/Object"))), Cond.methodLink RJx4a65c 69 yJx4a65c_grow_92f84, Cond.instanceMethod yJx4a65c_grow_92f84, Cond.selects RJx4a65c yJx4a65c_grow_92f84 yJx4a65c_grow_92f84, Cond.code yJx4a65c_grow_92f84 cJx4a65c_grow_92f84 4 (some (.array (.object "java/lang/Object"))), Cond.fieldLink RJx4a65c 39 "java/util/ArrayList" "DEFAULTCAPACITY_EMPTY_ELEMENTDATA" "[Ljava/lang/Object;", Cond.methodLink RJx4a65c 79 Lib.Math.max.name, Cond.static Lib.Math.max.name, Cond.initialized "java/lang/Math", Cond.code Lib.Math.max.name Lib.Math.max.code 2 (some .int), Cond.classLink RJx4a65c 7 "java/lang/Object", Cond.methodLink RJx4a65c 73 yJ8_newLength_cabcc, Cond.static yJ8_newLength_cabcc, Cond.initialized RJ8, Cond.code yJ8_newLength_cabcc cJ8_newLength_cabcc 4 (some .int), Cond.methodLink RJ8 194 Lib.Math.max.name]
def wsX5_choose_r6 : List Cond := [Cond.constant RJ8 200 (2147483639), Cond.methodLink RJ8 201 yJ8_hugeLength_7cf53, Cond.static yJ8_hugeLength_7cf53, Cond.code yJ8_hugeLength_7cf53 cJ8_hugeLength_7cf53 3 (some .int), Cond.methodLink RJx4a65c 66 yJ7_copyOf_1904c, Cond.static yJ7_copyOf_1904c, Cond.initialized RJ7, Cond.code yJ7_copyOf_1904c cJ7_copyOf_1904c 2 (some (.array (.object "java/lang/Object"))), Cond.methodLink RJ7 86 ⟨"java/lang/Object", "getClass", "()Ljava/lang/Class;"⟩, Cond.selects "[Ljava/lang/Object;" ⟨"java/lang/Object", "getClass", "()Ljava/lang/Class;"⟩ ⟨"java/lang/Object", "getClass", "()Ljava/lang/Class;"⟩, Cond.instanceMethod ⟨"java/lang/Object", "getClass", "()Ljava/lang/Class;"⟩, Cond.native ⟨"java/lang/Object", "getClass", "()Ljava/lang/Class;"⟩, Cond.methodLink RJ7 300 yJ7_copyOf_6403c, Cond.static yJ7_copyOf_6403c, Cond.code yJ7_copyOf_6403c cJ7_copyOf_6403c 4 (some (.array (.object "java/lang/Object"))), Cond.classLink RJ7 110 "[Ljava/lang/Object;", Cond.classLink RJ7 2 "java/lang/Object", Cond.methodLink RJ7 304 Lib.Math.min.name, Cond.static Lib.Math.min.name, Cond.code Lib.Math.min.name Lib.Math.min.code 2 (some .int), Cond.methodLink RJ7 150 arraycopyName, Cond.native arraycopyName, Cond.static arraycopyName, Cond.initialized "java/lang/System"]
def wsX5_choose_r7 : List Cond := [Cond.methodLink RX5 130 yX5_isNearest, Cond.instanceMethod yX5_isNearest, Cond.selects RX5 yX5_isNearest yX5_isNearest, Cond.code yX5_isNearest cX5_isNearest 5 (some .boolean)]
def wsX5_choose : List Cond := .code yX5_choose cX5_choose 7 (some .int) :: ((wsX5_choose_r1 ++ (wsX5_choose_r2 ++ (wsX5_choose_r3 ++ (wsX5_choose_r4 ++ (wsX5_choose_r5 ++ (wsX5_choose_r6 ++ wsX5_choose_r7)))))) ++ wsX30 ++ wsX40 ++ wsX50 ++ wsJx4a65c0)
def wsX5_special_r1 : List Cond := [Cond.fieldLink RX5 42 "ChooseTreeModel$Cls" "isFace" "Z", Cond.fieldLink RX5 101 "ChooseTreeModel$Met" "isStatic" "Z", Cond.fieldLink RX5 104 "ChooseTreeModel$Met" "sight" "I", Cond.fieldLink RX5 77 "ChooseTreeModel$Cls" "parent" "LChooseTreeModel$Cls;", Cond.fieldLink RX5 134 "ChooseTreeModel$Met" "isAbstract" "Z", Cond.fieldLink RX5 65 "ChooseTreeModel$Met" "number" "I", Cond.methodLink RX5 38 yX5_at, Cond.instanceMethod yX5_at, Cond.selects RX5 yX5_at yX5_at, Cond.initialized RX5, Cond.code yX5_at cX5_at 2 (some (.object "ChooseTreeModel$Cls")), Cond.fieldLink RX5 10 "ChooseTreeModel" "classes" "Ljava/util/ArrayList;", Cond.classLink RX5 19 "ChooseTreeModel$Cls", Cond.methodLink RX5 28 yJx4a65c_size_8abf5, Cond.instanceMethod yJx4a65c_size_8abf5, Cond.selects RJx4a65c yJx4a65c_size_8abf5 yJx4a65c_size_8abf5, Cond.initialized RJx4a65c, Cond.code yJx4a65c_size_8abf5 cJx4a65c_size_8abf5 1 (some .int), Cond.fieldLink RJx4a65c 48 "java/util/ArrayList" "size" "I", Cond.methodLink RX5 32 yJx4a65c_get_915e3, Cond.instanceMethod yJx4a65c_get_915e3, Cond.selects RJx4a65c yJx4a65c_get_915e3 yJx4a65c_get_915e3, Cond.code yJx4a65c_get_915e3 cJx4a65c_get_915e3 2 (some (.object "java/lang/Object")), Cond.methodLink RJx4a65c 118 yJ15_checkIndex_7cf53]
def wsX5_special_r2 : List Cond := [Cond.static yJ15_checkIndex_7cf53, Cond.initialized RJ15, Cond.code yJ15_checkIndex_7cf53 cJ15_checkIndex_7cf53 2 (some .int), Cond.methodLink RJ15 105 yJ3_checkIndex_8e157, Cond.static yJ3_checkIndex_8e157, Cond.initialized RJ3, Cond.code yJ3_checkIndex_8e157 cJ3_checkIndex_8e157 3 (some .int), Cond.methodLink RJx4a65c 123 yJx4a65c_elementData_915e3, Cond.instanceMethod yJx4a65c_elementData_915e3, Cond.selects RJx4a65c yJx4a65c_elementData_915e3 yJx4a65c_elementData_915e3, Cond.code yJx4a65c_elementData_915e3 cJx4a65c_elementData_915e3 2 (some (.object "java/lang/Object")), Cond.fieldLink RJx4a65c 9 "java/util/ArrayList" "elementData" "[Ljava/lang/Object;", Cond.methodLink RX5 54 yX5_isName, Cond.static yX5_isName, Cond.code yX5_isName cX5_isName 1 (some .boolean), Cond.methodLink RX5 141 yX5_find, Cond.instanceMethod yX5_find, Cond.selects RX5 yX5_find yX5_find, Cond.code yX5_find cX5_find 7 (some .int), Cond.methodLink RX5 58 yX3_named, Cond.instanceMethod yX3_named, Cond.selects RX3 yX3_named yX3_named, Cond.initialized RX3, Cond.code yX3_named cX3_named 3 (some (.object "ChooseTreeModel$Met"))]
def wsX5_special_r3 : List Cond := [Cond.fieldLink RX3 16 "ChooseTreeModel$Cls" "methods" "Ljava/util/ArrayList;", Cond.classLink RX3 48 "ChooseTreeModel$Met", Cond.fieldLink RX3 50 "ChooseTreeModel$Met" "name" "I", Cond.methodLink RX3 40 yJx4a65c_size_8abf5, Cond.methodLink RX3 44 yJx4a65c_get_915e3, Cond.methodLink RX5 137 yX5_single, Cond.instanceMethod yX5_single, Cond.selects RX5 yX5_single yX5_single, Cond.code yX5_single cX5_single 6 (some .int), Cond.methodLink RX5 97 yX5_facesOf, Cond.instanceMethod yX5_facesOf, Cond.selects RX5 yX5_facesOf yX5_facesOf, Cond.code yX5_facesOf cX5_facesOf 2 (some (.object "java/util/ArrayList")), Cond.fieldLink RX5 84 "ChooseTreeModel$Cls" "put" "I", Cond.fieldLink RX5 51 "ChooseTreeModel$Cls" "faces" "Ljava/util/ArrayList;", Cond.fieldLink RX5 87 "ChooseTreeModel$Cls" "all" "Ljava/util/ArrayList;", Cond.fieldLink RX5 69 "ChooseTreeModel" "mark" "I", Cond.methodLink RX5 90 yJx4a65c_clear_da8c8, Cond.instanceMethod yJx4a65c_clear_da8c8, Cond.selects RJx4a65c yJx4a65c_clear_da8c8 yJx4a65c_clear_da8c8, Cond.code yJx4a65c_clear_da8c8 cJx4a65c_clear_da8c8 4 none, Cond.fieldLink RJx4a65c 63 "java/util/ArrayList" "modCount" "I", Cond.sameField "java/util/ArrayList" "java/util/AbstractList" "modCount" "I", Cond.methodLink RX5 93 yX5_gather]
def wsX5_special_r4 : List Cond := [Cond.instanceMethod yX5_gather, Cond.selects RX5 yX5_gather yX5_gather, Cond.code yX5_gather cX5_gather 5 none, Cond.fieldLink RX5 75 "ChooseTreeModel$Cls" "mark" "I", Cond.methodLink RX5 24 yJx4a65c_add_9ea2d, Cond.instanceMethod yJx4a65c_add_9ea2d, Cond.selects RJx4a65c yJx4a65c_add_9ea2d yJx4a65c_add_9ea2d, Cond.code yJx4a65c_add_9ea2d cJx4a65c_add_9ea2d 2 (some .boolean), Cond.methodLink RJx4a65c 131 yJx4a65c_add_72be8, Cond.instanceMethod yJx4a65c_add_72be8, Cond.selects RJx4a65c yJx4a65c_add_72be8 yJx4a65c_add_72be8, Cond.code yJx4a65c_add_72be8 cJx4a65c_add_72be8 4 none, Cond.methodLink RJx4a65c 129 yJx4a65c_grow_d5877, Cond.instanceMethod yJx4a65c_grow_d5877, Cond.selects RJx4a65c yJx4a65c_grow_d5877 yJx4a65c_grow_d5877, Cond.code yJx4a65c_grow_d5877 cJx4a65c_grow_d5877 1 (some (.array (.object "java/lang/Object"))), Cond.methodLink RJx4a65c 69 yJx4a65c_grow_92f84, Cond.instanceMethod yJx4a65c_grow_92f84, Cond.selects RJx4a65c yJx4a65c_grow_92f84 yJx4a65c_grow_92f84, Cond.code yJx4a65c_grow_92f84 cJx4a65c_grow_92f84 4 (some (.array (.object "java/lang/Object"))), Cond.fieldLink RJx4a65c 39 "java/util/ArrayList" "DEFAULTCAPACITY_EMPTY_ELEMENTDATA" "[Ljava/lang/Object;", Cond.methodLink RJx4a65c 79 Lib.Math.max.name, Cond.static Lib.Math.max.name, Cond.initialized "java/lang/Math"]
def wsX5_special_r5 : List Cond := [Cond.code Lib.Math.max.name Lib.Math.max.code 2 (some .int), Cond.classLink RJx4a65c 7 "java/lang/Object", Cond.methodLink RJx4a65c 73 yJ8_newLength_cabcc, Cond.static yJ8_newLength_cabcc, Cond.initialized RJ8, Cond.code yJ8_newLength_cabcc cJ8_newLength_cabcc 4 (some .int), Cond.methodLink RJ8 194 Lib.Math.max.name, Cond.constant RJ8 200 (2147483639), Cond.methodLink RJ8 201 yJ8_hugeLength_7cf53, Cond.static yJ8_hugeLength_7cf53, Cond.code yJ8_hugeLength_7cf53 cJ8_hugeLength_7cf53 3 (some .int), Cond.methodLink RJx4a65c 66 yJ7_copyOf_1904c, Cond.static yJ7_copyOf_1904c, Cond.initialized RJ7, Cond.code yJ7_copyOf_1904c cJ7_copyOf_1904c 2 (some (.array (.object "java/lang/Object"))), Cond.methodLink RJ7 86 ⟨"java/lang/Object", "getClass", "()Ljava/lang/Class;"⟩, Cond.selects "[Ljava/lang/Object;" ⟨"java/lang/Object", "getClass", "()Ljava/lang/Class;"⟩ ⟨"java/lang/Object", "getClass", "()Ljava/lang/Class;"⟩, Cond.instanceMethod ⟨"java/lang/Object", "getClass", "()Ljava/lang/Class;"⟩, Cond.native ⟨"java/lang/Object", "getClass", "()Ljava/lang/Class;"⟩, Cond.methodLink RJ7 300 yJ7_copyOf_6403c, Cond.static yJ7_copyOf_6403c, Cond.code yJ7_copyOf_6403c cJ7_copyOf_6403c 4 (some (.array (.object "java/lang/Object"))), Cond.classLink RJ7 110 "[Ljava/lang/Object;", Cond.classLink RJ7 2 "java/lang/Object"]
def wsX5_special_r6 : List Cond := [Cond.methodLink RJ7 304 Lib.Math.min.name, Cond.static Lib.Math.min.name, Cond.code Lib.Math.min.name Lib.Math.min.code 2 (some .int), Cond.methodLink RJ7 150 arraycopyName, Cond.native arraycopyName, Cond.static arraycopyName, Cond.initialized "java/lang/System", Cond.methodLink RX5 130 yX5_isNearest, Cond.instanceMethod yX5_isNearest, Cond.selects RX5 yX5_isNearest yX5_isNearest, Cond.code yX5_isNearest cX5_isNearest 5 (some .boolean), Cond.methodLink RX5 81 yX5_lies, Cond.instanceMethod yX5_lies, Cond.selects RX5 yX5_lies yX5_lies, Cond.code yX5_lies cX5_lies 3 (some .boolean), Cond.methodLink RX5 72 yX5_leadsTo, Cond.instanceMethod yX5_leadsTo, Cond.selects RX5 yX5_leadsTo yX5_leadsTo, Cond.code yX5_leadsTo cX5_leadsTo 4 (some .boolean), Cond.fieldLink RX5 76 "ChooseTreeModel$Cls" "number" "I", Cond.methodLink RX5 120 yX5_met, Cond.instanceMethod yX5_met, Cond.selects RX5 yX5_met yX5_met, Cond.code yX5_met cX5_met 2 (some (.object "ChooseTreeModel$Met"))]
def wsX5_special_r7 : List Cond := [Cond.fieldLink RX5 16 "ChooseTreeModel" "methods" "Ljava/util/ArrayList;", Cond.classLink RX5 36 "ChooseTreeModel$Met"]
def wsX5_special : List Cond := .code yX5_special cX5_special 10 (some .int) :: ((wsX5_special_r1 ++ (wsX5_special_r2 ++ (wsX5_special_r3 ++ (wsX5_special_r4 ++ (wsX5_special_r5 ++ (wsX5_special_r6 ++ wsX5_special_r7)))))) ++ wsX30 ++ wsX40 ++ wsX50 ++ wsJx4a65c0)
def wsX5_kin_r1 : List Cond := [Cond.fieldLink RX5 16 "ChooseTreeModel" "methods" "Ljava/util/ArrayList;", Cond.classLink RX5 36 "ChooseTreeModel$Met", Cond.fieldLink RX5 110 "ChooseTreeModel$Met" "name" "I", Cond.fieldLink RX5 107 "ChooseTreeModel$Met" "owner" "LChooseTreeModel$Cls;", Cond.methodLink RX5 120 yX5_met, Cond.instanceMethod yX5_met, Cond.selects RX5 yX5_met yX5_met, Cond.initialized RX5, Cond.code yX5_met cX5_met 2 (some (.object "ChooseTreeModel$Met")), Cond.methodLink RX5 28 yJx4a65c_size_8abf5, Cond.instanceMethod yJx4a65c_size_8abf5, Cond.selects RJx4a65c yJx4a65c_size_8abf5 yJx4a65c_size_8abf5, Cond.initialized RJx4a65c, Cond.code yJx4a65c_size_8abf5 cJx4a65c_size_8abf5 1 (some .int), Cond.fieldLink RJx4a65c 48 "java/util/ArrayList" "size" "I", Cond.methodLink RX5 32 yJx4a65c_get_915e3, Cond.instanceMethod yJx4a65c_get_915e3, Cond.selects RJx4a65c yJx4a65c_get_915e3 yJx4a65c_get_915e3, Cond.code yJx4a65c_get_915e3 cJx4a65c_get_915e3 2 (some (.object "java/lang/Object")), Cond.methodLink RJx4a65c 118 yJ15_checkIndex_7cf53, Cond.static yJ15_checkIndex_7cf53, Cond.initialized RJ15, Cond.code yJ15_checkIndex_7cf53 cJ15_checkIndex_7cf53 2 (some .int), Cond.methodLink RJ15 105 yJ3_checkIndex_8e157]
def wsX5_kin_r2 : List Cond := [Cond.static yJ3_checkIndex_8e157, Cond.initialized RJ3, Cond.code yJ3_checkIndex_8e157 cJ3_checkIndex_8e157 3 (some .int), Cond.methodLink RJx4a65c 123 yJx4a65c_elementData_915e3, Cond.instanceMethod yJx4a65c_elementData_915e3, Cond.selects RJx4a65c yJx4a65c_elementData_915e3 yJx4a65c_elementData_915e3, Cond.code yJx4a65c_elementData_915e3 cJx4a65c_elementData_915e3 2 (some (.object "java/lang/Object")), Cond.fieldLink RJx4a65c 9 "java/util/ArrayList" "elementData" "[Ljava/lang/Object;", Cond.methodLink RX5 81 yX5_lies, Cond.instanceMethod yX5_lies, Cond.selects RX5 yX5_lies yX5_lies, Cond.code yX5_lies cX5_lies 3 (some .boolean), Cond.fieldLink RX5 69 "ChooseTreeModel" "mark" "I", Cond.methodLink RX5 72 yX5_leadsTo, Cond.instanceMethod yX5_leadsTo, Cond.selects RX5 yX5_leadsTo yX5_leadsTo, Cond.code yX5_leadsTo cX5_leadsTo 4 (some .boolean), Cond.fieldLink RX5 75 "ChooseTreeModel$Cls" "mark" "I", Cond.fieldLink RX5 76 "ChooseTreeModel$Cls" "number" "I", Cond.fieldLink RX5 77 "ChooseTreeModel$Cls" "parent" "LChooseTreeModel$Cls;", Cond.fieldLink RX5 51 "ChooseTreeModel$Cls" "faces" "Ljava/util/ArrayList;", Cond.classLink RX5 19 "ChooseTreeModel$Cls", Cond.methodLink RX5 123 yX5_goesOver, Cond.static yX5_goesOver]
def wsX5_kin_r3 : List Cond := [Cond.code yX5_goesOver cX5_goesOver 5 (some .boolean), Cond.fieldLink RX5 104 "ChooseTreeModel$Met" "sight" "I", Cond.fieldLink RX5 117 "ChooseTreeModel$Cls" "pack" "I", Cond.methodLink RX5 113 yX5_isFree, Cond.static yX5_isFree, Cond.code yX5_isFree cX5_isFree 1 (some .boolean), Cond.fieldLink RX5 101 "ChooseTreeModel$Met" "isStatic" "Z", Cond.methodLink RX5 58 yX3_named, Cond.instanceMethod yX3_named, Cond.selects RX3 yX3_named yX3_named, Cond.initialized RX3, Cond.code yX3_named cX3_named 3 (some (.object "ChooseTreeModel$Met")), Cond.fieldLink RX3 16 "ChooseTreeModel$Cls" "methods" "Ljava/util/ArrayList;", Cond.classLink RX3 48 "ChooseTreeModel$Met", Cond.fieldLink RX3 50 "ChooseTreeModel$Met" "name" "I", Cond.methodLink RX3 40 yJx4a65c_size_8abf5, Cond.methodLink RX3 44 yJx4a65c_get_915e3]
def wsX5_kin : List Cond := .code yX5_kin cX5_kin 6 (some .int) :: ((wsX5_kin_r1 ++ (wsX5_kin_r2 ++ wsX5_kin_r3)) ++ wsX50 ++ wsX40 ++ wsJx4a65c0 ++ wsX30)
def wsJ9_max_7cf53 : List Cond := .code yJ9_max_7cf53 cJ9_max_7cf53 2 (some .int) :: ([])
def wsJ9_min_7cf53 : List Cond := .code yJ9_min_7cf53 cJ9_min_7cf53 2 (some .int) :: ([])
def wsL_law_r1 : List Cond := [Cond.classLink RL 7 RX2, Cond.instantiable RX2 2, Cond.initialized RX2, Cond.classLink RL 10 RX5, Cond.instantiable RX5 3, Cond.initialized RX5, Cond.methodLink RL 9 yX2_init, Cond.instanceMethod yX2_init, Cond.code yX2_init cX2_init 1 none, Cond.methodLink RX2 1 objectInit, Cond.instanceMethod objectInit, Cond.code objectInit ⟨#[0xb1]⟩ 1 none, Cond.classLink RX2 7 RX0, Cond.instantiable RX0 10, Cond.initialized RX0, Cond.fieldLink RX2 10 "ChooseTree" "classes" "LChooseTree$Classes;", Cond.classLink RX2 16 RX1, Cond.instantiable RX1 7, Cond.initialized RX1, Cond.fieldLink RX2 19 "ChooseTree" "methods" "LChooseTree$Methods;", Cond.instanceMethod yX0_init, Cond.code yX0_init cX0_init 1 none, Cond.methodLink RX0 3 objectInit, Cond.fieldLink RX0 9 "ChooseTree$Classes" "count" "I"]
def wsL_law_r2 : List Cond := [Cond.arrayClass .int, Cond.fieldLink RX0 15 "ChooseTree$Classes" "parent" "[I", Cond.fieldLink RX0 19 "ChooseTree$Classes" "pack" "[I", Cond.arrayClass .boolean, Cond.fieldLink RX0 22 "ChooseTree$Classes" "face" "[Z", Cond.arrayClass .long, Cond.fieldLink RX0 26 "ChooseTree$Classes" "above" "[J", Cond.fieldLink RX0 30 "ChooseTree$Classes" "faceAmount" "[I", Cond.fieldLink RX0 33 "ChooseTree$Classes" "faceStart" "[I", Cond.fieldLink RX0 36 "ChooseTree$Classes" "faceList" "[I", Cond.fieldLink RX0 39 "ChooseTree$Classes" "ownFaces" "J", Cond.fieldLink RX0 43 "ChooseTree$Classes" "ownPart" "I", Cond.instanceMethod yX1_init, Cond.code yX1_init cX1_init 1 none, Cond.methodLink RX1 3 objectInit, Cond.fieldLink RX1 9 "ChooseTree$Methods" "count" "I", Cond.fieldLink RX1 15 "ChooseTree$Methods" "owner" "[I", Cond.fieldLink RX1 19 "ChooseTree$Methods" "name" "[I", Cond.fieldLink RX1 22 "ChooseTree$Methods" "first" "[I", Cond.fieldLink RX1 25 "ChooseTree$Methods" "amount" "[I", Cond.fieldLink RX1 28 "ChooseTree$Methods" "sight" "[I", Cond.fieldLink RX1 31 "ChooseTree$Methods" "kind" "[I", Cond.methodLink RL 12 yX5_init, Cond.instanceMethod yX5_init]
def wsL_law_r3 : List Cond := [Cond.code yX5_init cX5_init 1 none, Cond.methodLink RX5 1 objectInit, Cond.classLink RX5 7 RJx4a65c, Cond.instantiable RJx4a65c 3, Cond.initialized RJx4a65c, Cond.fieldLink RX5 10 "ChooseTreeModel" "classes" "Ljava/util/ArrayList;", Cond.fieldLink RX5 16 "ChooseTreeModel" "methods" "Ljava/util/ArrayList;", Cond.classLink RX5 19 RX3, Cond.instantiable RX3 9, Cond.initialized RX3, Cond.methodLink RX5 9 yJx4a65c_init_da8c8, Cond.instanceMethod yJx4a65c_init_da8c8, Cond.code yJx4a65c_init_da8c8 cJx4a65c_init_da8c8 1 none, Cond.fieldLink RJx4a65c 39 "java/util/ArrayList" "DEFAULTCAPACITY_EMPTY_ELEMENTDATA" "[Ljava/lang/Object;", Cond.fieldLink RJx4a65c 9 "java/util/ArrayList" "elementData" "[Ljava/lang/Object;", Cond.methodLink RJx4a65c 1 yJxc12de_init_da8c8, Cond.instanceMethod yJxc12de_init_da8c8, Cond.initialized RJxc12de, Cond.code yJxc12de_init_da8c8 cJxc12de_init_da8c8 1 none, Cond.fieldLink RJxc12de 7 "java/util/AbstractList" "modCount" "I", Cond.methodLink RJxc12de 1 yJxa1e45_init_da8c8, Cond.instanceMethod yJxa1e45_init_da8c8, Cond.initialized RJxa1e45, Cond.code yJxa1e45_init_da8c8 cJxa1e45_init_da8c8 1 none]
def wsL_law_r4 : List Cond := [Cond.methodLink RJxa1e45 1 objectInit, Cond.methodLink RX5 21 yX3_init, Cond.instanceMethod yX3_init, Cond.code yX3_init cX3_init 5 none, Cond.methodLink RX3 1 objectInit, Cond.classLink RX3 7 RJx4a65c, Cond.fieldLink RX3 10 "ChooseTreeModel$Cls" "faces" "Ljava/util/ArrayList;", Cond.fieldLink RX3 16 "ChooseTreeModel$Cls" "methods" "Ljava/util/ArrayList;", Cond.fieldLink RX3 19 "ChooseTreeModel$Cls" "all" "Ljava/util/ArrayList;", Cond.fieldLink RX3 22 "ChooseTreeModel$Cls" "put" "I", Cond.fieldLink RX3 26 "ChooseTreeModel$Cls" "number" "I", Cond.fieldLink RX3 29 "ChooseTreeModel$Cls" "parent" "LChooseTreeModel$Cls;", Cond.fieldLink RX3 33 "ChooseTreeModel$Cls" "pack" "I", Cond.fieldLink RX3 36 "ChooseTreeModel$Cls" "isFace" "Z", Cond.methodLink RX3 9 yJx4a65c_init_da8c8, Cond.methodLink RX5 24 yJx4a65c_add_9ea2d, Cond.instanceMethod yJx4a65c_add_9ea2d, Cond.selects RJx4a65c yJx4a65c_add_9ea2d yJx4a65c_add_9ea2d, Cond.code yJx4a65c_add_9ea2d cJx4a65c_add_9ea2d 2 (some .boolean), Cond.fieldLink RJx4a65c 63 "java/util/ArrayList" "modCount" "I", Cond.sameField "java/util/ArrayList" "java/util/AbstractList" "modCount" "I", Cond.fieldLink RJx4a65c 48 "java/util/ArrayList" "size" "I", Cond.methodLink RJx4a65c 131 yJx4a65c_add_72be8, Cond.instanceMethod yJx4a65c_add_72be8]
def wsL_law_r5 : List Cond := [Cond.selects RJx4a65c yJx4a65c_add_72be8 yJx4a65c_add_72be8, Cond.code yJx4a65c_add_72be8 cJx4a65c_add_72be8 4 none, Cond.methodLink RJx4a65c 129 yJx4a65c_grow_d5877, Cond.instanceMethod yJx4a65c_grow_d5877, Cond.selects RJx4a65c yJx4a65c_grow_d5877 yJx4a65c_grow_d5877, Cond.code yJx4a65c_grow_d5877 cJx4a65c_grow_d5877 1 (some (.array (.object "java/lang/Object"))), Cond.methodLink RJx4a65c 69 yJx4a65c_grow_92f84, Cond.instanceMethod yJx4a65c_grow_92f84, Cond.selects RJx4a65c yJx4a65c_grow_92f84 yJx4a65c_grow_92f84, Cond.code yJx4a65c_grow_92f84 cJx4a65c_grow_92f84 4 (some (.array (.object "java/lang/Object"))), Cond.methodLink RJx4a65c 79 Lib.Math.max.name, Cond.static Lib.Math.max.name, Cond.initialized "java/lang/Math", Cond.code Lib.Math.max.name Lib.Math.max.code 2 (some .int), Cond.classLink RJx4a65c 7 "java/lang/Object", Cond.methodLink RJx4a65c 73 yJ8_newLength_cabcc, Cond.static yJ8_newLength_cabcc, Cond.initialized RJ8, Cond.code yJ8_newLength_cabcc cJ8_newLength_cabcc 4 (some .int), Cond.methodLink RJ8 194 Lib.Math.max.name, Cond.constant RJ8 200 (2147483639), Cond.methodLink RJ8 201 yJ8_hugeLength_7cf53, Cond.static yJ8_hugeLength_7cf53, Cond.code yJ8_hugeLength_7cf53 cJ8_hugeLength_7cf53 3 (some .int)]
def wsL_law_r6 : List Cond := [Cond.methodLink RJx4a65c 66 yJ7_copyOf_1904c, Cond.static yJ7_copyOf_1904c, Cond.initialized RJ7, Cond.code yJ7_copyOf_1904c cJ7_copyOf_1904c 2 (some (.array (.object "java/lang/Object"))), Cond.methodLink RJ7 86 ⟨"java/lang/Object", "getClass", "()Ljava/lang/Class;"⟩, Cond.selects "[Ljava/lang/Object;" ⟨"java/lang/Object", "getClass", "()Ljava/lang/Class;"⟩ ⟨"java/lang/Object", "getClass", "()Ljava/lang/Class;"⟩, Cond.instanceMethod ⟨"java/lang/Object", "getClass", "()Ljava/lang/Class;"⟩, Cond.native ⟨"java/lang/Object", "getClass", "()Ljava/lang/Class;"⟩, Cond.methodLink RJ7 300 yJ7_copyOf_6403c, Cond.static yJ7_copyOf_6403c, Cond.code yJ7_copyOf_6403c cJ7_copyOf_6403c 4 (some (.array (.object "java/lang/Object"))), Cond.classLink RJ7 110 "[Ljava/lang/Object;", Cond.classLink RJ7 2 "java/lang/Object", Cond.methodLink RJ7 304 Lib.Math.min.name, Cond.static Lib.Math.min.name, Cond.code Lib.Math.min.name Lib.Math.min.code 2 (some .int), Cond.methodLink RJ7 150 arraycopyName, Cond.native arraycopyName, Cond.static arraycopyName, Cond.initialized "java/lang/System", Cond.methodLink RL 13 yX2_add, Cond.instanceMethod yX2_add, Cond.selects RX2 yX2_add yX2_add, Cond.code yX2_add cX2_add 5 (some .int)]
def wsL_law_r7 : List Cond := [Cond.fieldLink RX2 27 "ChooseTree$Classes" "count" "I", Cond.methodLink RX2 23 yX0_isPlain, Cond.instanceMethod yX0_isPlain, Cond.selects RX0 yX0_isPlain yX0_isPlain, Cond.code yX0_isPlain cX0_isPlain 2 (some .boolean), Cond.methodLink RX0 46 yX0_exists, Cond.instanceMethod yX0_exists, Cond.selects RX0 yX0_exists yX0_exists, Cond.code yX0_exists cX0_exists 2 (some .boolean), Cond.methodLink RX2 31 yX0_append, Cond.instanceMethod yX0_append, Cond.selects RX0 yX0_append yX0_append, Cond.code yX0_append cX0_append 5 (some .int), Cond.methodLink RX0 58 yX0_listFacesOf, Cond.instanceMethod yX0_listFacesOf, Cond.selects RX0 yX0_listFacesOf yX0_listFacesOf, Cond.code yX0_listFacesOf cX0_listFacesOf 5 none, Cond.methodLink RX0 71 yX0_faceAt, Cond.instanceMethod yX0_faceAt, Cond.selects RX0 yX0_faceAt yX0_faceAt, Cond.code yX0_faceAt cX0_faceAt 3 (some .int), Cond.methodLink RX0 68 yX0_listFace, Cond.instanceMethod yX0_listFace, Cond.selects RX0 yX0_listFace yX0_listFace]
def wsL_law_r8 : List Cond := [Cond.code yX0_listFace cX0_listFace 4 none, Cond.methodLink RL 17 yX5_add, Cond.instanceMethod yX5_add, Cond.selects RX5 yX5_add yX5_add, Cond.code yX5_add cX5_add 5 (some .int), Cond.fieldLink RX5 42 "ChooseTreeModel$Cls" "isFace" "Z", Cond.methodLink RX5 38 yX5_at, Cond.instanceMethod yX5_at, Cond.selects RX5 yX5_at yX5_at, Cond.code yX5_at cX5_at 2 (some (.object "ChooseTreeModel$Cls")), Cond.classLink RX5 19 "ChooseTreeModel$Cls", Cond.methodLink RX5 28 yJx4a65c_size_8abf5, Cond.instanceMethod yJx4a65c_size_8abf5, Cond.selects RJx4a65c yJx4a65c_size_8abf5 yJx4a65c_size_8abf5, Cond.code yJx4a65c_size_8abf5 cJx4a65c_size_8abf5 1 (some .int), Cond.methodLink RX5 32 yJx4a65c_get_915e3, Cond.instanceMethod yJx4a65c_get_915e3, Cond.selects RJx4a65c yJx4a65c_get_915e3 yJx4a65c_get_915e3, Cond.code yJx4a65c_get_915e3 cJx4a65c_get_915e3 2 (some (.object "java/lang/Object")), Cond.methodLink RJx4a65c 118 yJ15_checkIndex_7cf53, Cond.static yJ15_checkIndex_7cf53, Cond.initialized RJ15, Cond.code yJ15_checkIndex_7cf53 cJ15_checkIndex_7cf53 2 (some .int), Cond.methodLink RJ15 105 yJ3_checkIndex_8e157]
def wsL_law_r9 : List Cond := [Cond.static yJ3_checkIndex_8e157, Cond.initialized RJ3, Cond.code yJ3_checkIndex_8e157 cJ3_checkIndex_8e157 3 (some .int), Cond.methodLink RJx4a65c 123 yJx4a65c_elementData_915e3, Cond.instanceMethod yJx4a65c_elementData_915e3, Cond.selects RJx4a65c yJx4a65c_elementData_915e3 yJx4a65c_elementData_915e3, Cond.code yJx4a65c_elementData_915e3 cJx4a65c_elementData_915e3 2 (some (.object "java/lang/Object")), Cond.methodLink RL 18 yX2_implement, Cond.instanceMethod yX2_implement, Cond.selects RX2 yX2_implement yX2_implement, Cond.code yX2_implement cX2_implement 3 (some .int), Cond.fieldLink RX2 44 "ChooseTree$Methods" "amount" "[I", Cond.methodLink RX2 35 yX0_isLatest, Cond.instanceMethod yX0_isLatest, Cond.selects RX0 yX0_isLatest yX0_isLatest, Cond.code yX0_isLatest cX0_isLatest 2 (some .boolean), Cond.methodLink RX2 38 yX0_isFace, Cond.instanceMethod yX0_isFace, Cond.selects RX0 yX0_isFace yX0_isFace, Cond.code yX0_isFace cX0_isFace 2 (some .boolean), Cond.methodLink RX2 41 yX0_latestImplements, Cond.instanceMethod yX0_latestImplements, Cond.selects RX0 yX0_latestImplements yX0_latestImplements, Cond.code yX0_latestImplements cX0_latestImplements 2 (some .boolean)]
def wsL_law_r10 : List Cond := [Cond.static yX2_holds, Cond.code yX2_holds cX2_holds 3 (some .boolean), Cond.methodLink RX2 48 yX0_ownAmount, Cond.instanceMethod yX0_ownAmount, Cond.selects RX0 yX0_ownAmount yX0_ownAmount, Cond.code yX0_ownAmount cX0_ownAmount 1 (some .int), Cond.methodLink RX0 62 yJ13_bitCount_95d88, Cond.static yJ13_bitCount_95d88, Cond.initialized RJ13, Cond.code yJ13_bitCount_95d88 cJ13_bitCount_95d88 2 (some .int), Cond.constantLong RJ13 314 (6148914691236517205), Cond.constantLong RJ13 316 (3689348814741910323), Cond.constantLong RJ13 318 (1085102592571150095), Cond.methodLink RX2 52 yX0_giveFace, Cond.instanceMethod yX0_giveFace, Cond.selects RX0 yX0_giveFace yX0_giveFace, Cond.code yX0_giveFace cX0_giveFace 3 none, Cond.methodLink RL 22 yX5_implement, Cond.instanceMethod yX5_implement, Cond.selects RX5 yX5_implement yX5_implement, Cond.code yX5_implement cX5_implement 5 (some .int), Cond.fieldLink RX5 46 "ChooseTreeModel$Cls" "methods" "Ljava/util/ArrayList;", Cond.fieldLink RX5 51 "ChooseTreeModel$Cls" "faces" "Ljava/util/ArrayList;", Cond.methodLink RX5 47 yX5_hasFace]
def wsL_law_r11 : List Cond := [Cond.static yX5_hasFace, Cond.code yX5_hasFace cX5_hasFace 3 (some .boolean), Cond.methodLink RL 23 yX2_method, Cond.instanceMethod yX2_method, Cond.selects RX2 yX2_method yX2_method, Cond.code yX2_method cX2_method 5 (some .int), Cond.fieldLink RX2 56 "ChooseTree$Classes" "face" "[Z", Cond.fieldLink RX2 68 "ChooseTree$Methods" "count" "I", Cond.methodLink RX2 60 yX2_fits, Cond.static yX2_fits, Cond.code yX2_fits cX2_fits 3 (some .boolean), Cond.methodLink RX2 64 yX1_inClass, Cond.instanceMethod yX1_inClass, Cond.selects RX1 yX1_inClass yX1_inClass, Cond.code yX1_inClass cX1_inClass 5 (some .int), Cond.methodLink RX2 69 yX1_append, Cond.instanceMethod yX1_append, Cond.selects RX1 yX1_append yX1_append, Cond.code yX1_append cX1_append 6 (some .int), Cond.methodLink RL 27 yX5_method, Cond.instanceMethod yX5_method, Cond.selects RX5 yX5_method yX5_method, Cond.code yX5_method cX5_method 7 (some .int), Cond.classLink RX5 36 RX4]
def wsL_law_r12 : List Cond := [Cond.instantiable RX4 7, Cond.initialized RX4, Cond.fieldLink RX5 65 "ChooseTreeModel$Met" "number" "I", Cond.methodLink RX5 54 yX5_isName, Cond.static yX5_isName, Cond.code yX5_isName cX5_isName 1 (some .boolean), Cond.methodLink RX5 58 yX3_named, Cond.instanceMethod yX3_named, Cond.selects RX3 yX3_named yX3_named, Cond.code yX3_named cX3_named 3 (some (.object "ChooseTreeModel$Met")), Cond.classLink RX3 48 "ChooseTreeModel$Met", Cond.fieldLink RX3 50 "ChooseTreeModel$Met" "name" "I", Cond.methodLink RX3 40 yJx4a65c_size_8abf5, Cond.methodLink RX3 44 yJx4a65c_get_915e3, Cond.methodLink RX5 62 yX4_init, Cond.instanceMethod yX4_init, Cond.code yX4_init cX4_init 6 none, Cond.methodLink RX4 1 objectInit, Cond.fieldLink RX4 7 "ChooseTreeModel$Met" "number" "I", Cond.fieldLink RX4 13 "ChooseTreeModel$Met" "owner" "LChooseTreeModel$Cls;", Cond.fieldLink RX4 17 "ChooseTreeModel$Met" "name" "I", Cond.fieldLink RX4 20 "ChooseTreeModel$Met" "sight" "I", Cond.fieldLink RX4 23 "ChooseTreeModel$Met" "isStatic" "Z", Cond.fieldLink RX4 27 "ChooseTreeModel$Met" "isFinal" "Z"]
def wsL_law_r13 : List Cond := [Cond.fieldLink RX4 30 "ChooseTreeModel$Met" "isAbstract" "Z", Cond.methodLink RL 28 yX2_isBelow, Cond.instanceMethod yX2_isBelow, Cond.selects RX2 yX2_isBelow yX2_isBelow, Cond.code yX2_isBelow cX2_isBelow 3 (some .boolean), Cond.methodLink RX2 72 yX0_exists, Cond.methodLink RX2 75 yX0_below, Cond.instanceMethod yX0_below, Cond.selects RX0 yX0_below yX0_below, Cond.code yX0_below cX0_below 3 (some .boolean), Cond.methodLink RL 32 yX5_isBelow, Cond.instanceMethod yX5_isBelow, Cond.selects RX5 yX5_isBelow yX5_isBelow, Cond.code yX5_isBelow cX5_isBelow 3 (some .boolean), Cond.methodLink RX5 81 yX5_lies, Cond.instanceMethod yX5_lies, Cond.selects RX5 yX5_lies yX5_lies, Cond.code yX5_lies cX5_lies 3 (some .boolean), Cond.fieldLink RX5 69 "ChooseTreeModel" "mark" "I", Cond.methodLink RX5 72 yX5_leadsTo, Cond.instanceMethod yX5_leadsTo, Cond.selects RX5 yX5_leadsTo yX5_leadsTo, Cond.code yX5_leadsTo cX5_leadsTo 4 (some .boolean), Cond.fieldLink RX5 75 "ChooseTreeModel$Cls" "mark" "I"]
def wsL_law_r14 : List Cond := [Cond.fieldLink RX5 76 "ChooseTreeModel$Cls" "number" "I", Cond.fieldLink RX5 77 "ChooseTreeModel$Cls" "parent" "LChooseTreeModel$Cls;", Cond.methodLink RL 33 yX2_face, Cond.instanceMethod yX2_face, Cond.selects RX2 yX2_face yX2_face, Cond.code yX2_face cX2_face 3 (some .int), Cond.fieldLink RX2 79 "ChooseTree$Classes" "faceAmount" "[I", Cond.methodLink RX2 82 yX0_faceAt, Cond.methodLink RL 36 yX5_face, Cond.instanceMethod yX5_face, Cond.selects RX5 yX5_face yX5_face, Cond.code yX5_face cX5_face 4 (some .int), Cond.methodLink RX5 97 yX5_facesOf, Cond.instanceMethod yX5_facesOf, Cond.selects RX5 yX5_facesOf yX5_facesOf, Cond.code yX5_facesOf cX5_facesOf 2 (some (.object "java/util/ArrayList")), Cond.fieldLink RX5 84 "ChooseTreeModel$Cls" "put" "I", Cond.fieldLink RX5 87 "ChooseTreeModel$Cls" "all" "Ljava/util/ArrayList;", Cond.methodLink RX5 90 yJx4a65c_clear_da8c8, Cond.instanceMethod yJx4a65c_clear_da8c8, Cond.selects RJx4a65c yJx4a65c_clear_da8c8 yJx4a65c_clear_da8c8, Cond.code yJx4a65c_clear_da8c8 cJx4a65c_clear_da8c8 4 none, Cond.methodLink RX5 93 yX5_gather, Cond.instanceMethod yX5_gather]
def wsL_law_r15 : List Cond := [Cond.selects RX5 yX5_gather yX5_gather, Cond.code yX5_gather cX5_gather 5 none, Cond.methodLink RL 37 yX2_overrides, Cond.instanceMethod yX2_overrides, Cond.selects RX2 yX2_overrides yX2_overrides, Cond.code yX2_overrides cX2_overrides 3 (some .boolean), Cond.methodLink RX2 85 yX1_exists, Cond.instanceMethod yX1_exists, Cond.selects RX1 yX1_exists yX1_exists, Cond.code yX1_exists cX1_exists 2 (some .boolean), Cond.methodLink RX2 86 yX2_replaces, Cond.instanceMethod yX2_replaces, Cond.selects RX2 yX2_replaces yX2_replaces, Cond.code yX2_replaces cX2_replaces 3 (some .boolean), Cond.fieldLink RX2 155 "ChooseTree$Classes" "pack" "[I", Cond.fieldLink RX2 115 "ChooseTree$Methods" "owner" "[I", Cond.methodLink RX2 149 yX2_couldReplace, Cond.instanceMethod yX2_couldReplace, Cond.selects RX2 yX2_couldReplace yX2_couldReplace, Cond.code yX2_couldReplace cX2_couldReplace 3 (some .boolean), Cond.fieldLink RX2 131 "ChooseTree$Methods" "name" "[I", Cond.methodLink RX2 161 yX1_isVirtual, Cond.instanceMethod yX1_isVirtual, Cond.selects RX1 yX1_isVirtual yX1_isVirtual]
def wsL_law_r16 : List Cond := [Cond.code yX1_isVirtual cX1_isVirtual 2 (some .boolean), Cond.methodLink RX1 34 yX1_isStatic, Cond.instanceMethod yX1_isStatic, Cond.selects RX1 yX1_isStatic yX1_isStatic, Cond.code yX1_isStatic cX1_isStatic 2 (some .boolean), Cond.methodLink RX1 38 yX1_isPrivate, Cond.instanceMethod yX1_isPrivate, Cond.selects RX1 yX1_isPrivate yX1_isPrivate, Cond.code yX1_isPrivate cX1_isPrivate 2 (some .boolean), Cond.methodLink RX2 152 yX1_isPublicOrProtected, Cond.instanceMethod yX1_isPublicOrProtected, Cond.selects RX1 yX1_isPublicOrProtected yX1_isPublicOrProtected, Cond.code yX1_isPublicOrProtected cX1_isPublicOrProtected 2 (some .boolean), Cond.methodLink RX2 158 yX2_replacesBetween, Cond.instanceMethod yX2_replacesBetween, Cond.selects RX2 yX2_replacesBetween yX2_replacesBetween, Cond.code yX2_replacesBetween cX2_replacesBetween 7 (some .boolean), Cond.methodLink RX2 164 yX0_inRow, Cond.instanceMethod yX0_inRow, Cond.selects RX0 yX0_inRow yX0_inRow, Cond.code yX0_inRow cX0_inRow 3 (some .boolean), Cond.methodLink RX0 54 yX0_below, Cond.methodLink RL 40 yX5_overrides, Cond.instanceMethod yX5_overrides]
def wsL_law_r17 : List Cond := [Cond.selects RX5 yX5_overrides yX5_overrides, Cond.code yX5_overrides cX5_overrides 3 (some .boolean), Cond.methodLink RX5 120 yX5_met, Cond.instanceMethod yX5_met, Cond.selects RX5 yX5_met yX5_met, Cond.code yX5_met cX5_met 2 (some (.object "ChooseTreeModel$Met")), Cond.classLink RX5 36 "ChooseTreeModel$Met", Cond.methodLink RX5 123 yX5_goesOver, Cond.static yX5_goesOver, Cond.code yX5_goesOver cX5_goesOver 5 (some .boolean), Cond.fieldLink RX5 107 "ChooseTreeModel$Met" "owner" "LChooseTreeModel$Cls;", Cond.fieldLink RX5 110 "ChooseTreeModel$Met" "name" "I", Cond.fieldLink RX5 104 "ChooseTreeModel$Met" "sight" "I", Cond.fieldLink RX5 117 "ChooseTreeModel$Cls" "pack" "I", Cond.methodLink RX5 113 yX5_isFree, Cond.static yX5_isFree, Cond.code yX5_isFree cX5_isFree 1 (some .boolean), Cond.fieldLink RX5 101 "ChooseTreeModel$Met" "isStatic" "Z", Cond.methodLink RL 41 yX2_broken, Cond.instanceMethod yX2_broken, Cond.selects RX2 yX2_broken yX2_broken, Cond.code yX2_broken cX2_broken 4 (some .int), Cond.fieldLink RX2 89 "ChooseTree$Methods" "first" "[I", Cond.methodLink RX2 92 yX2_replacesFinal]
def wsL_law_r18 : List Cond := [Cond.instanceMethod yX2_replacesFinal, Cond.selects RX2 yX2_replacesFinal yX2_replacesFinal, Cond.code yX2_replacesFinal cX2_replacesFinal 5 (some .boolean), Cond.methodLink RX2 167 yX1_isFinal, Cond.instanceMethod yX1_isFinal, Cond.selects RX1 yX1_isFinal yX1_isFinal, Cond.code yX1_isFinal cX1_isFinal 2 (some .boolean), Cond.methodLink RL 45 yX5_broken, Cond.instanceMethod yX5_broken, Cond.selects RX5 yX5_broken yX5_broken, Cond.code yX5_broken cX5_broken 7 (some .int), Cond.fieldLink RX5 127 "ChooseTreeModel$Met" "isFinal" "Z", Cond.methodLink RL 46 yX2_nearest, Cond.instanceMethod yX2_nearest, Cond.selects RX2 yX2_nearest yX2_nearest, Cond.code yX2_nearest cX2_nearest 9 (some .int), Cond.methodLink RX2 95 yX2_hiddenFaces, Cond.instanceMethod yX2_hiddenFaces, Cond.selects RX2 yX2_hiddenFaces yX2_hiddenFaces, Cond.code yX2_hiddenFaces cX2_hiddenFaces 7 (some .long), Cond.fieldLink RX2 170 "ChooseTree$Classes" "above" "[J", Cond.methodLink RX2 99 yX2_nearestAt, Cond.instanceMethod yX2_nearestAt, Cond.selects RX2 yX2_nearestAt yX2_nearestAt]
def wsL_law_r19 : List Cond := [Cond.code yX2_nearestAt cX2_nearestAt 7 (some .int), Cond.methodLink RX2 174 yX2_holds, Cond.methodLink RL 49 yX5_nearest, Cond.instanceMethod yX5_nearest, Cond.selects RX5 yX5_nearest yX5_nearest, Cond.code yX5_nearest cX5_nearest 7 (some .int), Cond.methodLink RX5 130 yX5_isNearest, Cond.instanceMethod yX5_isNearest, Cond.selects RX5 yX5_isNearest yX5_isNearest, Cond.code yX5_isNearest cX5_isNearest 5 (some .boolean), Cond.methodLink RL 50 yX2_find, Cond.instanceMethod yX2_find, Cond.selects RX2 yX2_find yX2_find, Cond.code yX2_find cX2_find 5 (some .int), Cond.methodLink RX2 103 yX2_firstInRow, Cond.instanceMethod yX2_firstInRow, Cond.selects RX2 yX2_firstInRow yX2_firstInRow, Cond.code yX2_firstInRow cX2_firstInRow 5 (some .int), Cond.methodLink RX2 106 yX2_onlyConcreteNearest, Cond.instanceMethod yX2_onlyConcreteNearest, Cond.selects RX2 yX2_onlyConcreteNearest yX2_onlyConcreteNearest, Cond.code yX2_onlyConcreteNearest cX2_onlyConcreteNearest 8 (some .int), Cond.methodLink RX2 178 yX1_isAbstract, Cond.instanceMethod yX1_isAbstract]
def wsL_law_r20 : List Cond := [Cond.selects RX1 yX1_isAbstract yX1_isAbstract, Cond.code yX1_isAbstract cX1_isAbstract 2 (some .boolean), Cond.methodLink RX2 109 yX2_firstInFaces, Cond.instanceMethod yX2_firstInFaces, Cond.selects RX2 yX2_firstInFaces yX2_firstInFaces, Cond.code yX2_firstInFaces cX2_firstInFaces 5 (some .int), Cond.methodLink RL 53 yX5_find, Cond.instanceMethod yX5_find, Cond.selects RX5 yX5_find yX5_find, Cond.code yX5_find cX5_find 7 (some .int), Cond.methodLink RX5 137 yX5_single, Cond.instanceMethod yX5_single, Cond.selects RX5 yX5_single yX5_single, Cond.code yX5_single cX5_single 6 (some .int), Cond.fieldLink RX5 134 "ChooseTreeModel$Met" "isAbstract" "Z", Cond.methodLink RL 54 yX2_choose, Cond.instanceMethod yX2_choose, Cond.selects RX2 yX2_choose yX2_choose, Cond.code yX2_choose cX2_choose 5 (some .int), Cond.methodLink RX2 112 yX1_isStatic, Cond.methodLink RX2 118 yX2_isBelow, Cond.methodLink RX2 121 yX1_isPrivate, Cond.methodLink RX2 124 yX2_firstReplacing, Cond.instanceMethod yX2_firstReplacing]
def wsL_law_r21 : List Cond := [Cond.selects RX2 yX2_firstReplacing yX2_firstReplacing, Cond.code yX2_firstReplacing cX2_firstReplacing 5 (some .int), Cond.methodLink RX2 127 yX2_unlessAbstract, Cond.instanceMethod yX2_unlessAbstract, Cond.selects RX2 yX2_unlessAbstract yX2_unlessAbstract, Cond.code yX2_unlessAbstract cX2_unlessAbstract 2 (some .int), Cond.methodLink RL 57 yX5_choose, Cond.instanceMethod yX5_choose, Cond.selects RX5 yX5_choose yX5_choose, Cond.code yX5_choose cX5_choose 7 (some .int), Cond.methodLink RL 58 yX2_special, Cond.instanceMethod yX2_special, Cond.selects RX2 yX2_special yX2_special, Cond.code yX2_special cX2_special 9 (some .int), Cond.fieldLink RX2 137 "ChooseTree$Classes" "parent" "[I", Cond.methodLink RX2 134 yX2_find, Cond.methodLink RX2 140 yX2_firstInstanceInRow, Cond.instanceMethod yX2_firstInstanceInRow, Cond.selects RX2 yX2_firstInstanceInRow yX2_firstInstanceInRow, Cond.code yX2_firstInstanceInRow cX2_firstInstanceInRow 5 (some .int), Cond.methodLink RL 61 yX5_special, Cond.instanceMethod yX5_special, Cond.selects RX5 yX5_special yX5_special, Cond.code yX5_special cX5_special 10 (some .int)]
def wsL_law_r22 : List Cond := [Cond.methodLink RX5 141 yX5_find, Cond.methodLink RL 62 yX2_kin, Cond.instanceMethod yX2_kin, Cond.selects RX2 yX2_kin yX2_kin, Cond.code yX2_kin cX2_kin 4 (some .int), Cond.methodLink RX2 143 yX2_replacesFromBelow, Cond.instanceMethod yX2_replacesFromBelow, Cond.selects RX2 yX2_replacesFromBelow yX2_replacesFromBelow, Cond.code yX2_replacesFromBelow cX2_replacesFromBelow 3 (some .boolean), Cond.methodLink RX2 146 yX2_replacesOfPlain, Cond.instanceMethod yX2_replacesOfPlain, Cond.selects RX2 yX2_replacesOfPlain yX2_replacesOfPlain, Cond.code yX2_replacesOfPlain cX2_replacesOfPlain 3 (some .boolean), Cond.methodLink RL 65 yX5_kin, Cond.instanceMethod yX5_kin, Cond.selects RX5 yX5_kin yX5_kin, Cond.code yX5_kin cX5_kin 6 (some .int)]
def wsL_law : List Cond := (wsL_law_r1 ++ (wsL_law_r2 ++ (wsL_law_r3 ++ (wsL_law_r4 ++ (wsL_law_r5 ++ (wsL_law_r6 ++ (wsL_law_r7 ++ (wsL_law_r8 ++ (wsL_law_r9 ++ (wsL_law_r10 ++ (wsL_law_r11 ++ (wsL_law_r12 ++ (wsL_law_r13 ++ (wsL_law_r14 ++ (wsL_law_r15 ++ (wsL_law_r16 ++ (wsL_law_r17 ++ (wsL_law_r18 ++ (wsL_law_r19 ++ (wsL_law_r20 ++ (wsL_law_r21 ++ wsL_law_r22))))))))))))))))))))) ++ wsX20 ++ wsX50 ++ wsX00 ++ wsX10 ++ wsJx4a65c0 ++ wsX30 ++ wsX40 ++ ([] : List Cond)
abbrev vwCl : List vw_C := [(RJx4a65c, TJx4a65c, 3), (RX0, TX0, 10), (RX1, TX1, 7), (RX2, TX2, 2), (RX3, TX3, 9), (RX4, TX4, 7), (RX5, TX5, 3)]
end
section
theorem dX0_init_0 : decode cX0_init 0 = .ok (.aload_n 0, 1) := by decide +kernel
theorem dX0_init_1 : decode cX0_init 1 = .ok (.invokespecial 3, 3) := by decide +kernel
theorem dX0_init_4 : decode cX0_init 4 = .ok (.aload_n 0, 1) := by decide +kernel
theorem dX0_init_5 : decode cX0_init 5 = .ok (.iconst 1, 1) := by decide +kernel
theorem dX0_init_6 : decode cX0_init 6 = .ok (.putfield 9, 3) := by decide +kernel
theorem dX0_init_9 : decode cX0_init 9 = .ok (.aload_n 0, 1) := by decide +kernel
theorem dX0_init_10 : decode cX0_init 10 = .ok (.bipush 60, 2) := by decide +kernel
theorem dX0_init_12 : decode cX0_init 12 = .ok (.newarray .int, 2) := by decide +kernel
theorem dX0_init_14 : decode cX0_init 14 = .ok (.putfield 15, 3) := by decide +kernel
theorem dX0_init_17 : decode cX0_init 17 = .ok (.aload_n 0, 1) := by decide +kernel
theorem dX0_init_18 : decode cX0_init 18 = .ok (.bipush 60, 2) := by decide +kernel
theorem dX0_init_20 : decode cX0_init 20 = .ok (.newarray .int, 2) := by decide +kernel
theorem dX0_init_22 : decode cX0_init 22 = .ok (.putfield 19, 3) := by decide +kernel
theorem dX0_init_25 : decode cX0_init 25 = .ok (.aload_n 0, 1) := by decide +kernel
theorem dX0_init_26 : decode cX0_init 26 = .ok (.bipush 60, 2) := by decide +kernel
theorem dX0_init_28 : decode cX0_init 28 = .ok (.newarray .boolean, 2) := by decide +kernel
theorem dX0_init_30 : decode cX0_init 30 = .ok (.putfield 22, 3) := by decide +kernel
theorem dX0_init_33 : decode cX0_init 33 = .ok (.aload_n 0, 1) := by decide +kernel
theorem dX0_init_34 : decode cX0_init 34 = .ok (.bipush 60, 2) := by decide +kernel
theorem dX0_init_36 : decode cX0_init 36 = .ok (.newarray .long, 2) := by decide +kernel
theorem dX0_init_38 : decode cX0_init 38 = .ok (.putfield 26, 3) := by decide +kernel
theorem dX0_init_41 : decode cX0_init 41 = .ok (.aload_n 0, 1) := by decide +kernel
theorem dX0_init_42 : decode cX0_init 42 = .ok (.bipush 60, 2) := by decide +kernel
theorem dX0_init_44 : decode cX0_init 44 = .ok (.newarray .int, 2) := by decide +kernel
theorem dX0_init_46 : decode cX0_init 46 = .ok (.putfield 30, 3) := by decide +kernel
theorem dX0_init_49 : decode cX0_init 49 = .ok (.aload_n 0, 1) := by decide +kernel
theorem dX0_init_50 : decode cX0_init 50 = .ok (.bipush 60, 2) := by decide +kernel
theorem dX0_init_52 : decode cX0_init 52 = .ok (.newarray .int, 2) := by decide +kernel
theorem dX0_init_54 : decode cX0_init 54 = .ok (.putfield 33, 3) := by decide +kernel
theorem dX0_init_57 : decode cX0_init 57 = .ok (.aload_n 0, 1) := by decide +kernel
theorem dX0_init_58 : decode cX0_init 58 = .ok (.sipush 1800, 3) := by decide +kernel
theorem dX0_init_61 : decode cX0_init 61 = .ok (.newarray .int, 2) := by decide +kernel
theorem dX0_init_63 : decode cX0_init 63 = .ok (.putfield 36, 3) := by decide +kernel
theorem dX0_init_66 : decode cX0_init 66 = .ok (.aload_n 0, 1) := by decide +kernel
theorem dX0_init_67 : decode cX0_init 67 = .ok (.lconst 0, 1) := by decide +kernel
theorem dX0_init_68 : decode cX0_init 68 = .ok (.putfield 39, 3) := by decide +kernel
theorem dX0_init_71 : decode cX0_init 71 = .ok (.aload_n 0, 1) := by decide +kernel
theorem dX0_init_72 : decode cX0_init 72 = .ok (.iconst 0, 1) := by decide +kernel
theorem dX0_init_73 : decode cX0_init 73 = .ok (.putfield 43, 3) := by decide +kernel
theorem dX0_init_76 : decode cX0_init 76 = .ok (.return_, 1) := by decide +kernel
theorem dX0_exists_0 : decode cX0_exists 0 = .ok (.iload_n 1, 1) := by decide +kernel
theorem dX0_exists_1 : decode cX0_exists 1 = .ok (.ifCond .lt 15, 3) := by decide +kernel
theorem dX0_exists_4 : decode cX0_exists 4 = .ok (.iload_n 1, 1) := by decide +kernel
theorem dX0_exists_5 : decode cX0_exists 5 = .ok (.aload_n 0, 1) := by decide +kernel
theorem dX0_exists_6 : decode cX0_exists 6 = .ok (.getfield 9, 3) := by decide +kernel
theorem dX0_exists_9 : decode cX0_exists 9 = .ok (.if_icmp .ge 7, 3) := by decide +kernel
theorem dX0_exists_12 : decode cX0_exists 12 = .ok (.iconst 1, 1) := by decide +kernel
theorem dX0_exists_13 : decode cX0_exists 13 = .ok (.goto 4, 3) := by decide +kernel
theorem dX0_exists_16 : decode cX0_exists 16 = .ok (.iconst 0, 1) := by decide +kernel
theorem dX0_exists_17 : decode cX0_exists 17 = .ok (.ireturn, 1) := by decide +kernel
set_option maxRecDepth 20000 in
theorem ggX0_isFace_X0_exists : GoodIn wsX0_isFace wsX0_exists := goodIn_r _ [6, 7, 8, 9, 10, 11, 12, 13, 14, 15, 16, 17] (by decide +kernel) (by decide +kernel)
set_option maxRecDepth 20000 in
theorem gX0_isFace_X0_exists : GoodIn wsX0_isFace (wsV RX0 46 RX0 yX0_exists wsX0_exists) := goodIn_app (goodIn_of _ (by decide +kernel)) ggX0_isFace_X0_exists
theorem dX0_isFace_0 : decode cX0_isFace 0 = .ok (.aload_n 0, 1) := by decide +kernel
theorem dX0_isFace_1 : decode cX0_isFace 1 = .ok (.iload_n 1, 1) := by decide +kernel
theorem dX0_isFace_2 : decode cX0_isFace 2 = .ok (.invokevirtual 46, 3) := by decide +kernel
theorem dX0_isFace_5 : decode cX0_isFace 5 = .ok (.ifCond .eq 16, 3) := by decide +kernel
theorem dX0_isFace_8 : decode cX0_isFace 8 = .ok (.aload_n 0, 1) := by decide +kernel
theorem dX0_isFace_9 : decode cX0_isFace 9 = .ok (.getfield 22, 3) := by decide +kernel
theorem dX0_isFace_12 : decode cX0_isFace 12 = .ok (.iload_n 1, 1) := by decide +kernel
theorem dX0_isFace_13 : decode cX0_isFace 13 = .ok (.baload, 1) := by decide +kernel
theorem dX0_isFace_14 : decode cX0_isFace 14 = .ok (.ifCond .eq 7, 3) := by decide +kernel
theorem dX0_isFace_17 : decode cX0_isFace 17 = .ok (.iconst 1, 1) := by decide +kernel
theorem dX0_isFace_18 : decode cX0_isFace 18 = .ok (.goto 4, 3) := by decide +kernel
theorem dX0_isFace_21 : decode cX0_isFace 21 = .ok (.iconst 0, 1) := by decide +kernel
theorem dX0_isFace_22 : decode cX0_isFace 22 = .ok (.ireturn, 1) := by decide +kernel
set_option maxRecDepth 20000 in
theorem ggX0_isPlain_X0_exists : GoodIn wsX0_isPlain wsX0_exists := goodIn_r _ [6, 7, 8, 9, 10, 11, 12, 13, 14, 15, 16, 17] (by decide +kernel) (by decide +kernel)
set_option maxRecDepth 20000 in
theorem gX0_isPlain_X0_exists : GoodIn wsX0_isPlain (wsV RX0 46 RX0 yX0_exists wsX0_exists) := goodIn_app (goodIn_of _ (by decide +kernel)) ggX0_isPlain_X0_exists
theorem dX0_isPlain_0 : decode cX0_isPlain 0 = .ok (.aload_n 0, 1) := by decide +kernel
theorem dX0_isPlain_1 : decode cX0_isPlain 1 = .ok (.iload_n 1, 1) := by decide +kernel
theorem dX0_isPlain_2 : decode cX0_isPlain 2 = .ok (.invokevirtual 46, 3) := by decide +kernel
theorem dX0_isPlain_5 : decode cX0_isPlain 5 = .ok (.ifCond .eq 16, 3) := by decide +kernel
theorem dX0_isPlain_8 : decode cX0_isPlain 8 = .ok (.aload_n 0, 1) := by decide +kernel
theorem dX0_isPlain_9 : decode cX0_isPlain 9 = .ok (.getfield 22, 3) := by decide +kernel
theorem dX0_isPlain_12 : decode cX0_isPlain 12 = .ok (.iload_n 1, 1) := by decide +kernel
theorem dX0_isPlain_13 : decode cX0_isPlain 13 = .ok (.baload, 1) := by decide +kernel
theorem dX0_isPlain_14 : decode cX0_isPlain 14 = .ok (.ifCond .ne 7, 3) := by decide +kernel
theorem dX0_isPlain_17 : decode cX0_isPlain 17 = .ok (.iconst 1, 1) := by decide +kernel
theorem dX0_isPlain_18 : decode cX0_isPlain 18 = .ok (.goto 4, 3) := by decide +kernel
theorem dX0_isPlain_21 : decode cX0_isPlain 21 = .ok (.iconst 0, 1) := by decide +kernel
theorem dX0_isPlain_22 : decode cX0_isPlain 22 = .ok (.ireturn, 1) := by decide +kernel
theorem dX0_isLatest_0 : decode cX0_isLatest 0 = .ok (.iload_n 1, 1) := by decide +kernel
theorem dX0_isLatest_1 : decode cX0_isLatest 1 = .ok (.aload_n 0, 1) := by decide +kernel
theorem dX0_isLatest_2 : decode cX0_isLatest 2 = .ok (.getfield 9, 3) := by decide +kernel
theorem dX0_isLatest_5 : decode cX0_isLatest 5 = .ok (.iconst 1, 1) := by decide +kernel
theorem dX0_isLatest_6 : decode cX0_isLatest 6 = .ok (.isub, 1) := by decide +kernel
theorem dX0_isLatest_7 : decode cX0_isLatest 7 = .ok (.if_icmp .ne 7, 3) := by decide +kernel
theorem dX0_isLatest_10 : decode cX0_isLatest 10 = .ok (.iconst 1, 1) := by decide +kernel
theorem dX0_isLatest_11 : decode cX0_isLatest 11 = .ok (.goto 4, 3) := by decide +kernel
theorem dX0_isLatest_14 : decode cX0_isLatest 14 = .ok (.iconst 0, 1) := by decide +kernel
theorem dX0_isLatest_15 : decode cX0_isLatest 15 = .ok (.ireturn, 1) := by decide +kernel
set_option maxRecDepth 20000 in
theorem ggX0_below_X2_holds : GoodIn wsX0_below wsX2_holds := goodIn_r _ [4] (by decide +kernel) (by decide +kernel)
set_option maxRecDepth 20000 in
theorem gX0_below_X2_holds_n50 : GoodIn wsX0_below (wsX2_holds) := ggX0_below_X2_holds
theorem dX0_below_0 : decode cX0_below 0 = .ok (.aload_n 0, 1) := by decide +kernel
theorem dX0_below_1 : decode cX0_below 1 = .ok (.getfield 26, 3) := by decide +kernel
theorem dX0_below_4 : decode cX0_below 4 = .ok (.iload_n 1, 1) := by decide +kernel
theorem dX0_below_5 : decode cX0_below 5 = .ok (.laload, 1) := by decide +kernel
theorem dX0_below_6 : decode cX0_below 6 = .ok (.iload_n 2, 1) := by decide +kernel
theorem dX0_below_7 : decode cX0_below 7 = .ok (.invokestatic 50, 3) := by decide +kernel
theorem dX0_below_10 : decode cX0_below 10 = .ok (.ireturn, 1) := by decide +kernel
set_option maxRecDepth 20000 in
theorem ggX0_inRow_X0_below : GoodIn wsX0_inRow wsX0_below := goodIn_r _ [6, 7, 8, 9, 10, 11, 12, 13, 14, 15, 16, 17, 18, 19, 20] (by decide +kernel) (by decide +kernel)
set_option maxRecDepth 20000 in
theorem gX0_inRow_X0_below : GoodIn wsX0_inRow (wsV RX0 54 RX0 yX0_below wsX0_below) := goodIn_app (goodIn_of _ (by decide +kernel)) ggX0_inRow_X0_below
theorem dX0_inRow_0 : decode cX0_inRow 0 = .ok (.iload_n 1, 1) := by decide +kernel
theorem dX0_inRow_1 : decode cX0_inRow 1 = .ok (.iload_n 2, 1) := by decide +kernel
theorem dX0_inRow_2 : decode cX0_inRow 2 = .ok (.if_icmp .eq 30, 3) := by decide +kernel
theorem dX0_inRow_5 : decode cX0_inRow 5 = .ok (.aload_n 0, 1) := by decide +kernel
theorem dX0_inRow_6 : decode cX0_inRow 6 = .ok (.getfield 22, 3) := by decide +kernel
theorem dX0_inRow_9 : decode cX0_inRow 9 = .ok (.iload_n 1, 1) := by decide +kernel
theorem dX0_inRow_10 : decode cX0_inRow 10 = .ok (.baload, 1) := by decide +kernel
theorem dX0_inRow_11 : decode cX0_inRow 11 = .ok (.ifCond .ne 25, 3) := by decide +kernel
theorem dX0_inRow_14 : decode cX0_inRow 14 = .ok (.aload_n 0, 1) := by decide +kernel
theorem dX0_inRow_15 : decode cX0_inRow 15 = .ok (.getfield 22, 3) := by decide +kernel
theorem dX0_inRow_18 : decode cX0_inRow 18 = .ok (.iload_n 2, 1) := by decide +kernel
theorem dX0_inRow_19 : decode cX0_inRow 19 = .ok (.baload, 1) := by decide +kernel
theorem dX0_inRow_20 : decode cX0_inRow 20 = .ok (.ifCond .ne 16, 3) := by decide +kernel
theorem dX0_inRow_23 : decode cX0_inRow 23 = .ok (.aload_n 0, 1) := by decide +kernel
theorem dX0_inRow_24 : decode cX0_inRow 24 = .ok (.iload_n 1, 1) := by decide +kernel
theorem dX0_inRow_25 : decode cX0_inRow 25 = .ok (.iload_n 2, 1) := by decide +kernel
theorem dX0_inRow_26 : decode cX0_inRow 26 = .ok (.invokevirtual 54, 3) := by decide +kernel
theorem dX0_inRow_29 : decode cX0_inRow 29 = .ok (.ifCond .eq 7, 3) := by decide +kernel
theorem dX0_inRow_32 : decode cX0_inRow 32 = .ok (.iconst 1, 1) := by decide +kernel
theorem dX0_inRow_33 : decode cX0_inRow 33 = .ok (.goto 4, 3) := by decide +kernel
theorem dX0_inRow_36 : decode cX0_inRow 36 = .ok (.iconst 0, 1) := by decide +kernel
theorem dX0_inRow_37 : decode cX0_inRow 37 = .ok (.ireturn, 1) := by decide +kernel
theorem dX0_faceAt_0 : decode cX0_faceAt 0 = .ok (.aload_n 0, 1) := by decide +kernel
theorem dX0_faceAt_1 : decode cX0_faceAt 1 = .ok (.getfield 36, 3) := by decide +kernel
theorem dX0_faceAt_4 : decode cX0_faceAt 4 = .ok (.aload_n 0, 1) := by decide +kernel
theorem dX0_faceAt_5 : decode cX0_faceAt 5 = .ok (.getfield 33, 3) := by decide +kernel
theorem dX0_faceAt_8 : decode cX0_faceAt 8 = .ok (.iload_n 1, 1) := by decide +kernel
theorem dX0_faceAt_9 : decode cX0_faceAt 9 = .ok (.iaload, 1) := by decide +kernel
theorem dX0_faceAt_10 : decode cX0_faceAt 10 = .ok (.iload_n 2, 1) := by decide +kernel
theorem dX0_faceAt_11 : decode cX0_faceAt 11 = .ok (.iadd, 1) := by decide +kernel
theorem dX0_faceAt_12 : decode cX0_faceAt 12 = .ok (.iaload, 1) := by decide +kernel
theorem dX0_faceAt_13 : decode cX0_faceAt 13 = .ok (.ireturn, 1) := by decide +kernel
set_option maxRecDepth 20000 in
theorem ggX0_append_X0_listFacesOf : GoodIn wsX0_append wsX0_listFacesOf := goodIn_r _ [14, 3, 15, 16, 17, 13, 18, 19, 2, 20, 21, 22, 23, 24, 25, 26, 27, 28, 29, 30, 31, 32, 33] (by decide +kernel) (by decide +kernel)
set_option maxRecDepth 20000 in
theorem gX0_append_X0_listFacesOf : GoodIn wsX0_append (wsV RX0 58 RX0 yX0_listFacesOf wsX0_listFacesOf) := goodIn_app (goodIn_of _ (by decide +kernel)) ggX0_append_X0_listFacesOf
theorem dX0_append_0 : decode cX0_append 0 = .ok (.aload_n 0, 1) := by decide +kernel
theorem dX0_append_1 : decode cX0_append 1 = .ok (.getfield 9, 3) := by decide +kernel
theorem dX0_append_4 : decode cX0_append 4 = .ok (.istore 4, 2) := by decide +kernel
theorem dX0_append_6 : decode cX0_append 6 = .ok (.aload_n 0, 1) := by decide +kernel
theorem dX0_append_7 : decode cX0_append 7 = .ok (.getfield 33, 3) := by decide +kernel
theorem dX0_append_10 : decode cX0_append 10 = .ok (.iload 4, 2) := by decide +kernel
theorem dX0_append_12 : decode cX0_append 12 = .ok (.aload_n 0, 1) := by decide +kernel
theorem dX0_append_13 : decode cX0_append 13 = .ok (.getfield 33, 3) := by decide +kernel
theorem dX0_append_16 : decode cX0_append 16 = .ok (.iload 4, 2) := by decide +kernel
theorem dX0_append_18 : decode cX0_append 18 = .ok (.iconst 1, 1) := by decide +kernel
theorem dX0_append_19 : decode cX0_append 19 = .ok (.isub, 1) := by decide +kernel
theorem dX0_append_20 : decode cX0_append 20 = .ok (.iaload, 1) := by decide +kernel
theorem dX0_append_21 : decode cX0_append 21 = .ok (.aload_n 0, 1) := by decide +kernel
theorem dX0_append_22 : decode cX0_append 22 = .ok (.getfield 30, 3) := by decide +kernel
theorem dX0_append_25 : decode cX0_append 25 = .ok (.iload 4, 2) := by decide +kernel
theorem dX0_append_27 : decode cX0_append 27 = .ok (.iconst 1, 1) := by decide +kernel
theorem dX0_append_28 : decode cX0_append 28 = .ok (.isub, 1) := by decide +kernel
theorem dX0_append_29 : decode cX0_append 29 = .ok (.iaload, 1) := by decide +kernel
theorem dX0_append_30 : decode cX0_append 30 = .ok (.iadd, 1) := by decide +kernel
theorem dX0_append_31 : decode cX0_append 31 = .ok (.iastore, 1) := by decide +kernel
theorem dX0_append_32 : decode cX0_append 32 = .ok (.aload_n 0, 1) := by decide +kernel
theorem dX0_append_33 : decode cX0_append 33 = .ok (.getfield 15, 3) := by decide +kernel
theorem dX0_append_36 : decode cX0_append 36 = .ok (.iload 4, 2) := by decide +kernel
theorem dX0_append_38 : decode cX0_append 38 = .ok (.iload_n 1, 1) := by decide +kernel
theorem dX0_append_39 : decode cX0_append 39 = .ok (.iastore, 1) := by decide +kernel
theorem dX0_append_40 : decode cX0_append 40 = .ok (.aload_n 0, 1) := by decide +kernel
theorem dX0_append_41 : decode cX0_append 41 = .ok (.getfield 19, 3) := by decide +kernel
theorem dX0_append_44 : decode cX0_append 44 = .ok (.iload 4, 2) := by decide +kernel
theorem dX0_append_46 : decode cX0_append 46 = .ok (.iload_n 2, 1) := by decide +kernel
theorem dX0_append_47 : decode cX0_append 47 = .ok (.iastore, 1) := by decide +kernel
theorem dX0_append_48 : decode cX0_append 48 = .ok (.aload_n 0, 1) := by decide +kernel
theorem dX0_append_49 : decode cX0_append 49 = .ok (.getfield 22, 3) := by decide +kernel
theorem dX0_append_52 : decode cX0_append 52 = .ok (.iload 4, 2) := by decide +kernel
theorem dX0_append_54 : decode cX0_append 54 = .ok (.iload_n 3, 1) := by decide +kernel
theorem dX0_append_55 : decode cX0_append 55 = .ok (.bastore, 1) := by decide +kernel
theorem dX0_append_56 : decode cX0_append 56 = .ok (.aload_n 0, 1) := by decide +kernel
theorem dX0_append_57 : decode cX0_append 57 = .ok (.getfield 26, 3) := by decide +kernel
theorem dX0_append_60 : decode cX0_append 60 = .ok (.iload 4, 2) := by decide +kernel
theorem dX0_append_62 : decode cX0_append 62 = .ok (.aload_n 0, 1) := by decide +kernel
theorem dX0_append_63 : decode cX0_append 63 = .ok (.getfield 26, 3) := by decide +kernel
theorem dX0_append_66 : decode cX0_append 66 = .ok (.iload_n 1, 1) := by decide +kernel
theorem dX0_append_67 : decode cX0_append 67 = .ok (.laload, 1) := by decide +kernel
theorem dX0_append_68 : decode cX0_append 68 = .ok (.lconst 1, 1) := by decide +kernel
theorem dX0_append_69 : decode cX0_append 69 = .ok (.iload_n 1, 1) := by decide +kernel
theorem dX0_append_70 : decode cX0_append 70 = .ok (.lshl, 1) := by decide +kernel
theorem dX0_append_71 : decode cX0_append 71 = .ok (.lor, 1) := by decide +kernel
theorem dX0_append_72 : decode cX0_append 72 = .ok (.lastore, 1) := by decide +kernel
theorem dX0_append_73 : decode cX0_append 73 = .ok (.aload_n 0, 1) := by decide +kernel
theorem dX0_append_74 : decode cX0_append 74 = .ok (.lconst 0, 1) := by decide +kernel
theorem dX0_append_75 : decode cX0_append 75 = .ok (.putfield 39, 3) := by decide +kernel
theorem dX0_append_78 : decode cX0_append 78 = .ok (.aload_n 0, 1) := by decide +kernel
theorem dX0_append_79 : decode cX0_append 79 = .ok (.iconst 0, 1) := by decide +kernel
theorem dX0_append_80 : decode cX0_append 80 = .ok (.putfield 43, 3) := by decide +kernel
theorem dX0_append_83 : decode cX0_append 83 = .ok (.aload_n 0, 1) := by decide +kernel
theorem dX0_append_84 : decode cX0_append 84 = .ok (.iload 4, 2) := by decide +kernel
theorem dX0_append_86 : decode cX0_append 86 = .ok (.iload_n 1, 1) := by decide +kernel
theorem dX0_append_87 : decode cX0_append 87 = .ok (.invokevirtual 58, 3) := by decide +kernel
theorem dX0_append_90 : decode cX0_append 90 = .ok (.aload_n 0, 1) := by decide +kernel
theorem dX0_append_91 : decode cX0_append 91 = .ok (.dup, 1) := by decide +kernel
theorem dX0_append_92 : decode cX0_append 92 = .ok (.getfield 9, 3) := by decide +kernel
theorem dX0_append_95 : decode cX0_append 95 = .ok (.iconst 1, 1) := by decide +kernel
theorem dX0_append_96 : decode cX0_append 96 = .ok (.iadd, 1) := by decide +kernel
theorem dX0_append_97 : decode cX0_append 97 = .ok (.putfield 9, 3) := by decide +kernel
theorem dX0_append_100 : decode cX0_append 100 = .ok (.iload 4, 2) := by decide +kernel
theorem dX0_append_102 : decode cX0_append 102 = .ok (.ireturn, 1) := by decide +kernel
set_option maxRecDepth 20000 in
theorem ggX0_latestImplements_X2_holds : GoodIn wsX0_latestImplements wsX2_holds := goodIn_r _ [4] (by decide +kernel) (by decide +kernel)
set_option maxRecDepth 20000 in
theorem gX0_latestImplements_X2_holds_n50 : GoodIn wsX0_latestImplements (wsX2_holds) := ggX0_latestImplements_X2_holds
theorem dX0_latestImplements_0 : decode cX0_latestImplements 0 = .ok (.aload_n 0, 1) := by decide +kernel
theorem dX0_latestImplements_1 : decode cX0_latestImplements 1 = .ok (.getfield 39, 3) := by decide +kernel
theorem dX0_latestImplements_4 : decode cX0_latestImplements 4 = .ok (.iload_n 1, 1) := by decide +kernel
theorem dX0_latestImplements_5 : decode cX0_latestImplements 5 = .ok (.invokestatic 50, 3) := by decide +kernel
theorem dX0_latestImplements_8 : decode cX0_latestImplements 8 = .ok (.ireturn, 1) := by decide +kernel
set_option maxRecDepth 20000 in
theorem ggX0_ownAmount_J13_bitCount_95d88 : GoodIn wsX0_ownAmount wsJ13_bitCount_95d88 := goodIn_r _ [5, 6, 7, 8] (by decide +kernel) (by decide +kernel)
set_option maxRecDepth 20000 in
theorem gX0_ownAmount_J13_bitCount_95d88 : GoodIn wsX0_ownAmount (va_wsS RX0 62 yJ13_bitCount_95d88 wsJ13_bitCount_95d88) := goodIn_app (goodIn_of _ (by decide +kernel)) ggX0_ownAmount_J13_bitCount_95d88
theorem dX0_ownAmount_0 : decode cX0_ownAmount 0 = .ok (.aload_n 0, 1) := by decide +kernel
theorem dX0_ownAmount_1 : decode cX0_ownAmount 1 = .ok (.getfield 39, 3) := by decide +kernel
theorem dX0_ownAmount_4 : decode cX0_ownAmount 4 = .ok (.invokestatic 62, 3) := by decide +kernel
theorem dX0_ownAmount_7 : decode cX0_ownAmount 7 = .ok (.ireturn, 1) := by decide +kernel
set_option maxRecDepth 20000 in
theorem ggX0_giveFace_X0_listFace : GoodIn wsX0_giveFace wsX0_listFace := goodIn_r _ [10, 3, 11, 12, 13, 14, 15, 9, 16, 21, 22, 23, 24, 25, 26, 27, 28, 29, 30] (by decide +kernel) (by decide +kernel)
set_option maxRecDepth 20000 in
theorem gX0_giveFace_X0_listFace : GoodIn wsX0_giveFace (wsV RX0 68 RX0 yX0_listFace wsX0_listFace) := goodIn_app (goodIn_of _ (by decide +kernel)) ggX0_giveFace_X0_listFace
set_option maxRecDepth 20000 in
theorem ggX0_giveFace_X0_listFacesOf : GoodIn wsX0_giveFace wsX0_listFacesOf := goodIn_r _ [20, 3, 13, 14, 15, 9, 16, 12, 11, 6, 7, 8, 10, 21, 22, 23, 24, 25, 26, 27, 28, 29, 30] (by decide +kernel) (by decide +kernel)
set_option maxRecDepth 20000 in
theorem gX0_giveFace_X0_listFacesOf : GoodIn wsX0_giveFace (wsV RX0 58 RX0 yX0_listFacesOf wsX0_listFacesOf) := goodIn_app (goodIn_of _ (by decide +kernel)) ggX0_giveFace_X0_listFacesOf
theorem dX0_giveFace_0 : decode cX0_giveFace 0 = .ok (.aload_n 0, 1) := by decide +kernel
theorem dX0_giveFace_1 : decode cX0_giveFace 1 = .ok (.dup, 1) := by decide +kernel
theorem dX0_giveFace_2 : decode cX0_giveFace 2 = .ok (.getfield 39, 3) := by decide +kernel
theorem dX0_giveFace_5 : decode cX0_giveFace 5 = .ok (.lconst 1, 1) := by decide +kernel
theorem dX0_giveFace_6 : decode cX0_giveFace 6 = .ok (.iload_n 2, 1) := by decide +kernel
theorem dX0_giveFace_7 : decode cX0_giveFace 7 = .ok (.lshl, 1) := by decide +kernel
theorem dX0_giveFace_8 : decode cX0_giveFace 8 = .ok (.lor, 1) := by decide +kernel
theorem dX0_giveFace_9 : decode cX0_giveFace 9 = .ok (.putfield 39, 3) := by decide +kernel
theorem dX0_giveFace_12 : decode cX0_giveFace 12 = .ok (.aload_n 0, 1) := by decide +kernel
theorem dX0_giveFace_13 : decode cX0_giveFace 13 = .ok (.getfield 26, 3) := by decide +kernel
theorem dX0_giveFace_16 : decode cX0_giveFace 16 = .ok (.iload_n 1, 1) := by decide +kernel
theorem dX0_giveFace_17 : decode cX0_giveFace 17 = .ok (.dup2, 1) := by decide +kernel
theorem dX0_giveFace_18 : decode cX0_giveFace 18 = .ok (.laload, 1) := by decide +kernel
theorem dX0_giveFace_19 : decode cX0_giveFace 19 = .ok (.aload_n 0, 1) := by decide +kernel
theorem dX0_giveFace_20 : decode cX0_giveFace 20 = .ok (.getfield 26, 3) := by decide +kernel
theorem dX0_giveFace_23 : decode cX0_giveFace 23 = .ok (.iload_n 2, 1) := by decide +kernel
theorem dX0_giveFace_24 : decode cX0_giveFace 24 = .ok (.laload, 1) := by decide +kernel
theorem dX0_giveFace_25 : decode cX0_giveFace 25 = .ok (.lconst 1, 1) := by decide +kernel
theorem dX0_giveFace_26 : decode cX0_giveFace 26 = .ok (.iload_n 2, 1) := by decide +kernel
theorem dX0_giveFace_27 : decode cX0_giveFace 27 = .ok (.lshl, 1) := by decide +kernel
theorem dX0_giveFace_28 : decode cX0_giveFace 28 = .ok (.lor, 1) := by decide +kernel
theorem dX0_giveFace_29 : decode cX0_giveFace 29 = .ok (.lor, 1) := by decide +kernel
theorem dX0_giveFace_30 : decode cX0_giveFace 30 = .ok (.lastore, 1) := by decide +kernel
theorem dX0_giveFace_31 : decode cX0_giveFace 31 = .ok (.aload_n 0, 1) := by decide +kernel
theorem dX0_giveFace_32 : decode cX0_giveFace 32 = .ok (.getfield 30, 3) := by decide +kernel
theorem dX0_giveFace_35 : decode cX0_giveFace 35 = .ok (.iload_n 1, 1) := by decide +kernel
theorem dX0_giveFace_36 : decode cX0_giveFace 36 = .ok (.aload_n 0, 1) := by decide +kernel
theorem dX0_giveFace_37 : decode cX0_giveFace 37 = .ok (.getfield 43, 3) := by decide +kernel
theorem dX0_giveFace_40 : decode cX0_giveFace 40 = .ok (.iastore, 1) := by decide +kernel
theorem dX0_giveFace_41 : decode cX0_giveFace 41 = .ok (.aload_n 0, 1) := by decide +kernel
theorem dX0_giveFace_42 : decode cX0_giveFace 42 = .ok (.iload_n 1, 1) := by decide +kernel
theorem dX0_giveFace_43 : decode cX0_giveFace 43 = .ok (.iload_n 2, 1) := by decide +kernel
theorem dX0_giveFace_44 : decode cX0_giveFace 44 = .ok (.invokevirtual 68, 3) := by decide +kernel
theorem dX0_giveFace_47 : decode cX0_giveFace 47 = .ok (.aload_n 0, 1) := by decide +kernel
theorem dX0_giveFace_48 : decode cX0_giveFace 48 = .ok (.iload_n 1, 1) := by decide +kernel
theorem dX0_giveFace_49 : decode cX0_giveFace 49 = .ok (.iload_n 2, 1) := by decide +kernel
theorem dX0_giveFace_50 : decode cX0_giveFace 50 = .ok (.invokevirtual 58, 3) := by decide +kernel
theorem dX0_giveFace_53 : decode cX0_giveFace 53 = .ok (.aload_n 0, 1) := by decide +kernel
theorem dX0_giveFace_54 : decode cX0_giveFace 54 = .ok (.aload_n 0, 1) := by decide +kernel
theorem dX0_giveFace_55 : decode cX0_giveFace 55 = .ok (.getfield 30, 3) := by decide +kernel
theorem dX0_giveFace_58 : decode cX0_giveFace 58 = .ok (.iload_n 1, 1) := by decide +kernel
theorem dX0_giveFace_59 : decode cX0_giveFace 59 = .ok (.iaload, 1) := by decide +kernel
theorem dX0_giveFace_60 : decode cX0_giveFace 60 = .ok (.putfield 43, 3) := by decide +kernel
theorem dX0_giveFace_63 : decode cX0_giveFace 63 = .ok (.aload_n 0, 1) := by decide +kernel
theorem dX0_giveFace_64 : decode cX0_giveFace 64 = .ok (.iload_n 1, 1) := by decide +kernel
theorem dX0_giveFace_65 : decode cX0_giveFace 65 = .ok (.aload_n 0, 1) := by decide +kernel
theorem dX0_giveFace_66 : decode cX0_giveFace 66 = .ok (.getfield 15, 3) := by decide +kernel
theorem dX0_giveFace_69 : decode cX0_giveFace 69 = .ok (.iload_n 1, 1) := by decide +kernel
theorem dX0_giveFace_70 : decode cX0_giveFace 70 = .ok (.iaload, 1) := by decide +kernel
theorem dX0_giveFace_71 : decode cX0_giveFace 71 = .ok (.invokevirtual 58, 3) := by decide +kernel
theorem dX0_giveFace_74 : decode cX0_giveFace 74 = .ok (.return_, 1) := by decide +kernel
set_option maxRecDepth 20000 in
theorem ggX0_listFacesOf_X0_faceAt : GoodIn wsX0_listFacesOf wsX0_faceAt := goodIn_r _ [6, 7, 8, 13, 14, 15, 16, 17, 18, 19, 20, 21, 22] (by decide +kernel) (by decide +kernel)
set_option maxRecDepth 20000 in
theorem gX0_listFacesOf_X0_faceAt : GoodIn wsX0_listFacesOf (wsV RX0 71 RX0 yX0_faceAt wsX0_faceAt) := goodIn_app (goodIn_of _ (by decide +kernel)) ggX0_listFacesOf_X0_faceAt
set_option maxRecDepth 20000 in
theorem ggX0_listFacesOf_X0_listFace : GoodIn wsX0_listFacesOf wsX0_listFace := goodIn_r _ [12, 1, 8, 7, 2, 3, 4, 5, 6, 13, 14, 15, 16, 17, 18, 19, 20, 21, 22] (by decide +kernel) (by decide +kernel)
set_option maxRecDepth 20000 in
theorem gX0_listFacesOf_X0_listFace : GoodIn wsX0_listFacesOf (wsV RX0 68 RX0 yX0_listFace wsX0_listFace) := goodIn_app (goodIn_of _ (by decide +kernel)) ggX0_listFacesOf_X0_listFace
theorem dX0_listFacesOf_0 : decode cX0_listFacesOf 0 = .ok (.aload_n 0, 1) := by decide +kernel
theorem dX0_listFacesOf_1 : decode cX0_listFacesOf 1 = .ok (.getfield 30, 3) := by decide +kernel
theorem dX0_listFacesOf_4 : decode cX0_listFacesOf 4 = .ok (.iload_n 2, 1) := by decide +kernel
theorem dX0_listFacesOf_5 : decode cX0_listFacesOf 5 = .ok (.iaload, 1) := by decide +kernel
theorem dX0_listFacesOf_6 : decode cX0_listFacesOf 6 = .ok (.istore_n 3, 1) := by decide +kernel
theorem dX0_listFacesOf_7 : decode cX0_listFacesOf 7 = .ok (.iconst 0, 1) := by decide +kernel
theorem dX0_listFacesOf_8 : decode cX0_listFacesOf 8 = .ok (.istore 4, 2) := by decide +kernel
theorem dX0_listFacesOf_10 : decode cX0_listFacesOf 10 = .ok (.iload 4, 2) := by decide +kernel
theorem dX0_listFacesOf_12 : decode cX0_listFacesOf 12 = .ok (.iload_n 3, 1) := by decide +kernel
theorem dX0_listFacesOf_13 : decode cX0_listFacesOf 13 = .ok (.if_icmp .ge 21, 3) := by decide +kernel
theorem dX0_listFacesOf_16 : decode cX0_listFacesOf 16 = .ok (.aload_n 0, 1) := by decide +kernel
theorem dX0_listFacesOf_17 : decode cX0_listFacesOf 17 = .ok (.iload_n 1, 1) := by decide +kernel
theorem dX0_listFacesOf_18 : decode cX0_listFacesOf 18 = .ok (.aload_n 0, 1) := by decide +kernel
theorem dX0_listFacesOf_19 : decode cX0_listFacesOf 19 = .ok (.iload_n 2, 1) := by decide +kernel
theorem dX0_listFacesOf_20 : decode cX0_listFacesOf 20 = .ok (.iload 4, 2) := by decide +kernel
theorem dX0_listFacesOf_22 : decode cX0_listFacesOf 22 = .ok (.invokevirtual 71, 3) := by decide +kernel
theorem dX0_listFacesOf_25 : decode cX0_listFacesOf 25 = .ok (.invokevirtual 68, 3) := by decide +kernel
theorem dX0_listFacesOf_28 : decode cX0_listFacesOf 28 = .ok (.iinc 4 1, 3) := by decide +kernel
theorem dX0_listFacesOf_31 : decode cX0_listFacesOf 31 = .ok (.goto (-21), 3) := by decide +kernel
theorem dX0_listFacesOf_34 : decode cX0_listFacesOf 34 = .ok (.return_, 1) := by decide +kernel
set_option maxRecDepth 20000 in
theorem ggX0_listFace_X0_faceAt : GoodIn wsX0_listFace wsX0_faceAt := goodIn_r _ [8, 3, 2, 9, 10, 11, 12, 13, 14, 15, 16, 17, 18] (by decide +kernel) (by decide +kernel)
set_option maxRecDepth 20000 in
theorem gX0_listFace_X0_faceAt : GoodIn wsX0_listFace (wsV RX0 71 RX0 yX0_faceAt wsX0_faceAt) := goodIn_app (goodIn_of _ (by decide +kernel)) ggX0_listFace_X0_faceAt
theorem dX0_listFace_0 : decode cX0_listFace 0 = .ok (.iconst 0, 1) := by decide +kernel
theorem dX0_listFace_1 : decode cX0_listFace 1 = .ok (.istore_n 3, 1) := by decide +kernel
theorem dX0_listFace_2 : decode cX0_listFace 2 = .ok (.iload_n 3, 1) := by decide +kernel
theorem dX0_listFace_3 : decode cX0_listFace 3 = .ok (.aload_n 0, 1) := by decide +kernel
theorem dX0_listFace_4 : decode cX0_listFace 4 = .ok (.getfield 30, 3) := by decide +kernel
theorem dX0_listFace_7 : decode cX0_listFace 7 = .ok (.iload_n 1, 1) := by decide +kernel
theorem dX0_listFace_8 : decode cX0_listFace 8 = .ok (.iaload, 1) := by decide +kernel
theorem dX0_listFace_9 : decode cX0_listFace 9 = .ok (.if_icmp .ge 20, 3) := by decide +kernel
theorem dX0_listFace_12 : decode cX0_listFace 12 = .ok (.aload_n 0, 1) := by decide +kernel
theorem dX0_listFace_13 : decode cX0_listFace 13 = .ok (.iload_n 1, 1) := by decide +kernel
theorem dX0_listFace_14 : decode cX0_listFace 14 = .ok (.iload_n 3, 1) := by decide +kernel
theorem dX0_listFace_15 : decode cX0_listFace 15 = .ok (.invokevirtual 71, 3) := by decide +kernel
theorem dX0_listFace_18 : decode cX0_listFace 18 = .ok (.iload_n 2, 1) := by decide +kernel
theorem dX0_listFace_19 : decode cX0_listFace 19 = .ok (.if_icmp .ne 4, 3) := by decide +kernel
theorem dX0_listFace_22 : decode cX0_listFace 22 = .ok (.return_, 1) := by decide +kernel
theorem dX0_listFace_23 : decode cX0_listFace 23 = .ok (.iinc 3 1, 3) := by decide +kernel
theorem dX0_listFace_26 : decode cX0_listFace 26 = .ok (.goto (-24), 3) := by decide +kernel
theorem dX0_listFace_29 : decode cX0_listFace 29 = .ok (.aload_n 0, 1) := by decide +kernel
theorem dX0_listFace_30 : decode cX0_listFace 30 = .ok (.getfield 33, 3) := by decide +kernel
theorem dX0_listFace_33 : decode cX0_listFace 33 = .ok (.iload_n 1, 1) := by decide +kernel
theorem dX0_listFace_34 : decode cX0_listFace 34 = .ok (.iaload, 1) := by decide +kernel
theorem dX0_listFace_35 : decode cX0_listFace 35 = .ok (.aload_n 0, 1) := by decide +kernel
theorem dX0_listFace_36 : decode cX0_listFace 36 = .ok (.getfield 30, 3) := by decide +kernel
theorem dX0_listFace_39 : decode cX0_listFace 39 = .ok (.iload_n 1, 1) := by decide +kernel
theorem dX0_listFace_40 : decode cX0_listFace 40 = .ok (.iaload, 1) := by decide +kernel
theorem dX0_listFace_41 : decode cX0_listFace 41 = .ok (.iadd, 1) := by decide +kernel
theorem dX0_listFace_42 : decode cX0_listFace 42 = .ok (.istore_n 3, 1) := by decide +kernel
theorem dX0_listFace_43 : decode cX0_listFace 43 = .ok (.iload_n 3, 1) := by decide +kernel
theorem dX0_listFace_44 : decode cX0_listFace 44 = .ok (.aload_n 0, 1) := by decide +kernel
theorem dX0_listFace_45 : decode cX0_listFace 45 = .ok (.getfield 36, 3) := by decide +kernel
theorem dX0_listFace_48 : decode cX0_listFace 48 = .ok (.arraylength, 1) := by decide +kernel
theorem dX0_listFace_49 : decode cX0_listFace 49 = .ok (.if_icmp .ge 20, 3) := by decide +kernel
theorem dX0_listFace_52 : decode cX0_listFace 52 = .ok (.aload_n 0, 1) := by decide +kernel
theorem dX0_listFace_53 : decode cX0_listFace 53 = .ok (.getfield 36, 3) := by decide +kernel
theorem dX0_listFace_56 : decode cX0_listFace 56 = .ok (.iload_n 3, 1) := by decide +kernel
theorem dX0_listFace_57 : decode cX0_listFace 57 = .ok (.iload_n 2, 1) := by decide +kernel
theorem dX0_listFace_58 : decode cX0_listFace 58 = .ok (.iastore, 1) := by decide +kernel
theorem dX0_listFace_59 : decode cX0_listFace 59 = .ok (.aload_n 0, 1) := by decide +kernel
theorem dX0_listFace_60 : decode cX0_listFace 60 = .ok (.getfield 30, 3) := by decide +kernel
theorem dX0_listFace_63 : decode cX0_listFace 63 = .ok (.iload_n 1, 1) := by decide +kernel
theorem dX0_listFace_64 : decode cX0_listFace 64 = .ok (.dup2, 1) := by decide +kernel
theorem dX0_listFace_65 : decode cX0_listFace 65 = .ok (.iaload, 1) := by decide +kernel
theorem dX0_listFace_66 : decode cX0_listFace 66 = .ok (.iconst 1, 1) := by decide +kernel
theorem dX0_listFace_67 : decode cX0_listFace 67 = .ok (.iadd, 1) := by decide +kernel
theorem dX0_listFace_68 : decode cX0_listFace 68 = .ok (.iastore, 1) := by decide +kernel
theorem dX0_listFace_69 : decode cX0_listFace 69 = .ok (.return_, 1) := by decide +kernel
theorem dX1_init_0 : decode cX1_init 0 = .ok (.aload_n 0, 1) := by decide +kernel
theorem dX1_init_1 : decode cX1_init 1 = .ok (.invokespecial 3, 3) := by decide +kernel
theorem dX1_init_4 : decode cX1_init 4 = .ok (.aload_n 0, 1) := by decide +kernel
theorem dX1_init_5 : decode cX1_init 5 = .ok (.iconst 0, 1) := by decide +kernel
theorem dX1_init_6 : decode cX1_init 6 = .ok (.putfield 9, 3) := by decide +kernel
theorem dX1_init_9 : decode cX1_init 9 = .ok (.aload_n 0, 1) := by decide +kernel
theorem dX1_init_10 : decode cX1_init 10 = .ok (.sipush 400, 3) := by decide +kernel
theorem dX1_init_13 : decode cX1_init 13 = .ok (.newarray .int, 2) := by decide +kernel
theorem dX1_init_15 : decode cX1_init 15 = .ok (.putfield 15, 3) := by decide +kernel
theorem dX1_init_18 : decode cX1_init 18 = .ok (.aload_n 0, 1) := by decide +kernel
theorem dX1_init_19 : decode cX1_init 19 = .ok (.sipush 400, 3) := by decide +kernel
theorem dX1_init_22 : decode cX1_init 22 = .ok (.newarray .int, 2) := by decide +kernel
theorem dX1_init_24 : decode cX1_init 24 = .ok (.putfield 19, 3) := by decide +kernel
theorem dX1_init_27 : decode cX1_init 27 = .ok (.aload_n 0, 1) := by decide +kernel
theorem dX1_init_28 : decode cX1_init 28 = .ok (.bipush 60, 2) := by decide +kernel
theorem dX1_init_30 : decode cX1_init 30 = .ok (.newarray .int, 2) := by decide +kernel
theorem dX1_init_32 : decode cX1_init 32 = .ok (.putfield 22, 3) := by decide +kernel
theorem dX1_init_35 : decode cX1_init 35 = .ok (.aload_n 0, 1) := by decide +kernel
theorem dX1_init_36 : decode cX1_init 36 = .ok (.bipush 60, 2) := by decide +kernel
theorem dX1_init_38 : decode cX1_init 38 = .ok (.newarray .int, 2) := by decide +kernel
theorem dX1_init_40 : decode cX1_init 40 = .ok (.putfield 25, 3) := by decide +kernel
theorem dX1_init_43 : decode cX1_init 43 = .ok (.aload_n 0, 1) := by decide +kernel
theorem dX1_init_44 : decode cX1_init 44 = .ok (.sipush 400, 3) := by decide +kernel
theorem dX1_init_47 : decode cX1_init 47 = .ok (.newarray .int, 2) := by decide +kernel
theorem dX1_init_49 : decode cX1_init 49 = .ok (.putfield 28, 3) := by decide +kernel
theorem dX1_init_52 : decode cX1_init 52 = .ok (.aload_n 0, 1) := by decide +kernel
theorem dX1_init_53 : decode cX1_init 53 = .ok (.sipush 400, 3) := by decide +kernel
theorem dX1_init_56 : decode cX1_init 56 = .ok (.newarray .int, 2) := by decide +kernel
theorem dX1_init_58 : decode cX1_init 58 = .ok (.putfield 31, 3) := by decide +kernel
theorem dX1_init_61 : decode cX1_init 61 = .ok (.return_, 1) := by decide +kernel
theorem dX1_exists_0 : decode cX1_exists 0 = .ok (.iload_n 1, 1) := by decide +kernel
theorem dX1_exists_1 : decode cX1_exists 1 = .ok (.ifCond .lt 15, 3) := by decide +kernel
theorem dX1_exists_4 : decode cX1_exists 4 = .ok (.iload_n 1, 1) := by decide +kernel
theorem dX1_exists_5 : decode cX1_exists 5 = .ok (.aload_n 0, 1) := by decide +kernel
theorem dX1_exists_6 : decode cX1_exists 6 = .ok (.getfield 9, 3) := by decide +kernel
theorem dX1_exists_9 : decode cX1_exists 9 = .ok (.if_icmp .ge 7, 3) := by decide +kernel
theorem dX1_exists_12 : decode cX1_exists 12 = .ok (.iconst 1, 1) := by decide +kernel
theorem dX1_exists_13 : decode cX1_exists 13 = .ok (.goto 4, 3) := by decide +kernel
theorem dX1_exists_16 : decode cX1_exists 16 = .ok (.iconst 0, 1) := by decide +kernel
theorem dX1_exists_17 : decode cX1_exists 17 = .ok (.ireturn, 1) := by decide +kernel
theorem dX1_isStatic_0 : decode cX1_isStatic 0 = .ok (.aload_n 0, 1) := by decide +kernel
theorem dX1_isStatic_1 : decode cX1_isStatic 1 = .ok (.getfield 31, 3) := by decide +kernel
theorem dX1_isStatic_4 : decode cX1_isStatic 4 = .ok (.iload_n 1, 1) := by decide +kernel
theorem dX1_isStatic_5 : decode cX1_isStatic 5 = .ok (.iaload, 1) := by decide +kernel
theorem dX1_isStatic_6 : decode cX1_isStatic 6 = .ok (.iconst 1, 1) := by decide +kernel
theorem dX1_isStatic_7 : decode cX1_isStatic 7 = .ok (.iand, 1) := by decide +kernel
theorem dX1_isStatic_8 : decode cX1_isStatic 8 = .ok (.ifCond .eq 7, 3) := by decide +kernel
theorem dX1_isStatic_11 : decode cX1_isStatic 11 = .ok (.iconst 1, 1) := by decide +kernel
theorem dX1_isStatic_12 : decode cX1_isStatic 12 = .ok (.goto 4, 3) := by decide +kernel
theorem dX1_isStatic_15 : decode cX1_isStatic 15 = .ok (.iconst 0, 1) := by decide +kernel
theorem dX1_isStatic_16 : decode cX1_isStatic 16 = .ok (.ireturn, 1) := by decide +kernel
theorem dX1_isFinal_0 : decode cX1_isFinal 0 = .ok (.aload_n 0, 1) := by decide +kernel
theorem dX1_isFinal_1 : decode cX1_isFinal 1 = .ok (.getfield 31, 3) := by decide +kernel
theorem dX1_isFinal_4 : decode cX1_isFinal 4 = .ok (.iload_n 1, 1) := by decide +kernel
theorem dX1_isFinal_5 : decode cX1_isFinal 5 = .ok (.iaload, 1) := by decide +kernel
theorem dX1_isFinal_6 : decode cX1_isFinal 6 = .ok (.iconst 2, 1) := by decide +kernel
theorem dX1_isFinal_7 : decode cX1_isFinal 7 = .ok (.iand, 1) := by decide +kernel
theorem dX1_isFinal_8 : decode cX1_isFinal 8 = .ok (.ifCond .eq 7, 3) := by decide +kernel
theorem dX1_isFinal_11 : decode cX1_isFinal 11 = .ok (.iconst 1, 1) := by decide +kernel
theorem dX1_isFinal_12 : decode cX1_isFinal 12 = .ok (.goto 4, 3) := by decide +kernel
theorem dX1_isFinal_15 : decode cX1_isFinal 15 = .ok (.iconst 0, 1) := by decide +kernel
theorem dX1_isFinal_16 : decode cX1_isFinal 16 = .ok (.ireturn, 1) := by decide +kernel
theorem dX1_isAbstract_0 : decode cX1_isAbstract 0 = .ok (.aload_n 0, 1) := by decide +kernel
theorem dX1_isAbstract_1 : decode cX1_isAbstract 1 = .ok (.getfield 31, 3) := by decide +kernel
theorem dX1_isAbstract_4 : decode cX1_isAbstract 4 = .ok (.iload_n 1, 1) := by decide +kernel
theorem dX1_isAbstract_5 : decode cX1_isAbstract 5 = .ok (.iaload, 1) := by decide +kernel
theorem dX1_isAbstract_6 : decode cX1_isAbstract 6 = .ok (.iconst 4, 1) := by decide +kernel
theorem dX1_isAbstract_7 : decode cX1_isAbstract 7 = .ok (.iand, 1) := by decide +kernel
theorem dX1_isAbstract_8 : decode cX1_isAbstract 8 = .ok (.ifCond .eq 7, 3) := by decide +kernel
theorem dX1_isAbstract_11 : decode cX1_isAbstract 11 = .ok (.iconst 1, 1) := by decide +kernel
theorem dX1_isAbstract_12 : decode cX1_isAbstract 12 = .ok (.goto 4, 3) := by decide +kernel
theorem dX1_isAbstract_15 : decode cX1_isAbstract 15 = .ok (.iconst 0, 1) := by decide +kernel
theorem dX1_isAbstract_16 : decode cX1_isAbstract 16 = .ok (.ireturn, 1) := by decide +kernel
theorem dX1_isPrivate_0 : decode cX1_isPrivate 0 = .ok (.aload_n 0, 1) := by decide +kernel
theorem dX1_isPrivate_1 : decode cX1_isPrivate 1 = .ok (.getfield 28, 3) := by decide +kernel
theorem dX1_isPrivate_4 : decode cX1_isPrivate 4 = .ok (.iload_n 1, 1) := by decide +kernel
theorem dX1_isPrivate_5 : decode cX1_isPrivate 5 = .ok (.iaload, 1) := by decide +kernel
theorem dX1_isPrivate_6 : decode cX1_isPrivate 6 = .ok (.iconst 3, 1) := by decide +kernel
theorem dX1_isPrivate_7 : decode cX1_isPrivate 7 = .ok (.if_icmp .ne 7, 3) := by decide +kernel
theorem dX1_isPrivate_10 : decode cX1_isPrivate 10 = .ok (.iconst 1, 1) := by decide +kernel
theorem dX1_isPrivate_11 : decode cX1_isPrivate 11 = .ok (.goto 4, 3) := by decide +kernel
theorem dX1_isPrivate_14 : decode cX1_isPrivate 14 = .ok (.iconst 0, 1) := by decide +kernel
theorem dX1_isPrivate_15 : decode cX1_isPrivate 15 = .ok (.ireturn, 1) := by decide +kernel
set_option maxRecDepth 20000 in
theorem ggX1_isVirtual_X1_isStatic : GoodIn wsX1_isVirtual wsX1_isStatic := goodIn_r _ [5, 6, 12, 13, 14, 15, 16, 17, 18] (by decide +kernel) (by decide +kernel)
set_option maxRecDepth 20000 in
theorem gX1_isVirtual_X1_isStatic : GoodIn wsX1_isVirtual (wsV RX1 34 RX1 yX1_isStatic wsX1_isStatic) := goodIn_app (goodIn_of _ (by decide +kernel)) ggX1_isVirtual_X1_isStatic
set_option maxRecDepth 20000 in
theorem ggX1_isVirtual_X1_isPrivate : GoodIn wsX1_isVirtual wsX1_isPrivate := goodIn_r _ [10, 11, 12, 13, 14, 15, 16, 17, 18] (by decide +kernel) (by decide +kernel)
set_option maxRecDepth 20000 in
theorem gX1_isVirtual_X1_isPrivate : GoodIn wsX1_isVirtual (wsV RX1 38 RX1 yX1_isPrivate wsX1_isPrivate) := goodIn_app (goodIn_of _ (by decide +kernel)) ggX1_isVirtual_X1_isPrivate
theorem dX1_isVirtual_0 : decode cX1_isVirtual 0 = .ok (.aload_n 0, 1) := by decide +kernel
theorem dX1_isVirtual_1 : decode cX1_isVirtual 1 = .ok (.iload_n 1, 1) := by decide +kernel
theorem dX1_isVirtual_2 : decode cX1_isVirtual 2 = .ok (.invokevirtual 34, 3) := by decide +kernel
theorem dX1_isVirtual_5 : decode cX1_isVirtual 5 = .ok (.ifCond .ne 15, 3) := by decide +kernel
theorem dX1_isVirtual_8 : decode cX1_isVirtual 8 = .ok (.aload_n 0, 1) := by decide +kernel
theorem dX1_isVirtual_9 : decode cX1_isVirtual 9 = .ok (.iload_n 1, 1) := by decide +kernel
theorem dX1_isVirtual_10 : decode cX1_isVirtual 10 = .ok (.invokevirtual 38, 3) := by decide +kernel
theorem dX1_isVirtual_13 : decode cX1_isVirtual 13 = .ok (.ifCond .ne 7, 3) := by decide +kernel
theorem dX1_isVirtual_16 : decode cX1_isVirtual 16 = .ok (.iconst 1, 1) := by decide +kernel
theorem dX1_isVirtual_17 : decode cX1_isVirtual 17 = .ok (.goto 4, 3) := by decide +kernel
theorem dX1_isVirtual_20 : decode cX1_isVirtual 20 = .ok (.iconst 0, 1) := by decide +kernel
theorem dX1_isVirtual_21 : decode cX1_isVirtual 21 = .ok (.ireturn, 1) := by decide +kernel
theorem dX1_isPublicOrProtected_0 : decode cX1_isPublicOrProtected 0 = .ok (.aload_n 0, 1) := by decide +kernel
theorem dX1_isPublicOrProtected_1 : decode cX1_isPublicOrProtected 1 = .ok (.getfield 28, 3) := by decide +kernel
theorem dX1_isPublicOrProtected_4 : decode cX1_isPublicOrProtected 4 = .ok (.iload_n 1, 1) := by decide +kernel
theorem dX1_isPublicOrProtected_5 : decode cX1_isPublicOrProtected 5 = .ok (.iaload, 1) := by decide +kernel
theorem dX1_isPublicOrProtected_6 : decode cX1_isPublicOrProtected 6 = .ok (.iconst 1, 1) := by decide +kernel
theorem dX1_isPublicOrProtected_7 : decode cX1_isPublicOrProtected 7 = .ok (.if_icmp .eq 13, 3) := by decide +kernel
theorem dX1_isPublicOrProtected_10 : decode cX1_isPublicOrProtected 10 = .ok (.aload_n 0, 1) := by decide +kernel
theorem dX1_isPublicOrProtected_11 : decode cX1_isPublicOrProtected 11 = .ok (.getfield 28, 3) := by decide +kernel
theorem dX1_isPublicOrProtected_14 : decode cX1_isPublicOrProtected 14 = .ok (.iload_n 1, 1) := by decide +kernel
theorem dX1_isPublicOrProtected_15 : decode cX1_isPublicOrProtected 15 = .ok (.iaload, 1) := by decide +kernel
theorem dX1_isPublicOrProtected_16 : decode cX1_isPublicOrProtected 16 = .ok (.iconst 2, 1) := by decide +kernel
theorem dX1_isPublicOrProtected_17 : decode cX1_isPublicOrProtected 17 = .ok (.if_icmp .ne 7, 3) := by decide +kernel
theorem dX1_isPublicOrProtected_20 : decode cX1_isPublicOrProtected 20 = .ok (.iconst 1, 1) := by decide +kernel
theorem dX1_isPublicOrProtected_21 : decode cX1_isPublicOrProtected 21 = .ok (.goto 4, 3) := by decide +kernel
theorem dX1_isPublicOrProtected_24 : decode cX1_isPublicOrProtected 24 = .ok (.iconst 0, 1) := by decide +kernel
theorem dX1_isPublicOrProtected_25 : decode cX1_isPublicOrProtected 25 = .ok (.ireturn, 1) := by decide +kernel
theorem dX1_inClass_0 : decode cX1_inClass 0 = .ok (.aload_n 0, 1) := by decide +kernel
theorem dX1_inClass_1 : decode cX1_inClass 1 = .ok (.getfield 22, 3) := by decide +kernel
theorem dX1_inClass_4 : decode cX1_inClass 4 = .ok (.iload_n 1, 1) := by decide +kernel
theorem dX1_inClass_5 : decode cX1_inClass 5 = .ok (.iaload, 1) := by decide +kernel
theorem dX1_inClass_6 : decode cX1_inClass 6 = .ok (.aload_n 0, 1) := by decide +kernel
theorem dX1_inClass_7 : decode cX1_inClass 7 = .ok (.getfield 25, 3) := by decide +kernel
theorem dX1_inClass_10 : decode cX1_inClass 10 = .ok (.iload_n 1, 1) := by decide +kernel
theorem dX1_inClass_11 : decode cX1_inClass 11 = .ok (.iaload, 1) := by decide +kernel
theorem dX1_inClass_12 : decode cX1_inClass 12 = .ok (.iadd, 1) := by decide +kernel
theorem dX1_inClass_13 : decode cX1_inClass 13 = .ok (.istore_n 3, 1) := by decide +kernel
theorem dX1_inClass_14 : decode cX1_inClass 14 = .ok (.aload_n 0, 1) := by decide +kernel
theorem dX1_inClass_15 : decode cX1_inClass 15 = .ok (.getfield 22, 3) := by decide +kernel
theorem dX1_inClass_18 : decode cX1_inClass 18 = .ok (.iload_n 1, 1) := by decide +kernel
theorem dX1_inClass_19 : decode cX1_inClass 19 = .ok (.iaload, 1) := by decide +kernel
theorem dX1_inClass_20 : decode cX1_inClass 20 = .ok (.istore 4, 2) := by decide +kernel
theorem dX1_inClass_22 : decode cX1_inClass 22 = .ok (.iload 4, 2) := by decide +kernel
theorem dX1_inClass_24 : decode cX1_inClass 24 = .ok (.iload_n 3, 1) := by decide +kernel
theorem dX1_inClass_25 : decode cX1_inClass 25 = .ok (.if_icmp .ge 23, 3) := by decide +kernel
theorem dX1_inClass_28 : decode cX1_inClass 28 = .ok (.aload_n 0, 1) := by decide +kernel
theorem dX1_inClass_29 : decode cX1_inClass 29 = .ok (.getfield 19, 3) := by decide +kernel
theorem dX1_inClass_32 : decode cX1_inClass 32 = .ok (.iload 4, 2) := by decide +kernel
theorem dX1_inClass_34 : decode cX1_inClass 34 = .ok (.iaload, 1) := by decide +kernel
theorem dX1_inClass_35 : decode cX1_inClass 35 = .ok (.iload_n 2, 1) := by decide +kernel
theorem dX1_inClass_36 : decode cX1_inClass 36 = .ok (.if_icmp .ne 6, 3) := by decide +kernel
theorem dX1_inClass_39 : decode cX1_inClass 39 = .ok (.iload 4, 2) := by decide +kernel
theorem dX1_inClass_41 : decode cX1_inClass 41 = .ok (.ireturn, 1) := by decide +kernel
theorem dX1_inClass_42 : decode cX1_inClass 42 = .ok (.iinc 4 1, 3) := by decide +kernel
theorem dX1_inClass_45 : decode cX1_inClass 45 = .ok (.goto (-23), 3) := by decide +kernel
theorem dX1_inClass_48 : decode cX1_inClass 48 = .ok (.iconst (-1), 1) := by decide +kernel
theorem dX1_inClass_49 : decode cX1_inClass 49 = .ok (.ireturn, 1) := by decide +kernel
theorem dX1_append_0 : decode cX1_append 0 = .ok (.aload_n 0, 1) := by decide +kernel
theorem dX1_append_1 : decode cX1_append 1 = .ok (.getfield 9, 3) := by decide +kernel
theorem dX1_append_4 : decode cX1_append 4 = .ok (.istore 5, 2) := by decide +kernel
theorem dX1_append_6 : decode cX1_append 6 = .ok (.aload_n 0, 1) := by decide +kernel
theorem dX1_append_7 : decode cX1_append 7 = .ok (.getfield 25, 3) := by decide +kernel
theorem dX1_append_10 : decode cX1_append 10 = .ok (.iload_n 1, 1) := by decide +kernel
theorem dX1_append_11 : decode cX1_append 11 = .ok (.iaload, 1) := by decide +kernel
theorem dX1_append_12 : decode cX1_append 12 = .ok (.ifCond .ne 11, 3) := by decide +kernel
theorem dX1_append_15 : decode cX1_append 15 = .ok (.aload_n 0, 1) := by decide +kernel
theorem dX1_append_16 : decode cX1_append 16 = .ok (.getfield 22, 3) := by decide +kernel
theorem dX1_append_19 : decode cX1_append 19 = .ok (.iload_n 1, 1) := by decide +kernel
theorem dX1_append_20 : decode cX1_append 20 = .ok (.iload 5, 2) := by decide +kernel
theorem dX1_append_22 : decode cX1_append 22 = .ok (.iastore, 1) := by decide +kernel
theorem dX1_append_23 : decode cX1_append 23 = .ok (.aload_n 0, 1) := by decide +kernel
theorem dX1_append_24 : decode cX1_append 24 = .ok (.getfield 25, 3) := by decide +kernel
theorem dX1_append_27 : decode cX1_append 27 = .ok (.iload_n 1, 1) := by decide +kernel
theorem dX1_append_28 : decode cX1_append 28 = .ok (.dup2, 1) := by decide +kernel
theorem dX1_append_29 : decode cX1_append 29 = .ok (.iaload, 1) := by decide +kernel
theorem dX1_append_30 : decode cX1_append 30 = .ok (.iconst 1, 1) := by decide +kernel
theorem dX1_append_31 : decode cX1_append 31 = .ok (.iadd, 1) := by decide +kernel
theorem dX1_append_32 : decode cX1_append 32 = .ok (.iastore, 1) := by decide +kernel
theorem dX1_append_33 : decode cX1_append 33 = .ok (.aload_n 0, 1) := by decide +kernel
theorem dX1_append_34 : decode cX1_append 34 = .ok (.getfield 15, 3) := by decide +kernel
theorem dX1_append_37 : decode cX1_append 37 = .ok (.iload 5, 2) := by decide +kernel
theorem dX1_append_39 : decode cX1_append 39 = .ok (.iload_n 1, 1) := by decide +kernel
theorem dX1_append_40 : decode cX1_append 40 = .ok (.iastore, 1) := by decide +kernel
theorem dX1_append_41 : decode cX1_append 41 = .ok (.aload_n 0, 1) := by decide +kernel
theorem dX1_append_42 : decode cX1_append 42 = .ok (.getfield 19, 3) := by decide +kernel
theorem dX1_append_45 : decode cX1_append 45 = .ok (.iload 5, 2) := by decide +kernel
theorem dX1_append_47 : decode cX1_append 47 = .ok (.iload_n 2, 1) := by decide +kernel
theorem dX1_append_48 : decode cX1_append 48 = .ok (.iastore, 1) := by decide +kernel
theorem dX1_append_49 : decode cX1_append 49 = .ok (.aload_n 0, 1) := by decide +kernel
theorem dX1_append_50 : decode cX1_append 50 = .ok (.getfield 28, 3) := by decide +kernel
theorem dX1_append_53 : decode cX1_append 53 = .ok (.iload 5, 2) := by decide +kernel
theorem dX1_append_55 : decode cX1_append 55 = .ok (.iload_n 3, 1) := by decide +kernel
theorem dX1_append_56 : decode cX1_append 56 = .ok (.iastore, 1) := by decide +kernel
theorem dX1_append_57 : decode cX1_append 57 = .ok (.aload_n 0, 1) := by decide +kernel
theorem dX1_append_58 : decode cX1_append 58 = .ok (.getfield 31, 3) := by decide +kernel
theorem dX1_append_61 : decode cX1_append 61 = .ok (.iload 5, 2) := by decide +kernel
theorem dX1_append_63 : decode cX1_append 63 = .ok (.iload 4, 2) := by decide +kernel
theorem dX1_append_65 : decode cX1_append 65 = .ok (.iastore, 1) := by decide +kernel
theorem dX1_append_66 : decode cX1_append 66 = .ok (.aload_n 0, 1) := by decide +kernel
theorem dX1_append_67 : decode cX1_append 67 = .ok (.dup, 1) := by decide +kernel
theorem dX1_append_68 : decode cX1_append 68 = .ok (.getfield 9, 3) := by decide +kernel
theorem dX1_append_71 : decode cX1_append 71 = .ok (.iconst 1, 1) := by decide +kernel
theorem dX1_append_72 : decode cX1_append 72 = .ok (.iadd, 1) := by decide +kernel
theorem dX1_append_73 : decode cX1_append 73 = .ok (.putfield 9, 3) := by decide +kernel
theorem dX1_append_76 : decode cX1_append 76 = .ok (.iload 5, 2) := by decide +kernel
theorem dX1_append_78 : decode cX1_append 78 = .ok (.ireturn, 1) := by decide +kernel
set_option maxRecDepth 20000 in
theorem ggX2_init_X0_init : GoodIn wsX2_init wsX0_init := goodIn_r _ [13, 14, 2, 3, 15, 16, 17, 18, 19, 20, 21, 22, 23, 24, 25, 26, 27, 38, 39, 40, 41, 42, 43, 44, 45, 46, 47] (by decide +kernel) (by decide +kernel)
set_option maxRecDepth 20000 in
theorem gX2_init_X0_init_n9 : GoodIn wsX2_init (wsX0_init) := ggX2_init_X0_init
set_option maxRecDepth 20000 in
theorem ggX2_init_X1_init : GoodIn wsX2_init wsX1_init := goodIn_r _ [29, 30, 2, 3, 31, 16, 32, 33, 34, 35, 36, 37, 50, 51, 52, 53, 54, 55, 56] (by decide +kernel) (by decide +kernel)
set_option maxRecDepth 20000 in
theorem gX2_init_X1_init_n18 : GoodIn wsX2_init (wsX1_init) := ggX2_init_X1_init
theorem dX2_init_0 : decode cX2_init 0 = .ok (.aload_n 0, 1) := by decide +kernel
theorem dX2_init_1 : decode cX2_init 1 = .ok (.invokespecial 1, 3) := by decide +kernel
theorem dX2_init_4 : decode cX2_init 4 = .ok (.aload_n 0, 1) := by decide +kernel
theorem dX2_init_5 : decode cX2_init 5 = .ok (.new 7, 3) := by decide +kernel
theorem dX2_init_8 : decode cX2_init 8 = .ok (.dup, 1) := by decide +kernel
theorem dX2_init_9 : decode cX2_init 9 = .ok (.invokespecial 9, 3) := by decide +kernel
theorem dX2_init_12 : decode cX2_init 12 = .ok (.putfield 10, 3) := by decide +kernel
theorem dX2_init_15 : decode cX2_init 15 = .ok (.aload_n 0, 1) := by decide +kernel
theorem dX2_init_16 : decode cX2_init 16 = .ok (.new 16, 3) := by decide +kernel
theorem dX2_init_19 : decode cX2_init 19 = .ok (.dup, 1) := by decide +kernel
theorem dX2_init_20 : decode cX2_init 20 = .ok (.invokespecial 18, 3) := by decide +kernel
theorem dX2_init_23 : decode cX2_init 23 = .ok (.putfield 19, 3) := by decide +kernel
theorem dX2_init_26 : decode cX2_init 26 = .ok (.return_, 1) := by decide +kernel
set_option maxRecDepth 20000 in
theorem ggX2_add_X0_isPlain : GoodIn wsX2_add wsX0_isPlain := goodIn_r _ [7, 8, 9, 10, 11, 6, 12, 13, 40, 41, 42, 43, 44, 45, 46, 47, 48, 49] (by decide +kernel) (by decide +kernel)
set_option maxRecDepth 20000 in
theorem gX2_add_X0_isPlain : GoodIn wsX2_add (wsV RX2 23 RX0 yX0_isPlain wsX0_isPlain) := goodIn_app (goodIn_of _ (by decide +kernel)) ggX2_add_X0_isPlain
set_option maxRecDepth 20000 in
theorem ggX2_add_X0_append : GoodIn wsX2_add wsX0_append := goodIn_r _ [17, 13, 18, 19, 20, 21, 8, 22, 23, 24, 25, 26, 27, 6, 28, 29, 30, 31, 32, 33, 34, 35, 36, 37, 40, 41, 42, 43, 44, 45, 46, 47, 48, 49] (by decide +kernel) (by decide +kernel)
set_option maxRecDepth 20000 in
theorem gX2_add_X0_append : GoodIn wsX2_add (wsV RX2 31 RX0 yX0_append wsX0_append) := goodIn_app (goodIn_of _ (by decide +kernel)) ggX2_add_X0_append
theorem dX2_add_0 : decode cX2_add 0 = .ok (.aload_n 0, 1) := by decide +kernel
theorem dX2_add_1 : decode cX2_add 1 = .ok (.getfield 10, 3) := by decide +kernel
theorem dX2_add_4 : decode cX2_add 4 = .ok (.iload_n 1, 1) := by decide +kernel
theorem dX2_add_5 : decode cX2_add 5 = .ok (.invokevirtual 23, 3) := by decide +kernel
theorem dX2_add_8 : decode cX2_add 8 = .ok (.ifCond .ne 6, 3) := by decide +kernel
theorem dX2_add_11 : decode cX2_add 11 = .ok (.bipush (-14), 2) := by decide +kernel
theorem dX2_add_13 : decode cX2_add 13 = .ok (.ireturn, 1) := by decide +kernel
theorem dX2_add_14 : decode cX2_add 14 = .ok (.iload_n 3, 1) := by decide +kernel
theorem dX2_add_15 : decode cX2_add 15 = .ok (.iconst 1, 1) := by decide +kernel
theorem dX2_add_16 : decode cX2_add 16 = .ok (.if_icmp .ne 7, 3) := by decide +kernel
theorem dX2_add_19 : decode cX2_add 19 = .ok (.iconst 1, 1) := by decide +kernel
theorem dX2_add_20 : decode cX2_add 20 = .ok (.goto 4, 3) := by decide +kernel
theorem dX2_add_23 : decode cX2_add 23 = .ok (.iconst 0, 1) := by decide +kernel
theorem dX2_add_24 : decode cX2_add 24 = .ok (.istore 4, 2) := by decide +kernel
theorem dX2_add_26 : decode cX2_add 26 = .ok (.iload_n 2, 1) := by decide +kernel
theorem dX2_add_27 : decode cX2_add 27 = .ok (.ifCond .lt 27, 3) := by decide +kernel
theorem dX2_add_30 : decode cX2_add 30 = .ok (.iload_n 2, 1) := by decide +kernel
theorem dX2_add_31 : decode cX2_add 31 = .ok (.bipush 10, 2) := by decide +kernel
theorem dX2_add_33 : decode cX2_add 33 = .ok (.if_icmp .ge 21, 3) := by decide +kernel
theorem dX2_add_36 : decode cX2_add 36 = .ok (.iload_n 3, 1) := by decide +kernel
theorem dX2_add_37 : decode cX2_add 37 = .ok (.ifCond .lt 17, 3) := by decide +kernel
theorem dX2_add_40 : decode cX2_add 40 = .ok (.iload_n 3, 1) := by decide +kernel
theorem dX2_add_41 : decode cX2_add 41 = .ok (.iconst 1, 1) := by decide +kernel
theorem dX2_add_42 : decode cX2_add 42 = .ok (.if_icmp .gt 12, 3) := by decide +kernel
theorem dX2_add_45 : decode cX2_add 45 = .ok (.iload 4, 2) := by decide +kernel
theorem dX2_add_47 : decode cX2_add 47 = .ok (.ifCond .eq 9, 3) := by decide +kernel
theorem dX2_add_50 : decode cX2_add 50 = .ok (.iload_n 1, 1) := by decide +kernel
theorem dX2_add_51 : decode cX2_add 51 = .ok (.ifCond .eq 5, 3) := by decide +kernel
theorem dX2_add_54 : decode cX2_add 54 = .ok (.iconst (-1), 1) := by decide +kernel
theorem dX2_add_55 : decode cX2_add 55 = .ok (.ireturn, 1) := by decide +kernel
theorem dX2_add_56 : decode cX2_add 56 = .ok (.aload_n 0, 1) := by decide +kernel
theorem dX2_add_57 : decode cX2_add 57 = .ok (.getfield 10, 3) := by decide +kernel
theorem dX2_add_60 : decode cX2_add 60 = .ok (.getfield 27, 3) := by decide +kernel
theorem dX2_add_63 : decode cX2_add 63 = .ok (.bipush 60, 2) := by decide +kernel
theorem dX2_add_65 : decode cX2_add 65 = .ok (.if_icmp .lt 6, 3) := by decide +kernel
theorem dX2_add_68 : decode cX2_add 68 = .ok (.bipush (-12), 2) := by decide +kernel
theorem dX2_add_70 : decode cX2_add 70 = .ok (.ireturn, 1) := by decide +kernel
theorem dX2_add_71 : decode cX2_add 71 = .ok (.aload_n 0, 1) := by decide +kernel
theorem dX2_add_72 : decode cX2_add 72 = .ok (.getfield 10, 3) := by decide +kernel
theorem dX2_add_75 : decode cX2_add 75 = .ok (.iload_n 1, 1) := by decide +kernel
theorem dX2_add_76 : decode cX2_add 76 = .ok (.iload_n 2, 1) := by decide +kernel
theorem dX2_add_77 : decode cX2_add 77 = .ok (.iload 4, 2) := by decide +kernel
theorem dX2_add_79 : decode cX2_add 79 = .ok (.invokevirtual 31, 3) := by decide +kernel
theorem dX2_add_82 : decode cX2_add 82 = .ok (.ireturn, 1) := by decide +kernel
set_option maxRecDepth 20000 in
theorem ggX2_implement_X0_isLatest : GoodIn wsX2_implement wsX0_isLatest := goodIn_r _ [8, 9, 69, 70, 71, 72, 73, 74, 75, 76, 77, 78] (by decide +kernel) (by decide +kernel)
set_option maxRecDepth 20000 in
theorem gX2_implement_X0_isLatest : GoodIn wsX2_implement (wsV RX2 35 RX0 yX0_isLatest wsX0_isLatest) := goodIn_app (goodIn_of _ (by decide +kernel)) ggX2_implement_X0_isLatest
set_option maxRecDepth 20000 in
theorem ggX2_implement_X0_isFace : GoodIn wsX2_implement wsX0_isFace := goodIn_r _ [13, 14, 15, 16, 17, 7, 18, 9, 69, 70, 71, 72, 73, 74, 75, 76, 77, 78] (by decide +kernel) (by decide +kernel)
set_option maxRecDepth 20000 in
theorem gX2_implement_X0_isFace : GoodIn wsX2_implement (wsV RX2 38 RX0 yX0_isFace wsX0_isFace) := goodIn_app (goodIn_of _ (by decide +kernel)) ggX2_implement_X0_isFace
set_option maxRecDepth 20000 in
theorem ggX2_implement_X0_latestImplements : GoodIn wsX2_implement wsX0_latestImplements := goodIn_r _ [22, 23, 24, 25, 26, 69, 70, 71, 72, 73, 74, 75, 76, 77, 78] (by decide +kernel) (by decide +kernel)
set_option maxRecDepth 20000 in
theorem gX2_implement_X0_latestImplements : GoodIn wsX2_implement (wsV RX2 41 RX0 yX0_latestImplements wsX0_latestImplements) := goodIn_app (goodIn_of _ (by decide +kernel)) ggX2_implement_X0_latestImplements
set_option maxRecDepth 20000 in
theorem ggX2_implement_X0_ownAmount : GoodIn wsX2_implement wsX0_ownAmount := goodIn_r _ [30, 23, 31, 32, 33, 34, 35, 36, 37, 69, 70, 71, 72, 73, 74, 75, 76, 77, 78] (by decide +kernel) (by decide +kernel)
set_option maxRecDepth 20000 in
theorem gX2_implement_X0_ownAmount : GoodIn wsX2_implement (wsV RX2 48 RX0 yX0_ownAmount wsX0_ownAmount) := goodIn_app (goodIn_of _ (by decide +kernel)) ggX2_implement_X0_ownAmount
set_option maxRecDepth 20000 in
theorem ggX2_implement_X0_giveFace : GoodIn wsX2_implement wsX0_giveFace := goodIn_r _ [41, 23, 42, 43, 44, 45, 46, 47, 48, 7, 49, 50, 51, 52, 53, 54, 55, 56, 57, 58, 59, 69, 70, 71, 72, 73, 74, 75, 76, 77, 78] (by decide +kernel) (by decide +kernel)
set_option maxRecDepth 20000 in
theorem gX2_implement_X0_giveFace : GoodIn wsX2_implement (wsV RX2 52 RX0 yX0_giveFace wsX0_giveFace) := goodIn_app (goodIn_of _ (by decide +kernel)) ggX2_implement_X0_giveFace
theorem dX2_implement_0 : decode cX2_implement 0 = .ok (.aload_n 0, 1) := by decide +kernel
theorem dX2_implement_1 : decode cX2_implement 1 = .ok (.getfield 10, 3) := by decide +kernel
theorem dX2_implement_4 : decode cX2_implement 4 = .ok (.iload_n 1, 1) := by decide +kernel
theorem dX2_implement_5 : decode cX2_implement 5 = .ok (.invokevirtual 35, 3) := by decide +kernel
theorem dX2_implement_8 : decode cX2_implement 8 = .ok (.ifCond .eq 19, 3) := by decide +kernel
theorem dX2_implement_11 : decode cX2_implement 11 = .ok (.iload_n 2, 1) := by decide +kernel
theorem dX2_implement_12 : decode cX2_implement 12 = .ok (.iload_n 1, 1) := by decide +kernel
theorem dX2_implement_13 : decode cX2_implement 13 = .ok (.if_icmp .eq 14, 3) := by decide +kernel
theorem dX2_implement_16 : decode cX2_implement 16 = .ok (.aload_n 0, 1) := by decide +kernel
theorem dX2_implement_17 : decode cX2_implement 17 = .ok (.getfield 10, 3) := by decide +kernel
theorem dX2_implement_20 : decode cX2_implement 20 = .ok (.iload_n 2, 1) := by decide +kernel
theorem dX2_implement_21 : decode cX2_implement 21 = .ok (.invokevirtual 38, 3) := by decide +kernel
theorem dX2_implement_24 : decode cX2_implement 24 = .ok (.ifCond .ne 6, 3) := by decide +kernel
theorem dX2_implement_27 : decode cX2_implement 27 = .ok (.bipush (-14), 2) := by decide +kernel
theorem dX2_implement_29 : decode cX2_implement 29 = .ok (.ireturn, 1) := by decide +kernel
theorem dX2_implement_30 : decode cX2_implement 30 = .ok (.aload_n 0, 1) := by decide +kernel
theorem dX2_implement_31 : decode cX2_implement 31 = .ok (.getfield 10, 3) := by decide +kernel
theorem dX2_implement_34 : decode cX2_implement 34 = .ok (.iload_n 2, 1) := by decide +kernel
theorem dX2_implement_35 : decode cX2_implement 35 = .ok (.invokevirtual 41, 3) := by decide +kernel
theorem dX2_implement_38 : decode cX2_implement 38 = .ok (.ifCond .ne 15, 3) := by decide +kernel
theorem dX2_implement_41 : decode cX2_implement 41 = .ok (.aload_n 0, 1) := by decide +kernel
theorem dX2_implement_42 : decode cX2_implement 42 = .ok (.getfield 19, 3) := by decide +kernel
theorem dX2_implement_45 : decode cX2_implement 45 = .ok (.getfield 44, 3) := by decide +kernel
theorem dX2_implement_48 : decode cX2_implement 48 = .ok (.iload_n 1, 1) := by decide +kernel
theorem dX2_implement_49 : decode cX2_implement 49 = .ok (.iaload, 1) := by decide +kernel
theorem dX2_implement_50 : decode cX2_implement 50 = .ok (.ifCond .le 5, 3) := by decide +kernel
theorem dX2_implement_53 : decode cX2_implement 53 = .ok (.iconst (-1), 1) := by decide +kernel
theorem dX2_implement_54 : decode cX2_implement 54 = .ok (.ireturn, 1) := by decide +kernel
theorem dX2_implement_55 : decode cX2_implement 55 = .ok (.aload_n 0, 1) := by decide +kernel
theorem dX2_implement_56 : decode cX2_implement 56 = .ok (.getfield 10, 3) := by decide +kernel
theorem dX2_implement_59 : decode cX2_implement 59 = .ok (.invokevirtual 48, 3) := by decide +kernel
theorem dX2_implement_62 : decode cX2_implement 62 = .ok (.bipush 20, 2) := by decide +kernel
theorem dX2_implement_64 : decode cX2_implement 64 = .ok (.if_icmp .lt 6, 3) := by decide +kernel
theorem dX2_implement_67 : decode cX2_implement 67 = .ok (.bipush (-12), 2) := by decide +kernel
theorem dX2_implement_69 : decode cX2_implement 69 = .ok (.ireturn, 1) := by decide +kernel
theorem dX2_implement_70 : decode cX2_implement 70 = .ok (.aload_n 0, 1) := by decide +kernel
theorem dX2_implement_71 : decode cX2_implement 71 = .ok (.getfield 10, 3) := by decide +kernel
theorem dX2_implement_74 : decode cX2_implement 74 = .ok (.iload_n 1, 1) := by decide +kernel
theorem dX2_implement_75 : decode cX2_implement 75 = .ok (.iload_n 2, 1) := by decide +kernel
theorem dX2_implement_76 : decode cX2_implement 76 = .ok (.invokevirtual 52, 3) := by decide +kernel
theorem dX2_implement_79 : decode cX2_implement 79 = .ok (.aload_n 0, 1) := by decide +kernel
theorem dX2_implement_80 : decode cX2_implement 80 = .ok (.getfield 10, 3) := by decide +kernel
theorem dX2_implement_83 : decode cX2_implement 83 = .ok (.invokevirtual 48, 3) := by decide +kernel
theorem dX2_implement_86 : decode cX2_implement 86 = .ok (.ireturn, 1) := by decide +kernel
set_option maxRecDepth 20000 in
theorem ggX2_method_X0_isLatest : GoodIn wsX2_method wsX0_isLatest := goodIn_r _ [9, 10, 33, 34, 35, 36, 37, 38, 39, 40, 41, 42] (by decide +kernel) (by decide +kernel)
set_option maxRecDepth 20000 in
theorem gX2_method_X0_isLatest : GoodIn wsX2_method (wsV RX2 35 RX0 yX0_isLatest wsX0_isLatest) := goodIn_app (goodIn_of _ (by decide +kernel)) ggX2_method_X0_isLatest
set_option maxRecDepth 20000 in
theorem ggX2_method_X2_fits : GoodIn wsX2_method wsX2_fits := goodIn_r _ [14] (by decide +kernel) (by decide +kernel)
set_option maxRecDepth 20000 in
theorem gX2_method_X2_fits : GoodIn wsX2_method (va_wsS RX2 60 yX2_fits wsX2_fits) := goodIn_app (goodIn_of _ (by decide +kernel)) ggX2_method_X2_fits
set_option maxRecDepth 20000 in
theorem ggX2_method_X1_inClass : GoodIn wsX2_method wsX1_inClass := goodIn_r _ [19, 20, 21, 22, 43, 44, 45, 46, 47, 48, 49] (by decide +kernel) (by decide +kernel)
set_option maxRecDepth 20000 in
theorem gX2_method_X1_inClass : GoodIn wsX2_method (wsV RX2 64 RX1 yX1_inClass wsX1_inClass) := goodIn_app (goodIn_of _ (by decide +kernel)) ggX2_method_X1_inClass
set_option maxRecDepth 20000 in
theorem ggX2_method_X1_append : GoodIn wsX2_method wsX1_append := goodIn_r _ [26, 27, 21, 20, 28, 22, 29, 30, 43, 44, 45, 46, 47, 48, 49] (by decide +kernel) (by decide +kernel)
set_option maxRecDepth 20000 in
theorem gX2_method_X1_append : GoodIn wsX2_method (wsV RX2 69 RX1 yX1_append wsX1_append) := goodIn_app (goodIn_of _ (by decide +kernel)) ggX2_method_X1_append
theorem dX2_method_0 : decode cX2_method 0 = .ok (.aload_n 0, 1) := by decide +kernel
theorem dX2_method_1 : decode cX2_method 1 = .ok (.getfield 10, 3) := by decide +kernel
theorem dX2_method_4 : decode cX2_method 4 = .ok (.iload_n 1, 1) := by decide +kernel
theorem dX2_method_5 : decode cX2_method 5 = .ok (.invokevirtual 35, 3) := by decide +kernel
theorem dX2_method_8 : decode cX2_method 8 = .ok (.ifCond .eq 7, 3) := by decide +kernel
theorem dX2_method_11 : decode cX2_method 11 = .ok (.iload_n 1, 1) := by decide +kernel
theorem dX2_method_12 : decode cX2_method 12 = .ok (.ifCond .ne 6, 3) := by decide +kernel
theorem dX2_method_15 : decode cX2_method 15 = .ok (.bipush (-14), 2) := by decide +kernel
theorem dX2_method_17 : decode cX2_method 17 = .ok (.ireturn, 1) := by decide +kernel
theorem dX2_method_18 : decode cX2_method 18 = .ok (.iload_n 2, 1) := by decide +kernel
theorem dX2_method_19 : decode cX2_method 19 = .ok (.ifCond .lt 27, 3) := by decide +kernel
theorem dX2_method_22 : decode cX2_method 22 = .ok (.iload_n 2, 1) := by decide +kernel
theorem dX2_method_23 : decode cX2_method 23 = .ok (.bipush 32, 2) := by decide +kernel
theorem dX2_method_25 : decode cX2_method 25 = .ok (.if_icmp .ge 21, 3) := by decide +kernel
theorem dX2_method_28 : decode cX2_method 28 = .ok (.iload_n 3, 1) := by decide +kernel
theorem dX2_method_29 : decode cX2_method 29 = .ok (.iload 4, 2) := by decide +kernel
theorem dX2_method_31 : decode cX2_method 31 = .ok (.aload_n 0, 1) := by decide +kernel
theorem dX2_method_32 : decode cX2_method 32 = .ok (.getfield 10, 3) := by decide +kernel
theorem dX2_method_35 : decode cX2_method 35 = .ok (.getfield 56, 3) := by decide +kernel
theorem dX2_method_38 : decode cX2_method 38 = .ok (.iload_n 1, 1) := by decide +kernel
theorem dX2_method_39 : decode cX2_method 39 = .ok (.baload, 1) := by decide +kernel
theorem dX2_method_40 : decode cX2_method 40 = .ok (.invokestatic 60, 3) := by decide +kernel
theorem dX2_method_43 : decode cX2_method 43 = .ok (.ifCond .ne 5, 3) := by decide +kernel
theorem dX2_method_46 : decode cX2_method 46 = .ok (.iconst (-1), 1) := by decide +kernel
theorem dX2_method_47 : decode cX2_method 47 = .ok (.ireturn, 1) := by decide +kernel
theorem dX2_method_48 : decode cX2_method 48 = .ok (.aload_n 0, 1) := by decide +kernel
theorem dX2_method_49 : decode cX2_method 49 = .ok (.getfield 19, 3) := by decide +kernel
theorem dX2_method_52 : decode cX2_method 52 = .ok (.iload_n 1, 1) := by decide +kernel
theorem dX2_method_53 : decode cX2_method 53 = .ok (.iload_n 2, 1) := by decide +kernel
theorem dX2_method_54 : decode cX2_method 54 = .ok (.invokevirtual 64, 3) := by decide +kernel
theorem dX2_method_57 : decode cX2_method 57 = .ok (.iconst (-1), 1) := by decide +kernel
theorem dX2_method_58 : decode cX2_method 58 = .ok (.if_icmp .eq 5, 3) := by decide +kernel
theorem dX2_method_61 : decode cX2_method 61 = .ok (.iconst (-1), 1) := by decide +kernel
theorem dX2_method_62 : decode cX2_method 62 = .ok (.ireturn, 1) := by decide +kernel
theorem dX2_method_63 : decode cX2_method 63 = .ok (.aload_n 0, 1) := by decide +kernel
theorem dX2_method_64 : decode cX2_method 64 = .ok (.getfield 19, 3) := by decide +kernel
theorem dX2_method_67 : decode cX2_method 67 = .ok (.getfield 68, 3) := by decide +kernel
theorem dX2_method_70 : decode cX2_method 70 = .ok (.sipush 400, 3) := by decide +kernel
theorem dX2_method_73 : decode cX2_method 73 = .ok (.if_icmp .lt 6, 3) := by decide +kernel
theorem dX2_method_76 : decode cX2_method 76 = .ok (.bipush (-12), 2) := by decide +kernel
theorem dX2_method_78 : decode cX2_method 78 = .ok (.ireturn, 1) := by decide +kernel
theorem dX2_method_79 : decode cX2_method 79 = .ok (.aload_n 0, 1) := by decide +kernel
theorem dX2_method_80 : decode cX2_method 80 = .ok (.getfield 19, 3) := by decide +kernel
theorem dX2_method_83 : decode cX2_method 83 = .ok (.iload_n 1, 1) := by decide +kernel
theorem dX2_method_84 : decode cX2_method 84 = .ok (.iload_n 2, 1) := by decide +kernel
theorem dX2_method_85 : decode cX2_method 85 = .ok (.iload_n 3, 1) := by decide +kernel
theorem dX2_method_86 : decode cX2_method 86 = .ok (.iload 4, 2) := by decide +kernel
theorem dX2_method_88 : decode cX2_method 88 = .ok (.invokevirtual 69, 3) := by decide +kernel
theorem dX2_method_91 : decode cX2_method 91 = .ok (.ireturn, 1) := by decide +kernel
set_option maxRecDepth 20000 in
theorem ggX2_isBelow_X0_exists : GoodIn wsX2_isBelow wsX0_exists := goodIn_r _ [6, 7, 18, 19, 20, 21, 22, 23, 24, 25, 26, 27] (by decide +kernel) (by decide +kernel)
set_option maxRecDepth 20000 in
theorem gX2_isBelow_X0_exists : GoodIn wsX2_isBelow (wsV RX2 72 RX0 yX0_exists wsX0_exists) := goodIn_app (goodIn_of _ (by decide +kernel)) ggX2_isBelow_X0_exists
set_option maxRecDepth 20000 in
theorem ggX2_isBelow_X0_below : GoodIn wsX2_isBelow wsX0_below := goodIn_r _ [11, 12, 13, 14, 15, 18, 19, 20, 21, 22, 23, 24, 25, 26, 27] (by decide +kernel) (by decide +kernel)
set_option maxRecDepth 20000 in
theorem gX2_isBelow_X0_below : GoodIn wsX2_isBelow (wsV RX2 75 RX0 yX0_below wsX0_below) := goodIn_app (goodIn_of _ (by decide +kernel)) ggX2_isBelow_X0_below
theorem dX2_isBelow_0 : decode cX2_isBelow 0 = .ok (.aload_n 0, 1) := by decide +kernel
theorem dX2_isBelow_1 : decode cX2_isBelow 1 = .ok (.getfield 10, 3) := by decide +kernel
theorem dX2_isBelow_4 : decode cX2_isBelow 4 = .ok (.iload_n 1, 1) := by decide +kernel
theorem dX2_isBelow_5 : decode cX2_isBelow 5 = .ok (.invokevirtual 72, 3) := by decide +kernel
theorem dX2_isBelow_8 : decode cX2_isBelow 8 = .ok (.ifCond .eq 35, 3) := by decide +kernel
theorem dX2_isBelow_11 : decode cX2_isBelow 11 = .ok (.aload_n 0, 1) := by decide +kernel
theorem dX2_isBelow_12 : decode cX2_isBelow 12 = .ok (.getfield 10, 3) := by decide +kernel
theorem dX2_isBelow_15 : decode cX2_isBelow 15 = .ok (.iload_n 2, 1) := by decide +kernel
theorem dX2_isBelow_16 : decode cX2_isBelow 16 = .ok (.invokevirtual 72, 3) := by decide +kernel
theorem dX2_isBelow_19 : decode cX2_isBelow 19 = .ok (.ifCond .eq 24, 3) := by decide +kernel
theorem dX2_isBelow_22 : decode cX2_isBelow 22 = .ok (.iload_n 1, 1) := by decide +kernel
theorem dX2_isBelow_23 : decode cX2_isBelow 23 = .ok (.iload_n 2, 1) := by decide +kernel
theorem dX2_isBelow_24 : decode cX2_isBelow 24 = .ok (.if_icmp .eq 15, 3) := by decide +kernel
theorem dX2_isBelow_27 : decode cX2_isBelow 27 = .ok (.aload_n 0, 1) := by decide +kernel
theorem dX2_isBelow_28 : decode cX2_isBelow 28 = .ok (.getfield 10, 3) := by decide +kernel
theorem dX2_isBelow_31 : decode cX2_isBelow 31 = .ok (.iload_n 1, 1) := by decide +kernel
theorem dX2_isBelow_32 : decode cX2_isBelow 32 = .ok (.iload_n 2, 1) := by decide +kernel
theorem dX2_isBelow_33 : decode cX2_isBelow 33 = .ok (.invokevirtual 75, 3) := by decide +kernel
theorem dX2_isBelow_36 : decode cX2_isBelow 36 = .ok (.ifCond .eq 7, 3) := by decide +kernel
theorem dX2_isBelow_39 : decode cX2_isBelow 39 = .ok (.iconst 1, 1) := by decide +kernel
theorem dX2_isBelow_40 : decode cX2_isBelow 40 = .ok (.goto 4, 3) := by decide +kernel
theorem dX2_isBelow_43 : decode cX2_isBelow 43 = .ok (.iconst 0, 1) := by decide +kernel
theorem dX2_isBelow_44 : decode cX2_isBelow 44 = .ok (.ireturn, 1) := by decide +kernel
set_option maxRecDepth 20000 in
theorem ggX2_face_X0_exists : GoodIn wsX2_face wsX0_exists := goodIn_r _ [7, 8, 17, 18, 19, 20, 21, 22, 23, 24, 25, 26] (by decide +kernel) (by decide +kernel)
set_option maxRecDepth 20000 in
theorem gX2_face_X0_exists : GoodIn wsX2_face (wsV RX2 72 RX0 yX0_exists wsX0_exists) := goodIn_app (goodIn_of _ (by decide +kernel)) ggX2_face_X0_exists
set_option maxRecDepth 20000 in
theorem ggX2_face_X0_faceAt : GoodIn wsX2_face wsX0_faceAt := goodIn_r _ [12, 13, 14, 17, 18, 19, 20, 21, 22, 23, 24, 25, 26] (by decide +kernel) (by decide +kernel)
set_option maxRecDepth 20000 in
theorem gX2_face_X0_faceAt : GoodIn wsX2_face (wsV RX2 82 RX0 yX0_faceAt wsX0_faceAt) := goodIn_app (goodIn_of _ (by decide +kernel)) ggX2_face_X0_faceAt
theorem dX2_face_0 : decode cX2_face 0 = .ok (.aload_n 0, 1) := by decide +kernel
theorem dX2_face_1 : decode cX2_face 1 = .ok (.getfield 10, 3) := by decide +kernel
theorem dX2_face_4 : decode cX2_face 4 = .ok (.iload_n 1, 1) := by decide +kernel
theorem dX2_face_5 : decode cX2_face 5 = .ok (.invokevirtual 72, 3) := by decide +kernel
theorem dX2_face_8 : decode cX2_face 8 = .ok (.ifCond .eq 20, 3) := by decide +kernel
theorem dX2_face_11 : decode cX2_face 11 = .ok (.iload_n 2, 1) := by decide +kernel
theorem dX2_face_12 : decode cX2_face 12 = .ok (.ifCond .lt 16, 3) := by decide +kernel
theorem dX2_face_15 : decode cX2_face 15 = .ok (.iload_n 2, 1) := by decide +kernel
theorem dX2_face_16 : decode cX2_face 16 = .ok (.aload_n 0, 1) := by decide +kernel
theorem dX2_face_17 : decode cX2_face 17 = .ok (.getfield 10, 3) := by decide +kernel
theorem dX2_face_20 : decode cX2_face 20 = .ok (.getfield 79, 3) := by decide +kernel
theorem dX2_face_23 : decode cX2_face 23 = .ok (.iload_n 1, 1) := by decide +kernel
theorem dX2_face_24 : decode cX2_face 24 = .ok (.iaload, 1) := by decide +kernel
theorem dX2_face_25 : decode cX2_face 25 = .ok (.if_icmp .lt 5, 3) := by decide +kernel
theorem dX2_face_28 : decode cX2_face 28 = .ok (.iconst (-1), 1) := by decide +kernel
theorem dX2_face_29 : decode cX2_face 29 = .ok (.ireturn, 1) := by decide +kernel
theorem dX2_face_30 : decode cX2_face 30 = .ok (.aload_n 0, 1) := by decide +kernel
theorem dX2_face_31 : decode cX2_face 31 = .ok (.getfield 10, 3) := by decide +kernel
theorem dX2_face_34 : decode cX2_face 34 = .ok (.iload_n 1, 1) := by decide +kernel
theorem dX2_face_35 : decode cX2_face 35 = .ok (.iload_n 2, 1) := by decide +kernel
theorem dX2_face_36 : decode cX2_face 36 = .ok (.invokevirtual 82, 3) := by decide +kernel
theorem dX2_face_39 : decode cX2_face 39 = .ok (.ireturn, 1) := by decide +kernel
set_option maxRecDepth 20000 in
theorem ggX2_overrides_X1_exists : GoodIn wsX2_overrides wsX1_exists := goodIn_r _ [6, 7, 65, 66, 67, 68, 69, 70, 71] (by decide +kernel) (by decide +kernel)
set_option maxRecDepth 20000 in
theorem gX2_overrides_X1_exists : GoodIn wsX2_overrides (wsV RX2 85 RX1 yX1_exists wsX1_exists) := goodIn_app (goodIn_of _ (by decide +kernel)) ggX2_overrides_X1_exists
set_option maxRecDepth 20000 in
theorem ggX2_overrides_X2_replaces : GoodIn wsX2_overrides wsX2_replaces := goodIn_r _ [12, 1, 13, 14, 15, 16, 17, 18, 11, 19, 20, 21, 22, 23, 5, 24, 25, 26, 27, 28, 29, 30, 31, 32, 33, 34, 35, 36, 37, 38, 39, 40, 41, 42, 43, 44, 45, 46, 47, 48, 49, 50, 51, 52, 53, 54, 55, 56, 57, 58, 59, 60, 61, 62, 63, 64, 72, 73, 74, 75, 76, 77, 78, 79, 80, 81, 65, 66, 67, 68, 69, 70, 71] (by decide +kernel) (by decide +kernel)
set_option maxRecDepth 20000 in
theorem gX2_overrides_X2_replaces : GoodIn wsX2_overrides (wsV RX2 86 RX2 yX2_replaces wsX2_replaces) := goodIn_app (goodIn_of _ (by decide +kernel)) ggX2_overrides_X2_replaces
theorem dX2_overrides_0 : decode cX2_overrides 0 = .ok (.aload_n 0, 1) := by decide +kernel
theorem dX2_overrides_1 : decode cX2_overrides 1 = .ok (.getfield 19, 3) := by decide +kernel
theorem dX2_overrides_4 : decode cX2_overrides 4 = .ok (.iload_n 1, 1) := by decide +kernel
theorem dX2_overrides_5 : decode cX2_overrides 5 = .ok (.invokevirtual 85, 3) := by decide +kernel
theorem dX2_overrides_8 : decode cX2_overrides 8 = .ok (.ifCond .eq 27, 3) := by decide +kernel
theorem dX2_overrides_11 : decode cX2_overrides 11 = .ok (.aload_n 0, 1) := by decide +kernel
theorem dX2_overrides_12 : decode cX2_overrides 12 = .ok (.getfield 19, 3) := by decide +kernel
theorem dX2_overrides_15 : decode cX2_overrides 15 = .ok (.iload_n 2, 1) := by decide +kernel
theorem dX2_overrides_16 : decode cX2_overrides 16 = .ok (.invokevirtual 85, 3) := by decide +kernel
theorem dX2_overrides_19 : decode cX2_overrides 19 = .ok (.ifCond .eq 16, 3) := by decide +kernel
theorem dX2_overrides_22 : decode cX2_overrides 22 = .ok (.aload_n 0, 1) := by decide +kernel
theorem dX2_overrides_23 : decode cX2_overrides 23 = .ok (.iload_n 1, 1) := by decide +kernel
theorem dX2_overrides_24 : decode cX2_overrides 24 = .ok (.iload_n 2, 1) := by decide +kernel
theorem dX2_overrides_25 : decode cX2_overrides 25 = .ok (.invokevirtual 86, 3) := by decide +kernel
theorem dX2_overrides_28 : decode cX2_overrides 28 = .ok (.ifCond .eq 7, 3) := by decide +kernel
theorem dX2_overrides_31 : decode cX2_overrides 31 = .ok (.iconst 1, 1) := by decide +kernel
theorem dX2_overrides_32 : decode cX2_overrides 32 = .ok (.goto 4, 3) := by decide +kernel
theorem dX2_overrides_35 : decode cX2_overrides 35 = .ok (.iconst 0, 1) := by decide +kernel
theorem dX2_overrides_36 : decode cX2_overrides 36 = .ok (.ireturn, 1) := by decide +kernel
set_option maxRecDepth 20000 in
theorem ggX2_broken_X0_exists : GoodIn wsX2_broken wsX0_exists := goodIn_r _ [9, 10, 82, 83, 84, 85, 86, 87, 88, 89, 90, 91] (by decide +kernel) (by decide +kernel)
set_option maxRecDepth 20000 in
theorem gX2_broken_X0_exists : GoodIn wsX2_broken (wsV RX2 72 RX0 yX0_exists wsX0_exists) := goodIn_app (goodIn_of _ (by decide +kernel)) ggX2_broken_X0_exists
set_option maxRecDepth 20000 in
theorem ggX2_broken_X2_replacesFinal : GoodIn wsX2_broken wsX2_replacesFinal := goodIn_r _ [15, 2, 16, 1, 17, 18, 19, 20, 8, 21, 22, 23, 24, 25, 26, 27, 28, 14, 29, 30, 31, 32, 33, 34, 35, 36, 37, 38, 39, 40, 41, 42, 43, 44, 45, 46, 47, 48, 49, 50, 51, 52, 53, 54, 55, 56, 57, 58, 59, 60, 61, 62, 63, 64, 65, 66, 67, 68, 69, 70, 71, 72, 73, 74, 75, 76, 77, 78, 79, 80, 81, 82, 83, 84, 85, 86, 87, 88, 89, 90, 91] (by decide +kernel) (by decide +kernel)
set_option maxRecDepth 20000 in
theorem gX2_broken_X2_replacesFinal : GoodIn wsX2_broken (wsV RX2 92 RX2 yX2_replacesFinal wsX2_replacesFinal) := goodIn_app (goodIn_of _ (by decide +kernel)) ggX2_broken_X2_replacesFinal
theorem dX2_broken_0 : decode cX2_broken 0 = .ok (.aload_n 0, 1) := by decide +kernel
theorem dX2_broken_1 : decode cX2_broken 1 = .ok (.getfield 10, 3) := by decide +kernel
theorem dX2_broken_4 : decode cX2_broken 4 = .ok (.iload_n 1, 1) := by decide +kernel
theorem dX2_broken_5 : decode cX2_broken 5 = .ok (.invokevirtual 72, 3) := by decide +kernel
theorem dX2_broken_8 : decode cX2_broken 8 = .ok (.ifCond .ne 5, 3) := by decide +kernel
theorem dX2_broken_11 : decode cX2_broken 11 = .ok (.iconst (-1), 1) := by decide +kernel
theorem dX2_broken_12 : decode cX2_broken 12 = .ok (.ireturn, 1) := by decide +kernel
theorem dX2_broken_13 : decode cX2_broken 13 = .ok (.aload_n 0, 1) := by decide +kernel
theorem dX2_broken_14 : decode cX2_broken 14 = .ok (.getfield 19, 3) := by decide +kernel
theorem dX2_broken_17 : decode cX2_broken 17 = .ok (.getfield 89, 3) := by decide +kernel
theorem dX2_broken_20 : decode cX2_broken 20 = .ok (.iload_n 1, 1) := by decide +kernel
theorem dX2_broken_21 : decode cX2_broken 21 = .ok (.iaload, 1) := by decide +kernel
theorem dX2_broken_22 : decode cX2_broken 22 = .ok (.aload_n 0, 1) := by decide +kernel
theorem dX2_broken_23 : decode cX2_broken 23 = .ok (.getfield 19, 3) := by decide +kernel
theorem dX2_broken_26 : decode cX2_broken 26 = .ok (.getfield 44, 3) := by decide +kernel
theorem dX2_broken_29 : decode cX2_broken 29 = .ok (.iload_n 1, 1) := by decide +kernel
theorem dX2_broken_30 : decode cX2_broken 30 = .ok (.iaload, 1) := by decide +kernel
theorem dX2_broken_31 : decode cX2_broken 31 = .ok (.iadd, 1) := by decide +kernel
theorem dX2_broken_32 : decode cX2_broken 32 = .ok (.istore_n 2, 1) := by decide +kernel
theorem dX2_broken_33 : decode cX2_broken 33 = .ok (.aload_n 0, 1) := by decide +kernel
theorem dX2_broken_34 : decode cX2_broken 34 = .ok (.getfield 19, 3) := by decide +kernel
theorem dX2_broken_37 : decode cX2_broken 37 = .ok (.getfield 89, 3) := by decide +kernel
theorem dX2_broken_40 : decode cX2_broken 40 = .ok (.iload_n 1, 1) := by decide +kernel
theorem dX2_broken_41 : decode cX2_broken 41 = .ok (.iaload, 1) := by decide +kernel
theorem dX2_broken_42 : decode cX2_broken 42 = .ok (.istore_n 3, 1) := by decide +kernel
theorem dX2_broken_43 : decode cX2_broken 43 = .ok (.iload_n 3, 1) := by decide +kernel
theorem dX2_broken_44 : decode cX2_broken 44 = .ok (.iload_n 2, 1) := by decide +kernel
theorem dX2_broken_45 : decode cX2_broken 45 = .ok (.if_icmp .ge 19, 3) := by decide +kernel
theorem dX2_broken_48 : decode cX2_broken 48 = .ok (.aload_n 0, 1) := by decide +kernel
theorem dX2_broken_49 : decode cX2_broken 49 = .ok (.iload_n 3, 1) := by decide +kernel
theorem dX2_broken_50 : decode cX2_broken 50 = .ok (.invokevirtual 92, 3) := by decide +kernel
theorem dX2_broken_53 : decode cX2_broken 53 = .ok (.ifCond .eq 5, 3) := by decide +kernel
theorem dX2_broken_56 : decode cX2_broken 56 = .ok (.iload_n 3, 1) := by decide +kernel
theorem dX2_broken_57 : decode cX2_broken 57 = .ok (.ireturn, 1) := by decide +kernel
theorem dX2_broken_58 : decode cX2_broken 58 = .ok (.iinc 3 1, 3) := by decide +kernel
theorem dX2_broken_61 : decode cX2_broken 61 = .ok (.goto (-18), 3) := by decide +kernel
theorem dX2_broken_64 : decode cX2_broken 64 = .ok (.iconst (-1), 1) := by decide +kernel
theorem dX2_broken_65 : decode cX2_broken 65 = .ok (.ireturn, 1) := by decide +kernel
set_option maxRecDepth 20000 in
theorem ggX2_nearest_X0_exists : GoodIn wsX2_nearest wsX0_exists := goodIn_r _ [7, 8, 39, 40, 41, 42, 43, 44, 45, 46, 47, 48] (by decide +kernel) (by decide +kernel)
set_option maxRecDepth 20000 in
theorem gX2_nearest_X0_exists : GoodIn wsX2_nearest (wsV RX2 72 RX0 yX0_exists wsX0_exists) := goodIn_app (goodIn_of _ (by decide +kernel)) ggX2_nearest_X0_exists
set_option maxRecDepth 20000 in
theorem ggX2_nearest_X2_hiddenFaces : GoodIn wsX2_nearest wsX2_hiddenFaces := goodIn_r _ [13, 1, 2, 14, 15, 16, 17, 18, 6, 19, 20, 21, 22, 23, 24, 25, 26, 27, 28, 29, 37, 38, 39, 40, 41, 42, 43, 44, 45, 46, 47, 48, 49, 50, 51, 52, 53, 54, 55] (by decide +kernel) (by decide +kernel)
set_option maxRecDepth 20000 in
theorem gX2_nearest_X2_hiddenFaces : GoodIn wsX2_nearest (wsV RX2 95 RX2 yX2_hiddenFaces wsX2_hiddenFaces) := goodIn_app (goodIn_of _ (by decide +kernel)) ggX2_nearest_X2_hiddenFaces
set_option maxRecDepth 20000 in
theorem ggX2_nearest_X2_nearestAt : GoodIn wsX2_nearest wsX2_nearestAt := goodIn_r _ [33, 1, 14, 16, 17, 18, 6, 19, 20, 21, 34, 35, 12, 36, 22, 23, 24, 25, 26, 27, 28, 29, 37, 38, 39, 40, 41, 42, 43, 44, 45, 46, 47, 48, 49, 50, 51, 52, 53, 54, 55] (by decide +kernel) (by decide +kernel)
set_option maxRecDepth 20000 in
theorem gX2_nearest_X2_nearestAt : GoodIn wsX2_nearest (wsV RX2 99 RX2 yX2_nearestAt wsX2_nearestAt) := goodIn_app (goodIn_of _ (by decide +kernel)) ggX2_nearest_X2_nearestAt
theorem dX2_nearest_0 : decode cX2_nearest 0 = .ok (.aload_n 0, 1) := by decide +kernel
theorem dX2_nearest_1 : decode cX2_nearest 1 = .ok (.getfield 10, 3) := by decide +kernel
theorem dX2_nearest_4 : decode cX2_nearest 4 = .ok (.iload_n 1, 1) := by decide +kernel
theorem dX2_nearest_5 : decode cX2_nearest 5 = .ok (.invokevirtual 72, 3) := by decide +kernel
theorem dX2_nearest_8 : decode cX2_nearest 8 = .ok (.ifCond .eq 7, 3) := by decide +kernel
theorem dX2_nearest_11 : decode cX2_nearest 11 = .ok (.iload_n 3, 1) := by decide +kernel
theorem dX2_nearest_12 : decode cX2_nearest 12 = .ok (.ifCond .ge 5, 3) := by decide +kernel
theorem dX2_nearest_15 : decode cX2_nearest 15 = .ok (.iconst (-1), 1) := by decide +kernel
theorem dX2_nearest_16 : decode cX2_nearest 16 = .ok (.ireturn, 1) := by decide +kernel
theorem dX2_nearest_17 : decode cX2_nearest 17 = .ok (.aload_n 0, 1) := by decide +kernel
theorem dX2_nearest_18 : decode cX2_nearest 18 = .ok (.iload_n 1, 1) := by decide +kernel
theorem dX2_nearest_19 : decode cX2_nearest 19 = .ok (.iload_n 2, 1) := by decide +kernel
theorem dX2_nearest_20 : decode cX2_nearest 20 = .ok (.invokevirtual 95, 3) := by decide +kernel
theorem dX2_nearest_23 : decode cX2_nearest 23 = .ok (.lstore 4, 2) := by decide +kernel
theorem dX2_nearest_25 : decode cX2_nearest 25 = .ok (.iconst 0, 1) := by decide +kernel
theorem dX2_nearest_26 : decode cX2_nearest 26 = .ok (.istore 6, 2) := by decide +kernel
theorem dX2_nearest_28 : decode cX2_nearest 28 = .ok (.iconst 0, 1) := by decide +kernel
theorem dX2_nearest_29 : decode cX2_nearest 29 = .ok (.istore 7, 2) := by decide +kernel
theorem dX2_nearest_31 : decode cX2_nearest 31 = .ok (.iload 7, 2) := by decide +kernel
theorem dX2_nearest_33 : decode cX2_nearest 33 = .ok (.aload_n 0, 1) := by decide +kernel
theorem dX2_nearest_34 : decode cX2_nearest 34 = .ok (.getfield 10, 3) := by decide +kernel
theorem dX2_nearest_37 : decode cX2_nearest 37 = .ok (.getfield 79, 3) := by decide +kernel
theorem dX2_nearest_40 : decode cX2_nearest 40 = .ok (.iload_n 1, 1) := by decide +kernel
theorem dX2_nearest_41 : decode cX2_nearest 41 = .ok (.iaload, 1) := by decide +kernel
theorem dX2_nearest_42 : decode cX2_nearest 42 = .ok (.if_icmp .ge 39, 3) := by decide +kernel
theorem dX2_nearest_45 : decode cX2_nearest 45 = .ok (.aload_n 0, 1) := by decide +kernel
theorem dX2_nearest_46 : decode cX2_nearest 46 = .ok (.iload_n 1, 1) := by decide +kernel
theorem dX2_nearest_47 : decode cX2_nearest 47 = .ok (.iload_n 2, 1) := by decide +kernel
theorem dX2_nearest_48 : decode cX2_nearest 48 = .ok (.iload 7, 2) := by decide +kernel
theorem dX2_nearest_50 : decode cX2_nearest 50 = .ok (.lload 4, 2) := by decide +kernel
theorem dX2_nearest_52 : decode cX2_nearest 52 = .ok (.invokevirtual 99, 3) := by decide +kernel
theorem dX2_nearest_55 : decode cX2_nearest 55 = .ok (.istore 8, 2) := by decide +kernel
theorem dX2_nearest_57 : decode cX2_nearest 57 = .ok (.iload 8, 2) := by decide +kernel
theorem dX2_nearest_59 : decode cX2_nearest 59 = .ok (.iconst (-1), 1) := by decide +kernel
theorem dX2_nearest_60 : decode cX2_nearest 60 = .ok (.if_icmp .eq 15, 3) := by decide +kernel
theorem dX2_nearest_63 : decode cX2_nearest 63 = .ok (.iload 6, 2) := by decide +kernel
theorem dX2_nearest_65 : decode cX2_nearest 65 = .ok (.iload_n 3, 1) := by decide +kernel
theorem dX2_nearest_66 : decode cX2_nearest 66 = .ok (.if_icmp .ne 6, 3) := by decide +kernel
theorem dX2_nearest_69 : decode cX2_nearest 69 = .ok (.iload 8, 2) := by decide +kernel
theorem dX2_nearest_71 : decode cX2_nearest 71 = .ok (.ireturn, 1) := by decide +kernel
theorem dX2_nearest_72 : decode cX2_nearest 72 = .ok (.iinc 6 1, 3) := by decide +kernel
theorem dX2_nearest_75 : decode cX2_nearest 75 = .ok (.iinc 7 1, 3) := by decide +kernel
theorem dX2_nearest_78 : decode cX2_nearest 78 = .ok (.goto (-47), 3) := by decide +kernel
theorem dX2_nearest_81 : decode cX2_nearest 81 = .ok (.iconst (-1), 1) := by decide +kernel
theorem dX2_nearest_82 : decode cX2_nearest 82 = .ok (.ireturn, 1) := by decide +kernel
set_option maxRecDepth 20000 in
theorem ggX2_find_X0_exists : GoodIn wsX2_find wsX0_exists := goodIn_r _ [6, 7, 66, 67, 68, 69, 70, 71, 72, 73, 74, 75] (by decide +kernel) (by decide +kernel)
set_option maxRecDepth 20000 in
theorem gX2_find_X0_exists : GoodIn wsX2_find (wsV RX2 72 RX0 yX0_exists wsX0_exists) := goodIn_app (goodIn_of _ (by decide +kernel)) ggX2_find_X0_exists
set_option maxRecDepth 20000 in
theorem ggX2_find_X2_firstInRow : GoodIn wsX2_find wsX2_firstInRow := goodIn_r _ [12, 1, 13, 14, 15, 16, 5, 17, 18, 19, 20, 21, 22, 23, 24, 11, 25, 26, 27, 28, 29, 30, 31, 32, 33, 64, 65, 66, 67, 68, 69, 70, 71, 72, 73, 74, 75, 76, 77, 78, 79, 80, 81, 82] (by decide +kernel) (by decide +kernel)
set_option maxRecDepth 20000 in
theorem gX2_find_X2_firstInRow : GoodIn wsX2_find (wsV RX2 103 RX2 yX2_firstInRow wsX2_firstInRow) := goodIn_app (goodIn_of _ (by decide +kernel)) ggX2_find_X2_firstInRow
set_option maxRecDepth 20000 in
theorem ggX2_find_X2_onlyConcreteNearest : GoodIn wsX2_find wsX2_onlyConcreteNearest := goodIn_r _ [37, 1, 38, 13, 39, 40, 41, 11, 42, 43, 44, 45, 46, 5, 47, 48, 49, 26, 27, 28, 29, 30, 31, 32, 33, 50, 51, 52, 53, 54, 24, 25, 55, 56, 57, 58, 59, 64, 65, 66, 67, 68, 69, 70, 71, 72, 73, 74, 75, 76, 77, 78, 79, 80, 81, 82] (by decide +kernel) (by decide +kernel)
set_option maxRecDepth 20000 in
theorem gX2_find_X2_onlyConcreteNearest : GoodIn wsX2_find (wsV RX2 106 RX2 yX2_onlyConcreteNearest wsX2_onlyConcreteNearest) := goodIn_app (goodIn_of _ (by decide +kernel)) ggX2_find_X2_onlyConcreteNearest
set_option maxRecDepth 20000 in
theorem ggX2_find_X2_firstInFaces : GoodIn wsX2_find wsX2_firstInFaces := goodIn_r _ [63, 1, 38, 13, 44, 45, 46, 5, 47, 48, 49, 26, 27, 28, 29, 30, 31, 32, 33, 64, 65, 66, 67, 68, 69, 70, 71, 72, 73, 74, 75, 76, 77, 78, 79, 80, 81, 82] (by decide +kernel) (by decide +kernel)
set_option maxRecDepth 20000 in
theorem gX2_find_X2_firstInFaces : GoodIn wsX2_find (wsV RX2 109 RX2 yX2_firstInFaces wsX2_firstInFaces) := goodIn_app (goodIn_of _ (by decide +kernel)) ggX2_find_X2_firstInFaces
theorem dX2_find_0 : decode cX2_find 0 = .ok (.aload_n 0, 1) := by decide +kernel
theorem dX2_find_1 : decode cX2_find 1 = .ok (.getfield 10, 3) := by decide +kernel
theorem dX2_find_4 : decode cX2_find 4 = .ok (.iload_n 1, 1) := by decide +kernel
theorem dX2_find_5 : decode cX2_find 5 = .ok (.invokevirtual 72, 3) := by decide +kernel
theorem dX2_find_8 : decode cX2_find 8 = .ok (.ifCond .ne 6, 3) := by decide +kernel
theorem dX2_find_11 : decode cX2_find 11 = .ok (.bipush (-14), 2) := by decide +kernel
theorem dX2_find_13 : decode cX2_find 13 = .ok (.ireturn, 1) := by decide +kernel
theorem dX2_find_14 : decode cX2_find 14 = .ok (.aload_n 0, 1) := by decide +kernel
theorem dX2_find_15 : decode cX2_find 15 = .ok (.iload_n 1, 1) := by decide +kernel
theorem dX2_find_16 : decode cX2_find 16 = .ok (.iload_n 2, 1) := by decide +kernel
theorem dX2_find_17 : decode cX2_find 17 = .ok (.invokevirtual 103, 3) := by decide +kernel
theorem dX2_find_20 : decode cX2_find 20 = .ok (.istore_n 3, 1) := by decide +kernel
theorem dX2_find_21 : decode cX2_find 21 = .ok (.iload_n 3, 1) := by decide +kernel
theorem dX2_find_22 : decode cX2_find 22 = .ok (.iconst (-1), 1) := by decide +kernel
theorem dX2_find_23 : decode cX2_find 23 = .ok (.if_icmp .eq 5, 3) := by decide +kernel
theorem dX2_find_26 : decode cX2_find 26 = .ok (.iload_n 3, 1) := by decide +kernel
theorem dX2_find_27 : decode cX2_find 27 = .ok (.ireturn, 1) := by decide +kernel
theorem dX2_find_28 : decode cX2_find 28 = .ok (.aload_n 0, 1) := by decide +kernel
theorem dX2_find_29 : decode cX2_find 29 = .ok (.iload_n 1, 1) := by decide +kernel
theorem dX2_find_30 : decode cX2_find 30 = .ok (.iload_n 2, 1) := by decide +kernel
theorem dX2_find_31 : decode cX2_find 31 = .ok (.invokevirtual 106, 3) := by decide +kernel
theorem dX2_find_34 : decode cX2_find 34 = .ok (.istore 4, 2) := by decide +kernel
theorem dX2_find_36 : decode cX2_find 36 = .ok (.iload 4, 2) := by decide +kernel
theorem dX2_find_38 : decode cX2_find 38 = .ok (.ifCond .lt 8, 3) := by decide +kernel
theorem dX2_find_41 : decode cX2_find 41 = .ok (.iload 4, 2) := by decide +kernel
theorem dX2_find_43 : decode cX2_find 43 = .ok (.goto 9, 3) := by decide +kernel
theorem dX2_find_46 : decode cX2_find 46 = .ok (.aload_n 0, 1) := by decide +kernel
theorem dX2_find_47 : decode cX2_find 47 = .ok (.iload_n 1, 1) := by decide +kernel
theorem dX2_find_48 : decode cX2_find 48 = .ok (.iload_n 2, 1) := by decide +kernel
theorem dX2_find_49 : decode cX2_find 49 = .ok (.invokevirtual 109, 3) := by decide +kernel
theorem dX2_find_52 : decode cX2_find 52 = .ok (.ireturn, 1) := by decide +kernel
set_option maxRecDepth 20000 in
theorem ggX2_choose_X0_isPlain : GoodIn wsX2_choose wsX0_isPlain := goodIn_r _ [9, 10, 11, 12, 13, 8, 14, 15, 122, 123, 124, 125, 126, 127, 128, 129, 130, 131] (by decide +kernel) (by decide +kernel)
set_option maxRecDepth 20000 in
theorem gX2_choose_X0_isPlain : GoodIn wsX2_choose (wsV RX2 23 RX0 yX0_isPlain wsX0_isPlain) := goodIn_app (goodIn_of _ (by decide +kernel)) ggX2_choose_X0_isPlain
set_option maxRecDepth 20000 in
theorem ggX2_choose_X1_exists : GoodIn wsX2_choose wsX1_exists := goodIn_r _ [20, 21, 115, 116, 117, 118, 119, 120, 121] (by decide +kernel) (by decide +kernel)
set_option maxRecDepth 20000 in
theorem gX2_choose_X1_exists : GoodIn wsX2_choose (wsV RX2 85 RX1 yX1_exists wsX1_exists) := goodIn_app (goodIn_of _ (by decide +kernel)) ggX2_choose_X1_exists
set_option maxRecDepth 20000 in
theorem ggX2_choose_X1_isStatic : GoodIn wsX2_choose wsX1_isStatic := goodIn_r _ [25, 26, 115, 116, 117, 118, 119, 120, 121] (by decide +kernel) (by decide +kernel)
set_option maxRecDepth 20000 in
theorem gX2_choose_X1_isStatic : GoodIn wsX2_choose (wsV RX2 112 RX1 yX1_isStatic wsX1_isStatic) := goodIn_app (goodIn_of _ (by decide +kernel)) ggX2_choose_X1_isStatic
set_option maxRecDepth 20000 in
theorem ggX2_choose_X2_isBelow : GoodIn wsX2_choose wsX2_isBelow := goodIn_r _ [31, 1, 32, 12, 13, 8, 14, 15, 33, 34, 35, 36, 37, 38, 30, 39, 113, 114, 122, 123, 124, 125, 126, 127, 128, 129, 130, 131] (by decide +kernel) (by decide +kernel)
set_option maxRecDepth 20000 in
theorem gX2_choose_X2_isBelow : GoodIn wsX2_choose (wsV RX2 118 RX2 yX2_isBelow wsX2_isBelow) := goodIn_app (goodIn_of _ (by decide +kernel)) ggX2_choose_X2_isBelow
set_option maxRecDepth 20000 in
theorem ggX2_choose_X1_isPrivate : GoodIn wsX2_choose wsX1_isPrivate := goodIn_r _ [43, 44, 115, 116, 117, 118, 119, 120, 121] (by decide +kernel) (by decide +kernel)
set_option maxRecDepth 20000 in
theorem gX2_choose_X1_isPrivate : GoodIn wsX2_choose (wsV RX2 121 RX1 yX1_isPrivate wsX1_isPrivate) := goodIn_app (goodIn_of _ (by decide +kernel)) ggX2_choose_X1_isPrivate
set_option maxRecDepth 20000 in
theorem ggX2_choose_X2_firstReplacing : GoodIn wsX2_choose wsX2_firstReplacing := goodIn_r _ [48, 1, 2, 4, 49, 50, 51, 8, 52, 10, 53, 34, 35, 36, 37, 38, 30, 39, 54, 55, 56, 19, 57, 58, 59, 60, 61, 62, 63, 64, 65, 3, 66, 67, 68, 69, 70, 71, 72, 73, 74, 23, 24, 25, 26, 75, 41, 42, 43, 44, 76, 77, 78, 79, 80, 81, 82, 83, 113, 114, 115, 116, 117, 118, 119, 120, 121, 122, 123, 124, 125, 126, 127, 128, 129, 130, 131] (by decide +kernel) (by decide +kernel)
set_option maxRecDepth 20000 in
theorem gX2_choose_X2_firstReplacing : GoodIn wsX2_choose (wsV RX2 124 RX2 yX2_firstReplacing wsX2_firstReplacing) := goodIn_app (goodIn_of _ (by decide +kernel)) ggX2_choose_X2_firstReplacing
set_option maxRecDepth 20000 in
theorem ggX2_choose_X2_unlessAbstract : GoodIn wsX2_choose wsX2_unlessAbstract := goodIn_r _ [87, 2, 88, 89, 90, 19, 91, 26, 113, 114, 115, 116, 117, 118, 119, 120, 121] (by decide +kernel) (by decide +kernel)
set_option maxRecDepth 20000 in
theorem gX2_choose_X2_unlessAbstract : GoodIn wsX2_choose (wsV RX2 127 RX2 yX2_unlessAbstract wsX2_unlessAbstract) := goodIn_app (goodIn_of _ (by decide +kernel)) ggX2_choose_X2_unlessAbstract
set_option maxRecDepth 20000 in
theorem ggX2_choose_X2_onlyConcreteNearest : GoodIn wsX2_choose wsX2_onlyConcreteNearest := goodIn_r _ [95, 1, 96, 2, 97, 98, 99, 30, 100, 101, 102, 103, 104, 8, 105, 106, 107, 54, 55, 56, 19, 57, 58, 59, 60, 108, 109, 110, 111, 112, 38, 39, 88, 89, 90, 91, 26, 113, 114, 122, 123, 124, 125, 126, 127, 128, 129, 130, 131, 115, 116, 117, 118, 119, 120, 121] (by decide +kernel) (by decide +kernel)
set_option maxRecDepth 20000 in
theorem gX2_choose_X2_onlyConcreteNearest : GoodIn wsX2_choose (wsV RX2 106 RX2 yX2_onlyConcreteNearest wsX2_onlyConcreteNearest) := goodIn_app (goodIn_of _ (by decide +kernel)) ggX2_choose_X2_onlyConcreteNearest
theorem dX2_choose_0 : decode cX2_choose 0 = .ok (.aload_n 0, 1) := by decide +kernel
theorem dX2_choose_1 : decode cX2_choose 1 = .ok (.getfield 10, 3) := by decide +kernel
theorem dX2_choose_4 : decode cX2_choose 4 = .ok (.iload_n 1, 1) := by decide +kernel
theorem dX2_choose_5 : decode cX2_choose 5 = .ok (.invokevirtual 23, 3) := by decide +kernel
theorem dX2_choose_8 : decode cX2_choose 8 = .ok (.ifCond .eq 25, 3) := by decide +kernel
theorem dX2_choose_11 : decode cX2_choose 11 = .ok (.aload_n 0, 1) := by decide +kernel
theorem dX2_choose_12 : decode cX2_choose 12 = .ok (.getfield 19, 3) := by decide +kernel
theorem dX2_choose_15 : decode cX2_choose 15 = .ok (.iload_n 2, 1) := by decide +kernel
theorem dX2_choose_16 : decode cX2_choose 16 = .ok (.invokevirtual 85, 3) := by decide +kernel
theorem dX2_choose_19 : decode cX2_choose 19 = .ok (.ifCond .eq 14, 3) := by decide +kernel
theorem dX2_choose_22 : decode cX2_choose 22 = .ok (.aload_n 0, 1) := by decide +kernel
theorem dX2_choose_23 : decode cX2_choose 23 = .ok (.getfield 19, 3) := by decide +kernel
theorem dX2_choose_26 : decode cX2_choose 26 = .ok (.iload_n 2, 1) := by decide +kernel
theorem dX2_choose_27 : decode cX2_choose 27 = .ok (.invokevirtual 112, 3) := by decide +kernel
theorem dX2_choose_30 : decode cX2_choose 30 = .ok (.ifCond .eq 6, 3) := by decide +kernel
theorem dX2_choose_33 : decode cX2_choose 33 = .ok (.bipush (-14), 2) := by decide +kernel
theorem dX2_choose_35 : decode cX2_choose 35 = .ok (.ireturn, 1) := by decide +kernel
theorem dX2_choose_36 : decode cX2_choose 36 = .ok (.aload_n 0, 1) := by decide +kernel
theorem dX2_choose_37 : decode cX2_choose 37 = .ok (.iload_n 1, 1) := by decide +kernel
theorem dX2_choose_38 : decode cX2_choose 38 = .ok (.aload_n 0, 1) := by decide +kernel
theorem dX2_choose_39 : decode cX2_choose 39 = .ok (.getfield 19, 3) := by decide +kernel
theorem dX2_choose_42 : decode cX2_choose 42 = .ok (.getfield 115, 3) := by decide +kernel
theorem dX2_choose_45 : decode cX2_choose 45 = .ok (.iload_n 2, 1) := by decide +kernel
theorem dX2_choose_46 : decode cX2_choose 46 = .ok (.iaload, 1) := by decide +kernel
theorem dX2_choose_47 : decode cX2_choose 47 = .ok (.invokevirtual 118, 3) := by decide +kernel
theorem dX2_choose_50 : decode cX2_choose 50 = .ok (.ifCond .ne 6, 3) := by decide +kernel
theorem dX2_choose_53 : decode cX2_choose 53 = .ok (.bipush (-14), 2) := by decide +kernel
theorem dX2_choose_55 : decode cX2_choose 55 = .ok (.ireturn, 1) := by decide +kernel
theorem dX2_choose_56 : decode cX2_choose 56 = .ok (.aload_n 0, 1) := by decide +kernel
theorem dX2_choose_57 : decode cX2_choose 57 = .ok (.getfield 19, 3) := by decide +kernel
theorem dX2_choose_60 : decode cX2_choose 60 = .ok (.iload_n 2, 1) := by decide +kernel
theorem dX2_choose_61 : decode cX2_choose 61 = .ok (.invokevirtual 121, 3) := by decide +kernel
theorem dX2_choose_64 : decode cX2_choose 64 = .ok (.ifCond .eq 5, 3) := by decide +kernel
theorem dX2_choose_67 : decode cX2_choose 67 = .ok (.iload_n 2, 1) := by decide +kernel
theorem dX2_choose_68 : decode cX2_choose 68 = .ok (.ireturn, 1) := by decide +kernel
theorem dX2_choose_69 : decode cX2_choose 69 = .ok (.aload_n 0, 1) := by decide +kernel
theorem dX2_choose_70 : decode cX2_choose 70 = .ok (.iload_n 1, 1) := by decide +kernel
theorem dX2_choose_71 : decode cX2_choose 71 = .ok (.iload_n 2, 1) := by decide +kernel
theorem dX2_choose_72 : decode cX2_choose 72 = .ok (.invokevirtual 124, 3) := by decide +kernel
theorem dX2_choose_75 : decode cX2_choose 75 = .ok (.istore_n 3, 1) := by decide +kernel
theorem dX2_choose_76 : decode cX2_choose 76 = .ok (.iload_n 3, 1) := by decide +kernel
theorem dX2_choose_77 : decode cX2_choose 77 = .ok (.iconst (-1), 1) := by decide +kernel
theorem dX2_choose_78 : decode cX2_choose 78 = .ok (.if_icmp .eq 9, 3) := by decide +kernel
theorem dX2_choose_81 : decode cX2_choose 81 = .ok (.aload_n 0, 1) := by decide +kernel
theorem dX2_choose_82 : decode cX2_choose 82 = .ok (.iload_n 3, 1) := by decide +kernel
theorem dX2_choose_83 : decode cX2_choose 83 = .ok (.invokevirtual 127, 3) := by decide +kernel
theorem dX2_choose_86 : decode cX2_choose 86 = .ok (.ireturn, 1) := by decide +kernel
theorem dX2_choose_87 : decode cX2_choose 87 = .ok (.aload_n 0, 1) := by decide +kernel
theorem dX2_choose_88 : decode cX2_choose 88 = .ok (.iload_n 1, 1) := by decide +kernel
theorem dX2_choose_89 : decode cX2_choose 89 = .ok (.aload_n 0, 1) := by decide +kernel
theorem dX2_choose_90 : decode cX2_choose 90 = .ok (.getfield 19, 3) := by decide +kernel
theorem dX2_choose_93 : decode cX2_choose 93 = .ok (.getfield 131, 3) := by decide +kernel
theorem dX2_choose_96 : decode cX2_choose 96 = .ok (.iload_n 2, 1) := by decide +kernel
theorem dX2_choose_97 : decode cX2_choose 97 = .ok (.iaload, 1) := by decide +kernel
theorem dX2_choose_98 : decode cX2_choose 98 = .ok (.invokevirtual 106, 3) := by decide +kernel
theorem dX2_choose_101 : decode cX2_choose 101 = .ok (.istore 4, 2) := by decide +kernel
theorem dX2_choose_103 : decode cX2_choose 103 = .ok (.iload 4, 2) := by decide +kernel
theorem dX2_choose_105 : decode cX2_choose 105 = .ok (.iconst (-1), 1) := by decide +kernel
theorem dX2_choose_106 : decode cX2_choose 106 = .ok (.if_icmp .ne 8, 3) := by decide +kernel
theorem dX2_choose_109 : decode cX2_choose 109 = .ok (.bipush (-25), 2) := by decide +kernel
theorem dX2_choose_111 : decode cX2_choose 111 = .ok (.goto 5, 3) := by decide +kernel
theorem dX2_choose_114 : decode cX2_choose 114 = .ok (.iload 4, 2) := by decide +kernel
theorem dX2_choose_116 : decode cX2_choose 116 = .ok (.ireturn, 1) := by decide +kernel
set_option maxRecDepth 20000 in
theorem ggX2_special_X0_isPlain : GoodIn wsX2_special wsX0_isPlain := goodIn_r _ [8, 9, 10, 11, 12, 7, 13, 14, 94, 95, 96, 97, 98, 99, 100, 101, 102, 103] (by decide +kernel) (by decide +kernel)
set_option maxRecDepth 20000 in
theorem gX2_special_X0_isPlain : GoodIn wsX2_special (wsV RX2 23 RX0 yX0_isPlain wsX0_isPlain) := goodIn_app (goodIn_of _ (by decide +kernel)) ggX2_special_X0_isPlain
set_option maxRecDepth 20000 in
theorem ggX2_special_X2_find : GoodIn wsX2_special wsX2_find := goodIn_r _ [19, 1, 20, 11, 12, 7, 13, 14, 21, 22, 23, 18, 24, 2, 25, 26, 27, 28, 9, 29, 30, 31, 32, 33, 34, 35, 36, 37, 38, 39, 40, 41, 42, 43, 44, 45, 46, 47, 48, 49, 50, 51, 52, 53, 54, 55, 56, 57, 58, 59, 60, 61, 62, 63, 64, 65, 66, 67, 68, 69, 70, 71, 72, 73, 92, 93, 94, 95, 96, 97, 98, 99, 100, 101, 102, 103, 104, 105, 106, 107, 108, 109, 110] (by decide +kernel) (by decide +kernel)
set_option maxRecDepth 20000 in
theorem gX2_special_X2_find : GoodIn wsX2_special (wsV RX2 134 RX2 yX2_find wsX2_find) := goodIn_app (goodIn_of _ (by decide +kernel)) ggX2_special_X2_find
set_option maxRecDepth 20000 in
theorem ggX2_special_X1_isStatic : GoodIn wsX2_special wsX1_isStatic := goodIn_r _ [77, 69, 104, 105, 106, 107, 108, 109, 110] (by decide +kernel) (by decide +kernel)
set_option maxRecDepth 20000 in
theorem gX2_special_X1_isStatic : GoodIn wsX2_special (wsV RX2 112 RX1 yX1_isStatic wsX1_isStatic) := goodIn_app (goodIn_of _ (by decide +kernel)) ggX2_special_X1_isStatic
set_option maxRecDepth 20000 in
theorem ggX2_special_X1_isPrivate : GoodIn wsX2_special wsX1_isPrivate := goodIn_r _ [81, 82, 104, 105, 106, 107, 108, 109, 110] (by decide +kernel) (by decide +kernel)
set_option maxRecDepth 20000 in
theorem gX2_special_X1_isPrivate : GoodIn wsX2_special (wsV RX2 121 RX1 yX1_isPrivate wsX1_isPrivate) := goodIn_app (goodIn_of _ (by decide +kernel)) ggX2_special_X1_isPrivate
set_option maxRecDepth 20000 in
theorem ggX2_special_X0_below : GoodIn wsX2_special wsX0_below := goodIn_r _ [32, 33, 34, 18, 35, 94, 95, 96, 97, 98, 99, 100, 101, 102, 103] (by decide +kernel) (by decide +kernel)
set_option maxRecDepth 20000 in
theorem gX2_special_X0_below : GoodIn wsX2_special (wsV RX2 75 RX0 yX0_below wsX0_below) := goodIn_app (goodIn_of _ (by decide +kernel)) ggX2_special_X0_below
set_option maxRecDepth 20000 in
theorem ggX2_special_X2_firstInstanceInRow : GoodIn wsX2_special wsX2_firstInstanceInRow := goodIn_r _ [87, 1, 2, 25, 26, 27, 7, 28, 9, 29, 30, 31, 32, 33, 34, 18, 35, 36, 37, 38, 39, 40, 41, 42, 43, 74, 75, 76, 77, 69, 92, 93, 94, 95, 96, 97, 98, 99, 100, 101, 102, 103, 104, 105, 106, 107, 108, 109, 110] (by decide +kernel) (by decide +kernel)
set_option maxRecDepth 20000 in
theorem gX2_special_X2_firstInstanceInRow : GoodIn wsX2_special (wsV RX2 140 RX2 yX2_firstInstanceInRow wsX2_firstInstanceInRow) := goodIn_app (goodIn_of _ (by decide +kernel)) ggX2_special_X2_firstInstanceInRow
set_option maxRecDepth 20000 in
theorem ggX2_special_X2_unlessAbstract : GoodIn wsX2_special wsX2_unlessAbstract := goodIn_r _ [91, 2, 65, 66, 67, 39, 68, 69, 92, 93, 104, 105, 106, 107, 108, 109, 110] (by decide +kernel) (by decide +kernel)
set_option maxRecDepth 20000 in
theorem gX2_special_X2_unlessAbstract : GoodIn wsX2_special (wsV RX2 127 RX2 yX2_unlessAbstract wsX2_unlessAbstract) := goodIn_app (goodIn_of _ (by decide +kernel)) ggX2_special_X2_unlessAbstract
set_option maxRecDepth 20000 in
theorem ggX2_special_X2_onlyConcreteNearest : GoodIn wsX2_special wsX2_onlyConcreteNearest := goodIn_r _ [47, 1, 48, 2, 49, 50, 51, 18, 52, 53, 54, 55, 56, 7, 57, 58, 59, 36, 37, 38, 39, 40, 41, 42, 43, 60, 61, 62, 63, 64, 34, 35, 65, 66, 67, 68, 69, 92, 93, 94, 95, 96, 97, 98, 99, 100, 101, 102, 103, 104, 105, 106, 107, 108, 109, 110] (by decide +kernel) (by decide +kernel)
set_option maxRecDepth 20000 in
theorem gX2_special_X2_onlyConcreteNearest : GoodIn wsX2_special (wsV RX2 106 RX2 yX2_onlyConcreteNearest wsX2_onlyConcreteNearest) := goodIn_app (goodIn_of _ (by decide +kernel)) ggX2_special_X2_onlyConcreteNearest
theorem dX2_special_0 : decode cX2_special 0 = .ok (.aload_n 0, 1) := by decide +kernel
theorem dX2_special_1 : decode cX2_special 1 = .ok (.getfield 10, 3) := by decide +kernel
theorem dX2_special_4 : decode cX2_special 4 = .ok (.iload_n 1, 1) := by decide +kernel
theorem dX2_special_5 : decode cX2_special 5 = .ok (.invokevirtual 23, 3) := by decide +kernel
theorem dX2_special_8 : decode cX2_special 8 = .ok (.ifCond .eq 14, 3) := by decide +kernel
theorem dX2_special_11 : decode cX2_special 11 = .ok (.aload_n 0, 1) := by decide +kernel
theorem dX2_special_12 : decode cX2_special 12 = .ok (.getfield 10, 3) := by decide +kernel
theorem dX2_special_15 : decode cX2_special 15 = .ok (.iload_n 2, 1) := by decide +kernel
theorem dX2_special_16 : decode cX2_special 16 = .ok (.invokevirtual 23, 3) := by decide +kernel
theorem dX2_special_19 : decode cX2_special 19 = .ok (.ifCond .ne 6, 3) := by decide +kernel
theorem dX2_special_22 : decode cX2_special 22 = .ok (.bipush (-14), 2) := by decide +kernel
theorem dX2_special_24 : decode cX2_special 24 = .ok (.ireturn, 1) := by decide +kernel
theorem dX2_special_25 : decode cX2_special 25 = .ok (.aload_n 0, 1) := by decide +kernel
theorem dX2_special_26 : decode cX2_special 26 = .ok (.iload_n 2, 1) := by decide +kernel
theorem dX2_special_27 : decode cX2_special 27 = .ok (.iload_n 3, 1) := by decide +kernel
theorem dX2_special_28 : decode cX2_special 28 = .ok (.invokevirtual 134, 3) := by decide +kernel
theorem dX2_special_31 : decode cX2_special 31 = .ok (.istore 4, 2) := by decide +kernel
theorem dX2_special_33 : decode cX2_special 33 = .ok (.iload 4, 2) := by decide +kernel
theorem dX2_special_35 : decode cX2_special 35 = .ok (.ifCond .ge 6, 3) := by decide +kernel
theorem dX2_special_38 : decode cX2_special 38 = .ok (.bipush (-12), 2) := by decide +kernel
theorem dX2_special_40 : decode cX2_special 40 = .ok (.ireturn, 1) := by decide +kernel
theorem dX2_special_41 : decode cX2_special 41 = .ok (.aload_n 0, 1) := by decide +kernel
theorem dX2_special_42 : decode cX2_special 42 = .ok (.getfield 19, 3) := by decide +kernel
theorem dX2_special_45 : decode cX2_special 45 = .ok (.iload 4, 2) := by decide +kernel
theorem dX2_special_47 : decode cX2_special 47 = .ok (.invokevirtual 112, 3) := by decide +kernel
theorem dX2_special_50 : decode cX2_special 50 = .ok (.ifCond .eq 6, 3) := by decide +kernel
theorem dX2_special_53 : decode cX2_special 53 = .ok (.bipush (-21), 2) := by decide +kernel
theorem dX2_special_55 : decode cX2_special 55 = .ok (.ireturn, 1) := by decide +kernel
theorem dX2_special_56 : decode cX2_special 56 = .ok (.aload_n 0, 1) := by decide +kernel
theorem dX2_special_57 : decode cX2_special 57 = .ok (.getfield 19, 3) := by decide +kernel
theorem dX2_special_60 : decode cX2_special 60 = .ok (.iload 4, 2) := by decide +kernel
theorem dX2_special_62 : decode cX2_special 62 = .ok (.invokevirtual 121, 3) := by decide +kernel
theorem dX2_special_65 : decode cX2_special 65 = .ok (.ifCond .ne 15, 3) := by decide +kernel
theorem dX2_special_68 : decode cX2_special 68 = .ok (.aload_n 0, 1) := by decide +kernel
theorem dX2_special_69 : decode cX2_special 69 = .ok (.getfield 10, 3) := by decide +kernel
theorem dX2_special_72 : decode cX2_special 72 = .ok (.iload_n 1, 1) := by decide +kernel
theorem dX2_special_73 : decode cX2_special 73 = .ok (.iload_n 2, 1) := by decide +kernel
theorem dX2_special_74 : decode cX2_special 74 = .ok (.invokevirtual 75, 3) := by decide +kernel
theorem dX2_special_77 : decode cX2_special 77 = .ok (.ifCond .ne 7, 3) := by decide +kernel
theorem dX2_special_80 : decode cX2_special 80 = .ok (.iconst 1, 1) := by decide +kernel
theorem dX2_special_81 : decode cX2_special 81 = .ok (.goto 4, 3) := by decide +kernel
theorem dX2_special_84 : decode cX2_special 84 = .ok (.iconst 0, 1) := by decide +kernel
theorem dX2_special_85 : decode cX2_special 85 = .ok (.istore 5, 2) := by decide +kernel
theorem dX2_special_87 : decode cX2_special 87 = .ok (.iload 5, 2) := by decide +kernel
theorem dX2_special_89 : decode cX2_special 89 = .ok (.ifCond .eq 7, 3) := by decide +kernel
theorem dX2_special_92 : decode cX2_special 92 = .ok (.iload_n 2, 1) := by decide +kernel
theorem dX2_special_93 : decode cX2_special 93 = .ok (.goto 12, 3) := by decide +kernel
theorem dX2_special_96 : decode cX2_special 96 = .ok (.aload_n 0, 1) := by decide +kernel
theorem dX2_special_97 : decode cX2_special 97 = .ok (.getfield 10, 3) := by decide +kernel
theorem dX2_special_100 : decode cX2_special 100 = .ok (.getfield 137, 3) := by decide +kernel
theorem dX2_special_103 : decode cX2_special 103 = .ok (.iload_n 1, 1) := by decide +kernel
theorem dX2_special_104 : decode cX2_special 104 = .ok (.iaload, 1) := by decide +kernel
theorem dX2_special_105 : decode cX2_special 105 = .ok (.istore 6, 2) := by decide +kernel
theorem dX2_special_107 : decode cX2_special 107 = .ok (.aload_n 0, 1) := by decide +kernel
theorem dX2_special_108 : decode cX2_special 108 = .ok (.iload 6, 2) := by decide +kernel
theorem dX2_special_110 : decode cX2_special 110 = .ok (.iload_n 3, 1) := by decide +kernel
theorem dX2_special_111 : decode cX2_special 111 = .ok (.invokevirtual 140, 3) := by decide +kernel
theorem dX2_special_114 : decode cX2_special 114 = .ok (.istore 7, 2) := by decide +kernel
theorem dX2_special_116 : decode cX2_special 116 = .ok (.iload 7, 2) := by decide +kernel
theorem dX2_special_118 : decode cX2_special 118 = .ok (.iconst (-1), 1) := by decide +kernel
theorem dX2_special_119 : decode cX2_special 119 = .ok (.if_icmp .eq 10, 3) := by decide +kernel
theorem dX2_special_122 : decode cX2_special 122 = .ok (.aload_n 0, 1) := by decide +kernel
theorem dX2_special_123 : decode cX2_special 123 = .ok (.iload 7, 2) := by decide +kernel
theorem dX2_special_125 : decode cX2_special 125 = .ok (.invokevirtual 127, 3) := by decide +kernel
theorem dX2_special_128 : decode cX2_special 128 = .ok (.ireturn, 1) := by decide +kernel
theorem dX2_special_129 : decode cX2_special 129 = .ok (.aload_n 0, 1) := by decide +kernel
theorem dX2_special_130 : decode cX2_special 130 = .ok (.iload 6, 2) := by decide +kernel
theorem dX2_special_132 : decode cX2_special 132 = .ok (.iload_n 3, 1) := by decide +kernel
theorem dX2_special_133 : decode cX2_special 133 = .ok (.invokevirtual 106, 3) := by decide +kernel
theorem dX2_special_136 : decode cX2_special 136 = .ok (.istore 8, 2) := by decide +kernel
theorem dX2_special_138 : decode cX2_special 138 = .ok (.iload 8, 2) := by decide +kernel
theorem dX2_special_140 : decode cX2_special 140 = .ok (.ifCond .lt 8, 3) := by decide +kernel
theorem dX2_special_143 : decode cX2_special 143 = .ok (.iload 8, 2) := by decide +kernel
theorem dX2_special_145 : decode cX2_special 145 = .ok (.goto 5, 3) := by decide +kernel
theorem dX2_special_148 : decode cX2_special 148 = .ok (.bipush (-25), 2) := by decide +kernel
theorem dX2_special_150 : decode cX2_special 150 = .ok (.ireturn, 1) := by decide +kernel
set_option maxRecDepth 20000 in
theorem ggX2_kin_X1_exists : GoodIn wsX2_kin wsX1_exists := goodIn_r _ [7, 8, 76, 77, 78, 79, 80, 81, 82] (by decide +kernel) (by decide +kernel)
set_option maxRecDepth 20000 in
theorem gX2_kin_X1_exists : GoodIn wsX2_kin (wsV RX2 85 RX1 yX1_exists wsX1_exists) := goodIn_app (goodIn_of _ (by decide +kernel)) ggX2_kin_X1_exists
set_option maxRecDepth 20000 in
theorem ggX2_kin_X2_replacesFromBelow : GoodIn wsX2_kin wsX2_replacesFromBelow := goodIn_r _ [13, 14, 1, 15, 16, 17, 18, 19, 20, 21, 22, 12, 23, 24, 25, 26, 27, 28, 29, 30, 31, 32, 33, 34, 35, 36, 6, 37, 38, 39, 40, 41, 42, 43, 44, 45, 46, 47, 48, 49, 50, 51, 52, 53, 54, 55, 56, 57, 58, 59, 60, 61, 62, 63, 64, 65, 66, 67, 68, 74, 75, 76, 77, 78, 79, 80, 81, 82, 83, 84, 85, 86, 87, 88, 89, 90, 91, 92] (by decide +kernel) (by decide +kernel)
set_option maxRecDepth 20000 in
theorem gX2_kin_X2_replacesFromBelow : GoodIn wsX2_kin (wsV RX2 143 RX2 yX2_replacesFromBelow wsX2_replacesFromBelow) := goodIn_app (goodIn_of _ (by decide +kernel)) ggX2_kin_X2_replacesFromBelow
set_option maxRecDepth 20000 in
theorem ggX2_kin_X2_replacesOfPlain : GoodIn wsX2_kin wsX2_replacesOfPlain := goodIn_r _ [72, 14, 73, 1, 15, 24, 25, 26, 12, 27, 28, 29, 30, 31, 32, 33, 34, 35, 36, 6, 37, 38, 39, 40, 41, 42, 43, 44, 45, 46, 47, 48, 49, 50, 51, 52, 53, 54, 55, 56, 57, 58, 19, 59, 60, 61, 17, 18, 20, 21, 22, 23, 62, 63, 64, 65, 66, 67, 68, 74, 75, 83, 84, 85, 86, 87, 88, 89, 90, 91, 92, 76, 77, 78, 79, 80, 81, 82] (by decide +kernel) (by decide +kernel)
set_option maxRecDepth 20000 in
theorem gX2_kin_X2_replacesOfPlain : GoodIn wsX2_kin (wsV RX2 146 RX2 yX2_replacesOfPlain wsX2_replacesOfPlain) := goodIn_app (goodIn_of _ (by decide +kernel)) ggX2_kin_X2_replacesOfPlain
theorem dX2_kin_0 : decode cX2_kin 0 = .ok (.aload_n 0, 1) := by decide +kernel
theorem dX2_kin_1 : decode cX2_kin 1 = .ok (.getfield 19, 3) := by decide +kernel
theorem dX2_kin_4 : decode cX2_kin 4 = .ok (.iload_n 1, 1) := by decide +kernel
theorem dX2_kin_5 : decode cX2_kin 5 = .ok (.invokevirtual 85, 3) := by decide +kernel
theorem dX2_kin_8 : decode cX2_kin 8 = .ok (.ifCond .ne 5, 3) := by decide +kernel
theorem dX2_kin_11 : decode cX2_kin 11 = .ok (.iconst (-1), 1) := by decide +kernel
theorem dX2_kin_12 : decode cX2_kin 12 = .ok (.ireturn, 1) := by decide +kernel
theorem dX2_kin_13 : decode cX2_kin 13 = .ok (.iconst 0, 1) := by decide +kernel
theorem dX2_kin_14 : decode cX2_kin 14 = .ok (.istore_n 2, 1) := by decide +kernel
theorem dX2_kin_15 : decode cX2_kin 15 = .ok (.iconst 0, 1) := by decide +kernel
theorem dX2_kin_16 : decode cX2_kin 16 = .ok (.istore_n 3, 1) := by decide +kernel
theorem dX2_kin_17 : decode cX2_kin 17 = .ok (.iload_n 3, 1) := by decide +kernel
theorem dX2_kin_18 : decode cX2_kin 18 = .ok (.aload_n 0, 1) := by decide +kernel
theorem dX2_kin_19 : decode cX2_kin 19 = .ok (.getfield 19, 3) := by decide +kernel
theorem dX2_kin_22 : decode cX2_kin 22 = .ok (.getfield 68, 3) := by decide +kernel
theorem dX2_kin_25 : decode cX2_kin 25 = .ok (.if_icmp .ge 30, 3) := by decide +kernel
theorem dX2_kin_28 : decode cX2_kin 28 = .ok (.aload_n 0, 1) := by decide +kernel
theorem dX2_kin_29 : decode cX2_kin 29 = .ok (.iload_n 3, 1) := by decide +kernel
theorem dX2_kin_30 : decode cX2_kin 30 = .ok (.iload_n 1, 1) := by decide +kernel
theorem dX2_kin_31 : decode cX2_kin 31 = .ok (.invokevirtual 143, 3) := by decide +kernel
theorem dX2_kin_34 : decode cX2_kin 34 = .ok (.ifCond .ne 12, 3) := by decide +kernel
theorem dX2_kin_37 : decode cX2_kin 37 = .ok (.aload_n 0, 1) := by decide +kernel
theorem dX2_kin_38 : decode cX2_kin 38 = .ok (.iload_n 1, 1) := by decide +kernel
theorem dX2_kin_39 : decode cX2_kin 39 = .ok (.iload_n 3, 1) := by decide +kernel
theorem dX2_kin_40 : decode cX2_kin 40 = .ok (.invokevirtual 146, 3) := by decide +kernel
theorem dX2_kin_43 : decode cX2_kin 43 = .ok (.ifCond .eq 6, 3) := by decide +kernel
theorem dX2_kin_46 : decode cX2_kin 46 = .ok (.iinc 2 1, 3) := by decide +kernel
theorem dX2_kin_49 : decode cX2_kin 49 = .ok (.iinc 3 1, 3) := by decide +kernel
theorem dX2_kin_52 : decode cX2_kin 52 = .ok (.goto (-35), 3) := by decide +kernel
theorem dX2_kin_55 : decode cX2_kin 55 = .ok (.iload_n 2, 1) := by decide +kernel
theorem dX2_kin_56 : decode cX2_kin 56 = .ok (.ireturn, 1) := by decide +kernel
theorem dX2_fits_0 : decode cX2_fits 0 = .ok (.iload_n 0, 1) := by decide +kernel
theorem dX2_fits_1 : decode cX2_fits 1 = .ok (.ifCond .lt 17, 3) := by decide +kernel
theorem dX2_fits_4 : decode cX2_fits 4 = .ok (.iload_n 0, 1) := by decide +kernel
theorem dX2_fits_5 : decode cX2_fits 5 = .ok (.iconst 3, 1) := by decide +kernel
theorem dX2_fits_6 : decode cX2_fits 6 = .ok (.if_icmp .gt 12, 3) := by decide +kernel
theorem dX2_fits_9 : decode cX2_fits 9 = .ok (.iload_n 1, 1) := by decide +kernel
theorem dX2_fits_10 : decode cX2_fits 10 = .ok (.ifCond .lt 8, 3) := by decide +kernel
theorem dX2_fits_13 : decode cX2_fits 13 = .ok (.iload_n 1, 1) := by decide +kernel
theorem dX2_fits_14 : decode cX2_fits 14 = .ok (.iconst 4, 1) := by decide +kernel
theorem dX2_fits_15 : decode cX2_fits 15 = .ok (.if_icmp .le 5, 3) := by decide +kernel
theorem dX2_fits_18 : decode cX2_fits 18 = .ok (.iconst 0, 1) := by decide +kernel
theorem dX2_fits_19 : decode cX2_fits 19 = .ok (.ireturn, 1) := by decide +kernel
theorem dX2_fits_20 : decode cX2_fits 20 = .ok (.iload_n 2, 1) := by decide +kernel
theorem dX2_fits_21 : decode cX2_fits 21 = .ok (.ifCond .eq 23, 3) := by decide +kernel
theorem dX2_fits_24 : decode cX2_fits 24 = .ok (.iload_n 0, 1) := by decide +kernel
theorem dX2_fits_25 : decode cX2_fits 25 = .ok (.iconst 1, 1) := by decide +kernel
theorem dX2_fits_26 : decode cX2_fits 26 = .ok (.if_icmp .ne 16, 3) := by decide +kernel
theorem dX2_fits_29 : decode cX2_fits 29 = .ok (.iload_n 1, 1) := by decide +kernel
theorem dX2_fits_30 : decode cX2_fits 30 = .ok (.ifCond .eq 8, 3) := by decide +kernel
theorem dX2_fits_33 : decode cX2_fits 33 = .ok (.iload_n 1, 1) := by decide +kernel
theorem dX2_fits_34 : decode cX2_fits 34 = .ok (.iconst 4, 1) := by decide +kernel
theorem dX2_fits_35 : decode cX2_fits 35 = .ok (.if_icmp .ne 7, 3) := by decide +kernel
theorem dX2_fits_38 : decode cX2_fits 38 = .ok (.iconst 1, 1) := by decide +kernel
theorem dX2_fits_39 : decode cX2_fits 39 = .ok (.goto 4, 3) := by decide +kernel
theorem dX2_fits_42 : decode cX2_fits 42 = .ok (.iconst 0, 1) := by decide +kernel
theorem dX2_fits_43 : decode cX2_fits 43 = .ok (.ireturn, 1) := by decide +kernel
theorem dX2_fits_44 : decode cX2_fits 44 = .ok (.iload_n 1, 1) := by decide +kernel
theorem dX2_fits_45 : decode cX2_fits 45 = .ok (.iconst 4, 1) := by decide +kernel
theorem dX2_fits_46 : decode cX2_fits 46 = .ok (.if_icmp .ne 8, 3) := by decide +kernel
theorem dX2_fits_49 : decode cX2_fits 49 = .ok (.iload_n 0, 1) := by decide +kernel
theorem dX2_fits_50 : decode cX2_fits 50 = .ok (.iconst 3, 1) := by decide +kernel
theorem dX2_fits_51 : decode cX2_fits 51 = .ok (.if_icmp .eq 7, 3) := by decide +kernel
theorem dX2_fits_54 : decode cX2_fits 54 = .ok (.iconst 1, 1) := by decide +kernel
theorem dX2_fits_55 : decode cX2_fits 55 = .ok (.goto 4, 3) := by decide +kernel
theorem dX2_fits_58 : decode cX2_fits 58 = .ok (.iconst 0, 1) := by decide +kernel
theorem dX2_fits_59 : decode cX2_fits 59 = .ok (.ireturn, 1) := by decide +kernel
set_option maxRecDepth 20000 in
theorem ggX2_replaces_X2_couldReplace : GoodIn wsX2_replaces wsX2_couldReplace := goodIn_r _ [9, 1, 10, 11, 12, 13, 14, 15, 16, 17, 18, 19, 20, 21, 22, 23, 24, 25, 54, 55, 66, 67, 68, 69, 70, 71, 72] (by decide +kernel) (by decide +kernel)
set_option maxRecDepth 20000 in
theorem gX2_replaces_X2_couldReplace : GoodIn wsX2_replaces (wsV RX2 149 RX2 yX2_couldReplace wsX2_couldReplace) := goodIn_app (goodIn_of _ (by decide +kernel)) ggX2_replaces_X2_couldReplace
set_option maxRecDepth 20000 in
theorem ggX2_replaces_X1_isPublicOrProtected : GoodIn wsX2_replaces wsX1_isPublicOrProtected := goodIn_r _ [29, 25, 66, 67, 68, 69, 70, 71, 72] (by decide +kernel) (by decide +kernel)
set_option maxRecDepth 20000 in
theorem gX2_replaces_X1_isPublicOrProtected : GoodIn wsX2_replaces (wsV RX2 152 RX1 yX1_isPublicOrProtected wsX1_isPublicOrProtected) := goodIn_app (goodIn_of _ (by decide +kernel)) ggX2_replaces_X1_isPublicOrProtected
set_option maxRecDepth 20000 in
theorem ggX2_replaces_X2_replacesBetween : GoodIn wsX2_replaces wsX2_replacesBetween := goodIn_r _ [33, 1, 4, 2, 10, 3, 34, 35, 36, 37, 38, 39, 40, 41, 42, 43, 44, 45, 8, 46, 47, 48, 49, 14, 50, 51, 52, 53, 11, 12, 13, 15, 16, 17, 18, 19, 20, 21, 22, 23, 24, 25, 26, 27, 28, 29, 54, 55, 66, 67, 68, 69, 70, 71, 72, 56, 57, 58, 59, 60, 61, 62, 63, 64, 65] (by decide +kernel) (by decide +kernel)
set_option maxRecDepth 20000 in
theorem gX2_replaces_X2_replacesBetween : GoodIn wsX2_replaces (wsV RX2 158 RX2 yX2_replacesBetween wsX2_replacesBetween) := goodIn_app (goodIn_of _ (by decide +kernel)) ggX2_replaces_X2_replacesBetween
theorem dX2_replaces_0 : decode cX2_replaces 0 = .ok (.aload_n 0, 1) := by decide +kernel
theorem dX2_replaces_1 : decode cX2_replaces 1 = .ok (.iload_n 1, 1) := by decide +kernel
theorem dX2_replaces_2 : decode cX2_replaces 2 = .ok (.iload_n 2, 1) := by decide +kernel
theorem dX2_replaces_3 : decode cX2_replaces 3 = .ok (.invokevirtual 149, 3) := by decide +kernel
theorem dX2_replaces_6 : decode cX2_replaces 6 = .ok (.ifCond .ne 5, 3) := by decide +kernel
theorem dX2_replaces_9 : decode cX2_replaces 9 = .ok (.iconst 0, 1) := by decide +kernel
theorem dX2_replaces_10 : decode cX2_replaces 10 = .ok (.ireturn, 1) := by decide +kernel
theorem dX2_replaces_11 : decode cX2_replaces 11 = .ok (.aload_n 0, 1) := by decide +kernel
theorem dX2_replaces_12 : decode cX2_replaces 12 = .ok (.getfield 19, 3) := by decide +kernel
theorem dX2_replaces_15 : decode cX2_replaces 15 = .ok (.iload_n 2, 1) := by decide +kernel
theorem dX2_replaces_16 : decode cX2_replaces 16 = .ok (.invokevirtual 152, 3) := by decide +kernel
theorem dX2_replaces_19 : decode cX2_replaces 19 = .ok (.ifCond .ne 49, 3) := by decide +kernel
theorem dX2_replaces_22 : decode cX2_replaces 22 = .ok (.aload_n 0, 1) := by decide +kernel
theorem dX2_replaces_23 : decode cX2_replaces 23 = .ok (.getfield 10, 3) := by decide +kernel
theorem dX2_replaces_26 : decode cX2_replaces 26 = .ok (.getfield 155, 3) := by decide +kernel
theorem dX2_replaces_29 : decode cX2_replaces 29 = .ok (.aload_n 0, 1) := by decide +kernel
theorem dX2_replaces_30 : decode cX2_replaces 30 = .ok (.getfield 19, 3) := by decide +kernel
theorem dX2_replaces_33 : decode cX2_replaces 33 = .ok (.getfield 115, 3) := by decide +kernel
theorem dX2_replaces_36 : decode cX2_replaces 36 = .ok (.iload_n 1, 1) := by decide +kernel
theorem dX2_replaces_37 : decode cX2_replaces 37 = .ok (.iaload, 1) := by decide +kernel
theorem dX2_replaces_38 : decode cX2_replaces 38 = .ok (.iaload, 1) := by decide +kernel
theorem dX2_replaces_39 : decode cX2_replaces 39 = .ok (.aload_n 0, 1) := by decide +kernel
theorem dX2_replaces_40 : decode cX2_replaces 40 = .ok (.getfield 10, 3) := by decide +kernel
theorem dX2_replaces_43 : decode cX2_replaces 43 = .ok (.getfield 155, 3) := by decide +kernel
theorem dX2_replaces_46 : decode cX2_replaces 46 = .ok (.aload_n 0, 1) := by decide +kernel
theorem dX2_replaces_47 : decode cX2_replaces 47 = .ok (.getfield 19, 3) := by decide +kernel
theorem dX2_replaces_50 : decode cX2_replaces 50 = .ok (.getfield 115, 3) := by decide +kernel
theorem dX2_replaces_53 : decode cX2_replaces 53 = .ok (.iload_n 2, 1) := by decide +kernel
theorem dX2_replaces_54 : decode cX2_replaces 54 = .ok (.iaload, 1) := by decide +kernel
theorem dX2_replaces_55 : decode cX2_replaces 55 = .ok (.iaload, 1) := by decide +kernel
theorem dX2_replaces_56 : decode cX2_replaces 56 = .ok (.if_icmp .eq 12, 3) := by decide +kernel
theorem dX2_replaces_59 : decode cX2_replaces 59 = .ok (.aload_n 0, 1) := by decide +kernel
theorem dX2_replaces_60 : decode cX2_replaces 60 = .ok (.iload_n 1, 1) := by decide +kernel
theorem dX2_replaces_61 : decode cX2_replaces 61 = .ok (.iload_n 2, 1) := by decide +kernel
theorem dX2_replaces_62 : decode cX2_replaces 62 = .ok (.invokevirtual 158, 3) := by decide +kernel
theorem dX2_replaces_65 : decode cX2_replaces 65 = .ok (.ifCond .eq 7, 3) := by decide +kernel
theorem dX2_replaces_68 : decode cX2_replaces 68 = .ok (.iconst 1, 1) := by decide +kernel
theorem dX2_replaces_69 : decode cX2_replaces 69 = .ok (.goto 4, 3) := by decide +kernel
theorem dX2_replaces_72 : decode cX2_replaces 72 = .ok (.iconst 0, 1) := by decide +kernel
theorem dX2_replaces_73 : decode cX2_replaces 73 = .ok (.ireturn, 1) := by decide +kernel
set_option maxRecDepth 20000 in
theorem ggX2_couldReplace_X1_isVirtual : GoodIn wsX2_couldReplace wsX1_isVirtual := goodIn_r _ [7, 8, 9, 10, 6, 11, 12, 13, 14, 15, 16, 17, 20, 21, 22, 23, 24, 25, 26] (by decide +kernel) (by decide +kernel)
set_option maxRecDepth 20000 in
theorem gX2_couldReplace_X1_isVirtual : GoodIn wsX2_couldReplace (wsV RX2 161 RX1 yX1_isVirtual wsX1_isVirtual) := goodIn_app (goodIn_of _ (by decide +kernel)) ggX2_couldReplace_X1_isVirtual
theorem dX2_couldReplace_0 : decode cX2_couldReplace 0 = .ok (.iload_n 1, 1) := by decide +kernel
theorem dX2_couldReplace_1 : decode cX2_couldReplace 1 = .ok (.iload_n 2, 1) := by decide +kernel
theorem dX2_couldReplace_2 : decode cX2_couldReplace 2 = .ok (.if_icmp .eq 50, 3) := by decide +kernel
theorem dX2_couldReplace_5 : decode cX2_couldReplace 5 = .ok (.aload_n 0, 1) := by decide +kernel
theorem dX2_couldReplace_6 : decode cX2_couldReplace 6 = .ok (.getfield 19, 3) := by decide +kernel
theorem dX2_couldReplace_9 : decode cX2_couldReplace 9 = .ok (.getfield 131, 3) := by decide +kernel
theorem dX2_couldReplace_12 : decode cX2_couldReplace 12 = .ok (.iload_n 1, 1) := by decide +kernel
theorem dX2_couldReplace_13 : decode cX2_couldReplace 13 = .ok (.iaload, 1) := by decide +kernel
theorem dX2_couldReplace_14 : decode cX2_couldReplace 14 = .ok (.aload_n 0, 1) := by decide +kernel
theorem dX2_couldReplace_15 : decode cX2_couldReplace 15 = .ok (.getfield 19, 3) := by decide +kernel
theorem dX2_couldReplace_18 : decode cX2_couldReplace 18 = .ok (.getfield 131, 3) := by decide +kernel
theorem dX2_couldReplace_21 : decode cX2_couldReplace 21 = .ok (.iload_n 2, 1) := by decide +kernel
theorem dX2_couldReplace_22 : decode cX2_couldReplace 22 = .ok (.iaload, 1) := by decide +kernel
theorem dX2_couldReplace_23 : decode cX2_couldReplace 23 = .ok (.if_icmp .ne 29, 3) := by decide +kernel
theorem dX2_couldReplace_26 : decode cX2_couldReplace 26 = .ok (.aload_n 0, 1) := by decide +kernel
theorem dX2_couldReplace_27 : decode cX2_couldReplace 27 = .ok (.getfield 19, 3) := by decide +kernel
theorem dX2_couldReplace_30 : decode cX2_couldReplace 30 = .ok (.iload_n 1, 1) := by decide +kernel
theorem dX2_couldReplace_31 : decode cX2_couldReplace 31 = .ok (.invokevirtual 161, 3) := by decide +kernel
theorem dX2_couldReplace_34 : decode cX2_couldReplace 34 = .ok (.ifCond .eq 18, 3) := by decide +kernel
theorem dX2_couldReplace_37 : decode cX2_couldReplace 37 = .ok (.aload_n 0, 1) := by decide +kernel
theorem dX2_couldReplace_38 : decode cX2_couldReplace 38 = .ok (.getfield 19, 3) := by decide +kernel
theorem dX2_couldReplace_41 : decode cX2_couldReplace 41 = .ok (.iload_n 2, 1) := by decide +kernel
theorem dX2_couldReplace_42 : decode cX2_couldReplace 42 = .ok (.invokevirtual 161, 3) := by decide +kernel
theorem dX2_couldReplace_45 : decode cX2_couldReplace 45 = .ok (.ifCond .eq 7, 3) := by decide +kernel
theorem dX2_couldReplace_48 : decode cX2_couldReplace 48 = .ok (.iconst 1, 1) := by decide +kernel
theorem dX2_couldReplace_49 : decode cX2_couldReplace 49 = .ok (.goto 4, 3) := by decide +kernel
theorem dX2_couldReplace_52 : decode cX2_couldReplace 52 = .ok (.iconst 0, 1) := by decide +kernel
theorem dX2_couldReplace_53 : decode cX2_couldReplace 53 = .ok (.ireturn, 1) := by decide +kernel
set_option maxRecDepth 20000 in
theorem ggX2_replacesBetween_X0_inRow : GoodIn wsX2_replacesBetween wsX0_inRow := goodIn_r _ [10, 11, 12, 13, 14, 9, 15, 16, 17, 18, 19, 55, 56, 57, 58, 59, 60, 61, 62, 63, 64] (by decide +kernel) (by decide +kernel)
set_option maxRecDepth 20000 in
theorem gX2_replacesBetween_X0_inRow : GoodIn wsX2_replacesBetween (wsV RX2 164 RX0 yX0_inRow wsX0_inRow) := goodIn_app (goodIn_of _ (by decide +kernel)) ggX2_replacesBetween_X0_inRow
set_option maxRecDepth 20000 in
theorem ggX2_replacesBetween_X1_inClass : GoodIn wsX2_replacesBetween wsX1_inClass := goodIn_r _ [24, 25, 26, 27, 48, 49, 50, 51, 52, 53, 54] (by decide +kernel) (by decide +kernel)
set_option maxRecDepth 20000 in
theorem gX2_replacesBetween_X1_inClass : GoodIn wsX2_replacesBetween (wsV RX2 64 RX1 yX1_inClass wsX1_inClass) := goodIn_app (goodIn_of _ (by decide +kernel)) ggX2_replacesBetween_X1_inClass
set_option maxRecDepth 20000 in
theorem ggX2_replacesBetween_X1_isVirtual : GoodIn wsX2_replacesBetween wsX1_isVirtual := goodIn_r _ [31, 32, 33, 34, 23, 35, 36, 37, 38, 39, 40, 41, 48, 49, 50, 51, 52, 53, 54] (by decide +kernel) (by decide +kernel)
set_option maxRecDepth 20000 in
theorem gX2_replacesBetween_X1_isVirtual : GoodIn wsX2_replacesBetween (wsV RX2 161 RX1 yX1_isVirtual wsX1_isVirtual) := goodIn_app (goodIn_of _ (by decide +kernel)) ggX2_replacesBetween_X1_isVirtual
set_option maxRecDepth 20000 in
theorem ggX2_replacesBetween_X1_isPublicOrProtected : GoodIn wsX2_replacesBetween wsX1_isPublicOrProtected := goodIn_r _ [45, 41, 48, 49, 50, 51, 52, 53, 54] (by decide +kernel) (by decide +kernel)
set_option maxRecDepth 20000 in
theorem gX2_replacesBetween_X1_isPublicOrProtected : GoodIn wsX2_replacesBetween (wsV RX2 152 RX1 yX1_isPublicOrProtected wsX1_isPublicOrProtected) := goodIn_app (goodIn_of _ (by decide +kernel)) ggX2_replacesBetween_X1_isPublicOrProtected
theorem dX2_replacesBetween_0 : decode cX2_replacesBetween 0 = .ok (.aload_n 0, 1) := by decide +kernel
theorem dX2_replacesBetween_1 : decode cX2_replacesBetween 1 = .ok (.getfield 19, 3) := by decide +kernel
theorem dX2_replacesBetween_4 : decode cX2_replacesBetween 4 = .ok (.getfield 115, 3) := by decide +kernel
theorem dX2_replacesBetween_7 : decode cX2_replacesBetween 7 = .ok (.iload_n 1, 1) := by decide +kernel
theorem dX2_replacesBetween_8 : decode cX2_replacesBetween 8 = .ok (.iaload, 1) := by decide +kernel
theorem dX2_replacesBetween_9 : decode cX2_replacesBetween 9 = .ok (.istore_n 3, 1) := by decide +kernel
theorem dX2_replacesBetween_10 : decode cX2_replacesBetween 10 = .ok (.aload_n 0, 1) := by decide +kernel
theorem dX2_replacesBetween_11 : decode cX2_replacesBetween 11 = .ok (.getfield 19, 3) := by decide +kernel
theorem dX2_replacesBetween_14 : decode cX2_replacesBetween 14 = .ok (.getfield 115, 3) := by decide +kernel
theorem dX2_replacesBetween_17 : decode cX2_replacesBetween 17 = .ok (.iload_n 2, 1) := by decide +kernel
theorem dX2_replacesBetween_18 : decode cX2_replacesBetween 18 = .ok (.iaload, 1) := by decide +kernel
theorem dX2_replacesBetween_19 : decode cX2_replacesBetween 19 = .ok (.istore 4, 2) := by decide +kernel
theorem dX2_replacesBetween_21 : decode cX2_replacesBetween 21 = .ok (.iload_n 3, 1) := by decide +kernel
theorem dX2_replacesBetween_22 : decode cX2_replacesBetween 22 = .ok (.iconst 1, 1) := by decide +kernel
theorem dX2_replacesBetween_23 : decode cX2_replacesBetween 23 = .ok (.isub, 1) := by decide +kernel
theorem dX2_replacesBetween_24 : decode cX2_replacesBetween 24 = .ok (.istore 5, 2) := by decide +kernel
theorem dX2_replacesBetween_26 : decode cX2_replacesBetween 26 = .ok (.iload 5, 2) := by decide +kernel
theorem dX2_replacesBetween_28 : decode cX2_replacesBetween 28 = .ok (.ifCond .lt 109, 3) := by decide +kernel
theorem dX2_replacesBetween_31 : decode cX2_replacesBetween 31 = .ok (.aload_n 0, 1) := by decide +kernel
theorem dX2_replacesBetween_32 : decode cX2_replacesBetween 32 = .ok (.getfield 10, 3) := by decide +kernel
theorem dX2_replacesBetween_35 : decode cX2_replacesBetween 35 = .ok (.iload_n 3, 1) := by decide +kernel
theorem dX2_replacesBetween_36 : decode cX2_replacesBetween 36 = .ok (.iload 5, 2) := by decide +kernel
theorem dX2_replacesBetween_38 : decode cX2_replacesBetween 38 = .ok (.invokevirtual 164, 3) := by decide +kernel
theorem dX2_replacesBetween_41 : decode cX2_replacesBetween 41 = .ok (.ifCond .ne 6, 3) := by decide +kernel
theorem dX2_replacesBetween_44 : decode cX2_replacesBetween 44 = .ok (.goto 87, 3) := by decide +kernel
theorem dX2_replacesBetween_47 : decode cX2_replacesBetween 47 = .ok (.iload 5, 2) := by decide +kernel
theorem dX2_replacesBetween_49 : decode cX2_replacesBetween 49 = .ok (.iload 4, 2) := by decide +kernel
theorem dX2_replacesBetween_51 : decode cX2_replacesBetween 51 = .ok (.if_icmp .ne 5, 3) := by decide +kernel
theorem dX2_replacesBetween_54 : decode cX2_replacesBetween 54 = .ok (.iconst 0, 1) := by decide +kernel
theorem dX2_replacesBetween_55 : decode cX2_replacesBetween 55 = .ok (.ireturn, 1) := by decide +kernel
theorem dX2_replacesBetween_56 : decode cX2_replacesBetween 56 = .ok (.aload_n 0, 1) := by decide +kernel
theorem dX2_replacesBetween_57 : decode cX2_replacesBetween 57 = .ok (.getfield 19, 3) := by decide +kernel
theorem dX2_replacesBetween_60 : decode cX2_replacesBetween 60 = .ok (.iload 5, 2) := by decide +kernel
theorem dX2_replacesBetween_62 : decode cX2_replacesBetween 62 = .ok (.aload_n 0, 1) := by decide +kernel
theorem dX2_replacesBetween_63 : decode cX2_replacesBetween 63 = .ok (.getfield 19, 3) := by decide +kernel
theorem dX2_replacesBetween_66 : decode cX2_replacesBetween 66 = .ok (.getfield 131, 3) := by decide +kernel
theorem dX2_replacesBetween_69 : decode cX2_replacesBetween 69 = .ok (.iload_n 1, 1) := by decide +kernel
theorem dX2_replacesBetween_70 : decode cX2_replacesBetween 70 = .ok (.iaload, 1) := by decide +kernel
theorem dX2_replacesBetween_71 : decode cX2_replacesBetween 71 = .ok (.invokevirtual 64, 3) := by decide +kernel
theorem dX2_replacesBetween_74 : decode cX2_replacesBetween 74 = .ok (.istore 6, 2) := by decide +kernel
theorem dX2_replacesBetween_76 : decode cX2_replacesBetween 76 = .ok (.iload 6, 2) := by decide +kernel
theorem dX2_replacesBetween_78 : decode cX2_replacesBetween 78 = .ok (.iconst (-1), 1) := by decide +kernel
theorem dX2_replacesBetween_79 : decode cX2_replacesBetween 79 = .ok (.if_icmp .eq 52, 3) := by decide +kernel
theorem dX2_replacesBetween_82 : decode cX2_replacesBetween 82 = .ok (.aload_n 0, 1) := by decide +kernel
theorem dX2_replacesBetween_83 : decode cX2_replacesBetween 83 = .ok (.getfield 10, 3) := by decide +kernel
theorem dX2_replacesBetween_86 : decode cX2_replacesBetween 86 = .ok (.getfield 155, 3) := by decide +kernel
theorem dX2_replacesBetween_89 : decode cX2_replacesBetween 89 = .ok (.iload 5, 2) := by decide +kernel
theorem dX2_replacesBetween_91 : decode cX2_replacesBetween 91 = .ok (.iaload, 1) := by decide +kernel
theorem dX2_replacesBetween_92 : decode cX2_replacesBetween 92 = .ok (.aload_n 0, 1) := by decide +kernel
theorem dX2_replacesBetween_93 : decode cX2_replacesBetween 93 = .ok (.getfield 10, 3) := by decide +kernel
theorem dX2_replacesBetween_96 : decode cX2_replacesBetween 96 = .ok (.getfield 155, 3) := by decide +kernel
theorem dX2_replacesBetween_99 : decode cX2_replacesBetween 99 = .ok (.iload 4, 2) := by decide +kernel
theorem dX2_replacesBetween_101 : decode cX2_replacesBetween 101 = .ok (.iaload, 1) := by decide +kernel
theorem dX2_replacesBetween_102 : decode cX2_replacesBetween 102 = .ok (.if_icmp .ne 29, 3) := by decide +kernel
theorem dX2_replacesBetween_105 : decode cX2_replacesBetween 105 = .ok (.aload_n 0, 1) := by decide +kernel
theorem dX2_replacesBetween_106 : decode cX2_replacesBetween 106 = .ok (.getfield 19, 3) := by decide +kernel
theorem dX2_replacesBetween_109 : decode cX2_replacesBetween 109 = .ok (.iload 6, 2) := by decide +kernel
theorem dX2_replacesBetween_111 : decode cX2_replacesBetween 111 = .ok (.invokevirtual 161, 3) := by decide +kernel
theorem dX2_replacesBetween_114 : decode cX2_replacesBetween 114 = .ok (.ifCond .eq 17, 3) := by decide +kernel
theorem dX2_replacesBetween_117 : decode cX2_replacesBetween 117 = .ok (.aload_n 0, 1) := by decide +kernel
theorem dX2_replacesBetween_118 : decode cX2_replacesBetween 118 = .ok (.getfield 19, 3) := by decide +kernel
theorem dX2_replacesBetween_121 : decode cX2_replacesBetween 121 = .ok (.iload 6, 2) := by decide +kernel
theorem dX2_replacesBetween_123 : decode cX2_replacesBetween 123 = .ok (.invokevirtual 152, 3) := by decide +kernel
theorem dX2_replacesBetween_126 : decode cX2_replacesBetween 126 = .ok (.ifCond .eq 5, 3) := by decide +kernel
theorem dX2_replacesBetween_129 : decode cX2_replacesBetween 129 = .ok (.iconst 1, 1) := by decide +kernel
theorem dX2_replacesBetween_130 : decode cX2_replacesBetween 130 = .ok (.ireturn, 1) := by decide +kernel
theorem dX2_replacesBetween_131 : decode cX2_replacesBetween 131 = .ok (.iinc 5 (-1), 3) := by decide +kernel
theorem dX2_replacesBetween_134 : decode cX2_replacesBetween 134 = .ok (.goto (-108), 3) := by decide +kernel
theorem dX2_replacesBetween_137 : decode cX2_replacesBetween 137 = .ok (.iconst 0, 1) := by decide +kernel
theorem dX2_replacesBetween_138 : decode cX2_replacesBetween 138 = .ok (.ireturn, 1) := by decide +kernel
set_option maxRecDepth 20000 in
theorem ggX2_replacesFinal_X0_inRow : GoodIn wsX2_replacesFinal wsX0_inRow := goodIn_r _ [9, 10, 11, 12, 13, 8, 14, 15, 16, 17, 18, 71, 72, 73, 74, 75, 76, 77, 78, 79, 80] (by decide +kernel) (by decide +kernel)
set_option maxRecDepth 20000 in
theorem gX2_replacesFinal_X0_inRow : GoodIn wsX2_replacesFinal (wsV RX2 164 RX0 yX0_inRow wsX0_inRow) := goodIn_app (goodIn_of _ (by decide +kernel)) ggX2_replacesFinal_X0_inRow
set_option maxRecDepth 20000 in
theorem ggX2_replacesFinal_X1_inClass : GoodIn wsX2_replacesFinal wsX1_inClass := goodIn_r _ [23, 24, 25, 26, 64, 65, 66, 67, 68, 69, 70] (by decide +kernel) (by decide +kernel)
set_option maxRecDepth 20000 in
theorem gX2_replacesFinal_X1_inClass : GoodIn wsX2_replacesFinal (wsV RX2 64 RX1 yX1_inClass wsX1_inClass) := goodIn_app (goodIn_of _ (by decide +kernel)) ggX2_replacesFinal_X1_inClass
set_option maxRecDepth 20000 in
theorem ggX2_replacesFinal_X1_isFinal : GoodIn wsX2_replacesFinal wsX1_isFinal := goodIn_r _ [30, 31, 64, 65, 66, 67, 68, 69, 70] (by decide +kernel) (by decide +kernel)
set_option maxRecDepth 20000 in
theorem gX2_replacesFinal_X1_isFinal : GoodIn wsX2_replacesFinal (wsV RX2 167 RX1 yX1_isFinal wsX1_isFinal) := goodIn_app (goodIn_of _ (by decide +kernel)) ggX2_replacesFinal_X1_isFinal
set_option maxRecDepth 20000 in
theorem ggX2_replacesFinal_X2_replaces : GoodIn wsX2_replacesFinal wsX2_replaces := goodIn_r _ [35, 1, 3, 36, 2, 37, 38, 39, 17, 40, 4, 41, 42, 43, 22, 44, 45, 46, 47, 48, 31, 49, 50, 51, 52, 53, 54, 55, 56, 57, 58, 59, 60, 61, 5, 6, 7, 8, 9, 10, 11, 12, 13, 14, 15, 16, 18, 19, 20, 21, 23, 24, 25, 26, 62, 63, 71, 72, 73, 74, 75, 76, 77, 78, 79, 80, 64, 65, 66, 67, 68, 69, 70] (by decide +kernel) (by decide +kernel)
set_option maxRecDepth 20000 in
theorem gX2_replacesFinal_X2_replaces : GoodIn wsX2_replacesFinal (wsV RX2 86 RX2 yX2_replaces wsX2_replaces) := goodIn_app (goodIn_of _ (by decide +kernel)) ggX2_replacesFinal_X2_replaces
theorem dX2_replacesFinal_0 : decode cX2_replacesFinal 0 = .ok (.aload_n 0, 1) := by decide +kernel
theorem dX2_replacesFinal_1 : decode cX2_replacesFinal 1 = .ok (.getfield 19, 3) := by decide +kernel
theorem dX2_replacesFinal_4 : decode cX2_replacesFinal 4 = .ok (.getfield 115, 3) := by decide +kernel
theorem dX2_replacesFinal_7 : decode cX2_replacesFinal 7 = .ok (.iload_n 1, 1) := by decide +kernel
theorem dX2_replacesFinal_8 : decode cX2_replacesFinal 8 = .ok (.iaload, 1) := by decide +kernel
theorem dX2_replacesFinal_9 : decode cX2_replacesFinal 9 = .ok (.istore_n 2, 1) := by decide +kernel
theorem dX2_replacesFinal_10 : decode cX2_replacesFinal 10 = .ok (.iload_n 2, 1) := by decide +kernel
theorem dX2_replacesFinal_11 : decode cX2_replacesFinal 11 = .ok (.iconst 1, 1) := by decide +kernel
theorem dX2_replacesFinal_12 : decode cX2_replacesFinal 12 = .ok (.isub, 1) := by decide +kernel
theorem dX2_replacesFinal_13 : decode cX2_replacesFinal 13 = .ok (.istore_n 3, 1) := by decide +kernel
theorem dX2_replacesFinal_14 : decode cX2_replacesFinal 14 = .ok (.iload_n 3, 1) := by decide +kernel
theorem dX2_replacesFinal_15 : decode cX2_replacesFinal 15 = .ok (.ifCond .lt 70, 3) := by decide +kernel
theorem dX2_replacesFinal_18 : decode cX2_replacesFinal 18 = .ok (.aload_n 0, 1) := by decide +kernel
theorem dX2_replacesFinal_19 : decode cX2_replacesFinal 19 = .ok (.getfield 10, 3) := by decide +kernel
theorem dX2_replacesFinal_22 : decode cX2_replacesFinal 22 = .ok (.iload_n 2, 1) := by decide +kernel
theorem dX2_replacesFinal_23 : decode cX2_replacesFinal 23 = .ok (.iload_n 3, 1) := by decide +kernel
theorem dX2_replacesFinal_24 : decode cX2_replacesFinal 24 = .ok (.invokevirtual 164, 3) := by decide +kernel
theorem dX2_replacesFinal_27 : decode cX2_replacesFinal 27 = .ok (.ifCond .eq 52, 3) := by decide +kernel
theorem dX2_replacesFinal_30 : decode cX2_replacesFinal 30 = .ok (.aload_n 0, 1) := by decide +kernel
theorem dX2_replacesFinal_31 : decode cX2_replacesFinal 31 = .ok (.getfield 19, 3) := by decide +kernel
theorem dX2_replacesFinal_34 : decode cX2_replacesFinal 34 = .ok (.iload_n 3, 1) := by decide +kernel
theorem dX2_replacesFinal_35 : decode cX2_replacesFinal 35 = .ok (.aload_n 0, 1) := by decide +kernel
theorem dX2_replacesFinal_36 : decode cX2_replacesFinal 36 = .ok (.getfield 19, 3) := by decide +kernel
theorem dX2_replacesFinal_39 : decode cX2_replacesFinal 39 = .ok (.getfield 131, 3) := by decide +kernel
theorem dX2_replacesFinal_42 : decode cX2_replacesFinal 42 = .ok (.iload_n 1, 1) := by decide +kernel
theorem dX2_replacesFinal_43 : decode cX2_replacesFinal 43 = .ok (.iaload, 1) := by decide +kernel
theorem dX2_replacesFinal_44 : decode cX2_replacesFinal 44 = .ok (.invokevirtual 64, 3) := by decide +kernel
theorem dX2_replacesFinal_47 : decode cX2_replacesFinal 47 = .ok (.istore 4, 2) := by decide +kernel
theorem dX2_replacesFinal_49 : decode cX2_replacesFinal 49 = .ok (.iload 4, 2) := by decide +kernel
theorem dX2_replacesFinal_51 : decode cX2_replacesFinal 51 = .ok (.iconst (-1), 1) := by decide +kernel
theorem dX2_replacesFinal_52 : decode cX2_replacesFinal 52 = .ok (.if_icmp .eq 27, 3) := by decide +kernel
theorem dX2_replacesFinal_55 : decode cX2_replacesFinal 55 = .ok (.aload_n 0, 1) := by decide +kernel
theorem dX2_replacesFinal_56 : decode cX2_replacesFinal 56 = .ok (.getfield 19, 3) := by decide +kernel
theorem dX2_replacesFinal_59 : decode cX2_replacesFinal 59 = .ok (.iload 4, 2) := by decide +kernel
theorem dX2_replacesFinal_61 : decode cX2_replacesFinal 61 = .ok (.invokevirtual 167, 3) := by decide +kernel
theorem dX2_replacesFinal_64 : decode cX2_replacesFinal 64 = .ok (.ifCond .eq 15, 3) := by decide +kernel
theorem dX2_replacesFinal_67 : decode cX2_replacesFinal 67 = .ok (.aload_n 0, 1) := by decide +kernel
theorem dX2_replacesFinal_68 : decode cX2_replacesFinal 68 = .ok (.iload_n 1, 1) := by decide +kernel
theorem dX2_replacesFinal_69 : decode cX2_replacesFinal 69 = .ok (.iload 4, 2) := by decide +kernel
theorem dX2_replacesFinal_71 : decode cX2_replacesFinal 71 = .ok (.invokevirtual 86, 3) := by decide +kernel
theorem dX2_replacesFinal_74 : decode cX2_replacesFinal 74 = .ok (.ifCond .eq 5, 3) := by decide +kernel
theorem dX2_replacesFinal_77 : decode cX2_replacesFinal 77 = .ok (.iconst 1, 1) := by decide +kernel
theorem dX2_replacesFinal_78 : decode cX2_replacesFinal 78 = .ok (.ireturn, 1) := by decide +kernel
theorem dX2_replacesFinal_79 : decode cX2_replacesFinal 79 = .ok (.iinc 3 (-1), 3) := by decide +kernel
theorem dX2_replacesFinal_82 : decode cX2_replacesFinal 82 = .ok (.goto (-68), 3) := by decide +kernel
theorem dX2_replacesFinal_85 : decode cX2_replacesFinal 85 = .ok (.iconst 0, 1) := by decide +kernel
theorem dX2_replacesFinal_86 : decode cX2_replacesFinal 86 = .ok (.ireturn, 1) := by decide +kernel
set_option maxRecDepth 20000 in
theorem ggX2_replacesFromBelow_X0_below : GoodIn wsX2_replacesFromBelow wsX0_below := goodIn_r _ [8, 9, 10, 11, 12, 68, 69, 70, 71, 72, 73, 74, 75, 76, 77] (by decide +kernel) (by decide +kernel)
set_option maxRecDepth 20000 in
theorem gX2_replacesFromBelow_X0_below : GoodIn wsX2_replacesFromBelow (wsV RX2 75 RX0 yX0_below wsX0_below) := goodIn_app (goodIn_of _ (by decide +kernel)) ggX2_replacesFromBelow_X0_below
set_option maxRecDepth 20000 in
theorem ggX2_replacesFromBelow_X2_replaces : GoodIn wsX2_replacesFromBelow wsX2_replaces := goodIn_r _ [16, 2, 1, 17, 3, 18, 19, 20, 11, 21, 22, 23, 24, 25, 26, 27, 28, 29, 30, 31, 32, 33, 34, 35, 36, 37, 38, 39, 40, 41, 42, 43, 44, 45, 46, 47, 48, 7, 49, 50, 51, 5, 6, 8, 9, 10, 12, 52, 53, 54, 55, 56, 57, 58, 59, 60, 68, 69, 70, 71, 72, 73, 74, 75, 76, 77, 61, 62, 63, 64, 65, 66, 67] (by decide +kernel) (by decide +kernel)
set_option maxRecDepth 20000 in
theorem gX2_replacesFromBelow_X2_replaces : GoodIn wsX2_replacesFromBelow (wsV RX2 86 RX2 yX2_replaces wsX2_replaces) := goodIn_app (goodIn_of _ (by decide +kernel)) ggX2_replacesFromBelow_X2_replaces
theorem dX2_replacesFromBelow_0 : decode cX2_replacesFromBelow 0 = .ok (.aload_n 0, 1) := by decide +kernel
theorem dX2_replacesFromBelow_1 : decode cX2_replacesFromBelow 1 = .ok (.getfield 10, 3) := by decide +kernel
theorem dX2_replacesFromBelow_4 : decode cX2_replacesFromBelow 4 = .ok (.aload_n 0, 1) := by decide +kernel
theorem dX2_replacesFromBelow_5 : decode cX2_replacesFromBelow 5 = .ok (.getfield 19, 3) := by decide +kernel
theorem dX2_replacesFromBelow_8 : decode cX2_replacesFromBelow 8 = .ok (.getfield 115, 3) := by decide +kernel
theorem dX2_replacesFromBelow_11 : decode cX2_replacesFromBelow 11 = .ok (.iload_n 1, 1) := by decide +kernel
theorem dX2_replacesFromBelow_12 : decode cX2_replacesFromBelow 12 = .ok (.iaload, 1) := by decide +kernel
theorem dX2_replacesFromBelow_13 : decode cX2_replacesFromBelow 13 = .ok (.aload_n 0, 1) := by decide +kernel
theorem dX2_replacesFromBelow_14 : decode cX2_replacesFromBelow 14 = .ok (.getfield 19, 3) := by decide +kernel
theorem dX2_replacesFromBelow_17 : decode cX2_replacesFromBelow 17 = .ok (.getfield 115, 3) := by decide +kernel
theorem dX2_replacesFromBelow_20 : decode cX2_replacesFromBelow 20 = .ok (.iload_n 2, 1) := by decide +kernel
theorem dX2_replacesFromBelow_21 : decode cX2_replacesFromBelow 21 = .ok (.iaload, 1) := by decide +kernel
theorem dX2_replacesFromBelow_22 : decode cX2_replacesFromBelow 22 = .ok (.invokevirtual 75, 3) := by decide +kernel
theorem dX2_replacesFromBelow_25 : decode cX2_replacesFromBelow 25 = .ok (.ifCond .eq 16, 3) := by decide +kernel
theorem dX2_replacesFromBelow_28 : decode cX2_replacesFromBelow 28 = .ok (.aload_n 0, 1) := by decide +kernel
theorem dX2_replacesFromBelow_29 : decode cX2_replacesFromBelow 29 = .ok (.iload_n 1, 1) := by decide +kernel
theorem dX2_replacesFromBelow_30 : decode cX2_replacesFromBelow 30 = .ok (.iload_n 2, 1) := by decide +kernel
theorem dX2_replacesFromBelow_31 : decode cX2_replacesFromBelow 31 = .ok (.invokevirtual 86, 3) := by decide +kernel
theorem dX2_replacesFromBelow_34 : decode cX2_replacesFromBelow 34 = .ok (.ifCond .eq 7, 3) := by decide +kernel
theorem dX2_replacesFromBelow_37 : decode cX2_replacesFromBelow 37 = .ok (.iconst 1, 1) := by decide +kernel
theorem dX2_replacesFromBelow_38 : decode cX2_replacesFromBelow 38 = .ok (.goto 4, 3) := by decide +kernel
theorem dX2_replacesFromBelow_41 : decode cX2_replacesFromBelow 41 = .ok (.iconst 0, 1) := by decide +kernel
theorem dX2_replacesFromBelow_42 : decode cX2_replacesFromBelow 42 = .ok (.ireturn, 1) := by decide +kernel
set_option maxRecDepth 20000 in
theorem ggX2_replacesOfPlain_X2_replaces : GoodIn wsX2_replacesOfPlain wsX2_replaces := goodIn_r _ [9, 3, 1, 10, 4, 11, 12, 13, 8, 14, 15, 16, 17, 18, 19, 20, 21, 22, 23, 24, 25, 26, 27, 28, 29, 30, 31, 32, 33, 34, 35, 36, 37, 38, 39, 40, 41, 42, 43, 44, 45, 46, 47, 48, 49, 50, 51, 52, 53, 54, 55, 56, 57, 58, 59, 60, 61, 62, 63, 64, 65, 66, 67, 68, 69, 70, 71, 72, 73, 74, 75, 76, 77] (by decide +kernel) (by decide +kernel)
set_option maxRecDepth 20000 in
theorem gX2_replacesOfPlain_X2_replaces : GoodIn wsX2_replacesOfPlain (wsV RX2 86 RX2 yX2_replaces wsX2_replaces) := goodIn_app (goodIn_of _ (by decide +kernel)) ggX2_replacesOfPlain_X2_replaces
theorem dX2_replacesOfPlain_0 : decode cX2_replacesOfPlain 0 = .ok (.aload_n 0, 1) := by decide +kernel
theorem dX2_replacesOfPlain_1 : decode cX2_replacesOfPlain 1 = .ok (.getfield 10, 3) := by decide +kernel
theorem dX2_replacesOfPlain_4 : decode cX2_replacesOfPlain 4 = .ok (.getfield 56, 3) := by decide +kernel
theorem dX2_replacesOfPlain_7 : decode cX2_replacesOfPlain 7 = .ok (.aload_n 0, 1) := by decide +kernel
theorem dX2_replacesOfPlain_8 : decode cX2_replacesOfPlain 8 = .ok (.getfield 19, 3) := by decide +kernel
theorem dX2_replacesOfPlain_11 : decode cX2_replacesOfPlain 11 = .ok (.getfield 115, 3) := by decide +kernel
theorem dX2_replacesOfPlain_14 : decode cX2_replacesOfPlain 14 = .ok (.iload_n 2, 1) := by decide +kernel
theorem dX2_replacesOfPlain_15 : decode cX2_replacesOfPlain 15 = .ok (.iaload, 1) := by decide +kernel
theorem dX2_replacesOfPlain_16 : decode cX2_replacesOfPlain 16 = .ok (.baload, 1) := by decide +kernel
theorem dX2_replacesOfPlain_17 : decode cX2_replacesOfPlain 17 = .ok (.ifCond .ne 16, 3) := by decide +kernel
theorem dX2_replacesOfPlain_20 : decode cX2_replacesOfPlain 20 = .ok (.aload_n 0, 1) := by decide +kernel
theorem dX2_replacesOfPlain_21 : decode cX2_replacesOfPlain 21 = .ok (.iload_n 1, 1) := by decide +kernel
theorem dX2_replacesOfPlain_22 : decode cX2_replacesOfPlain 22 = .ok (.iload_n 2, 1) := by decide +kernel
theorem dX2_replacesOfPlain_23 : decode cX2_replacesOfPlain 23 = .ok (.invokevirtual 86, 3) := by decide +kernel
theorem dX2_replacesOfPlain_26 : decode cX2_replacesOfPlain 26 = .ok (.ifCond .eq 7, 3) := by decide +kernel
theorem dX2_replacesOfPlain_29 : decode cX2_replacesOfPlain 29 = .ok (.iconst 1, 1) := by decide +kernel
theorem dX2_replacesOfPlain_30 : decode cX2_replacesOfPlain 30 = .ok (.goto 4, 3) := by decide +kernel
theorem dX2_replacesOfPlain_33 : decode cX2_replacesOfPlain 33 = .ok (.iconst 0, 1) := by decide +kernel
theorem dX2_replacesOfPlain_34 : decode cX2_replacesOfPlain 34 = .ok (.ireturn, 1) := by decide +kernel
set_option maxRecDepth 20000 in
theorem ggX2_firstInRow_X0_inRow : GoodIn wsX2_firstInRow wsX0_inRow := goodIn_r _ [7, 8, 9, 10, 11, 6, 12, 13, 14, 15, 16, 27, 28, 29, 30, 31, 32, 33, 34, 35, 36] (by decide +kernel) (by decide +kernel)
set_option maxRecDepth 20000 in
theorem gX2_firstInRow_X0_inRow : GoodIn wsX2_firstInRow (wsV RX2 164 RX0 yX0_inRow wsX0_inRow) := goodIn_app (goodIn_of _ (by decide +kernel)) ggX2_firstInRow_X0_inRow
set_option maxRecDepth 20000 in
theorem ggX2_firstInRow_X1_inClass : GoodIn wsX2_firstInRow wsX1_inClass := goodIn_r _ [21, 22, 23, 24, 37, 38, 39, 40, 41, 42, 43] (by decide +kernel) (by decide +kernel)
set_option maxRecDepth 20000 in
theorem gX2_firstInRow_X1_inClass : GoodIn wsX2_firstInRow (wsV RX2 64 RX1 yX1_inClass wsX1_inClass) := goodIn_app (goodIn_of _ (by decide +kernel)) ggX2_firstInRow_X1_inClass
theorem dX2_firstInRow_0 : decode cX2_firstInRow 0 = .ok (.iload_n 1, 1) := by decide +kernel
theorem dX2_firstInRow_1 : decode cX2_firstInRow 1 = .ok (.istore_n 3, 1) := by decide +kernel
theorem dX2_firstInRow_2 : decode cX2_firstInRow 2 = .ok (.iload_n 3, 1) := by decide +kernel
theorem dX2_firstInRow_3 : decode cX2_firstInRow 3 = .ok (.ifCond .lt 41, 3) := by decide +kernel
theorem dX2_firstInRow_6 : decode cX2_firstInRow 6 = .ok (.aload_n 0, 1) := by decide +kernel
theorem dX2_firstInRow_7 : decode cX2_firstInRow 7 = .ok (.getfield 10, 3) := by decide +kernel
theorem dX2_firstInRow_10 : decode cX2_firstInRow 10 = .ok (.iload_n 1, 1) := by decide +kernel
theorem dX2_firstInRow_11 : decode cX2_firstInRow 11 = .ok (.iload_n 3, 1) := by decide +kernel
theorem dX2_firstInRow_12 : decode cX2_firstInRow 12 = .ok (.invokevirtual 164, 3) := by decide +kernel
theorem dX2_firstInRow_15 : decode cX2_firstInRow 15 = .ok (.ifCond .eq 23, 3) := by decide +kernel
theorem dX2_firstInRow_18 : decode cX2_firstInRow 18 = .ok (.aload_n 0, 1) := by decide +kernel
theorem dX2_firstInRow_19 : decode cX2_firstInRow 19 = .ok (.getfield 19, 3) := by decide +kernel
theorem dX2_firstInRow_22 : decode cX2_firstInRow 22 = .ok (.iload_n 3, 1) := by decide +kernel
theorem dX2_firstInRow_23 : decode cX2_firstInRow 23 = .ok (.iload_n 2, 1) := by decide +kernel
theorem dX2_firstInRow_24 : decode cX2_firstInRow 24 = .ok (.invokevirtual 64, 3) := by decide +kernel
theorem dX2_firstInRow_27 : decode cX2_firstInRow 27 = .ok (.istore 4, 2) := by decide +kernel
theorem dX2_firstInRow_29 : decode cX2_firstInRow 29 = .ok (.iload 4, 2) := by decide +kernel
theorem dX2_firstInRow_31 : decode cX2_firstInRow 31 = .ok (.iconst (-1), 1) := by decide +kernel
theorem dX2_firstInRow_32 : decode cX2_firstInRow 32 = .ok (.if_icmp .eq 6, 3) := by decide +kernel
theorem dX2_firstInRow_35 : decode cX2_firstInRow 35 = .ok (.iload 4, 2) := by decide +kernel
theorem dX2_firstInRow_37 : decode cX2_firstInRow 37 = .ok (.ireturn, 1) := by decide +kernel
theorem dX2_firstInRow_38 : decode cX2_firstInRow 38 = .ok (.iinc 3 (-1), 3) := by decide +kernel
theorem dX2_firstInRow_41 : decode cX2_firstInRow 41 = .ok (.goto (-39), 3) := by decide +kernel
theorem dX2_firstInRow_44 : decode cX2_firstInRow 44 = .ok (.iconst (-1), 1) := by decide +kernel
theorem dX2_firstInRow_45 : decode cX2_firstInRow 45 = .ok (.ireturn, 1) := by decide +kernel
set_option maxRecDepth 20000 in
theorem ggX2_firstInstanceInRow_X0_inRow : GoodIn wsX2_firstInstanceInRow wsX0_inRow := goodIn_r _ [7, 8, 9, 10, 11, 6, 12, 13, 14, 15, 16, 32, 33, 34, 35, 36, 37, 38, 39, 40, 41] (by decide +kernel) (by decide +kernel)
set_option maxRecDepth 20000 in
theorem gX2_firstInstanceInRow_X0_inRow : GoodIn wsX2_firstInstanceInRow (wsV RX2 164 RX0 yX0_inRow wsX0_inRow) := goodIn_app (goodIn_of _ (by decide +kernel)) ggX2_firstInstanceInRow_X0_inRow
set_option maxRecDepth 20000 in
theorem ggX2_firstInstanceInRow_X1_inClass : GoodIn wsX2_firstInstanceInRow wsX1_inClass := goodIn_r _ [21, 22, 23, 24, 42, 43, 44, 45, 46, 47, 48] (by decide +kernel) (by decide +kernel)
set_option maxRecDepth 20000 in
theorem gX2_firstInstanceInRow_X1_inClass : GoodIn wsX2_firstInstanceInRow (wsV RX2 64 RX1 yX1_inClass wsX1_inClass) := goodIn_app (goodIn_of _ (by decide +kernel)) ggX2_firstInstanceInRow_X1_inClass
set_option maxRecDepth 20000 in
theorem ggX2_firstInstanceInRow_X1_isStatic : GoodIn wsX2_firstInstanceInRow wsX1_isStatic := goodIn_r _ [28, 29, 42, 43, 44, 45, 46, 47, 48] (by decide +kernel) (by decide +kernel)
set_option maxRecDepth 20000 in
theorem gX2_firstInstanceInRow_X1_isStatic : GoodIn wsX2_firstInstanceInRow (wsV RX2 112 RX1 yX1_isStatic wsX1_isStatic) := goodIn_app (goodIn_of _ (by decide +kernel)) ggX2_firstInstanceInRow_X1_isStatic
theorem dX2_firstInstanceInRow_0 : decode cX2_firstInstanceInRow 0 = .ok (.iload_n 1, 1) := by decide +kernel
theorem dX2_firstInstanceInRow_1 : decode cX2_firstInstanceInRow 1 = .ok (.istore_n 3, 1) := by decide +kernel
theorem dX2_firstInstanceInRow_2 : decode cX2_firstInstanceInRow 2 = .ok (.iload_n 3, 1) := by decide +kernel
theorem dX2_firstInstanceInRow_3 : decode cX2_firstInstanceInRow 3 = .ok (.ifCond .lt 53, 3) := by decide +kernel
theorem dX2_firstInstanceInRow_6 : decode cX2_firstInstanceInRow 6 = .ok (.aload_n 0, 1) := by decide +kernel
theorem dX2_firstInstanceInRow_7 : decode cX2_firstInstanceInRow 7 = .ok (.getfield 10, 3) := by decide +kernel
theorem dX2_firstInstanceInRow_10 : decode cX2_firstInstanceInRow 10 = .ok (.iload_n 1, 1) := by decide +kernel
theorem dX2_firstInstanceInRow_11 : decode cX2_firstInstanceInRow 11 = .ok (.iload_n 3, 1) := by decide +kernel
theorem dX2_firstInstanceInRow_12 : decode cX2_firstInstanceInRow 12 = .ok (.invokevirtual 164, 3) := by decide +kernel
theorem dX2_firstInstanceInRow_15 : decode cX2_firstInstanceInRow 15 = .ok (.ifCond .eq 35, 3) := by decide +kernel
theorem dX2_firstInstanceInRow_18 : decode cX2_firstInstanceInRow 18 = .ok (.aload_n 0, 1) := by decide +kernel
theorem dX2_firstInstanceInRow_19 : decode cX2_firstInstanceInRow 19 = .ok (.getfield 19, 3) := by decide +kernel
theorem dX2_firstInstanceInRow_22 : decode cX2_firstInstanceInRow 22 = .ok (.iload_n 3, 1) := by decide +kernel
theorem dX2_firstInstanceInRow_23 : decode cX2_firstInstanceInRow 23 = .ok (.iload_n 2, 1) := by decide +kernel
theorem dX2_firstInstanceInRow_24 : decode cX2_firstInstanceInRow 24 = .ok (.invokevirtual 64, 3) := by decide +kernel
theorem dX2_firstInstanceInRow_27 : decode cX2_firstInstanceInRow 27 = .ok (.istore 4, 2) := by decide +kernel
theorem dX2_firstInstanceInRow_29 : decode cX2_firstInstanceInRow 29 = .ok (.iload 4, 2) := by decide +kernel
theorem dX2_firstInstanceInRow_31 : decode cX2_firstInstanceInRow 31 = .ok (.iconst (-1), 1) := by decide +kernel
theorem dX2_firstInstanceInRow_32 : decode cX2_firstInstanceInRow 32 = .ok (.if_icmp .eq 18, 3) := by decide +kernel
theorem dX2_firstInstanceInRow_35 : decode cX2_firstInstanceInRow 35 = .ok (.aload_n 0, 1) := by decide +kernel
theorem dX2_firstInstanceInRow_36 : decode cX2_firstInstanceInRow 36 = .ok (.getfield 19, 3) := by decide +kernel
theorem dX2_firstInstanceInRow_39 : decode cX2_firstInstanceInRow 39 = .ok (.iload 4, 2) := by decide +kernel
theorem dX2_firstInstanceInRow_41 : decode cX2_firstInstanceInRow 41 = .ok (.invokevirtual 112, 3) := by decide +kernel
theorem dX2_firstInstanceInRow_44 : decode cX2_firstInstanceInRow 44 = .ok (.ifCond .ne 6, 3) := by decide +kernel
theorem dX2_firstInstanceInRow_47 : decode cX2_firstInstanceInRow 47 = .ok (.iload 4, 2) := by decide +kernel
theorem dX2_firstInstanceInRow_49 : decode cX2_firstInstanceInRow 49 = .ok (.ireturn, 1) := by decide +kernel
theorem dX2_firstInstanceInRow_50 : decode cX2_firstInstanceInRow 50 = .ok (.iinc 3 (-1), 3) := by decide +kernel
theorem dX2_firstInstanceInRow_53 : decode cX2_firstInstanceInRow 53 = .ok (.goto (-51), 3) := by decide +kernel
theorem dX2_firstInstanceInRow_56 : decode cX2_firstInstanceInRow 56 = .ok (.iconst (-1), 1) := by decide +kernel
theorem dX2_firstInstanceInRow_57 : decode cX2_firstInstanceInRow 57 = .ok (.ireturn, 1) := by decide +kernel
set_option maxRecDepth 20000 in
theorem ggX2_firstReplacing_X0_inRow : GoodIn wsX2_firstReplacing wsX0_inRow := goodIn_r _ [8, 9, 10, 11, 12, 7, 13, 14, 15, 16, 17, 67, 68, 69, 70, 71, 72, 73, 74, 75, 76] (by decide +kernel) (by decide +kernel)
set_option maxRecDepth 20000 in
theorem gX2_firstReplacing_X0_inRow : GoodIn wsX2_firstReplacing (wsV RX2 164 RX0 yX0_inRow wsX0_inRow) := goodIn_app (goodIn_of _ (by decide +kernel)) ggX2_firstReplacing_X0_inRow
set_option maxRecDepth 20000 in
theorem ggX2_firstReplacing_X1_inClass : GoodIn wsX2_firstReplacing wsX1_inClass := goodIn_r _ [22, 23, 24, 25, 60, 61, 62, 63, 64, 65, 66] (by decide +kernel) (by decide +kernel)
set_option maxRecDepth 20000 in
theorem gX2_firstReplacing_X1_inClass : GoodIn wsX2_firstReplacing (wsV RX2 64 RX1 yX1_inClass wsX1_inClass) := goodIn_app (goodIn_of _ (by decide +kernel)) ggX2_firstReplacing_X1_inClass
set_option maxRecDepth 20000 in
theorem ggX2_firstReplacing_X2_replaces : GoodIn wsX2_firstReplacing wsX2_replaces := goodIn_r _ [29, 2, 1, 30, 31, 32, 33, 34, 16, 35, 3, 36, 37, 38, 21, 39, 40, 41, 42, 43, 44, 45, 46, 47, 48, 49, 50, 51, 52, 53, 54, 55, 56, 57, 4, 5, 6, 7, 8, 9, 10, 11, 12, 13, 14, 15, 17, 18, 19, 20, 22, 23, 24, 25, 58, 59, 67, 68, 69, 70, 71, 72, 73, 74, 75, 76, 60, 61, 62, 63, 64, 65, 66] (by decide +kernel) (by decide +kernel)
set_option maxRecDepth 20000 in
theorem gX2_firstReplacing_X2_replaces : GoodIn wsX2_firstReplacing (wsV RX2 86 RX2 yX2_replaces wsX2_replaces) := goodIn_app (goodIn_of _ (by decide +kernel)) ggX2_firstReplacing_X2_replaces
theorem dX2_firstReplacing_0 : decode cX2_firstReplacing 0 = .ok (.iload_n 1, 1) := by decide +kernel
theorem dX2_firstReplacing_1 : decode cX2_firstReplacing 1 = .ok (.istore_n 3, 1) := by decide +kernel
theorem dX2_firstReplacing_2 : decode cX2_firstReplacing 2 = .ok (.iload_n 3, 1) := by decide +kernel
theorem dX2_firstReplacing_3 : decode cX2_firstReplacing 3 = .ok (.ifCond .lt 65, 3) := by decide +kernel
theorem dX2_firstReplacing_6 : decode cX2_firstReplacing 6 = .ok (.aload_n 0, 1) := by decide +kernel
theorem dX2_firstReplacing_7 : decode cX2_firstReplacing 7 = .ok (.getfield 10, 3) := by decide +kernel
theorem dX2_firstReplacing_10 : decode cX2_firstReplacing 10 = .ok (.iload_n 1, 1) := by decide +kernel
theorem dX2_firstReplacing_11 : decode cX2_firstReplacing 11 = .ok (.iload_n 3, 1) := by decide +kernel
theorem dX2_firstReplacing_12 : decode cX2_firstReplacing 12 = .ok (.invokevirtual 164, 3) := by decide +kernel
theorem dX2_firstReplacing_15 : decode cX2_firstReplacing 15 = .ok (.ifCond .eq 47, 3) := by decide +kernel
theorem dX2_firstReplacing_18 : decode cX2_firstReplacing 18 = .ok (.aload_n 0, 1) := by decide +kernel
theorem dX2_firstReplacing_19 : decode cX2_firstReplacing 19 = .ok (.getfield 19, 3) := by decide +kernel
theorem dX2_firstReplacing_22 : decode cX2_firstReplacing 22 = .ok (.iload_n 3, 1) := by decide +kernel
theorem dX2_firstReplacing_23 : decode cX2_firstReplacing 23 = .ok (.aload_n 0, 1) := by decide +kernel
theorem dX2_firstReplacing_24 : decode cX2_firstReplacing 24 = .ok (.getfield 19, 3) := by decide +kernel
theorem dX2_firstReplacing_27 : decode cX2_firstReplacing 27 = .ok (.getfield 131, 3) := by decide +kernel
theorem dX2_firstReplacing_30 : decode cX2_firstReplacing 30 = .ok (.iload_n 2, 1) := by decide +kernel
theorem dX2_firstReplacing_31 : decode cX2_firstReplacing 31 = .ok (.iaload, 1) := by decide +kernel
theorem dX2_firstReplacing_32 : decode cX2_firstReplacing 32 = .ok (.invokevirtual 64, 3) := by decide +kernel
theorem dX2_firstReplacing_35 : decode cX2_firstReplacing 35 = .ok (.istore 4, 2) := by decide +kernel
theorem dX2_firstReplacing_37 : decode cX2_firstReplacing 37 = .ok (.iload 4, 2) := by decide +kernel
theorem dX2_firstReplacing_39 : decode cX2_firstReplacing 39 = .ok (.iconst (-1), 1) := by decide +kernel
theorem dX2_firstReplacing_40 : decode cX2_firstReplacing 40 = .ok (.if_icmp .eq 22, 3) := by decide +kernel
theorem dX2_firstReplacing_43 : decode cX2_firstReplacing 43 = .ok (.iload 4, 2) := by decide +kernel
theorem dX2_firstReplacing_45 : decode cX2_firstReplacing 45 = .ok (.iload_n 2, 1) := by decide +kernel
theorem dX2_firstReplacing_46 : decode cX2_firstReplacing 46 = .ok (.if_icmp .eq 13, 3) := by decide +kernel
theorem dX2_firstReplacing_49 : decode cX2_firstReplacing 49 = .ok (.aload_n 0, 1) := by decide +kernel
theorem dX2_firstReplacing_50 : decode cX2_firstReplacing 50 = .ok (.iload 4, 2) := by decide +kernel
theorem dX2_firstReplacing_52 : decode cX2_firstReplacing 52 = .ok (.iload_n 2, 1) := by decide +kernel
theorem dX2_firstReplacing_53 : decode cX2_firstReplacing 53 = .ok (.invokevirtual 86, 3) := by decide +kernel
theorem dX2_firstReplacing_56 : decode cX2_firstReplacing 56 = .ok (.ifCond .eq 6, 3) := by decide +kernel
theorem dX2_firstReplacing_59 : decode cX2_firstReplacing 59 = .ok (.iload 4, 2) := by decide +kernel
theorem dX2_firstReplacing_61 : decode cX2_firstReplacing 61 = .ok (.ireturn, 1) := by decide +kernel
theorem dX2_firstReplacing_62 : decode cX2_firstReplacing 62 = .ok (.iinc 3 (-1), 3) := by decide +kernel
theorem dX2_firstReplacing_65 : decode cX2_firstReplacing 65 = .ok (.goto (-63), 3) := by decide +kernel
theorem dX2_firstReplacing_68 : decode cX2_firstReplacing 68 = .ok (.iconst (-1), 1) := by decide +kernel
theorem dX2_firstReplacing_69 : decode cX2_firstReplacing 69 = .ok (.ireturn, 1) := by decide +kernel
set_option maxRecDepth 20000 in
theorem ggX2_firstInFaces_X0_faceAt : GoodIn wsX2_firstInFaces wsX0_faceAt := goodIn_r _ [8, 9, 10, 21, 22, 23, 24, 25, 26, 27, 28, 29, 30] (by decide +kernel) (by decide +kernel)
set_option maxRecDepth 20000 in
theorem gX2_firstInFaces_X0_faceAt : GoodIn wsX2_firstInFaces (wsV RX2 82 RX0 yX0_faceAt wsX0_faceAt) := goodIn_app (goodIn_of _ (by decide +kernel)) ggX2_firstInFaces_X0_faceAt
set_option maxRecDepth 20000 in
theorem ggX2_firstInFaces_X1_inClass : GoodIn wsX2_firstInFaces wsX1_inClass := goodIn_r _ [15, 16, 17, 18, 31, 32, 33, 34, 35, 36, 37] (by decide +kernel) (by decide +kernel)
set_option maxRecDepth 20000 in
theorem gX2_firstInFaces_X1_inClass : GoodIn wsX2_firstInFaces (wsV RX2 64 RX1 yX1_inClass wsX1_inClass) := goodIn_app (goodIn_of _ (by decide +kernel)) ggX2_firstInFaces_X1_inClass
theorem dX2_firstInFaces_0 : decode cX2_firstInFaces 0 = .ok (.iconst 0, 1) := by decide +kernel
theorem dX2_firstInFaces_1 : decode cX2_firstInFaces 1 = .ok (.istore_n 3, 1) := by decide +kernel
theorem dX2_firstInFaces_2 : decode cX2_firstInFaces 2 = .ok (.iload_n 3, 1) := by decide +kernel
theorem dX2_firstInFaces_3 : decode cX2_firstInFaces 3 = .ok (.aload_n 0, 1) := by decide +kernel
theorem dX2_firstInFaces_4 : decode cX2_firstInFaces 4 = .ok (.getfield 10, 3) := by decide +kernel
theorem dX2_firstInFaces_7 : decode cX2_firstInFaces 7 = .ok (.getfield 79, 3) := by decide +kernel
theorem dX2_firstInFaces_10 : decode cX2_firstInFaces 10 = .ok (.iload_n 1, 1) := by decide +kernel
theorem dX2_firstInFaces_11 : decode cX2_firstInFaces 11 = .ok (.iaload, 1) := by decide +kernel
theorem dX2_firstInFaces_12 : decode cX2_firstInFaces 12 = .ok (.if_icmp .ge 37, 3) := by decide +kernel
theorem dX2_firstInFaces_15 : decode cX2_firstInFaces 15 = .ok (.aload_n 0, 1) := by decide +kernel
theorem dX2_firstInFaces_16 : decode cX2_firstInFaces 16 = .ok (.getfield 19, 3) := by decide +kernel
theorem dX2_firstInFaces_19 : decode cX2_firstInFaces 19 = .ok (.aload_n 0, 1) := by decide +kernel
theorem dX2_firstInFaces_20 : decode cX2_firstInFaces 20 = .ok (.getfield 10, 3) := by decide +kernel
theorem dX2_firstInFaces_23 : decode cX2_firstInFaces 23 = .ok (.iload_n 1, 1) := by decide +kernel
theorem dX2_firstInFaces_24 : decode cX2_firstInFaces 24 = .ok (.iload_n 3, 1) := by decide +kernel
theorem dX2_firstInFaces_25 : decode cX2_firstInFaces 25 = .ok (.invokevirtual 82, 3) := by decide +kernel
theorem dX2_firstInFaces_28 : decode cX2_firstInFaces 28 = .ok (.iload_n 2, 1) := by decide +kernel
theorem dX2_firstInFaces_29 : decode cX2_firstInFaces 29 = .ok (.invokevirtual 64, 3) := by decide +kernel
theorem dX2_firstInFaces_32 : decode cX2_firstInFaces 32 = .ok (.istore 4, 2) := by decide +kernel
theorem dX2_firstInFaces_34 : decode cX2_firstInFaces 34 = .ok (.iload 4, 2) := by decide +kernel
theorem dX2_firstInFaces_36 : decode cX2_firstInFaces 36 = .ok (.iconst (-1), 1) := by decide +kernel
theorem dX2_firstInFaces_37 : decode cX2_firstInFaces 37 = .ok (.if_icmp .eq 6, 3) := by decide +kernel
theorem dX2_firstInFaces_40 : decode cX2_firstInFaces 40 = .ok (.iload 4, 2) := by decide +kernel
theorem dX2_firstInFaces_42 : decode cX2_firstInFaces 42 = .ok (.ireturn, 1) := by decide +kernel
theorem dX2_firstInFaces_43 : decode cX2_firstInFaces 43 = .ok (.iinc 3 1, 3) := by decide +kernel
theorem dX2_firstInFaces_46 : decode cX2_firstInFaces 46 = .ok (.goto (-44), 3) := by decide +kernel
theorem dX2_firstInFaces_49 : decode cX2_firstInFaces 49 = .ok (.iconst (-1), 1) := by decide +kernel
theorem dX2_firstInFaces_50 : decode cX2_firstInFaces 50 = .ok (.ireturn, 1) := by decide +kernel
set_option maxRecDepth 20000 in
theorem ggX2_hiddenFaces_X0_faceAt : GoodIn wsX2_hiddenFaces wsX0_faceAt := goodIn_r _ [9, 10, 11, 22, 23, 24, 25, 26, 27, 28, 29, 30, 31] (by decide +kernel) (by decide +kernel)
set_option maxRecDepth 20000 in
theorem gX2_hiddenFaces_X0_faceAt : GoodIn wsX2_hiddenFaces (wsV RX2 82 RX0 yX0_faceAt wsX0_faceAt) := goodIn_app (goodIn_of _ (by decide +kernel)) ggX2_hiddenFaces_X0_faceAt
set_option maxRecDepth 20000 in
theorem ggX2_hiddenFaces_X1_inClass : GoodIn wsX2_hiddenFaces wsX1_inClass := goodIn_r _ [16, 17, 18, 19, 32, 33, 34, 35, 36, 37, 38] (by decide +kernel) (by decide +kernel)
set_option maxRecDepth 20000 in
theorem gX2_hiddenFaces_X1_inClass : GoodIn wsX2_hiddenFaces (wsV RX2 64 RX1 yX1_inClass wsX1_inClass) := goodIn_app (goodIn_of _ (by decide +kernel)) ggX2_hiddenFaces_X1_inClass
theorem dX2_hiddenFaces_0 : decode cX2_hiddenFaces 0 = .ok (.lconst 0, 1) := by decide +kernel
theorem dX2_hiddenFaces_1 : decode cX2_hiddenFaces 1 = .ok (.lstore_n 3, 1) := by decide +kernel
theorem dX2_hiddenFaces_2 : decode cX2_hiddenFaces 2 = .ok (.iconst 0, 1) := by decide +kernel
theorem dX2_hiddenFaces_3 : decode cX2_hiddenFaces 3 = .ok (.istore 5, 2) := by decide +kernel
theorem dX2_hiddenFaces_5 : decode cX2_hiddenFaces 5 = .ok (.iload 5, 2) := by decide +kernel
theorem dX2_hiddenFaces_7 : decode cX2_hiddenFaces 7 = .ok (.aload_n 0, 1) := by decide +kernel
theorem dX2_hiddenFaces_8 : decode cX2_hiddenFaces 8 = .ok (.getfield 10, 3) := by decide +kernel
theorem dX2_hiddenFaces_11 : decode cX2_hiddenFaces 11 = .ok (.getfield 79, 3) := by decide +kernel
theorem dX2_hiddenFaces_14 : decode cX2_hiddenFaces 14 = .ok (.iload_n 1, 1) := by decide +kernel
theorem dX2_hiddenFaces_15 : decode cX2_hiddenFaces 15 = .ok (.iaload, 1) := by decide +kernel
theorem dX2_hiddenFaces_16 : decode cX2_hiddenFaces 16 = .ok (.if_icmp .ge 48, 3) := by decide +kernel
theorem dX2_hiddenFaces_19 : decode cX2_hiddenFaces 19 = .ok (.aload_n 0, 1) := by decide +kernel
theorem dX2_hiddenFaces_20 : decode cX2_hiddenFaces 20 = .ok (.getfield 10, 3) := by decide +kernel
theorem dX2_hiddenFaces_23 : decode cX2_hiddenFaces 23 = .ok (.iload_n 1, 1) := by decide +kernel
theorem dX2_hiddenFaces_24 : decode cX2_hiddenFaces 24 = .ok (.iload 5, 2) := by decide +kernel
theorem dX2_hiddenFaces_26 : decode cX2_hiddenFaces 26 = .ok (.invokevirtual 82, 3) := by decide +kernel
theorem dX2_hiddenFaces_29 : decode cX2_hiddenFaces 29 = .ok (.istore 6, 2) := by decide +kernel
theorem dX2_hiddenFaces_31 : decode cX2_hiddenFaces 31 = .ok (.aload_n 0, 1) := by decide +kernel
theorem dX2_hiddenFaces_32 : decode cX2_hiddenFaces 32 = .ok (.getfield 19, 3) := by decide +kernel
theorem dX2_hiddenFaces_35 : decode cX2_hiddenFaces 35 = .ok (.iload 6, 2) := by decide +kernel
theorem dX2_hiddenFaces_37 : decode cX2_hiddenFaces 37 = .ok (.iload_n 2, 1) := by decide +kernel
theorem dX2_hiddenFaces_38 : decode cX2_hiddenFaces 38 = .ok (.invokevirtual 64, 3) := by decide +kernel
theorem dX2_hiddenFaces_41 : decode cX2_hiddenFaces 41 = .ok (.iconst (-1), 1) := by decide +kernel
theorem dX2_hiddenFaces_42 : decode cX2_hiddenFaces 42 = .ok (.if_icmp .eq 16, 3) := by decide +kernel
theorem dX2_hiddenFaces_45 : decode cX2_hiddenFaces 45 = .ok (.lload_n 3, 1) := by decide +kernel
theorem dX2_hiddenFaces_46 : decode cX2_hiddenFaces 46 = .ok (.aload_n 0, 1) := by decide +kernel
theorem dX2_hiddenFaces_47 : decode cX2_hiddenFaces 47 = .ok (.getfield 10, 3) := by decide +kernel
theorem dX2_hiddenFaces_50 : decode cX2_hiddenFaces 50 = .ok (.getfield 170, 3) := by decide +kernel
theorem dX2_hiddenFaces_53 : decode cX2_hiddenFaces 53 = .ok (.iload 6, 2) := by decide +kernel
theorem dX2_hiddenFaces_55 : decode cX2_hiddenFaces 55 = .ok (.laload, 1) := by decide +kernel
theorem dX2_hiddenFaces_56 : decode cX2_hiddenFaces 56 = .ok (.lor, 1) := by decide +kernel
theorem dX2_hiddenFaces_57 : decode cX2_hiddenFaces 57 = .ok (.lstore_n 3, 1) := by decide +kernel
theorem dX2_hiddenFaces_58 : decode cX2_hiddenFaces 58 = .ok (.iinc 5 1, 3) := by decide +kernel
theorem dX2_hiddenFaces_61 : decode cX2_hiddenFaces 61 = .ok (.goto (-56), 3) := by decide +kernel
theorem dX2_hiddenFaces_64 : decode cX2_hiddenFaces 64 = .ok (.lload_n 3, 1) := by decide +kernel
theorem dX2_hiddenFaces_65 : decode cX2_hiddenFaces 65 = .ok (.lreturn, 1) := by decide +kernel
set_option maxRecDepth 20000 in
theorem ggX2_nearestAt_X0_faceAt : GoodIn wsX2_nearestAt wsX0_faceAt := goodIn_r _ [7, 8, 9, 24, 25, 26, 27, 28, 29, 30, 31, 32, 33] (by decide +kernel) (by decide +kernel)
set_option maxRecDepth 20000 in
theorem gX2_nearestAt_X0_faceAt : GoodIn wsX2_nearestAt (wsV RX2 82 RX0 yX0_faceAt wsX0_faceAt) := goodIn_app (goodIn_of _ (by decide +kernel)) ggX2_nearestAt_X0_faceAt
set_option maxRecDepth 20000 in
theorem ggX2_nearestAt_X2_holds : GoodIn wsX2_nearestAt wsX2_holds := goodIn_r _ [13] (by decide +kernel) (by decide +kernel)
set_option maxRecDepth 20000 in
theorem gX2_nearestAt_X2_holds : GoodIn wsX2_nearestAt (va_wsS RX2 174 yX2_holds wsX2_holds) := goodIn_app (goodIn_of _ (by decide +kernel)) ggX2_nearestAt_X2_holds
set_option maxRecDepth 20000 in
theorem ggX2_nearestAt_X1_inClass : GoodIn wsX2_nearestAt wsX1_inClass := goodIn_r _ [18, 19, 20, 21, 34, 35, 36, 37, 38, 39, 40] (by decide +kernel) (by decide +kernel)
set_option maxRecDepth 20000 in
theorem gX2_nearestAt_X1_inClass : GoodIn wsX2_nearestAt (wsV RX2 64 RX1 yX1_inClass wsX1_inClass) := goodIn_app (goodIn_of _ (by decide +kernel)) ggX2_nearestAt_X1_inClass
theorem dX2_nearestAt_0 : decode cX2_nearestAt 0 = .ok (.aload_n 0, 1) := by decide +kernel
theorem dX2_nearestAt_1 : decode cX2_nearestAt 1 = .ok (.getfield 10, 3) := by decide +kernel
theorem dX2_nearestAt_4 : decode cX2_nearestAt 4 = .ok (.iload_n 1, 1) := by decide +kernel
theorem dX2_nearestAt_5 : decode cX2_nearestAt 5 = .ok (.iload_n 3, 1) := by decide +kernel
theorem dX2_nearestAt_6 : decode cX2_nearestAt 6 = .ok (.invokevirtual 82, 3) := by decide +kernel
theorem dX2_nearestAt_9 : decode cX2_nearestAt 9 = .ok (.istore 6, 2) := by decide +kernel
theorem dX2_nearestAt_11 : decode cX2_nearestAt 11 = .ok (.lload 4, 2) := by decide +kernel
theorem dX2_nearestAt_13 : decode cX2_nearestAt 13 = .ok (.iload 6, 2) := by decide +kernel
theorem dX2_nearestAt_15 : decode cX2_nearestAt 15 = .ok (.invokestatic 174, 3) := by decide +kernel
theorem dX2_nearestAt_18 : decode cX2_nearestAt 18 = .ok (.ifCond .eq 7, 3) := by decide +kernel
theorem dX2_nearestAt_21 : decode cX2_nearestAt 21 = .ok (.iconst (-1), 1) := by decide +kernel
theorem dX2_nearestAt_22 : decode cX2_nearestAt 22 = .ok (.goto 13, 3) := by decide +kernel
theorem dX2_nearestAt_25 : decode cX2_nearestAt 25 = .ok (.aload_n 0, 1) := by decide +kernel
theorem dX2_nearestAt_26 : decode cX2_nearestAt 26 = .ok (.getfield 19, 3) := by decide +kernel
theorem dX2_nearestAt_29 : decode cX2_nearestAt 29 = .ok (.iload 6, 2) := by decide +kernel
theorem dX2_nearestAt_31 : decode cX2_nearestAt 31 = .ok (.iload_n 2, 1) := by decide +kernel
theorem dX2_nearestAt_32 : decode cX2_nearestAt 32 = .ok (.invokevirtual 64, 3) := by decide +kernel
theorem dX2_nearestAt_35 : decode cX2_nearestAt 35 = .ok (.ireturn, 1) := by decide +kernel
set_option maxRecDepth 20000 in
theorem ggX2_onlyConcreteNearest_X2_hiddenFaces : GoodIn wsX2_onlyConcreteNearest wsX2_hiddenFaces := goodIn_r _ [8, 1, 2, 3, 9, 10, 11, 12, 13, 14, 15, 16, 17, 18, 19, 20, 21, 22, 23, 24, 37, 38, 39, 40, 41, 42, 43, 44, 45, 46, 47, 48, 49, 50, 51, 52, 53, 54, 55] (by decide +kernel) (by decide +kernel)
set_option maxRecDepth 20000 in
theorem gX2_onlyConcreteNearest_X2_hiddenFaces : GoodIn wsX2_onlyConcreteNearest (wsV RX2 95 RX2 yX2_hiddenFaces wsX2_hiddenFaces) := goodIn_app (goodIn_of _ (by decide +kernel)) ggX2_onlyConcreteNearest_X2_hiddenFaces
set_option maxRecDepth 20000 in
theorem ggX2_onlyConcreteNearest_X2_nearestAt : GoodIn wsX2_onlyConcreteNearest wsX2_nearestAt := goodIn_r _ [28, 1, 3, 10, 11, 12, 13, 14, 15, 16, 29, 30, 7, 31, 17, 18, 19, 20, 21, 22, 23, 24, 37, 38, 39, 40, 41, 42, 43, 44, 45, 46, 47, 48, 49, 50, 51, 52, 53, 54, 55] (by decide +kernel) (by decide +kernel)
set_option maxRecDepth 20000 in
theorem gX2_onlyConcreteNearest_X2_nearestAt : GoodIn wsX2_onlyConcreteNearest (wsV RX2 99 RX2 yX2_nearestAt wsX2_nearestAt) := goodIn_app (goodIn_of _ (by decide +kernel)) ggX2_onlyConcreteNearest_X2_nearestAt
set_option maxRecDepth 20000 in
theorem ggX2_onlyConcreteNearest_X1_isAbstract : GoodIn wsX2_onlyConcreteNearest wsX1_isAbstract := goodIn_r _ [35, 36, 49, 50, 51, 52, 53, 54, 55] (by decide +kernel) (by decide +kernel)
set_option maxRecDepth 20000 in
theorem gX2_onlyConcreteNearest_X1_isAbstract : GoodIn wsX2_onlyConcreteNearest (wsV RX2 178 RX1 yX1_isAbstract wsX1_isAbstract) := goodIn_app (goodIn_of _ (by decide +kernel)) ggX2_onlyConcreteNearest_X1_isAbstract
theorem dX2_onlyConcreteNearest_0 : decode cX2_onlyConcreteNearest 0 = .ok (.aload_n 0, 1) := by decide +kernel
theorem dX2_onlyConcreteNearest_1 : decode cX2_onlyConcreteNearest 1 = .ok (.iload_n 1, 1) := by decide +kernel
theorem dX2_onlyConcreteNearest_2 : decode cX2_onlyConcreteNearest 2 = .ok (.iload_n 2, 1) := by decide +kernel
theorem dX2_onlyConcreteNearest_3 : decode cX2_onlyConcreteNearest 3 = .ok (.invokevirtual 95, 3) := by decide +kernel
theorem dX2_onlyConcreteNearest_6 : decode cX2_onlyConcreteNearest 6 = .ok (.lstore_n 3, 1) := by decide +kernel
theorem dX2_onlyConcreteNearest_7 : decode cX2_onlyConcreteNearest 7 = .ok (.iconst (-1), 1) := by decide +kernel
theorem dX2_onlyConcreteNearest_8 : decode cX2_onlyConcreteNearest 8 = .ok (.istore 5, 2) := by decide +kernel
theorem dX2_onlyConcreteNearest_10 : decode cX2_onlyConcreteNearest 10 = .ok (.iconst 0, 1) := by decide +kernel
theorem dX2_onlyConcreteNearest_11 : decode cX2_onlyConcreteNearest 11 = .ok (.istore 6, 2) := by decide +kernel
theorem dX2_onlyConcreteNearest_13 : decode cX2_onlyConcreteNearest 13 = .ok (.iload 6, 2) := by decide +kernel
theorem dX2_onlyConcreteNearest_15 : decode cX2_onlyConcreteNearest 15 = .ok (.aload_n 0, 1) := by decide +kernel
theorem dX2_onlyConcreteNearest_16 : decode cX2_onlyConcreteNearest 16 = .ok (.getfield 10, 3) := by decide +kernel
theorem dX2_onlyConcreteNearest_19 : decode cX2_onlyConcreteNearest 19 = .ok (.getfield 79, 3) := by decide +kernel
theorem dX2_onlyConcreteNearest_22 : decode cX2_onlyConcreteNearest 22 = .ok (.iload_n 1, 1) := by decide +kernel
theorem dX2_onlyConcreteNearest_23 : decode cX2_onlyConcreteNearest 23 = .ok (.iaload, 1) := by decide +kernel
theorem dX2_onlyConcreteNearest_24 : decode cX2_onlyConcreteNearest 24 = .ok (.if_icmp .ge 51, 3) := by decide +kernel
theorem dX2_onlyConcreteNearest_27 : decode cX2_onlyConcreteNearest 27 = .ok (.aload_n 0, 1) := by decide +kernel
theorem dX2_onlyConcreteNearest_28 : decode cX2_onlyConcreteNearest 28 = .ok (.iload_n 1, 1) := by decide +kernel
theorem dX2_onlyConcreteNearest_29 : decode cX2_onlyConcreteNearest 29 = .ok (.iload_n 2, 1) := by decide +kernel
theorem dX2_onlyConcreteNearest_30 : decode cX2_onlyConcreteNearest 30 = .ok (.iload 6, 2) := by decide +kernel
theorem dX2_onlyConcreteNearest_32 : decode cX2_onlyConcreteNearest 32 = .ok (.lload_n 3, 1) := by decide +kernel
theorem dX2_onlyConcreteNearest_33 : decode cX2_onlyConcreteNearest 33 = .ok (.invokevirtual 99, 3) := by decide +kernel
theorem dX2_onlyConcreteNearest_36 : decode cX2_onlyConcreteNearest 36 = .ok (.istore 7, 2) := by decide +kernel
theorem dX2_onlyConcreteNearest_38 : decode cX2_onlyConcreteNearest 38 = .ok (.iload 7, 2) := by decide +kernel
theorem dX2_onlyConcreteNearest_40 : decode cX2_onlyConcreteNearest 40 = .ok (.iconst (-1), 1) := by decide +kernel
theorem dX2_onlyConcreteNearest_41 : decode cX2_onlyConcreteNearest 41 = .ok (.if_icmp .eq 28, 3) := by decide +kernel
theorem dX2_onlyConcreteNearest_44 : decode cX2_onlyConcreteNearest 44 = .ok (.aload_n 0, 1) := by decide +kernel
theorem dX2_onlyConcreteNearest_45 : decode cX2_onlyConcreteNearest 45 = .ok (.getfield 19, 3) := by decide +kernel
theorem dX2_onlyConcreteNearest_48 : decode cX2_onlyConcreteNearest 48 = .ok (.iload 7, 2) := by decide +kernel
theorem dX2_onlyConcreteNearest_50 : decode cX2_onlyConcreteNearest 50 = .ok (.invokevirtual 178, 3) := by decide +kernel
theorem dX2_onlyConcreteNearest_53 : decode cX2_onlyConcreteNearest 53 = .ok (.ifCond .ne 16, 3) := by decide +kernel
theorem dX2_onlyConcreteNearest_56 : decode cX2_onlyConcreteNearest 56 = .ok (.iload 5, 2) := by decide +kernel
theorem dX2_onlyConcreteNearest_58 : decode cX2_onlyConcreteNearest 58 = .ok (.iconst (-1), 1) := by decide +kernel
theorem dX2_onlyConcreteNearest_59 : decode cX2_onlyConcreteNearest 59 = .ok (.if_icmp .eq 6, 3) := by decide +kernel
theorem dX2_onlyConcreteNearest_62 : decode cX2_onlyConcreteNearest 62 = .ok (.bipush (-26), 2) := by decide +kernel
theorem dX2_onlyConcreteNearest_64 : decode cX2_onlyConcreteNearest 64 = .ok (.ireturn, 1) := by decide +kernel
theorem dX2_onlyConcreteNearest_65 : decode cX2_onlyConcreteNearest 65 = .ok (.iload 7, 2) := by decide +kernel
theorem dX2_onlyConcreteNearest_67 : decode cX2_onlyConcreteNearest 67 = .ok (.istore 5, 2) := by decide +kernel
theorem dX2_onlyConcreteNearest_69 : decode cX2_onlyConcreteNearest 69 = .ok (.iinc 6 1, 3) := by decide +kernel
theorem dX2_onlyConcreteNearest_72 : decode cX2_onlyConcreteNearest 72 = .ok (.goto (-59), 3) := by decide +kernel
theorem dX2_onlyConcreteNearest_75 : decode cX2_onlyConcreteNearest 75 = .ok (.iload 5, 2) := by decide +kernel
theorem dX2_onlyConcreteNearest_77 : decode cX2_onlyConcreteNearest 77 = .ok (.ireturn, 1) := by decide +kernel
set_option maxRecDepth 20000 in
theorem ggX2_unlessAbstract_X1_isAbstract : GoodIn wsX2_unlessAbstract wsX1_isAbstract := goodIn_r _ [6, 7, 10, 11, 12, 13, 14, 15, 16] (by decide +kernel) (by decide +kernel)
set_option maxRecDepth 20000 in
theorem gX2_unlessAbstract_X1_isAbstract : GoodIn wsX2_unlessAbstract (wsV RX2 178 RX1 yX1_isAbstract wsX1_isAbstract) := goodIn_app (goodIn_of _ (by decide +kernel)) ggX2_unlessAbstract_X1_isAbstract
theorem dX2_unlessAbstract_0 : decode cX2_unlessAbstract 0 = .ok (.aload_n 0, 1) := by decide +kernel
theorem dX2_unlessAbstract_1 : decode cX2_unlessAbstract 1 = .ok (.getfield 19, 3) := by decide +kernel
theorem dX2_unlessAbstract_4 : decode cX2_unlessAbstract 4 = .ok (.iload_n 1, 1) := by decide +kernel
theorem dX2_unlessAbstract_5 : decode cX2_unlessAbstract 5 = .ok (.invokevirtual 178, 3) := by decide +kernel
theorem dX2_unlessAbstract_8 : decode cX2_unlessAbstract 8 = .ok (.ifCond .eq 8, 3) := by decide +kernel
theorem dX2_unlessAbstract_11 : decode cX2_unlessAbstract 11 = .ok (.bipush (-25), 2) := by decide +kernel
theorem dX2_unlessAbstract_13 : decode cX2_unlessAbstract 13 = .ok (.goto 4, 3) := by decide +kernel
theorem dX2_unlessAbstract_16 : decode cX2_unlessAbstract 16 = .ok (.iload_n 1, 1) := by decide +kernel
theorem dX2_unlessAbstract_17 : decode cX2_unlessAbstract 17 = .ok (.ireturn, 1) := by decide +kernel
theorem dX2_holds_0 : decode cX2_holds 0 = .ok (.lload_n 0, 1) := by decide +kernel
theorem dX2_holds_1 : decode cX2_holds 1 = .ok (.iload_n 2, 1) := by decide +kernel
theorem dX2_holds_2 : decode cX2_holds 2 = .ok (.lushr, 1) := by decide +kernel
theorem dX2_holds_3 : decode cX2_holds 3 = .ok (.lconst 1, 1) := by decide +kernel
theorem dX2_holds_4 : decode cX2_holds 4 = .ok (.land, 1) := by decide +kernel
theorem dX2_holds_5 : decode cX2_holds 5 = .ok (.lconst 0, 1) := by decide +kernel
theorem dX2_holds_6 : decode cX2_holds 6 = .ok (.lcmp, 1) := by decide +kernel
theorem dX2_holds_7 : decode cX2_holds 7 = .ok (.ifCond .eq 7, 3) := by decide +kernel
theorem dX2_holds_10 : decode cX2_holds 10 = .ok (.iconst 1, 1) := by decide +kernel
theorem dX2_holds_11 : decode cX2_holds 11 = .ok (.goto 4, 3) := by decide +kernel
theorem dX2_holds_14 : decode cX2_holds 14 = .ok (.iconst 0, 1) := by decide +kernel
theorem dX2_holds_15 : decode cX2_holds 15 = .ok (.ireturn, 1) := by decide +kernel
end
section
set_option maxRecDepth 20000 in
theorem ggX3_init_Jx4a65c_init_da8c8 : GoodIn wsX3_init wsJx4a65c_init_da8c8 := goodIn_r _ [17, 18, 19, 20, 21, 22, 23, 24, 25, 26, 27, 28, 29, 2, 3, 30, 31, 32] (by decide +kernel) (by decide +kernel)
set_option maxRecDepth 20000 in
theorem gX3_init_Jx4a65c_init_da8c8 : GoodIn wsX3_init (wsJx4a65c_init_da8c8) := ggX3_init_Jx4a65c_init_da8c8
theorem dX3_init_0 : decode cX3_init 0 = .ok (.aload_n 0, 1) := by decide +kernel
theorem dX3_init_1 : decode cX3_init 1 = .ok (.invokespecial 1, 3) := by decide +kernel
theorem dX3_init_4 : decode cX3_init 4 = .ok (.aload_n 0, 1) := by decide +kernel
theorem dX3_init_5 : decode cX3_init 5 = .ok (.new 7, 3) := by decide +kernel
theorem dX3_init_8 : decode cX3_init 8 = .ok (.dup, 1) := by decide +kernel
theorem dX3_init_9 : decode cX3_init 9 = .ok (.invokespecial 9, 3) := by decide +kernel
theorem dX3_init_12 : decode cX3_init 12 = .ok (.putfield 10, 3) := by decide +kernel
theorem dX3_init_15 : decode cX3_init 15 = .ok (.aload_n 0, 1) := by decide +kernel
theorem dX3_init_16 : decode cX3_init 16 = .ok (.new 7, 3) := by decide +kernel
theorem dX3_init_19 : decode cX3_init 19 = .ok (.dup, 1) := by decide +kernel
theorem dX3_init_20 : decode cX3_init 20 = .ok (.invokespecial 9, 3) := by decide +kernel
theorem dX3_init_23 : decode cX3_init 23 = .ok (.putfield 16, 3) := by decide +kernel
theorem dX3_init_26 : decode cX3_init 26 = .ok (.aload_n 0, 1) := by decide +kernel
theorem dX3_init_27 : decode cX3_init 27 = .ok (.new 7, 3) := by decide +kernel
theorem dX3_init_30 : decode cX3_init 30 = .ok (.dup, 1) := by decide +kernel
theorem dX3_init_31 : decode cX3_init 31 = .ok (.invokespecial 9, 3) := by decide +kernel
theorem dX3_init_34 : decode cX3_init 34 = .ok (.putfield 19, 3) := by decide +kernel
theorem dX3_init_37 : decode cX3_init 37 = .ok (.aload_n 0, 1) := by decide +kernel
theorem dX3_init_38 : decode cX3_init 38 = .ok (.iconst (-1), 1) := by decide +kernel
theorem dX3_init_39 : decode cX3_init 39 = .ok (.putfield 22, 3) := by decide +kernel
theorem dX3_init_42 : decode cX3_init 42 = .ok (.aload_n 0, 1) := by decide +kernel
theorem dX3_init_43 : decode cX3_init 43 = .ok (.iload_n 1, 1) := by decide +kernel
theorem dX3_init_44 : decode cX3_init 44 = .ok (.putfield 26, 3) := by decide +kernel
theorem dX3_init_47 : decode cX3_init 47 = .ok (.aload_n 0, 1) := by decide +kernel
theorem dX3_init_48 : decode cX3_init 48 = .ok (.aload_n 2, 1) := by decide +kernel
theorem dX3_init_49 : decode cX3_init 49 = .ok (.putfield 29, 3) := by decide +kernel
theorem dX3_init_52 : decode cX3_init 52 = .ok (.aload_n 0, 1) := by decide +kernel
theorem dX3_init_53 : decode cX3_init 53 = .ok (.iload_n 3, 1) := by decide +kernel
theorem dX3_init_54 : decode cX3_init 54 = .ok (.putfield 33, 3) := by decide +kernel
theorem dX3_init_57 : decode cX3_init 57 = .ok (.aload_n 0, 1) := by decide +kernel
theorem dX3_init_58 : decode cX3_init 58 = .ok (.iload 4, 2) := by decide +kernel
theorem dX3_init_60 : decode cX3_init 60 = .ok (.putfield 36, 3) := by decide +kernel
theorem dX3_init_63 : decode cX3_init 63 = .ok (.return_, 1) := by decide +kernel
set_option maxRecDepth 20000 in
theorem ggX3_named_Jx4a65c_size_8abf5 : GoodIn wsX3_named wsJx4a65c_size_8abf5 := goodIn_r _ [8, 9, 43, 44, 45] (by decide +kernel) (by decide +kernel)
set_option maxRecDepth 20000 in
theorem gX3_named_Jx4a65c_size_8abf5 : GoodIn wsX3_named (wsV RX3 40 RJx4a65c yJx4a65c_size_8abf5 wsJx4a65c_size_8abf5) := goodIn_app (goodIn_of _ (by decide +kernel)) ggX3_named_Jx4a65c_size_8abf5
set_option maxRecDepth 20000 in
theorem ggX3_named_Jx4a65c_get_915e3 : GoodIn wsX3_named wsJx4a65c_get_915e3 := goodIn_r _ [13, 9, 14, 15, 16, 17, 18, 19, 20, 21, 22, 23, 24, 7, 25, 26, 43, 44, 45] (by decide +kernel) (by decide +kernel)
set_option maxRecDepth 20000 in
theorem gX3_named_Jx4a65c_get_915e3 : GoodIn wsX3_named (wsV RX3 44 RJx4a65c yJx4a65c_get_915e3 wsJx4a65c_get_915e3) := goodIn_app (goodIn_of _ (by decide +kernel)) ggX3_named_Jx4a65c_get_915e3
theorem dX3_named_0 : decode cX3_named 0 = .ok (.iconst 0, 1) := by decide +kernel
theorem dX3_named_1 : decode cX3_named 1 = .ok (.istore_n 2, 1) := by decide +kernel
theorem dX3_named_2 : decode cX3_named 2 = .ok (.iload_n 2, 1) := by decide +kernel
theorem dX3_named_3 : decode cX3_named 3 = .ok (.aload_n 0, 1) := by decide +kernel
theorem dX3_named_4 : decode cX3_named 4 = .ok (.getfield 16, 3) := by decide +kernel
theorem dX3_named_7 : decode cX3_named 7 = .ok (.invokevirtual 40, 3) := by decide +kernel
theorem dX3_named_10 : decode cX3_named 10 = .ok (.if_icmp .ge 39, 3) := by decide +kernel
theorem dX3_named_13 : decode cX3_named 13 = .ok (.aload_n 0, 1) := by decide +kernel
theorem dX3_named_14 : decode cX3_named 14 = .ok (.getfield 16, 3) := by decide +kernel
theorem dX3_named_17 : decode cX3_named 17 = .ok (.iload_n 2, 1) := by decide +kernel
theorem dX3_named_18 : decode cX3_named 18 = .ok (.invokevirtual 44, 3) := by decide +kernel
theorem dX3_named_21 : decode cX3_named 21 = .ok (.checkcast 48, 3) := by decide +kernel
theorem dX3_named_24 : decode cX3_named 24 = .ok (.getfield 50, 3) := by decide +kernel
theorem dX3_named_27 : decode cX3_named 27 = .ok (.iload_n 1, 1) := by decide +kernel
theorem dX3_named_28 : decode cX3_named 28 = .ok (.if_icmp .ne 15, 3) := by decide +kernel
theorem dX3_named_31 : decode cX3_named 31 = .ok (.aload_n 0, 1) := by decide +kernel
theorem dX3_named_32 : decode cX3_named 32 = .ok (.getfield 16, 3) := by decide +kernel
theorem dX3_named_35 : decode cX3_named 35 = .ok (.iload_n 2, 1) := by decide +kernel
theorem dX3_named_36 : decode cX3_named 36 = .ok (.invokevirtual 44, 3) := by decide +kernel
theorem dX3_named_39 : decode cX3_named 39 = .ok (.checkcast 48, 3) := by decide +kernel
theorem dX3_named_42 : decode cX3_named 42 = .ok (.areturn, 1) := by decide +kernel
theorem dX3_named_43 : decode cX3_named 43 = .ok (.iinc 2 1, 3) := by decide +kernel
theorem dX3_named_46 : decode cX3_named 46 = .ok (.goto (-44), 3) := by decide +kernel
theorem dX3_named_49 : decode cX3_named 49 = .ok (.aconst_null, 1) := by decide +kernel
theorem dX3_named_50 : decode cX3_named 50 = .ok (.areturn, 1) := by decide +kernel
theorem dX4_init_0 : decode cX4_init 0 = .ok (.aload_n 0, 1) := by decide +kernel
theorem dX4_init_1 : decode cX4_init 1 = .ok (.invokespecial 1, 3) := by decide +kernel
theorem dX4_init_4 : decode cX4_init 4 = .ok (.aload_n 0, 1) := by decide +kernel
theorem dX4_init_5 : decode cX4_init 5 = .ok (.iload_n 1, 1) := by decide +kernel
theorem dX4_init_6 : decode cX4_init 6 = .ok (.putfield 7, 3) := by decide +kernel
theorem dX4_init_9 : decode cX4_init 9 = .ok (.aload_n 0, 1) := by decide +kernel
theorem dX4_init_10 : decode cX4_init 10 = .ok (.aload_n 2, 1) := by decide +kernel
theorem dX4_init_11 : decode cX4_init 11 = .ok (.putfield 13, 3) := by decide +kernel
theorem dX4_init_14 : decode cX4_init 14 = .ok (.aload_n 0, 1) := by decide +kernel
theorem dX4_init_15 : decode cX4_init 15 = .ok (.iload_n 3, 1) := by decide +kernel
theorem dX4_init_16 : decode cX4_init 16 = .ok (.putfield 17, 3) := by decide +kernel
theorem dX4_init_19 : decode cX4_init 19 = .ok (.aload_n 0, 1) := by decide +kernel
theorem dX4_init_20 : decode cX4_init 20 = .ok (.iload 4, 2) := by decide +kernel
theorem dX4_init_22 : decode cX4_init 22 = .ok (.putfield 20, 3) := by decide +kernel
theorem dX4_init_25 : decode cX4_init 25 = .ok (.aload_n 0, 1) := by decide +kernel
theorem dX4_init_26 : decode cX4_init 26 = .ok (.iload 5, 2) := by decide +kernel
theorem dX4_init_28 : decode cX4_init 28 = .ok (.iconst 1, 1) := by decide +kernel
theorem dX4_init_29 : decode cX4_init 29 = .ok (.iand, 1) := by decide +kernel
theorem dX4_init_30 : decode cX4_init 30 = .ok (.iconst 1, 1) := by decide +kernel
theorem dX4_init_31 : decode cX4_init 31 = .ok (.if_icmp .ne 7, 3) := by decide +kernel
theorem dX4_init_34 : decode cX4_init 34 = .ok (.iconst 1, 1) := by decide +kernel
theorem dX4_init_35 : decode cX4_init 35 = .ok (.goto 4, 3) := by decide +kernel
theorem dX4_init_38 : decode cX4_init 38 = .ok (.iconst 0, 1) := by decide +kernel
theorem dX4_init_39 : decode cX4_init 39 = .ok (.putfield 23, 3) := by decide +kernel
theorem dX4_init_42 : decode cX4_init 42 = .ok (.aload_n 0, 1) := by decide +kernel
theorem dX4_init_43 : decode cX4_init 43 = .ok (.iload 5, 2) := by decide +kernel
theorem dX4_init_45 : decode cX4_init 45 = .ok (.iconst 1, 1) := by decide +kernel
theorem dX4_init_46 : decode cX4_init 46 = .ok (.ishr, 1) := by decide +kernel
theorem dX4_init_47 : decode cX4_init 47 = .ok (.iconst 1, 1) := by decide +kernel
theorem dX4_init_48 : decode cX4_init 48 = .ok (.iand, 1) := by decide +kernel
theorem dX4_init_49 : decode cX4_init 49 = .ok (.iconst 1, 1) := by decide +kernel
theorem dX4_init_50 : decode cX4_init 50 = .ok (.if_icmp .ne 7, 3) := by decide +kernel
theorem dX4_init_53 : decode cX4_init 53 = .ok (.iconst 1, 1) := by decide +kernel
theorem dX4_init_54 : decode cX4_init 54 = .ok (.goto 4, 3) := by decide +kernel
theorem dX4_init_57 : decode cX4_init 57 = .ok (.iconst 0, 1) := by decide +kernel
theorem dX4_init_58 : decode cX4_init 58 = .ok (.putfield 27, 3) := by decide +kernel
theorem dX4_init_61 : decode cX4_init 61 = .ok (.aload_n 0, 1) := by decide +kernel
theorem dX4_init_62 : decode cX4_init 62 = .ok (.iload 5, 2) := by decide +kernel
theorem dX4_init_64 : decode cX4_init 64 = .ok (.iconst 2, 1) := by decide +kernel
theorem dX4_init_65 : decode cX4_init 65 = .ok (.ishr, 1) := by decide +kernel
theorem dX4_init_66 : decode cX4_init 66 = .ok (.iconst 1, 1) := by decide +kernel
theorem dX4_init_67 : decode cX4_init 67 = .ok (.iand, 1) := by decide +kernel
theorem dX4_init_68 : decode cX4_init 68 = .ok (.iconst 1, 1) := by decide +kernel
theorem dX4_init_69 : decode cX4_init 69 = .ok (.if_icmp .ne 7, 3) := by decide +kernel
theorem dX4_init_72 : decode cX4_init 72 = .ok (.iconst 1, 1) := by decide +kernel
theorem dX4_init_73 : decode cX4_init 73 = .ok (.goto 4, 3) := by decide +kernel
theorem dX4_init_76 : decode cX4_init 76 = .ok (.iconst 0, 1) := by decide +kernel
theorem dX4_init_77 : decode cX4_init 77 = .ok (.putfield 30, 3) := by decide +kernel
theorem dX4_init_80 : decode cX4_init 80 = .ok (.return_, 1) := by decide +kernel
set_option maxRecDepth 20000 in
theorem ggX5_init_Jx4a65c_init_da8c8 : GoodIn wsX5_init wsJx4a65c_init_da8c8 := goodIn_r _ [14, 15, 16, 17, 18, 19, 20, 21, 22, 23, 24, 25, 26, 2, 3, 94, 95, 96] (by decide +kernel) (by decide +kernel)
set_option maxRecDepth 20000 in
theorem gX5_init_Jx4a65c_init_da8c8 : GoodIn wsX5_init (wsJx4a65c_init_da8c8) := ggX5_init_Jx4a65c_init_da8c8
set_option maxRecDepth 20000 in
theorem ggX5_init_X3_init : GoodIn wsX5_init wsX3_init := goodIn_r _ [29, 30, 2, 3, 31, 5, 6, 32, 33, 34, 35, 36, 37, 38, 39, 40, 13, 14, 15, 16, 17, 18, 19, 20, 21, 22, 23, 24, 25, 26, 94, 95, 96, 100, 101, 102, 103, 104, 105, 106, 107, 108] (by decide +kernel) (by decide +kernel)
set_option maxRecDepth 20000 in
theorem gX5_init_X3_init : GoodIn wsX5_init (wsX3_init) := ggX5_init_X3_init
set_option maxRecDepth 20000 in
theorem ggX5_init_Jx4a65c_add_9ea2d : GoodIn wsX5_init wsJx4a65c_add_9ea2d := goodIn_r _ [44, 45, 46, 16, 47, 48, 49, 50, 6, 51, 52, 53, 54, 55, 56, 57, 58, 59, 15, 60, 61, 62, 63, 64, 65, 66, 67, 68, 69, 70, 71, 72, 73, 74, 75, 76, 77, 78, 79, 80, 81, 82, 83, 84, 85, 86, 87, 88, 89, 90, 91, 92, 93, 94, 95, 96] (by decide +kernel) (by decide +kernel)
set_option maxRecDepth 20000 in
theorem gX5_init_Jx4a65c_add_9ea2d : GoodIn wsX5_init (wsV RX5 24 RJx4a65c yJx4a65c_add_9ea2d wsJx4a65c_add_9ea2d) := goodIn_app (goodIn_of _ (by decide +kernel)) ggX5_init_Jx4a65c_add_9ea2d
theorem dX5_init_0 : decode cX5_init 0 = .ok (.aload_n 0, 1) := by decide +kernel
theorem dX5_init_1 : decode cX5_init 1 = .ok (.invokespecial 1, 3) := by decide +kernel
theorem dX5_init_4 : decode cX5_init 4 = .ok (.aload_n 0, 1) := by decide +kernel
theorem dX5_init_5 : decode cX5_init 5 = .ok (.new 7, 3) := by decide +kernel
theorem dX5_init_8 : decode cX5_init 8 = .ok (.dup, 1) := by decide +kernel
theorem dX5_init_9 : decode cX5_init 9 = .ok (.invokespecial 9, 3) := by decide +kernel
theorem dX5_init_12 : decode cX5_init 12 = .ok (.putfield 10, 3) := by decide +kernel
theorem dX5_init_15 : decode cX5_init 15 = .ok (.aload_n 0, 1) := by decide +kernel
theorem dX5_init_16 : decode cX5_init 16 = .ok (.new 7, 3) := by decide +kernel
theorem dX5_init_19 : decode cX5_init 19 = .ok (.dup, 1) := by decide +kernel
theorem dX5_init_20 : decode cX5_init 20 = .ok (.invokespecial 9, 3) := by decide +kernel
theorem dX5_init_23 : decode cX5_init 23 = .ok (.putfield 16, 3) := by decide +kernel
theorem dX5_init_26 : decode cX5_init 26 = .ok (.aload_n 0, 1) := by decide +kernel
theorem dX5_init_27 : decode cX5_init 27 = .ok (.getfield 10, 3) := by decide +kernel
theorem dX5_init_30 : decode cX5_init 30 = .ok (.new 19, 3) := by decide +kernel
theorem dX5_init_33 : decode cX5_init 33 = .ok (.dup, 1) := by decide +kernel
theorem dX5_init_34 : decode cX5_init 34 = .ok (.iconst 0, 1) := by decide +kernel
theorem dX5_init_35 : decode cX5_init 35 = .ok (.aconst_null, 1) := by decide +kernel
theorem dX5_init_36 : decode cX5_init 36 = .ok (.iconst 0, 1) := by decide +kernel
theorem dX5_init_37 : decode cX5_init 37 = .ok (.iconst 0, 1) := by decide +kernel
theorem dX5_init_38 : decode cX5_init 38 = .ok (.invokespecial 21, 3) := by decide +kernel
theorem dX5_init_41 : decode cX5_init 41 = .ok (.invokevirtual 24, 3) := by decide +kernel
theorem dX5_init_44 : decode cX5_init 44 = .ok (.pop, 1) := by decide +kernel
theorem dX5_init_45 : decode cX5_init 45 = .ok (.return_, 1) := by decide +kernel
set_option maxRecDepth 20000 in
theorem ggX5_at_Jx4a65c_size_8abf5 : GoodIn wsX5_at wsJx4a65c_size_8abf5 := goodIn_r _ [7, 8, 29, 30, 31] (by decide +kernel) (by decide +kernel)
set_option maxRecDepth 20000 in
theorem gX5_at_Jx4a65c_size_8abf5 : GoodIn wsX5_at (wsV RX5 28 RJx4a65c yJx4a65c_size_8abf5 wsJx4a65c_size_8abf5) := goodIn_app (goodIn_of _ (by decide +kernel)) ggX5_at_Jx4a65c_size_8abf5
set_option maxRecDepth 20000 in
theorem ggX5_at_Jx4a65c_get_915e3 : GoodIn wsX5_at wsJx4a65c_get_915e3 := goodIn_r _ [12, 8, 13, 14, 15, 16, 17, 18, 19, 20, 21, 22, 23, 6, 24, 25, 29, 30, 31] (by decide +kernel) (by decide +kernel)
set_option maxRecDepth 20000 in
theorem gX5_at_Jx4a65c_get_915e3 : GoodIn wsX5_at (wsV RX5 32 RJx4a65c yJx4a65c_get_915e3 wsJx4a65c_get_915e3) := goodIn_app (goodIn_of _ (by decide +kernel)) ggX5_at_Jx4a65c_get_915e3
theorem dX5_at_0 : decode cX5_at 0 = .ok (.iload_n 1, 1) := by decide +kernel
theorem dX5_at_1 : decode cX5_at 1 = .ok (.ifCond .lt 28, 3) := by decide +kernel
theorem dX5_at_4 : decode cX5_at 4 = .ok (.iload_n 1, 1) := by decide +kernel
theorem dX5_at_5 : decode cX5_at 5 = .ok (.aload_n 0, 1) := by decide +kernel
theorem dX5_at_6 : decode cX5_at 6 = .ok (.getfield 10, 3) := by decide +kernel
theorem dX5_at_9 : decode cX5_at 9 = .ok (.invokevirtual 28, 3) := by decide +kernel
theorem dX5_at_12 : decode cX5_at 12 = .ok (.if_icmp .ge 17, 3) := by decide +kernel
theorem dX5_at_15 : decode cX5_at 15 = .ok (.aload_n 0, 1) := by decide +kernel
theorem dX5_at_16 : decode cX5_at 16 = .ok (.getfield 10, 3) := by decide +kernel
theorem dX5_at_19 : decode cX5_at 19 = .ok (.iload_n 1, 1) := by decide +kernel
theorem dX5_at_20 : decode cX5_at 20 = .ok (.invokevirtual 32, 3) := by decide +kernel
theorem dX5_at_23 : decode cX5_at 23 = .ok (.checkcast 19, 3) := by decide +kernel
theorem dX5_at_26 : decode cX5_at 26 = .ok (.goto 4, 3) := by decide +kernel
theorem dX5_at_29 : decode cX5_at 29 = .ok (.aconst_null, 1) := by decide +kernel
theorem dX5_at_30 : decode cX5_at 30 = .ok (.areturn, 1) := by decide +kernel
set_option maxRecDepth 20000 in
theorem ggX5_met_Jx4a65c_size_8abf5 : GoodIn wsX5_met wsJx4a65c_size_8abf5 := goodIn_r _ [7, 8, 29, 30, 31] (by decide +kernel) (by decide +kernel)
set_option maxRecDepth 20000 in
theorem gX5_met_Jx4a65c_size_8abf5 : GoodIn wsX5_met (wsV RX5 28 RJx4a65c yJx4a65c_size_8abf5 wsJx4a65c_size_8abf5) := goodIn_app (goodIn_of _ (by decide +kernel)) ggX5_met_Jx4a65c_size_8abf5
set_option maxRecDepth 20000 in
theorem ggX5_met_Jx4a65c_get_915e3 : GoodIn wsX5_met wsJx4a65c_get_915e3 := goodIn_r _ [12, 8, 13, 14, 15, 16, 17, 18, 19, 20, 21, 22, 23, 6, 24, 25, 29, 30, 31] (by decide +kernel) (by decide +kernel)
set_option maxRecDepth 20000 in
theorem gX5_met_Jx4a65c_get_915e3 : GoodIn wsX5_met (wsV RX5 32 RJx4a65c yJx4a65c_get_915e3 wsJx4a65c_get_915e3) := goodIn_app (goodIn_of _ (by decide +kernel)) ggX5_met_Jx4a65c_get_915e3
theorem dX5_met_0 : decode cX5_met 0 = .ok (.iload_n 1, 1) := by decide +kernel
theorem dX5_met_1 : decode cX5_met 1 = .ok (.ifCond .lt 28, 3) := by decide +kernel
theorem dX5_met_4 : decode cX5_met 4 = .ok (.iload_n 1, 1) := by decide +kernel
theorem dX5_met_5 : decode cX5_met 5 = .ok (.aload_n 0, 1) := by decide +kernel
theorem dX5_met_6 : decode cX5_met 6 = .ok (.getfield 16, 3) := by decide +kernel
theorem dX5_met_9 : decode cX5_met 9 = .ok (.invokevirtual 28, 3) := by decide +kernel
theorem dX5_met_12 : decode cX5_met 12 = .ok (.if_icmp .ge 17, 3) := by decide +kernel
theorem dX5_met_15 : decode cX5_met 15 = .ok (.aload_n 0, 1) := by decide +kernel
theorem dX5_met_16 : decode cX5_met 16 = .ok (.getfield 16, 3) := by decide +kernel
theorem dX5_met_19 : decode cX5_met 19 = .ok (.iload_n 1, 1) := by decide +kernel
theorem dX5_met_20 : decode cX5_met 20 = .ok (.invokevirtual 32, 3) := by decide +kernel
theorem dX5_met_23 : decode cX5_met 23 = .ok (.checkcast 36, 3) := by decide +kernel
theorem dX5_met_26 : decode cX5_met 26 = .ok (.goto 4, 3) := by decide +kernel
theorem dX5_met_29 : decode cX5_met 29 = .ok (.aconst_null, 1) := by decide +kernel
theorem dX5_met_30 : decode cX5_met 30 = .ok (.areturn, 1) := by decide +kernel
theorem dX5_isName_0 : decode cX5_isName 0 = .ok (.iload_n 0, 1) := by decide +kernel
theorem dX5_isName_1 : decode cX5_isName 1 = .ok (.ifCond .lt 13, 3) := by decide +kernel
theorem dX5_isName_4 : decode cX5_isName 4 = .ok (.iload_n 0, 1) := by decide +kernel
theorem dX5_isName_5 : decode cX5_isName 5 = .ok (.bipush 32, 2) := by decide +kernel
theorem dX5_isName_7 : decode cX5_isName 7 = .ok (.if_icmp .ge 7, 3) := by decide +kernel
theorem dX5_isName_10 : decode cX5_isName 10 = .ok (.iconst 1, 1) := by decide +kernel
theorem dX5_isName_11 : decode cX5_isName 11 = .ok (.goto 4, 3) := by decide +kernel
theorem dX5_isName_14 : decode cX5_isName 14 = .ok (.iconst 0, 1) := by decide +kernel
theorem dX5_isName_15 : decode cX5_isName 15 = .ok (.ireturn, 1) := by decide +kernel
set_option maxRecDepth 20000 in
theorem ggX5_add_X5_at : GoodIn wsX5_add wsX5_at := goodIn_r _ [10, 2, 11, 12, 13, 14, 15, 16, 17, 18, 19, 20, 21, 22, 23, 24, 25, 26, 27, 28, 29, 30, 31, 32, 33, 34, 126, 127, 128, 129, 130, 131] (by decide +kernel) (by decide +kernel)
set_option maxRecDepth 20000 in
theorem gX5_add_X5_at : GoodIn wsX5_add (wsV RX5 38 RX5 yX5_at wsX5_at) := goodIn_app (goodIn_of _ (by decide +kernel)) ggX5_add_X5_at
set_option maxRecDepth 20000 in
theorem ggX5_add_Jx4a65c_size_8abf5 : GoodIn wsX5_add wsJx4a65c_size_8abf5 := goodIn_r _ [16, 17, 129, 130, 131] (by decide +kernel) (by decide +kernel)
set_option maxRecDepth 20000 in
theorem gX5_add_Jx4a65c_size_8abf5 : GoodIn wsX5_add (wsV RX5 28 RJx4a65c yJx4a65c_size_8abf5 wsJx4a65c_size_8abf5) := goodIn_app (goodIn_of _ (by decide +kernel)) ggX5_add_Jx4a65c_size_8abf5
set_option maxRecDepth 20000 in
theorem ggX5_add_X3_init : GoodIn wsX5_add wsX3_init := goodIn_r _ [37, 38, 39, 40, 41, 42, 15, 43, 44, 45, 46, 47, 48, 49, 50, 51, 52, 53, 54, 34, 55, 56, 57, 58, 59, 60, 61, 62, 63, 64, 129, 130, 131, 117, 118, 119, 120, 121, 122, 123, 124, 125] (by decide +kernel) (by decide +kernel)
set_option maxRecDepth 20000 in
theorem gX5_add_X3_init : GoodIn wsX5_add (wsX3_init) := ggX5_add_X3_init
set_option maxRecDepth 20000 in
theorem ggX5_add_Jx4a65c_add_9ea2d : GoodIn wsX5_add wsJx4a65c_add_9ea2d := goodIn_r _ [68, 69, 70, 34, 17, 71, 72, 73, 15, 74, 75, 76, 77, 78, 79, 80, 81, 82, 54, 83, 84, 85, 86, 87, 88, 89, 90, 91, 92, 93, 94, 95, 96, 97, 98, 99, 100, 101, 102, 103, 104, 105, 106, 107, 108, 109, 110, 111, 112, 113, 114, 115, 116, 129, 130, 131] (by decide +kernel) (by decide +kernel)
set_option maxRecDepth 20000 in
theorem gX5_add_Jx4a65c_add_9ea2d : GoodIn wsX5_add (wsV RX5 24 RJx4a65c yJx4a65c_add_9ea2d wsJx4a65c_add_9ea2d) := goodIn_app (goodIn_of _ (by decide +kernel)) ggX5_add_Jx4a65c_add_9ea2d
theorem dX5_add_0 : decode cX5_add 0 = .ok (.aload_n 0, 1) := by decide +kernel
theorem dX5_add_1 : decode cX5_add 1 = .ok (.iload_n 1, 1) := by decide +kernel
theorem dX5_add_2 : decode cX5_add 2 = .ok (.invokevirtual 38, 3) := by decide +kernel
theorem dX5_add_5 : decode cX5_add 5 = .ok (.astore 4, 2) := by decide +kernel
theorem dX5_add_7 : decode cX5_add 7 = .ok (.aload 4, 2) := by decide +kernel
theorem dX5_add_9 : decode cX5_add 9 = .ok (.ifnull 11, 3) := by decide +kernel
theorem dX5_add_12 : decode cX5_add 12 = .ok (.aload 4, 2) := by decide +kernel
theorem dX5_add_14 : decode cX5_add 14 = .ok (.getfield 42, 3) := by decide +kernel
theorem dX5_add_17 : decode cX5_add 17 = .ok (.ifCond .eq 6, 3) := by decide +kernel
theorem dX5_add_20 : decode cX5_add 20 = .ok (.bipush (-14), 2) := by decide +kernel
theorem dX5_add_22 : decode cX5_add 22 = .ok (.ireturn, 1) := by decide +kernel
theorem dX5_add_23 : decode cX5_add 23 = .ok (.iload_n 2, 1) := by decide +kernel
theorem dX5_add_24 : decode cX5_add 24 = .ok (.ifCond .lt 27, 3) := by decide +kernel
theorem dX5_add_27 : decode cX5_add 27 = .ok (.iload_n 2, 1) := by decide +kernel
theorem dX5_add_28 : decode cX5_add 28 = .ok (.bipush 9, 2) := by decide +kernel
theorem dX5_add_30 : decode cX5_add 30 = .ok (.if_icmp .gt 21, 3) := by decide +kernel
theorem dX5_add_33 : decode cX5_add 33 = .ok (.iload_n 3, 1) := by decide +kernel
theorem dX5_add_34 : decode cX5_add 34 = .ok (.ifCond .lt 17, 3) := by decide +kernel
theorem dX5_add_37 : decode cX5_add 37 = .ok (.iload_n 3, 1) := by decide +kernel
theorem dX5_add_38 : decode cX5_add 38 = .ok (.iconst 1, 1) := by decide +kernel
theorem dX5_add_39 : decode cX5_add 39 = .ok (.if_icmp .gt 12, 3) := by decide +kernel
theorem dX5_add_42 : decode cX5_add 42 = .ok (.iload_n 3, 1) := by decide +kernel
theorem dX5_add_43 : decode cX5_add 43 = .ok (.iconst 1, 1) := by decide +kernel
theorem dX5_add_44 : decode cX5_add 44 = .ok (.if_icmp .ne 9, 3) := by decide +kernel
theorem dX5_add_47 : decode cX5_add 47 = .ok (.iload_n 1, 1) := by decide +kernel
theorem dX5_add_48 : decode cX5_add 48 = .ok (.ifCond .eq 5, 3) := by decide +kernel
theorem dX5_add_51 : decode cX5_add 51 = .ok (.iconst (-1), 1) := by decide +kernel
theorem dX5_add_52 : decode cX5_add 52 = .ok (.ireturn, 1) := by decide +kernel
theorem dX5_add_53 : decode cX5_add 53 = .ok (.aload_n 0, 1) := by decide +kernel
theorem dX5_add_54 : decode cX5_add 54 = .ok (.getfield 10, 3) := by decide +kernel
theorem dX5_add_57 : decode cX5_add 57 = .ok (.invokevirtual 28, 3) := by decide +kernel
theorem dX5_add_60 : decode cX5_add 60 = .ok (.bipush 60, 2) := by decide +kernel
theorem dX5_add_62 : decode cX5_add 62 = .ok (.if_icmp .ne 6, 3) := by decide +kernel
theorem dX5_add_65 : decode cX5_add 65 = .ok (.bipush (-12), 2) := by decide +kernel
theorem dX5_add_67 : decode cX5_add 67 = .ok (.ireturn, 1) := by decide +kernel
theorem dX5_add_68 : decode cX5_add 68 = .ok (.aload_n 0, 1) := by decide +kernel
theorem dX5_add_69 : decode cX5_add 69 = .ok (.getfield 10, 3) := by decide +kernel
theorem dX5_add_72 : decode cX5_add 72 = .ok (.new 19, 3) := by decide +kernel
theorem dX5_add_75 : decode cX5_add 75 = .ok (.dup, 1) := by decide +kernel
theorem dX5_add_76 : decode cX5_add 76 = .ok (.aload_n 0, 1) := by decide +kernel
theorem dX5_add_77 : decode cX5_add 77 = .ok (.getfield 10, 3) := by decide +kernel
theorem dX5_add_80 : decode cX5_add 80 = .ok (.invokevirtual 28, 3) := by decide +kernel
theorem dX5_add_83 : decode cX5_add 83 = .ok (.aload 4, 2) := by decide +kernel
theorem dX5_add_85 : decode cX5_add 85 = .ok (.iload_n 2, 1) := by decide +kernel
theorem dX5_add_86 : decode cX5_add 86 = .ok (.iload_n 3, 1) := by decide +kernel
theorem dX5_add_87 : decode cX5_add 87 = .ok (.iconst 1, 1) := by decide +kernel
theorem dX5_add_88 : decode cX5_add 88 = .ok (.if_icmp .ne 7, 3) := by decide +kernel
theorem dX5_add_91 : decode cX5_add 91 = .ok (.iconst 1, 1) := by decide +kernel
theorem dX5_add_92 : decode cX5_add 92 = .ok (.goto 4, 3) := by decide +kernel
theorem dX5_add_95 : decode cX5_add 95 = .ok (.iconst 0, 1) := by decide +kernel
theorem dX5_add_96 : decode cX5_add 96 = .ok (.invokespecial 21, 3) := by decide +kernel
theorem dX5_add_99 : decode cX5_add 99 = .ok (.invokevirtual 24, 3) := by decide +kernel
theorem dX5_add_102 : decode cX5_add 102 = .ok (.pop, 1) := by decide +kernel
theorem dX5_add_103 : decode cX5_add 103 = .ok (.aload_n 0, 1) := by decide +kernel
theorem dX5_add_104 : decode cX5_add 104 = .ok (.getfield 10, 3) := by decide +kernel
theorem dX5_add_107 : decode cX5_add 107 = .ok (.invokevirtual 28, 3) := by decide +kernel
theorem dX5_add_110 : decode cX5_add 110 = .ok (.iconst 1, 1) := by decide +kernel
theorem dX5_add_111 : decode cX5_add 111 = .ok (.isub, 1) := by decide +kernel
theorem dX5_add_112 : decode cX5_add 112 = .ok (.ireturn, 1) := by decide +kernel
set_option maxRecDepth 20000 in
theorem ggX5_implement_X5_at : GoodIn wsX5_implement wsX5_at := goodIn_r _ [9, 1, 10, 11, 12, 13, 14, 15, 16, 17, 18, 19, 20, 21, 22, 23, 24, 25, 26, 27, 28, 29, 30, 31, 32, 33, 90, 91, 92, 102, 103, 104] (by decide +kernel) (by decide +kernel)
set_option maxRecDepth 20000 in
theorem gX5_implement_X5_at : GoodIn wsX5_implement (wsV RX5 38 RX5 yX5_at wsX5_at) := goodIn_app (goodIn_of _ (by decide +kernel)) ggX5_implement_X5_at
set_option maxRecDepth 20000 in
theorem ggX5_implement_Jx4a65c_size_8abf5 : GoodIn wsX5_implement wsJx4a65c_size_8abf5 := goodIn_r _ [15, 16, 102, 103, 104] (by decide +kernel) (by decide +kernel)
set_option maxRecDepth 20000 in
theorem gX5_implement_Jx4a65c_size_8abf5 : GoodIn wsX5_implement (wsV RX5 28 RJx4a65c yJx4a65c_size_8abf5 wsJx4a65c_size_8abf5) := goodIn_app (goodIn_of _ (by decide +kernel)) ggX5_implement_Jx4a65c_size_8abf5
set_option maxRecDepth 20000 in
theorem ggX5_implement_X5_hasFace : GoodIn wsX5_implement wsX5_hasFace := goodIn_r _ [36, 4, 11, 12, 13, 14, 15, 16, 17, 18, 19, 20, 21, 22, 23, 24, 25, 26, 27, 28, 29, 30, 31, 32, 33, 93, 94, 95, 96, 97, 98, 99, 100, 101, 102, 103, 104] (by decide +kernel) (by decide +kernel)
set_option maxRecDepth 20000 in
theorem gX5_implement_X5_hasFace : GoodIn wsX5_implement (va_wsS RX5 47 yX5_hasFace wsX5_hasFace) := goodIn_app (goodIn_of _ (by decide +kernel)) ggX5_implement_X5_hasFace
set_option maxRecDepth 20000 in
theorem ggX5_implement_Jx4a65c_add_9ea2d : GoodIn wsX5_implement wsJx4a65c_add_9ea2d := goodIn_r _ [40, 41, 42, 33, 16, 43, 44, 45, 14, 46, 47, 48, 49, 50, 51, 52, 53, 54, 55, 56, 57, 58, 59, 60, 61, 62, 63, 64, 65, 66, 67, 68, 69, 70, 71, 72, 73, 74, 75, 76, 77, 78, 79, 80, 81, 82, 83, 84, 85, 86, 87, 88, 89, 102, 103, 104] (by decide +kernel) (by decide +kernel)
set_option maxRecDepth 20000 in
theorem gX5_implement_Jx4a65c_add_9ea2d : GoodIn wsX5_implement (wsV RX5 24 RJx4a65c yJx4a65c_add_9ea2d wsJx4a65c_add_9ea2d) := goodIn_app (goodIn_of _ (by decide +kernel)) ggX5_implement_Jx4a65c_add_9ea2d
theorem dX5_implement_0 : decode cX5_implement 0 = .ok (.aload_n 0, 1) := by decide +kernel
theorem dX5_implement_1 : decode cX5_implement 1 = .ok (.iload_n 1, 1) := by decide +kernel
theorem dX5_implement_2 : decode cX5_implement 2 = .ok (.invokevirtual 38, 3) := by decide +kernel
theorem dX5_implement_5 : decode cX5_implement 5 = .ok (.astore_n 3, 1) := by decide +kernel
theorem dX5_implement_6 : decode cX5_implement 6 = .ok (.aload_n 0, 1) := by decide +kernel
theorem dX5_implement_7 : decode cX5_implement 7 = .ok (.iload_n 2, 1) := by decide +kernel
theorem dX5_implement_8 : decode cX5_implement 8 = .ok (.invokevirtual 38, 3) := by decide +kernel
theorem dX5_implement_11 : decode cX5_implement 11 = .ok (.astore 4, 2) := by decide +kernel
theorem dX5_implement_13 : decode cX5_implement 13 = .ok (.aload_n 3, 1) := by decide +kernel
theorem dX5_implement_14 : decode cX5_implement 14 = .ok (.ifnull 34, 3) := by decide +kernel
theorem dX5_implement_17 : decode cX5_implement 17 = .ok (.aload 4, 2) := by decide +kernel
theorem dX5_implement_19 : decode cX5_implement 19 = .ok (.ifnull 29, 3) := by decide +kernel
theorem dX5_implement_22 : decode cX5_implement 22 = .ok (.iload_n 1, 1) := by decide +kernel
theorem dX5_implement_23 : decode cX5_implement 23 = .ok (.aload_n 0, 1) := by decide +kernel
theorem dX5_implement_24 : decode cX5_implement 24 = .ok (.getfield 10, 3) := by decide +kernel
theorem dX5_implement_27 : decode cX5_implement 27 = .ok (.invokevirtual 28, 3) := by decide +kernel
theorem dX5_implement_30 : decode cX5_implement 30 = .ok (.iconst 1, 1) := by decide +kernel
theorem dX5_implement_31 : decode cX5_implement 31 = .ok (.isub, 1) := by decide +kernel
theorem dX5_implement_32 : decode cX5_implement 32 = .ok (.if_icmp .ne 16, 3) := by decide +kernel
theorem dX5_implement_35 : decode cX5_implement 35 = .ok (.iload_n 2, 1) := by decide +kernel
theorem dX5_implement_36 : decode cX5_implement 36 = .ok (.iload_n 1, 1) := by decide +kernel
theorem dX5_implement_37 : decode cX5_implement 37 = .ok (.if_icmp .eq 11, 3) := by decide +kernel
theorem dX5_implement_40 : decode cX5_implement 40 = .ok (.aload 4, 2) := by decide +kernel
theorem dX5_implement_42 : decode cX5_implement 42 = .ok (.getfield 42, 3) := by decide +kernel
theorem dX5_implement_45 : decode cX5_implement 45 = .ok (.ifCond .ne 6, 3) := by decide +kernel
theorem dX5_implement_48 : decode cX5_implement 48 = .ok (.bipush (-14), 2) := by decide +kernel
theorem dX5_implement_50 : decode cX5_implement 50 = .ok (.ireturn, 1) := by decide +kernel
theorem dX5_implement_51 : decode cX5_implement 51 = .ok (.aload_n 3, 1) := by decide +kernel
theorem dX5_implement_52 : decode cX5_implement 52 = .ok (.getfield 46, 3) := by decide +kernel
theorem dX5_implement_55 : decode cX5_implement 55 = .ok (.invokevirtual 28, 3) := by decide +kernel
theorem dX5_implement_58 : decode cX5_implement 58 = .ok (.ifCond .gt 12, 3) := by decide +kernel
theorem dX5_implement_61 : decode cX5_implement 61 = .ok (.aload_n 3, 1) := by decide +kernel
theorem dX5_implement_62 : decode cX5_implement 62 = .ok (.aload 4, 2) := by decide +kernel
theorem dX5_implement_64 : decode cX5_implement 64 = .ok (.invokestatic 47, 3) := by decide +kernel
theorem dX5_implement_67 : decode cX5_implement 67 = .ok (.ifCond .eq 5, 3) := by decide +kernel
theorem dX5_implement_70 : decode cX5_implement 70 = .ok (.iconst (-1), 1) := by decide +kernel
theorem dX5_implement_71 : decode cX5_implement 71 = .ok (.ireturn, 1) := by decide +kernel
theorem dX5_implement_72 : decode cX5_implement 72 = .ok (.aload_n 3, 1) := by decide +kernel
theorem dX5_implement_73 : decode cX5_implement 73 = .ok (.getfield 51, 3) := by decide +kernel
theorem dX5_implement_76 : decode cX5_implement 76 = .ok (.invokevirtual 28, 3) := by decide +kernel
theorem dX5_implement_79 : decode cX5_implement 79 = .ok (.bipush 20, 2) := by decide +kernel
theorem dX5_implement_81 : decode cX5_implement 81 = .ok (.if_icmp .ne 6, 3) := by decide +kernel
theorem dX5_implement_84 : decode cX5_implement 84 = .ok (.bipush (-12), 2) := by decide +kernel
theorem dX5_implement_86 : decode cX5_implement 86 = .ok (.ireturn, 1) := by decide +kernel
theorem dX5_implement_87 : decode cX5_implement 87 = .ok (.aload_n 3, 1) := by decide +kernel
theorem dX5_implement_88 : decode cX5_implement 88 = .ok (.getfield 51, 3) := by decide +kernel
theorem dX5_implement_91 : decode cX5_implement 91 = .ok (.aload 4, 2) := by decide +kernel
theorem dX5_implement_93 : decode cX5_implement 93 = .ok (.invokevirtual 24, 3) := by decide +kernel
theorem dX5_implement_96 : decode cX5_implement 96 = .ok (.pop, 1) := by decide +kernel
theorem dX5_implement_97 : decode cX5_implement 97 = .ok (.aload_n 3, 1) := by decide +kernel
theorem dX5_implement_98 : decode cX5_implement 98 = .ok (.getfield 51, 3) := by decide +kernel
theorem dX5_implement_101 : decode cX5_implement 101 = .ok (.invokevirtual 28, 3) := by decide +kernel
theorem dX5_implement_104 : decode cX5_implement 104 = .ok (.ireturn, 1) := by decide +kernel
set_option maxRecDepth 20000 in
theorem ggX5_hasFace_Jx4a65c_size_8abf5 : GoodIn wsX5_hasFace wsJx4a65c_size_8abf5 := goodIn_r _ [6, 7, 34, 35, 36] (by decide +kernel) (by decide +kernel)
set_option maxRecDepth 20000 in
theorem gX5_hasFace_Jx4a65c_size_8abf5 : GoodIn wsX5_hasFace (wsV RX5 28 RJx4a65c yJx4a65c_size_8abf5 wsJx4a65c_size_8abf5) := goodIn_app (goodIn_of _ (by decide +kernel)) ggX5_hasFace_Jx4a65c_size_8abf5
set_option maxRecDepth 20000 in
theorem ggX5_hasFace_Jx4a65c_get_915e3 : GoodIn wsX5_hasFace wsJx4a65c_get_915e3 := goodIn_r _ [11, 7, 12, 13, 14, 15, 16, 17, 18, 19, 20, 21, 22, 5, 23, 24, 34, 35, 36] (by decide +kernel) (by decide +kernel)
set_option maxRecDepth 20000 in
theorem gX5_hasFace_Jx4a65c_get_915e3 : GoodIn wsX5_hasFace (wsV RX5 32 RJx4a65c yJx4a65c_get_915e3 wsJx4a65c_get_915e3) := goodIn_app (goodIn_of _ (by decide +kernel)) ggX5_hasFace_Jx4a65c_get_915e3
theorem dX5_hasFace_0 : decode cX5_hasFace 0 = .ok (.iconst 0, 1) := by decide +kernel
theorem dX5_hasFace_1 : decode cX5_hasFace 1 = .ok (.istore_n 2, 1) := by decide +kernel
theorem dX5_hasFace_2 : decode cX5_hasFace 2 = .ok (.iload_n 2, 1) := by decide +kernel
theorem dX5_hasFace_3 : decode cX5_hasFace 3 = .ok (.aload_n 0, 1) := by decide +kernel
theorem dX5_hasFace_4 : decode cX5_hasFace 4 = .ok (.getfield 51, 3) := by decide +kernel
theorem dX5_hasFace_7 : decode cX5_hasFace 7 = .ok (.invokevirtual 28, 3) := by decide +kernel
theorem dX5_hasFace_10 : decode cX5_hasFace 10 = .ok (.if_icmp .ge 23, 3) := by decide +kernel
theorem dX5_hasFace_13 : decode cX5_hasFace 13 = .ok (.aload_n 0, 1) := by decide +kernel
theorem dX5_hasFace_14 : decode cX5_hasFace 14 = .ok (.getfield 51, 3) := by decide +kernel
theorem dX5_hasFace_17 : decode cX5_hasFace 17 = .ok (.iload_n 2, 1) := by decide +kernel
theorem dX5_hasFace_18 : decode cX5_hasFace 18 = .ok (.invokevirtual 32, 3) := by decide +kernel
theorem dX5_hasFace_21 : decode cX5_hasFace 21 = .ok (.aload_n 1, 1) := by decide +kernel
theorem dX5_hasFace_22 : decode cX5_hasFace 22 = .ok (.if_acmp .ne 5, 3) := by decide +kernel
theorem dX5_hasFace_25 : decode cX5_hasFace 25 = .ok (.iconst 1, 1) := by decide +kernel
theorem dX5_hasFace_26 : decode cX5_hasFace 26 = .ok (.ireturn, 1) := by decide +kernel
theorem dX5_hasFace_27 : decode cX5_hasFace 27 = .ok (.iinc 2 1, 3) := by decide +kernel
theorem dX5_hasFace_30 : decode cX5_hasFace 30 = .ok (.goto (-28), 3) := by decide +kernel
theorem dX5_hasFace_33 : decode cX5_hasFace 33 = .ok (.iconst 0, 1) := by decide +kernel
theorem dX5_hasFace_34 : decode cX5_hasFace 34 = .ok (.ireturn, 1) := by decide +kernel
set_option maxRecDepth 20000 in
theorem ggX5_method_Jx4a65c_size_8abf5 : GoodIn wsX5_method wsJx4a65c_size_8abf5 := goodIn_r _ [14, 15, 132, 133, 134] (by decide +kernel) (by decide +kernel)
set_option maxRecDepth 20000 in
theorem gX5_method_Jx4a65c_size_8abf5 : GoodIn wsX5_method (wsV RX5 28 RJx4a65c yJx4a65c_size_8abf5 wsJx4a65c_size_8abf5) := goodIn_app (goodIn_of _ (by decide +kernel)) ggX5_method_Jx4a65c_size_8abf5
set_option maxRecDepth 20000 in
theorem ggX5_method_Jx4a65c_get_915e3 : GoodIn wsX5_method wsJx4a65c_get_915e3 := goodIn_r _ [19, 15, 20, 21, 22, 23, 24, 25, 26, 27, 28, 29, 30, 13, 31, 32, 132, 133, 134] (by decide +kernel) (by decide +kernel)
set_option maxRecDepth 20000 in
theorem gX5_method_Jx4a65c_get_915e3 : GoodIn wsX5_method (wsV RX5 32 RJx4a65c yJx4a65c_get_915e3 wsJx4a65c_get_915e3) := goodIn_app (goodIn_of _ (by decide +kernel)) ggX5_method_Jx4a65c_get_915e3
set_option maxRecDepth 20000 in
theorem ggX5_method_X5_isName : GoodIn wsX5_method wsX5_isName := goodIn_r _ [36] (by decide +kernel) (by decide +kernel)
set_option maxRecDepth 20000 in
theorem gX5_method_X5_isName : GoodIn wsX5_method (va_wsS RX5 54 yX5_isName wsX5_isName) := goodIn_app (goodIn_of _ (by decide +kernel)) ggX5_method_X5_isName
set_option maxRecDepth 20000 in
theorem ggX5_method_X3_named : GoodIn wsX5_method wsX3_named := goodIn_r _ [41, 42, 43, 44, 45, 11, 12, 13, 14, 15, 46, 17, 18, 19, 20, 21, 22, 23, 24, 25, 26, 27, 28, 29, 30, 31, 32, 116, 117, 118, 119, 120, 121, 122, 123, 124, 125, 126, 127, 128, 129, 130, 131, 132, 133, 134] (by decide +kernel) (by decide +kernel)
set_option maxRecDepth 20000 in
theorem gX5_method_X3_named : GoodIn wsX5_method (wsV RX5 58 RX3 yX3_named wsX3_named) := goodIn_app (goodIn_of _ (by decide +kernel)) ggX5_method_X3_named
set_option maxRecDepth 20000 in
theorem ggX5_method_X4_init : GoodIn wsX5_method wsX4_init := goodIn_r _ [49, 50, 51, 52, 53, 54, 55, 56, 57, 58, 59, 125, 126, 127, 128, 129, 130, 131] (by decide +kernel) (by decide +kernel)
set_option maxRecDepth 20000 in
theorem gX5_method_X4_init : GoodIn wsX5_method (wsX4_init) := ggX5_method_X4_init
set_option maxRecDepth 20000 in
theorem ggX5_method_Jx4a65c_add_9ea2d : GoodIn wsX5_method wsJx4a65c_add_9ea2d := goodIn_r _ [63, 64, 65, 32, 15, 66, 67, 68, 13, 69, 70, 71, 72, 73, 74, 75, 76, 77, 78, 79, 80, 81, 82, 83, 84, 85, 86, 87, 88, 89, 90, 91, 92, 93, 94, 95, 96, 97, 98, 99, 100, 101, 102, 103, 104, 105, 106, 107, 108, 109, 110, 111, 112, 132, 133, 134] (by decide +kernel) (by decide +kernel)
set_option maxRecDepth 20000 in
theorem gX5_method_Jx4a65c_add_9ea2d : GoodIn wsX5_method (wsV RX5 24 RJx4a65c yJx4a65c_add_9ea2d wsJx4a65c_add_9ea2d) := goodIn_app (goodIn_of _ (by decide +kernel)) ggX5_method_Jx4a65c_add_9ea2d
theorem dX5_method_0 : decode cX5_method 0 = .ok (.iload_n 1, 1) := by decide +kernel
theorem dX5_method_1 : decode cX5_method 1 = .ok (.iconst 1, 1) := by decide +kernel
theorem dX5_method_2 : decode cX5_method 2 = .ok (.if_icmp .lt 16, 3) := by decide +kernel
theorem dX5_method_5 : decode cX5_method 5 = .ok (.iload_n 1, 1) := by decide +kernel
theorem dX5_method_6 : decode cX5_method 6 = .ok (.aload_n 0, 1) := by decide +kernel
theorem dX5_method_7 : decode cX5_method 7 = .ok (.getfield 10, 3) := by decide +kernel
theorem dX5_method_10 : decode cX5_method 10 = .ok (.invokevirtual 28, 3) := by decide +kernel
theorem dX5_method_13 : decode cX5_method 13 = .ok (.iconst 1, 1) := by decide +kernel
theorem dX5_method_14 : decode cX5_method 14 = .ok (.isub, 1) := by decide +kernel
theorem dX5_method_15 : decode cX5_method 15 = .ok (.if_icmp .eq 6, 3) := by decide +kernel
theorem dX5_method_18 : decode cX5_method 18 = .ok (.bipush (-14), 2) := by decide +kernel
theorem dX5_method_20 : decode cX5_method 20 = .ok (.ireturn, 1) := by decide +kernel
theorem dX5_method_21 : decode cX5_method 21 = .ok (.aload_n 0, 1) := by decide +kernel
theorem dX5_method_22 : decode cX5_method 22 = .ok (.getfield 10, 3) := by decide +kernel
theorem dX5_method_25 : decode cX5_method 25 = .ok (.iload_n 1, 1) := by decide +kernel
theorem dX5_method_26 : decode cX5_method 26 = .ok (.invokevirtual 32, 3) := by decide +kernel
theorem dX5_method_29 : decode cX5_method 29 = .ok (.checkcast 19, 3) := by decide +kernel
theorem dX5_method_32 : decode cX5_method 32 = .ok (.astore 5, 2) := by decide +kernel
theorem dX5_method_34 : decode cX5_method 34 = .ok (.iload_n 2, 1) := by decide +kernel
theorem dX5_method_35 : decode cX5_method 35 = .ok (.invokestatic 54, 3) := by decide +kernel
theorem dX5_method_38 : decode cX5_method 38 = .ok (.ifCond .eq 33, 3) := by decide +kernel
theorem dX5_method_41 : decode cX5_method 41 = .ok (.iload_n 3, 1) := by decide +kernel
theorem dX5_method_42 : decode cX5_method 42 = .ok (.ifCond .lt 29, 3) := by decide +kernel
theorem dX5_method_45 : decode cX5_method 45 = .ok (.iload_n 3, 1) := by decide +kernel
theorem dX5_method_46 : decode cX5_method 46 = .ok (.iconst 3, 1) := by decide +kernel
theorem dX5_method_47 : decode cX5_method 47 = .ok (.if_icmp .gt 24, 3) := by decide +kernel
theorem dX5_method_50 : decode cX5_method 50 = .ok (.iload 4, 2) := by decide +kernel
theorem dX5_method_52 : decode cX5_method 52 = .ok (.ifCond .lt 19, 3) := by decide +kernel
theorem dX5_method_55 : decode cX5_method 55 = .ok (.iload 4, 2) := by decide +kernel
theorem dX5_method_57 : decode cX5_method 57 = .ok (.bipush 7, 2) := by decide +kernel
theorem dX5_method_59 : decode cX5_method 59 = .ok (.if_icmp .gt 12, 3) := by decide +kernel
theorem dX5_method_62 : decode cX5_method 62 = .ok (.aload 5, 2) := by decide +kernel
theorem dX5_method_64 : decode cX5_method 64 = .ok (.iload_n 2, 1) := by decide +kernel
theorem dX5_method_65 : decode cX5_method 65 = .ok (.invokevirtual 58, 3) := by decide +kernel
theorem dX5_method_68 : decode cX5_method 68 = .ok (.ifnull 5, 3) := by decide +kernel
theorem dX5_method_71 : decode cX5_method 71 = .ok (.iconst (-1), 1) := by decide +kernel
theorem dX5_method_72 : decode cX5_method 72 = .ok (.ireturn, 1) := by decide +kernel
theorem dX5_method_73 : decode cX5_method 73 = .ok (.iload 4, 2) := by decide +kernel
theorem dX5_method_75 : decode cX5_method 75 = .ok (.iconst 4, 1) := by decide +kernel
theorem dX5_method_76 : decode cX5_method 76 = .ok (.if_icmp .gt 14, 3) := by decide +kernel
theorem dX5_method_79 : decode cX5_method 79 = .ok (.iload 4, 2) := by decide +kernel
theorem dX5_method_81 : decode cX5_method 81 = .ok (.iconst 4, 1) := by decide +kernel
theorem dX5_method_82 : decode cX5_method 82 = .ok (.if_icmp .ne 10, 3) := by decide +kernel
theorem dX5_method_85 : decode cX5_method 85 = .ok (.iload_n 3, 1) := by decide +kernel
theorem dX5_method_86 : decode cX5_method 86 = .ok (.iconst 3, 1) := by decide +kernel
theorem dX5_method_87 : decode cX5_method 87 = .ok (.if_icmp .ne 5, 3) := by decide +kernel
theorem dX5_method_90 : decode cX5_method 90 = .ok (.iconst (-1), 1) := by decide +kernel
theorem dX5_method_91 : decode cX5_method 91 = .ok (.ireturn, 1) := by decide +kernel
theorem dX5_method_92 : decode cX5_method 92 = .ok (.aload 5, 2) := by decide +kernel
theorem dX5_method_94 : decode cX5_method 94 = .ok (.getfield 42, 3) := by decide +kernel
theorem dX5_method_97 : decode cX5_method 97 = .ok (.ifCond .eq 21, 3) := by decide +kernel
theorem dX5_method_100 : decode cX5_method 100 = .ok (.iload_n 3, 1) := by decide +kernel
theorem dX5_method_101 : decode cX5_method 101 = .ok (.iconst 1, 1) := by decide +kernel
theorem dX5_method_102 : decode cX5_method 102 = .ok (.if_icmp .ne 14, 3) := by decide +kernel
theorem dX5_method_105 : decode cX5_method 105 = .ok (.iload 4, 2) := by decide +kernel
theorem dX5_method_107 : decode cX5_method 107 = .ok (.ifCond .eq 11, 3) := by decide +kernel
theorem dX5_method_110 : decode cX5_method 110 = .ok (.iload 4, 2) := by decide +kernel
theorem dX5_method_112 : decode cX5_method 112 = .ok (.iconst 4, 1) := by decide +kernel
theorem dX5_method_113 : decode cX5_method 113 = .ok (.if_icmp .eq 5, 3) := by decide +kernel
theorem dX5_method_116 : decode cX5_method 116 = .ok (.iconst (-1), 1) := by decide +kernel
theorem dX5_method_117 : decode cX5_method 117 = .ok (.ireturn, 1) := by decide +kernel
theorem dX5_method_118 : decode cX5_method 118 = .ok (.aload_n 0, 1) := by decide +kernel
theorem dX5_method_119 : decode cX5_method 119 = .ok (.getfield 16, 3) := by decide +kernel
theorem dX5_method_122 : decode cX5_method 122 = .ok (.invokevirtual 28, 3) := by decide +kernel
theorem dX5_method_125 : decode cX5_method 125 = .ok (.sipush 400, 3) := by decide +kernel
theorem dX5_method_128 : decode cX5_method 128 = .ok (.if_icmp .ne 6, 3) := by decide +kernel
theorem dX5_method_131 : decode cX5_method 131 = .ok (.bipush (-12), 2) := by decide +kernel
theorem dX5_method_133 : decode cX5_method 133 = .ok (.ireturn, 1) := by decide +kernel
theorem dX5_method_134 : decode cX5_method 134 = .ok (.new 36, 3) := by decide +kernel
theorem dX5_method_137 : decode cX5_method 137 = .ok (.dup, 1) := by decide +kernel
theorem dX5_method_138 : decode cX5_method 138 = .ok (.aload_n 0, 1) := by decide +kernel
theorem dX5_method_139 : decode cX5_method 139 = .ok (.getfield 16, 3) := by decide +kernel
theorem dX5_method_142 : decode cX5_method 142 = .ok (.invokevirtual 28, 3) := by decide +kernel
theorem dX5_method_145 : decode cX5_method 145 = .ok (.aload 5, 2) := by decide +kernel
theorem dX5_method_147 : decode cX5_method 147 = .ok (.iload_n 2, 1) := by decide +kernel
theorem dX5_method_148 : decode cX5_method 148 = .ok (.iload_n 3, 1) := by decide +kernel
theorem dX5_method_149 : decode cX5_method 149 = .ok (.iload 4, 2) := by decide +kernel
theorem dX5_method_151 : decode cX5_method 151 = .ok (.invokespecial 62, 3) := by decide +kernel
theorem dX5_method_154 : decode cX5_method 154 = .ok (.astore 6, 2) := by decide +kernel
theorem dX5_method_156 : decode cX5_method 156 = .ok (.aload_n 0, 1) := by decide +kernel
theorem dX5_method_157 : decode cX5_method 157 = .ok (.getfield 16, 3) := by decide +kernel
theorem dX5_method_160 : decode cX5_method 160 = .ok (.aload 6, 2) := by decide +kernel
theorem dX5_method_162 : decode cX5_method 162 = .ok (.invokevirtual 24, 3) := by decide +kernel
theorem dX5_method_165 : decode cX5_method 165 = .ok (.pop, 1) := by decide +kernel
theorem dX5_method_166 : decode cX5_method 166 = .ok (.aload 5, 2) := by decide +kernel
theorem dX5_method_168 : decode cX5_method 168 = .ok (.getfield 46, 3) := by decide +kernel
theorem dX5_method_171 : decode cX5_method 171 = .ok (.aload 6, 2) := by decide +kernel
theorem dX5_method_173 : decode cX5_method 173 = .ok (.invokevirtual 24, 3) := by decide +kernel
theorem dX5_method_176 : decode cX5_method 176 = .ok (.pop, 1) := by decide +kernel
theorem dX5_method_177 : decode cX5_method 177 = .ok (.aload 6, 2) := by decide +kernel
theorem dX5_method_179 : decode cX5_method 179 = .ok (.getfield 65, 3) := by decide +kernel
theorem dX5_method_182 : decode cX5_method 182 = .ok (.ireturn, 1) := by decide +kernel
set_option maxRecDepth 20000 in
theorem ggX5_lies_X5_leadsTo : GoodIn wsX5_lies wsX5_leadsTo := goodIn_r _ [6, 7, 1, 8, 9, 10, 11, 2, 3, 4, 5, 12, 13, 14, 15, 16, 17, 18, 19, 20, 21, 22, 23, 24, 25, 26, 27, 28, 29, 30, 31, 32, 33, 34, 38, 39, 40, 41, 42, 43, 44, 45, 46, 35, 36, 37, 47, 48, 49] (by decide +kernel) (by decide +kernel)
set_option maxRecDepth 20000 in
theorem gX5_lies_X5_leadsTo : GoodIn wsX5_lies (wsV RX5 72 RX5 yX5_leadsTo wsX5_leadsTo) := goodIn_app (goodIn_of _ (by decide +kernel)) ggX5_lies_X5_leadsTo
theorem dX5_lies_0 : decode cX5_lies 0 = .ok (.aload_n 0, 1) := by decide +kernel
theorem dX5_lies_1 : decode cX5_lies 1 = .ok (.dup, 1) := by decide +kernel
theorem dX5_lies_2 : decode cX5_lies 2 = .ok (.getfield 69, 3) := by decide +kernel
theorem dX5_lies_5 : decode cX5_lies 5 = .ok (.iconst 1, 1) := by decide +kernel
theorem dX5_lies_6 : decode cX5_lies 6 = .ok (.iadd, 1) := by decide +kernel
theorem dX5_lies_7 : decode cX5_lies 7 = .ok (.putfield 69, 3) := by decide +kernel
theorem dX5_lies_10 : decode cX5_lies 10 = .ok (.aload_n 0, 1) := by decide +kernel
theorem dX5_lies_11 : decode cX5_lies 11 = .ok (.aload_n 1, 1) := by decide +kernel
theorem dX5_lies_12 : decode cX5_lies 12 = .ok (.aload_n 2, 1) := by decide +kernel
theorem dX5_lies_13 : decode cX5_lies 13 = .ok (.invokevirtual 72, 3) := by decide +kernel
theorem dX5_lies_16 : decode cX5_lies 16 = .ok (.ireturn, 1) := by decide +kernel
set_option maxRecDepth 20000 in
theorem ggX5_leadsTo_X5_leadsTo : GoodIn wsX5_leadsTo wsX5_leadsTo := goodIn_r _ [0, 1, 2, 3, 4, 5, 6, 7, 8, 9, 10, 11, 12, 13, 14, 15, 16, 17, 18, 19, 20, 21, 22, 23, 24, 25, 26, 27, 28, 29, 30, 31, 32, 33, 34, 35, 36, 37, 38, 39, 40, 41, 42, 43, 44, 45, 46, 47, 48] (by decide +kernel) (by decide +kernel)
set_option maxRecDepth 20000 in
theorem gX5_leadsTo_X5_leadsTo : GoodIn wsX5_leadsTo (wsV RX5 72 RX5 yX5_leadsTo wsX5_leadsTo) := goodIn_app (goodIn_of _ (by decide +kernel)) ggX5_leadsTo_X5_leadsTo
set_option maxRecDepth 20000 in
theorem ggX5_leadsTo_Jx4a65c_size_8abf5 : GoodIn wsX5_leadsTo wsJx4a65c_size_8abf5 := goodIn_r _ [15, 16, 46, 47, 48] (by decide +kernel) (by decide +kernel)
set_option maxRecDepth 20000 in
theorem gX5_leadsTo_Jx4a65c_size_8abf5 : GoodIn wsX5_leadsTo (wsV RX5 28 RJx4a65c yJx4a65c_size_8abf5 wsJx4a65c_size_8abf5) := goodIn_app (goodIn_of _ (by decide +kernel)) ggX5_leadsTo_Jx4a65c_size_8abf5
set_option maxRecDepth 20000 in
theorem ggX5_leadsTo_Jx4a65c_get_915e3 : GoodIn wsX5_leadsTo wsJx4a65c_get_915e3 := goodIn_r _ [20, 16, 21, 22, 23, 24, 25, 26, 27, 28, 29, 30, 31, 14, 32, 33, 46, 47, 48] (by decide +kernel) (by decide +kernel)
set_option maxRecDepth 20000 in
theorem gX5_leadsTo_Jx4a65c_get_915e3 : GoodIn wsX5_leadsTo (wsV RX5 32 RJx4a65c yJx4a65c_get_915e3 wsJx4a65c_get_915e3) := goodIn_app (goodIn_of _ (by decide +kernel)) ggX5_leadsTo_Jx4a65c_get_915e3
theorem dX5_leadsTo_0 : decode cX5_leadsTo 0 = .ok (.aload_n 1, 1) := by decide +kernel
theorem dX5_leadsTo_1 : decode cX5_leadsTo 1 = .ok (.aload_n 2, 1) := by decide +kernel
theorem dX5_leadsTo_2 : decode cX5_leadsTo 2 = .ok (.if_acmp .ne 5, 3) := by decide +kernel
theorem dX5_leadsTo_5 : decode cX5_leadsTo 5 = .ok (.iconst 1, 1) := by decide +kernel
theorem dX5_leadsTo_6 : decode cX5_leadsTo 6 = .ok (.ireturn, 1) := by decide +kernel
theorem dX5_leadsTo_7 : decode cX5_leadsTo 7 = .ok (.aload_n 1, 1) := by decide +kernel
theorem dX5_leadsTo_8 : decode cX5_leadsTo 8 = .ok (.getfield 75, 3) := by decide +kernel
theorem dX5_leadsTo_11 : decode cX5_leadsTo 11 = .ok (.aload_n 0, 1) := by decide +kernel
theorem dX5_leadsTo_12 : decode cX5_leadsTo 12 = .ok (.getfield 69, 3) := by decide +kernel
theorem dX5_leadsTo_15 : decode cX5_leadsTo 15 = .ok (.if_icmp .eq 14, 3) := by decide +kernel
theorem dX5_leadsTo_18 : decode cX5_leadsTo 18 = .ok (.aload_n 1, 1) := by decide +kernel
theorem dX5_leadsTo_19 : decode cX5_leadsTo 19 = .ok (.getfield 76, 3) := by decide +kernel
theorem dX5_leadsTo_22 : decode cX5_leadsTo 22 = .ok (.aload_n 2, 1) := by decide +kernel
theorem dX5_leadsTo_23 : decode cX5_leadsTo 23 = .ok (.getfield 76, 3) := by decide +kernel
theorem dX5_leadsTo_26 : decode cX5_leadsTo 26 = .ok (.if_icmp .ge 5, 3) := by decide +kernel
theorem dX5_leadsTo_29 : decode cX5_leadsTo 29 = .ok (.iconst 0, 1) := by decide +kernel
theorem dX5_leadsTo_30 : decode cX5_leadsTo 30 = .ok (.ireturn, 1) := by decide +kernel
theorem dX5_leadsTo_31 : decode cX5_leadsTo 31 = .ok (.aload_n 1, 1) := by decide +kernel
theorem dX5_leadsTo_32 : decode cX5_leadsTo 32 = .ok (.aload_n 0, 1) := by decide +kernel
theorem dX5_leadsTo_33 : decode cX5_leadsTo 33 = .ok (.getfield 69, 3) := by decide +kernel
theorem dX5_leadsTo_36 : decode cX5_leadsTo 36 = .ok (.putfield 75, 3) := by decide +kernel
theorem dX5_leadsTo_39 : decode cX5_leadsTo 39 = .ok (.aload_n 1, 1) := by decide +kernel
theorem dX5_leadsTo_40 : decode cX5_leadsTo 40 = .ok (.getfield 77, 3) := by decide +kernel
theorem dX5_leadsTo_43 : decode cX5_leadsTo 43 = .ok (.ifnull 17, 3) := by decide +kernel
theorem dX5_leadsTo_46 : decode cX5_leadsTo 46 = .ok (.aload_n 0, 1) := by decide +kernel
theorem dX5_leadsTo_47 : decode cX5_leadsTo 47 = .ok (.aload_n 1, 1) := by decide +kernel
theorem dX5_leadsTo_48 : decode cX5_leadsTo 48 = .ok (.getfield 77, 3) := by decide +kernel
theorem dX5_leadsTo_51 : decode cX5_leadsTo 51 = .ok (.aload_n 2, 1) := by decide +kernel
theorem dX5_leadsTo_52 : decode cX5_leadsTo 52 = .ok (.invokevirtual 72, 3) := by decide +kernel
theorem dX5_leadsTo_55 : decode cX5_leadsTo 55 = .ok (.ifCond .eq 5, 3) := by decide +kernel
theorem dX5_leadsTo_58 : decode cX5_leadsTo 58 = .ok (.iconst 1, 1) := by decide +kernel
theorem dX5_leadsTo_59 : decode cX5_leadsTo 59 = .ok (.ireturn, 1) := by decide +kernel
theorem dX5_leadsTo_60 : decode cX5_leadsTo 60 = .ok (.iconst 0, 1) := by decide +kernel
theorem dX5_leadsTo_61 : decode cX5_leadsTo 61 = .ok (.istore_n 3, 1) := by decide +kernel
theorem dX5_leadsTo_62 : decode cX5_leadsTo 62 = .ok (.iload_n 3, 1) := by decide +kernel
theorem dX5_leadsTo_63 : decode cX5_leadsTo 63 = .ok (.aload_n 1, 1) := by decide +kernel
theorem dX5_leadsTo_64 : decode cX5_leadsTo 64 = .ok (.getfield 51, 3) := by decide +kernel
theorem dX5_leadsTo_67 : decode cX5_leadsTo 67 = .ok (.invokevirtual 28, 3) := by decide +kernel
theorem dX5_leadsTo_70 : decode cX5_leadsTo 70 = .ok (.if_icmp .ge 30, 3) := by decide +kernel
theorem dX5_leadsTo_73 : decode cX5_leadsTo 73 = .ok (.aload_n 0, 1) := by decide +kernel
theorem dX5_leadsTo_74 : decode cX5_leadsTo 74 = .ok (.aload_n 1, 1) := by decide +kernel
theorem dX5_leadsTo_75 : decode cX5_leadsTo 75 = .ok (.getfield 51, 3) := by decide +kernel
theorem dX5_leadsTo_78 : decode cX5_leadsTo 78 = .ok (.iload_n 3, 1) := by decide +kernel
theorem dX5_leadsTo_79 : decode cX5_leadsTo 79 = .ok (.invokevirtual 32, 3) := by decide +kernel
theorem dX5_leadsTo_82 : decode cX5_leadsTo 82 = .ok (.checkcast 19, 3) := by decide +kernel
theorem dX5_leadsTo_85 : decode cX5_leadsTo 85 = .ok (.aload_n 2, 1) := by decide +kernel
theorem dX5_leadsTo_86 : decode cX5_leadsTo 86 = .ok (.invokevirtual 72, 3) := by decide +kernel
theorem dX5_leadsTo_89 : decode cX5_leadsTo 89 = .ok (.ifCond .eq 5, 3) := by decide +kernel
theorem dX5_leadsTo_92 : decode cX5_leadsTo 92 = .ok (.iconst 1, 1) := by decide +kernel
theorem dX5_leadsTo_93 : decode cX5_leadsTo 93 = .ok (.ireturn, 1) := by decide +kernel
theorem dX5_leadsTo_94 : decode cX5_leadsTo 94 = .ok (.iinc 3 1, 3) := by decide +kernel
theorem dX5_leadsTo_97 : decode cX5_leadsTo 97 = .ok (.goto (-35), 3) := by decide +kernel
theorem dX5_leadsTo_100 : decode cX5_leadsTo 100 = .ok (.iconst 0, 1) := by decide +kernel
theorem dX5_leadsTo_101 : decode cX5_leadsTo 101 = .ok (.ireturn, 1) := by decide +kernel
set_option maxRecDepth 20000 in
theorem ggX5_isBelow_X5_at : GoodIn wsX5_isBelow wsX5_at := goodIn_r _ [5, 6, 7, 8, 9, 10, 11, 12, 13, 14, 15, 16, 17, 18, 19, 20, 21, 22, 23, 24, 25, 26, 27, 28, 29, 30, 44, 45, 46, 47, 48, 49] (by decide +kernel) (by decide +kernel)
set_option maxRecDepth 20000 in
theorem gX5_isBelow_X5_at : GoodIn wsX5_isBelow (wsV RX5 38 RX5 yX5_at wsX5_at) := goodIn_app (goodIn_of _ (by decide +kernel)) ggX5_isBelow_X5_at
set_option maxRecDepth 20000 in
theorem ggX5_isBelow_X5_lies : GoodIn wsX5_isBelow wsX5_lies := goodIn_r _ [34, 35, 36, 37, 38, 4, 39, 40, 41, 42, 43, 7, 8, 9, 10, 11, 12, 13, 14, 15, 16, 17, 18, 19, 20, 21, 22, 23, 24, 25, 26, 27, 28, 29, 30, 44, 45, 46, 50, 51, 52, 53, 54, 55, 56, 57, 58, 47, 48, 49] (by decide +kernel) (by decide +kernel)
set_option maxRecDepth 20000 in
theorem gX5_isBelow_X5_lies : GoodIn wsX5_isBelow (wsV RX5 81 RX5 yX5_lies wsX5_lies) := goodIn_app (goodIn_of _ (by decide +kernel)) ggX5_isBelow_X5_lies
theorem dX5_isBelow_0 : decode cX5_isBelow 0 = .ok (.aload_n 0, 1) := by decide +kernel
theorem dX5_isBelow_1 : decode cX5_isBelow 1 = .ok (.iload_n 1, 1) := by decide +kernel
theorem dX5_isBelow_2 : decode cX5_isBelow 2 = .ok (.invokevirtual 38, 3) := by decide +kernel
theorem dX5_isBelow_5 : decode cX5_isBelow 5 = .ok (.ifnull 32, 3) := by decide +kernel
theorem dX5_isBelow_8 : decode cX5_isBelow 8 = .ok (.aload_n 0, 1) := by decide +kernel
theorem dX5_isBelow_9 : decode cX5_isBelow 9 = .ok (.iload_n 2, 1) := by decide +kernel
theorem dX5_isBelow_10 : decode cX5_isBelow 10 = .ok (.invokevirtual 38, 3) := by decide +kernel
theorem dX5_isBelow_13 : decode cX5_isBelow 13 = .ok (.ifnull 24, 3) := by decide +kernel
theorem dX5_isBelow_16 : decode cX5_isBelow 16 = .ok (.aload_n 0, 1) := by decide +kernel
theorem dX5_isBelow_17 : decode cX5_isBelow 17 = .ok (.aload_n 0, 1) := by decide +kernel
theorem dX5_isBelow_18 : decode cX5_isBelow 18 = .ok (.iload_n 1, 1) := by decide +kernel
theorem dX5_isBelow_19 : decode cX5_isBelow 19 = .ok (.invokevirtual 38, 3) := by decide +kernel
theorem dX5_isBelow_22 : decode cX5_isBelow 22 = .ok (.aload_n 0, 1) := by decide +kernel
theorem dX5_isBelow_23 : decode cX5_isBelow 23 = .ok (.iload_n 2, 1) := by decide +kernel
theorem dX5_isBelow_24 : decode cX5_isBelow 24 = .ok (.invokevirtual 38, 3) := by decide +kernel
theorem dX5_isBelow_27 : decode cX5_isBelow 27 = .ok (.invokevirtual 81, 3) := by decide +kernel
theorem dX5_isBelow_30 : decode cX5_isBelow 30 = .ok (.ifCond .eq 7, 3) := by decide +kernel
theorem dX5_isBelow_33 : decode cX5_isBelow 33 = .ok (.iconst 1, 1) := by decide +kernel
theorem dX5_isBelow_34 : decode cX5_isBelow 34 = .ok (.goto 4, 3) := by decide +kernel
theorem dX5_isBelow_37 : decode cX5_isBelow 37 = .ok (.iconst 0, 1) := by decide +kernel
theorem dX5_isBelow_38 : decode cX5_isBelow 38 = .ok (.ireturn, 1) := by decide +kernel
set_option maxRecDepth 20000 in
theorem ggX5_facesOf_Jx4a65c_size_8abf5 : GoodIn wsX5_facesOf wsJx4a65c_size_8abf5 := goodIn_r _ [9, 10, 105, 106, 107] (by decide +kernel) (by decide +kernel)
set_option maxRecDepth 20000 in
theorem gX5_facesOf_Jx4a65c_size_8abf5 : GoodIn wsX5_facesOf (wsV RX5 28 RJx4a65c yJx4a65c_size_8abf5 wsJx4a65c_size_8abf5) := goodIn_app (goodIn_of _ (by decide +kernel)) ggX5_facesOf_Jx4a65c_size_8abf5
set_option maxRecDepth 20000 in
theorem ggX5_facesOf_Jx4a65c_clear_da8c8 : GoodIn wsX5_facesOf wsJx4a65c_clear_da8c8 := goodIn_r _ [14, 15, 16, 17, 10, 105, 106, 107] (by decide +kernel) (by decide +kernel)
set_option maxRecDepth 20000 in
theorem gX5_facesOf_Jx4a65c_clear_da8c8 : GoodIn wsX5_facesOf (wsV RX5 90 RJx4a65c yJx4a65c_clear_da8c8 wsJx4a65c_clear_da8c8) := goodIn_app (goodIn_of _ (by decide +kernel)) ggX5_facesOf_Jx4a65c_clear_da8c8
set_option maxRecDepth 20000 in
theorem ggX5_facesOf_X5_gather : GoodIn wsX5_facesOf wsX5_gather := goodIn_r _ [22, 2, 23, 24, 4, 25, 5, 6, 7, 8, 9, 10, 26, 27, 28, 29, 30, 31, 32, 33, 34, 35, 36, 37, 38, 39, 40, 41, 17, 42, 43, 44, 45, 15, 16, 46, 47, 48, 49, 50, 51, 52, 53, 54, 55, 56, 57, 58, 59, 60, 61, 62, 63, 64, 65, 66, 67, 68, 69, 70, 71, 72, 73, 74, 75, 76, 77, 78, 79, 80, 81, 82, 83, 84, 85, 86, 87, 88, 89, 90, 91, 92, 18, 19, 20, 21, 93, 94, 95, 96, 97, 98, 99, 100, 101, 102, 103, 104, 105, 106, 107] (by decide +kernel) (by decide +kernel)
set_option maxRecDepth 20000 in
theorem gX5_facesOf_X5_gather : GoodIn wsX5_facesOf (wsV RX5 93 RX5 yX5_gather wsX5_gather) := goodIn_app (goodIn_of _ (by decide +kernel)) ggX5_facesOf_X5_gather
theorem dX5_facesOf_0 : decode cX5_facesOf 0 = .ok (.aload_n 1, 1) := by decide +kernel
theorem dX5_facesOf_1 : decode cX5_facesOf 1 = .ok (.getfield 84, 3) := by decide +kernel
theorem dX5_facesOf_4 : decode cX5_facesOf 4 = .ok (.aload_n 1, 1) := by decide +kernel
theorem dX5_facesOf_5 : decode cX5_facesOf 5 = .ok (.getfield 51, 3) := by decide +kernel
theorem dX5_facesOf_8 : decode cX5_facesOf 8 = .ok (.invokevirtual 28, 3) := by decide +kernel
theorem dX5_facesOf_11 : decode cX5_facesOf 11 = .ok (.if_icmp .ne 8, 3) := by decide +kernel
theorem dX5_facesOf_14 : decode cX5_facesOf 14 = .ok (.aload_n 1, 1) := by decide +kernel
theorem dX5_facesOf_15 : decode cX5_facesOf 15 = .ok (.getfield 87, 3) := by decide +kernel
theorem dX5_facesOf_18 : decode cX5_facesOf 18 = .ok (.areturn, 1) := by decide +kernel
theorem dX5_facesOf_19 : decode cX5_facesOf 19 = .ok (.aload_n 1, 1) := by decide +kernel
theorem dX5_facesOf_20 : decode cX5_facesOf 20 = .ok (.aload_n 1, 1) := by decide +kernel
theorem dX5_facesOf_21 : decode cX5_facesOf 21 = .ok (.getfield 51, 3) := by decide +kernel
theorem dX5_facesOf_24 : decode cX5_facesOf 24 = .ok (.invokevirtual 28, 3) := by decide +kernel
theorem dX5_facesOf_27 : decode cX5_facesOf 27 = .ok (.putfield 84, 3) := by decide +kernel
theorem dX5_facesOf_30 : decode cX5_facesOf 30 = .ok (.aload_n 1, 1) := by decide +kernel
theorem dX5_facesOf_31 : decode cX5_facesOf 31 = .ok (.getfield 87, 3) := by decide +kernel
theorem dX5_facesOf_34 : decode cX5_facesOf 34 = .ok (.invokevirtual 90, 3) := by decide +kernel
theorem dX5_facesOf_37 : decode cX5_facesOf 37 = .ok (.aload_n 0, 1) := by decide +kernel
theorem dX5_facesOf_38 : decode cX5_facesOf 38 = .ok (.dup, 1) := by decide +kernel
theorem dX5_facesOf_39 : decode cX5_facesOf 39 = .ok (.getfield 69, 3) := by decide +kernel
theorem dX5_facesOf_42 : decode cX5_facesOf 42 = .ok (.iconst 1, 1) := by decide +kernel
theorem dX5_facesOf_43 : decode cX5_facesOf 43 = .ok (.iadd, 1) := by decide +kernel
theorem dX5_facesOf_44 : decode cX5_facesOf 44 = .ok (.putfield 69, 3) := by decide +kernel
theorem dX5_facesOf_47 : decode cX5_facesOf 47 = .ok (.aload_n 0, 1) := by decide +kernel
theorem dX5_facesOf_48 : decode cX5_facesOf 48 = .ok (.aload_n 1, 1) := by decide +kernel
theorem dX5_facesOf_49 : decode cX5_facesOf 49 = .ok (.aload_n 1, 1) := by decide +kernel
theorem dX5_facesOf_50 : decode cX5_facesOf 50 = .ok (.getfield 87, 3) := by decide +kernel
theorem dX5_facesOf_53 : decode cX5_facesOf 53 = .ok (.invokevirtual 93, 3) := by decide +kernel
theorem dX5_facesOf_56 : decode cX5_facesOf 56 = .ok (.aload_n 1, 1) := by decide +kernel
theorem dX5_facesOf_57 : decode cX5_facesOf 57 = .ok (.getfield 87, 3) := by decide +kernel
theorem dX5_facesOf_60 : decode cX5_facesOf 60 = .ok (.areturn, 1) := by decide +kernel
set_option maxRecDepth 20000 in
theorem ggX5_gather_Jx4a65c_size_8abf5 : GoodIn wsX5_gather wsJx4a65c_size_8abf5 := goodIn_r _ [10, 11, 98, 99, 100] (by decide +kernel) (by decide +kernel)
set_option maxRecDepth 20000 in
theorem gX5_gather_Jx4a65c_size_8abf5 : GoodIn wsX5_gather (wsV RX5 28 RJx4a65c yJx4a65c_size_8abf5 wsJx4a65c_size_8abf5) := goodIn_app (goodIn_of _ (by decide +kernel)) ggX5_gather_Jx4a65c_size_8abf5
set_option maxRecDepth 20000 in
theorem ggX5_gather_Jx4a65c_get_915e3 : GoodIn wsX5_gather wsJx4a65c_get_915e3 := goodIn_r _ [15, 11, 16, 17, 18, 19, 20, 21, 22, 23, 24, 25, 26, 9, 27, 28, 98, 99, 100] (by decide +kernel) (by decide +kernel)
set_option maxRecDepth 20000 in
theorem gX5_gather_Jx4a65c_get_915e3 : GoodIn wsX5_gather (wsV RX5 32 RJx4a65c yJx4a65c_get_915e3 wsJx4a65c_get_915e3) := goodIn_app (goodIn_of _ (by decide +kernel)) ggX5_gather_Jx4a65c_get_915e3
set_option maxRecDepth 20000 in
theorem ggX5_gather_Jx4a65c_add_9ea2d : GoodIn wsX5_gather wsJx4a65c_add_9ea2d := goodIn_r _ [32, 33, 34, 28, 11, 35, 36, 37, 9, 38, 39, 40, 41, 42, 43, 44, 45, 46, 47, 48, 49, 50, 51, 52, 53, 54, 55, 56, 57, 58, 59, 60, 61, 62, 63, 64, 65, 66, 67, 68, 69, 70, 71, 72, 73, 74, 75, 76, 77, 78, 79, 80, 81, 98, 99, 100] (by decide +kernel) (by decide +kernel)
set_option maxRecDepth 20000 in
theorem gX5_gather_Jx4a65c_add_9ea2d : GoodIn wsX5_gather (wsV RX5 24 RJx4a65c yJx4a65c_add_9ea2d wsJx4a65c_add_9ea2d) := goodIn_app (goodIn_of _ (by decide +kernel)) ggX5_gather_Jx4a65c_add_9ea2d
set_option maxRecDepth 20000 in
theorem ggX5_gather_X5_gather : GoodIn wsX5_gather wsX5_gather := goodIn_r _ [0, 1, 2, 3, 4, 5, 6, 7, 8, 9, 10, 11, 12, 13, 14, 15, 16, 17, 18, 19, 20, 21, 22, 23, 24, 25, 26, 27, 28, 29, 30, 31, 32, 33, 34, 35, 36, 37, 38, 39, 40, 41, 42, 43, 44, 45, 46, 47, 48, 49, 50, 51, 52, 53, 54, 55, 56, 57, 58, 59, 60, 61, 62, 63, 64, 65, 66, 67, 68, 69, 70, 71, 72, 73, 74, 75, 76, 77, 78, 79, 80, 81, 82, 83, 84, 85, 86, 87, 88, 89, 90, 91, 92, 93, 94, 95, 96, 97, 98, 99, 100] (by decide +kernel) (by decide +kernel)
set_option maxRecDepth 20000 in
theorem gX5_gather_X5_gather : GoodIn wsX5_gather (wsV RX5 93 RX5 yX5_gather wsX5_gather) := goodIn_app (goodIn_of _ (by decide +kernel)) ggX5_gather_X5_gather
theorem dX5_gather_0 : decode cX5_gather 0 = .ok (.iconst 0, 1) := by decide +kernel
theorem dX5_gather_1 : decode cX5_gather 1 = .ok (.istore_n 3, 1) := by decide +kernel
theorem dX5_gather_2 : decode cX5_gather 2 = .ok (.iload_n 3, 1) := by decide +kernel
theorem dX5_gather_3 : decode cX5_gather 3 = .ok (.aload_n 1, 1) := by decide +kernel
theorem dX5_gather_4 : decode cX5_gather 4 = .ok (.getfield 51, 3) := by decide +kernel
theorem dX5_gather_7 : decode cX5_gather 7 = .ok (.invokevirtual 28, 3) := by decide +kernel
theorem dX5_gather_10 : decode cX5_gather 10 = .ok (.if_icmp .ge 60, 3) := by decide +kernel
theorem dX5_gather_13 : decode cX5_gather 13 = .ok (.aload_n 1, 1) := by decide +kernel
theorem dX5_gather_14 : decode cX5_gather 14 = .ok (.getfield 51, 3) := by decide +kernel
theorem dX5_gather_17 : decode cX5_gather 17 = .ok (.iload_n 3, 1) := by decide +kernel
theorem dX5_gather_18 : decode cX5_gather 18 = .ok (.invokevirtual 32, 3) := by decide +kernel
theorem dX5_gather_21 : decode cX5_gather 21 = .ok (.checkcast 19, 3) := by decide +kernel
theorem dX5_gather_24 : decode cX5_gather 24 = .ok (.astore 4, 2) := by decide +kernel
theorem dX5_gather_26 : decode cX5_gather 26 = .ok (.aload 4, 2) := by decide +kernel
theorem dX5_gather_28 : decode cX5_gather 28 = .ok (.getfield 75, 3) := by decide +kernel
theorem dX5_gather_31 : decode cX5_gather 31 = .ok (.aload_n 0, 1) := by decide +kernel
theorem dX5_gather_32 : decode cX5_gather 32 = .ok (.getfield 69, 3) := by decide +kernel
theorem dX5_gather_35 : decode cX5_gather 35 = .ok (.if_icmp .ne 6, 3) := by decide +kernel
theorem dX5_gather_38 : decode cX5_gather 38 = .ok (.goto 26, 3) := by decide +kernel
theorem dX5_gather_41 : decode cX5_gather 41 = .ok (.aload 4, 2) := by decide +kernel
theorem dX5_gather_43 : decode cX5_gather 43 = .ok (.aload_n 0, 1) := by decide +kernel
theorem dX5_gather_44 : decode cX5_gather 44 = .ok (.getfield 69, 3) := by decide +kernel
theorem dX5_gather_47 : decode cX5_gather 47 = .ok (.putfield 75, 3) := by decide +kernel
theorem dX5_gather_50 : decode cX5_gather 50 = .ok (.aload_n 2, 1) := by decide +kernel
theorem dX5_gather_51 : decode cX5_gather 51 = .ok (.aload 4, 2) := by decide +kernel
theorem dX5_gather_53 : decode cX5_gather 53 = .ok (.invokevirtual 24, 3) := by decide +kernel
theorem dX5_gather_56 : decode cX5_gather 56 = .ok (.pop, 1) := by decide +kernel
theorem dX5_gather_57 : decode cX5_gather 57 = .ok (.aload_n 0, 1) := by decide +kernel
theorem dX5_gather_58 : decode cX5_gather 58 = .ok (.aload 4, 2) := by decide +kernel
theorem dX5_gather_60 : decode cX5_gather 60 = .ok (.aload_n 2, 1) := by decide +kernel
theorem dX5_gather_61 : decode cX5_gather 61 = .ok (.invokevirtual 93, 3) := by decide +kernel
theorem dX5_gather_64 : decode cX5_gather 64 = .ok (.iinc 3 1, 3) := by decide +kernel
theorem dX5_gather_67 : decode cX5_gather 67 = .ok (.goto (-65), 3) := by decide +kernel
theorem dX5_gather_70 : decode cX5_gather 70 = .ok (.aload_n 1, 1) := by decide +kernel
theorem dX5_gather_71 : decode cX5_gather 71 = .ok (.getfield 77, 3) := by decide +kernel
theorem dX5_gather_74 : decode cX5_gather 74 = .ok (.ifnull 12, 3) := by decide +kernel
theorem dX5_gather_77 : decode cX5_gather 77 = .ok (.aload_n 0, 1) := by decide +kernel
theorem dX5_gather_78 : decode cX5_gather 78 = .ok (.aload_n 1, 1) := by decide +kernel
theorem dX5_gather_79 : decode cX5_gather 79 = .ok (.getfield 77, 3) := by decide +kernel
theorem dX5_gather_82 : decode cX5_gather 82 = .ok (.aload_n 2, 1) := by decide +kernel
theorem dX5_gather_83 : decode cX5_gather 83 = .ok (.invokevirtual 93, 3) := by decide +kernel
theorem dX5_gather_86 : decode cX5_gather 86 = .ok (.return_, 1) := by decide +kernel
set_option maxRecDepth 20000 in
theorem ggX5_face_X5_at : GoodIn wsX5_face wsX5_at := goodIn_r _ [7, 8, 1, 9, 10, 11, 12, 13, 14, 15, 16, 17, 18, 19, 20, 21, 22, 23, 24, 25, 26, 27, 28, 29, 30, 31, 112, 113, 114, 115, 116, 117] (by decide +kernel) (by decide +kernel)
set_option maxRecDepth 20000 in
theorem gX5_face_X5_at : GoodIn wsX5_face (wsV RX5 38 RX5 yX5_at wsX5_at) := goodIn_app (goodIn_of _ (by decide +kernel)) ggX5_face_X5_at
set_option maxRecDepth 20000 in
theorem ggX5_face_X5_facesOf : GoodIn wsX5_face wsX5_facesOf := goodIn_r _ [35, 36, 37, 38, 39, 9, 10, 11, 12, 13, 14, 40, 41, 42, 43, 44, 45, 31, 46, 47, 48, 6, 49, 1, 50, 51, 15, 16, 17, 18, 19, 20, 21, 22, 23, 24, 25, 26, 27, 28, 29, 30, 52, 53, 54, 55, 56, 57, 58, 59, 60, 61, 62, 63, 64, 65, 66, 67, 68, 69, 70, 71, 72, 73, 74, 75, 76, 77, 78, 79, 80, 81, 82, 83, 84, 85, 86, 87, 88, 89, 90, 91, 92, 93, 94, 95, 96, 97, 98, 99, 100, 101, 102, 103, 104, 105, 106, 107, 108, 109, 110, 111, 112, 113, 114, 115, 116, 117] (by decide +kernel) (by decide +kernel)
set_option maxRecDepth 20000 in
theorem gX5_face_X5_facesOf : GoodIn wsX5_face (wsV RX5 97 RX5 yX5_facesOf wsX5_facesOf) := goodIn_app (goodIn_of _ (by decide +kernel)) ggX5_face_X5_facesOf
set_option maxRecDepth 20000 in
theorem ggX5_face_Jx4a65c_size_8abf5 : GoodIn wsX5_face wsJx4a65c_size_8abf5 := goodIn_r _ [13, 14, 115, 116, 117] (by decide +kernel) (by decide +kernel)
set_option maxRecDepth 20000 in
theorem gX5_face_Jx4a65c_size_8abf5 : GoodIn wsX5_face (wsV RX5 28 RJx4a65c yJx4a65c_size_8abf5 wsJx4a65c_size_8abf5) := goodIn_app (goodIn_of _ (by decide +kernel)) ggX5_face_Jx4a65c_size_8abf5
set_option maxRecDepth 20000 in
theorem ggX5_face_Jx4a65c_get_915e3 : GoodIn wsX5_face wsJx4a65c_get_915e3 := goodIn_r _ [18, 14, 19, 20, 21, 22, 23, 24, 25, 26, 27, 28, 29, 12, 30, 31, 115, 116, 117] (by decide +kernel) (by decide +kernel)
set_option maxRecDepth 20000 in
theorem gX5_face_Jx4a65c_get_915e3 : GoodIn wsX5_face (wsV RX5 32 RJx4a65c yJx4a65c_get_915e3 wsJx4a65c_get_915e3) := goodIn_app (goodIn_of _ (by decide +kernel)) ggX5_face_Jx4a65c_get_915e3
theorem dX5_face_0 : decode cX5_face 0 = .ok (.aload_n 0, 1) := by decide +kernel
theorem dX5_face_1 : decode cX5_face 1 = .ok (.iload_n 1, 1) := by decide +kernel
theorem dX5_face_2 : decode cX5_face 2 = .ok (.invokevirtual 38, 3) := by decide +kernel
theorem dX5_face_5 : decode cX5_face 5 = .ok (.ifnull 7, 3) := by decide +kernel
theorem dX5_face_8 : decode cX5_face 8 = .ok (.iload_n 2, 1) := by decide +kernel
theorem dX5_face_9 : decode cX5_face 9 = .ok (.ifCond .ge 5, 3) := by decide +kernel
theorem dX5_face_12 : decode cX5_face 12 = .ok (.iconst (-1), 1) := by decide +kernel
theorem dX5_face_13 : decode cX5_face 13 = .ok (.ireturn, 1) := by decide +kernel
theorem dX5_face_14 : decode cX5_face 14 = .ok (.aload_n 0, 1) := by decide +kernel
theorem dX5_face_15 : decode cX5_face 15 = .ok (.aload_n 0, 1) := by decide +kernel
theorem dX5_face_16 : decode cX5_face 16 = .ok (.iload_n 1, 1) := by decide +kernel
theorem dX5_face_17 : decode cX5_face 17 = .ok (.invokevirtual 38, 3) := by decide +kernel
theorem dX5_face_20 : decode cX5_face 20 = .ok (.invokevirtual 97, 3) := by decide +kernel
theorem dX5_face_23 : decode cX5_face 23 = .ok (.astore_n 3, 1) := by decide +kernel
theorem dX5_face_24 : decode cX5_face 24 = .ok (.iload_n 2, 1) := by decide +kernel
theorem dX5_face_25 : decode cX5_face 25 = .ok (.aload_n 3, 1) := by decide +kernel
theorem dX5_face_26 : decode cX5_face 26 = .ok (.invokevirtual 28, 3) := by decide +kernel
theorem dX5_face_29 : decode cX5_face 29 = .ok (.if_icmp .ge 17, 3) := by decide +kernel
theorem dX5_face_32 : decode cX5_face 32 = .ok (.aload_n 3, 1) := by decide +kernel
theorem dX5_face_33 : decode cX5_face 33 = .ok (.iload_n 2, 1) := by decide +kernel
theorem dX5_face_34 : decode cX5_face 34 = .ok (.invokevirtual 32, 3) := by decide +kernel
theorem dX5_face_37 : decode cX5_face 37 = .ok (.checkcast 19, 3) := by decide +kernel
theorem dX5_face_40 : decode cX5_face 40 = .ok (.getfield 76, 3) := by decide +kernel
theorem dX5_face_43 : decode cX5_face 43 = .ok (.goto 4, 3) := by decide +kernel
theorem dX5_face_46 : decode cX5_face 46 = .ok (.iconst (-1), 1) := by decide +kernel
theorem dX5_face_47 : decode cX5_face 47 = .ok (.ireturn, 1) := by decide +kernel
theorem dX5_isFree_0 : decode cX5_isFree 0 = .ok (.aload_n 0, 1) := by decide +kernel
theorem dX5_isFree_1 : decode cX5_isFree 1 = .ok (.getfield 101, 3) := by decide +kernel
theorem dX5_isFree_4 : decode cX5_isFree 4 = .ok (.ifCond .ne 15, 3) := by decide +kernel
theorem dX5_isFree_7 : decode cX5_isFree 7 = .ok (.aload_n 0, 1) := by decide +kernel
theorem dX5_isFree_8 : decode cX5_isFree 8 = .ok (.getfield 104, 3) := by decide +kernel
theorem dX5_isFree_11 : decode cX5_isFree 11 = .ok (.iconst 3, 1) := by decide +kernel
theorem dX5_isFree_12 : decode cX5_isFree 12 = .ok (.if_icmp .eq 7, 3) := by decide +kernel
theorem dX5_isFree_15 : decode cX5_isFree 15 = .ok (.iconst 1, 1) := by decide +kernel
theorem dX5_isFree_16 : decode cX5_isFree 16 = .ok (.goto 4, 3) := by decide +kernel
theorem dX5_isFree_19 : decode cX5_isFree 19 = .ok (.iconst 0, 1) := by decide +kernel
theorem dX5_isFree_20 : decode cX5_isFree 20 = .ok (.ireturn, 1) := by decide +kernel
set_option maxRecDepth 20000 in
theorem ggX5_goesOver_X5_isFree : GoodIn wsX5_goesOver wsX5_isFree := goodIn_r _ [9, 10, 3, 42, 43, 44, 45, 46, 47, 48] (by decide +kernel) (by decide +kernel)
set_option maxRecDepth 20000 in
theorem gX5_goesOver_X5_isFree : GoodIn wsX5_goesOver (va_wsS RX5 113 yX5_isFree wsX5_isFree) := goodIn_app (goodIn_of _ (by decide +kernel)) ggX5_goesOver_X5_isFree
set_option maxRecDepth 20000 in
theorem ggX5_goesOver_X3_named : GoodIn wsX5_goesOver wsX3_named := goodIn_r _ [15, 16, 17, 18, 19, 20, 21, 22, 23, 24, 25, 26, 27, 28, 29, 30, 31, 32, 33, 34, 35, 36, 37, 38, 39, 40, 41, 49, 50, 51, 52, 53, 54, 55, 56, 57, 42, 43, 44, 45, 46, 47, 48, 58, 59, 60] (by decide +kernel) (by decide +kernel)
set_option maxRecDepth 20000 in
theorem gX5_goesOver_X3_named : GoodIn wsX5_goesOver (wsV RX5 58 RX3 yX3_named wsX3_named) := goodIn_app (goodIn_of _ (by decide +kernel)) ggX5_goesOver_X3_named
theorem dX5_goesOver_0 : decode cX5_goesOver 0 = .ok (.aload_n 0, 1) := by decide +kernel
theorem dX5_goesOver_1 : decode cX5_goesOver 1 = .ok (.getfield 107, 3) := by decide +kernel
theorem dX5_goesOver_4 : decode cX5_goesOver 4 = .ok (.aload_n 1, 1) := by decide +kernel
theorem dX5_goesOver_5 : decode cX5_goesOver 5 = .ok (.getfield 107, 3) := by decide +kernel
theorem dX5_goesOver_8 : decode cX5_goesOver 8 = .ok (.if_acmp .eq 28, 3) := by decide +kernel
theorem dX5_goesOver_11 : decode cX5_goesOver 11 = .ok (.aload_n 0, 1) := by decide +kernel
theorem dX5_goesOver_12 : decode cX5_goesOver 12 = .ok (.getfield 110, 3) := by decide +kernel
theorem dX5_goesOver_15 : decode cX5_goesOver 15 = .ok (.aload_n 1, 1) := by decide +kernel
theorem dX5_goesOver_16 : decode cX5_goesOver 16 = .ok (.getfield 110, 3) := by decide +kernel
theorem dX5_goesOver_19 : decode cX5_goesOver 19 = .ok (.if_icmp .ne 17, 3) := by decide +kernel
theorem dX5_goesOver_22 : decode cX5_goesOver 22 = .ok (.aload_n 0, 1) := by decide +kernel
theorem dX5_goesOver_23 : decode cX5_goesOver 23 = .ok (.invokestatic 113, 3) := by decide +kernel
theorem dX5_goesOver_26 : decode cX5_goesOver 26 = .ok (.ifCond .eq 10, 3) := by decide +kernel
theorem dX5_goesOver_29 : decode cX5_goesOver 29 = .ok (.aload_n 1, 1) := by decide +kernel
theorem dX5_goesOver_30 : decode cX5_goesOver 30 = .ok (.invokestatic 113, 3) := by decide +kernel
theorem dX5_goesOver_33 : decode cX5_goesOver 33 = .ok (.ifCond .ne 5, 3) := by decide +kernel
theorem dX5_goesOver_36 : decode cX5_goesOver 36 = .ok (.iconst 0, 1) := by decide +kernel
theorem dX5_goesOver_37 : decode cX5_goesOver 37 = .ok (.ireturn, 1) := by decide +kernel
theorem dX5_goesOver_38 : decode cX5_goesOver 38 = .ok (.aload_n 1, 1) := by decide +kernel
theorem dX5_goesOver_39 : decode cX5_goesOver 39 = .ok (.getfield 104, 3) := by decide +kernel
theorem dX5_goesOver_42 : decode cX5_goesOver 42 = .ok (.iconst 1, 1) := by decide +kernel
theorem dX5_goesOver_43 : decode cX5_goesOver 43 = .ok (.if_icmp .eq 28, 3) := by decide +kernel
theorem dX5_goesOver_46 : decode cX5_goesOver 46 = .ok (.aload_n 1, 1) := by decide +kernel
theorem dX5_goesOver_47 : decode cX5_goesOver 47 = .ok (.getfield 104, 3) := by decide +kernel
theorem dX5_goesOver_50 : decode cX5_goesOver 50 = .ok (.iconst 2, 1) := by decide +kernel
theorem dX5_goesOver_51 : decode cX5_goesOver 51 = .ok (.if_icmp .eq 20, 3) := by decide +kernel
theorem dX5_goesOver_54 : decode cX5_goesOver 54 = .ok (.aload_n 0, 1) := by decide +kernel
theorem dX5_goesOver_55 : decode cX5_goesOver 55 = .ok (.getfield 107, 3) := by decide +kernel
theorem dX5_goesOver_58 : decode cX5_goesOver 58 = .ok (.getfield 117, 3) := by decide +kernel
theorem dX5_goesOver_61 : decode cX5_goesOver 61 = .ok (.aload_n 1, 1) := by decide +kernel
theorem dX5_goesOver_62 : decode cX5_goesOver 62 = .ok (.getfield 107, 3) := by decide +kernel
theorem dX5_goesOver_65 : decode cX5_goesOver 65 = .ok (.getfield 117, 3) := by decide +kernel
theorem dX5_goesOver_68 : decode cX5_goesOver 68 = .ok (.if_icmp .ne 5, 3) := by decide +kernel
theorem dX5_goesOver_71 : decode cX5_goesOver 71 = .ok (.iconst 1, 1) := by decide +kernel
theorem dX5_goesOver_72 : decode cX5_goesOver 72 = .ok (.ireturn, 1) := by decide +kernel
theorem dX5_goesOver_73 : decode cX5_goesOver 73 = .ok (.iconst 1, 1) := by decide +kernel
theorem dX5_goesOver_74 : decode cX5_goesOver 74 = .ok (.aload_n 0, 1) := by decide +kernel
theorem dX5_goesOver_75 : decode cX5_goesOver 75 = .ok (.getfield 107, 3) := by decide +kernel
theorem dX5_goesOver_78 : decode cX5_goesOver 78 = .ok (.getfield 117, 3) := by decide +kernel
theorem dX5_goesOver_81 : decode cX5_goesOver 81 = .ok (.ishl, 1) := by decide +kernel
theorem dX5_goesOver_82 : decode cX5_goesOver 82 = .ok (.istore_n 2, 1) := by decide +kernel
theorem dX5_goesOver_83 : decode cX5_goesOver 83 = .ok (.aload_n 0, 1) := by decide +kernel
theorem dX5_goesOver_84 : decode cX5_goesOver 84 = .ok (.getfield 107, 3) := by decide +kernel
theorem dX5_goesOver_87 : decode cX5_goesOver 87 = .ok (.getfield 77, 3) := by decide +kernel
theorem dX5_goesOver_90 : decode cX5_goesOver 90 = .ok (.astore_n 3, 1) := by decide +kernel
theorem dX5_goesOver_91 : decode cX5_goesOver 91 = .ok (.aload_n 3, 1) := by decide +kernel
theorem dX5_goesOver_92 : decode cX5_goesOver 92 = .ok (.ifnull 102, 3) := by decide +kernel
theorem dX5_goesOver_95 : decode cX5_goesOver 95 = .ok (.aload_n 3, 1) := by decide +kernel
theorem dX5_goesOver_96 : decode cX5_goesOver 96 = .ok (.aload_n 1, 1) := by decide +kernel
theorem dX5_goesOver_97 : decode cX5_goesOver 97 = .ok (.getfield 107, 3) := by decide +kernel
theorem dX5_goesOver_100 : decode cX5_goesOver 100 = .ok (.if_acmp .eq 94, 3) := by decide +kernel
theorem dX5_goesOver_103 : decode cX5_goesOver 103 = .ok (.aload_n 3, 1) := by decide +kernel
theorem dX5_goesOver_104 : decode cX5_goesOver 104 = .ok (.aload_n 0, 1) := by decide +kernel
theorem dX5_goesOver_105 : decode cX5_goesOver 105 = .ok (.getfield 110, 3) := by decide +kernel
theorem dX5_goesOver_108 : decode cX5_goesOver 108 = .ok (.invokevirtual 58, 3) := by decide +kernel
theorem dX5_goesOver_111 : decode cX5_goesOver 111 = .ok (.astore 4, 2) := by decide +kernel
theorem dX5_goesOver_113 : decode cX5_goesOver 113 = .ok (.aload 4, 2) := by decide +kernel
theorem dX5_goesOver_115 : decode cX5_goesOver 115 = .ok (.ifnull 71, 3) := by decide +kernel
theorem dX5_goesOver_118 : decode cX5_goesOver 118 = .ok (.aload 4, 2) := by decide +kernel
theorem dX5_goesOver_120 : decode cX5_goesOver 120 = .ok (.invokestatic 113, 3) := by decide +kernel
theorem dX5_goesOver_123 : decode cX5_goesOver 123 = .ok (.ifCond .ne 6, 3) := by decide +kernel
theorem dX5_goesOver_126 : decode cX5_goesOver 126 = .ok (.goto 60, 3) := by decide +kernel
theorem dX5_goesOver_129 : decode cX5_goesOver 129 = .ok (.aload 4, 2) := by decide +kernel
theorem dX5_goesOver_131 : decode cX5_goesOver 131 = .ok (.getfield 104, 3) := by decide +kernel
theorem dX5_goesOver_134 : decode cX5_goesOver 134 = .ok (.iconst 1, 1) := by decide +kernel
theorem dX5_goesOver_135 : decode cX5_goesOver 135 = .ok (.if_icmp .eq 26, 3) := by decide +kernel
theorem dX5_goesOver_138 : decode cX5_goesOver 138 = .ok (.aload 4, 2) := by decide +kernel
theorem dX5_goesOver_140 : decode cX5_goesOver 140 = .ok (.getfield 104, 3) := by decide +kernel
theorem dX5_goesOver_143 : decode cX5_goesOver 143 = .ok (.iconst 2, 1) := by decide +kernel
theorem dX5_goesOver_144 : decode cX5_goesOver 144 = .ok (.if_icmp .eq 17, 3) := by decide +kernel
theorem dX5_goesOver_147 : decode cX5_goesOver 147 = .ok (.iload_n 2, 1) := by decide +kernel
theorem dX5_goesOver_148 : decode cX5_goesOver 148 = .ok (.aload_n 3, 1) := by decide +kernel
theorem dX5_goesOver_149 : decode cX5_goesOver 149 = .ok (.getfield 117, 3) := by decide +kernel
theorem dX5_goesOver_152 : decode cX5_goesOver 152 = .ok (.ishr, 1) := by decide +kernel
theorem dX5_goesOver_153 : decode cX5_goesOver 153 = .ok (.iconst 1, 1) := by decide +kernel
theorem dX5_goesOver_154 : decode cX5_goesOver 154 = .ok (.iand, 1) := by decide +kernel
theorem dX5_goesOver_155 : decode cX5_goesOver 155 = .ok (.ifCond .ne 6, 3) := by decide +kernel
theorem dX5_goesOver_158 : decode cX5_goesOver 158 = .ok (.goto 28, 3) := by decide +kernel
theorem dX5_goesOver_161 : decode cX5_goesOver 161 = .ok (.iload_n 2, 1) := by decide +kernel
theorem dX5_goesOver_162 : decode cX5_goesOver 162 = .ok (.iconst 1, 1) := by decide +kernel
theorem dX5_goesOver_163 : decode cX5_goesOver 163 = .ok (.aload_n 3, 1) := by decide +kernel
theorem dX5_goesOver_164 : decode cX5_goesOver 164 = .ok (.getfield 117, 3) := by decide +kernel
theorem dX5_goesOver_167 : decode cX5_goesOver 167 = .ok (.ishl, 1) := by decide +kernel
theorem dX5_goesOver_168 : decode cX5_goesOver 168 = .ok (.ior, 1) := by decide +kernel
theorem dX5_goesOver_169 : decode cX5_goesOver 169 = .ok (.istore_n 2, 1) := by decide +kernel
theorem dX5_goesOver_170 : decode cX5_goesOver 170 = .ok (.aload_n 3, 1) := by decide +kernel
theorem dX5_goesOver_171 : decode cX5_goesOver 171 = .ok (.getfield 117, 3) := by decide +kernel
theorem dX5_goesOver_174 : decode cX5_goesOver 174 = .ok (.aload_n 1, 1) := by decide +kernel
theorem dX5_goesOver_175 : decode cX5_goesOver 175 = .ok (.getfield 107, 3) := by decide +kernel
theorem dX5_goesOver_178 : decode cX5_goesOver 178 = .ok (.getfield 117, 3) := by decide +kernel
theorem dX5_goesOver_181 : decode cX5_goesOver 181 = .ok (.if_icmp .ne 5, 3) := by decide +kernel
theorem dX5_goesOver_184 : decode cX5_goesOver 184 = .ok (.iconst 1, 1) := by decide +kernel
theorem dX5_goesOver_185 : decode cX5_goesOver 185 = .ok (.ireturn, 1) := by decide +kernel
theorem dX5_goesOver_186 : decode cX5_goesOver 186 = .ok (.aload_n 3, 1) := by decide +kernel
theorem dX5_goesOver_187 : decode cX5_goesOver 187 = .ok (.getfield 77, 3) := by decide +kernel
theorem dX5_goesOver_190 : decode cX5_goesOver 190 = .ok (.astore_n 3, 1) := by decide +kernel
theorem dX5_goesOver_191 : decode cX5_goesOver 191 = .ok (.goto (-100), 3) := by decide +kernel
theorem dX5_goesOver_194 : decode cX5_goesOver 194 = .ok (.iconst 0, 1) := by decide +kernel
theorem dX5_goesOver_195 : decode cX5_goesOver 195 = .ok (.ireturn, 1) := by decide +kernel
set_option maxRecDepth 20000 in
theorem ggX5_overrides_X5_met : GoodIn wsX5_overrides wsX5_met := goodIn_r _ [5, 6, 7, 8, 9, 10, 11, 12, 13, 14, 15, 16, 17, 18, 19, 20, 21, 22, 23, 24, 25, 26, 27, 28, 29, 30, 53, 54, 55, 56, 57, 58] (by decide +kernel) (by decide +kernel)
set_option maxRecDepth 20000 in
theorem gX5_overrides_X5_met : GoodIn wsX5_overrides (wsV RX5 120 RX5 yX5_met wsX5_met) := goodIn_app (goodIn_of _ (by decide +kernel)) ggX5_overrides_X5_met
set_option maxRecDepth 20000 in
theorem ggX5_overrides_X5_goesOver : GoodIn wsX5_overrides wsX5_goesOver := goodIn_r _ [33, 34, 35, 36, 37, 38, 39, 40, 4, 41, 42, 43, 44, 45, 46, 47, 48, 49, 50, 51, 9, 10, 11, 12, 13, 52, 15, 16, 17, 18, 19, 20, 21, 22, 23, 24, 25, 26, 27, 28, 29, 30, 59, 60, 61, 62, 63, 64, 65, 66, 67, 68, 69, 70, 71, 72, 73, 74, 56, 57, 58] (by decide +kernel) (by decide +kernel)
set_option maxRecDepth 20000 in
theorem gX5_overrides_X5_goesOver : GoodIn wsX5_overrides (va_wsS RX5 123 yX5_goesOver wsX5_goesOver) := goodIn_app (goodIn_of _ (by decide +kernel)) ggX5_overrides_X5_goesOver
theorem dX5_overrides_0 : decode cX5_overrides 0 = .ok (.aload_n 0, 1) := by decide +kernel
theorem dX5_overrides_1 : decode cX5_overrides 1 = .ok (.iload_n 1, 1) := by decide +kernel
theorem dX5_overrides_2 : decode cX5_overrides 2 = .ok (.invokevirtual 120, 3) := by decide +kernel
theorem dX5_overrides_5 : decode cX5_overrides 5 = .ok (.ifnull 31, 3) := by decide +kernel
theorem dX5_overrides_8 : decode cX5_overrides 8 = .ok (.aload_n 0, 1) := by decide +kernel
theorem dX5_overrides_9 : decode cX5_overrides 9 = .ok (.iload_n 2, 1) := by decide +kernel
theorem dX5_overrides_10 : decode cX5_overrides 10 = .ok (.invokevirtual 120, 3) := by decide +kernel
theorem dX5_overrides_13 : decode cX5_overrides 13 = .ok (.ifnull 23, 3) := by decide +kernel
theorem dX5_overrides_16 : decode cX5_overrides 16 = .ok (.aload_n 0, 1) := by decide +kernel
theorem dX5_overrides_17 : decode cX5_overrides 17 = .ok (.iload_n 1, 1) := by decide +kernel
theorem dX5_overrides_18 : decode cX5_overrides 18 = .ok (.invokevirtual 120, 3) := by decide +kernel
theorem dX5_overrides_21 : decode cX5_overrides 21 = .ok (.aload_n 0, 1) := by decide +kernel
theorem dX5_overrides_22 : decode cX5_overrides 22 = .ok (.iload_n 2, 1) := by decide +kernel
theorem dX5_overrides_23 : decode cX5_overrides 23 = .ok (.invokevirtual 120, 3) := by decide +kernel
theorem dX5_overrides_26 : decode cX5_overrides 26 = .ok (.invokestatic 123, 3) := by decide +kernel
theorem dX5_overrides_29 : decode cX5_overrides 29 = .ok (.ifCond .eq 7, 3) := by decide +kernel
theorem dX5_overrides_32 : decode cX5_overrides 32 = .ok (.iconst 1, 1) := by decide +kernel
theorem dX5_overrides_33 : decode cX5_overrides 33 = .ok (.goto 4, 3) := by decide +kernel
theorem dX5_overrides_36 : decode cX5_overrides 36 = .ok (.iconst 0, 1) := by decide +kernel
theorem dX5_overrides_37 : decode cX5_overrides 37 = .ok (.ireturn, 1) := by decide +kernel
set_option maxRecDepth 20000 in
theorem ggX5_broken_X5_at : GoodIn wsX5_broken wsX5_at := goodIn_r _ [11, 12, 13, 14, 15, 16, 17, 18, 19, 20, 21, 22, 23, 24, 25, 26, 27, 28, 29, 30, 31, 32, 33, 34, 35, 36, 73, 74, 75, 76, 77, 78] (by decide +kernel) (by decide +kernel)
set_option maxRecDepth 20000 in
theorem gX5_broken_X5_at : GoodIn wsX5_broken (wsV RX5 38 RX5 yX5_at wsX5_at) := goodIn_app (goodIn_of _ (by decide +kernel)) ggX5_broken_X5_at
set_option maxRecDepth 20000 in
theorem ggX5_broken_Jx4a65c_size_8abf5 : GoodIn wsX5_broken wsJx4a65c_size_8abf5 := goodIn_r _ [18, 19, 76, 77, 78] (by decide +kernel) (by decide +kernel)
set_option maxRecDepth 20000 in
theorem gX5_broken_Jx4a65c_size_8abf5 : GoodIn wsX5_broken (wsV RX5 28 RJx4a65c yJx4a65c_size_8abf5 wsJx4a65c_size_8abf5) := goodIn_app (goodIn_of _ (by decide +kernel)) ggX5_broken_Jx4a65c_size_8abf5
set_option maxRecDepth 20000 in
theorem ggX5_broken_Jx4a65c_get_915e3 : GoodIn wsX5_broken wsJx4a65c_get_915e3 := goodIn_r _ [23, 19, 24, 25, 26, 27, 28, 29, 30, 31, 32, 33, 34, 17, 35, 36, 76, 77, 78] (by decide +kernel) (by decide +kernel)
set_option maxRecDepth 20000 in
theorem gX5_broken_Jx4a65c_get_915e3 : GoodIn wsX5_broken (wsV RX5 32 RJx4a65c yJx4a65c_get_915e3 wsJx4a65c_get_915e3) := goodIn_app (goodIn_of _ (by decide +kernel)) ggX5_broken_Jx4a65c_get_915e3
set_option maxRecDepth 20000 in
theorem ggX5_broken_X3_named : GoodIn wsX5_broken wsX3_named := goodIn_r _ [41, 42, 43, 44, 45, 15, 16, 17, 18, 19, 46, 21, 22, 23, 24, 25, 26, 27, 28, 29, 30, 31, 32, 33, 34, 35, 36, 57, 58, 59, 60, 61, 62, 63, 64, 65, 66, 67, 68, 69, 70, 71, 72, 76, 77, 78] (by decide +kernel) (by decide +kernel)
set_option maxRecDepth 20000 in
theorem gX5_broken_X3_named : GoodIn wsX5_broken (wsV RX5 58 RX3 yX3_named wsX3_named) := goodIn_app (goodIn_of _ (by decide +kernel)) ggX5_broken_X3_named
set_option maxRecDepth 20000 in
theorem ggX5_broken_X5_goesOver : GoodIn wsX5_broken wsX5_goesOver := goodIn_r _ [49, 50, 4, 51, 52, 3, 53, 54, 10, 55, 56, 37, 38, 39, 40, 41, 42, 43, 44, 45, 15, 16, 17, 18, 19, 46, 21, 22, 23, 24, 25, 26, 27, 28, 29, 30, 31, 32, 33, 34, 35, 36, 66, 67, 68, 69, 70, 71, 72, 57, 58, 59, 60, 61, 62, 63, 64, 65, 76, 77, 78] (by decide +kernel) (by decide +kernel)
set_option maxRecDepth 20000 in
theorem gX5_broken_X5_goesOver : GoodIn wsX5_broken (va_wsS RX5 123 yX5_goesOver wsX5_goesOver) := goodIn_app (goodIn_of _ (by decide +kernel)) ggX5_broken_X5_goesOver
theorem dX5_broken_0 : decode cX5_broken 0 = .ok (.aload_n 0, 1) := by decide +kernel
theorem dX5_broken_1 : decode cX5_broken 1 = .ok (.iload_n 1, 1) := by decide +kernel
theorem dX5_broken_2 : decode cX5_broken 2 = .ok (.invokevirtual 38, 3) := by decide +kernel
theorem dX5_broken_5 : decode cX5_broken 5 = .ok (.ifnonnull 5, 3) := by decide +kernel
theorem dX5_broken_8 : decode cX5_broken 8 = .ok (.iconst (-1), 1) := by decide +kernel
theorem dX5_broken_9 : decode cX5_broken 9 = .ok (.ireturn, 1) := by decide +kernel
theorem dX5_broken_10 : decode cX5_broken 10 = .ok (.aload_n 0, 1) := by decide +kernel
theorem dX5_broken_11 : decode cX5_broken 11 = .ok (.iload_n 1, 1) := by decide +kernel
theorem dX5_broken_12 : decode cX5_broken 12 = .ok (.invokevirtual 38, 3) := by decide +kernel
theorem dX5_broken_15 : decode cX5_broken 15 = .ok (.astore_n 2, 1) := by decide +kernel
theorem dX5_broken_16 : decode cX5_broken 16 = .ok (.iconst 0, 1) := by decide +kernel
theorem dX5_broken_17 : decode cX5_broken 17 = .ok (.istore_n 3, 1) := by decide +kernel
theorem dX5_broken_18 : decode cX5_broken 18 = .ok (.iload_n 3, 1) := by decide +kernel
theorem dX5_broken_19 : decode cX5_broken 19 = .ok (.aload_n 2, 1) := by decide +kernel
theorem dX5_broken_20 : decode cX5_broken 20 = .ok (.getfield 46, 3) := by decide +kernel
theorem dX5_broken_23 : decode cX5_broken 23 = .ok (.invokevirtual 28, 3) := by decide +kernel
theorem dX5_broken_26 : decode cX5_broken 26 = .ok (.if_icmp .ge 84, 3) := by decide +kernel
theorem dX5_broken_29 : decode cX5_broken 29 = .ok (.aload_n 2, 1) := by decide +kernel
theorem dX5_broken_30 : decode cX5_broken 30 = .ok (.getfield 46, 3) := by decide +kernel
theorem dX5_broken_33 : decode cX5_broken 33 = .ok (.iload_n 3, 1) := by decide +kernel
theorem dX5_broken_34 : decode cX5_broken 34 = .ok (.invokevirtual 32, 3) := by decide +kernel
theorem dX5_broken_37 : decode cX5_broken 37 = .ok (.checkcast 36, 3) := by decide +kernel
theorem dX5_broken_40 : decode cX5_broken 40 = .ok (.astore 4, 2) := by decide +kernel
theorem dX5_broken_42 : decode cX5_broken 42 = .ok (.aload_n 2, 1) := by decide +kernel
theorem dX5_broken_43 : decode cX5_broken 43 = .ok (.getfield 77, 3) := by decide +kernel
theorem dX5_broken_46 : decode cX5_broken 46 = .ok (.astore 5, 2) := by decide +kernel
theorem dX5_broken_48 : decode cX5_broken 48 = .ok (.aload 5, 2) := by decide +kernel
theorem dX5_broken_50 : decode cX5_broken 50 = .ok (.ifnull 54, 3) := by decide +kernel
theorem dX5_broken_53 : decode cX5_broken 53 = .ok (.aload 5, 2) := by decide +kernel
theorem dX5_broken_55 : decode cX5_broken 55 = .ok (.aload 4, 2) := by decide +kernel
theorem dX5_broken_57 : decode cX5_broken 57 = .ok (.getfield 110, 3) := by decide +kernel
theorem dX5_broken_60 : decode cX5_broken 60 = .ok (.invokevirtual 58, 3) := by decide +kernel
theorem dX5_broken_63 : decode cX5_broken 63 = .ok (.astore 6, 2) := by decide +kernel
theorem dX5_broken_65 : decode cX5_broken 65 = .ok (.aload 6, 2) := by decide +kernel
theorem dX5_broken_67 : decode cX5_broken 67 = .ok (.ifnull 27, 3) := by decide +kernel
theorem dX5_broken_70 : decode cX5_broken 70 = .ok (.aload 6, 2) := by decide +kernel
theorem dX5_broken_72 : decode cX5_broken 72 = .ok (.getfield 127, 3) := by decide +kernel
theorem dX5_broken_75 : decode cX5_broken 75 = .ok (.ifCond .eq 19, 3) := by decide +kernel
theorem dX5_broken_78 : decode cX5_broken 78 = .ok (.aload 4, 2) := by decide +kernel
theorem dX5_broken_80 : decode cX5_broken 80 = .ok (.aload 6, 2) := by decide +kernel
theorem dX5_broken_82 : decode cX5_broken 82 = .ok (.invokestatic 123, 3) := by decide +kernel
theorem dX5_broken_85 : decode cX5_broken 85 = .ok (.ifCond .eq 9, 3) := by decide +kernel
theorem dX5_broken_88 : decode cX5_broken 88 = .ok (.aload 4, 2) := by decide +kernel
theorem dX5_broken_90 : decode cX5_broken 90 = .ok (.getfield 65, 3) := by decide +kernel
theorem dX5_broken_93 : decode cX5_broken 93 = .ok (.ireturn, 1) := by decide +kernel
theorem dX5_broken_94 : decode cX5_broken 94 = .ok (.aload 5, 2) := by decide +kernel
theorem dX5_broken_96 : decode cX5_broken 96 = .ok (.getfield 77, 3) := by decide +kernel
theorem dX5_broken_99 : decode cX5_broken 99 = .ok (.astore 5, 2) := by decide +kernel
theorem dX5_broken_101 : decode cX5_broken 101 = .ok (.goto (-53), 3) := by decide +kernel
theorem dX5_broken_104 : decode cX5_broken 104 = .ok (.iinc 3 1, 3) := by decide +kernel
theorem dX5_broken_107 : decode cX5_broken 107 = .ok (.goto (-89), 3) := by decide +kernel
theorem dX5_broken_110 : decode cX5_broken 110 = .ok (.iconst (-1), 1) := by decide +kernel
theorem dX5_broken_111 : decode cX5_broken 111 = .ok (.ireturn, 1) := by decide +kernel
set_option maxRecDepth 20000 in
theorem ggX5_isNearest_Jx4a65c_get_915e3 : GoodIn wsX5_isNearest wsJx4a65c_get_915e3 := goodIn_r _ [6, 7, 8, 9, 10, 11, 12, 13, 14, 15, 16, 17, 18, 5, 19, 20, 49, 50, 51] (by decide +kernel) (by decide +kernel)
set_option maxRecDepth 20000 in
theorem gX5_isNearest_Jx4a65c_get_915e3 : GoodIn wsX5_isNearest (wsV RX5 32 RJx4a65c yJx4a65c_get_915e3 wsJx4a65c_get_915e3) := goodIn_app (goodIn_of _ (by decide +kernel)) ggX5_isNearest_Jx4a65c_get_915e3
set_option maxRecDepth 20000 in
theorem ggX5_isNearest_X3_named : GoodIn wsX5_isNearest wsX3_named := goodIn_r _ [25, 26, 27, 28, 29, 30, 31, 5, 32, 7, 33, 3, 4, 6, 8, 9, 10, 11, 12, 13, 14, 15, 16, 17, 18, 19, 20, 52, 53, 54, 55, 56, 57, 58, 59, 60, 61, 62, 63, 64, 65, 66, 67, 49, 50, 51] (by decide +kernel) (by decide +kernel)
set_option maxRecDepth 20000 in
theorem gX5_isNearest_X3_named : GoodIn wsX5_isNearest (wsV RX5 58 RX3 yX3_named wsX3_named) := goodIn_app (goodIn_of _ (by decide +kernel)) ggX5_isNearest_X3_named
set_option maxRecDepth 20000 in
theorem ggX5_isNearest_Jx4a65c_size_8abf5 : GoodIn wsX5_isNearest wsJx4a65c_size_8abf5 := goodIn_r _ [32, 7, 49, 50, 51] (by decide +kernel) (by decide +kernel)
set_option maxRecDepth 20000 in
theorem gX5_isNearest_Jx4a65c_size_8abf5 : GoodIn wsX5_isNearest (wsV RX5 28 RJx4a65c yJx4a65c_size_8abf5 wsJx4a65c_size_8abf5) := goodIn_app (goodIn_of _ (by decide +kernel)) ggX5_isNearest_Jx4a65c_size_8abf5
set_option maxRecDepth 20000 in
theorem ggX5_isNearest_X5_lies : GoodIn wsX5_isNearest wsX5_lies := goodIn_r _ [39, 40, 41, 42, 43, 38, 44, 45, 46, 47, 48, 1, 34, 30, 31, 5, 32, 7, 2, 3, 4, 6, 8, 9, 10, 11, 12, 13, 14, 15, 16, 17, 18, 19, 20, 68, 69, 70, 52, 53, 54, 55, 56, 57, 58, 59, 60, 49, 50, 51] (by decide +kernel) (by decide +kernel)
set_option maxRecDepth 20000 in
theorem gX5_isNearest_X5_lies : GoodIn wsX5_isNearest (wsV RX5 81 RX5 yX5_lies wsX5_lies) := goodIn_app (goodIn_of _ (by decide +kernel)) ggX5_isNearest_X5_lies
theorem dX5_isNearest_0 : decode cX5_isNearest 0 = .ok (.aload_n 1, 1) := by decide +kernel
theorem dX5_isNearest_1 : decode cX5_isNearest 1 = .ok (.iload_n 2, 1) := by decide +kernel
theorem dX5_isNearest_2 : decode cX5_isNearest 2 = .ok (.invokevirtual 32, 3) := by decide +kernel
theorem dX5_isNearest_5 : decode cX5_isNearest 5 = .ok (.checkcast 19, 3) := by decide +kernel
theorem dX5_isNearest_8 : decode cX5_isNearest 8 = .ok (.iload_n 3, 1) := by decide +kernel
theorem dX5_isNearest_9 : decode cX5_isNearest 9 = .ok (.invokevirtual 58, 3) := by decide +kernel
theorem dX5_isNearest_12 : decode cX5_isNearest 12 = .ok (.ifnonnull 5, 3) := by decide +kernel
theorem dX5_isNearest_15 : decode cX5_isNearest 15 = .ok (.iconst 0, 1) := by decide +kernel
theorem dX5_isNearest_16 : decode cX5_isNearest 16 = .ok (.ireturn, 1) := by decide +kernel
theorem dX5_isNearest_17 : decode cX5_isNearest 17 = .ok (.iconst 0, 1) := by decide +kernel
theorem dX5_isNearest_18 : decode cX5_isNearest 18 = .ok (.istore 4, 2) := by decide +kernel
theorem dX5_isNearest_20 : decode cX5_isNearest 20 = .ok (.iload 4, 2) := by decide +kernel
theorem dX5_isNearest_22 : decode cX5_isNearest 22 = .ok (.aload_n 1, 1) := by decide +kernel
theorem dX5_isNearest_23 : decode cX5_isNearest 23 = .ok (.invokevirtual 28, 3) := by decide +kernel
theorem dX5_isNearest_26 : decode cX5_isNearest 26 = .ok (.if_icmp .ge 57, 3) := by decide +kernel
theorem dX5_isNearest_29 : decode cX5_isNearest 29 = .ok (.iload 4, 2) := by decide +kernel
theorem dX5_isNearest_31 : decode cX5_isNearest 31 = .ok (.iload_n 2, 1) := by decide +kernel
theorem dX5_isNearest_32 : decode cX5_isNearest 32 = .ok (.if_icmp .eq 45, 3) := by decide +kernel
theorem dX5_isNearest_35 : decode cX5_isNearest 35 = .ok (.aload_n 1, 1) := by decide +kernel
theorem dX5_isNearest_36 : decode cX5_isNearest 36 = .ok (.iload 4, 2) := by decide +kernel
theorem dX5_isNearest_38 : decode cX5_isNearest 38 = .ok (.invokevirtual 32, 3) := by decide +kernel
theorem dX5_isNearest_41 : decode cX5_isNearest 41 = .ok (.checkcast 19, 3) := by decide +kernel
theorem dX5_isNearest_44 : decode cX5_isNearest 44 = .ok (.iload_n 3, 1) := by decide +kernel
theorem dX5_isNearest_45 : decode cX5_isNearest 45 = .ok (.invokevirtual 58, 3) := by decide +kernel
theorem dX5_isNearest_48 : decode cX5_isNearest 48 = .ok (.ifnull 29, 3) := by decide +kernel
theorem dX5_isNearest_51 : decode cX5_isNearest 51 = .ok (.aload_n 0, 1) := by decide +kernel
theorem dX5_isNearest_52 : decode cX5_isNearest 52 = .ok (.aload_n 1, 1) := by decide +kernel
theorem dX5_isNearest_53 : decode cX5_isNearest 53 = .ok (.iload 4, 2) := by decide +kernel
theorem dX5_isNearest_55 : decode cX5_isNearest 55 = .ok (.invokevirtual 32, 3) := by decide +kernel
theorem dX5_isNearest_58 : decode cX5_isNearest 58 = .ok (.checkcast 19, 3) := by decide +kernel
theorem dX5_isNearest_61 : decode cX5_isNearest 61 = .ok (.aload_n 1, 1) := by decide +kernel
theorem dX5_isNearest_62 : decode cX5_isNearest 62 = .ok (.iload_n 2, 1) := by decide +kernel
theorem dX5_isNearest_63 : decode cX5_isNearest 63 = .ok (.invokevirtual 32, 3) := by decide +kernel
theorem dX5_isNearest_66 : decode cX5_isNearest 66 = .ok (.checkcast 19, 3) := by decide +kernel
theorem dX5_isNearest_69 : decode cX5_isNearest 69 = .ok (.invokevirtual 81, 3) := by decide +kernel
theorem dX5_isNearest_72 : decode cX5_isNearest 72 = .ok (.ifCond .eq 5, 3) := by decide +kernel
theorem dX5_isNearest_75 : decode cX5_isNearest 75 = .ok (.iconst 0, 1) := by decide +kernel
theorem dX5_isNearest_76 : decode cX5_isNearest 76 = .ok (.ireturn, 1) := by decide +kernel
theorem dX5_isNearest_77 : decode cX5_isNearest 77 = .ok (.iinc 4 1, 3) := by decide +kernel
theorem dX5_isNearest_80 : decode cX5_isNearest 80 = .ok (.goto (-60), 3) := by decide +kernel
theorem dX5_isNearest_83 : decode cX5_isNearest 83 = .ok (.iconst 1, 1) := by decide +kernel
theorem dX5_isNearest_84 : decode cX5_isNearest 84 = .ok (.ireturn, 1) := by decide +kernel
set_option maxRecDepth 20000 in
theorem ggX5_nearest_X5_at : GoodIn wsX5_nearest wsX5_at := goodIn_r _ [7, 8, 1, 9, 10, 11, 12, 13, 14, 15, 16, 17, 18, 19, 20, 21, 22, 23, 24, 25, 26, 27, 28, 29, 30, 31, 136, 137, 138, 139, 140, 141] (by decide +kernel) (by decide +kernel)
set_option maxRecDepth 20000 in
theorem gX5_nearest_X5_at : GoodIn wsX5_nearest (wsV RX5 38 RX5 yX5_at wsX5_at) := goodIn_app (goodIn_of _ (by decide +kernel)) ggX5_nearest_X5_at
set_option maxRecDepth 20000 in
theorem ggX5_nearest_X5_isName : GoodIn wsX5_nearest wsX5_isName := goodIn_r _ [34] (by decide +kernel) (by decide +kernel)
set_option maxRecDepth 20000 in
theorem gX5_nearest_X5_isName : GoodIn wsX5_nearest (va_wsS RX5 54 yX5_isName wsX5_isName) := goodIn_app (goodIn_of _ (by decide +kernel)) ggX5_nearest_X5_isName
set_option maxRecDepth 20000 in
theorem ggX5_nearest_X5_facesOf : GoodIn wsX5_nearest wsX5_facesOf := goodIn_r _ [38, 39, 40, 41, 42, 9, 10, 11, 12, 13, 14, 43, 44, 45, 46, 47, 48, 31, 49, 50, 51, 6, 52, 1, 53, 54, 15, 16, 17, 18, 19, 20, 21, 22, 23, 24, 25, 26, 27, 28, 29, 30, 55, 56, 57, 58, 59, 60, 61, 62, 63, 64, 65, 66, 67, 68, 69, 70, 71, 72, 73, 74, 75, 76, 77, 78, 79, 80, 81, 82, 83, 84, 85, 86, 87, 88, 89, 90, 91, 92, 93, 94, 95, 96, 97, 98, 99, 100, 101, 102, 103, 104, 105, 142, 143, 144, 145, 146, 147, 148, 149, 150, 136, 137, 138, 139, 140, 141] (by decide +kernel) (by decide +kernel)
set_option maxRecDepth 20000 in
theorem gX5_nearest_X5_facesOf : GoodIn wsX5_nearest (wsV RX5 97 RX5 yX5_facesOf wsX5_facesOf) := goodIn_app (goodIn_of _ (by decide +kernel)) ggX5_nearest_X5_facesOf
set_option maxRecDepth 20000 in
theorem ggX5_nearest_Jx4a65c_size_8abf5 : GoodIn wsX5_nearest wsJx4a65c_size_8abf5 := goodIn_r _ [13, 14, 139, 140, 141] (by decide +kernel) (by decide +kernel)
set_option maxRecDepth 20000 in
theorem gX5_nearest_Jx4a65c_size_8abf5 : GoodIn wsX5_nearest (wsV RX5 28 RJx4a65c yJx4a65c_size_8abf5 wsJx4a65c_size_8abf5) := goodIn_app (goodIn_of _ (by decide +kernel)) ggX5_nearest_Jx4a65c_size_8abf5
set_option maxRecDepth 20000 in
theorem ggX5_nearest_X5_isNearest : GoodIn wsX5_nearest wsX5_isNearest := goodIn_r _ [109, 1, 15, 16, 17, 12, 18, 14, 19, 20, 21, 22, 23, 24, 25, 26, 27, 28, 29, 30, 31, 110, 111, 112, 113, 114, 115, 116, 117, 118, 10, 11, 13, 119, 9, 120, 121, 122, 6, 123, 42, 124, 125, 126, 127, 53, 128, 54, 40, 139, 140, 141, 142, 143, 144, 145, 146, 147, 148, 149, 150, 129, 130, 131, 132, 133, 134, 135, 136, 137, 138] (by decide +kernel) (by decide +kernel)
set_option maxRecDepth 20000 in
theorem gX5_nearest_X5_isNearest : GoodIn wsX5_nearest (wsV RX5 130 RX5 yX5_isNearest wsX5_isNearest) := goodIn_app (goodIn_of _ (by decide +kernel)) ggX5_nearest_X5_isNearest
set_option maxRecDepth 20000 in
theorem ggX5_nearest_Jx4a65c_get_915e3 : GoodIn wsX5_nearest wsJx4a65c_get_915e3 := goodIn_r _ [18, 14, 19, 20, 21, 22, 23, 24, 25, 26, 27, 28, 29, 12, 30, 31, 139, 140, 141] (by decide +kernel) (by decide +kernel)
set_option maxRecDepth 20000 in
theorem gX5_nearest_Jx4a65c_get_915e3 : GoodIn wsX5_nearest (wsV RX5 32 RJx4a65c yJx4a65c_get_915e3 wsJx4a65c_get_915e3) := goodIn_app (goodIn_of _ (by decide +kernel)) ggX5_nearest_Jx4a65c_get_915e3
set_option maxRecDepth 20000 in
theorem ggX5_nearest_X3_named : GoodIn wsX5_nearest wsX3_named := goodIn_r _ [114, 115, 116, 117, 118, 10, 11, 12, 13, 14, 119, 16, 17, 18, 19, 20, 21, 22, 23, 24, 25, 26, 27, 28, 29, 30, 31, 142, 143, 144, 145, 146, 147, 148, 149, 150, 129, 130, 131, 132, 133, 134, 135, 139, 140, 141] (by decide +kernel) (by decide +kernel)
set_option maxRecDepth 20000 in
theorem gX5_nearest_X3_named : GoodIn wsX5_nearest (wsV RX5 58 RX3 yX3_named wsX3_named) := goodIn_app (goodIn_of _ (by decide +kernel)) ggX5_nearest_X3_named
theorem dX5_nearest_0 : decode cX5_nearest 0 = .ok (.aload_n 0, 1) := by decide +kernel
theorem dX5_nearest_1 : decode cX5_nearest 1 = .ok (.iload_n 1, 1) := by decide +kernel
theorem dX5_nearest_2 : decode cX5_nearest 2 = .ok (.invokevirtual 38, 3) := by decide +kernel
theorem dX5_nearest_5 : decode cX5_nearest 5 = .ok (.ifnull 14, 3) := by decide +kernel
theorem dX5_nearest_8 : decode cX5_nearest 8 = .ok (.iload_n 2, 1) := by decide +kernel
theorem dX5_nearest_9 : decode cX5_nearest 9 = .ok (.invokestatic 54, 3) := by decide +kernel
theorem dX5_nearest_12 : decode cX5_nearest 12 = .ok (.ifCond .eq 7, 3) := by decide +kernel
theorem dX5_nearest_15 : decode cX5_nearest 15 = .ok (.iload_n 3, 1) := by decide +kernel
theorem dX5_nearest_16 : decode cX5_nearest 16 = .ok (.ifCond .ge 5, 3) := by decide +kernel
theorem dX5_nearest_19 : decode cX5_nearest 19 = .ok (.iconst (-1), 1) := by decide +kernel
theorem dX5_nearest_20 : decode cX5_nearest 20 = .ok (.ireturn, 1) := by decide +kernel
theorem dX5_nearest_21 : decode cX5_nearest 21 = .ok (.aload_n 0, 1) := by decide +kernel
theorem dX5_nearest_22 : decode cX5_nearest 22 = .ok (.aload_n 0, 1) := by decide +kernel
theorem dX5_nearest_23 : decode cX5_nearest 23 = .ok (.iload_n 1, 1) := by decide +kernel
theorem dX5_nearest_24 : decode cX5_nearest 24 = .ok (.invokevirtual 38, 3) := by decide +kernel
theorem dX5_nearest_27 : decode cX5_nearest 27 = .ok (.invokevirtual 97, 3) := by decide +kernel
theorem dX5_nearest_30 : decode cX5_nearest 30 = .ok (.astore 4, 2) := by decide +kernel
theorem dX5_nearest_32 : decode cX5_nearest 32 = .ok (.iconst 0, 1) := by decide +kernel
theorem dX5_nearest_33 : decode cX5_nearest 33 = .ok (.istore 5, 2) := by decide +kernel
theorem dX5_nearest_35 : decode cX5_nearest 35 = .ok (.iconst 0, 1) := by decide +kernel
theorem dX5_nearest_36 : decode cX5_nearest 36 = .ok (.istore 6, 2) := by decide +kernel
theorem dX5_nearest_38 : decode cX5_nearest 38 = .ok (.iload 6, 2) := by decide +kernel
theorem dX5_nearest_40 : decode cX5_nearest 40 = .ok (.aload 4, 2) := by decide +kernel
theorem dX5_nearest_42 : decode cX5_nearest 42 = .ok (.invokevirtual 28, 3) := by decide +kernel
theorem dX5_nearest_45 : decode cX5_nearest 45 = .ok (.if_icmp .ge 51, 3) := by decide +kernel
theorem dX5_nearest_48 : decode cX5_nearest 48 = .ok (.aload_n 0, 1) := by decide +kernel
theorem dX5_nearest_49 : decode cX5_nearest 49 = .ok (.aload 4, 2) := by decide +kernel
theorem dX5_nearest_51 : decode cX5_nearest 51 = .ok (.iload 6, 2) := by decide +kernel
theorem dX5_nearest_53 : decode cX5_nearest 53 = .ok (.iload_n 2, 1) := by decide +kernel
theorem dX5_nearest_54 : decode cX5_nearest 54 = .ok (.invokevirtual 130, 3) := by decide +kernel
theorem dX5_nearest_57 : decode cX5_nearest 57 = .ok (.ifCond .ne 6, 3) := by decide +kernel
theorem dX5_nearest_60 : decode cX5_nearest 60 = .ok (.goto 30, 3) := by decide +kernel
theorem dX5_nearest_63 : decode cX5_nearest 63 = .ok (.iload 5, 2) := by decide +kernel
theorem dX5_nearest_65 : decode cX5_nearest 65 = .ok (.iload_n 3, 1) := by decide +kernel
theorem dX5_nearest_66 : decode cX5_nearest 66 = .ok (.if_icmp .ne 21, 3) := by decide +kernel
theorem dX5_nearest_69 : decode cX5_nearest 69 = .ok (.aload 4, 2) := by decide +kernel
theorem dX5_nearest_71 : decode cX5_nearest 71 = .ok (.iload 6, 2) := by decide +kernel
theorem dX5_nearest_73 : decode cX5_nearest 73 = .ok (.invokevirtual 32, 3) := by decide +kernel
theorem dX5_nearest_76 : decode cX5_nearest 76 = .ok (.checkcast 19, 3) := by decide +kernel
theorem dX5_nearest_79 : decode cX5_nearest 79 = .ok (.iload_n 2, 1) := by decide +kernel
theorem dX5_nearest_80 : decode cX5_nearest 80 = .ok (.invokevirtual 58, 3) := by decide +kernel
theorem dX5_nearest_83 : decode cX5_nearest 83 = .ok (.getfield 65, 3) := by decide +kernel
theorem dX5_nearest_86 : decode cX5_nearest 86 = .ok (.ireturn, 1) := by decide +kernel
theorem dX5_nearest_87 : decode cX5_nearest 87 = .ok (.iinc 5 1, 3) := by decide +kernel
theorem dX5_nearest_90 : decode cX5_nearest 90 = .ok (.iinc 6 1, 3) := by decide +kernel
theorem dX5_nearest_93 : decode cX5_nearest 93 = .ok (.goto (-55), 3) := by decide +kernel
theorem dX5_nearest_96 : decode cX5_nearest 96 = .ok (.iconst (-1), 1) := by decide +kernel
theorem dX5_nearest_97 : decode cX5_nearest 97 = .ok (.ireturn, 1) := by decide +kernel
set_option maxRecDepth 20000 in
theorem ggX5_single_X5_facesOf : GoodIn wsX5_single wsX5_facesOf := goodIn_r _ [8, 9, 10, 11, 12, 13, 14, 15, 16, 17, 18, 19, 20, 21, 22, 23, 24, 25, 26, 27, 28, 7, 29, 1, 30, 31, 32, 33, 34, 35, 36, 37, 38, 39, 40, 41, 42, 43, 44, 45, 46, 47, 48, 49, 50, 51, 52, 53, 54, 55, 56, 57, 58, 59, 60, 61, 62, 63, 64, 65, 66, 67, 68, 69, 70, 71, 72, 73, 74, 75, 76, 77, 78, 79, 80, 81, 82, 83, 84, 85, 86, 87, 88, 89, 90, 91, 92, 93, 94, 95, 96, 97, 98, 129, 130, 131, 132, 133, 134, 135, 136, 137, 138, 139, 140, 141, 142, 143] (by decide +kernel) (by decide +kernel)
set_option maxRecDepth 20000 in
theorem gX5_single_X5_facesOf : GoodIn wsX5_single (wsV RX5 97 RX5 yX5_facesOf wsX5_facesOf) := goodIn_app (goodIn_of _ (by decide +kernel)) ggX5_single_X5_facesOf
set_option maxRecDepth 20000 in
theorem ggX5_single_Jx4a65c_size_8abf5 : GoodIn wsX5_single wsJx4a65c_size_8abf5 := goodIn_r _ [17, 18, 141, 142, 143] (by decide +kernel) (by decide +kernel)
set_option maxRecDepth 20000 in
theorem gX5_single_Jx4a65c_size_8abf5 : GoodIn wsX5_single (wsV RX5 28 RJx4a65c yJx4a65c_size_8abf5 wsJx4a65c_size_8abf5) := goodIn_app (goodIn_of _ (by decide +kernel)) ggX5_single_Jx4a65c_size_8abf5
set_option maxRecDepth 20000 in
theorem ggX5_single_X5_isNearest : GoodIn wsX5_single wsX5_isNearest := goodIn_r _ [102, 1, 32, 33, 34, 16, 35, 18, 36, 37, 38, 39, 40, 41, 42, 43, 44, 45, 46, 47, 25, 103, 104, 105, 106, 107, 108, 109, 110, 111, 14, 15, 17, 112, 13, 113, 114, 115, 7, 116, 12, 117, 118, 119, 120, 30, 121, 31, 10, 141, 142, 143, 129, 130, 131, 132, 133, 134, 135, 136, 137, 122, 123, 124, 125, 126, 127, 128, 138, 139, 140] (by decide +kernel) (by decide +kernel)
set_option maxRecDepth 20000 in
theorem gX5_single_X5_isNearest : GoodIn wsX5_single (wsV RX5 130 RX5 yX5_isNearest wsX5_isNearest) := goodIn_app (goodIn_of _ (by decide +kernel)) ggX5_single_X5_isNearest
set_option maxRecDepth 20000 in
theorem ggX5_single_Jx4a65c_get_915e3 : GoodIn wsX5_single wsJx4a65c_get_915e3 := goodIn_r _ [35, 18, 36, 37, 38, 39, 40, 41, 42, 43, 44, 45, 46, 16, 47, 25, 141, 142, 143] (by decide +kernel) (by decide +kernel)
set_option maxRecDepth 20000 in
theorem gX5_single_Jx4a65c_get_915e3 : GoodIn wsX5_single (wsV RX5 32 RJx4a65c yJx4a65c_get_915e3 wsJx4a65c_get_915e3) := goodIn_app (goodIn_of _ (by decide +kernel)) ggX5_single_Jx4a65c_get_915e3
set_option maxRecDepth 20000 in
theorem ggX5_single_X3_named : GoodIn wsX5_single wsX3_named := goodIn_r _ [107, 108, 109, 110, 111, 14, 15, 16, 17, 18, 112, 33, 34, 35, 36, 37, 38, 39, 40, 41, 42, 43, 44, 45, 46, 47, 25, 129, 130, 131, 132, 133, 134, 135, 136, 137, 122, 123, 124, 125, 126, 127, 128, 141, 142, 143] (by decide +kernel) (by decide +kernel)
set_option maxRecDepth 20000 in
theorem gX5_single_X3_named : GoodIn wsX5_single (wsV RX5 58 RX3 yX3_named wsX3_named) := goodIn_app (goodIn_of _ (by decide +kernel)) ggX5_single_X3_named
theorem dX5_single_0 : decode cX5_single 0 = .ok (.aload_n 0, 1) := by decide +kernel
theorem dX5_single_1 : decode cX5_single 1 = .ok (.aload_n 1, 1) := by decide +kernel
theorem dX5_single_2 : decode cX5_single 2 = .ok (.invokevirtual 97, 3) := by decide +kernel
theorem dX5_single_5 : decode cX5_single 5 = .ok (.astore_n 3, 1) := by decide +kernel
theorem dX5_single_6 : decode cX5_single 6 = .ok (.bipush (-25), 2) := by decide +kernel
theorem dX5_single_8 : decode cX5_single 8 = .ok (.istore 4, 2) := by decide +kernel
theorem dX5_single_10 : decode cX5_single 10 = .ok (.iconst 0, 1) := by decide +kernel
theorem dX5_single_11 : decode cX5_single 11 = .ok (.istore 5, 2) := by decide +kernel
theorem dX5_single_13 : decode cX5_single 13 = .ok (.iload 5, 2) := by decide +kernel
theorem dX5_single_15 : decode cX5_single 15 = .ok (.aload_n 3, 1) := by decide +kernel
theorem dX5_single_16 : decode cX5_single 16 = .ok (.invokevirtual 28, 3) := by decide +kernel
theorem dX5_single_19 : decode cX5_single 19 = .ok (.if_icmp .ge 69, 3) := by decide +kernel
theorem dX5_single_22 : decode cX5_single 22 = .ok (.aload_n 0, 1) := by decide +kernel
theorem dX5_single_23 : decode cX5_single 23 = .ok (.aload_n 3, 1) := by decide +kernel
theorem dX5_single_24 : decode cX5_single 24 = .ok (.iload 5, 2) := by decide +kernel
theorem dX5_single_26 : decode cX5_single 26 = .ok (.iload_n 2, 1) := by decide +kernel
theorem dX5_single_27 : decode cX5_single 27 = .ok (.invokevirtual 130, 3) := by decide +kernel
theorem dX5_single_30 : decode cX5_single 30 = .ok (.ifCond .eq 52, 3) := by decide +kernel
theorem dX5_single_33 : decode cX5_single 33 = .ok (.aload_n 3, 1) := by decide +kernel
theorem dX5_single_34 : decode cX5_single 34 = .ok (.iload 5, 2) := by decide +kernel
theorem dX5_single_36 : decode cX5_single 36 = .ok (.invokevirtual 32, 3) := by decide +kernel
theorem dX5_single_39 : decode cX5_single 39 = .ok (.checkcast 19, 3) := by decide +kernel
theorem dX5_single_42 : decode cX5_single 42 = .ok (.iload_n 2, 1) := by decide +kernel
theorem dX5_single_43 : decode cX5_single 43 = .ok (.invokevirtual 58, 3) := by decide +kernel
theorem dX5_single_46 : decode cX5_single 46 = .ok (.getfield 134, 3) := by decide +kernel
theorem dX5_single_49 : decode cX5_single 49 = .ok (.ifCond .ne 33, 3) := by decide +kernel
theorem dX5_single_52 : decode cX5_single 52 = .ok (.iload 4, 2) := by decide +kernel
theorem dX5_single_54 : decode cX5_single 54 = .ok (.bipush (-25), 2) := by decide +kernel
theorem dX5_single_56 : decode cX5_single 56 = .ok (.if_icmp .ne 22, 3) := by decide +kernel
theorem dX5_single_59 : decode cX5_single 59 = .ok (.aload_n 3, 1) := by decide +kernel
theorem dX5_single_60 : decode cX5_single 60 = .ok (.iload 5, 2) := by decide +kernel
theorem dX5_single_62 : decode cX5_single 62 = .ok (.invokevirtual 32, 3) := by decide +kernel
theorem dX5_single_65 : decode cX5_single 65 = .ok (.checkcast 19, 3) := by decide +kernel
theorem dX5_single_68 : decode cX5_single 68 = .ok (.iload_n 2, 1) := by decide +kernel
theorem dX5_single_69 : decode cX5_single 69 = .ok (.invokevirtual 58, 3) := by decide +kernel
theorem dX5_single_72 : decode cX5_single 72 = .ok (.getfield 65, 3) := by decide +kernel
theorem dX5_single_75 : decode cX5_single 75 = .ok (.goto 5, 3) := by decide +kernel
theorem dX5_single_78 : decode cX5_single 78 = .ok (.bipush (-26), 2) := by decide +kernel
theorem dX5_single_80 : decode cX5_single 80 = .ok (.istore 4, 2) := by decide +kernel
theorem dX5_single_82 : decode cX5_single 82 = .ok (.iinc 5 1, 3) := by decide +kernel
theorem dX5_single_85 : decode cX5_single 85 = .ok (.goto (-72), 3) := by decide +kernel
theorem dX5_single_88 : decode cX5_single 88 = .ok (.iload 4, 2) := by decide +kernel
theorem dX5_single_90 : decode cX5_single 90 = .ok (.ireturn, 1) := by decide +kernel
set_option maxRecDepth 20000 in
theorem ggX5_find_X5_at : GoodIn wsX5_find wsX5_at := goodIn_r _ [9, 10, 4, 11, 12, 13, 14, 15, 16, 17, 18, 19, 20, 21, 22, 23, 24, 25, 26, 27, 28, 29, 30, 31, 32, 33, 151, 152, 153, 154, 155, 156] (by decide +kernel) (by decide +kernel)
set_option maxRecDepth 20000 in
theorem gX5_find_X5_at : GoodIn wsX5_find (wsV RX5 38 RX5 yX5_at wsX5_at) := goodIn_app (goodIn_of _ (by decide +kernel)) ggX5_find_X5_at
set_option maxRecDepth 20000 in
theorem ggX5_find_X5_isName : GoodIn wsX5_find wsX5_isName := goodIn_r _ [36] (by decide +kernel) (by decide +kernel)
set_option maxRecDepth 20000 in
theorem gX5_find_X5_isName : GoodIn wsX5_find (va_wsS RX5 54 yX5_isName wsX5_isName) := goodIn_app (goodIn_of _ (by decide +kernel)) ggX5_find_X5_isName
set_option maxRecDepth 20000 in
theorem ggX5_find_X3_named : GoodIn wsX5_find wsX3_named := goodIn_r _ [41, 42, 43, 44, 45, 12, 13, 14, 15, 16, 46, 18, 19, 20, 21, 22, 23, 24, 25, 26, 27, 28, 29, 30, 31, 32, 33, 142, 143, 144, 145, 146, 147, 148, 149, 150, 135, 136, 137, 138, 139, 140, 141, 154, 155, 156] (by decide +kernel) (by decide +kernel)
set_option maxRecDepth 20000 in
theorem gX5_find_X3_named : GoodIn wsX5_find (wsV RX5 58 RX3 yX3_named wsX3_named) := goodIn_app (goodIn_of _ (by decide +kernel)) ggX5_find_X3_named
set_option maxRecDepth 20000 in
theorem ggX5_find_X5_single : GoodIn wsX5_find wsX5_single := goodIn_r _ [50, 4, 51, 1, 52, 53, 54, 8, 55, 56, 57, 58, 59, 11, 12, 13, 14, 15, 16, 60, 61, 62, 63, 64, 65, 33, 66, 67, 68, 69, 70, 3, 17, 18, 19, 20, 21, 22, 23, 24, 25, 26, 27, 28, 29, 30, 31, 32, 71, 72, 73, 74, 75, 76, 77, 78, 79, 80, 81, 82, 83, 84, 85, 86, 87, 88, 89, 90, 91, 92, 93, 94, 95, 96, 97, 98, 99, 100, 101, 102, 103, 104, 105, 106, 107, 108, 109, 110, 111, 112, 113, 114, 115, 116, 117, 118, 119, 120, 121, 122, 123, 124, 125, 37, 38, 39, 40, 41, 42, 43, 44, 45, 46, 126, 127, 128, 129, 130, 131, 132, 133, 134, 135, 136, 137, 138, 139, 140, 141, 142, 143, 144, 145, 146, 147, 148, 149, 150, 151, 152, 153, 154, 155, 156] (by decide +kernel) (by decide +kernel)
set_option maxRecDepth 20000 in
theorem gX5_find_X5_single : GoodIn wsX5_find (wsV RX5 137 RX5 yX5_single wsX5_single) := goodIn_app (goodIn_of _ (by decide +kernel)) ggX5_find_X5_single
set_option maxRecDepth 20000 in
theorem ggX5_find_X5_facesOf : GoodIn wsX5_find wsX5_facesOf := goodIn_r _ [55, 56, 57, 58, 59, 11, 12, 13, 14, 15, 16, 60, 61, 62, 63, 64, 65, 33, 66, 67, 68, 8, 69, 4, 70, 3, 17, 18, 19, 20, 21, 22, 23, 24, 25, 26, 27, 28, 29, 30, 31, 32, 71, 72, 73, 74, 75, 76, 77, 78, 79, 80, 81, 82, 83, 84, 85, 86, 87, 88, 89, 90, 91, 92, 93, 94, 95, 96, 97, 98, 99, 100, 101, 102, 103, 104, 105, 106, 107, 108, 109, 110, 111, 112, 113, 114, 115, 116, 117, 118, 119, 120, 121, 142, 143, 144, 145, 146, 147, 148, 149, 150, 151, 152, 153, 154, 155, 156] (by decide +kernel) (by decide +kernel)
set_option maxRecDepth 20000 in
theorem gX5_find_X5_facesOf : GoodIn wsX5_find (wsV RX5 97 RX5 yX5_facesOf wsX5_facesOf) := goodIn_app (goodIn_of _ (by decide +kernel)) ggX5_find_X5_facesOf
set_option maxRecDepth 20000 in
theorem ggX5_find_Jx4a65c_size_8abf5 : GoodIn wsX5_find wsJx4a65c_size_8abf5 := goodIn_r _ [15, 16, 154, 155, 156] (by decide +kernel) (by decide +kernel)
set_option maxRecDepth 20000 in
theorem gX5_find_Jx4a65c_size_8abf5 : GoodIn wsX5_find (wsV RX5 28 RJx4a65c yJx4a65c_size_8abf5 wsJx4a65c_size_8abf5) := goodIn_app (goodIn_of _ (by decide +kernel)) ggX5_find_Jx4a65c_size_8abf5
set_option maxRecDepth 20000 in
theorem ggX5_find_Jx4a65c_get_915e3 : GoodIn wsX5_find wsJx4a65c_get_915e3 := goodIn_r _ [20, 16, 21, 22, 23, 24, 25, 26, 27, 28, 29, 30, 31, 14, 32, 33, 154, 155, 156] (by decide +kernel) (by decide +kernel)
set_option maxRecDepth 20000 in
theorem gX5_find_Jx4a65c_get_915e3 : GoodIn wsX5_find (wsV RX5 32 RJx4a65c yJx4a65c_get_915e3 wsJx4a65c_get_915e3) := goodIn_app (goodIn_of _ (by decide +kernel)) ggX5_find_Jx4a65c_get_915e3
theorem dX5_find_0 : decode cX5_find 0 = .ok (.aload_n 0, 1) := by decide +kernel
theorem dX5_find_1 : decode cX5_find 1 = .ok (.iload_n 1, 1) := by decide +kernel
theorem dX5_find_2 : decode cX5_find 2 = .ok (.invokevirtual 38, 3) := by decide +kernel
theorem dX5_find_5 : decode cX5_find 5 = .ok (.ifnull 10, 3) := by decide +kernel
theorem dX5_find_8 : decode cX5_find 8 = .ok (.iload_n 2, 1) := by decide +kernel
theorem dX5_find_9 : decode cX5_find 9 = .ok (.invokestatic 54, 3) := by decide +kernel
theorem dX5_find_12 : decode cX5_find 12 = .ok (.ifCond .ne 6, 3) := by decide +kernel
theorem dX5_find_15 : decode cX5_find 15 = .ok (.bipush (-14), 2) := by decide +kernel
theorem dX5_find_17 : decode cX5_find 17 = .ok (.ireturn, 1) := by decide +kernel
theorem dX5_find_18 : decode cX5_find 18 = .ok (.aload_n 0, 1) := by decide +kernel
theorem dX5_find_19 : decode cX5_find 19 = .ok (.iload_n 1, 1) := by decide +kernel
theorem dX5_find_20 : decode cX5_find 20 = .ok (.invokevirtual 38, 3) := by decide +kernel
theorem dX5_find_23 : decode cX5_find 23 = .ok (.astore_n 3, 1) := by decide +kernel
theorem dX5_find_24 : decode cX5_find 24 = .ok (.aload_n 3, 1) := by decide +kernel
theorem dX5_find_25 : decode cX5_find 25 = .ok (.astore 4, 2) := by decide +kernel
theorem dX5_find_27 : decode cX5_find 27 = .ok (.aload 4, 2) := by decide +kernel
theorem dX5_find_29 : decode cX5_find 29 = .ok (.ifnull 43, 3) := by decide +kernel
theorem dX5_find_32 : decode cX5_find 32 = .ok (.aload 4, 2) := by decide +kernel
theorem dX5_find_34 : decode cX5_find 34 = .ok (.iload_n 2, 1) := by decide +kernel
theorem dX5_find_35 : decode cX5_find 35 = .ok (.invokevirtual 58, 3) := by decide +kernel
theorem dX5_find_38 : decode cX5_find 38 = .ok (.ifnull 13, 3) := by decide +kernel
theorem dX5_find_41 : decode cX5_find 41 = .ok (.aload 4, 2) := by decide +kernel
theorem dX5_find_43 : decode cX5_find 43 = .ok (.iload_n 2, 1) := by decide +kernel
theorem dX5_find_44 : decode cX5_find 44 = .ok (.invokevirtual 58, 3) := by decide +kernel
theorem dX5_find_47 : decode cX5_find 47 = .ok (.getfield 65, 3) := by decide +kernel
theorem dX5_find_50 : decode cX5_find 50 = .ok (.ireturn, 1) := by decide +kernel
theorem dX5_find_51 : decode cX5_find 51 = .ok (.aload_n 3, 1) := by decide +kernel
theorem dX5_find_52 : decode cX5_find 52 = .ok (.getfield 42, 3) := by decide +kernel
theorem dX5_find_55 : decode cX5_find 55 = .ok (.ifCond .eq 7, 3) := by decide +kernel
theorem dX5_find_58 : decode cX5_find 58 = .ok (.aconst_null, 1) := by decide +kernel
theorem dX5_find_59 : decode cX5_find 59 = .ok (.goto 8, 3) := by decide +kernel
theorem dX5_find_62 : decode cX5_find 62 = .ok (.aload 4, 2) := by decide +kernel
theorem dX5_find_64 : decode cX5_find 64 = .ok (.getfield 77, 3) := by decide +kernel
theorem dX5_find_67 : decode cX5_find 67 = .ok (.astore 4, 2) := by decide +kernel
theorem dX5_find_69 : decode cX5_find 69 = .ok (.goto (-42), 3) := by decide +kernel
theorem dX5_find_72 : decode cX5_find 72 = .ok (.aload_n 0, 1) := by decide +kernel
theorem dX5_find_73 : decode cX5_find 73 = .ok (.aload_n 3, 1) := by decide +kernel
theorem dX5_find_74 : decode cX5_find 74 = .ok (.iload_n 2, 1) := by decide +kernel
theorem dX5_find_75 : decode cX5_find 75 = .ok (.invokevirtual 137, 3) := by decide +kernel
theorem dX5_find_78 : decode cX5_find 78 = .ok (.istore 4, 2) := by decide +kernel
theorem dX5_find_80 : decode cX5_find 80 = .ok (.iload 4, 2) := by decide +kernel
theorem dX5_find_82 : decode cX5_find 82 = .ok (.ifCond .lt 6, 3) := by decide +kernel
theorem dX5_find_85 : decode cX5_find 85 = .ok (.iload 4, 2) := by decide +kernel
theorem dX5_find_87 : decode cX5_find 87 = .ok (.ireturn, 1) := by decide +kernel
theorem dX5_find_88 : decode cX5_find 88 = .ok (.aload_n 0, 1) := by decide +kernel
theorem dX5_find_89 : decode cX5_find 89 = .ok (.aload_n 3, 1) := by decide +kernel
theorem dX5_find_90 : decode cX5_find 90 = .ok (.invokevirtual 97, 3) := by decide +kernel
theorem dX5_find_93 : decode cX5_find 93 = .ok (.astore 5, 2) := by decide +kernel
theorem dX5_find_95 : decode cX5_find 95 = .ok (.iconst 0, 1) := by decide +kernel
theorem dX5_find_96 : decode cX5_find 96 = .ok (.istore 6, 2) := by decide +kernel
theorem dX5_find_98 : decode cX5_find 98 = .ok (.iload 6, 2) := by decide +kernel
theorem dX5_find_100 : decode cX5_find 100 = .ok (.aload 5, 2) := by decide +kernel
theorem dX5_find_102 : decode cX5_find 102 = .ok (.invokevirtual 28, 3) := by decide +kernel
theorem dX5_find_105 : decode cX5_find 105 = .ok (.if_icmp .ge 44, 3) := by decide +kernel
theorem dX5_find_108 : decode cX5_find 108 = .ok (.aload 5, 2) := by decide +kernel
theorem dX5_find_110 : decode cX5_find 110 = .ok (.iload 6, 2) := by decide +kernel
theorem dX5_find_112 : decode cX5_find 112 = .ok (.invokevirtual 32, 3) := by decide +kernel
theorem dX5_find_115 : decode cX5_find 115 = .ok (.checkcast 19, 3) := by decide +kernel
theorem dX5_find_118 : decode cX5_find 118 = .ok (.iload_n 2, 1) := by decide +kernel
theorem dX5_find_119 : decode cX5_find 119 = .ok (.invokevirtual 58, 3) := by decide +kernel
theorem dX5_find_122 : decode cX5_find 122 = .ok (.ifnull 21, 3) := by decide +kernel
theorem dX5_find_125 : decode cX5_find 125 = .ok (.aload 5, 2) := by decide +kernel
theorem dX5_find_127 : decode cX5_find 127 = .ok (.iload 6, 2) := by decide +kernel
theorem dX5_find_129 : decode cX5_find 129 = .ok (.invokevirtual 32, 3) := by decide +kernel
theorem dX5_find_132 : decode cX5_find 132 = .ok (.checkcast 19, 3) := by decide +kernel
theorem dX5_find_135 : decode cX5_find 135 = .ok (.iload_n 2, 1) := by decide +kernel
theorem dX5_find_136 : decode cX5_find 136 = .ok (.invokevirtual 58, 3) := by decide +kernel
theorem dX5_find_139 : decode cX5_find 139 = .ok (.getfield 65, 3) := by decide +kernel
theorem dX5_find_142 : decode cX5_find 142 = .ok (.ireturn, 1) := by decide +kernel
theorem dX5_find_143 : decode cX5_find 143 = .ok (.iinc 6 1, 3) := by decide +kernel
theorem dX5_find_146 : decode cX5_find 146 = .ok (.goto (-48), 3) := by decide +kernel
theorem dX5_find_149 : decode cX5_find 149 = .ok (.iconst (-1), 1) := by decide +kernel
theorem dX5_find_150 : decode cX5_find 150 = .ok (.ireturn, 1) := by decide +kernel
set_option maxRecDepth 20000 in
theorem ggX5_choose_X5_at : GoodIn wsX5_choose wsX5_at := goodIn_r _ [13, 14, 15, 16, 17, 18, 19, 20, 21, 22, 23, 24, 25, 26, 27, 28, 29, 30, 31, 32, 33, 34, 35, 36, 37, 38, 165, 166, 167, 168, 169, 170] (by decide +kernel) (by decide +kernel)
set_option maxRecDepth 20000 in
theorem gX5_choose_X5_at : GoodIn wsX5_choose (wsV RX5 38 RX5 yX5_at wsX5_at) := goodIn_app (goodIn_of _ (by decide +kernel)) ggX5_choose_X5_at
set_option maxRecDepth 20000 in
theorem ggX5_choose_X5_met : GoodIn wsX5_choose wsX5_met := goodIn_r _ [42, 43, 44, 16, 17, 18, 19, 20, 21, 22, 23, 24, 25, 26, 27, 28, 29, 30, 31, 32, 33, 34, 35, 36, 37, 38, 165, 166, 167, 168, 169, 170] (by decide +kernel) (by decide +kernel)
set_option maxRecDepth 20000 in
theorem gX5_choose_X5_met : GoodIn wsX5_choose (wsV RX5 120 RX5 yX5_met wsX5_met) := goodIn_app (goodIn_of _ (by decide +kernel)) ggX5_choose_X5_met
set_option maxRecDepth 20000 in
theorem ggX5_choose_X5_lies : GoodIn wsX5_choose wsX5_lies := goodIn_r _ [48, 49, 50, 51, 52, 12, 53, 54, 55, 8, 56, 15, 16, 17, 18, 19, 20, 21, 22, 23, 24, 25, 26, 27, 28, 29, 30, 31, 32, 33, 34, 35, 36, 37, 38, 165, 166, 167, 149, 150, 151, 152, 153, 154, 155, 156, 157, 168, 169, 170] (by decide +kernel) (by decide +kernel)
set_option maxRecDepth 20000 in
theorem gX5_choose_X5_lies : GoodIn wsX5_choose (wsV RX5 81 RX5 yX5_lies wsX5_lies) := goodIn_app (goodIn_of _ (by decide +kernel)) ggX5_choose_X5_lies
set_option maxRecDepth 20000 in
theorem ggX5_choose_X3_named : GoodIn wsX5_choose wsX3_named := goodIn_r _ [61, 62, 63, 64, 65, 17, 18, 19, 20, 21, 66, 23, 24, 25, 26, 27, 28, 29, 30, 31, 32, 33, 34, 35, 36, 37, 38, 149, 150, 151, 152, 153, 154, 155, 156, 157, 158, 159, 160, 161, 162, 163, 164, 168, 169, 170] (by decide +kernel) (by decide +kernel)
set_option maxRecDepth 20000 in
theorem gX5_choose_X3_named : GoodIn wsX5_choose (wsV RX5 58 RX3 yX3_named wsX3_named) := goodIn_app (goodIn_of _ (by decide +kernel)) ggX5_choose_X3_named
set_option maxRecDepth 20000 in
theorem ggX5_choose_X5_goesOver : GoodIn wsX5_choose wsX5_goesOver := goodIn_r _ [69, 3, 5, 4, 70, 8, 71, 72, 12, 73, 2, 57, 58, 59, 60, 61, 62, 63, 64, 65, 17, 18, 19, 20, 21, 66, 23, 24, 25, 26, 27, 28, 29, 30, 31, 32, 33, 34, 35, 36, 37, 38, 158, 159, 160, 161, 162, 163, 164, 149, 150, 151, 152, 153, 154, 155, 156, 157, 168, 169, 170] (by decide +kernel) (by decide +kernel)
set_option maxRecDepth 20000 in
theorem gX5_choose_X5_goesOver : GoodIn wsX5_choose (va_wsS RX5 123 yX5_goesOver wsX5_goesOver) := goodIn_app (goodIn_of _ (by decide +kernel)) ggX5_choose_X5_goesOver
set_option maxRecDepth 20000 in
theorem ggX5_choose_X5_single : GoodIn wsX5_choose wsX5_single := goodIn_r _ [77, 15, 6, 7, 78, 79, 80, 12, 81, 82, 56, 83, 49, 16, 17, 18, 19, 20, 21, 84, 85, 86, 87, 88, 89, 38, 90, 91, 92, 93, 54, 8, 22, 23, 24, 25, 26, 27, 28, 29, 30, 31, 32, 33, 34, 35, 36, 37, 94, 95, 96, 97, 98, 99, 100, 101, 102, 103, 104, 105, 106, 107, 108, 109, 110, 111, 112, 113, 114, 115, 116, 117, 118, 119, 120, 121, 122, 123, 124, 125, 126, 127, 128, 129, 130, 131, 132, 133, 134, 135, 136, 137, 138, 139, 140, 141, 142, 143, 144, 145, 146, 147, 148, 57, 58, 59, 60, 61, 62, 63, 64, 65, 66, 45, 46, 47, 48, 50, 51, 52, 53, 55, 158, 159, 160, 161, 162, 163, 164, 149, 150, 151, 152, 153, 154, 155, 156, 157, 165, 166, 167, 168, 169, 170] (by decide +kernel) (by decide +kernel)
set_option maxRecDepth 20000 in
theorem gX5_choose_X5_single : GoodIn wsX5_choose (wsV RX5 137 RX5 yX5_single wsX5_single) := goodIn_app (goodIn_of _ (by decide +kernel)) ggX5_choose_X5_single
theorem dX5_choose_0 : decode cX5_choose 0 = .ok (.aload_n 0, 1) := by decide +kernel
theorem dX5_choose_1 : decode cX5_choose 1 = .ok (.iload_n 1, 1) := by decide +kernel
theorem dX5_choose_2 : decode cX5_choose 2 = .ok (.invokevirtual 38, 3) := by decide +kernel
theorem dX5_choose_5 : decode cX5_choose 5 = .ok (.astore_n 3, 1) := by decide +kernel
theorem dX5_choose_6 : decode cX5_choose 6 = .ok (.aload_n 0, 1) := by decide +kernel
theorem dX5_choose_7 : decode cX5_choose 7 = .ok (.iload_n 2, 1) := by decide +kernel
theorem dX5_choose_8 : decode cX5_choose 8 = .ok (.invokevirtual 120, 3) := by decide +kernel
theorem dX5_choose_11 : decode cX5_choose 11 = .ok (.astore 4, 2) := by decide +kernel
theorem dX5_choose_13 : decode cX5_choose 13 = .ok (.aload_n 3, 1) := by decide +kernel
theorem dX5_choose_14 : decode cX5_choose 14 = .ok (.ifnull 36, 3) := by decide +kernel
theorem dX5_choose_17 : decode cX5_choose 17 = .ok (.aload_n 3, 1) := by decide +kernel
theorem dX5_choose_18 : decode cX5_choose 18 = .ok (.getfield 42, 3) := by decide +kernel
theorem dX5_choose_21 : decode cX5_choose 21 = .ok (.ifCond .ne 29, 3) := by decide +kernel
theorem dX5_choose_24 : decode cX5_choose 24 = .ok (.aload 4, 2) := by decide +kernel
theorem dX5_choose_26 : decode cX5_choose 26 = .ok (.ifnull 24, 3) := by decide +kernel
theorem dX5_choose_29 : decode cX5_choose 29 = .ok (.aload 4, 2) := by decide +kernel
theorem dX5_choose_31 : decode cX5_choose 31 = .ok (.getfield 101, 3) := by decide +kernel
theorem dX5_choose_34 : decode cX5_choose 34 = .ok (.ifCond .ne 16, 3) := by decide +kernel
theorem dX5_choose_37 : decode cX5_choose 37 = .ok (.aload_n 0, 1) := by decide +kernel
theorem dX5_choose_38 : decode cX5_choose 38 = .ok (.aload_n 3, 1) := by decide +kernel
theorem dX5_choose_39 : decode cX5_choose 39 = .ok (.aload 4, 2) := by decide +kernel
theorem dX5_choose_41 : decode cX5_choose 41 = .ok (.getfield 107, 3) := by decide +kernel
theorem dX5_choose_44 : decode cX5_choose 44 = .ok (.invokevirtual 81, 3) := by decide +kernel
theorem dX5_choose_47 : decode cX5_choose 47 = .ok (.ifCond .ne 6, 3) := by decide +kernel
theorem dX5_choose_50 : decode cX5_choose 50 = .ok (.bipush (-14), 2) := by decide +kernel
theorem dX5_choose_52 : decode cX5_choose 52 = .ok (.ireturn, 1) := by decide +kernel
theorem dX5_choose_53 : decode cX5_choose 53 = .ok (.aload 4, 2) := by decide +kernel
theorem dX5_choose_55 : decode cX5_choose 55 = .ok (.getfield 104, 3) := by decide +kernel
theorem dX5_choose_58 : decode cX5_choose 58 = .ok (.iconst 3, 1) := by decide +kernel
theorem dX5_choose_59 : decode cX5_choose 59 = .ok (.if_icmp .ne 5, 3) := by decide +kernel
theorem dX5_choose_62 : decode cX5_choose 62 = .ok (.iload_n 2, 1) := by decide +kernel
theorem dX5_choose_63 : decode cX5_choose 63 = .ok (.ireturn, 1) := by decide +kernel
theorem dX5_choose_64 : decode cX5_choose 64 = .ok (.aload_n 3, 1) := by decide +kernel
theorem dX5_choose_65 : decode cX5_choose 65 = .ok (.astore 5, 2) := by decide +kernel
theorem dX5_choose_67 : decode cX5_choose 67 = .ok (.aload 5, 2) := by decide +kernel
theorem dX5_choose_69 : decode cX5_choose 69 = .ok (.ifnull 66, 3) := by decide +kernel
theorem dX5_choose_72 : decode cX5_choose 72 = .ok (.aload 5, 2) := by decide +kernel
theorem dX5_choose_74 : decode cX5_choose 74 = .ok (.aload 4, 2) := by decide +kernel
theorem dX5_choose_76 : decode cX5_choose 76 = .ok (.getfield 110, 3) := by decide +kernel
theorem dX5_choose_79 : decode cX5_choose 79 = .ok (.invokevirtual 58, 3) := by decide +kernel
theorem dX5_choose_82 : decode cX5_choose 82 = .ok (.astore 6, 2) := by decide +kernel
theorem dX5_choose_84 : decode cX5_choose 84 = .ok (.aload 6, 2) := by decide +kernel
theorem dX5_choose_86 : decode cX5_choose 86 = .ok (.ifnull 39, 3) := by decide +kernel
theorem dX5_choose_89 : decode cX5_choose 89 = .ok (.aload 6, 2) := by decide +kernel
theorem dX5_choose_91 : decode cX5_choose 91 = .ok (.aload 4, 2) := by decide +kernel
theorem dX5_choose_93 : decode cX5_choose 93 = .ok (.if_acmp .eq 13, 3) := by decide +kernel
theorem dX5_choose_96 : decode cX5_choose 96 = .ok (.aload 6, 2) := by decide +kernel
theorem dX5_choose_98 : decode cX5_choose 98 = .ok (.aload 4, 2) := by decide +kernel
theorem dX5_choose_100 : decode cX5_choose 100 = .ok (.invokestatic 123, 3) := by decide +kernel
theorem dX5_choose_103 : decode cX5_choose 103 = .ok (.ifCond .eq 22, 3) := by decide +kernel
theorem dX5_choose_106 : decode cX5_choose 106 = .ok (.aload 6, 2) := by decide +kernel
theorem dX5_choose_108 : decode cX5_choose 108 = .ok (.getfield 134, 3) := by decide +kernel
theorem dX5_choose_111 : decode cX5_choose 111 = .ok (.ifCond .eq 8, 3) := by decide +kernel
theorem dX5_choose_114 : decode cX5_choose 114 = .ok (.bipush (-25), 2) := by decide +kernel
theorem dX5_choose_116 : decode cX5_choose 116 = .ok (.goto 8, 3) := by decide +kernel
theorem dX5_choose_119 : decode cX5_choose 119 = .ok (.aload 6, 2) := by decide +kernel
theorem dX5_choose_121 : decode cX5_choose 121 = .ok (.getfield 65, 3) := by decide +kernel
theorem dX5_choose_124 : decode cX5_choose 124 = .ok (.ireturn, 1) := by decide +kernel
theorem dX5_choose_125 : decode cX5_choose 125 = .ok (.aload 5, 2) := by decide +kernel
theorem dX5_choose_127 : decode cX5_choose 127 = .ok (.getfield 77, 3) := by decide +kernel
theorem dX5_choose_130 : decode cX5_choose 130 = .ok (.astore 5, 2) := by decide +kernel
theorem dX5_choose_132 : decode cX5_choose 132 = .ok (.goto (-65), 3) := by decide +kernel
theorem dX5_choose_135 : decode cX5_choose 135 = .ok (.aload_n 0, 1) := by decide +kernel
theorem dX5_choose_136 : decode cX5_choose 136 = .ok (.aload_n 3, 1) := by decide +kernel
theorem dX5_choose_137 : decode cX5_choose 137 = .ok (.aload 4, 2) := by decide +kernel
theorem dX5_choose_139 : decode cX5_choose 139 = .ok (.getfield 110, 3) := by decide +kernel
theorem dX5_choose_142 : decode cX5_choose 142 = .ok (.invokevirtual 137, 3) := by decide +kernel
theorem dX5_choose_145 : decode cX5_choose 145 = .ok (.ireturn, 1) := by decide +kernel
set_option maxRecDepth 20000 in
theorem ggX5_special_X5_at : GoodIn wsX5_special wsX5_at := goodIn_r _ [11, 12, 13, 14, 15, 16, 17, 18, 19, 20, 21, 22, 23, 24, 25, 26, 27, 28, 29, 30, 31, 32, 33, 34, 35, 36, 163, 164, 165, 166, 167, 168] (by decide +kernel) (by decide +kernel)
set_option maxRecDepth 20000 in
theorem gX5_special_X5_at : GoodIn wsX5_special (wsV RX5 38 RX5 yX5_at wsX5_at) := goodIn_app (goodIn_of _ (by decide +kernel)) ggX5_special_X5_at
set_option maxRecDepth 20000 in
theorem ggX5_special_X5_isName : GoodIn wsX5_special wsX5_isName := goodIn_r _ [39] (by decide +kernel) (by decide +kernel)
set_option maxRecDepth 20000 in
theorem gX5_special_X5_isName : GoodIn wsX5_special (va_wsS RX5 54 yX5_isName wsX5_isName) := goodIn_app (goodIn_of _ (by decide +kernel)) ggX5_special_X5_isName
set_option maxRecDepth 20000 in
theorem ggX5_special_X5_find : GoodIn wsX5_special wsX5_find := goodIn_r _ [43, 6, 1, 4, 13, 7, 8, 9, 10, 11, 12, 14, 15, 16, 17, 18, 19, 20, 21, 22, 23, 24, 25, 26, 27, 28, 29, 30, 31, 32, 33, 34, 35, 36, 37, 38, 39, 44, 45, 46, 47, 48, 49, 50, 51, 52, 53, 54, 55, 56, 57, 5, 58, 59, 60, 61, 62, 63, 64, 65, 66, 67, 68, 69, 70, 71, 72, 73, 74, 75, 76, 77, 78, 79, 80, 81, 82, 83, 84, 85, 86, 87, 88, 89, 90, 91, 92, 93, 94, 95, 96, 97, 98, 99, 100, 101, 102, 103, 104, 105, 106, 107, 108, 109, 110, 111, 112, 113, 114, 115, 116, 117, 118, 119, 120, 121, 122, 123, 124, 125, 126, 127, 128, 129, 130, 131, 132, 133, 134, 135, 136, 137, 138, 139, 140, 156, 157, 158, 159, 160, 161, 162, 147, 148, 149, 150, 151, 152, 153, 154, 155, 163, 164, 165, 166, 167, 168] (by decide +kernel) (by decide +kernel)
set_option maxRecDepth 20000 in
theorem gX5_special_X5_find : GoodIn wsX5_special (wsV RX5 141 RX5 yX5_find wsX5_find) := goodIn_app (goodIn_of _ (by decide +kernel)) ggX5_special_X5_find
set_option maxRecDepth 20000 in
theorem ggX5_special_X5_met : GoodIn wsX5_special wsX5_met := goodIn_r _ [144, 145, 146, 14, 15, 16, 17, 18, 19, 20, 21, 22, 23, 24, 25, 26, 27, 28, 29, 30, 31, 32, 33, 34, 35, 36, 163, 164, 165, 166, 167, 168] (by decide +kernel) (by decide +kernel)
set_option maxRecDepth 20000 in
theorem gX5_special_X5_met : GoodIn wsX5_special (wsV RX5 120 RX5 yX5_met wsX5_met) := goodIn_app (goodIn_of _ (by decide +kernel)) ggX5_special_X5_met
set_option maxRecDepth 20000 in
theorem ggX5_special_X5_lies : GoodIn wsX5_special wsX5_lies := goodIn_r _ [135, 65, 136, 137, 138, 10, 139, 76, 140, 4, 63, 13, 14, 15, 16, 17, 18, 19, 20, 21, 22, 23, 24, 25, 26, 27, 28, 29, 30, 31, 32, 33, 34, 35, 36, 163, 164, 165, 147, 148, 149, 150, 151, 152, 153, 154, 155, 166, 167, 168] (by decide +kernel) (by decide +kernel)
set_option maxRecDepth 20000 in
theorem gX5_special_X5_lies : GoodIn wsX5_special (wsV RX5 81 RX5 yX5_lies wsX5_lies) := goodIn_app (goodIn_of _ (by decide +kernel)) ggX5_special_X5_lies
set_option maxRecDepth 20000 in
theorem ggX5_special_X3_named : GoodIn wsX5_special wsX3_named := goodIn_r _ [48, 49, 50, 51, 52, 15, 16, 17, 18, 19, 53, 21, 22, 23, 24, 25, 26, 27, 28, 29, 30, 31, 32, 33, 34, 35, 36, 147, 148, 149, 150, 151, 152, 153, 154, 155, 156, 157, 158, 159, 160, 161, 162, 166, 167, 168] (by decide +kernel) (by decide +kernel)
set_option maxRecDepth 20000 in
theorem gX5_special_X3_named : GoodIn wsX5_special (wsV RX5 58 RX3 yX3_named wsX3_named) := goodIn_app (goodIn_of _ (by decide +kernel)) ggX5_special_X3_named
set_option maxRecDepth 20000 in
theorem ggX5_special_X5_single : GoodIn wsX5_special wsX5_single := goodIn_r _ [57, 13, 5, 6, 58, 59, 60, 10, 61, 62, 63, 64, 65, 14, 15, 16, 17, 18, 19, 66, 67, 68, 69, 70, 71, 36, 72, 73, 74, 75, 76, 4, 20, 21, 22, 23, 24, 25, 26, 27, 28, 29, 30, 31, 32, 33, 34, 35, 77, 78, 79, 80, 81, 82, 83, 84, 85, 86, 87, 88, 89, 90, 91, 92, 93, 94, 95, 96, 97, 98, 99, 100, 101, 102, 103, 104, 105, 106, 107, 108, 109, 110, 111, 112, 113, 114, 115, 116, 117, 118, 119, 120, 121, 122, 123, 124, 125, 126, 127, 128, 129, 130, 131, 44, 45, 46, 47, 48, 49, 50, 51, 52, 53, 132, 133, 134, 135, 136, 137, 138, 139, 140, 156, 157, 158, 159, 160, 161, 162, 147, 148, 149, 150, 151, 152, 153, 154, 155, 163, 164, 165, 166, 167, 168] (by decide +kernel) (by decide +kernel)
set_option maxRecDepth 20000 in
theorem gX5_special_X5_single : GoodIn wsX5_special (wsV RX5 137 RX5 yX5_single wsX5_single) := goodIn_app (goodIn_of _ (by decide +kernel)) ggX5_special_X5_single
theorem dX5_special_0 : decode cX5_special 0 = .ok (.aload_n 0, 1) := by decide +kernel
theorem dX5_special_1 : decode cX5_special 1 = .ok (.iload_n 1, 1) := by decide +kernel
theorem dX5_special_2 : decode cX5_special 2 = .ok (.invokevirtual 38, 3) := by decide +kernel
theorem dX5_special_5 : decode cX5_special 5 = .ok (.astore 4, 2) := by decide +kernel
theorem dX5_special_7 : decode cX5_special 7 = .ok (.aload_n 0, 1) := by decide +kernel
theorem dX5_special_8 : decode cX5_special 8 = .ok (.iload_n 2, 1) := by decide +kernel
theorem dX5_special_9 : decode cX5_special 9 = .ok (.invokevirtual 38, 3) := by decide +kernel
theorem dX5_special_12 : decode cX5_special 12 = .ok (.astore 5, 2) := by decide +kernel
theorem dX5_special_14 : decode cX5_special 14 = .ok (.aload 4, 2) := by decide +kernel
theorem dX5_special_16 : decode cX5_special 16 = .ok (.ifnull 31, 3) := by decide +kernel
theorem dX5_special_19 : decode cX5_special 19 = .ok (.aload 5, 2) := by decide +kernel
theorem dX5_special_21 : decode cX5_special 21 = .ok (.ifnull 26, 3) := by decide +kernel
theorem dX5_special_24 : decode cX5_special 24 = .ok (.aload 4, 2) := by decide +kernel
theorem dX5_special_26 : decode cX5_special 26 = .ok (.getfield 42, 3) := by decide +kernel
theorem dX5_special_29 : decode cX5_special 29 = .ok (.ifCond .ne 18, 3) := by decide +kernel
theorem dX5_special_32 : decode cX5_special 32 = .ok (.aload 5, 2) := by decide +kernel
theorem dX5_special_34 : decode cX5_special 34 = .ok (.getfield 42, 3) := by decide +kernel
theorem dX5_special_37 : decode cX5_special 37 = .ok (.ifCond .ne 10, 3) := by decide +kernel
theorem dX5_special_40 : decode cX5_special 40 = .ok (.iload_n 3, 1) := by decide +kernel
theorem dX5_special_41 : decode cX5_special 41 = .ok (.invokestatic 54, 3) := by decide +kernel
theorem dX5_special_44 : decode cX5_special 44 = .ok (.ifCond .ne 6, 3) := by decide +kernel
theorem dX5_special_47 : decode cX5_special 47 = .ok (.bipush (-14), 2) := by decide +kernel
theorem dX5_special_49 : decode cX5_special 49 = .ok (.ireturn, 1) := by decide +kernel
theorem dX5_special_50 : decode cX5_special 50 = .ok (.aload_n 0, 1) := by decide +kernel
theorem dX5_special_51 : decode cX5_special 51 = .ok (.iload_n 2, 1) := by decide +kernel
theorem dX5_special_52 : decode cX5_special 52 = .ok (.iload_n 3, 1) := by decide +kernel
theorem dX5_special_53 : decode cX5_special 53 = .ok (.invokevirtual 141, 3) := by decide +kernel
theorem dX5_special_56 : decode cX5_special 56 = .ok (.istore 6, 2) := by decide +kernel
theorem dX5_special_58 : decode cX5_special 58 = .ok (.iload 6, 2) := by decide +kernel
theorem dX5_special_60 : decode cX5_special 60 = .ok (.ifCond .ge 6, 3) := by decide +kernel
theorem dX5_special_63 : decode cX5_special 63 = .ok (.bipush (-12), 2) := by decide +kernel
theorem dX5_special_65 : decode cX5_special 65 = .ok (.ireturn, 1) := by decide +kernel
theorem dX5_special_66 : decode cX5_special 66 = .ok (.aload_n 0, 1) := by decide +kernel
theorem dX5_special_67 : decode cX5_special 67 = .ok (.iload 6, 2) := by decide +kernel
theorem dX5_special_69 : decode cX5_special 69 = .ok (.invokevirtual 120, 3) := by decide +kernel
theorem dX5_special_72 : decode cX5_special 72 = .ok (.getfield 101, 3) := by decide +kernel
theorem dX5_special_75 : decode cX5_special 75 = .ok (.ifCond .eq 6, 3) := by decide +kernel
theorem dX5_special_78 : decode cX5_special 78 = .ok (.bipush (-21), 2) := by decide +kernel
theorem dX5_special_80 : decode cX5_special 80 = .ok (.ireturn, 1) := by decide +kernel
theorem dX5_special_81 : decode cX5_special 81 = .ok (.aload_n 0, 1) := by decide +kernel
theorem dX5_special_82 : decode cX5_special 82 = .ok (.iload 6, 2) := by decide +kernel
theorem dX5_special_84 : decode cX5_special 84 = .ok (.invokevirtual 120, 3) := by decide +kernel
theorem dX5_special_87 : decode cX5_special 87 = .ok (.getfield 104, 3) := by decide +kernel
theorem dX5_special_90 : decode cX5_special 90 = .ok (.iconst 3, 1) := by decide +kernel
theorem dX5_special_91 : decode cX5_special 91 = .ok (.if_icmp .eq 21, 3) := by decide +kernel
theorem dX5_special_94 : decode cX5_special 94 = .ok (.aload 4, 2) := by decide +kernel
theorem dX5_special_96 : decode cX5_special 96 = .ok (.aload 5, 2) := by decide +kernel
theorem dX5_special_98 : decode cX5_special 98 = .ok (.if_acmp .eq 14, 3) := by decide +kernel
theorem dX5_special_101 : decode cX5_special 101 = .ok (.aload_n 0, 1) := by decide +kernel
theorem dX5_special_102 : decode cX5_special 102 = .ok (.aload 4, 2) := by decide +kernel
theorem dX5_special_104 : decode cX5_special 104 = .ok (.aload 5, 2) := by decide +kernel
theorem dX5_special_106 : decode cX5_special 106 = .ok (.invokevirtual 81, 3) := by decide +kernel
theorem dX5_special_109 : decode cX5_special 109 = .ok (.ifCond .ne 8, 3) := by decide +kernel
theorem dX5_special_112 : decode cX5_special 112 = .ok (.aload 5, 2) := by decide +kernel
theorem dX5_special_114 : decode cX5_special 114 = .ok (.goto 8, 3) := by decide +kernel
theorem dX5_special_117 : decode cX5_special 117 = .ok (.aload 4, 2) := by decide +kernel
theorem dX5_special_119 : decode cX5_special 119 = .ok (.getfield 77, 3) := by decide +kernel
theorem dX5_special_122 : decode cX5_special 122 = .ok (.astore 7, 2) := by decide +kernel
theorem dX5_special_124 : decode cX5_special 124 = .ok (.aload 7, 2) := by decide +kernel
theorem dX5_special_126 : decode cX5_special 126 = .ok (.astore 8, 2) := by decide +kernel
theorem dX5_special_128 : decode cX5_special 128 = .ok (.aload 8, 2) := by decide +kernel
theorem dX5_special_130 : decode cX5_special 130 = .ok (.ifnull 53, 3) := by decide +kernel
theorem dX5_special_133 : decode cX5_special 133 = .ok (.aload 8, 2) := by decide +kernel
theorem dX5_special_135 : decode cX5_special 135 = .ok (.iload_n 3, 1) := by decide +kernel
theorem dX5_special_136 : decode cX5_special 136 = .ok (.invokevirtual 58, 3) := by decide +kernel
theorem dX5_special_139 : decode cX5_special 139 = .ok (.astore 9, 2) := by decide +kernel
theorem dX5_special_141 : decode cX5_special 141 = .ok (.aload 9, 2) := by decide +kernel
theorem dX5_special_143 : decode cX5_special 143 = .ok (.ifnull 30, 3) := by decide +kernel
theorem dX5_special_146 : decode cX5_special 146 = .ok (.aload 9, 2) := by decide +kernel
theorem dX5_special_148 : decode cX5_special 148 = .ok (.getfield 101, 3) := by decide +kernel
theorem dX5_special_151 : decode cX5_special 151 = .ok (.ifCond .ne 22, 3) := by decide +kernel
theorem dX5_special_154 : decode cX5_special 154 = .ok (.aload 9, 2) := by decide +kernel
theorem dX5_special_156 : decode cX5_special 156 = .ok (.getfield 134, 3) := by decide +kernel
theorem dX5_special_159 : decode cX5_special 159 = .ok (.ifCond .eq 8, 3) := by decide +kernel
theorem dX5_special_162 : decode cX5_special 162 = .ok (.bipush (-25), 2) := by decide +kernel
theorem dX5_special_164 : decode cX5_special 164 = .ok (.goto 8, 3) := by decide +kernel
theorem dX5_special_167 : decode cX5_special 167 = .ok (.aload 9, 2) := by decide +kernel
theorem dX5_special_169 : decode cX5_special 169 = .ok (.getfield 65, 3) := by decide +kernel
theorem dX5_special_172 : decode cX5_special 172 = .ok (.ireturn, 1) := by decide +kernel
theorem dX5_special_173 : decode cX5_special 173 = .ok (.aload 8, 2) := by decide +kernel
theorem dX5_special_175 : decode cX5_special 175 = .ok (.getfield 77, 3) := by decide +kernel
theorem dX5_special_178 : decode cX5_special 178 = .ok (.astore 8, 2) := by decide +kernel
theorem dX5_special_180 : decode cX5_special 180 = .ok (.goto (-52), 3) := by decide +kernel
theorem dX5_special_183 : decode cX5_special 183 = .ok (.aload_n 0, 1) := by decide +kernel
theorem dX5_special_184 : decode cX5_special 184 = .ok (.aload 7, 2) := by decide +kernel
theorem dX5_special_186 : decode cX5_special 186 = .ok (.iload_n 3, 1) := by decide +kernel
theorem dX5_special_187 : decode cX5_special 187 = .ok (.invokevirtual 137, 3) := by decide +kernel
theorem dX5_special_190 : decode cX5_special 190 = .ok (.istore 8, 2) := by decide +kernel
theorem dX5_special_192 : decode cX5_special 192 = .ok (.iload 8, 2) := by decide +kernel
theorem dX5_special_194 : decode cX5_special 194 = .ok (.ifCond .ge 8, 3) := by decide +kernel
theorem dX5_special_197 : decode cX5_special 197 = .ok (.bipush (-25), 2) := by decide +kernel
theorem dX5_special_199 : decode cX5_special 199 = .ok (.goto 5, 3) := by decide +kernel
theorem dX5_special_202 : decode cX5_special 202 = .ok (.iload 8, 2) := by decide +kernel
theorem dX5_special_204 : decode cX5_special 204 = .ok (.ireturn, 1) := by decide +kernel
set_option maxRecDepth 20000 in
theorem ggX5_kin_X5_met : GoodIn wsX5_kin wsX5_met := goodIn_r _ [9, 1, 2, 10, 11, 12, 13, 14, 15, 16, 17, 18, 19, 20, 21, 22, 23, 24, 25, 26, 27, 28, 29, 30, 31, 32, 66, 67, 68, 76, 77, 78] (by decide +kernel) (by decide +kernel)
set_option maxRecDepth 20000 in
theorem gX5_kin_X5_met : GoodIn wsX5_kin (wsV RX5 120 RX5 yX5_met wsX5_met) := goodIn_app (goodIn_of _ (by decide +kernel)) ggX5_kin_X5_met
set_option maxRecDepth 20000 in
theorem ggX5_kin_Jx4a65c_size_8abf5 : GoodIn wsX5_kin wsJx4a65c_size_8abf5 := goodIn_r _ [14, 15, 76, 77, 78] (by decide +kernel) (by decide +kernel)
set_option maxRecDepth 20000 in
theorem gX5_kin_Jx4a65c_size_8abf5 : GoodIn wsX5_kin (wsV RX5 28 RJx4a65c yJx4a65c_size_8abf5 wsJx4a65c_size_8abf5) := goodIn_app (goodIn_of _ (by decide +kernel)) ggX5_kin_Jx4a65c_size_8abf5
set_option maxRecDepth 20000 in
theorem ggX5_kin_Jx4a65c_get_915e3 : GoodIn wsX5_kin wsJx4a65c_get_915e3 := goodIn_r _ [19, 15, 20, 21, 22, 23, 24, 25, 26, 27, 28, 29, 30, 13, 31, 32, 76, 77, 78] (by decide +kernel) (by decide +kernel)
set_option maxRecDepth 20000 in
theorem gX5_kin_Jx4a65c_get_915e3 : GoodIn wsX5_kin (wsV RX5 32 RJx4a65c yJx4a65c_get_915e3 wsJx4a65c_get_915e3) := goodIn_app (goodIn_of _ (by decide +kernel)) ggX5_kin_Jx4a65c_get_915e3
set_option maxRecDepth 20000 in
theorem ggX5_kin_X5_lies : GoodIn wsX5_kin wsX5_lies := goodIn_r _ [36, 37, 38, 39, 40, 8, 41, 42, 43, 44, 45, 46, 10, 11, 12, 13, 14, 15, 16, 17, 18, 19, 20, 21, 22, 23, 24, 25, 26, 27, 28, 29, 30, 31, 32, 66, 67, 68, 79, 80, 81, 82, 83, 84, 85, 86, 87, 76, 77, 78] (by decide +kernel) (by decide +kernel)
set_option maxRecDepth 20000 in
theorem gX5_kin_X5_lies : GoodIn wsX5_kin (wsV RX5 81 RX5 yX5_lies wsX5_lies) := goodIn_app (goodIn_of _ (by decide +kernel)) ggX5_kin_X5_lies
set_option maxRecDepth 20000 in
theorem ggX5_kin_X5_goesOver : GoodIn wsX5_kin wsX5_goesOver := goodIn_r _ [49, 4, 3, 50, 51, 44, 52, 53, 8, 54, 55, 56, 57, 58, 59, 60, 61, 62, 63, 64, 11, 12, 13, 14, 15, 65, 17, 18, 19, 20, 21, 22, 23, 24, 25, 26, 27, 28, 29, 30, 31, 32, 69, 70, 71, 72, 73, 74, 75, 79, 80, 81, 82, 83, 84, 85, 86, 87, 76, 77, 78] (by decide +kernel) (by decide +kernel)
set_option maxRecDepth 20000 in
theorem gX5_kin_X5_goesOver : GoodIn wsX5_kin (va_wsS RX5 123 yX5_goesOver wsX5_goesOver) := goodIn_app (goodIn_of _ (by decide +kernel)) ggX5_kin_X5_goesOver
theorem dX5_kin_0 : decode cX5_kin 0 = .ok (.aload_n 0, 1) := by decide +kernel
theorem dX5_kin_1 : decode cX5_kin 1 = .ok (.iload_n 1, 1) := by decide +kernel
theorem dX5_kin_2 : decode cX5_kin 2 = .ok (.invokevirtual 120, 3) := by decide +kernel
theorem dX5_kin_5 : decode cX5_kin 5 = .ok (.astore_n 2, 1) := by decide +kernel
theorem dX5_kin_6 : decode cX5_kin 6 = .ok (.aload_n 2, 1) := by decide +kernel
theorem dX5_kin_7 : decode cX5_kin 7 = .ok (.ifnonnull 5, 3) := by decide +kernel
theorem dX5_kin_10 : decode cX5_kin 10 = .ok (.iconst (-1), 1) := by decide +kernel
theorem dX5_kin_11 : decode cX5_kin 11 = .ok (.ireturn, 1) := by decide +kernel
theorem dX5_kin_12 : decode cX5_kin 12 = .ok (.iconst 0, 1) := by decide +kernel
theorem dX5_kin_13 : decode cX5_kin 13 = .ok (.istore_n 3, 1) := by decide +kernel
theorem dX5_kin_14 : decode cX5_kin 14 = .ok (.iconst 0, 1) := by decide +kernel
theorem dX5_kin_15 : decode cX5_kin 15 = .ok (.istore 4, 2) := by decide +kernel
theorem dX5_kin_17 : decode cX5_kin 17 = .ok (.iload 4, 2) := by decide +kernel
theorem dX5_kin_19 : decode cX5_kin 19 = .ok (.aload_n 0, 1) := by decide +kernel
theorem dX5_kin_20 : decode cX5_kin 20 = .ok (.getfield 16, 3) := by decide +kernel
theorem dX5_kin_23 : decode cX5_kin 23 = .ok (.invokevirtual 28, 3) := by decide +kernel
theorem dX5_kin_26 : decode cX5_kin 26 = .ok (.if_icmp .ge 100, 3) := by decide +kernel
theorem dX5_kin_29 : decode cX5_kin 29 = .ok (.aload_n 0, 1) := by decide +kernel
theorem dX5_kin_30 : decode cX5_kin 30 = .ok (.getfield 16, 3) := by decide +kernel
theorem dX5_kin_33 : decode cX5_kin 33 = .ok (.iload 4, 2) := by decide +kernel
theorem dX5_kin_35 : decode cX5_kin 35 = .ok (.invokevirtual 32, 3) := by decide +kernel
theorem dX5_kin_38 : decode cX5_kin 38 = .ok (.checkcast 36, 3) := by decide +kernel
theorem dX5_kin_41 : decode cX5_kin 41 = .ok (.astore 5, 2) := by decide +kernel
theorem dX5_kin_43 : decode cX5_kin 43 = .ok (.aload 5, 2) := by decide +kernel
theorem dX5_kin_45 : decode cX5_kin 45 = .ok (.aload_n 2, 1) := by decide +kernel
theorem dX5_kin_46 : decode cX5_kin 46 = .ok (.if_acmp .eq 74, 3) := by decide +kernel
theorem dX5_kin_49 : decode cX5_kin 49 = .ok (.aload 5, 2) := by decide +kernel
theorem dX5_kin_51 : decode cX5_kin 51 = .ok (.getfield 110, 3) := by decide +kernel
theorem dX5_kin_54 : decode cX5_kin 54 = .ok (.aload_n 2, 1) := by decide +kernel
theorem dX5_kin_55 : decode cX5_kin 55 = .ok (.getfield 110, 3) := by decide +kernel
theorem dX5_kin_58 : decode cX5_kin 58 = .ok (.if_icmp .eq 6, 3) := by decide +kernel
theorem dX5_kin_61 : decode cX5_kin 61 = .ok (.goto 59, 3) := by decide +kernel
theorem dX5_kin_64 : decode cX5_kin 64 = .ok (.aload_n 0, 1) := by decide +kernel
theorem dX5_kin_65 : decode cX5_kin 65 = .ok (.aload 5, 2) := by decide +kernel
theorem dX5_kin_67 : decode cX5_kin 67 = .ok (.getfield 107, 3) := by decide +kernel
theorem dX5_kin_70 : decode cX5_kin 70 = .ok (.aload_n 2, 1) := by decide +kernel
theorem dX5_kin_71 : decode cX5_kin 71 = .ok (.getfield 107, 3) := by decide +kernel
theorem dX5_kin_74 : decode cX5_kin 74 = .ok (.invokevirtual 81, 3) := by decide +kernel
theorem dX5_kin_77 : decode cX5_kin 77 = .ok (.ifCond .eq 15, 3) := by decide +kernel
theorem dX5_kin_80 : decode cX5_kin 80 = .ok (.aload 5, 2) := by decide +kernel
theorem dX5_kin_82 : decode cX5_kin 82 = .ok (.aload_n 2, 1) := by decide +kernel
theorem dX5_kin_83 : decode cX5_kin 83 = .ok (.invokestatic 123, 3) := by decide +kernel
theorem dX5_kin_86 : decode cX5_kin 86 = .ok (.ifCond .eq 6, 3) := by decide +kernel
theorem dX5_kin_89 : decode cX5_kin 89 = .ok (.iinc 3 1, 3) := by decide +kernel
theorem dX5_kin_92 : decode cX5_kin 92 = .ok (.aload_n 0, 1) := by decide +kernel
theorem dX5_kin_93 : decode cX5_kin 93 = .ok (.aload_n 2, 1) := by decide +kernel
theorem dX5_kin_94 : decode cX5_kin 94 = .ok (.getfield 107, 3) := by decide +kernel
theorem dX5_kin_97 : decode cX5_kin 97 = .ok (.aload 5, 2) := by decide +kernel
theorem dX5_kin_99 : decode cX5_kin 99 = .ok (.getfield 107, 3) := by decide +kernel
theorem dX5_kin_102 : decode cX5_kin 102 = .ok (.invokevirtual 81, 3) := by decide +kernel
theorem dX5_kin_105 : decode cX5_kin 105 = .ok (.ifCond .eq 15, 3) := by decide +kernel
theorem dX5_kin_108 : decode cX5_kin 108 = .ok (.aload_n 2, 1) := by decide +kernel
theorem dX5_kin_109 : decode cX5_kin 109 = .ok (.aload 5, 2) := by decide +kernel
theorem dX5_kin_111 : decode cX5_kin 111 = .ok (.invokestatic 123, 3) := by decide +kernel
theorem dX5_kin_114 : decode cX5_kin 114 = .ok (.ifCond .eq 6, 3) := by decide +kernel
theorem dX5_kin_117 : decode cX5_kin 117 = .ok (.iinc 3 1, 3) := by decide +kernel
theorem dX5_kin_120 : decode cX5_kin 120 = .ok (.iinc 4 1, 3) := by decide +kernel
theorem dX5_kin_123 : decode cX5_kin 123 = .ok (.goto (-106), 3) := by decide +kernel
theorem dX5_kin_126 : decode cX5_kin 126 = .ok (.iload_n 3, 1) := by decide +kernel
theorem dX5_kin_127 : decode cX5_kin 127 = .ok (.ireturn, 1) := by decide +kernel
end
section
theorem dJ13_bitCount_95d88_0 : decode cJ13_bitCount_95d88 0 = .ok (.lload_n 0, 1) := by decide +kernel
theorem dJ13_bitCount_95d88_1 : decode cJ13_bitCount_95d88 1 = .ok (.lload_n 0, 1) := by decide +kernel
theorem dJ13_bitCount_95d88_2 : decode cJ13_bitCount_95d88 2 = .ok (.iconst 1, 1) := by decide +kernel
theorem dJ13_bitCount_95d88_3 : decode cJ13_bitCount_95d88 3 = .ok (.lushr, 1) := by decide +kernel
theorem dJ13_bitCount_95d88_4 : decode cJ13_bitCount_95d88 4 = .ok (.ldc2_w 314, 3) := by decide +kernel
theorem dJ13_bitCount_95d88_7 : decode cJ13_bitCount_95d88 7 = .ok (.land, 1) := by decide +kernel
theorem dJ13_bitCount_95d88_8 : decode cJ13_bitCount_95d88 8 = .ok (.lsub, 1) := by decide +kernel
theorem dJ13_bitCount_95d88_9 : decode cJ13_bitCount_95d88 9 = .ok (.lstore_n 0, 1) := by decide +kernel
theorem dJ13_bitCount_95d88_10 : decode cJ13_bitCount_95d88 10 = .ok (.lload_n 0, 1) := by decide +kernel
theorem dJ13_bitCount_95d88_11 : decode cJ13_bitCount_95d88 11 = .ok (.ldc2_w 316, 3) := by decide +kernel
theorem dJ13_bitCount_95d88_14 : decode cJ13_bitCount_95d88 14 = .ok (.land, 1) := by decide +kernel
theorem dJ13_bitCount_95d88_15 : decode cJ13_bitCount_95d88 15 = .ok (.lload_n 0, 1) := by decide +kernel
theorem dJ13_bitCount_95d88_16 : decode cJ13_bitCount_95d88 16 = .ok (.iconst 2, 1) := by decide +kernel
theorem dJ13_bitCount_95d88_17 : decode cJ13_bitCount_95d88 17 = .ok (.lushr, 1) := by decide +kernel
theorem dJ13_bitCount_95d88_18 : decode cJ13_bitCount_95d88 18 = .ok (.ldc2_w 316, 3) := by decide +kernel
theorem dJ13_bitCount_95d88_21 : decode cJ13_bitCount_95d88 21 = .ok (.land, 1) := by decide +kernel
theorem dJ13_bitCount_95d88_22 : decode cJ13_bitCount_95d88 22 = .ok (.ladd, 1) := by decide +kernel
theorem dJ13_bitCount_95d88_23 : decode cJ13_bitCount_95d88 23 = .ok (.lstore_n 0, 1) := by decide +kernel
theorem dJ13_bitCount_95d88_24 : decode cJ13_bitCount_95d88 24 = .ok (.lload_n 0, 1) := by decide +kernel
theorem dJ13_bitCount_95d88_25 : decode cJ13_bitCount_95d88 25 = .ok (.lload_n 0, 1) := by decide +kernel
theorem dJ13_bitCount_95d88_26 : decode cJ13_bitCount_95d88 26 = .ok (.iconst 4, 1) := by decide +kernel
theorem dJ13_bitCount_95d88_27 : decode cJ13_bitCount_95d88 27 = .ok (.lushr, 1) := by decide +kernel
theorem dJ13_bitCount_95d88_28 : decode cJ13_bitCount_95d88 28 = .ok (.ladd, 1) := by decide +kernel
theorem dJ13_bitCount_95d88_29 : decode cJ13_bitCount_95d88 29 = .ok (.ldc2_w 318, 3) := by decide +kernel
theorem dJ13_bitCount_95d88_32 : decode cJ13_bitCount_95d88 32 = .ok (.land, 1) := by decide +kernel
theorem dJ13_bitCount_95d88_33 : decode cJ13_bitCount_95d88 33 = .ok (.lstore_n 0, 1) := by decide +kernel
theorem dJ13_bitCount_95d88_34 : decode cJ13_bitCount_95d88 34 = .ok (.lload_n 0, 1) := by decide +kernel
theorem dJ13_bitCount_95d88_35 : decode cJ13_bitCount_95d88 35 = .ok (.lload_n 0, 1) := by decide +kernel
theorem dJ13_bitCount_95d88_36 : decode cJ13_bitCount_95d88 36 = .ok (.bipush 8, 2) := by decide +kernel
theorem dJ13_bitCount_95d88_38 : decode cJ13_bitCount_95d88 38 = .ok (.lushr, 1) := by decide +kernel
theorem dJ13_bitCount_95d88_39 : decode cJ13_bitCount_95d88 39 = .ok (.ladd, 1) := by decide +kernel
theorem dJ13_bitCount_95d88_40 : decode cJ13_bitCount_95d88 40 = .ok (.lstore_n 0, 1) := by decide +kernel
theorem dJ13_bitCount_95d88_41 : decode cJ13_bitCount_95d88 41 = .ok (.lload_n 0, 1) := by decide +kernel
theorem dJ13_bitCount_95d88_42 : decode cJ13_bitCount_95d88 42 = .ok (.lload_n 0, 1) := by decide +kernel
theorem dJ13_bitCount_95d88_43 : decode cJ13_bitCount_95d88 43 = .ok (.bipush 16, 2) := by decide +kernel
theorem dJ13_bitCount_95d88_45 : decode cJ13_bitCount_95d88 45 = .ok (.lushr, 1) := by decide +kernel
theorem dJ13_bitCount_95d88_46 : decode cJ13_bitCount_95d88 46 = .ok (.ladd, 1) := by decide +kernel
theorem dJ13_bitCount_95d88_47 : decode cJ13_bitCount_95d88 47 = .ok (.lstore_n 0, 1) := by decide +kernel
theorem dJ13_bitCount_95d88_48 : decode cJ13_bitCount_95d88 48 = .ok (.lload_n 0, 1) := by decide +kernel
theorem dJ13_bitCount_95d88_49 : decode cJ13_bitCount_95d88 49 = .ok (.lload_n 0, 1) := by decide +kernel
theorem dJ13_bitCount_95d88_50 : decode cJ13_bitCount_95d88 50 = .ok (.bipush 32, 2) := by decide +kernel
theorem dJ13_bitCount_95d88_52 : decode cJ13_bitCount_95d88 52 = .ok (.lushr, 1) := by decide +kernel
theorem dJ13_bitCount_95d88_53 : decode cJ13_bitCount_95d88 53 = .ok (.ladd, 1) := by decide +kernel
theorem dJ13_bitCount_95d88_54 : decode cJ13_bitCount_95d88 54 = .ok (.lstore_n 0, 1) := by decide +kernel
theorem dJ13_bitCount_95d88_55 : decode cJ13_bitCount_95d88 55 = .ok (.lload_n 0, 1) := by decide +kernel
theorem dJ13_bitCount_95d88_56 : decode cJ13_bitCount_95d88 56 = .ok (.l2i, 1) := by decide +kernel
theorem dJ13_bitCount_95d88_57 : decode cJ13_bitCount_95d88 57 = .ok (.bipush 127, 2) := by decide +kernel
theorem dJ13_bitCount_95d88_59 : decode cJ13_bitCount_95d88 59 = .ok (.iand, 1) := by decide +kernel
theorem dJ13_bitCount_95d88_60 : decode cJ13_bitCount_95d88 60 = .ok (.ireturn, 1) := by decide +kernel
theorem dJ9_max_7cf53_0 : decode cJ9_max_7cf53 0 = .ok (.iload_n 0, 1) := by decide +kernel
theorem dJ9_max_7cf53_1 : decode cJ9_max_7cf53 1 = .ok (.iload_n 1, 1) := by decide +kernel
theorem dJ9_max_7cf53_2 : decode cJ9_max_7cf53 2 = .ok (.if_icmp .lt 7, 3) := by decide +kernel
theorem dJ9_max_7cf53_5 : decode cJ9_max_7cf53 5 = .ok (.iload_n 0, 1) := by decide +kernel
theorem dJ9_max_7cf53_6 : decode cJ9_max_7cf53 6 = .ok (.goto 4, 3) := by decide +kernel
theorem dJ9_max_7cf53_9 : decode cJ9_max_7cf53 9 = .ok (.iload_n 1, 1) := by decide +kernel
theorem dJ9_max_7cf53_10 : decode cJ9_max_7cf53 10 = .ok (.ireturn, 1) := by decide +kernel
theorem dJ9_min_7cf53_0 : decode cJ9_min_7cf53 0 = .ok (.iload_n 0, 1) := by decide +kernel
theorem dJ9_min_7cf53_1 : decode cJ9_min_7cf53 1 = .ok (.iload_n 1, 1) := by decide +kernel
theorem dJ9_min_7cf53_2 : decode cJ9_min_7cf53 2 = .ok (.if_icmp .gt 7, 3) := by decide +kernel
theorem dJ9_min_7cf53_5 : decode cJ9_min_7cf53 5 = .ok (.iload_n 0, 1) := by decide +kernel
theorem dJ9_min_7cf53_6 : decode cJ9_min_7cf53 6 = .ok (.goto 4, 3) := by decide +kernel
theorem dJ9_min_7cf53_9 : decode cJ9_min_7cf53 9 = .ok (.iload_n 1, 1) := by decide +kernel
theorem dJ9_min_7cf53_10 : decode cJ9_min_7cf53 10 = .ok (.ireturn, 1) := by decide +kernel
theorem dJxa1e45_init_da8c8_0 : decode cJxa1e45_init_da8c8 0 = .ok (.aload_n 0, 1) := by decide +kernel
theorem dJxa1e45_init_da8c8_1 : decode cJxa1e45_init_da8c8 1 = .ok (.invokespecial 1, 3) := by decide +kernel
theorem dJxa1e45_init_da8c8_4 : decode cJxa1e45_init_da8c8 4 = .ok (.return_, 1) := by decide +kernel
set_option maxRecDepth 20000 in
theorem ggJxc12de_init_da8c8_Jxa1e45_init_da8c8 : GoodIn wsJxc12de_init_da8c8 wsJxa1e45_init_da8c8 := goodIn_r _ [5, 6, 7, 8] (by decide +kernel) (by decide +kernel)
set_option maxRecDepth 20000 in
theorem gJxc12de_init_da8c8_Jxa1e45_init_da8c8 : GoodIn wsJxc12de_init_da8c8 (wsJxa1e45_init_da8c8) := ggJxc12de_init_da8c8_Jxa1e45_init_da8c8
theorem dJxc12de_init_da8c8_0 : decode cJxc12de_init_da8c8 0 = .ok (.aload_n 0, 1) := by decide +kernel
theorem dJxc12de_init_da8c8_1 : decode cJxc12de_init_da8c8 1 = .ok (.invokespecial 1, 3) := by decide +kernel
theorem dJxc12de_init_da8c8_4 : decode cJxc12de_init_da8c8 4 = .ok (.aload_n 0, 1) := by decide +kernel
theorem dJxc12de_init_da8c8_5 : decode cJxc12de_init_da8c8 5 = .ok (.iconst 0, 1) := by decide +kernel
theorem dJxc12de_init_da8c8_6 : decode cJxc12de_init_da8c8 6 = .ok (.putfield 7, 3) := by decide +kernel
theorem dJxc12de_init_da8c8_9 : decode cJxc12de_init_da8c8 9 = .ok (.return_, 1) := by decide +kernel
set_option maxRecDepth 20000 in
theorem ggJx4a65c_init_da8c8_Jxc12de_init_da8c8 : GoodIn wsJx4a65c_init_da8c8 wsJxc12de_init_da8c8 := goodIn_r _ [6, 7, 8, 9, 10, 11, 12, 13, 14, 15, 16, 17] (by decide +kernel) (by decide +kernel)
set_option maxRecDepth 20000 in
theorem gJx4a65c_init_da8c8_Jxc12de_init_da8c8 : GoodIn wsJx4a65c_init_da8c8 (wsJxc12de_init_da8c8) := ggJx4a65c_init_da8c8_Jxc12de_init_da8c8
theorem dJx4a65c_init_da8c8_0 : decode cJx4a65c_init_da8c8 0 = .ok (.aload_n 0, 1) := by decide +kernel
theorem dJx4a65c_init_da8c8_1 : decode cJx4a65c_init_da8c8 1 = .ok (.invokespecial 1, 3) := by decide +kernel
theorem dJx4a65c_init_da8c8_4 : decode cJx4a65c_init_da8c8 4 = .ok (.aload_n 0, 1) := by decide +kernel
theorem dJx4a65c_init_da8c8_5 : decode cJx4a65c_init_da8c8 5 = .ok (.getstatic 39, 3) := by decide +kernel
theorem dJx4a65c_init_da8c8_8 : decode cJx4a65c_init_da8c8 8 = .ok (.putfield 9, 3) := by decide +kernel
theorem dJx4a65c_init_da8c8_11 : decode cJx4a65c_init_da8c8 11 = .ok (.return_, 1) := by decide +kernel
set_option maxRecDepth 20000 in
theorem ggJx4a65c_grow_92f84_J8_newLength_cabcc : GoodIn wsJx4a65c_grow_92f84 wsJ8_newLength_cabcc := goodIn_r _ [11, 12, 4, 5, 6, 13, 14, 15, 10, 16] (by decide +kernel) (by decide +kernel)
set_option maxRecDepth 20000 in
theorem gJx4a65c_grow_92f84_J8_newLength_cabcc : GoodIn wsJx4a65c_grow_92f84 (va_wsS RJx4a65c 73 yJ8_newLength_cabcc wsJ8_newLength_cabcc) := goodIn_app (goodIn_of _ (by decide +kernel)) ggJx4a65c_grow_92f84_J8_newLength_cabcc
set_option maxRecDepth 20000 in
theorem ggJx4a65c_grow_92f84_J7_copyOf_1904c : GoodIn wsJx4a65c_grow_92f84 wsJ7_copyOf_1904c := goodIn_r _ [20, 21, 22, 23, 24, 25, 26, 19, 27, 28, 29, 30, 31, 5, 32, 33, 34, 35, 36] (by decide +kernel) (by decide +kernel)
set_option maxRecDepth 20000 in
theorem gJx4a65c_grow_92f84_J7_copyOf_1904c : GoodIn wsJx4a65c_grow_92f84 (va_wsS RJx4a65c 66 yJ7_copyOf_1904c wsJ7_copyOf_1904c) := goodIn_app (goodIn_of _ (by decide +kernel)) ggJx4a65c_grow_92f84_J7_copyOf_1904c
theorem dJx4a65c_grow_92f84_0 : decode cJx4a65c_grow_92f84 0 = .ok (.aload_n 0, 1) := by decide +kernel
theorem dJx4a65c_grow_92f84_1 : decode cJx4a65c_grow_92f84 1 = .ok (.getfield 9, 3) := by decide +kernel
theorem dJx4a65c_grow_92f84_4 : decode cJx4a65c_grow_92f84 4 = .ok (.arraylength, 1) := by decide +kernel
theorem dJx4a65c_grow_92f84_5 : decode cJx4a65c_grow_92f84 5 = .ok (.istore_n 2, 1) := by decide +kernel
theorem dJx4a65c_grow_92f84_6 : decode cJx4a65c_grow_92f84 6 = .ok (.iload_n 2, 1) := by decide +kernel
theorem dJx4a65c_grow_92f84_7 : decode cJx4a65c_grow_92f84 7 = .ok (.ifCond .gt 13, 3) := by decide +kernel
theorem dJx4a65c_grow_92f84_10 : decode cJx4a65c_grow_92f84 10 = .ok (.aload_n 0, 1) := by decide +kernel
theorem dJx4a65c_grow_92f84_11 : decode cJx4a65c_grow_92f84 11 = .ok (.getfield 9, 3) := by decide +kernel
theorem dJx4a65c_grow_92f84_14 : decode cJx4a65c_grow_92f84 14 = .ok (.getstatic 39, 3) := by decide +kernel
theorem dJx4a65c_grow_92f84_17 : decode cJx4a65c_grow_92f84 17 = .ok (.if_acmp .eq 28, 3) := by decide +kernel
theorem dJx4a65c_grow_92f84_20 : decode cJx4a65c_grow_92f84 20 = .ok (.iload_n 2, 1) := by decide +kernel
theorem dJx4a65c_grow_92f84_21 : decode cJx4a65c_grow_92f84 21 = .ok (.iload_n 1, 1) := by decide +kernel
theorem dJx4a65c_grow_92f84_22 : decode cJx4a65c_grow_92f84 22 = .ok (.iload_n 2, 1) := by decide +kernel
theorem dJx4a65c_grow_92f84_23 : decode cJx4a65c_grow_92f84 23 = .ok (.isub, 1) := by decide +kernel
theorem dJx4a65c_grow_92f84_24 : decode cJx4a65c_grow_92f84 24 = .ok (.iload_n 2, 1) := by decide +kernel
theorem dJx4a65c_grow_92f84_25 : decode cJx4a65c_grow_92f84 25 = .ok (.iconst 1, 1) := by decide +kernel
theorem dJx4a65c_grow_92f84_26 : decode cJx4a65c_grow_92f84 26 = .ok (.ishr, 1) := by decide +kernel
theorem dJx4a65c_grow_92f84_27 : decode cJx4a65c_grow_92f84 27 = .ok (.invokestatic 73, 3) := by decide +kernel
theorem dJx4a65c_grow_92f84_30 : decode cJx4a65c_grow_92f84 30 = .ok (.istore_n 3, 1) := by decide +kernel
theorem dJx4a65c_grow_92f84_31 : decode cJx4a65c_grow_92f84 31 = .ok (.aload_n 0, 1) := by decide +kernel
theorem dJx4a65c_grow_92f84_32 : decode cJx4a65c_grow_92f84 32 = .ok (.aload_n 0, 1) := by decide +kernel
theorem dJx4a65c_grow_92f84_33 : decode cJx4a65c_grow_92f84 33 = .ok (.getfield 9, 3) := by decide +kernel
theorem dJx4a65c_grow_92f84_36 : decode cJx4a65c_grow_92f84 36 = .ok (.iload_n 3, 1) := by decide +kernel
theorem dJx4a65c_grow_92f84_37 : decode cJx4a65c_grow_92f84 37 = .ok (.invokestatic 66, 3) := by decide +kernel
theorem dJx4a65c_grow_92f84_40 : decode cJx4a65c_grow_92f84 40 = .ok (.dup_x1, 1) := by decide +kernel
theorem dJx4a65c_grow_92f84_41 : decode cJx4a65c_grow_92f84 41 = .ok (.putfield 9, 3) := by decide +kernel
theorem dJx4a65c_grow_92f84_44 : decode cJx4a65c_grow_92f84 44 = .ok (.areturn, 1) := by decide +kernel
theorem dJx4a65c_grow_92f84_45 : decode cJx4a65c_grow_92f84 45 = .ok (.aload_n 0, 1) := by decide +kernel
theorem dJx4a65c_grow_92f84_46 : decode cJx4a65c_grow_92f84 46 = .ok (.bipush 10, 2) := by decide +kernel
theorem dJx4a65c_grow_92f84_48 : decode cJx4a65c_grow_92f84 48 = .ok (.iload_n 1, 1) := by decide +kernel
theorem dJx4a65c_grow_92f84_49 : decode cJx4a65c_grow_92f84 49 = .ok (.invokestatic 79, 3) := by decide +kernel
theorem dJx4a65c_grow_92f84_52 : decode cJx4a65c_grow_92f84 52 = .ok (.anewarray 7, 3) := by decide +kernel
theorem dJx4a65c_grow_92f84_55 : decode cJx4a65c_grow_92f84 55 = .ok (.dup_x1, 1) := by decide +kernel
theorem dJx4a65c_grow_92f84_56 : decode cJx4a65c_grow_92f84 56 = .ok (.putfield 9, 3) := by decide +kernel
theorem dJx4a65c_grow_92f84_59 : decode cJx4a65c_grow_92f84 59 = .ok (.areturn, 1) := by decide +kernel
set_option maxRecDepth 20000 in
theorem ggJx4a65c_grow_d5877_Jx4a65c_grow_92f84 : GoodIn wsJx4a65c_grow_d5877 wsJx4a65c_grow_92f84 := goodIn_r _ [6, 7, 8, 9, 10, 11, 12, 13, 14, 15, 16, 17, 18, 19, 20, 21, 22, 23, 24, 25, 26, 27, 28, 29, 30, 31, 32, 33, 34, 35, 36, 37, 38, 39, 40, 41, 42, 43, 44, 45] (by decide +kernel) (by decide +kernel)
set_option maxRecDepth 20000 in
theorem gJx4a65c_grow_d5877_Jx4a65c_grow_92f84 : GoodIn wsJx4a65c_grow_d5877 (wsV RJx4a65c 69 RJx4a65c yJx4a65c_grow_92f84 wsJx4a65c_grow_92f84) := goodIn_app (goodIn_of _ (by decide +kernel)) ggJx4a65c_grow_d5877_Jx4a65c_grow_92f84
theorem dJx4a65c_grow_d5877_0 : decode cJx4a65c_grow_d5877 0 = .ok (.aload_n 0, 1) := by decide +kernel
theorem dJx4a65c_grow_d5877_1 : decode cJx4a65c_grow_d5877 1 = .ok (.aload_n 0, 1) := by decide +kernel
theorem dJx4a65c_grow_d5877_2 : decode cJx4a65c_grow_d5877 2 = .ok (.getfield 48, 3) := by decide +kernel
theorem dJx4a65c_grow_d5877_5 : decode cJx4a65c_grow_d5877 5 = .ok (.iconst 1, 1) := by decide +kernel
theorem dJx4a65c_grow_d5877_6 : decode cJx4a65c_grow_d5877 6 = .ok (.iadd, 1) := by decide +kernel
theorem dJx4a65c_grow_d5877_7 : decode cJx4a65c_grow_d5877 7 = .ok (.invokevirtual 69, 3) := by decide +kernel
theorem dJx4a65c_grow_d5877_10 : decode cJx4a65c_grow_d5877 10 = .ok (.areturn, 1) := by decide +kernel
theorem dJx4a65c_size_8abf5_0 : decode cJx4a65c_size_8abf5 0 = .ok (.aload_n 0, 1) := by decide +kernel
theorem dJx4a65c_size_8abf5_1 : decode cJx4a65c_size_8abf5 1 = .ok (.getfield 48, 3) := by decide +kernel
theorem dJx4a65c_size_8abf5_4 : decode cJx4a65c_size_8abf5 4 = .ok (.ireturn, 1) := by decide +kernel
theorem dJx4a65c_elementData_915e3_0 : decode cJx4a65c_elementData_915e3 0 = .ok (.aload_n 0, 1) := by decide +kernel
theorem dJx4a65c_elementData_915e3_1 : decode cJx4a65c_elementData_915e3 1 = .ok (.getfield 9, 3) := by decide +kernel
theorem dJx4a65c_elementData_915e3_4 : decode cJx4a65c_elementData_915e3 4 = .ok (.iload_n 1, 1) := by decide +kernel
theorem dJx4a65c_elementData_915e3_5 : decode cJx4a65c_elementData_915e3 5 = .ok (.aaload, 1) := by decide +kernel
theorem dJx4a65c_elementData_915e3_6 : decode cJx4a65c_elementData_915e3 6 = .ok (.areturn, 1) := by decide +kernel
set_option maxRecDepth 20000 in
theorem ggJx4a65c_get_915e3_J15_checkIndex_7cf53 : GoodIn wsJx4a65c_get_915e3 wsJ15_checkIndex_7cf53 := goodIn_r _ [5, 6, 7, 8, 9] (by decide +kernel) (by decide +kernel)
set_option maxRecDepth 20000 in
theorem gJx4a65c_get_915e3_J15_checkIndex_7cf53 : GoodIn wsJx4a65c_get_915e3 (va_wsS RJx4a65c 118 yJ15_checkIndex_7cf53 wsJ15_checkIndex_7cf53) := goodIn_app (goodIn_of _ (by decide +kernel)) ggJx4a65c_get_915e3_J15_checkIndex_7cf53
set_option maxRecDepth 20000 in
theorem ggJx4a65c_get_915e3_Jx4a65c_elementData_915e3 : GoodIn wsJx4a65c_get_915e3 wsJx4a65c_elementData_915e3 := goodIn_r _ [14, 15, 16, 17, 18] (by decide +kernel) (by decide +kernel)
set_option maxRecDepth 20000 in
theorem gJx4a65c_get_915e3_Jx4a65c_elementData_915e3 : GoodIn wsJx4a65c_get_915e3 (wsV RJx4a65c 123 RJx4a65c yJx4a65c_elementData_915e3 wsJx4a65c_elementData_915e3) := goodIn_app (goodIn_of _ (by decide +kernel)) ggJx4a65c_get_915e3_Jx4a65c_elementData_915e3
theorem dJx4a65c_get_915e3_0 : decode cJx4a65c_get_915e3 0 = .ok (.iload_n 1, 1) := by decide +kernel
theorem dJx4a65c_get_915e3_1 : decode cJx4a65c_get_915e3 1 = .ok (.aload_n 0, 1) := by decide +kernel
theorem dJx4a65c_get_915e3_2 : decode cJx4a65c_get_915e3 2 = .ok (.getfield 48, 3) := by decide +kernel
theorem dJx4a65c_get_915e3_5 : decode cJx4a65c_get_915e3 5 = .ok (.invokestatic 118, 3) := by decide +kernel
theorem dJx4a65c_get_915e3_8 : decode cJx4a65c_get_915e3 8 = .ok (.pop, 1) := by decide +kernel
theorem dJx4a65c_get_915e3_9 : decode cJx4a65c_get_915e3 9 = .ok (.aload_n 0, 1) := by decide +kernel
theorem dJx4a65c_get_915e3_10 : decode cJx4a65c_get_915e3 10 = .ok (.iload_n 1, 1) := by decide +kernel
theorem dJx4a65c_get_915e3_11 : decode cJx4a65c_get_915e3 11 = .ok (.invokevirtual 123, 3) := by decide +kernel
theorem dJx4a65c_get_915e3_14 : decode cJx4a65c_get_915e3 14 = .ok (.areturn, 1) := by decide +kernel
set_option maxRecDepth 20000 in
theorem ggJx4a65c_add_72be8_Jx4a65c_grow_d5877 : GoodIn wsJx4a65c_add_72be8 wsJx4a65c_grow_d5877 := goodIn_r _ [6, 1, 7, 8, 9, 5, 10, 11, 12, 13, 14, 15, 16, 17, 18, 19, 20, 21, 22, 23, 24, 25, 26, 27, 28, 29, 30, 31, 32, 33, 34, 35, 36, 37, 38, 39, 40, 41, 42, 43, 44, 45, 46, 47, 48, 49] (by decide +kernel) (by decide +kernel)
set_option maxRecDepth 20000 in
theorem gJx4a65c_add_72be8_Jx4a65c_grow_d5877 : GoodIn wsJx4a65c_add_72be8 (wsV RJx4a65c 129 RJx4a65c yJx4a65c_grow_d5877 wsJx4a65c_grow_d5877) := goodIn_app (goodIn_of _ (by decide +kernel)) ggJx4a65c_add_72be8_Jx4a65c_grow_d5877
theorem dJx4a65c_add_72be8_0 : decode cJx4a65c_add_72be8 0 = .ok (.iload_n 3, 1) := by decide +kernel
theorem dJx4a65c_add_72be8_1 : decode cJx4a65c_add_72be8 1 = .ok (.aload_n 2, 1) := by decide +kernel
theorem dJx4a65c_add_72be8_2 : decode cJx4a65c_add_72be8 2 = .ok (.arraylength, 1) := by decide +kernel
theorem dJx4a65c_add_72be8_3 : decode cJx4a65c_add_72be8 3 = .ok (.if_icmp .ne 8, 3) := by decide +kernel
theorem dJx4a65c_add_72be8_6 : decode cJx4a65c_add_72be8 6 = .ok (.aload_n 0, 1) := by decide +kernel
theorem dJx4a65c_add_72be8_7 : decode cJx4a65c_add_72be8 7 = .ok (.invokevirtual 129, 3) := by decide +kernel
theorem dJx4a65c_add_72be8_10 : decode cJx4a65c_add_72be8 10 = .ok (.astore_n 2, 1) := by decide +kernel
theorem dJx4a65c_add_72be8_11 : decode cJx4a65c_add_72be8 11 = .ok (.aload_n 2, 1) := by decide +kernel
theorem dJx4a65c_add_72be8_12 : decode cJx4a65c_add_72be8 12 = .ok (.iload_n 3, 1) := by decide +kernel
theorem dJx4a65c_add_72be8_13 : decode cJx4a65c_add_72be8 13 = .ok (.aload_n 1, 1) := by decide +kernel
theorem dJx4a65c_add_72be8_14 : decode cJx4a65c_add_72be8 14 = .ok (.aastore, 1) := by decide +kernel
theorem dJx4a65c_add_72be8_15 : decode cJx4a65c_add_72be8 15 = .ok (.aload_n 0, 1) := by decide +kernel
theorem dJx4a65c_add_72be8_16 : decode cJx4a65c_add_72be8 16 = .ok (.iload_n 3, 1) := by decide +kernel
theorem dJx4a65c_add_72be8_17 : decode cJx4a65c_add_72be8 17 = .ok (.iconst 1, 1) := by decide +kernel
theorem dJx4a65c_add_72be8_18 : decode cJx4a65c_add_72be8 18 = .ok (.iadd, 1) := by decide +kernel
theorem dJx4a65c_add_72be8_19 : decode cJx4a65c_add_72be8 19 = .ok (.putfield 48, 3) := by decide +kernel
theorem dJx4a65c_add_72be8_22 : decode cJx4a65c_add_72be8 22 = .ok (.return_, 1) := by decide +kernel
set_option maxRecDepth 20000 in
theorem ggJx4a65c_add_9ea2d_Jx4a65c_add_72be8 : GoodIn wsJx4a65c_add_9ea2d wsJx4a65c_add_72be8 := goodIn_r _ [9, 4, 10, 11, 12, 8, 13, 14, 15, 16, 17, 3, 18, 19, 20, 21, 22, 23, 24, 25, 26, 27, 28, 29, 30, 31, 32, 33, 34, 35, 36, 37, 38, 39, 40, 41, 42, 43, 44, 45, 46, 47, 48, 49, 50, 51, 52, 53, 54, 55] (by decide +kernel) (by decide +kernel)
set_option maxRecDepth 20000 in
theorem gJx4a65c_add_9ea2d_Jx4a65c_add_72be8 : GoodIn wsJx4a65c_add_9ea2d (wsV RJx4a65c 131 RJx4a65c yJx4a65c_add_72be8 wsJx4a65c_add_72be8) := goodIn_app (goodIn_of _ (by decide +kernel)) ggJx4a65c_add_9ea2d_Jx4a65c_add_72be8
theorem dJx4a65c_add_9ea2d_0 : decode cJx4a65c_add_9ea2d 0 = .ok (.aload_n 0, 1) := by decide +kernel
theorem dJx4a65c_add_9ea2d_1 : decode cJx4a65c_add_9ea2d 1 = .ok (.dup, 1) := by decide +kernel
theorem dJx4a65c_add_9ea2d_2 : decode cJx4a65c_add_9ea2d 2 = .ok (.getfield 63, 3) := by decide +kernel
theorem dJx4a65c_add_9ea2d_5 : decode cJx4a65c_add_9ea2d 5 = .ok (.iconst 1, 1) := by decide +kernel
theorem dJx4a65c_add_9ea2d_6 : decode cJx4a65c_add_9ea2d 6 = .ok (.iadd, 1) := by decide +kernel
theorem dJx4a65c_add_9ea2d_7 : decode cJx4a65c_add_9ea2d 7 = .ok (.putfield 63, 3) := by decide +kernel
theorem dJx4a65c_add_9ea2d_10 : decode cJx4a65c_add_9ea2d 10 = .ok (.aload_n 0, 1) := by decide +kernel
theorem dJx4a65c_add_9ea2d_11 : decode cJx4a65c_add_9ea2d 11 = .ok (.aload_n 1, 1) := by decide +kernel
theorem dJx4a65c_add_9ea2d_12 : decode cJx4a65c_add_9ea2d 12 = .ok (.aload_n 0, 1) := by decide +kernel
theorem dJx4a65c_add_9ea2d_13 : decode cJx4a65c_add_9ea2d 13 = .ok (.getfield 9, 3) := by decide +kernel
theorem dJx4a65c_add_9ea2d_16 : decode cJx4a65c_add_9ea2d 16 = .ok (.aload_n 0, 1) := by decide +kernel
theorem dJx4a65c_add_9ea2d_17 : decode cJx4a65c_add_9ea2d 17 = .ok (.getfield 48, 3) := by decide +kernel
theorem dJx4a65c_add_9ea2d_20 : decode cJx4a65c_add_9ea2d 20 = .ok (.invokevirtual 131, 3) := by decide +kernel
theorem dJx4a65c_add_9ea2d_23 : decode cJx4a65c_add_9ea2d 23 = .ok (.iconst 1, 1) := by decide +kernel
theorem dJx4a65c_add_9ea2d_24 : decode cJx4a65c_add_9ea2d 24 = .ok (.ireturn, 1) := by decide +kernel
theorem dJx4a65c_clear_da8c8_0 : decode cJx4a65c_clear_da8c8 0 = .ok (.aload_n 0, 1) := by decide +kernel
theorem dJx4a65c_clear_da8c8_1 : decode cJx4a65c_clear_da8c8 1 = .ok (.dup, 1) := by decide +kernel
theorem dJx4a65c_clear_da8c8_2 : decode cJx4a65c_clear_da8c8 2 = .ok (.getfield 63, 3) := by decide +kernel
theorem dJx4a65c_clear_da8c8_5 : decode cJx4a65c_clear_da8c8 5 = .ok (.iconst 1, 1) := by decide +kernel
theorem dJx4a65c_clear_da8c8_6 : decode cJx4a65c_clear_da8c8 6 = .ok (.iadd, 1) := by decide +kernel
theorem dJx4a65c_clear_da8c8_7 : decode cJx4a65c_clear_da8c8 7 = .ok (.putfield 63, 3) := by decide +kernel
theorem dJx4a65c_clear_da8c8_10 : decode cJx4a65c_clear_da8c8 10 = .ok (.aload_n 0, 1) := by decide +kernel
theorem dJx4a65c_clear_da8c8_11 : decode cJx4a65c_clear_da8c8 11 = .ok (.getfield 9, 3) := by decide +kernel
theorem dJx4a65c_clear_da8c8_14 : decode cJx4a65c_clear_da8c8 14 = .ok (.astore_n 1, 1) := by decide +kernel
theorem dJx4a65c_clear_da8c8_15 : decode cJx4a65c_clear_da8c8 15 = .ok (.aload_n 0, 1) := by decide +kernel
theorem dJx4a65c_clear_da8c8_16 : decode cJx4a65c_clear_da8c8 16 = .ok (.getfield 48, 3) := by decide +kernel
theorem dJx4a65c_clear_da8c8_19 : decode cJx4a65c_clear_da8c8 19 = .ok (.istore_n 2, 1) := by decide +kernel
theorem dJx4a65c_clear_da8c8_20 : decode cJx4a65c_clear_da8c8 20 = .ok (.aload_n 0, 1) := by decide +kernel
theorem dJx4a65c_clear_da8c8_21 : decode cJx4a65c_clear_da8c8 21 = .ok (.iconst 0, 1) := by decide +kernel
theorem dJx4a65c_clear_da8c8_22 : decode cJx4a65c_clear_da8c8 22 = .ok (.dup_x1, 1) := by decide +kernel
theorem dJx4a65c_clear_da8c8_23 : decode cJx4a65c_clear_da8c8 23 = .ok (.putfield 48, 3) := by decide +kernel
theorem dJx4a65c_clear_da8c8_26 : decode cJx4a65c_clear_da8c8 26 = .ok (.istore_n 3, 1) := by decide +kernel
theorem dJx4a65c_clear_da8c8_27 : decode cJx4a65c_clear_da8c8 27 = .ok (.iload_n 3, 1) := by decide +kernel
theorem dJx4a65c_clear_da8c8_28 : decode cJx4a65c_clear_da8c8 28 = .ok (.iload_n 2, 1) := by decide +kernel
theorem dJx4a65c_clear_da8c8_29 : decode cJx4a65c_clear_da8c8 29 = .ok (.if_icmp .ge 13, 3) := by decide +kernel
theorem dJx4a65c_clear_da8c8_32 : decode cJx4a65c_clear_da8c8 32 = .ok (.aload_n 1, 1) := by decide +kernel
theorem dJx4a65c_clear_da8c8_33 : decode cJx4a65c_clear_da8c8 33 = .ok (.iload_n 3, 1) := by decide +kernel
theorem dJx4a65c_clear_da8c8_34 : decode cJx4a65c_clear_da8c8 34 = .ok (.aconst_null, 1) := by decide +kernel
theorem dJx4a65c_clear_da8c8_35 : decode cJx4a65c_clear_da8c8 35 = .ok (.aastore, 1) := by decide +kernel
theorem dJx4a65c_clear_da8c8_36 : decode cJx4a65c_clear_da8c8 36 = .ok (.iinc 3 1, 3) := by decide +kernel
theorem dJx4a65c_clear_da8c8_39 : decode cJx4a65c_clear_da8c8 39 = .ok (.goto (-12), 3) := by decide +kernel
theorem dJx4a65c_clear_da8c8_42 : decode cJx4a65c_clear_da8c8 42 = .ok (.return_, 1) := by decide +kernel
set_option maxRecDepth 20000 in
theorem ggJ7_copyOf_1904c_J7_copyOf_6403c : GoodIn wsJ7_copyOf_1904c wsJ7_copyOf_6403c := goodIn_r _ [8, 9, 10, 11, 12, 13, 14, 15, 16, 17, 18] (by decide +kernel) (by decide +kernel)
set_option maxRecDepth 20000 in
theorem gJ7_copyOf_1904c_J7_copyOf_6403c : GoodIn wsJ7_copyOf_1904c (va_wsS RJ7 300 yJ7_copyOf_6403c wsJ7_copyOf_6403c) := goodIn_app (goodIn_of _ (by decide +kernel)) ggJ7_copyOf_1904c_J7_copyOf_6403c
theorem dJ7_copyOf_1904c_0 : decode cJ7_copyOf_1904c 0 = .ok (.aload_n 0, 1) := by decide +kernel
theorem dJ7_copyOf_1904c_1 : decode cJ7_copyOf_1904c 1 = .ok (.iload_n 1, 1) := by decide +kernel
theorem dJ7_copyOf_1904c_2 : decode cJ7_copyOf_1904c 2 = .ok (.aload_n 0, 1) := by decide +kernel
theorem dJ7_copyOf_1904c_3 : decode cJ7_copyOf_1904c 3 = .ok (.invokevirtual 86, 3) := by decide +kernel
theorem dJ7_copyOf_1904c_6 : decode cJ7_copyOf_1904c 6 = .ok (.invokestatic 300, 3) := by decide +kernel
theorem dJ7_copyOf_1904c_9 : decode cJ7_copyOf_1904c 9 = .ok (.areturn, 1) := by decide +kernel
theorem dJ7_copyOf_6403c_0 : decode cJ7_copyOf_6403c 0 = .ok (.aload_n 2, 1) := by decide +kernel
theorem dJ7_copyOf_6403c_1 : decode cJ7_copyOf_6403c 1 = .ok (.ldc 110, 2) := by decide +kernel
theorem dJ7_copyOf_6403c_3 : decode cJ7_copyOf_6403c 3 = .ok (.if_acmp .ne 10, 3) := by decide +kernel
theorem dJ7_copyOf_6403c_6 : decode cJ7_copyOf_6403c 6 = .ok (.iload_n 1, 1) := by decide +kernel
theorem dJ7_copyOf_6403c_7 : decode cJ7_copyOf_6403c 7 = .ok (.anewarray 2, 3) := by decide +kernel
theorem dJ7_copyOf_6403c_10 : decode cJ7_copyOf_6403c 10 = .ok (.goto 14, 3) := by decide +kernel
theorem dJ7_copyOf_6403c_13 : decode cJ7_copyOf_6403c 13 = .ok (.aload_n 2, 1) := by decide +kernel
theorem dJ7_copyOf_6403c_14 : decode cJ7_copyOf_6403c 14 = .ok (.invokevirtual 90, 3) := by decide +kernel
theorem dJ7_copyOf_6403c_17 : decode cJ7_copyOf_6403c 17 = .ok (.iload_n 1, 1) := by decide +kernel
theorem dJ7_copyOf_6403c_18 : decode cJ7_copyOf_6403c 18 = .ok (.invokestatic 95, 3) := by decide +kernel
theorem dJ7_copyOf_6403c_21 : decode cJ7_copyOf_6403c 21 = .ok (.checkcast 110, 3) := by decide +kernel
theorem dJ7_copyOf_6403c_24 : decode cJ7_copyOf_6403c 24 = .ok (.astore_n 3, 1) := by decide +kernel
theorem dJ7_copyOf_6403c_25 : decode cJ7_copyOf_6403c 25 = .ok (.aload_n 0, 1) := by decide +kernel
theorem dJ7_copyOf_6403c_26 : decode cJ7_copyOf_6403c 26 = .ok (.iconst 0, 1) := by decide +kernel
theorem dJ7_copyOf_6403c_27 : decode cJ7_copyOf_6403c 27 = .ok (.aload_n 3, 1) := by decide +kernel
theorem dJ7_copyOf_6403c_28 : decode cJ7_copyOf_6403c 28 = .ok (.iconst 0, 1) := by decide +kernel
theorem dJ7_copyOf_6403c_29 : decode cJ7_copyOf_6403c 29 = .ok (.aload_n 0, 1) := by decide +kernel
theorem dJ7_copyOf_6403c_30 : decode cJ7_copyOf_6403c 30 = .ok (.arraylength, 1) := by decide +kernel
theorem dJ7_copyOf_6403c_31 : decode cJ7_copyOf_6403c 31 = .ok (.iload_n 1, 1) := by decide +kernel
theorem dJ7_copyOf_6403c_32 : decode cJ7_copyOf_6403c 32 = .ok (.invokestatic 304, 3) := by decide +kernel
theorem dJ7_copyOf_6403c_35 : decode cJ7_copyOf_6403c 35 = .ok (.invokestatic 150, 3) := by decide +kernel
theorem dJ7_copyOf_6403c_38 : decode cJ7_copyOf_6403c 38 = .ok (.aload_n 3, 1) := by decide +kernel
theorem dJ7_copyOf_6403c_39 : decode cJ7_copyOf_6403c 39 = .ok (.areturn, 1) := by decide +kernel
set_option maxRecDepth 20000 in
theorem ggJ15_checkIndex_7cf53_J3_checkIndex_8e157 : GoodIn wsJ15_checkIndex_7cf53 wsJ3_checkIndex_8e157 := goodIn_r _ [4] (by decide +kernel) (by decide +kernel)
set_option maxRecDepth 20000 in
theorem gJ15_checkIndex_7cf53_J3_checkIndex_8e157 : GoodIn wsJ15_checkIndex_7cf53 (va_wsS RJ15 105 yJ3_checkIndex_8e157 wsJ3_checkIndex_8e157) := goodIn_app (goodIn_of _ (by decide +kernel)) ggJ15_checkIndex_7cf53_J3_checkIndex_8e157
theorem dJ15_checkIndex_7cf53_0 : decode cJ15_checkIndex_7cf53 0 = .ok (.iload_n 0, 1) := by decide +kernel
theorem dJ15_checkIndex_7cf53_1 : decode cJ15_checkIndex_7cf53 1 = .ok (.iload_n 1, 1) := by decide +kernel
theorem dJ15_checkIndex_7cf53_2 : decode cJ15_checkIndex_7cf53 2 = .ok (.aconst_null, 1) := by decide +kernel
theorem dJ15_checkIndex_7cf53_3 : decode cJ15_checkIndex_7cf53 3 = .ok (.invokestatic 105, 3) := by decide +kernel
theorem dJ15_checkIndex_7cf53_6 : decode cJ15_checkIndex_7cf53 6 = .ok (.ireturn, 1) := by decide +kernel
set_option maxRecDepth 20000 in
theorem ggJ8_newLength_cabcc_J8_hugeLength_7cf53 : GoodIn wsJ8_newLength_cabcc wsJ8_hugeLength_7cf53 := goodIn_r _ [9, 5] (by decide +kernel) (by decide +kernel)
set_option maxRecDepth 20000 in
theorem gJ8_newLength_cabcc_J8_hugeLength_7cf53 : GoodIn wsJ8_newLength_cabcc (va_wsS RJ8 201 yJ8_hugeLength_7cf53 wsJ8_hugeLength_7cf53) := goodIn_app (goodIn_of _ (by decide +kernel)) ggJ8_newLength_cabcc_J8_hugeLength_7cf53
theorem dJ8_newLength_cabcc_0 : decode cJ8_newLength_cabcc 0 = .ok (.iload_n 0, 1) := by decide +kernel
theorem dJ8_newLength_cabcc_1 : decode cJ8_newLength_cabcc 1 = .ok (.iload_n 1, 1) := by decide +kernel
theorem dJ8_newLength_cabcc_2 : decode cJ8_newLength_cabcc 2 = .ok (.iload_n 2, 1) := by decide +kernel
theorem dJ8_newLength_cabcc_3 : decode cJ8_newLength_cabcc 3 = .ok (.invokestatic 194, 3) := by decide +kernel
theorem dJ8_newLength_cabcc_6 : decode cJ8_newLength_cabcc 6 = .ok (.iadd, 1) := by decide +kernel
theorem dJ8_newLength_cabcc_7 : decode cJ8_newLength_cabcc 7 = .ok (.istore_n 3, 1) := by decide +kernel
theorem dJ8_newLength_cabcc_8 : decode cJ8_newLength_cabcc 8 = .ok (.iconst 0, 1) := by decide +kernel
theorem dJ8_newLength_cabcc_9 : decode cJ8_newLength_cabcc 9 = .ok (.iload_n 3, 1) := by decide +kernel
theorem dJ8_newLength_cabcc_10 : decode cJ8_newLength_cabcc 10 = .ok (.if_icmp .ge 11, 3) := by decide +kernel
theorem dJ8_newLength_cabcc_13 : decode cJ8_newLength_cabcc 13 = .ok (.iload_n 3, 1) := by decide +kernel
theorem dJ8_newLength_cabcc_14 : decode cJ8_newLength_cabcc 14 = .ok (.ldc 200, 2) := by decide +kernel
theorem dJ8_newLength_cabcc_16 : decode cJ8_newLength_cabcc 16 = .ok (.if_icmp .gt 5, 3) := by decide +kernel
theorem dJ8_newLength_cabcc_19 : decode cJ8_newLength_cabcc 19 = .ok (.iload_n 3, 1) := by decide +kernel
theorem dJ8_newLength_cabcc_20 : decode cJ8_newLength_cabcc 20 = .ok (.ireturn, 1) := by decide +kernel
theorem dJ8_newLength_cabcc_21 : decode cJ8_newLength_cabcc 21 = .ok (.iload_n 0, 1) := by decide +kernel
theorem dJ8_newLength_cabcc_22 : decode cJ8_newLength_cabcc 22 = .ok (.iload_n 1, 1) := by decide +kernel
theorem dJ8_newLength_cabcc_23 : decode cJ8_newLength_cabcc 23 = .ok (.invokestatic 201, 3) := by decide +kernel
theorem dJ8_newLength_cabcc_26 : decode cJ8_newLength_cabcc 26 = .ok (.ireturn, 1) := by decide +kernel
theorem dJ8_hugeLength_7cf53_0 : decode cJ8_hugeLength_7cf53 0 = .ok (.iload_n 0, 1) := by decide +kernel
theorem dJ8_hugeLength_7cf53_1 : decode cJ8_hugeLength_7cf53 1 = .ok (.iload_n 1, 1) := by decide +kernel
theorem dJ8_hugeLength_7cf53_2 : decode cJ8_hugeLength_7cf53 2 = .ok (.iadd, 1) := by decide +kernel
theorem dJ8_hugeLength_7cf53_3 : decode cJ8_hugeLength_7cf53 3 = .ok (.istore_n 2, 1) := by decide +kernel
theorem dJ8_hugeLength_7cf53_4 : decode cJ8_hugeLength_7cf53 4 = .ok (.iload_n 2, 1) := by decide +kernel
theorem dJ8_hugeLength_7cf53_5 : decode cJ8_hugeLength_7cf53 5 = .ok (.ifCond .ge 44, 3) := by decide +kernel
theorem dJ8_hugeLength_7cf53_8 : decode cJ8_hugeLength_7cf53 8 = .ok (.new 204, 3) := by decide +kernel
theorem dJ8_hugeLength_7cf53_11 : decode cJ8_hugeLength_7cf53 11 = .ok (.dup, 1) := by decide +kernel
theorem dJ8_hugeLength_7cf53_12 : decode cJ8_hugeLength_7cf53 12 = .ok (.new 89, 3) := by decide +kernel
theorem dJ8_hugeLength_7cf53_15 : decode cJ8_hugeLength_7cf53 15 = .ok (.dup, 1) := by decide +kernel
theorem dJ8_hugeLength_7cf53_16 : decode cJ8_hugeLength_7cf53 16 = .ok (.invokespecial 91, 3) := by decide +kernel
theorem dJ8_hugeLength_7cf53_19 : decode cJ8_hugeLength_7cf53 19 = .ok (.ldc 206, 2) := by decide +kernel
theorem dJ8_hugeLength_7cf53_21 : decode cJ8_hugeLength_7cf53 21 = .ok (.invokevirtual 94, 3) := by decide +kernel
theorem dJ8_hugeLength_7cf53_24 : decode cJ8_hugeLength_7cf53 24 = .ok (.iload_n 0, 1) := by decide +kernel
theorem dJ8_hugeLength_7cf53_25 : decode cJ8_hugeLength_7cf53 25 = .ok (.invokevirtual 98, 3) := by decide +kernel
theorem dJ8_hugeLength_7cf53_28 : decode cJ8_hugeLength_7cf53 28 = .ok (.ldc 208, 2) := by decide +kernel
theorem dJ8_hugeLength_7cf53_30 : decode cJ8_hugeLength_7cf53 30 = .ok (.invokevirtual 94, 3) := by decide +kernel
theorem dJ8_hugeLength_7cf53_33 : decode cJ8_hugeLength_7cf53 33 = .ok (.iload_n 1, 1) := by decide +kernel
theorem dJ8_hugeLength_7cf53_34 : decode cJ8_hugeLength_7cf53 34 = .ok (.invokevirtual 98, 3) := by decide +kernel
theorem dJ8_hugeLength_7cf53_37 : decode cJ8_hugeLength_7cf53 37 = .ok (.ldc 210, 2) := by decide +kernel
theorem dJ8_hugeLength_7cf53_39 : decode cJ8_hugeLength_7cf53 39 = .ok (.invokevirtual 94, 3) := by decide +kernel
theorem dJ8_hugeLength_7cf53_42 : decode cJ8_hugeLength_7cf53 42 = .ok (.invokevirtual 101, 3) := by decide +kernel
theorem dJ8_hugeLength_7cf53_45 : decode cJ8_hugeLength_7cf53 45 = .ok (.invokespecial 212, 3) := by decide +kernel
theorem dJ8_hugeLength_7cf53_48 : decode cJ8_hugeLength_7cf53 48 = .ok (.athrow, 1) := by decide +kernel
theorem dJ8_hugeLength_7cf53_49 : decode cJ8_hugeLength_7cf53 49 = .ok (.iload_n 2, 1) := by decide +kernel
theorem dJ8_hugeLength_7cf53_50 : decode cJ8_hugeLength_7cf53 50 = .ok (.ldc 200, 2) := by decide +kernel
theorem dJ8_hugeLength_7cf53_52 : decode cJ8_hugeLength_7cf53 52 = .ok (.if_icmp .gt 6, 3) := by decide +kernel
theorem dJ8_hugeLength_7cf53_55 : decode cJ8_hugeLength_7cf53 55 = .ok (.ldc 200, 2) := by decide +kernel
theorem dJ8_hugeLength_7cf53_57 : decode cJ8_hugeLength_7cf53 57 = .ok (.ireturn, 1) := by decide +kernel
theorem dJ8_hugeLength_7cf53_58 : decode cJ8_hugeLength_7cf53 58 = .ok (.iload_n 2, 1) := by decide +kernel
theorem dJ8_hugeLength_7cf53_59 : decode cJ8_hugeLength_7cf53 59 = .ok (.ireturn, 1) := by decide +kernel
theorem dJ3_checkIndex_8e157_0 : decode cJ3_checkIndex_8e157 0 = .ok (.iload_n 0, 1) := by decide +kernel
theorem dJ3_checkIndex_8e157_1 : decode cJ3_checkIndex_8e157 1 = .ok (.ifCond .lt 8, 3) := by decide +kernel
theorem dJ3_checkIndex_8e157_4 : decode cJ3_checkIndex_8e157 4 = .ok (.iload_n 0, 1) := by decide +kernel
theorem dJ3_checkIndex_8e157_5 : decode cJ3_checkIndex_8e157 5 = .ok (.iload_n 1, 1) := by decide +kernel
theorem dJ3_checkIndex_8e157_6 : decode cJ3_checkIndex_8e157 6 = .ok (.if_icmp .lt 10, 3) := by decide +kernel
theorem dJ3_checkIndex_8e157_9 : decode cJ3_checkIndex_8e157 9 = .ok (.aload_n 2, 1) := by decide +kernel
theorem dJ3_checkIndex_8e157_10 : decode cJ3_checkIndex_8e157 10 = .ok (.iload_n 0, 1) := by decide +kernel
theorem dJ3_checkIndex_8e157_11 : decode cJ3_checkIndex_8e157 11 = .ok (.iload_n 1, 1) := by decide +kernel
theorem dJ3_checkIndex_8e157_12 : decode cJ3_checkIndex_8e157 12 = .ok (.invokestatic 95, 3) := by decide +kernel
theorem dJ3_checkIndex_8e157_15 : decode cJ3_checkIndex_8e157 15 = .ok (.athrow, 1) := by decide +kernel
theorem dJ3_checkIndex_8e157_16 : decode cJ3_checkIndex_8e157 16 = .ok (.iload_n 0, 1) := by decide +kernel
theorem dJ3_checkIndex_8e157_17 : decode cJ3_checkIndex_8e157 17 = .ok (.ireturn, 1) := by decide +kernel
end
section
theorem wl_app {a b t : List Cond} (ha : ∀ w ∈ a, w ∈ t) (hb : ∀ w ∈ b, w ∈ t) : ∀ w ∈ a ++ b, w ∈ t := fun w h => (List.mem_append.mp h).elim (ha w) (hb w)
set_option maxRecDepth 20000 in
theorem wsL_law_r1_in : ∀ w ∈ wsL_law_r1, w ∈ lw_tbl := fun w h => (goodIn_p wsL_law_r1 [48, 51, 56] (by decide +kernel) (by decide +kernel) w h).1
set_option maxRecDepth 20000 in
theorem wsL_law_r2_in : ∀ w ∈ wsL_law_r2, w ∈ lw_tbl := fun w h => (goodIn_p wsL_law_r2 [102] (by decide +kernel) (by decide +kernel) w h).1
set_option maxRecDepth 20000 in
theorem wsL_law_r3_in : ∀ w ∈ wsL_law_r3, w ∈ lw_tbl := fun w h => (goodIn_p wsL_law_r3 [354, 360, 363, 366] (by decide +kernel) (by decide +kernel) w h).1
set_option maxRecDepth 20000 in
theorem wsL_law_r4_in : ∀ w ∈ wsL_law_r4, w ∈ lw_tbl := fun w h => (goodIn_p wsL_law_r4 [386, 429] (by decide +kernel) (by decide +kernel) w h).1
set_option maxRecDepth 20000 in
theorem wsL_law_r5_in : ∀ w ∈ wsL_law_r5, w ∈ lw_tbl := fun w h => (goodIn_p wsL_law_r5 [433, 437, 441, 447, 444, 451] (by decide +kernel) (by decide +kernel) w h).1
set_option maxRecDepth 20000 in
theorem wsL_law_r6_in : ∀ w ∈ wsL_law_r6, w ∈ lw_tbl := fun w h => (goodIn_p wsL_law_r6 [454, 468, 474, 141] (by decide +kernel) (by decide +kernel) w h).1
set_option maxRecDepth 20000 in
theorem wsL_law_r7_in : ∀ w ∈ wsL_law_r7, w ∈ lw_tbl := fun w h => (goodIn_p wsL_law_r7 [145, 149, 153, 157, 161] (by decide +kernel) (by decide +kernel) w h).1
set_option maxRecDepth 20000 in
theorem wsL_law_r8_in : ∀ w ∈ wsL_law_r8, w ∈ lw_tbl := fun w h => (goodIn_p wsL_law_r8 [165, 493, 497, 501, 505, 508] (by decide +kernel) (by decide +kernel) w h).1
set_option maxRecDepth 20000 in
theorem wsL_law_r9_in : ∀ w ∈ wsL_law_r9, w ∈ lw_tbl := fun w h => (goodIn_p wsL_law_r9 [511, 515, 169, 173, 177, 181] (by decide +kernel) (by decide +kernel) w h).1
set_option maxRecDepth 20000 in
theorem wsL_law_r10_in : ∀ w ∈ wsL_law_r10, w ∈ lw_tbl := fun w h => (goodIn_p wsL_law_r10 [184, 188, 191, 198, 519] (by decide +kernel) (by decide +kernel) w h).1
set_option maxRecDepth 20000 in
theorem wsL_law_r11_in : ∀ w ∈ wsL_law_r11, w ∈ lw_tbl := fun w h => (goodIn_p wsL_law_r11 [522, 202, 205, 209, 213, 526] (by decide +kernel) (by decide +kernel) w h).1
set_option maxRecDepth 20000 in
theorem wsL_law_r12_in : ∀ w ∈ wsL_law_r12, w ∈ lw_tbl := fun w h => (goodIn_p wsL_law_r12 [529, 533, 541] (by decide +kernel) (by decide +kernel) w h).1
set_option maxRecDepth 20000 in
theorem wsL_law_r13_in : ∀ w ∈ wsL_law_r13, w ∈ lw_tbl := fun w h => (goodIn_p wsL_law_r13 [217, 222, 576, 580, 584] (by decide +kernel) (by decide +kernel) w h).1
set_option maxRecDepth 20000 in
theorem wsL_law_r14_in : ∀ w ∈ wsL_law_r14, w ∈ lw_tbl := fun w h => (goodIn_p wsL_law_r14 [226, 588, 592, 596] (by decide +kernel) (by decide +kernel) w h).1
set_option maxRecDepth 20000 in
theorem wsL_law_r15_in : ∀ w ∈ wsL_law_r15, w ∈ lw_tbl := fun w h => (goodIn_p wsL_law_r15 [600, 231, 235, 239, 243] (by decide +kernel) (by decide +kernel) w h).1
set_option maxRecDepth 20000 in
theorem wsL_law_r16_in : ∀ w ∈ wsL_law_r16, w ∈ lw_tbl := fun w h => (goodIn_p wsL_law_r16 [247, 251, 255, 259, 263, 267] (by decide +kernel) (by decide +kernel) w h).1
set_option maxRecDepth 20000 in
theorem wsL_law_r17_in : ∀ w ∈ wsL_law_r17, w ∈ lw_tbl := fun w h => (goodIn_p wsL_law_r17 [604, 608, 611, 614, 272] (by decide +kernel) (by decide +kernel) w h).1
set_option maxRecDepth 20000 in
theorem wsL_law_r18_in : ∀ w ∈ wsL_law_r18, w ∈ lw_tbl := fun w h => (goodIn_p wsL_law_r18 [276, 280, 618, 284, 288] (by decide +kernel) (by decide +kernel) w h).1
set_option maxRecDepth 20000 in
theorem wsL_law_r19_in : ∀ w ∈ wsL_law_r19, w ∈ lw_tbl := fun w h => (goodIn_p wsL_law_r19 [292, 622, 626, 297, 301, 305] (by decide +kernel) (by decide +kernel) w h).1
set_option maxRecDepth 20000 in
theorem wsL_law_r20_in : ∀ w ∈ wsL_law_r20, w ∈ lw_tbl := fun w h => (goodIn_p wsL_law_r20 [309, 313, 630, 634, 317] (by decide +kernel) (by decide +kernel) w h).1
set_option maxRecDepth 20000 in
theorem wsL_law_r21_in : ∀ w ∈ wsL_law_r21, w ∈ lw_tbl := fun w h => (goodIn_p wsL_law_r21 [324, 328, 638, 332, 337, 642] (by decide +kernel) (by decide +kernel) w h).1
set_option maxRecDepth 20000 in
theorem wsL_law_r22_in : ∀ w ∈ wsL_law_r22, w ∈ lw_tbl := fun w h => (goodIn_p wsL_law_r22 [341, 345, 349, 647] (by decide +kernel) (by decide +kernel) w h).1
set_option maxRecDepth 20000 in
theorem wsX20_inT : ∀ w ∈ wsX20, w ∈ lw_tbl := fun w h => (goodIn_p wsX20 [] (by decide +kernel) (by decide +kernel) w h).1
set_option maxRecDepth 20000 in
theorem wsX50_inT : ∀ w ∈ wsX50, w ∈ lw_tbl := fun w h => (goodIn_p wsX50 [] (by decide +kernel) (by decide +kernel) w h).1
set_option maxRecDepth 20000 in
theorem wsX00_inT : ∀ w ∈ wsX00, w ∈ lw_tbl := fun w h => (goodIn_p wsX00 [] (by decide +kernel) (by decide +kernel) w h).1
set_option maxRecDepth 20000 in
theorem wsX10_inT : ∀ w ∈ wsX10, w ∈ lw_tbl := fun w h => (goodIn_p wsX10 [] (by decide +kernel) (by decide +kernel) w h).1
set_option maxRecDepth 20000 in
theorem wsJx4a65c0_inT : ∀ w ∈ wsJx4a65c0, w ∈ lw_tbl := fun w h => (goodIn_p wsJx4a65c0 [] (by decide +kernel) (by decide +kernel) w h).1
set_option maxRecDepth 20000 in
theorem wsX30_inT : ∀ w ∈ wsX30, w ∈ lw_tbl := fun w h => (goodIn_p wsX30 [] (by decide +kernel) (by decide +kernel) w h).1
set_option maxRecDepth 20000 in
theorem wsX40_inT : ∀ w ∈ wsX40, w ∈ lw_tbl := fun w h => (goodIn_p wsX40 [] (by decide +kernel) (by decide +kernel) w h).1
theorem wsL_law_in : ∀ w ∈ wsL_law, w ∈ lw_tbl := wl_app (wl_app (wl_app (wl_app (wl_app (wl_app (wl_app (wl_app (wl_app wsL_law_r1_in (wl_app wsL_law_r2_in (wl_app wsL_law_r3_in (wl_app wsL_law_r4_in (wl_app wsL_law_r5_in (wl_app wsL_law_r6_in (wl_app wsL_law_r7_in (wl_app wsL_law_r8_in (wl_app wsL_law_r9_in (wl_app wsL_law_r10_in (wl_app wsL_law_r11_in (wl_app wsL_law_r12_in (wl_app wsL_law_r13_in (wl_app wsL_law_r14_in (wl_app wsL_law_r15_in (wl_app wsL_law_r16_in (wl_app wsL_law_r17_in (wl_app wsL_law_r18_in (wl_app wsL_law_r19_in (wl_app wsL_law_r20_in (wl_app wsL_law_r21_in wsL_law_r22_in))))))))))))))))))))) wsX20_inT) wsX50_inT) wsX00_inT) wsX10_inT) wsJx4a65c0_inT) wsX30_inT) wsX40_inT) (fun _ h => absurd h List.not_mem_nil)
theorem inlX0 : ∀ w ∈ wsX00, w ∈ wsL_law := fun _ h => List.mem_append_left _ (List.mem_append_left _ (List.mem_append_left _ (List.mem_append_left _ (List.mem_append_left _ (List.mem_append_right _ h)))))
theorem inX0 : ∀ w ∈ wsX00, w ∈ lw_tbl := fun w h => wsL_law_in w (inlX0 w h)
theorem inlX1 : ∀ w ∈ wsX10, w ∈ wsL_law := fun _ h => List.mem_append_left _ (List.mem_append_left _ (List.mem_append_left _ (List.mem_append_left _ (List.mem_append_right _ h))))
theorem inX1 : ∀ w ∈ wsX10, w ∈ lw_tbl := fun w h => wsL_law_in w (inlX1 w h)
theorem inlX2 : ∀ w ∈ wsX20, w ∈ wsL_law := fun _ h => List.mem_append_left _ (List.mem_append_left _ (List.mem_append_left _ (List.mem_append_left _ (List.mem_append_left _ (List.mem_append_left _ (List.mem_append_left _ (List.mem_append_right _ h)))))))
theorem inX2 : ∀ w ∈ wsX20, w ∈ lw_tbl := fun w h => wsL_law_in w (inlX2 w h)
theorem inlX3 : ∀ w ∈ wsX30, w ∈ wsL_law := fun _ h => List.mem_append_left _ (List.mem_append_left _ (List.mem_append_right _ h))
theorem inX3 : ∀ w ∈ wsX30, w ∈ lw_tbl := fun w h => wsL_law_in w (inlX3 w h)
theorem inlX4 : ∀ w ∈ wsX40, w ∈ wsL_law := fun _ h => List.mem_append_left _ (List.mem_append_right _ h)
theorem inX4 : ∀ w ∈ wsX40, w ∈ lw_tbl := fun w h => wsL_law_in w (inlX4 w h)
theorem inlX5 : ∀ w ∈ wsX50, w ∈ wsL_law := fun _ h => List.mem_append_left _ (List.mem_append_left _ (List.mem_append_left _ (List.mem_append_left _ (List.mem_append_left _ (List.mem_append_left _ (List.mem_append_right _ h))))))
theorem inX5 : ∀ w ∈ wsX50, w ∈ lw_tbl := fun w h => wsL_law_in w (inlX5 w h)
theorem inJx145de : ∀ w ∈ wsJx145de0, w ∈ lw_tbl := by decide +kernel
theorem inJx8e188 : ∀ w ∈ wsJx8e1880, w ∈ lw_tbl := by decide +kernel
theorem inJxab1ab : ∀ w ∈ wsJxab1ab0, w ∈ lw_tbl := by decide +kernel
theorem inJ13 : ∀ w ∈ wsJ130, w ∈ lw_tbl := by decide +kernel
theorem inJ9 : ∀ w ∈ wsJ90, w ∈ lw_tbl := by decide +kernel
theorem inJ10 : ∀ w ∈ wsJ100, w ∈ lw_tbl := by decide +kernel
theorem inJxa1e45 : ∀ w ∈ wsJxa1e450, w ∈ lw_tbl := by decide +kernel
theorem inJxc12de : ∀ w ∈ wsJxc12de0, w ∈ lw_tbl := by decide +kernel
theorem inlJx4a65c : ∀ w ∈ wsJx4a65c0, w ∈ wsL_law := fun _ h => List.mem_append_left _ (List.mem_append_left _ (List.mem_append_left _ (List.mem_append_right _ h)))
theorem inJx4a65c : ∀ w ∈ wsJx4a65c0, w ∈ lw_tbl := fun w h => wsL_law_in w (inlJx4a65c w h)
theorem inJ7 : ∀ w ∈ wsJ70, w ∈ lw_tbl := by decide +kernel
theorem inJx5ef63 : ∀ w ∈ wsJx5ef630, w ∈ lw_tbl := by decide +kernel
theorem inJxbd725 : ∀ w ∈ wsJxbd7250, w ∈ lw_tbl := by decide +kernel
theorem inJ15 : ∀ w ∈ wsJ150, w ∈ lw_tbl := by decide +kernel
theorem inJxf0a74 : ∀ w ∈ wsJxf0a740, w ∈ lw_tbl := by decide +kernel
theorem inJxa66e6 : ∀ w ∈ wsJxa66e60, w ∈ lw_tbl := by decide +kernel
theorem inJ8 : ∀ w ∈ wsJ80, w ∈ lw_tbl := by decide +kernel
theorem inJ3 : ∀ w ∈ wsJ30, w ∈ lw_tbl := by decide +kernel
set_option maxRecDepth 20000 in
theorem ggL_law_X2_init : GoodIn wsL_law wsX2_init := goodIn_r _ [8, 9, 10, 11, 12, 13, 14, 15, 16, 17, 18, 19, 20, 21, 22, 23, 24, 25, 26, 27, 28, 29, 30, 31, 32, 33, 34, 35, 36, 37, 38, 39, 40, 41, 42, 43, 44, 45, 526, 527, 528, 529, 530, 531, 532, 533, 534, 535, 521, 522, 536, 537, 538, 539, 540, 541, 542] (by decide +kernel) (by decide +kernel)
set_option maxRecDepth 20000 in
theorem gL_law_X2_init : GoodIn wsL_law (wsX2_init) := ggL_law_X2_init
set_option maxRecDepth 20000 in
theorem ggL_law_X5_init : GoodIn wsL_law wsX5_init := goodIn_r _ [48, 49, 10, 11, 50, 51, 52, 53, 54, 55, 56, 57, 58, 59, 60, 61, 62, 63, 64, 65, 66, 67, 68, 69, 70, 71, 72, 73, 74, 75, 76, 77, 78, 79, 80, 81, 82, 83, 84, 85, 86, 87, 88, 89, 90, 91, 92, 93, 94, 95, 96, 97, 98, 99, 100, 101, 102, 103, 104, 105, 106, 107, 108, 109, 110, 111, 112, 113, 114, 115, 116, 117, 118, 119, 120, 121, 122, 123, 124, 125, 126, 127, 128, 129, 130, 131, 132, 133, 134, 135, 136, 137, 138, 139, 543, 544, 545, 523, 524, 525, 546, 547, 548, 549, 550, 551, 552, 553, 554] (by decide +kernel) (by decide +kernel)
set_option maxRecDepth 20000 in
theorem gL_law_X5_init : GoodIn wsL_law (wsX5_init) := ggL_law_X5_init
set_option maxRecDepth 20000 in
theorem ggL_law_X2_add : GoodIn wsL_law wsX2_add := goodIn_r _ [143, 15, 144, 145, 146, 147, 14, 148, 28, 149, 150, 151, 152, 23, 153, 154, 155, 156, 32, 31, 25, 26, 30, 34, 35, 157, 158, 159, 160, 161, 162, 163, 164, 33, 165, 166, 167, 168, 521, 522, 526, 527, 528, 529, 530, 531, 532, 533, 534, 535] (by decide +kernel) (by decide +kernel)
set_option maxRecDepth 20000 in
theorem gL_law_X2_add : GoodIn wsL_law (wsV RL 13 RX2 yX2_add wsX2_add) := goodIn_app (goodIn_of _ (by decide +kernel)) ggL_law_X2_add
set_option maxRecDepth 20000 in
theorem ggL_law_X5_add : GoodIn wsL_law wsX5_add := goodIn_r _ [172, 173, 53, 55, 56, 57, 174, 175, 176, 5, 177, 178, 179, 180, 181, 52, 182, 93, 183, 184, 185, 186, 187, 188, 189, 190, 191, 192, 193, 194, 195, 196, 197, 198, 62, 73, 74, 75, 76, 10, 11, 77, 51, 78, 79, 80, 81, 82, 83, 84, 85, 86, 59, 60, 61, 63, 64, 65, 66, 67, 68, 69, 70, 71, 72, 87, 88, 89, 90, 91, 92, 94, 95, 96, 97, 98, 99, 100, 101, 102, 103, 104, 105, 106, 107, 108, 109, 110, 111, 112, 113, 114, 115, 116, 117, 118, 119, 120, 121, 122, 123, 124, 125, 126, 127, 128, 129, 130, 131, 132, 133, 134, 135, 136, 137, 138, 139, 546, 547, 548, 549, 550, 551, 552, 553, 554, 523, 524, 525, 543, 544, 545] (by decide +kernel) (by decide +kernel)
set_option maxRecDepth 20000 in
theorem gL_law_X5_add : GoodIn wsL_law (wsV RL 17 RX5 yX5_add wsX5_add) := goodIn_app (goodIn_of _ (by decide +kernel)) ggL_law_X5_add
set_option maxRecDepth 20000 in
theorem ggL_law_X2_implement : GoodIn wsL_law wsX2_implement := goodIn_r _ [202, 15, 19, 203, 204, 205, 206, 14, 207, 23, 208, 209, 210, 211, 28, 149, 150, 151, 152, 212, 213, 214, 215, 34, 216, 2, 217, 218, 219, 220, 221, 222, 223, 224, 225, 226, 227, 228, 229, 230, 231, 232, 30, 31, 35, 25, 165, 166, 167, 168, 32, 33, 161, 162, 163, 164, 157, 158, 159, 160, 521, 522, 536, 537, 538, 539, 540, 541, 542, 526, 527, 528, 529, 530, 531, 532, 533, 534, 535] (by decide +kernel) (by decide +kernel)
set_option maxRecDepth 20000 in
theorem gL_law_X2_implement : GoodIn wsL_law (wsV RL 18 RX2 yX2_implement wsX2_implement) := goodIn_app (goodIn_of _ (by decide +kernel)) ggL_law_X2_implement
set_option maxRecDepth 20000 in
theorem ggL_law_X5_implement : GoodIn wsL_law wsX5_implement := goodIn_r _ [236, 53, 173, 237, 238, 174, 175, 176, 5, 177, 178, 179, 180, 181, 52, 182, 93, 183, 184, 185, 186, 187, 188, 189, 190, 191, 192, 193, 194, 195, 196, 197, 198, 62, 239, 240, 241, 87, 88, 89, 90, 91, 92, 94, 95, 96, 97, 98, 99, 100, 101, 102, 103, 104, 105, 61, 106, 107, 108, 109, 110, 111, 112, 113, 114, 115, 116, 117, 118, 119, 120, 121, 122, 123, 124, 125, 126, 127, 128, 129, 130, 131, 132, 133, 134, 135, 136, 137, 138, 139, 523, 524, 525, 546, 547, 548, 549, 550, 551, 552, 553, 554, 543, 544, 545] (by decide +kernel) (by decide +kernel)
set_option maxRecDepth 20000 in
theorem gL_law_X5_implement : GoodIn wsL_law (wsV RL 22 RX5 yX5_implement wsX5_implement) := goodIn_app (goodIn_of _ (by decide +kernel)) ggL_law_X5_implement
set_option maxRecDepth 20000 in
theorem ggL_law_X2_method : GoodIn wsL_law wsX2_method := goodIn_r _ [245, 15, 246, 19, 247, 204, 205, 206, 14, 207, 23, 248, 249, 2, 250, 251, 252, 253, 18, 254, 42, 43, 41, 255, 256, 257, 258, 39, 40, 44, 45, 521, 522, 526, 527, 528, 529, 530, 531, 532, 533, 534, 535, 536, 537, 538, 539, 540, 541, 542] (by decide +kernel) (by decide +kernel)
set_option maxRecDepth 20000 in
theorem gL_law_X2_method : GoodIn wsL_law (wsV RL 23 RX2 yX2_method wsX2_method) := goodIn_app (goodIn_of _ (by decide +kernel)) ggL_law_X2_method
set_option maxRecDepth 20000 in
theorem ggL_law_X5_method : GoodIn wsL_law wsX5_method := goodIn_r _ [262, 53, 178, 173, 54, 263, 264, 265, 237, 266, 179, 180, 181, 52, 182, 93, 183, 184, 185, 186, 187, 188, 189, 190, 191, 192, 193, 194, 195, 196, 197, 198, 62, 267, 268, 5, 269, 270, 271, 272, 57, 273, 79, 274, 275, 276, 277, 278, 279, 280, 281, 10, 11, 282, 283, 284, 285, 286, 287, 288, 87, 88, 89, 90, 91, 92, 94, 95, 96, 97, 98, 99, 100, 101, 102, 103, 104, 105, 61, 106, 107, 108, 109, 110, 111, 112, 113, 114, 115, 116, 117, 118, 119, 120, 121, 122, 123, 124, 125, 126, 127, 128, 129, 130, 131, 132, 133, 134, 135, 136, 137, 138, 139, 523, 524, 525, 546, 547, 548, 549, 550, 551, 552, 553, 554, 555, 556, 557, 558, 559, 560, 561, 543, 544, 545] (by decide +kernel) (by decide +kernel)
set_option maxRecDepth 20000 in
theorem gL_law_X5_method : GoodIn wsL_law (wsV RL 27 RX5 yX5_method wsX5_method) := goodIn_app (goodIn_of _ (by decide +kernel)) ggL_law_X5_method
set_option maxRecDepth 20000 in
theorem ggL_law_X2_isBelow : GoodIn wsL_law wsX2_isBelow := goodIn_r _ [292, 15, 293, 150, 151, 14, 152, 23, 294, 295, 296, 297, 30, 216, 2, 217, 521, 522, 526, 527, 528, 529, 530, 531, 532, 533, 534, 535] (by decide +kernel) (by decide +kernel)
set_option maxRecDepth 20000 in
theorem gL_law_X2_isBelow : GoodIn wsL_law (wsV RL 28 RX2 yX2_isBelow wsX2_isBelow) := goodIn_app (goodIn_of _ (by decide +kernel)) ggL_law_X2_isBelow
set_option maxRecDepth 20000 in
theorem ggL_law_X5_isBelow : GoodIn wsL_law wsX5_isBelow := goodIn_r _ [301, 174, 175, 176, 5, 177, 53, 178, 179, 180, 181, 52, 182, 93, 183, 184, 185, 186, 187, 188, 189, 190, 191, 192, 193, 194, 195, 196, 197, 198, 62, 302, 303, 304, 305, 306, 307, 308, 309, 310, 311, 312, 313, 238, 523, 524, 525, 543, 544, 545, 546, 547, 548, 549, 550, 551, 552, 553, 554] (by decide +kernel) (by decide +kernel)
set_option maxRecDepth 20000 in
theorem gL_law_X5_isBelow : GoodIn wsL_law (wsV RL 32 RX5 yX5_isBelow wsX5_isBelow) := goodIn_app (goodIn_of _ (by decide +kernel)) ggL_law_X5_isBelow
set_option maxRecDepth 20000 in
theorem ggL_law_X2_face : GoodIn wsL_law wsX2_face := goodIn_r _ [317, 15, 318, 293, 150, 151, 14, 152, 23, 319, 162, 163, 164, 33, 32, 521, 522, 526, 527, 528, 529, 530, 531, 532, 533, 534, 535] (by decide +kernel) (by decide +kernel)
set_option maxRecDepth 20000 in
theorem gL_law_X2_face : GoodIn wsL_law (wsV RL 33 RX2 yX2_face wsX2_face) := goodIn_app (goodIn_of _ (by decide +kernel)) ggL_law_X2_face
set_option maxRecDepth 20000 in
theorem ggL_law_X5_face : GoodIn wsL_law wsX5_face := goodIn_r _ [323, 178, 312, 174, 175, 176, 5, 177, 53, 179, 180, 181, 52, 182, 93, 183, 184, 185, 186, 187, 188, 189, 190, 191, 192, 193, 194, 195, 196, 197, 198, 62, 324, 325, 326, 327, 328, 238, 329, 306, 330, 331, 332, 333, 91, 92, 334, 335, 336, 337, 311, 313, 87, 88, 89, 90, 94, 95, 96, 97, 98, 99, 100, 101, 102, 103, 104, 105, 61, 106, 107, 108, 109, 110, 111, 112, 113, 114, 115, 116, 117, 118, 119, 120, 121, 122, 123, 124, 125, 126, 127, 128, 129, 130, 131, 132, 133, 134, 135, 136, 137, 138, 139, 546, 547, 548, 549, 550, 551, 552, 553, 554, 523, 524, 525, 543, 544, 545] (by decide +kernel) (by decide +kernel)
set_option maxRecDepth 20000 in
theorem gL_law_X5_face : GoodIn wsL_law (wsV RL 36 RX5 yX5_face wsX5_face) := goodIn_app (goodIn_of _ (by decide +kernel)) ggL_law_X5_face
set_option maxRecDepth 20000 in
theorem ggL_law_X2_overrides : GoodIn wsL_law wsX2_overrides := goodIn_r _ [341, 19, 342, 343, 344, 18, 345, 39, 346, 347, 348, 2, 349, 15, 350, 351, 352, 353, 354, 355, 356, 357, 358, 359, 360, 361, 362, 363, 364, 45, 365, 366, 367, 368, 44, 369, 370, 371, 372, 373, 374, 375, 376, 377, 378, 379, 14, 380, 28, 381, 295, 296, 297, 30, 216, 217, 251, 252, 253, 254, 42, 43, 41, 521, 522, 536, 537, 538, 539, 540, 541, 542, 526, 527, 528, 529, 530, 531, 532, 533, 534, 535] (by decide +kernel) (by decide +kernel)
set_option maxRecDepth 20000 in
theorem gL_law_X2_overrides : GoodIn wsL_law (wsV RL 37 RX2 yX2_overrides wsX2_overrides) := goodIn_app (goodIn_of _ (by decide +kernel)) ggL_law_X2_overrides
set_option maxRecDepth 20000 in
theorem ggL_law_X5_overrides : GoodIn wsL_law wsX5_overrides := goodIn_r _ [385, 386, 387, 388, 5, 389, 54, 390, 179, 180, 181, 52, 182, 93, 183, 184, 185, 186, 187, 188, 189, 190, 191, 192, 193, 194, 195, 196, 197, 198, 62, 391, 392, 393, 394, 395, 396, 397, 313, 398, 399, 400, 401, 270, 271, 272, 57, 273, 79, 274, 275, 276, 277, 523, 524, 525, 543, 544, 545, 555, 556, 557, 558, 559, 560, 561, 546, 547, 548, 549, 550, 551, 552, 553, 554] (by decide +kernel) (by decide +kernel)
set_option maxRecDepth 20000 in
theorem gL_law_X5_overrides : GoodIn wsL_law (wsV RL 40 RX5 yX5_overrides wsX5_overrides) := goodIn_app (goodIn_of _ (by decide +kernel)) ggL_law_X5_overrides
set_option maxRecDepth 20000 in
theorem ggL_law_X2_broken : GoodIn wsL_law wsX2_broken := goodIn_r _ [405, 15, 19, 406, 203, 293, 150, 151, 14, 152, 23, 407, 408, 409, 2, 410, 351, 356, 377, 378, 379, 380, 28, 381, 295, 296, 297, 30, 216, 217, 251, 252, 253, 18, 254, 42, 43, 41, 411, 412, 413, 414, 45, 346, 347, 348, 349, 350, 352, 353, 354, 355, 357, 358, 359, 360, 361, 362, 363, 364, 365, 366, 367, 368, 44, 369, 370, 371, 372, 373, 374, 375, 376, 521, 522, 536, 537, 538, 539, 540, 541, 542, 526, 527, 528, 529, 530, 531, 532, 533, 534, 535] (by decide +kernel) (by decide +kernel)
set_option maxRecDepth 20000 in
theorem gL_law_X2_broken : GoodIn wsL_law (wsV RL 41 RX2 yX2_broken wsX2_broken) := goodIn_app (goodIn_of _ (by decide +kernel)) ggL_law_X2_broken
set_option maxRecDepth 20000 in
theorem ggL_law_X5_broken : GoodIn wsL_law wsX5_broken := goodIn_r _ [418, 237, 390, 313, 395, 419, 266, 174, 175, 176, 5, 177, 53, 178, 179, 180, 181, 52, 182, 93, 183, 184, 185, 186, 187, 188, 189, 190, 191, 192, 193, 194, 195, 196, 197, 198, 62, 270, 271, 272, 57, 273, 79, 274, 275, 276, 277, 391, 392, 393, 394, 396, 397, 398, 399, 400, 401, 546, 547, 548, 549, 550, 551, 552, 553, 554, 555, 556, 557, 558, 559, 560, 561, 523, 524, 525, 543, 544, 545] (by decide +kernel) (by decide +kernel)
set_option maxRecDepth 20000 in
theorem gL_law_X5_broken : GoodIn wsL_law (wsV RL 45 RX5 yX5_broken wsX5_broken) := goodIn_app (goodIn_of _ (by decide +kernel)) ggL_law_X5_broken
set_option maxRecDepth 20000 in
theorem ggL_law_X2_nearest : GoodIn wsL_law wsX2_nearest := goodIn_r _ [423, 15, 318, 293, 150, 151, 14, 152, 23, 424, 425, 426, 2, 427, 19, 428, 319, 162, 163, 164, 33, 32, 251, 252, 253, 18, 254, 42, 43, 41, 429, 430, 431, 432, 433, 216, 217, 521, 522, 526, 527, 528, 529, 530, 531, 532, 533, 534, 535, 536, 537, 538, 539, 540, 541, 542] (by decide +kernel) (by decide +kernel)
set_option maxRecDepth 20000 in
theorem gL_law_X2_nearest : GoodIn wsL_law (wsV RL 46 RX2 yX2_nearest wsX2_nearest) := goodIn_app (goodIn_of _ (by decide +kernel)) ggL_law_X2_nearest
set_option maxRecDepth 20000 in
theorem ggL_law_X5_nearest : GoodIn wsL_law wsX5_nearest := goodIn_r _ [437, 178, 266, 174, 175, 176, 5, 177, 53, 179, 180, 181, 52, 182, 93, 183, 184, 185, 186, 187, 188, 189, 190, 191, 192, 193, 194, 195, 196, 197, 198, 62, 267, 268, 269, 324, 325, 326, 327, 328, 238, 329, 306, 330, 331, 332, 333, 91, 92, 334, 335, 336, 337, 311, 313, 87, 88, 89, 90, 94, 95, 96, 97, 98, 99, 100, 101, 102, 103, 104, 105, 61, 106, 107, 108, 109, 110, 111, 112, 113, 114, 115, 116, 117, 118, 119, 120, 121, 122, 123, 124, 125, 126, 127, 128, 129, 130, 131, 132, 133, 134, 135, 136, 137, 138, 139, 438, 439, 440, 441, 270, 271, 272, 57, 273, 79, 274, 275, 276, 277, 302, 303, 304, 305, 307, 308, 309, 310, 312, 555, 556, 557, 558, 559, 560, 561, 523, 524, 525, 543, 544, 545, 546, 547, 548, 549, 550, 551, 552, 553, 554] (by decide +kernel) (by decide +kernel)
set_option maxRecDepth 20000 in
theorem gL_law_X5_nearest : GoodIn wsL_law (wsV RL 49 RX5 yX5_nearest wsX5_nearest) := goodIn_app (goodIn_of _ (by decide +kernel)) ggL_law_X5_nearest
set_option maxRecDepth 20000 in
theorem ggL_law_X2_find : GoodIn wsL_law wsX2_find := goodIn_r _ [445, 15, 293, 150, 151, 14, 152, 23, 446, 447, 448, 2, 449, 19, 377, 378, 379, 380, 28, 381, 295, 296, 297, 30, 216, 217, 251, 252, 253, 18, 254, 42, 43, 41, 450, 451, 452, 453, 318, 424, 425, 426, 427, 428, 319, 162, 163, 164, 33, 32, 429, 430, 431, 432, 433, 454, 455, 456, 457, 45, 458, 459, 460, 461, 521, 522, 526, 527, 528, 529, 530, 531, 532, 533, 534, 535, 536, 537, 538, 539, 540, 541, 542] (by decide +kernel) (by decide +kernel)
set_option maxRecDepth 20000 in
theorem gL_law_X2_find : GoodIn wsL_law (wsV RL 50 RX2 yX2_find wsX2_find) := goodIn_app (goodIn_of _ (by decide +kernel)) ggL_law_X2_find
set_option maxRecDepth 20000 in
theorem ggL_law_X5_find : GoodIn wsL_law wsX5_find := goodIn_r _ [465, 266, 173, 313, 178, 174, 175, 176, 5, 177, 53, 179, 180, 181, 52, 182, 93, 183, 184, 185, 186, 187, 188, 189, 190, 191, 192, 193, 194, 195, 196, 197, 198, 62, 267, 268, 269, 270, 271, 272, 57, 273, 79, 274, 275, 276, 277, 466, 467, 468, 469, 470, 324, 325, 326, 327, 328, 238, 329, 306, 330, 331, 332, 333, 91, 92, 334, 335, 336, 337, 311, 87, 88, 89, 90, 94, 95, 96, 97, 98, 99, 100, 101, 102, 103, 104, 105, 61, 106, 107, 108, 109, 110, 111, 112, 113, 114, 115, 116, 117, 118, 119, 120, 121, 122, 123, 124, 125, 126, 127, 128, 129, 130, 131, 132, 133, 134, 135, 136, 137, 138, 139, 438, 439, 440, 441, 302, 303, 304, 305, 307, 308, 309, 310, 312, 555, 556, 557, 558, 559, 560, 561, 546, 547, 548, 549, 550, 551, 552, 553, 554, 523, 524, 525, 543, 544, 545] (by decide +kernel) (by decide +kernel)
set_option maxRecDepth 20000 in
theorem gL_law_X5_find : GoodIn wsL_law (wsV RL 53 RX5 yX5_find wsX5_find) := goodIn_app (goodIn_of _ (by decide +kernel)) ggL_law_X5_find
set_option maxRecDepth 20000 in
theorem ggL_law_X2_choose : GoodIn wsL_law wsX2_choose := goodIn_r _ [474, 15, 19, 351, 356, 145, 146, 147, 14, 148, 28, 149, 150, 151, 152, 23, 342, 343, 344, 18, 345, 39, 475, 362, 363, 364, 45, 476, 290, 291, 2, 292, 293, 294, 295, 296, 297, 30, 216, 217, 477, 366, 367, 368, 44, 478, 479, 480, 481, 377, 378, 379, 380, 381, 251, 252, 253, 254, 42, 43, 41, 346, 347, 348, 349, 350, 352, 353, 354, 355, 357, 358, 359, 360, 361, 365, 369, 370, 371, 372, 373, 374, 375, 376, 482, 483, 484, 485, 454, 455, 456, 457, 450, 451, 452, 453, 318, 424, 425, 426, 427, 428, 319, 162, 163, 164, 33, 32, 429, 430, 431, 432, 433, 521, 522, 536, 537, 538, 539, 540, 541, 542, 526, 527, 528, 529, 530, 531, 532, 533, 534, 535] (by decide +kernel) (by decide +kernel)
set_option maxRecDepth 20000 in
theorem gL_law_X2_choose : GoodIn wsL_law (wsV RL 54 RX2 yX2_choose wsX2_choose) := goodIn_app (goodIn_of _ (by decide +kernel)) ggL_law_X2_choose
set_option maxRecDepth 20000 in
theorem ggL_law_X5_choose : GoodIn wsL_law wsX5_choose := goodIn_r _ [489, 173, 401, 394, 396, 395, 470, 266, 313, 174, 175, 176, 5, 177, 53, 178, 179, 180, 181, 52, 182, 93, 183, 184, 185, 186, 187, 188, 189, 190, 191, 192, 193, 194, 195, 196, 197, 198, 62, 386, 387, 388, 389, 54, 390, 302, 303, 304, 305, 306, 307, 308, 309, 310, 311, 312, 238, 270, 271, 272, 57, 273, 79, 274, 275, 276, 277, 391, 392, 393, 397, 398, 399, 400, 466, 467, 468, 469, 324, 325, 326, 327, 328, 329, 330, 331, 332, 333, 91, 92, 334, 335, 336, 337, 87, 88, 89, 90, 94, 95, 96, 97, 98, 99, 100, 101, 102, 103, 104, 105, 61, 106, 107, 108, 109, 110, 111, 112, 113, 114, 115, 116, 117, 118, 119, 120, 121, 122, 123, 124, 125, 126, 127, 128, 129, 130, 131, 132, 133, 134, 135, 136, 137, 138, 139, 438, 439, 440, 441, 546, 547, 548, 549, 550, 551, 552, 553, 554, 555, 556, 557, 558, 559, 560, 561, 523, 524, 525, 543, 544, 545] (by decide +kernel) (by decide +kernel)
set_option maxRecDepth 20000 in
theorem gL_law_X5_choose : GoodIn wsL_law (wsV RL 57 RX5 yX5_choose wsX5_choose) := goodIn_app (goodIn_of _ (by decide +kernel)) ggL_law_X5_choose
set_option maxRecDepth 20000 in
theorem ggL_law_X2_special : GoodIn wsL_law wsX2_special := goodIn_r _ [493, 15, 19, 494, 145, 146, 147, 14, 148, 28, 149, 150, 151, 152, 23, 495, 443, 444, 2, 445, 293, 446, 447, 448, 449, 377, 378, 379, 380, 381, 295, 296, 297, 30, 216, 217, 251, 252, 253, 18, 254, 42, 43, 41, 450, 451, 452, 453, 318, 424, 425, 426, 427, 428, 319, 162, 163, 164, 33, 32, 429, 430, 431, 432, 433, 454, 455, 456, 457, 45, 458, 459, 460, 461, 475, 362, 363, 364, 477, 366, 367, 368, 44, 294, 496, 497, 498, 499, 482, 483, 484, 485, 521, 522, 526, 527, 528, 529, 530, 531, 532, 533, 534, 535, 536, 537, 538, 539, 540, 541, 542] (by decide +kernel) (by decide +kernel)
set_option maxRecDepth 20000 in
theorem gL_law_X2_special : GoodIn wsL_law (wsV RL 58 RX2 yX2_special wsX2_special) := goodIn_app (goodIn_of _ (by decide +kernel)) ggL_law_X2_special
set_option maxRecDepth 20000 in
theorem ggL_law_X5_special : GoodIn wsL_law wsX5_special := goodIn_r _ [503, 173, 401, 396, 313, 470, 266, 174, 175, 176, 5, 177, 53, 178, 179, 180, 181, 52, 182, 93, 183, 184, 185, 186, 187, 188, 189, 190, 191, 192, 193, 194, 195, 196, 197, 198, 62, 267, 268, 269, 504, 463, 464, 465, 270, 271, 272, 57, 273, 79, 274, 275, 276, 277, 466, 467, 468, 469, 324, 325, 326, 327, 328, 238, 329, 306, 330, 331, 332, 333, 91, 92, 334, 335, 336, 337, 311, 87, 88, 89, 90, 94, 95, 96, 97, 98, 99, 100, 101, 102, 103, 104, 105, 61, 106, 107, 108, 109, 110, 111, 112, 113, 114, 115, 116, 117, 118, 119, 120, 121, 122, 123, 124, 125, 126, 127, 128, 129, 130, 131, 132, 133, 134, 135, 136, 137, 138, 139, 438, 439, 440, 441, 302, 303, 304, 305, 307, 308, 309, 310, 312, 386, 387, 388, 389, 54, 390, 546, 547, 548, 549, 550, 551, 552, 553, 554, 555, 556, 557, 558, 559, 560, 561, 523, 524, 525, 543, 544, 545] (by decide +kernel) (by decide +kernel)
set_option maxRecDepth 20000 in
theorem gL_law_X5_special : GoodIn wsL_law (wsV RL 61 RX5 yX5_special wsX5_special) := goodIn_app (goodIn_of _ (by decide +kernel)) ggL_law_X5_special
set_option maxRecDepth 20000 in
theorem ggL_law_X2_kin : GoodIn wsL_law wsX2_kin := goodIn_r _ [508, 19, 247, 342, 343, 344, 18, 345, 39, 509, 510, 511, 2, 512, 15, 351, 294, 295, 296, 14, 297, 30, 216, 217, 346, 347, 348, 349, 350, 352, 353, 354, 355, 356, 357, 358, 359, 360, 361, 362, 363, 364, 45, 365, 366, 367, 368, 44, 369, 370, 371, 372, 373, 374, 375, 376, 377, 378, 379, 380, 28, 381, 251, 252, 253, 254, 42, 43, 41, 513, 514, 515, 516, 246, 521, 522, 536, 537, 538, 539, 540, 541, 542, 526, 527, 528, 529, 530, 531, 532, 533, 534, 535] (by decide +kernel) (by decide +kernel)
set_option maxRecDepth 20000 in
theorem gL_law_X2_kin : GoodIn wsL_law (wsV RL 62 RX2 yX2_kin wsX2_kin) := goodIn_app (goodIn_of _ (by decide +kernel)) ggL_law_X2_kin
set_option maxRecDepth 20000 in
theorem ggL_law_X5_kin : GoodIn wsL_law wsX5_kin := goodIn_r _ [520, 54, 390, 395, 394, 386, 387, 388, 5, 389, 179, 180, 181, 52, 182, 93, 183, 184, 185, 186, 187, 188, 189, 190, 191, 192, 193, 194, 195, 196, 197, 198, 62, 302, 303, 304, 305, 306, 307, 308, 309, 310, 311, 312, 313, 238, 178, 391, 392, 393, 396, 397, 398, 399, 400, 401, 270, 271, 272, 57, 273, 79, 274, 275, 276, 277, 523, 524, 525, 555, 556, 557, 558, 559, 560, 561, 543, 544, 545, 546, 547, 548, 549, 550, 551, 552, 553, 554] (by decide +kernel) (by decide +kernel)
set_option maxRecDepth 20000 in
theorem gL_law_X5_kin : GoodIn wsL_law (wsV RL 65 RX5 yX5_kin wsX5_kin) := goodIn_app (goodIn_of _ (by decide +kernel)) ggL_law_X5_kin
theorem dL_law_0 : decode cL_law 0 = .ok (.new 7, 3) := by decide +kernel
theorem dL_law_3 : decode cL_law 3 = .ok (.dup, 1) := by decide +kernel
theorem dL_law_4 : decode cL_law 4 = .ok (.invokespecial 9, 3) := by decide +kernel
theorem dL_law_7 : decode cL_law 7 = .ok (.astore_n 1, 1) := by decide +kernel
theorem dL_law_8 : decode cL_law 8 = .ok (.new 10, 3) := by decide +kernel
theorem dL_law_11 : decode cL_law 11 = .ok (.dup, 1) := by decide +kernel
theorem dL_law_12 : decode cL_law 12 = .ok (.invokespecial 12, 3) := by decide +kernel
theorem dL_law_15 : decode cL_law 15 = .ok (.astore_n 2, 1) := by decide +kernel
theorem dL_law_16 : decode cL_law 16 = .ok (.iconst 0, 1) := by decide +kernel
theorem dL_law_17 : decode cL_law 17 = .ok (.istore_n 3, 1) := by decide +kernel
theorem dL_law_18 : decode cL_law 18 = .ok (.iload_n 3, 1) := by decide +kernel
theorem dL_law_19 : decode cL_law 19 = .ok (.aload_n 0, 1) := by decide +kernel
theorem dL_law_20 : decode cL_law 20 = .ok (.arraylength, 1) := by decide +kernel
theorem dL_law_21 : decode cL_law 21 = .ok (.iconst 5, 1) := by decide +kernel
theorem dL_law_22 : decode cL_law 22 = .ok (.isub, 1) := by decide +kernel
theorem dL_law_23 : decode cL_law 23 = .ok (.if_icmp .gt 505, 3) := by decide +kernel
theorem dL_law_26 : decode cL_law 26 = .ok (.aload_n 0, 1) := by decide +kernel
theorem dL_law_27 : decode cL_law 27 = .ok (.iload_n 3, 1) := by decide +kernel
theorem dL_law_28 : decode cL_law 28 = .ok (.iaload, 1) := by decide +kernel
theorem dL_law_29 : decode cL_law 29 = .ok (.bipush 15, 2) := by decide +kernel
theorem dL_law_31 : decode cL_law 31 = .ok (.iand, 1) := by decide +kernel
theorem dL_law_32 : decode cL_law 32 = .ok (.tableswitch 490 0 11 #[64, 107, 140, 193, 226, 259, 292, 315, 358, 391, 424, 467], 64) := by decide +kernel
theorem dL_law_96 : decode cL_law 96 = .ok (.aload_n 1, 1) := by decide +kernel
theorem dL_law_97 : decode cL_law 97 = .ok (.aload_n 0, 1) := by decide +kernel
theorem dL_law_98 : decode cL_law 98 = .ok (.iload_n 3, 1) := by decide +kernel
theorem dL_law_99 : decode cL_law 99 = .ok (.iconst 1, 1) := by decide +kernel
theorem dL_law_100 : decode cL_law 100 = .ok (.iadd, 1) := by decide +kernel
theorem dL_law_101 : decode cL_law 101 = .ok (.iaload, 1) := by decide +kernel
theorem dL_law_102 : decode cL_law 102 = .ok (.aload_n 0, 1) := by decide +kernel
theorem dL_law_103 : decode cL_law 103 = .ok (.iload_n 3, 1) := by decide +kernel
theorem dL_law_104 : decode cL_law 104 = .ok (.iconst 2, 1) := by decide +kernel
theorem dL_law_105 : decode cL_law 105 = .ok (.iadd, 1) := by decide +kernel
theorem dL_law_106 : decode cL_law 106 = .ok (.iaload, 1) := by decide +kernel
theorem dL_law_107 : decode cL_law 107 = .ok (.aload_n 0, 1) := by decide +kernel
theorem dL_law_108 : decode cL_law 108 = .ok (.iload_n 3, 1) := by decide +kernel
theorem dL_law_109 : decode cL_law 109 = .ok (.iconst 3, 1) := by decide +kernel
theorem dL_law_110 : decode cL_law 110 = .ok (.iadd, 1) := by decide +kernel
theorem dL_law_111 : decode cL_law 111 = .ok (.iaload, 1) := by decide +kernel
theorem dL_law_112 : decode cL_law 112 = .ok (.invokevirtual 13, 3) := by decide +kernel
theorem dL_law_115 : decode cL_law 115 = .ok (.aload_n 2, 1) := by decide +kernel
theorem dL_law_116 : decode cL_law 116 = .ok (.aload_n 0, 1) := by decide +kernel
theorem dL_law_117 : decode cL_law 117 = .ok (.iload_n 3, 1) := by decide +kernel
theorem dL_law_118 : decode cL_law 118 = .ok (.iconst 1, 1) := by decide +kernel
theorem dL_law_119 : decode cL_law 119 = .ok (.iadd, 1) := by decide +kernel
theorem dL_law_120 : decode cL_law 120 = .ok (.iaload, 1) := by decide +kernel
theorem dL_law_121 : decode cL_law 121 = .ok (.aload_n 0, 1) := by decide +kernel
theorem dL_law_122 : decode cL_law 122 = .ok (.iload_n 3, 1) := by decide +kernel
theorem dL_law_123 : decode cL_law 123 = .ok (.iconst 2, 1) := by decide +kernel
theorem dL_law_124 : decode cL_law 124 = .ok (.iadd, 1) := by decide +kernel
theorem dL_law_125 : decode cL_law 125 = .ok (.iaload, 1) := by decide +kernel
theorem dL_law_126 : decode cL_law 126 = .ok (.aload_n 0, 1) := by decide +kernel
theorem dL_law_127 : decode cL_law 127 = .ok (.iload_n 3, 1) := by decide +kernel
theorem dL_law_128 : decode cL_law 128 = .ok (.iconst 3, 1) := by decide +kernel
theorem dL_law_129 : decode cL_law 129 = .ok (.iadd, 1) := by decide +kernel
theorem dL_law_130 : decode cL_law 130 = .ok (.iaload, 1) := by decide +kernel
theorem dL_law_131 : decode cL_law 131 = .ok (.invokevirtual 17, 3) := by decide +kernel
theorem dL_law_134 : decode cL_law 134 = .ok (.if_icmp .eq 388, 3) := by decide +kernel
theorem dL_law_137 : decode cL_law 137 = .ok (.iconst 0, 1) := by decide +kernel
theorem dL_law_138 : decode cL_law 138 = .ok (.ireturn, 1) := by decide +kernel
theorem dL_law_139 : decode cL_law 139 = .ok (.aload_n 1, 1) := by decide +kernel
theorem dL_law_140 : decode cL_law 140 = .ok (.aload_n 0, 1) := by decide +kernel
theorem dL_law_141 : decode cL_law 141 = .ok (.iload_n 3, 1) := by decide +kernel
theorem dL_law_142 : decode cL_law 142 = .ok (.iconst 1, 1) := by decide +kernel
theorem dL_law_143 : decode cL_law 143 = .ok (.iadd, 1) := by decide +kernel
theorem dL_law_144 : decode cL_law 144 = .ok (.iaload, 1) := by decide +kernel
theorem dL_law_145 : decode cL_law 145 = .ok (.aload_n 0, 1) := by decide +kernel
theorem dL_law_146 : decode cL_law 146 = .ok (.iload_n 3, 1) := by decide +kernel
theorem dL_law_147 : decode cL_law 147 = .ok (.iconst 2, 1) := by decide +kernel
theorem dL_law_148 : decode cL_law 148 = .ok (.iadd, 1) := by decide +kernel
theorem dL_law_149 : decode cL_law 149 = .ok (.iaload, 1) := by decide +kernel
theorem dL_law_150 : decode cL_law 150 = .ok (.invokevirtual 18, 3) := by decide +kernel
theorem dL_law_153 : decode cL_law 153 = .ok (.pop, 1) := by decide +kernel
theorem dL_law_154 : decode cL_law 154 = .ok (.aload_n 2, 1) := by decide +kernel
theorem dL_law_155 : decode cL_law 155 = .ok (.aload_n 0, 1) := by decide +kernel
theorem dL_law_156 : decode cL_law 156 = .ok (.iload_n 3, 1) := by decide +kernel
theorem dL_law_157 : decode cL_law 157 = .ok (.iconst 1, 1) := by decide +kernel
theorem dL_law_158 : decode cL_law 158 = .ok (.iadd, 1) := by decide +kernel
theorem dL_law_159 : decode cL_law 159 = .ok (.iaload, 1) := by decide +kernel
theorem dL_law_160 : decode cL_law 160 = .ok (.aload_n 0, 1) := by decide +kernel
theorem dL_law_161 : decode cL_law 161 = .ok (.iload_n 3, 1) := by decide +kernel
theorem dL_law_162 : decode cL_law 162 = .ok (.iconst 2, 1) := by decide +kernel
theorem dL_law_163 : decode cL_law 163 = .ok (.iadd, 1) := by decide +kernel
theorem dL_law_164 : decode cL_law 164 = .ok (.iaload, 1) := by decide +kernel
theorem dL_law_165 : decode cL_law 165 = .ok (.invokevirtual 22, 3) := by decide +kernel
theorem dL_law_168 : decode cL_law 168 = .ok (.pop, 1) := by decide +kernel
theorem dL_law_169 : decode cL_law 169 = .ok (.goto 353, 3) := by decide +kernel
theorem dL_law_172 : decode cL_law 172 = .ok (.aload_n 1, 1) := by decide +kernel
theorem dL_law_173 : decode cL_law 173 = .ok (.aload_n 0, 1) := by decide +kernel
theorem dL_law_174 : decode cL_law 174 = .ok (.iload_n 3, 1) := by decide +kernel
theorem dL_law_175 : decode cL_law 175 = .ok (.iconst 1, 1) := by decide +kernel
theorem dL_law_176 : decode cL_law 176 = .ok (.iadd, 1) := by decide +kernel
theorem dL_law_177 : decode cL_law 177 = .ok (.iaload, 1) := by decide +kernel
theorem dL_law_178 : decode cL_law 178 = .ok (.aload_n 0, 1) := by decide +kernel
theorem dL_law_179 : decode cL_law 179 = .ok (.iload_n 3, 1) := by decide +kernel
theorem dL_law_180 : decode cL_law 180 = .ok (.iconst 2, 1) := by decide +kernel
theorem dL_law_181 : decode cL_law 181 = .ok (.iadd, 1) := by decide +kernel
theorem dL_law_182 : decode cL_law 182 = .ok (.iaload, 1) := by decide +kernel
theorem dL_law_183 : decode cL_law 183 = .ok (.aload_n 0, 1) := by decide +kernel
theorem dL_law_184 : decode cL_law 184 = .ok (.iload_n 3, 1) := by decide +kernel
theorem dL_law_185 : decode cL_law 185 = .ok (.iconst 3, 1) := by decide +kernel
theorem dL_law_186 : decode cL_law 186 = .ok (.iadd, 1) := by decide +kernel
theorem dL_law_187 : decode cL_law 187 = .ok (.iaload, 1) := by decide +kernel
theorem dL_law_188 : decode cL_law 188 = .ok (.aload_n 0, 1) := by decide +kernel
theorem dL_law_189 : decode cL_law 189 = .ok (.iload_n 3, 1) := by decide +kernel
theorem dL_law_190 : decode cL_law 190 = .ok (.iconst 4, 1) := by decide +kernel
theorem dL_law_191 : decode cL_law 191 = .ok (.iadd, 1) := by decide +kernel
theorem dL_law_192 : decode cL_law 192 = .ok (.iaload, 1) := by decide +kernel
theorem dL_law_193 : decode cL_law 193 = .ok (.invokevirtual 23, 3) := by decide +kernel
theorem dL_law_196 : decode cL_law 196 = .ok (.pop, 1) := by decide +kernel
theorem dL_law_197 : decode cL_law 197 = .ok (.aload_n 2, 1) := by decide +kernel
theorem dL_law_198 : decode cL_law 198 = .ok (.aload_n 0, 1) := by decide +kernel
theorem dL_law_199 : decode cL_law 199 = .ok (.iload_n 3, 1) := by decide +kernel
theorem dL_law_200 : decode cL_law 200 = .ok (.iconst 1, 1) := by decide +kernel
theorem dL_law_201 : decode cL_law 201 = .ok (.iadd, 1) := by decide +kernel
theorem dL_law_202 : decode cL_law 202 = .ok (.iaload, 1) := by decide +kernel
theorem dL_law_203 : decode cL_law 203 = .ok (.aload_n 0, 1) := by decide +kernel
theorem dL_law_204 : decode cL_law 204 = .ok (.iload_n 3, 1) := by decide +kernel
theorem dL_law_205 : decode cL_law 205 = .ok (.iconst 2, 1) := by decide +kernel
theorem dL_law_206 : decode cL_law 206 = .ok (.iadd, 1) := by decide +kernel
theorem dL_law_207 : decode cL_law 207 = .ok (.iaload, 1) := by decide +kernel
theorem dL_law_208 : decode cL_law 208 = .ok (.aload_n 0, 1) := by decide +kernel
theorem dL_law_209 : decode cL_law 209 = .ok (.iload_n 3, 1) := by decide +kernel
theorem dL_law_210 : decode cL_law 210 = .ok (.iconst 3, 1) := by decide +kernel
theorem dL_law_211 : decode cL_law 211 = .ok (.iadd, 1) := by decide +kernel
theorem dL_law_212 : decode cL_law 212 = .ok (.iaload, 1) := by decide +kernel
theorem dL_law_213 : decode cL_law 213 = .ok (.aload_n 0, 1) := by decide +kernel
theorem dL_law_214 : decode cL_law 214 = .ok (.iload_n 3, 1) := by decide +kernel
theorem dL_law_215 : decode cL_law 215 = .ok (.iconst 4, 1) := by decide +kernel
theorem dL_law_216 : decode cL_law 216 = .ok (.iadd, 1) := by decide +kernel
theorem dL_law_217 : decode cL_law 217 = .ok (.iaload, 1) := by decide +kernel
theorem dL_law_218 : decode cL_law 218 = .ok (.invokevirtual 27, 3) := by decide +kernel
theorem dL_law_221 : decode cL_law 221 = .ok (.pop, 1) := by decide +kernel
theorem dL_law_222 : decode cL_law 222 = .ok (.goto 300, 3) := by decide +kernel
theorem dL_law_225 : decode cL_law 225 = .ok (.aload_n 1, 1) := by decide +kernel
theorem dL_law_226 : decode cL_law 226 = .ok (.aload_n 0, 1) := by decide +kernel
theorem dL_law_227 : decode cL_law 227 = .ok (.iload_n 3, 1) := by decide +kernel
theorem dL_law_228 : decode cL_law 228 = .ok (.iconst 1, 1) := by decide +kernel
theorem dL_law_229 : decode cL_law 229 = .ok (.iadd, 1) := by decide +kernel
theorem dL_law_230 : decode cL_law 230 = .ok (.iaload, 1) := by decide +kernel
theorem dL_law_231 : decode cL_law 231 = .ok (.aload_n 0, 1) := by decide +kernel
theorem dL_law_232 : decode cL_law 232 = .ok (.iload_n 3, 1) := by decide +kernel
theorem dL_law_233 : decode cL_law 233 = .ok (.iconst 2, 1) := by decide +kernel
theorem dL_law_234 : decode cL_law 234 = .ok (.iadd, 1) := by decide +kernel
theorem dL_law_235 : decode cL_law 235 = .ok (.iaload, 1) := by decide +kernel
theorem dL_law_236 : decode cL_law 236 = .ok (.invokevirtual 28, 3) := by decide +kernel
theorem dL_law_239 : decode cL_law 239 = .ok (.pop, 1) := by decide +kernel
theorem dL_law_240 : decode cL_law 240 = .ok (.aload_n 2, 1) := by decide +kernel
theorem dL_law_241 : decode cL_law 241 = .ok (.aload_n 0, 1) := by decide +kernel
theorem dL_law_242 : decode cL_law 242 = .ok (.iload_n 3, 1) := by decide +kernel
theorem dL_law_243 : decode cL_law 243 = .ok (.iconst 1, 1) := by decide +kernel
theorem dL_law_244 : decode cL_law 244 = .ok (.iadd, 1) := by decide +kernel
theorem dL_law_245 : decode cL_law 245 = .ok (.iaload, 1) := by decide +kernel
theorem dL_law_246 : decode cL_law 246 = .ok (.aload_n 0, 1) := by decide +kernel
theorem dL_law_247 : decode cL_law 247 = .ok (.iload_n 3, 1) := by decide +kernel
theorem dL_law_248 : decode cL_law 248 = .ok (.iconst 2, 1) := by decide +kernel
theorem dL_law_249 : decode cL_law 249 = .ok (.iadd, 1) := by decide +kernel
theorem dL_law_250 : decode cL_law 250 = .ok (.iaload, 1) := by decide +kernel
theorem dL_law_251 : decode cL_law 251 = .ok (.invokevirtual 32, 3) := by decide +kernel
theorem dL_law_254 : decode cL_law 254 = .ok (.pop, 1) := by decide +kernel
theorem dL_law_255 : decode cL_law 255 = .ok (.goto 267, 3) := by decide +kernel
theorem dL_law_258 : decode cL_law 258 = .ok (.aload_n 1, 1) := by decide +kernel
theorem dL_law_259 : decode cL_law 259 = .ok (.aload_n 0, 1) := by decide +kernel
theorem dL_law_260 : decode cL_law 260 = .ok (.iload_n 3, 1) := by decide +kernel
theorem dL_law_261 : decode cL_law 261 = .ok (.iconst 1, 1) := by decide +kernel
theorem dL_law_262 : decode cL_law 262 = .ok (.iadd, 1) := by decide +kernel
theorem dL_law_263 : decode cL_law 263 = .ok (.iaload, 1) := by decide +kernel
theorem dL_law_264 : decode cL_law 264 = .ok (.aload_n 0, 1) := by decide +kernel
theorem dL_law_265 : decode cL_law 265 = .ok (.iload_n 3, 1) := by decide +kernel
theorem dL_law_266 : decode cL_law 266 = .ok (.iconst 2, 1) := by decide +kernel
theorem dL_law_267 : decode cL_law 267 = .ok (.iadd, 1) := by decide +kernel
theorem dL_law_268 : decode cL_law 268 = .ok (.iaload, 1) := by decide +kernel
theorem dL_law_269 : decode cL_law 269 = .ok (.invokevirtual 33, 3) := by decide +kernel
theorem dL_law_272 : decode cL_law 272 = .ok (.pop, 1) := by decide +kernel
theorem dL_law_273 : decode cL_law 273 = .ok (.aload_n 2, 1) := by decide +kernel
theorem dL_law_274 : decode cL_law 274 = .ok (.aload_n 0, 1) := by decide +kernel
theorem dL_law_275 : decode cL_law 275 = .ok (.iload_n 3, 1) := by decide +kernel
theorem dL_law_276 : decode cL_law 276 = .ok (.iconst 1, 1) := by decide +kernel
theorem dL_law_277 : decode cL_law 277 = .ok (.iadd, 1) := by decide +kernel
theorem dL_law_278 : decode cL_law 278 = .ok (.iaload, 1) := by decide +kernel
theorem dL_law_279 : decode cL_law 279 = .ok (.aload_n 0, 1) := by decide +kernel
theorem dL_law_280 : decode cL_law 280 = .ok (.iload_n 3, 1) := by decide +kernel
theorem dL_law_281 : decode cL_law 281 = .ok (.iconst 2, 1) := by decide +kernel
theorem dL_law_282 : decode cL_law 282 = .ok (.iadd, 1) := by decide +kernel
theorem dL_law_283 : decode cL_law 283 = .ok (.iaload, 1) := by decide +kernel
theorem dL_law_284 : decode cL_law 284 = .ok (.invokevirtual 36, 3) := by decide +kernel
theorem dL_law_287 : decode cL_law 287 = .ok (.pop, 1) := by decide +kernel
theorem dL_law_288 : decode cL_law 288 = .ok (.goto 234, 3) := by decide +kernel
theorem dL_law_291 : decode cL_law 291 = .ok (.aload_n 1, 1) := by decide +kernel
theorem dL_law_292 : decode cL_law 292 = .ok (.aload_n 0, 1) := by decide +kernel
theorem dL_law_293 : decode cL_law 293 = .ok (.iload_n 3, 1) := by decide +kernel
theorem dL_law_294 : decode cL_law 294 = .ok (.iconst 1, 1) := by decide +kernel
theorem dL_law_295 : decode cL_law 295 = .ok (.iadd, 1) := by decide +kernel
theorem dL_law_296 : decode cL_law 296 = .ok (.iaload, 1) := by decide +kernel
theorem dL_law_297 : decode cL_law 297 = .ok (.aload_n 0, 1) := by decide +kernel
theorem dL_law_298 : decode cL_law 298 = .ok (.iload_n 3, 1) := by decide +kernel
theorem dL_law_299 : decode cL_law 299 = .ok (.iconst 2, 1) := by decide +kernel
theorem dL_law_300 : decode cL_law 300 = .ok (.iadd, 1) := by decide +kernel
theorem dL_law_301 : decode cL_law 301 = .ok (.iaload, 1) := by decide +kernel
theorem dL_law_302 : decode cL_law 302 = .ok (.invokevirtual 37, 3) := by decide +kernel
theorem dL_law_305 : decode cL_law 305 = .ok (.pop, 1) := by decide +kernel
theorem dL_law_306 : decode cL_law 306 = .ok (.aload_n 2, 1) := by decide +kernel
theorem dL_law_307 : decode cL_law 307 = .ok (.aload_n 0, 1) := by decide +kernel
theorem dL_law_308 : decode cL_law 308 = .ok (.iload_n 3, 1) := by decide +kernel
theorem dL_law_309 : decode cL_law 309 = .ok (.iconst 1, 1) := by decide +kernel
theorem dL_law_310 : decode cL_law 310 = .ok (.iadd, 1) := by decide +kernel
theorem dL_law_311 : decode cL_law 311 = .ok (.iaload, 1) := by decide +kernel
theorem dL_law_312 : decode cL_law 312 = .ok (.aload_n 0, 1) := by decide +kernel
theorem dL_law_313 : decode cL_law 313 = .ok (.iload_n 3, 1) := by decide +kernel
theorem dL_law_314 : decode cL_law 314 = .ok (.iconst 2, 1) := by decide +kernel
theorem dL_law_315 : decode cL_law 315 = .ok (.iadd, 1) := by decide +kernel
theorem dL_law_316 : decode cL_law 316 = .ok (.iaload, 1) := by decide +kernel
theorem dL_law_317 : decode cL_law 317 = .ok (.invokevirtual 40, 3) := by decide +kernel
theorem dL_law_320 : decode cL_law 320 = .ok (.pop, 1) := by decide +kernel
theorem dL_law_321 : decode cL_law 321 = .ok (.goto 201, 3) := by decide +kernel
theorem dL_law_324 : decode cL_law 324 = .ok (.aload_n 1, 1) := by decide +kernel
theorem dL_law_325 : decode cL_law 325 = .ok (.aload_n 0, 1) := by decide +kernel
theorem dL_law_326 : decode cL_law 326 = .ok (.iload_n 3, 1) := by decide +kernel
theorem dL_law_327 : decode cL_law 327 = .ok (.iconst 1, 1) := by decide +kernel
theorem dL_law_328 : decode cL_law 328 = .ok (.iadd, 1) := by decide +kernel
theorem dL_law_329 : decode cL_law 329 = .ok (.iaload, 1) := by decide +kernel
theorem dL_law_330 : decode cL_law 330 = .ok (.invokevirtual 41, 3) := by decide +kernel
theorem dL_law_333 : decode cL_law 333 = .ok (.pop, 1) := by decide +kernel
theorem dL_law_334 : decode cL_law 334 = .ok (.aload_n 2, 1) := by decide +kernel
theorem dL_law_335 : decode cL_law 335 = .ok (.aload_n 0, 1) := by decide +kernel
theorem dL_law_336 : decode cL_law 336 = .ok (.iload_n 3, 1) := by decide +kernel
theorem dL_law_337 : decode cL_law 337 = .ok (.iconst 1, 1) := by decide +kernel
theorem dL_law_338 : decode cL_law 338 = .ok (.iadd, 1) := by decide +kernel
theorem dL_law_339 : decode cL_law 339 = .ok (.iaload, 1) := by decide +kernel
theorem dL_law_340 : decode cL_law 340 = .ok (.invokevirtual 45, 3) := by decide +kernel
theorem dL_law_343 : decode cL_law 343 = .ok (.pop, 1) := by decide +kernel
theorem dL_law_344 : decode cL_law 344 = .ok (.goto 178, 3) := by decide +kernel
theorem dL_law_347 : decode cL_law 347 = .ok (.aload_n 1, 1) := by decide +kernel
theorem dL_law_348 : decode cL_law 348 = .ok (.aload_n 0, 1) := by decide +kernel
theorem dL_law_349 : decode cL_law 349 = .ok (.iload_n 3, 1) := by decide +kernel
theorem dL_law_350 : decode cL_law 350 = .ok (.iconst 1, 1) := by decide +kernel
theorem dL_law_351 : decode cL_law 351 = .ok (.iadd, 1) := by decide +kernel
theorem dL_law_352 : decode cL_law 352 = .ok (.iaload, 1) := by decide +kernel
theorem dL_law_353 : decode cL_law 353 = .ok (.aload_n 0, 1) := by decide +kernel
theorem dL_law_354 : decode cL_law 354 = .ok (.iload_n 3, 1) := by decide +kernel
theorem dL_law_355 : decode cL_law 355 = .ok (.iconst 2, 1) := by decide +kernel
theorem dL_law_356 : decode cL_law 356 = .ok (.iadd, 1) := by decide +kernel
theorem dL_law_357 : decode cL_law 357 = .ok (.iaload, 1) := by decide +kernel
theorem dL_law_358 : decode cL_law 358 = .ok (.aload_n 0, 1) := by decide +kernel
theorem dL_law_359 : decode cL_law 359 = .ok (.iload_n 3, 1) := by decide +kernel
theorem dL_law_360 : decode cL_law 360 = .ok (.iconst 3, 1) := by decide +kernel
theorem dL_law_361 : decode cL_law 361 = .ok (.iadd, 1) := by decide +kernel
theorem dL_law_362 : decode cL_law 362 = .ok (.iaload, 1) := by decide +kernel
theorem dL_law_363 : decode cL_law 363 = .ok (.invokevirtual 46, 3) := by decide +kernel
theorem dL_law_366 : decode cL_law 366 = .ok (.pop, 1) := by decide +kernel
theorem dL_law_367 : decode cL_law 367 = .ok (.aload_n 2, 1) := by decide +kernel
theorem dL_law_368 : decode cL_law 368 = .ok (.aload_n 0, 1) := by decide +kernel
theorem dL_law_369 : decode cL_law 369 = .ok (.iload_n 3, 1) := by decide +kernel
theorem dL_law_370 : decode cL_law 370 = .ok (.iconst 1, 1) := by decide +kernel
theorem dL_law_371 : decode cL_law 371 = .ok (.iadd, 1) := by decide +kernel
theorem dL_law_372 : decode cL_law 372 = .ok (.iaload, 1) := by decide +kernel
theorem dL_law_373 : decode cL_law 373 = .ok (.aload_n 0, 1) := by decide +kernel
theorem dL_law_374 : decode cL_law 374 = .ok (.iload_n 3, 1) := by decide +kernel
theorem dL_law_375 : decode cL_law 375 = .ok (.iconst 2, 1) := by decide +kernel
theorem dL_law_376 : decode cL_law 376 = .ok (.iadd, 1) := by decide +kernel
theorem dL_law_377 : decode cL_law 377 = .ok (.iaload, 1) := by decide +kernel
theorem dL_law_378 : decode cL_law 378 = .ok (.aload_n 0, 1) := by decide +kernel
theorem dL_law_379 : decode cL_law 379 = .ok (.iload_n 3, 1) := by decide +kernel
theorem dL_law_380 : decode cL_law 380 = .ok (.iconst 3, 1) := by decide +kernel
theorem dL_law_381 : decode cL_law 381 = .ok (.iadd, 1) := by decide +kernel
theorem dL_law_382 : decode cL_law 382 = .ok (.iaload, 1) := by decide +kernel
theorem dL_law_383 : decode cL_law 383 = .ok (.invokevirtual 49, 3) := by decide +kernel
theorem dL_law_386 : decode cL_law 386 = .ok (.pop, 1) := by decide +kernel
theorem dL_law_387 : decode cL_law 387 = .ok (.goto 135, 3) := by decide +kernel
theorem dL_law_390 : decode cL_law 390 = .ok (.aload_n 1, 1) := by decide +kernel
theorem dL_law_391 : decode cL_law 391 = .ok (.aload_n 0, 1) := by decide +kernel
theorem dL_law_392 : decode cL_law 392 = .ok (.iload_n 3, 1) := by decide +kernel
theorem dL_law_393 : decode cL_law 393 = .ok (.iconst 1, 1) := by decide +kernel
theorem dL_law_394 : decode cL_law 394 = .ok (.iadd, 1) := by decide +kernel
theorem dL_law_395 : decode cL_law 395 = .ok (.iaload, 1) := by decide +kernel
theorem dL_law_396 : decode cL_law 396 = .ok (.aload_n 0, 1) := by decide +kernel
theorem dL_law_397 : decode cL_law 397 = .ok (.iload_n 3, 1) := by decide +kernel
theorem dL_law_398 : decode cL_law 398 = .ok (.iconst 2, 1) := by decide +kernel
theorem dL_law_399 : decode cL_law 399 = .ok (.iadd, 1) := by decide +kernel
theorem dL_law_400 : decode cL_law 400 = .ok (.iaload, 1) := by decide +kernel
theorem dL_law_401 : decode cL_law 401 = .ok (.invokevirtual 50, 3) := by decide +kernel
theorem dL_law_404 : decode cL_law 404 = .ok (.pop, 1) := by decide +kernel
theorem dL_law_405 : decode cL_law 405 = .ok (.aload_n 2, 1) := by decide +kernel
theorem dL_law_406 : decode cL_law 406 = .ok (.aload_n 0, 1) := by decide +kernel
theorem dL_law_407 : decode cL_law 407 = .ok (.iload_n 3, 1) := by decide +kernel
theorem dL_law_408 : decode cL_law 408 = .ok (.iconst 1, 1) := by decide +kernel
theorem dL_law_409 : decode cL_law 409 = .ok (.iadd, 1) := by decide +kernel
theorem dL_law_410 : decode cL_law 410 = .ok (.iaload, 1) := by decide +kernel
theorem dL_law_411 : decode cL_law 411 = .ok (.aload_n 0, 1) := by decide +kernel
theorem dL_law_412 : decode cL_law 412 = .ok (.iload_n 3, 1) := by decide +kernel
theorem dL_law_413 : decode cL_law 413 = .ok (.iconst 2, 1) := by decide +kernel
theorem dL_law_414 : decode cL_law 414 = .ok (.iadd, 1) := by decide +kernel
theorem dL_law_415 : decode cL_law 415 = .ok (.iaload, 1) := by decide +kernel
theorem dL_law_416 : decode cL_law 416 = .ok (.invokevirtual 53, 3) := by decide +kernel
theorem dL_law_419 : decode cL_law 419 = .ok (.pop, 1) := by decide +kernel
theorem dL_law_420 : decode cL_law 420 = .ok (.goto 102, 3) := by decide +kernel
theorem dL_law_423 : decode cL_law 423 = .ok (.aload_n 1, 1) := by decide +kernel
theorem dL_law_424 : decode cL_law 424 = .ok (.aload_n 0, 1) := by decide +kernel
theorem dL_law_425 : decode cL_law 425 = .ok (.iload_n 3, 1) := by decide +kernel
theorem dL_law_426 : decode cL_law 426 = .ok (.iconst 1, 1) := by decide +kernel
theorem dL_law_427 : decode cL_law 427 = .ok (.iadd, 1) := by decide +kernel
theorem dL_law_428 : decode cL_law 428 = .ok (.iaload, 1) := by decide +kernel
theorem dL_law_429 : decode cL_law 429 = .ok (.aload_n 0, 1) := by decide +kernel
theorem dL_law_430 : decode cL_law 430 = .ok (.iload_n 3, 1) := by decide +kernel
theorem dL_law_431 : decode cL_law 431 = .ok (.iconst 2, 1) := by decide +kernel
theorem dL_law_432 : decode cL_law 432 = .ok (.iadd, 1) := by decide +kernel
theorem dL_law_433 : decode cL_law 433 = .ok (.iaload, 1) := by decide +kernel
theorem dL_law_434 : decode cL_law 434 = .ok (.invokevirtual 54, 3) := by decide +kernel
theorem dL_law_437 : decode cL_law 437 = .ok (.pop, 1) := by decide +kernel
theorem dL_law_438 : decode cL_law 438 = .ok (.aload_n 2, 1) := by decide +kernel
theorem dL_law_439 : decode cL_law 439 = .ok (.aload_n 0, 1) := by decide +kernel
theorem dL_law_440 : decode cL_law 440 = .ok (.iload_n 3, 1) := by decide +kernel
theorem dL_law_441 : decode cL_law 441 = .ok (.iconst 1, 1) := by decide +kernel
theorem dL_law_442 : decode cL_law 442 = .ok (.iadd, 1) := by decide +kernel
theorem dL_law_443 : decode cL_law 443 = .ok (.iaload, 1) := by decide +kernel
theorem dL_law_444 : decode cL_law 444 = .ok (.aload_n 0, 1) := by decide +kernel
theorem dL_law_445 : decode cL_law 445 = .ok (.iload_n 3, 1) := by decide +kernel
theorem dL_law_446 : decode cL_law 446 = .ok (.iconst 2, 1) := by decide +kernel
theorem dL_law_447 : decode cL_law 447 = .ok (.iadd, 1) := by decide +kernel
theorem dL_law_448 : decode cL_law 448 = .ok (.iaload, 1) := by decide +kernel
theorem dL_law_449 : decode cL_law 449 = .ok (.invokevirtual 57, 3) := by decide +kernel
theorem dL_law_452 : decode cL_law 452 = .ok (.pop, 1) := by decide +kernel
theorem dL_law_453 : decode cL_law 453 = .ok (.goto 69, 3) := by decide +kernel
theorem dL_law_456 : decode cL_law 456 = .ok (.aload_n 1, 1) := by decide +kernel
theorem dL_law_457 : decode cL_law 457 = .ok (.aload_n 0, 1) := by decide +kernel
theorem dL_law_458 : decode cL_law 458 = .ok (.iload_n 3, 1) := by decide +kernel
theorem dL_law_459 : decode cL_law 459 = .ok (.iconst 1, 1) := by decide +kernel
theorem dL_law_460 : decode cL_law 460 = .ok (.iadd, 1) := by decide +kernel
theorem dL_law_461 : decode cL_law 461 = .ok (.iaload, 1) := by decide +kernel
theorem dL_law_462 : decode cL_law 462 = .ok (.aload_n 0, 1) := by decide +kernel
theorem dL_law_463 : decode cL_law 463 = .ok (.iload_n 3, 1) := by decide +kernel
theorem dL_law_464 : decode cL_law 464 = .ok (.iconst 2, 1) := by decide +kernel
theorem dL_law_465 : decode cL_law 465 = .ok (.iadd, 1) := by decide +kernel
theorem dL_law_466 : decode cL_law 466 = .ok (.iaload, 1) := by decide +kernel
theorem dL_law_467 : decode cL_law 467 = .ok (.aload_n 0, 1) := by decide +kernel
theorem dL_law_468 : decode cL_law 468 = .ok (.iload_n 3, 1) := by decide +kernel
theorem dL_law_469 : decode cL_law 469 = .ok (.iconst 3, 1) := by decide +kernel
theorem dL_law_470 : decode cL_law 470 = .ok (.iadd, 1) := by decide +kernel
theorem dL_law_471 : decode cL_law 471 = .ok (.iaload, 1) := by decide +kernel
theorem dL_law_472 : decode cL_law 472 = .ok (.invokevirtual 58, 3) := by decide +kernel
theorem dL_law_475 : decode cL_law 475 = .ok (.pop, 1) := by decide +kernel
theorem dL_law_476 : decode cL_law 476 = .ok (.aload_n 2, 1) := by decide +kernel
theorem dL_law_477 : decode cL_law 477 = .ok (.aload_n 0, 1) := by decide +kernel
theorem dL_law_478 : decode cL_law 478 = .ok (.iload_n 3, 1) := by decide +kernel
theorem dL_law_479 : decode cL_law 479 = .ok (.iconst 1, 1) := by decide +kernel
theorem dL_law_480 : decode cL_law 480 = .ok (.iadd, 1) := by decide +kernel
theorem dL_law_481 : decode cL_law 481 = .ok (.iaload, 1) := by decide +kernel
theorem dL_law_482 : decode cL_law 482 = .ok (.aload_n 0, 1) := by decide +kernel
theorem dL_law_483 : decode cL_law 483 = .ok (.iload_n 3, 1) := by decide +kernel
theorem dL_law_484 : decode cL_law 484 = .ok (.iconst 2, 1) := by decide +kernel
theorem dL_law_485 : decode cL_law 485 = .ok (.iadd, 1) := by decide +kernel
theorem dL_law_486 : decode cL_law 486 = .ok (.iaload, 1) := by decide +kernel
theorem dL_law_487 : decode cL_law 487 = .ok (.aload_n 0, 1) := by decide +kernel
theorem dL_law_488 : decode cL_law 488 = .ok (.iload_n 3, 1) := by decide +kernel
theorem dL_law_489 : decode cL_law 489 = .ok (.iconst 3, 1) := by decide +kernel
theorem dL_law_490 : decode cL_law 490 = .ok (.iadd, 1) := by decide +kernel
theorem dL_law_491 : decode cL_law 491 = .ok (.iaload, 1) := by decide +kernel
theorem dL_law_492 : decode cL_law 492 = .ok (.invokevirtual 61, 3) := by decide +kernel
theorem dL_law_495 : decode cL_law 495 = .ok (.pop, 1) := by decide +kernel
theorem dL_law_496 : decode cL_law 496 = .ok (.goto 26, 3) := by decide +kernel
theorem dL_law_499 : decode cL_law 499 = .ok (.aload_n 1, 1) := by decide +kernel
theorem dL_law_500 : decode cL_law 500 = .ok (.aload_n 0, 1) := by decide +kernel
theorem dL_law_501 : decode cL_law 501 = .ok (.iload_n 3, 1) := by decide +kernel
theorem dL_law_502 : decode cL_law 502 = .ok (.iconst 1, 1) := by decide +kernel
theorem dL_law_503 : decode cL_law 503 = .ok (.iadd, 1) := by decide +kernel
theorem dL_law_504 : decode cL_law 504 = .ok (.iaload, 1) := by decide +kernel
theorem dL_law_505 : decode cL_law 505 = .ok (.invokevirtual 62, 3) := by decide +kernel
theorem dL_law_508 : decode cL_law 508 = .ok (.pop, 1) := by decide +kernel
theorem dL_law_509 : decode cL_law 509 = .ok (.aload_n 2, 1) := by decide +kernel
theorem dL_law_510 : decode cL_law 510 = .ok (.aload_n 0, 1) := by decide +kernel
theorem dL_law_511 : decode cL_law 511 = .ok (.iload_n 3, 1) := by decide +kernel
theorem dL_law_512 : decode cL_law 512 = .ok (.iconst 1, 1) := by decide +kernel
theorem dL_law_513 : decode cL_law 513 = .ok (.iadd, 1) := by decide +kernel
theorem dL_law_514 : decode cL_law 514 = .ok (.iaload, 1) := by decide +kernel
theorem dL_law_515 : decode cL_law 515 = .ok (.invokevirtual 65, 3) := by decide +kernel
theorem dL_law_518 : decode cL_law 518 = .ok (.pop, 1) := by decide +kernel
theorem dL_law_519 : decode cL_law 519 = .ok (.goto 3, 3) := by decide +kernel
theorem dL_law_522 : decode cL_law 522 = .ok (.iinc 3 5, 3) := by decide +kernel
theorem dL_law_525 : decode cL_law 525 = .ok (.goto (-507), 3) := by decide +kernel
theorem dL_law_528 : decode cL_law 528 = .ok (.iconst 1, 1) := by decide +kernel
theorem dL_law_529 : decode cL_law 529 = .ok (.ireturn, 1) := by decide +kernel
end
section
/-! base rows: numbers as nI, a truth as an int, array rows at a place nI i, the class's world and its static facts -/
abbrev ushL (x : Int64) (y : Int32) : Int64 := (x.toUInt64 >>> (y.toInt64.toUInt64 &&& Int64.toUInt64 63)).toInt64
abbrev shlL (x : Int64) (y : Int32) : Int64 := x <<< (y.toInt64 &&& 63)
def bI (b : Bool) : Int32 := if b then nI 1 else nI 0
theorem bI_t : bI true = nI 1 := rfl
theorem bI_f : bI false = nI 0 := rfl
theorem bI_0 {b : Bool} : bI b = 0 ↔ b = false := by cases b <;> decide
theorem bI_n0 {b : Bool} : ¬ bI b = 0 ↔ b = true := by cases b <;> decide
theorem bI_nar (b : Bool) : narrow .boolean (.int (bI b)) = .int (bI b) := by cases b <;> rfl
theorem bI_vnar (b : Bool) : vp_nar .boolean (bI b) = bI b := by cases b <;> rfl
theorem nI_zero : nI 0 = (0 : Int32) := rfl
theorem upd_N (g : Nat → Nat) (i v : Nat) : upd (fun j => nI (g j)) i (nI v) = fun j => nI (va_up g i v j) := by
  funext j
  by_cases h : j = i
  · simp [upd, va_up, h]
  · simp [upd, va_up, h]
section BASE
variable {p : Program} {l : Launch} {e : Env} {R : Room} {s : State} {m : MethodId} {args : Array Value} {below : List Frame} {meth : Method} {c : Code} {H : Heap} {locs : List Loc} {cells slots : Nat} {Q : State → Prop}
variable {cc : ByteArray} {pc : Nat} {ls : Array Slot} {rest : List Value} {D : va_G} {cl : List vw_C} {A : Nat → Prop} {a : Nat} {tys : List (ClassId × FieldType)} {ws : va_W} {H0 : Heap}
theorem lv_iaddN (hexec : p.tables.exec = Jvm.exec) (hb : c.code = cc) {x y : Nat} (hdg : decode cc pc = .ok (.iadd, 1)) (k : W p l e R s m args below meth c H locs cells slots Q (F0 m (pc + 1) ls (.int (nI (x + y)) :: rest))) : W p l e R s m args below meth c H locs cells slots Q (F0 m pc ls (.int (nI y) :: .int (nI x) :: rest)) :=
  lv_iadd hexec hb hdg (by rw [nI_add]; exact k)
theorem lv_isubN (hexec : p.tables.exec = Jvm.exec) (hb : c.code = cc) {x y : Nat} (hdg : decode cc pc = .ok (.isub, 1)) (h : y ≤ x) (k : W p l e R s m args below meth c H locs cells slots Q (F0 m (pc + 1) ls (.int (nI (x - y)) :: rest))) : W p l e R s m args below meth c H locs cells slots Q (F0 m pc ls (.int (nI y) :: .int (nI x) :: rest)) :=
  lv_isub hexec hb hdg (by rw [pk_sub h]; exact k)
theorem na_iald (hexec : p.tables.exec = Jvm.exec) (hb : c.code = cc) (hK : va_K D cl tys s) (hP : va_P D cl ws H) (q0 t0 : Nat) {cA : ClassId} {n : Nat} {f : Nat → Int32} (ha : ws[q0]? = some (a, .inl (cA, n, .inl f))) (ht : tys[t0]? = some (cA, .int)) {i : Nat} (hi : i < n) (hn : n < 2 ^ 31) (hdg : decode cc pc = .ok (.iaload, 1))
    (kk : W p l e R s m args below meth c H locs cells slots Q (F0 m (pc + 1) ls (.int (f i) :: rest))) : W p l e R s m args below meth c H locs cells slots Q (F0 m pc ls (.int (nI i) :: .ref a :: rest)) :=
  va_iald hexec hb hK hP q0 t0 ha ht (vp_in_nI hi hn) hdg (by rw [nI_clamp (by omega)]; exact kk)
theorem na_zald (hexec : p.tables.exec = Jvm.exec) (hb : c.code = cc) (hK : va_K D cl tys s) (hP : va_P D cl ws H) (q0 t0 : Nat) {cA : ClassId} {n : Nat} {f : Nat → Int32} (ha : ws[q0]? = some (a, .inl (cA, n, .inl f))) (ht : tys[t0]? = some (cA, .boolean)) {i : Nat} (hi : i < n) (hn : n < 2 ^ 31) (hdg : decode cc pc = .ok (.baload, 1))
    (kk : W p l e R s m args below meth c H locs cells slots Q (F0 m (pc + 1) ls (.int (f i) :: rest))) : W p l e R s m args below meth c H locs cells slots Q (F0 m pc ls (.int (nI i) :: .ref a :: rest)) :=
  va_zald hexec hb hK hP q0 t0 ha ht (vp_in_nI hi hn) hdg (by rw [nI_clamp (by omega)]; exact kk)
theorem na_lald (hexec : p.tables.exec = Jvm.exec) (hb : c.code = cc) (hK : va_K D cl tys s) (hP : va_P D cl ws H) (q0 t0 : Nat) {cA : ClassId} {n : Nat} {f : Nat → Int64} (ha : ws[q0]? = some (a, .inl (cA, n, .inr (.inl f)))) (ht : tys[t0]? = some (cA, .long)) {i : Nat} (hi : i < n) (hn : n < 2 ^ 31) (hdg : decode cc pc = .ok (.laload, 1))
    (kk : W p l e R s m args below meth c H locs cells slots Q (F0 m (pc + 1) ls (.long (f i) :: rest))) : W p l e R s m args below meth c H locs cells slots Q (F0 m pc ls (.int (nI i) :: .ref a :: rest)) :=
  va_lald hexec hb hK hP q0 t0 ha ht (vp_in_nI hi hn) hdg (by rw [nI_clamp (by omega)]; exact kk)
theorem na_iastN (hexec : p.tables.exec = Jvm.exec) (hb : c.code = cc) (hK : va_K D cl tys s) (hP : va_P D cl ws H) (hD : va_D A ws) (hS : va_S A H0 H locs) (q0 t0 : Nat) {cA : ClassId} {n : Nat} {g : Nat → Nat} (ha : ws[q0]? = some (a, .inl (cA, n, .inl (fun j => nI (g j))))) (ht : tys[t0]? = some (cA, .int)) {i v : Nat} (hi : i < n) (hn : n < 2 ^ 31) (hdg : decode cc pc = .ok (.iastore, 1))
    (kk : ∀ (H1 : Heap) (locs1 : List Loc), va_P D cl (ws.set q0 (a, .inl (cA, n, .inl (fun j => nI (va_up g i v j))))) H1 → va_D A (ws.set q0 (a, .inl (cA, n, .inl (fun j => nI (va_up g i v j))))) → va_S A H0 H1 locs1 → W p l e R s m args below meth c H1 locs1 cells slots Q (F0 m (pc + 1) ls rest)) : W p l e R s m args below meth c H locs cells slots Q (F0 m pc ls (.int (nI v) :: .int (nI i) :: .ref a :: rest)) :=
  va_iast hexec hb hK hP hD hS q0 t0 ha ht (vp_in_nI hi hn) hdg (fun H1 locs1 => by rw [nI_clamp (by omega), upd_N]; exact kk H1 locs1)
theorem na_iast (hexec : p.tables.exec = Jvm.exec) (hb : c.code = cc) (hK : va_K D cl tys s) (hP : va_P D cl ws H) (hD : va_D A ws) (hS : va_S A H0 H locs) (q0 t0 : Nat) {cA : ClassId} {n : Nat} {f : Nat → Int32} (ha : ws[q0]? = some (a, .inl (cA, n, .inl f))) (ht : tys[t0]? = some (cA, .int)) {i : Nat} {x : Int32} (hi : i < n) (hn : n < 2 ^ 31) (hdg : decode cc pc = .ok (.iastore, 1))
    (kk : ∀ (H1 : Heap) (locs1 : List Loc), va_P D cl (ws.set q0 (a, .inl (cA, n, .inl (upd f i x)))) H1 → va_D A (ws.set q0 (a, .inl (cA, n, .inl (upd f i x)))) → va_S A H0 H1 locs1 → W p l e R s m args below meth c H1 locs1 cells slots Q (F0 m (pc + 1) ls rest)) : W p l e R s m args below meth c H locs cells slots Q (F0 m pc ls (.int x :: .int (nI i) :: .ref a :: rest)) :=
  va_iast hexec hb hK hP hD hS q0 t0 ha ht (vp_in_nI hi hn) hdg (fun H1 locs1 => by rw [nI_clamp (by omega)]; exact kk H1 locs1)
theorem na_zast (hexec : p.tables.exec = Jvm.exec) (hb : c.code = cc) (hK : va_K D cl tys s) (hP : va_P D cl ws H) (hD : va_D A ws) (hS : va_S A H0 H locs) (q0 t0 : Nat) {cA : ClassId} {n : Nat} {f : Nat → Int32} (ha : ws[q0]? = some (a, .inl (cA, n, .inl f))) (ht : tys[t0]? = some (cA, .boolean)) {i : Nat} {x : Int32} (hi : i < n) (hn : n < 2 ^ 31) (hxx : vp_nar .boolean x = x) (hdg : decode cc pc = .ok (.bastore, 1))
    (kk : ∀ (H1 : Heap) (locs1 : List Loc), va_P D cl (ws.set q0 (a, .inl (cA, n, .inl (upd f i x)))) H1 → va_D A (ws.set q0 (a, .inl (cA, n, .inl (upd f i x)))) → va_S A H0 H1 locs1 → W p l e R s m args below meth c H1 locs1 cells slots Q (F0 m (pc + 1) ls rest)) : W p l e R s m args below meth c H locs cells slots Q (F0 m pc ls (.int x :: .int (nI i) :: .ref a :: rest)) :=
  va_zast hexec hb hK hP hD hS q0 t0 ha ht (vp_in_nI hi hn) hdg (fun H1 locs1 => by rw [nI_clamp (by omega), hxx]; exact kk H1 locs1)
theorem na_last (hexec : p.tables.exec = Jvm.exec) (hb : c.code = cc) (hK : va_K D cl tys s) (hP : va_P D cl ws H) (hD : va_D A ws) (hS : va_S A H0 H locs) (q0 t0 : Nat) {cA : ClassId} {n : Nat} {f : Nat → Int64} (ha : ws[q0]? = some (a, .inl (cA, n, .inr (.inl f)))) (ht : tys[t0]? = some (cA, .long)) {i : Nat} {x : Int64} (hi : i < n) (hn : n < 2 ^ 31) (hdg : decode cc pc = .ok (.lastore, 1))
    (kk : ∀ (H1 : Heap) (locs1 : List Loc), va_P D cl (ws.set q0 (a, .inl (cA, n, .inr (.inl (vp_updL f i x))))) H1 → va_D A (ws.set q0 (a, .inl (cA, n, .inr (.inl (vp_updL f i x))))) → va_S A H0 H1 locs1 → W p l e R s m args below meth c H1 locs1 cells slots Q (F0 m (pc + 1) ls rest)) : W p l e R s m args below meth c H locs cells slots Q (F0 m pc ls (.long x :: .int (nI i) :: .ref a :: rest)) :=
  va_last hexec hb hK hP hD hS q0 t0 ha ht (vp_in_nI hi hn) hdg (fun H1 locs1 => by rw [nI_clamp (by omega)]; exact kk H1 locs1)
theorem gen_start {g : JFrame} (k : ∀ (H : Heap) (locs : List Loc), va_P D cl ws H → va_S A s.heap H locs → W p l e R s m args below meth c H locs cells slots Q g) (hP : va_P D cl ws s.heap) : W p l e R s m args below meth c s.heap [] cells slots Q g := k s.heap [] hP va_S.rf
end BASE
/-- the class's state: classes (count, parent, pack, face, above), (faceAmount, faceStart, faceList, ownFaces, ownPart), methods (count, owner, name, first, amount, sight, kind) -/
abbrev CS : Type := (Nat × (Nat → Nat) × (Nat → Int32) × (Nat → Int32) × (Nat → Int64)) × ((Nat → Nat) × (Nat → Nat) × (Nat → Nat) × Int64 × Nat) × (Nat × (Nat → Nat) × (Nat → Int32) × (Nat → Nat) × (Nat → Nat) × (Nat → Int32) × (Nat → Int32))
abbrev cs_mk (n : Nat) (par : Nat → Nat) (pack face : Nat → Int32) (abv : Nat → Int64) (fam fst fls : Nat → Nat) (own : Int64) (opt : Nat) (m : Nat) (ow : Nat → Nat) (nm : Nat → Int32) (fi am : Nat → Nat) (si ki : Nat → Int32) : CS := ((n, par, pack, face, abv), (fam, fst, fls, own, opt), (m, ow, nm, fi, am, si, ki))
abbrev cs_n (σ : CS) : Nat := σ.1.1
abbrev cs_par (σ : CS) : Nat → Nat := σ.1.2.1
abbrev cs_pack (σ : CS) : Nat → Int32 := σ.1.2.2.1
abbrev cs_face (σ : CS) : Nat → Int32 := σ.1.2.2.2.1
abbrev cs_abv (σ : CS) : Nat → Int64 := σ.1.2.2.2.2
abbrev cs_fam (σ : CS) : Nat → Nat := σ.2.1.1
abbrev cs_fst (σ : CS) : Nat → Nat := σ.2.1.2.1
abbrev cs_fls (σ : CS) : Nat → Nat := σ.2.1.2.2.1
abbrev cs_own (σ : CS) : Int64 := σ.2.1.2.2.2.1
abbrev cs_opt (σ : CS) : Nat := σ.2.1.2.2.2.2
abbrev cs_m (σ : CS) : Nat := σ.2.2.1
abbrev cs_ow (σ : CS) : Nat → Nat := σ.2.2.2.1
abbrev cs_nm (σ : CS) : Nat → Int32 := σ.2.2.2.2.1
abbrev cs_fi (σ : CS) : Nat → Nat := σ.2.2.2.2.2.1
abbrev cs_am (σ : CS) : Nat → Nat := σ.2.2.2.2.2.2.1
abbrev cs_si (σ : CS) : Nat → Int32 := σ.2.2.2.2.2.2.2.1
abbrev cs_ki (σ : CS) : Nat → Int32 := σ.2.2.2.2.2.2.2.2
/-- the cells of the class's object -/
def cw (a : Nat → Nat) (k : Nat → ClassId) (σ : CS) : va_W := [
  (a 0, .inr (3, [.ref (a 1), .ref (a 2)])),
  (a 1, .inr (1, [.int (nI (cs_n σ)), .ref (a 3), .ref (a 4), .ref (a 5), .ref (a 6), .ref (a 7), .ref (a 8), .ref (a 9), .long (cs_own σ), .int (nI (cs_opt σ))])),
  (a 2, .inr (2, [.int (nI (cs_m σ)), .ref (a 10), .ref (a 11), .ref (a 12), .ref (a 13), .ref (a 14), .ref (a 15)])),
  (a 3, .inl (k 3, 60, .inl (fun j => nI (cs_par σ j)))),
  (a 4, .inl (k 4, 60, .inl (cs_pack σ))),
  (a 5, .inl (k 5, 60, .inl (cs_face σ))),
  (a 6, .inl (k 6, 60, .inr (.inl (cs_abv σ)))),
  (a 7, .inl (k 7, 60, .inl (fun j => nI (cs_fam σ j)))),
  (a 8, .inl (k 8, 60, .inl (fun j => nI (cs_fst σ j)))),
  (a 9, .inl (k 9, 1800, .inl (fun j => nI (cs_fls σ j)))),
  (a 10, .inl (k 10, 400, .inl (fun j => nI (cs_ow σ j)))),
  (a 11, .inl (k 11, 400, .inl (cs_nm σ))),
  (a 12, .inl (k 12, 60, .inl (fun j => nI (cs_fi σ j)))),
  (a 13, .inl (k 13, 60, .inl (fun j => nI (cs_am σ j)))),
  (a 14, .inl (k 14, 400, .inl (cs_si σ))),
  (a 15, .inl (k 15, 400, .inl (cs_ki σ)))]
def tysC (k : Nat → ClassId) : List (ClassId × FieldType) := [(k 3, .int), (k 4, .int), (k 5, .boolean), (k 6, .long), (k 7, .int), (k 8, .int), (k 9, .int), (k 10, .int), (k 11, .int), (k 12, .int), (k 13, .int), (k 14, .int), (k 15, .int)]
def ca (a : Nat → Nat) : Nat → Prop := fun q => ∃ i, i < 16 ∧ q = a i
theorem cw_ad (a : Nat → Nat) (k : Nat → ClassId) (σ : CS) : ∀ i, i < 16 → ((cw a k σ)[i]?).map (fun q => q.1) = some (a i)
  | 0, _ => rfl | 1, _ => rfl | 2, _ => rfl | 3, _ => rfl | 4, _ => rfl | 5, _ => rfl | 6, _ => rfl | 7, _ => rfl | 8, _ => rfl | 9, _ => rfl | 10, _ => rfl | 11, _ => rfl | 12, _ => rfl | 13, _ => rfl | 14, _ => rfl | 15, _ => rfl
  | n + 16, h => absurd h (by omega)
theorem cw_at (a : Nat → Nat) (k : Nat → ClassId) (σ : CS) {i : Nat} {q : Nat × va_E} (h : (cw a k σ)[i]? = some q) : i < 16 ∧ q.1 = a i := by
  have hi : i < 16 := (List.getElem?_eq_some_iff.mp h).1
  have h2 := cw_ad a k σ i hi
  rw [h] at h2
  exact ⟨hi, Option.some.inj h2⟩
def cInj (a : Nat → Nat) : Prop := ∀ i j, i < 16 → j < 16 → a i = a j → i = j
theorem cw_D {a : Nat → Nat} {k : Nat → ClassId} {σ : CS} (h : cInj a) : va_D (ca a) (cw a k σ) := by
  refine ⟨fun i j p q hp hq e => ?_, fun i q hq => ?_⟩
  · obtain ⟨i1, i2⟩ := cw_at a k σ hp
    obtain ⟨j1, j2⟩ := cw_at a k σ hq
    exact h i j i1 j1 (by rw [← i2, ← j2]; exact e)
  · obtain ⟨i1, i2⟩ := cw_at a k σ hq
    exact ⟨i, i1, i2⟩
/-- the static facts of the class's side -/
def cK (D : va_G) (k : Nat → ClassId) (U : State) : Prop := va_K D vwCl (tysC k) U ∧ va_Nw (.methodLinkNest RX0 50 yX2_holds RX2) U
theorem cK.warm {D : va_G} {k : Nat → ClassId} {s U : State} (hW : s.WarmedH U.vm) (h : cK D k s) : cK D k U := ⟨va_K.moved hW.alike h.1, va_Nw.warmM hW h.2⟩
theorem cK.call {D : va_G} {k : Nat → ClassId} {U : State} {g : JFrame} {mk : MethodId} {v : Array Value} (h : cK D k U) : cK D k (U.calling g mk v) := ⟨va_K.moved (u := U) (U := U.calling g mk v) (Vm.Alike.refl U.vm) h.1, va_Nw.same rfl (u := U) (U := U.calling g mk v) rfl h.2⟩
/-- a method's start: the class's cells with the state σ -/
def cP (D : va_G) (a : Nat → Nat) (k : Nat → ClassId) (σ : CS) (av : List Value) : Array Value → State → Prop := va_Pc av (fun U => va_P D vwCl (cw a k σ) U.heap ∧ cK D k U)
theorem cP_blind {D : va_G} {a : Nat → Nat} {k : Nat → ClassId} {σ : CS} {av : List Value} : FrameBlind (cP D a k σ av) := fun _ _ _ _ q => ⟨q.1, q.2.1, q.2.2.call⟩
theorem cP_V {D : va_G} {a : Nat → Nat} {k : Nat → ClassId} {σ : CS} {s : State} {H : Heap} (hK : cK D k s) (hP : va_P D vwCl (cw a k σ) H) (ci q0 : Nat) {q : vw_C} {b : Nat} {fs : List Value} {As : List Value} (hc : vwCl[ci]? = some q) (he : (cw a k σ)[q0]? = some (b, .inr (ci, fs))) : PreV s H q.1 b (cP D a k σ (.ref b :: As)) As :=
  ⟨cP_blind, va_recv hK.1 hP hc he, fun _ hU hW => ⟨rfl, by rw [hU]; exact hP, hK.warm hW⟩⟩
theorem cP_S {D : va_G} {a : Nat → Nat} {k : Nat → ClassId} {σ : CS} {s : State} {H : Heap} (hK : cK D k s) (hP : va_P D vwCl (cw a k σ) H) {As : List Value} : PreS s H (cP D a k σ As) As :=
  ⟨cP_blind, fun _ hU hW => ⟨rfl, by rw [hU]; exact hP, hK.warm hW⟩⟩
theorem ro_kept {D : va_G} {cl : List vw_C} {ws : va_W} {H H1 : Heap} (hP : va_P D cl ws H) (hk : ∀ q : Nat, q < H.size → ¬ False → H1[q]? = H[q]?) : va_P D cl ws H1 := hP.kept (fun k q hq => hk _ ((hP k q hq).lt) id)
/-- ends: an int (a truth) and no change; a long and no change; an int, or nothing, and a new state -/
def roQ (v : Int32) : Array Value → State → Outcome → State → Prop := va_Qi (fun r (_ : Unit) => r = v) (fun _ _ => True) (fun _ => False)
def roL (v : Int64) : Array Value → State → Outcome → State → Prop := va_Ql (fun r (_ : Unit) => r = v) (fun _ _ => True) (fun _ => False)
def wrI (D : va_G) (a : Nat → Nat) (k : Nat → ClassId) (v : Int32) (σ : CS) : Array Value → State → Outcome → State → Prop := va_Qi (fun r (_ : Unit) => r = v) (fun _ t => va_P D vwCl (cw a k σ) t.heap) (ca a)
def wrV (D : va_G) (a : Nat → Nat) (k : Nat → ClassId) (σ : CS) : Array Value → State → Outcome → State → Prop := va_Qv (fun (_ : Unit) => True) (fun _ t => va_P D vwCl (cw a k σ) t.heap) (ca a)
abbrev rmC (f n : Nat) : Room := { frames := f, cells := 0, slots := 0, locals := n }
end
section
/-! what the class's methods answer, as functions of its state -/
def s_holds (w : Int64) (k : Nat) : Bool := decide (¬ (ushL w (nI k) &&& (1 : Int64)) = (0 : Int64))
def s_exists (σ : CS) (x : Int32) : Bool := !decide (x < 0) && !decide (nI (cs_n σ) ≤ x)
def s_isFace (σ : CS) (x : Int32) : Bool := s_exists σ x && !decide (cs_face σ x.toNatClampNeg = 0)
def s_isPlain (σ : CS) (x : Int32) : Bool := s_exists σ x && decide (cs_face σ x.toNatClampNeg = 0)
def s_isLatest (σ : CS) (x : Int32) : Bool := decide (x = nI (cs_n σ) - nI 1)
def s_below (σ : CS) (c k : Nat) : Bool := s_holds (cs_abv σ c) k
def s_inRow (σ : CS) (c k : Nat) : Bool := decide (nI c = nI k) || (decide (cs_face σ c = 0) && (decide (cs_face σ k = 0) && s_below σ c k))
def s_faceAt (σ : CS) (c i : Nat) : Nat := cs_fls σ (cs_fst σ c + i)
def m_exists (σ : CS) (x : Int32) : Bool := !decide (x < 0) && !decide (nI (cs_m σ) ≤ x)
def m_static (σ : CS) (m : Nat) : Bool := !decide ((cs_ki σ m &&& nI 1) = 0)
def m_final (σ : CS) (m : Nat) : Bool := !decide ((cs_ki σ m &&& nI 2) = 0)
def m_abstract (σ : CS) (m : Nat) : Bool := !decide ((cs_ki σ m &&& nI 4) = 0)
def m_private (σ : CS) (m : Nat) : Bool := decide (cs_si σ m = nI 3)
def m_virtual (σ : CS) (m : Nat) : Bool := !m_static σ m && !m_private σ m
def m_pp (σ : CS) (m : Nat) : Bool := decide (cs_si σ m = nI 1) || decide (cs_si σ m = nI 2)
def m_scan (f : Nat → Int32) (x : Int32) : Nat → Nat → Int32
  | 0, _ => -1
  | n + 1, i => if f i = x then nI i else m_scan f x n (i + 1)
def m_inClass (σ : CS) (c : Nat) (x : Int32) : Int32 := m_scan (cs_nm σ) x (cs_am σ c) (cs_fi σ c)
/-- the bounds that keep every index inside its row -/
def bok (σ : CS) : Prop := (cs_n σ ≤ 60 ∧ cs_m σ ≤ 400) ∧ (∀ c, c < 60 → cs_fi σ c + cs_am σ c ≤ cs_m σ) ∧ (∀ m, m < 400 → cs_ow σ m < 60) ∧ (∀ c, c < 60 → cs_fst σ c + cs_fam σ c ≤ 1800) ∧ (∀ j, j < 1800 → cs_fls σ j < 60) ∧ (∀ c, c < 60 → cs_par σ c < 60)
def cok (σ : CS) : Prop := (1 ≤ cs_n σ ∧ cs_n σ ≤ 60 ∧ cs_m σ ≤ 400) ∧ bok σ ∧ (∀ c, cs_n σ ≤ c → cs_fam σ c = 0) ∧ cs_fst σ (cs_n σ - 1) + cs_opt σ ≤ 1800
theorem ix_of {x : Int32} {n : Nat} (hn : n < 2 ^ 31) (h : (!decide (x < 0) && !decide (nI n ≤ x)) = true) : ∃ j : Nat, j < n ∧ x = nI j := by
  simp only [Bool.and_eq_true, Bool.not_eq_true', decide_eq_false_iff_not] at h
  rcases pk_ix x hn with h1 | h1 | h1
  · exact absurd h1 h.1
  · exact absurd h1 h.2
  · exact h1
theorem s_exists_of {σ : CS} (hok : cok σ) {x : Int32} (h : s_exists σ x = true) : ∃ j : Nat, j < cs_n σ ∧ x = nI j := ix_of (by have := hok.1; omega) h
theorem m_exists_of {σ : CS} (hok : cok σ) {x : Int32} (h : m_exists σ x = true) : ∃ j : Nat, j < cs_m σ ∧ x = nI j := ix_of (by have := hok.1; omega) h
theorem m_scan_of (f : Nat → Int32) (x : Int32) : ∀ n i, m_scan f x n i = -1 ∨ ∃ j, i ≤ j ∧ j < i + n ∧ m_scan f x n i = nI j
  | 0, _ => Or.inl rfl
  | n + 1, i => by
    by_cases h : f i = x
    · exact Or.inr ⟨i, Nat.le_refl _, by omega, by simp [m_scan, h]⟩
    · rcases m_scan_of f x n (i + 1) with h1 | ⟨j, h1, h2, h3⟩
      · exact Or.inl (by simp [m_scan, h, h1])
      · exact Or.inr ⟨j, by omega, by omega, by simp [m_scan, h, h3]⟩
theorem m_inClass_of {σ : CS} (hok : cok σ) {c : Nat} (hc : c < 60) (x : Int32) : m_inClass σ c x = -1 ∨ ∃ j, j < cs_m σ ∧ m_inClass σ c x = nI j := by
  have h1 := hok.2.1.2.1 c hc
  rcases m_scan_of (cs_nm σ) x (cs_am σ c) (cs_fi σ c) with h | ⟨j, h2, h3, h4⟩
  · exact Or.inl h
  · exact Or.inr ⟨j, by omega, h4⟩
theorem nlt {a b : Nat} (ha : a < 2 ^ 31) (hb : b < 2 ^ 31) (h : ¬ nI b ≤ nI a) : a < b := Nat.lt_of_not_le (fun h2 => h ((nI_leI hb ha).mpr h2))
theorem nle {a b : Nat} (ha : a < 2 ^ 31) (hb : b < 2 ^ 31) (h : nI b ≤ nI a) : b ≤ a := (nI_leI hb ha).mp h
/-! the writers -/
def l_has (g : Nat → Nat) (f : Nat) : Nat → Nat → Bool
  | 0, _ => false
  | n + 1, i => if nI (g i) = nI f then true else l_has g f n (i + 1)
def s_listFace (σ : CS) (c f : Nat) : CS := if l_has (s_faceAt σ c) f (cs_fam σ c) 0 = true then σ else if cs_fst σ c + cs_fam σ c < 1800 then cs_mk (cs_n σ) (cs_par σ) (cs_pack σ) (cs_face σ) (cs_abv σ) (va_up (cs_fam σ) c (cs_fam σ c + 1)) (cs_fst σ) (va_up (cs_fls σ) (cs_fst σ c + cs_fam σ c) f) (cs_own σ) (cs_opt σ) (cs_m σ) (cs_ow σ) (cs_nm σ) (cs_fi σ) (cs_am σ) (cs_si σ) (cs_ki σ) else σ
def s_listAll (c d : Nat) : Nat → Nat → CS → CS
  | 0, _, σ => σ
  | n + 1, i, σ => s_listAll c d n (i + 1) (s_listFace σ c (s_faceAt σ d i))
def s_listFacesOf (σ : CS) (c d : Nat) : CS := s_listAll c d (cs_fam σ d) 0 σ
/-- what listFace leaves -/
def lf_keep (σ τ : CS) : Prop := cs_n τ = cs_n σ ∧ cs_par τ = cs_par σ ∧ cs_pack τ = cs_pack σ ∧ cs_face τ = cs_face σ ∧ cs_abv τ = cs_abv σ ∧ cs_fst τ = cs_fst σ ∧ cs_own τ = cs_own σ ∧ cs_opt τ = cs_opt σ ∧ τ.2.2 = σ.2.2
theorem lf_keep.rf (σ : CS) : lf_keep σ σ := ⟨rfl, rfl, rfl, rfl, rfl, rfl, rfl, rfl, rfl⟩
theorem lf_keep.tr {σ τ υ : CS} (h : lf_keep σ τ) (g : lf_keep τ υ) : lf_keep σ υ := by
  obtain ⟨h1, h2, h3, h4, h5, h6, h7, h8, h9⟩ := h
  obtain ⟨g1, g2, g3, g4, g5, g6, g7, g8, g9⟩ := g
  exact ⟨g1.trans h1, g2.trans h2, g3.trans h3, g4.trans h4, g5.trans h5, g6.trans h6, g7.trans h7, g8.trans h8, g9.trans h9⟩
theorem s_listFace_keep (σ : CS) (c f : Nat) : lf_keep σ (s_listFace σ c f) ∧ ∀ d, d ≠ c → cs_fam (s_listFace σ c f) d = cs_fam σ d := by
  unfold s_listFace
  split
  · exact ⟨lf_keep.rf σ, fun _ _ => rfl⟩
  · split
    · exact ⟨⟨rfl, rfl, rfl, rfl, rfl, rfl, rfl, rfl, rfl⟩, fun d h => va_up_ne _ _ h⟩
    · exact ⟨lf_keep.rf σ, fun _ _ => rfl⟩
theorem s_listFace_bok {σ : CS} (h : bok σ) {c f : Nat} (hc : c < 60) (hf : f < 60) : bok (s_listFace σ c f) := by
  unfold s_listFace
  split
  · exact h
  · split
    · rename_i hp
      obtain ⟨h1, h2, h3, h4, h5, h6⟩ := h
      refine ⟨h1, h2, h3, fun d hd => ?_, fun j hj => ?_, h6⟩
      · show cs_fst σ d + va_up (cs_fam σ) c (cs_fam σ c + 1) d ≤ 1800
        by_cases e : d = c
        · subst e; rw [va_up_self]; omega
        · rw [va_up_ne _ _ e]; exact h4 d hd
      · show va_up (cs_fls σ) (cs_fst σ c + cs_fam σ c) f j < 60
        by_cases e : j = cs_fst σ c + cs_fam σ c
        · subst e; rw [va_up_self]; exact hf
        · rw [va_up_ne _ _ e]; exact h5 j hj
    · exact h
theorem s_listAll_ok {c d : Nat} (hc : c < 60) (hd : d < 60) : ∀ (n i : Nat) (σ : CS), bok σ → cs_fst σ d + i + n ≤ 1800 → bok (s_listAll c d n i σ) ∧ lf_keep σ (s_listAll c d n i σ) ∧ ∀ x, x ≠ c → cs_fam (s_listAll c d n i σ) x = cs_fam σ x
  | 0, _, σ, h, _ => ⟨h, lf_keep.rf σ, fun _ _ => rfl⟩
  | n + 1, i, σ, h, hi => by
    have hf : s_faceAt σ d i < 60 := h.2.2.2.2.1 _ (by omega)
    obtain ⟨k1, k2⟩ := s_listFace_keep σ c (s_faceAt σ d i)
    have e : cs_fst (s_listFace σ c (s_faceAt σ d i)) = cs_fst σ := k1.2.2.2.2.2.1
    obtain ⟨r1, r2, r3⟩ := s_listAll_ok hc hd n (i + 1) (s_listFace σ c (s_faceAt σ d i)) (s_listFace_bok h hc hf) (by rw [e]; omega)
    exact ⟨r1, k1.tr r2, fun x hx => (r3 x hx).trans (k2 x hx)⟩
theorem s_listFacesOf_ok {σ : CS} {c d : Nat} (h : bok σ) (hc : c < 60) (hd : d < 60) : bok (s_listFacesOf σ c d) ∧ lf_keep σ (s_listFacesOf σ c d) ∧ ∀ x, x ≠ c → cs_fam (s_listFacesOf σ c d) x = cs_fam σ x :=
  s_listAll_ok hc hd _ 0 σ h (by have := h.2.2.2.1 d hd; omega)
/-- Methods.append -/
def m_append (σ : CS) (c : Nat) (x y z : Int32) : CS := cs_mk (cs_n σ) (cs_par σ) (cs_pack σ) (cs_face σ) (cs_abv σ) (cs_fam σ) (cs_fst σ) (cs_fls σ) (cs_own σ) (cs_opt σ) (cs_m σ + 1) (va_up (cs_ow σ) (cs_m σ) c) (upd (cs_nm σ) (cs_m σ) x) (if nI (cs_am σ c) = 0 then va_up (cs_fi σ) c (cs_m σ) else cs_fi σ) (va_up (cs_am σ) c (cs_am σ c + 1)) (upd (cs_si σ) (cs_m σ) y) (upd (cs_ki σ) (cs_m σ) z)
theorem m_append_bok {σ : CS} (h : bok σ) {c : Nat} (hc : c < 60) (hm : cs_m σ < 400) (x y z : Int32) : bok (m_append σ c x y z) := by
  obtain ⟨h1, h2, h3, h4, h5, h6⟩ := h
  refine ⟨⟨h1.1, by show cs_m σ + 1 ≤ 400; omega⟩, fun d hd => ?_, fun m hm' => ?_, h4, h5, h6⟩
  · show (if nI (cs_am σ c) = 0 then va_up (cs_fi σ) c (cs_m σ) else cs_fi σ) d + va_up (cs_am σ) c (cs_am σ c + 1) d ≤ cs_m σ + 1
    have hcb := h2 c hc
    have hdb := h2 d hd
    by_cases e : d = c
    · subst e
      rw [va_up_self]
      split
      · rename_i e0
        have : cs_am σ d = 0 := by
          rcases Nat.eq_zero_or_pos (cs_am σ d) with q | q
          · exact q
          · exact absurd e0 (nI_ne0 q (by omega))
        rw [va_up_self, this]
        omega
      · omega
    · rw [va_up_ne _ _ e]
      split
      · rw [va_up_ne _ _ e]; omega
      · omega
  · show va_up (cs_ow σ) (cs_m σ) c m < 60
    by_cases e : m = cs_m σ
    · subst e; rw [va_up_self]; exact hc
    · rw [va_up_ne _ _ e]; exact h3 m hm'
/-- Classes.append: what stands before its faces are listed, and the whole -/
def s_app0 (σ : CS) (d : Nat) (x : Int32) (b : Bool) : CS := cs_mk (cs_n σ) (va_up (cs_par σ) (cs_n σ) d) (upd (cs_pack σ) (cs_n σ) x) (upd (cs_face σ) (cs_n σ) (bI b)) (vp_updL (cs_abv σ) (cs_n σ) (cs_abv σ d ||| shlL 1 (nI d))) (cs_fam σ) (va_up (cs_fst σ) (cs_n σ) (cs_fst σ (cs_n σ - 1) + cs_fam σ (cs_n σ - 1))) (cs_fls σ) 0 0 (cs_m σ) (cs_ow σ) (cs_nm σ) (cs_fi σ) (cs_am σ) (cs_si σ) (cs_ki σ)
def s_append (σ : CS) (d : Nat) (x : Int32) (b : Bool) : CS := ((cs_n (s_listFacesOf (s_app0 σ d x b) (cs_n σ) d) + 1, (s_listFacesOf (s_app0 σ d x b) (cs_n σ) d).1.2), (s_listFacesOf (s_app0 σ d x b) (cs_n σ) d).2)
theorem s_app0_bok {σ : CS} (h : cok σ) {d : Nat} (hd : d < 60) (hn : cs_n σ < 60) (x : Int32) (b : Bool) : bok (s_app0 σ d x b) := by
  obtain ⟨⟨n1, n2, n3⟩, ⟨h1, h2, h3, h4, h5, h6⟩, h7, h8⟩ := h
  refine ⟨h1, h2, h3, fun c hc => ?_, h5, fun c hc => ?_⟩
  · show va_up (cs_fst σ) (cs_n σ) (cs_fst σ (cs_n σ - 1) + cs_fam σ (cs_n σ - 1)) c + cs_fam σ c ≤ 1800
    by_cases e : c = cs_n σ
    · rw [e, va_up_self, h7 (cs_n σ) (Nat.le_refl _)]
      have := h4 (cs_n σ - 1) (by omega)
      omega
    · rw [va_up_ne _ _ e]; exact h4 c hc
  · show va_up (cs_par σ) (cs_n σ) d c < 60
    by_cases e : c = cs_n σ
    · rw [e, va_up_self]; exact hd
    · rw [va_up_ne _ _ e]; exact h6 c hc
theorem s_append_ok {σ : CS} (h : cok σ) {d : Nat} (hd : d < 60) (hn : cs_n σ < 60) (x : Int32) (b : Bool) : cok (s_append σ d x b) ∧ cs_n (s_append σ d x b) = cs_n σ + 1 ∧ cs_face (s_append σ d x b) = upd (cs_face σ) (cs_n σ) (bI b) := by
  obtain ⟨r1, r2, r3⟩ := s_listFacesOf_ok (s_app0_bok h hd hn x b) hn hd
  obtain ⟨k1, k2, k3, k4, k5, k6, k7, k8, k9⟩ := r2
  have en : cs_n (s_append σ d x b) = cs_n σ + 1 := by
    show cs_n (s_listFacesOf (s_app0 σ d x b) (cs_n σ) d) + 1 = cs_n σ + 1
    rw [k1]
    rfl
  obtain ⟨⟨n1, n2, n3⟩, hb, h7, h8⟩ := h
  obtain ⟨h1, h2, h3, h4, h5, h6⟩ := r1
  have em : cs_m (s_append σ d x b) = cs_m σ := by
    show (s_listFacesOf (s_app0 σ d x b) (cs_n σ) d).2.2.1 = cs_m σ
    rw [k9]
    rfl
  refine ⟨⟨⟨by omega, by omega, by omega⟩, ⟨⟨by omega, by omega⟩, h2, h3, h4, h5, h6⟩, fun c hc => ?_, ?_⟩, en, k4⟩
  · show cs_fam (s_listFacesOf (s_app0 σ d x b) (cs_n σ) d) c = 0
    rw [r3 c (by omega)]
    exact h7 c (by omega)
  · rw [en]
    show cs_fst (s_listFacesOf (s_app0 σ d x b) (cs_n σ) d) (cs_n σ + 1 - 1) + cs_opt (s_listFacesOf (s_app0 σ d x b) (cs_n σ) d) ≤ 1800
    rw [k8]
    have := h4 (cs_n σ) hn
    show cs_fst (s_listFacesOf (s_app0 σ d x b) (cs_n σ) d) (cs_n σ + 1 - 1) + 0 ≤ 1800
    rw [Nat.add_sub_cancel]
    omega
/-- Classes.giveFace -/
def s_give0 (σ : CS) (c f : Nat) : CS := cs_mk (cs_n σ) (cs_par σ) (cs_pack σ) (cs_face σ) (vp_updL (cs_abv σ) c (cs_abv σ c ||| (cs_abv σ f ||| shlL 1 (nI f)))) (va_up (cs_fam σ) c (cs_opt σ)) (cs_fst σ) (cs_fls σ) (cs_own σ ||| shlL 1 (nI f)) (cs_opt σ) (cs_m σ) (cs_ow σ) (cs_nm σ) (cs_fi σ) (cs_am σ) (cs_si σ) (cs_ki σ)
def s_give1 (σ : CS) (c f : Nat) : CS := s_listFacesOf (s_listFace (s_give0 σ c f) c f) c f
def s_give2 (τ : CS) (c : Nat) : CS := (τ.1, (cs_fam τ, cs_fst τ, cs_fls τ, cs_own τ, cs_fam τ c), τ.2.2)
def s_giveFace (σ : CS) (c f : Nat) : CS := s_listFacesOf (s_give2 (s_give1 σ c f) c) c (cs_par (s_give2 (s_give1 σ c f) c) c)
theorem s_give0_bok {σ : CS} (h : cok σ) {c f : Nat} (hc : c = cs_n σ - 1) : bok (s_give0 σ c f) := by
  obtain ⟨⟨n1, n2, n3⟩, ⟨h1, h2, h3, h4, h5, h6⟩, h7, h8⟩ := h
  refine ⟨h1, h2, h3, fun d hd => ?_, h5, h6⟩
  show cs_fst σ d + va_up (cs_fam σ) c (cs_opt σ) d ≤ 1800
  by_cases e : d = c
  · rw [e, va_up_self, hc]; exact h8
  · rw [va_up_ne _ _ e]; exact h4 d hd
theorem s_give1_ok {σ : CS} (h : cok σ) {c f : Nat} (hc : c = cs_n σ - 1) (hf : f < 60) : bok (s_give1 σ c f) ∧ lf_keep (s_give0 σ c f) (s_give1 σ c f) ∧ ∀ x, x ≠ c → cs_fam (s_give1 σ c f) x = cs_fam σ x := by
  have hc6 : c < 60 := by have := h.1; omega
  obtain ⟨k1, k2⟩ := s_listFace_keep (s_give0 σ c f) c f
  obtain ⟨r1, r2, r3⟩ := s_listFacesOf_ok (d := f) (s_listFace_bok (f := f) (s_give0_bok (f := f) h hc) hc6 hf) hc6 hf
  exact ⟨r1, k1.tr r2, fun x hx => (r3 x hx).trans ((k2 x hx).trans (by show va_up (cs_fam σ) c (cs_opt σ) x = _; rw [va_up_ne _ _ hx]))⟩
theorem s_give2_bok {τ : CS} (h : bok τ) (c : Nat) : bok (s_give2 τ c) := h
theorem s_giveFace_ok {σ : CS} (h : cok σ) {c f : Nat} (hc : c = cs_n σ - 1) (hf : f < 60) : cok (s_giveFace σ c f) ∧ cs_n (s_giveFace σ c f) = cs_n σ ∧ cs_face (s_giveFace σ c f) = cs_face σ ∧ cs_own (s_giveFace σ c f) = (cs_own σ ||| shlL 1 (nI f)) ∧ (s_giveFace σ c f).2.2 = σ.2.2 := by
  have hc6 : c < 60 := by have := h.1; omega
  obtain ⟨r1, r2, r3⟩ := s_give1_ok h hc hf
  have hp : cs_par (s_give2 (s_give1 σ c f) c) c < 60 := r1.2.2.2.2.2 c hc6
  obtain ⟨q1, q2, q3⟩ := s_listFacesOf_ok (d := cs_par (s_give2 (s_give1 σ c f) c) c) (s_give2_bok r1 c) hc6 hp
  obtain ⟨k1, k2, k3, k4, k5, k6, k7, k8, k9⟩ := r2
  obtain ⟨j1, j2, j3, j4, j5, j6, j7, j8, j9⟩ := q2
  have en : cs_n (s_giveFace σ c f) = cs_n σ := j1.trans k1
  have em : (s_giveFace σ c f).2.2 = σ.2.2 := j9.trans k9
  obtain ⟨⟨n1, n2, n3⟩, hb, h7, h8⟩ := h
  have em1 : cs_m (s_giveFace σ c f) = cs_m σ := congrArg (fun z => z.1) em
  refine ⟨⟨⟨by omega, by omega, by omega⟩, q1, fun x hx => ?_, ?_⟩, en, j4.trans k4, j7.trans k7, em⟩
  · have hxc : x ≠ c := by omega
    have e1 : cs_fam (s_giveFace σ c f) x = cs_fam (s_give2 (s_give1 σ c f) c) x := q3 x hxc
    rw [e1]
    show cs_fam (s_give1 σ c f) x = 0
    rw [r3 x hxc]
    exact h7 x (by omega)
  · rw [en, ← hc]
    have e1 : cs_fst (s_giveFace σ c f) c = cs_fst (s_give1 σ c f) c := congrFun j6 c
    have e2 : cs_opt (s_giveFace σ c f) = cs_fam (s_give1 σ c f) c := j8
    rw [e1, e2]
    exact r1.2.2.2.1 c hc6
/-- Long.bitCount, as the JDK has it -/
def bc1 (w : Int64) : Int64 := w - (ushL w (nI 1) &&& 6148914691236517205)
def bc2 (w : Int64) : Int64 := (w &&& 3689348814741910323) + (ushL w (nI 2) &&& 3689348814741910323)
def bc3 (w : Int64) : Int64 := (w + ushL w (nI 4)) &&& 1085102592571150095
def bc4 (w : Int64) : Int64 := w + ushL w (nI 8)
def bc5 (w : Int64) : Int64 := w + ushL w (nI 16)
def bc6 (w : Int64) : Int64 := w + ushL w (nI 32)
def j_bits (w : Int64) : Int32 := (bc6 (bc5 (bc4 (bc3 (bc2 (bc1 w)))))).toInt32 &&& nI 127
end
section
set_option maxHeartbeats 4000000 in
set_option maxRecDepth 100000 in
theorem c_X2_holds (l : Launch) (D : va_G) (a : Nat → Nat) (k : Nat → ClassId) (σ : CS) (w1 : Int64) (n1 : Nat) : Met l yX2_holds wsX2_holds (rmC 0 0) (cP D a k σ [.long w1, .int (nI n1)]) (roQ (bI (s_holds w1 n1))) 0 0 (fun _ => False) := by
  refine Met.ofW (cc := cX2_holds) (maxL := 3) (ret := (some .boolean)) (by decide) rfl ?_
  intro p e s m args below meth c s₁ B hml hv
  obtain ⟨rfl, hP, hK⟩ := hv
  have hx := B.exec
  have hb := B.bytes
  have hr := B.returns
  have hts := atoms_spec (ws := wsX2_holds) B.pre
  have hown : s.vm.findClass RX2 = some m.cls := findClass_of_methodNamed B.named
  have hlocks := B.notSynchronized
  clear B
  have hl := lv_entry ([.long w1, .int (nI n1)]) (n := 3) (Nat.le_of_ble_eq_true rfl)
  rw [lg_entry_eq]
  generalize (lg_sl ([.long w1, .int (nI n1)]) ++ List.replicate (3 - (lg_sl ([.long w1, .int (nI n1)])).length) Slot.unset).toArray = ls at hl ⊢
  replace hl : lv_has ls 3 [(0, .long w1), (2, .int (nI n1))] := hl
  refine gen_start (A := (fun _ => False)) (fun H locs hP hS => ?_) hP
  refine lv_lload_n hx hb dX2_holds_0 rfl (lv_at hl 0 rfl) ?_
  refine lv_iload_n hx hb dX2_holds_1 rfl (lv_at hl 1 rfl) ?_
  refine lv_lushr (v := (ushL w1 (nI n1))) hx hb dX2_holds_2 rfl ?_
  refine lv_lconst (v := 1) hx hb dX2_holds_3 (by decide) ?_
  refine lv_land hx hb dX2_holds_4 ?_
  refine lv_lconst (v := 0) hx hb dX2_holds_5 (by decide) ?_
  refine W.lcmp hx hb dX2_holds_6 ?_
  refine lv_if_eq (tgt := 14) hx hb dX2_holds_7 (by decide) (fun c_1 => ?_) (fun c_1 => ?_)
  · have he := (lg_cmp_eq _ _).mp c_1
    refine lv_iconst (v := (nI 0)) hx hb dX2_holds_14 (by decide) ?_
    exact W.zret (v := (nI 0)) hx hb hr rfl (fun t ht hW => ⟨⟨(nI 0), (), rfl, (by simp [s_holds, bI, he]), trivial⟩, hS.F ht⟩) hS.2.2 dX2_holds_15
  · have he : ¬ (ushL w1 (nI n1) &&& (1 : Int64)) = (0 : Int64) := fun h => c_1 ((lg_cmp_eq _ _).mpr h)
    refine lv_iconst (v := (nI 1)) hx hb dX2_holds_10 (by decide) ?_
    refine lv_goto (tgt := 15) hx hb dX2_holds_11 (by decide) ?_
    exact W.zret (v := (nI 1)) hx hb hr rfl (fun t ht hW => ⟨⟨(nI 1), (), rfl, (by simp [s_holds, bI, he]), trivial⟩, hS.F ht⟩) hS.2.2 dX2_holds_15
set_option maxHeartbeats 4000000 in
set_option maxRecDepth 100000 in
theorem c_X1_exists (l : Launch) (D : va_G) (a : Nat → Nat) (k : Nat → ClassId) (σ : CS) (x1 : Int32) : Met l yX1_exists wsX1_exists (rmC 0 0) (cP D a k σ [.ref (a 2), .int x1]) (roQ (bI (m_exists σ x1))) 0 0 (fun _ => False) := by
  refine Met.ofW (cc := cX1_exists) (maxL := 2) (ret := (some .boolean)) (by decide) rfl ?_
  intro p e s m args below meth c s₁ B hml hv
  obtain ⟨rfl, hP, hK⟩ := hv
  have hx := B.exec
  have hb := B.bytes
  have hr := B.returns
  have hts := atoms_spec (ws := wsX1_exists) B.pre
  have hown : s.vm.findClass RX1 = some m.cls := findClass_of_methodNamed B.named
  have hlocks := B.notSynchronized
  clear B
  have hl := lv_entry ([.ref (a 2), .int x1]) (n := 2) (Nat.le_of_ble_eq_true rfl)
  rw [lg_entry_eq]
  generalize (lg_sl ([.ref (a 2), .int x1]) ++ List.replicate (2 - (lg_sl ([.ref (a 2), .int x1])).length) Slot.unset).toArray = ls at hl ⊢
  replace hl : lv_has ls 2 [(0, .ref (a 2)), (1, .int x1)] := hl
  refine gen_start (A := (fun _ => False)) (fun H locs hP hS => ?_) hP
  refine lv_iload_n hx hb dX1_exists_0 rfl (lv_at hl 1 rfl) ?_
  refine lv_if_lt (tgt := 16) hx hb dX1_exists_1 (by decide) (fun c_1 => ?_) (fun c_1 => ?_)
  · refine lv_iconst (v := (nI 0)) hx hb dX1_exists_16 (by decide) ?_
    exact W.zret (v := (nI 0)) hx hb hr rfl (fun t ht hW => ⟨⟨(nI 0), (), rfl, (by simp [m_exists, bI, c_1]), trivial⟩, hS.F ht⟩) hS.2.2 dX1_exists_17
  · refine lv_iload_n hx hb dX1_exists_4 rfl (lv_at hl 1 rfl) ?_
    refine lv_aload_n hx hb dX1_exists_5 rfl (lv_at hl 0 rfl) ?_
    refine va_get (D := D) (ci := 2) (v := .int (nI (cs_m σ))) (C := RX1) (T := TX1) (N := 7) hx hb hts (by decide +kernel) hown hK.1 hP 2 rfl rfl 0 (by decide) (hts (.fieldLink RX1 9 "ChooseTree$Methods" "count" "I") (by decide +kernel)) (fun _ h9 => h9) rfl dX1_exists_6 ?_
    refine lv_icmp_ge (tgt := 16) hx hb dX1_exists_9 (by decide) (fun c_2 => ?_) (fun c_2 => ?_)
    · refine lv_iconst (v := (nI 0)) hx hb dX1_exists_16 (by decide) ?_
      exact W.zret (v := (nI 0)) hx hb hr rfl (fun t ht hW => ⟨⟨(nI 0), (), rfl, (by simp [m_exists, bI, c_1, c_2]), trivial⟩, hS.F ht⟩) hS.2.2 dX1_exists_17
    · refine lv_iconst (v := (nI 1)) hx hb dX1_exists_12 (by decide) ?_
      refine lv_goto (tgt := 17) hx hb dX1_exists_13 (by decide) ?_
      exact W.zret (v := (nI 1)) hx hb hr rfl (fun t ht hW => ⟨⟨(nI 1), (), rfl, (by simp [m_exists, bI, c_1, c_2]), trivial⟩, hS.F ht⟩) hS.2.2 dX1_exists_17
set_option maxHeartbeats 4000000 in
set_option maxRecDepth 100000 in
theorem c_X1_isStatic (l : Launch) (D : va_G) (a : Nat → Nat) (k : Nat → ClassId) (σ : CS) (n1 : Nat) (hn1 : n1 < 400) : Met l yX1_isStatic wsX1_isStatic (rmC 0 0) (cP D a k σ [.ref (a 2), .int (nI n1)]) (roQ (bI (m_static σ n1))) 0 0 (fun _ => False) := by
  refine Met.ofW (cc := cX1_isStatic) (maxL := 2) (ret := (some .boolean)) (by decide) rfl ?_
  intro p e s m args below meth c s₁ B hml hv
  obtain ⟨rfl, hP, hK⟩ := hv
  have hx := B.exec
  have hb := B.bytes
  have hr := B.returns
  have hts := atoms_spec (ws := wsX1_isStatic) B.pre
  have hown : s.vm.findClass RX1 = some m.cls := findClass_of_methodNamed B.named
  have hlocks := B.notSynchronized
  clear B
  have hl := lv_entry ([.ref (a 2), .int (nI n1)]) (n := 2) (Nat.le_of_ble_eq_true rfl)
  rw [lg_entry_eq]
  generalize (lg_sl ([.ref (a 2), .int (nI n1)]) ++ List.replicate (2 - (lg_sl ([.ref (a 2), .int (nI n1)])).length) Slot.unset).toArray = ls at hl ⊢
  replace hl : lv_has ls 2 [(0, .ref (a 2)), (1, .int (nI n1))] := hl
  refine gen_start (A := (fun _ => False)) (fun H locs hP hS => ?_) hP
  refine lv_aload_n hx hb dX1_isStatic_0 rfl (lv_at hl 0 rfl) ?_
  refine va_get (D := D) (ci := 2) (v := .ref (a 15)) (C := RX1) (T := TX1) (N := 7) hx hb hts (by decide +kernel) hown hK.1 hP 2 rfl rfl 6 (by decide) (hts (.fieldLink RX1 31 "ChooseTree$Methods" "kind" "[I") (by decide +kernel)) (fun _ h9 => h9) rfl dX1_isStatic_1 ?_
  refine lv_iload_n hx hb dX1_isStatic_4 rfl (lv_at hl 1 rfl) ?_
  refine na_iald (D := D) hx hb hK.1 hP 15 12 rfl rfl (i := n1) (by omega) (by decide) dX1_isStatic_5 ?_
  refine lv_iconst (v := (nI 1)) hx hb dX1_isStatic_6 (by decide) ?_
  refine lv_iand hx hb dX1_isStatic_7 ?_
  refine lv_if_eq (tgt := 15) hx hb dX1_isStatic_8 (by decide) (fun c_1 => ?_) (fun c_1 => ?_)
  · refine lv_iconst (v := (nI 0)) hx hb dX1_isStatic_15 (by decide) ?_
    exact W.zret (v := (nI 0)) hx hb hr rfl (fun t ht hW => ⟨⟨(nI 0), (), rfl, (by simp [m_static, bI, c_1]), trivial⟩, hS.F ht⟩) hS.2.2 dX1_isStatic_16
  · refine lv_iconst (v := (nI 1)) hx hb dX1_isStatic_11 (by decide) ?_
    refine lv_goto (tgt := 16) hx hb dX1_isStatic_12 (by decide) ?_
    exact W.zret (v := (nI 1)) hx hb hr rfl (fun t ht hW => ⟨⟨(nI 1), (), rfl, (by simp [m_static, bI, c_1]), trivial⟩, hS.F ht⟩) hS.2.2 dX1_isStatic_16
set_option maxHeartbeats 4000000 in
set_option maxRecDepth 100000 in
theorem c_X1_isFinal (l : Launch) (D : va_G) (a : Nat → Nat) (k : Nat → ClassId) (σ : CS) (n1 : Nat) (hn1 : n1 < 400) : Met l yX1_isFinal wsX1_isFinal (rmC 0 0) (cP D a k σ [.ref (a 2), .int (nI n1)]) (roQ (bI (m_final σ n1))) 0 0 (fun _ => False) := by
  refine Met.ofW (cc := cX1_isFinal) (maxL := 2) (ret := (some .boolean)) (by decide) rfl ?_
  intro p e s m args below meth c s₁ B hml hv
  obtain ⟨rfl, hP, hK⟩ := hv
  have hx := B.exec
  have hb := B.bytes
  have hr := B.returns
  have hts := atoms_spec (ws := wsX1_isFinal) B.pre
  have hown : s.vm.findClass RX1 = some m.cls := findClass_of_methodNamed B.named
  have hlocks := B.notSynchronized
  clear B
  have hl := lv_entry ([.ref (a 2), .int (nI n1)]) (n := 2) (Nat.le_of_ble_eq_true rfl)
  rw [lg_entry_eq]
  generalize (lg_sl ([.ref (a 2), .int (nI n1)]) ++ List.replicate (2 - (lg_sl ([.ref (a 2), .int (nI n1)])).length) Slot.unset).toArray = ls at hl ⊢
  replace hl : lv_has ls 2 [(0, .ref (a 2)), (1, .int (nI n1))] := hl
  refine gen_start (A := (fun _ => False)) (fun H locs hP hS => ?_) hP
  refine lv_aload_n hx hb dX1_isFinal_0 rfl (lv_at hl 0 rfl) ?_
  refine va_get (D := D) (ci := 2) (v := .ref (a 15)) (C := RX1) (T := TX1) (N := 7) hx hb hts (by decide +kernel) hown hK.1 hP 2 rfl rfl 6 (by decide) (hts (.fieldLink RX1 31 "ChooseTree$Methods" "kind" "[I") (by decide +kernel)) (fun _ h9 => h9) rfl dX1_isFinal_1 ?_
  refine lv_iload_n hx hb dX1_isFinal_4 rfl (lv_at hl 1 rfl) ?_
  refine na_iald (D := D) hx hb hK.1 hP 15 12 rfl rfl (i := n1) (by omega) (by decide) dX1_isFinal_5 ?_
  refine lv_iconst (v := (nI 2)) hx hb dX1_isFinal_6 (by decide) ?_
  refine lv_iand hx hb dX1_isFinal_7 ?_
  refine lv_if_eq (tgt := 15) hx hb dX1_isFinal_8 (by decide) (fun c_1 => ?_) (fun c_1 => ?_)
  · refine lv_iconst (v := (nI 0)) hx hb dX1_isFinal_15 (by decide) ?_
    exact W.zret (v := (nI 0)) hx hb hr rfl (fun t ht hW => ⟨⟨(nI 0), (), rfl, (by simp [m_final, bI, c_1]), trivial⟩, hS.F ht⟩) hS.2.2 dX1_isFinal_16
  · refine lv_iconst (v := (nI 1)) hx hb dX1_isFinal_11 (by decide) ?_
    refine lv_goto (tgt := 16) hx hb dX1_isFinal_12 (by decide) ?_
    exact W.zret (v := (nI 1)) hx hb hr rfl (fun t ht hW => ⟨⟨(nI 1), (), rfl, (by simp [m_final, bI, c_1]), trivial⟩, hS.F ht⟩) hS.2.2 dX1_isFinal_16
set_option maxHeartbeats 4000000 in
set_option maxRecDepth 100000 in
theorem c_X1_isAbstract (l : Launch) (D : va_G) (a : Nat → Nat) (k : Nat → ClassId) (σ : CS) (n1 : Nat) (hn1 : n1 < 400) : Met l yX1_isAbstract wsX1_isAbstract (rmC 0 0) (cP D a k σ [.ref (a 2), .int (nI n1)]) (roQ (bI (m_abstract σ n1))) 0 0 (fun _ => False) := by
  refine Met.ofW (cc := cX1_isAbstract) (maxL := 2) (ret := (some .boolean)) (by decide) rfl ?_
  intro p e s m args below meth c s₁ B hml hv
  obtain ⟨rfl, hP, hK⟩ := hv
  have hx := B.exec
  have hb := B.bytes
  have hr := B.returns
  have hts := atoms_spec (ws := wsX1_isAbstract) B.pre
  have hown : s.vm.findClass RX1 = some m.cls := findClass_of_methodNamed B.named
  have hlocks := B.notSynchronized
  clear B
  have hl := lv_entry ([.ref (a 2), .int (nI n1)]) (n := 2) (Nat.le_of_ble_eq_true rfl)
  rw [lg_entry_eq]
  generalize (lg_sl ([.ref (a 2), .int (nI n1)]) ++ List.replicate (2 - (lg_sl ([.ref (a 2), .int (nI n1)])).length) Slot.unset).toArray = ls at hl ⊢
  replace hl : lv_has ls 2 [(0, .ref (a 2)), (1, .int (nI n1))] := hl
  refine gen_start (A := (fun _ => False)) (fun H locs hP hS => ?_) hP
  refine lv_aload_n hx hb dX1_isAbstract_0 rfl (lv_at hl 0 rfl) ?_
  refine va_get (D := D) (ci := 2) (v := .ref (a 15)) (C := RX1) (T := TX1) (N := 7) hx hb hts (by decide +kernel) hown hK.1 hP 2 rfl rfl 6 (by decide) (hts (.fieldLink RX1 31 "ChooseTree$Methods" "kind" "[I") (by decide +kernel)) (fun _ h9 => h9) rfl dX1_isAbstract_1 ?_
  refine lv_iload_n hx hb dX1_isAbstract_4 rfl (lv_at hl 1 rfl) ?_
  refine na_iald (D := D) hx hb hK.1 hP 15 12 rfl rfl (i := n1) (by omega) (by decide) dX1_isAbstract_5 ?_
  refine lv_iconst (v := (nI 4)) hx hb dX1_isAbstract_6 (by decide) ?_
  refine lv_iand hx hb dX1_isAbstract_7 ?_
  refine lv_if_eq (tgt := 15) hx hb dX1_isAbstract_8 (by decide) (fun c_1 => ?_) (fun c_1 => ?_)
  · refine lv_iconst (v := (nI 0)) hx hb dX1_isAbstract_15 (by decide) ?_
    exact W.zret (v := (nI 0)) hx hb hr rfl (fun t ht hW => ⟨⟨(nI 0), (), rfl, (by simp [m_abstract, bI, c_1]), trivial⟩, hS.F ht⟩) hS.2.2 dX1_isAbstract_16
  · refine lv_iconst (v := (nI 1)) hx hb dX1_isAbstract_11 (by decide) ?_
    refine lv_goto (tgt := 16) hx hb dX1_isAbstract_12 (by decide) ?_
    exact W.zret (v := (nI 1)) hx hb hr rfl (fun t ht hW => ⟨⟨(nI 1), (), rfl, (by simp [m_abstract, bI, c_1]), trivial⟩, hS.F ht⟩) hS.2.2 dX1_isAbstract_16
set_option maxHeartbeats 4000000 in
set_option maxRecDepth 100000 in
theorem c_X1_isPrivate (l : Launch) (D : va_G) (a : Nat → Nat) (k : Nat → ClassId) (σ : CS) (n1 : Nat) (hn1 : n1 < 400) : Met l yX1_isPrivate wsX1_isPrivate (rmC 0 0) (cP D a k σ [.ref (a 2), .int (nI n1)]) (roQ (bI (m_private σ n1))) 0 0 (fun _ => False) := by
  refine Met.ofW (cc := cX1_isPrivate) (maxL := 2) (ret := (some .boolean)) (by decide) rfl ?_
  intro p e s m args below meth c s₁ B hml hv
  obtain ⟨rfl, hP, hK⟩ := hv
  have hx := B.exec
  have hb := B.bytes
  have hr := B.returns
  have hts := atoms_spec (ws := wsX1_isPrivate) B.pre
  have hown : s.vm.findClass RX1 = some m.cls := findClass_of_methodNamed B.named
  have hlocks := B.notSynchronized
  clear B
  have hl := lv_entry ([.ref (a 2), .int (nI n1)]) (n := 2) (Nat.le_of_ble_eq_true rfl)
  rw [lg_entry_eq]
  generalize (lg_sl ([.ref (a 2), .int (nI n1)]) ++ List.replicate (2 - (lg_sl ([.ref (a 2), .int (nI n1)])).length) Slot.unset).toArray = ls at hl ⊢
  replace hl : lv_has ls 2 [(0, .ref (a 2)), (1, .int (nI n1))] := hl
  refine gen_start (A := (fun _ => False)) (fun H locs hP hS => ?_) hP
  refine lv_aload_n hx hb dX1_isPrivate_0 rfl (lv_at hl 0 rfl) ?_
  refine va_get (D := D) (ci := 2) (v := .ref (a 14)) (C := RX1) (T := TX1) (N := 7) hx hb hts (by decide +kernel) hown hK.1 hP 2 rfl rfl 5 (by decide) (hts (.fieldLink RX1 28 "ChooseTree$Methods" "sight" "[I") (by decide +kernel)) (fun _ h9 => h9) rfl dX1_isPrivate_1 ?_
  refine lv_iload_n hx hb dX1_isPrivate_4 rfl (lv_at hl 1 rfl) ?_
  refine na_iald (D := D) hx hb hK.1 hP 14 11 rfl rfl (i := n1) (by omega) (by decide) dX1_isPrivate_5 ?_
  refine lv_iconst (v := (nI 3)) hx hb dX1_isPrivate_6 (by decide) ?_
  refine lv_icmp_ne (tgt := 14) hx hb dX1_isPrivate_7 (by decide) (fun c_1 => ?_) (fun c_1 => ?_)
  · refine lv_iconst (v := (nI 0)) hx hb dX1_isPrivate_14 (by decide) ?_
    exact W.zret (v := (nI 0)) hx hb hr rfl (fun t ht hW => ⟨⟨(nI 0), (), rfl, (by simp [m_private, bI, c_1]), trivial⟩, hS.F ht⟩) hS.2.2 dX1_isPrivate_15
  · refine lv_iconst (v := (nI 1)) hx hb dX1_isPrivate_10 (by decide) ?_
    refine lv_goto (tgt := 15) hx hb dX1_isPrivate_11 (by decide) ?_
    exact W.zret (v := (nI 1)) hx hb hr rfl (fun t ht hW => ⟨⟨(nI 1), (), rfl, (by simp [m_private, bI, c_1]), trivial⟩, hS.F ht⟩) hS.2.2 dX1_isPrivate_15
set_option maxHeartbeats 4000000 in
set_option maxRecDepth 100000 in
theorem c_X1_isVirtual (l : Launch) (D : va_G) (a : Nat → Nat) (k : Nat → ClassId) (σ : CS) (n1 : Nat) (hn1 : n1 < 400) : Met l yX1_isVirtual wsX1_isVirtual (rmC 1 21) (cP D a k σ [.ref (a 2), .int (nI n1)]) (roQ (bI (m_virtual σ n1))) 0 0 (fun _ => False) := by
  refine Met.ofW (cc := cX1_isVirtual) (maxL := 2) (ret := (some .boolean)) (by decide) rfl ?_
  intro p e s m args below meth c s₁ B hml hv
  obtain ⟨rfl, hP, hK⟩ := hv
  have hx := B.exec
  have hb := B.bytes
  have hr := B.returns
  have hts := atoms_spec (ws := wsX1_isVirtual) B.pre
  have hown : s.vm.findClass RX1 = some m.cls := findClass_of_methodNamed B.named
  have hlocks := B.notSynchronized
  clear B
  have hl := lv_entry ([.ref (a 2), .int (nI n1)]) (n := 2) (Nat.le_of_ble_eq_true rfl)
  rw [lg_entry_eq]
  generalize (lg_sl ([.ref (a 2), .int (nI n1)]) ++ List.replicate (2 - (lg_sl ([.ref (a 2), .int (nI n1)])).length) Slot.unset).toArray = ls at hl ⊢
  replace hl : lv_has ls 2 [(0, .ref (a 2)), (1, .int (nI n1))] := hl
  refine gen_start (A := (fun _ => False)) (fun H locs hP hS => ?_) hP
  refine lv_aload_n hx hb dX1_isVirtual_0 rfl (lv_at hl 0 rfl) ?_
  refine lv_iload_n hx hb dX1_isVirtual_1 rfl (lv_at hl 1 rfl) ?_
  refine va_calli (va_runV (As := [.int (nI n1)]) (rest := []) ⟨hx, hb, hml, hown, hts⟩ (c_X1_isStatic l D a k σ n1 hn1) (cwV 1 hts gX1_isVirtual_X1_isStatic rfl rfl rfl (by decide +kernel) ⟨Nat.le_of_ble_eq_true rfl, Nat.le_of_ble_eq_true rfl⟩) (cP_V hK hP 2 2 rfl rfl) rfl rfl hl.1 rfl (lv_room (Nat.le_of_ble_eq_true rfl)) dX1_isVirtual_2 ⟨Nat.le_of_ble_eq_true rfl, Nat.le_of_ble_eq_true rfl⟩) hS (fun _ _ h => h.elim) (fun _ h => h.elim) (fun r_1 u t H1 locs ht hvm hw hB hz1 hk1 hS => ?_)
  replace hP := ro_kept hP hk1
  obtain rfl : r_1 = _ := hw
  clear hk1 hz1 hvm ht hB
  generalize H1 = H at hP hS ⊢
  refine lv_if_ne (tgt := 20) hx hb dX1_isVirtual_5 (by decide) (fun c_2 => ?_) (fun c_2 => ?_)
  · have he5 := bI_n0.mp c_2
    refine lv_iconst (v := (nI 0)) hx hb dX1_isVirtual_20 (by decide) ?_
    exact W.zret (v := (nI 0)) hx hb hr rfl (fun t ht hW => ⟨⟨(nI 0), (), rfl, (by first | (simp [m_virtual, bI, he5, he13]; done) | (simp [m_virtual, bI, he5]; done)), trivial⟩, hS.F ht⟩) hS.2.2 dX1_isVirtual_21
  · have he5 := bI_0.mp c_2
    refine lv_aload_n hx hb dX1_isVirtual_8 rfl (lv_at hl 0 rfl) ?_
    refine lv_iload_n hx hb dX1_isVirtual_9 rfl (lv_at hl 1 rfl) ?_
    refine va_calli (va_runV (As := [.int (nI n1)]) (rest := []) ⟨hx, hb, hml, hown, hts⟩ (c_X1_isPrivate l D a k σ n1 hn1) (cwV 1 hts gX1_isVirtual_X1_isPrivate rfl rfl rfl (by decide +kernel) ⟨Nat.le_of_ble_eq_true rfl, Nat.le_of_ble_eq_true rfl⟩) (cP_V hK hP 2 2 rfl rfl) rfl rfl hl.1 rfl (lv_room (Nat.le_of_ble_eq_true rfl)) dX1_isVirtual_10 ⟨Nat.le_of_ble_eq_true rfl, Nat.le_of_ble_eq_true rfl⟩) hS (fun _ _ h => h.elim) (fun _ h => h.elim) (fun r_3 u t H1 locs ht hvm hw hB hz1 hk1 hS => ?_)
    replace hP := ro_kept hP hk1
    obtain rfl : r_3 = _ := hw
    clear hk1 hz1 hvm ht hB
    generalize H1 = H at hP hS ⊢
    refine lv_if_ne (tgt := 20) hx hb dX1_isVirtual_13 (by decide) (fun c_4 => ?_) (fun c_4 => ?_)
    · have he13 := bI_n0.mp c_4
      refine lv_iconst (v := (nI 0)) hx hb dX1_isVirtual_20 (by decide) ?_
      exact W.zret (v := (nI 0)) hx hb hr rfl (fun t ht hW => ⟨⟨(nI 0), (), rfl, (by first | (simp [m_virtual, bI, he5, he13]; done) | (simp [m_virtual, bI, he5]; done)), trivial⟩, hS.F ht⟩) hS.2.2 dX1_isVirtual_21
    · have he13 := bI_0.mp c_4
      refine lv_iconst (v := (nI 1)) hx hb dX1_isVirtual_16 (by decide) ?_
      refine lv_goto (tgt := 21) hx hb dX1_isVirtual_17 (by decide) ?_
      exact W.zret (v := (nI 1)) hx hb hr rfl (fun t ht hW => ⟨⟨(nI 1), (), rfl, (by first | (simp [m_virtual, bI, he5, he13]; done) | (simp [m_virtual, bI, he5]; done)), trivial⟩, hS.F ht⟩) hS.2.2 dX1_isVirtual_21
set_option maxHeartbeats 4000000 in
set_option maxRecDepth 100000 in
theorem c_X1_isPublicOrProtected (l : Launch) (D : va_G) (a : Nat → Nat) (k : Nat → ClassId) (σ : CS) (n1 : Nat) (hn1 : n1 < 400) : Met l yX1_isPublicOrProtected wsX1_isPublicOrProtected (rmC 0 0) (cP D a k σ [.ref (a 2), .int (nI n1)]) (roQ (bI (m_pp σ n1))) 0 0 (fun _ => False) := by
  refine Met.ofW (cc := cX1_isPublicOrProtected) (maxL := 2) (ret := (some .boolean)) (by decide) rfl ?_
  intro p e s m args below meth c s₁ B hml hv
  obtain ⟨rfl, hP, hK⟩ := hv
  have hx := B.exec
  have hb := B.bytes
  have hr := B.returns
  have hts := atoms_spec (ws := wsX1_isPublicOrProtected) B.pre
  have hown : s.vm.findClass RX1 = some m.cls := findClass_of_methodNamed B.named
  have hlocks := B.notSynchronized
  clear B
  have hl := lv_entry ([.ref (a 2), .int (nI n1)]) (n := 2) (Nat.le_of_ble_eq_true rfl)
  rw [lg_entry_eq]
  generalize (lg_sl ([.ref (a 2), .int (nI n1)]) ++ List.replicate (2 - (lg_sl ([.ref (a 2), .int (nI n1)])).length) Slot.unset).toArray = ls at hl ⊢
  replace hl : lv_has ls 2 [(0, .ref (a 2)), (1, .int (nI n1))] := hl
  refine gen_start (A := (fun _ => False)) (fun H locs hP hS => ?_) hP
  refine lv_aload_n hx hb dX1_isPublicOrProtected_0 rfl (lv_at hl 0 rfl) ?_
  refine va_get (D := D) (ci := 2) (v := .ref (a 14)) (C := RX1) (T := TX1) (N := 7) hx hb hts (by decide +kernel) hown hK.1 hP 2 rfl rfl 5 (by decide) (hts (.fieldLink RX1 28 "ChooseTree$Methods" "sight" "[I") (by decide +kernel)) (fun _ h9 => h9) rfl dX1_isPublicOrProtected_1 ?_
  refine lv_iload_n hx hb dX1_isPublicOrProtected_4 rfl (lv_at hl 1 rfl) ?_
  refine na_iald (D := D) hx hb hK.1 hP 14 11 rfl rfl (i := n1) (by omega) (by decide) dX1_isPublicOrProtected_5 ?_
  refine lv_iconst (v := (nI 1)) hx hb dX1_isPublicOrProtected_6 (by decide) ?_
  refine lv_icmp_eq (tgt := 20) hx hb dX1_isPublicOrProtected_7 (by decide) (fun c_1 => ?_) (fun c_1 => ?_)
  · refine lv_iconst (v := (nI 1)) hx hb dX1_isPublicOrProtected_20 (by decide) ?_
    refine lv_goto (tgt := 25) hx hb dX1_isPublicOrProtected_21 (by decide) ?_
    exact W.zret (v := (nI 1)) hx hb hr rfl (fun t ht hW => ⟨⟨(nI 1), (), rfl, (by simp [m_pp, bI, c_1]), trivial⟩, hS.F ht⟩) hS.2.2 dX1_isPublicOrProtected_25
  · refine lv_aload_n hx hb dX1_isPublicOrProtected_10 rfl (lv_at hl 0 rfl) ?_
    refine va_get (D := D) (ci := 2) (v := .ref (a 14)) (C := RX1) (T := TX1) (N := 7) hx hb hts (by decide +kernel) hown hK.1 hP 2 rfl rfl 5 (by decide) (hts (.fieldLink RX1 28 "ChooseTree$Methods" "sight" "[I") (by decide +kernel)) (fun _ h9 => h9) rfl dX1_isPublicOrProtected_11 ?_
    refine lv_iload_n hx hb dX1_isPublicOrProtected_14 rfl (lv_at hl 1 rfl) ?_
    refine na_iald (D := D) hx hb hK.1 hP 14 11 rfl rfl (i := n1) (by omega) (by decide) dX1_isPublicOrProtected_15 ?_
    refine lv_iconst (v := (nI 2)) hx hb dX1_isPublicOrProtected_16 (by decide) ?_
    refine lv_icmp_ne (tgt := 24) hx hb dX1_isPublicOrProtected_17 (by decide) (fun c_2 => ?_) (fun c_2 => ?_)
    · refine lv_iconst (v := (nI 0)) hx hb dX1_isPublicOrProtected_24 (by decide) ?_
      exact W.zret (v := (nI 0)) hx hb hr rfl (fun t ht hW => ⟨⟨(nI 0), (), rfl, (by simp [m_pp, bI, c_1, c_2]), trivial⟩, hS.F ht⟩) hS.2.2 dX1_isPublicOrProtected_25
    · refine lv_iconst (v := (nI 1)) hx hb dX1_isPublicOrProtected_20 (by decide) ?_
      refine lv_goto (tgt := 25) hx hb dX1_isPublicOrProtected_21 (by decide) ?_
      exact W.zret (v := (nI 1)) hx hb hr rfl (fun t ht hW => ⟨⟨(nI 1), (), rfl, (by simp [m_pp, bI, c_1, c_2]), trivial⟩, hS.F ht⟩) hS.2.2 dX1_isPublicOrProtected_25
set_option maxHeartbeats 4000000 in
set_option maxRecDepth 100000 in
theorem c_X1_inClass (l : Launch) (D : va_G) (a : Nat → Nat) (k : Nat → ClassId) (σ : CS) (hok : cok σ) (n1 : Nat) (hn1 : n1 < 60) (x2 : Int32) : Met l yX1_inClass wsX1_inClass (rmC 0 0) (cP D a k σ [.ref (a 2), .int (nI n1), .int x2]) (roQ (m_inClass σ n1 x2)) 0 0 (fun _ => False) := by
  refine Met.ofW (cc := cX1_inClass) (maxL := 5) (ret := (some .int)) (by decide) rfl ?_
  intro p e s m args below meth c s₁ B hml hv
  obtain ⟨rfl, hP, hK⟩ := hv
  have hx := B.exec
  have hb := B.bytes
  have hr := B.returns
  have hts := atoms_spec (ws := wsX1_inClass) B.pre
  have hown : s.vm.findClass RX1 = some m.cls := findClass_of_methodNamed B.named
  have hlocks := B.notSynchronized
  clear B
  have hl := lv_entry ([.ref (a 2), .int (nI n1), .int x2]) (n := 5) (Nat.le_of_ble_eq_true rfl)
  rw [lg_entry_eq]
  generalize (lg_sl ([.ref (a 2), .int (nI n1), .int x2]) ++ List.replicate (5 - (lg_sl ([.ref (a 2), .int (nI n1), .int x2])).length) Slot.unset).toArray = ls at hl ⊢
  replace hl : lv_has ls 5 [(0, .ref (a 2)), (1, .int (nI n1)), (2, .int x2)] := hl
  refine gen_start (A := (fun _ => False)) (fun H locs hP hS => ?_) hP
  obtain ⟨hb0, ⟨hb1, hb2, hb3, hb4, hb5, hb6⟩, hb7, hb8⟩ := id hok
  have hq1 := hb2 n1 hn1
  refine lv_aload_n hx hb dX1_inClass_0 rfl (lv_at hl 0 rfl) ?_
  refine va_get (D := D) (ci := 2) (v := .ref (a 12)) (C := RX1) (T := TX1) (N := 7) hx hb hts (by decide +kernel) hown hK.1 hP 2 rfl rfl 3 (by decide) (hts (.fieldLink RX1 22 "ChooseTree$Methods" "first" "[I") (by decide +kernel)) (fun _ h9 => h9) rfl dX1_inClass_1 ?_
  refine lv_iload_n hx hb dX1_inClass_4 rfl (lv_at hl 1 rfl) ?_
  refine na_iald (D := D) hx hb hK.1 hP 12 9 rfl rfl (i := n1) (by omega) (by decide) dX1_inClass_5 ?_
  refine lv_aload_n hx hb dX1_inClass_6 rfl (lv_at hl 0 rfl) ?_
  refine va_get (D := D) (ci := 2) (v := .ref (a 13)) (C := RX1) (T := TX1) (N := 7) hx hb hts (by decide +kernel) hown hK.1 hP 2 rfl rfl 4 (by decide) (hts (.fieldLink RX1 25 "ChooseTree$Methods" "amount" "[I") (by decide +kernel)) (fun _ h9 => h9) rfl dX1_inClass_7 ?_
  refine lv_iload_n hx hb dX1_inClass_10 rfl (lv_at hl 1 rfl) ?_
  refine na_iald (D := D) hx hb hK.1 hP 13 10 rfl rfl (i := n1) (by omega) (by decide) dX1_inClass_11 ?_
  refine lv_iaddN hx hb dX1_inClass_12 ?_
  refine lv_istore_n (lv' := [(3, .int (nI (((cs_fi σ) n1) + ((cs_am σ) n1)))), (0, .ref (a 2)), (1, .int (nI n1)), (2, .int x2)]) hx hb dX1_inClass_13 rfl hl (by decide) rfl (fun ls hl => ?_)
  refine lv_aload_n hx hb dX1_inClass_14 rfl (lv_at hl 1 rfl) ?_
  refine va_get (D := D) (ci := 2) (v := .ref (a 12)) (C := RX1) (T := TX1) (N := 7) hx hb hts (by decide +kernel) hown hK.1 hP 2 rfl rfl 3 (by decide) (hts (.fieldLink RX1 22 "ChooseTree$Methods" "first" "[I") (by decide +kernel)) (fun _ h9 => h9) rfl dX1_inClass_15 ?_
  refine lv_iload_n hx hb dX1_inClass_18 rfl (lv_at hl 2 rfl) ?_
  refine na_iald (D := D) hx hb hK.1 hP 12 9 rfl rfl (i := n1) (by omega) (by decide) dX1_inClass_19 ?_
  refine lv_istore (lv' := [(4, .int (nI ((cs_fi σ) n1))), (3, .int (nI (((cs_fi σ) n1) + ((cs_am σ) n1)))), (0, .ref (a 2)), (1, .int (nI n1)), (2, .int x2)]) hx hb dX1_inClass_20 hl (by decide) rfl (fun ls hl => ?_)
  obtain ⟨n, hn⟩ : ∃ n, n = cs_am σ n1 := ⟨_, rfl⟩
  obtain ⟨i, hi⟩ : ∃ i, i = cs_fi σ n1 := ⟨_, rfl⟩
  have hE : i + n = cs_fi σ n1 + cs_am σ n1 := by rw [hn, hi]
  have hres : m_scan (cs_nm σ) x2 n i = m_inClass σ n1 x2 := by rw [hn, hi]; rfl
  replace hl : lv_has ls 5 [(4, .int (nI i)), (3, .int (nI ((cs_fi σ) n1 + (cs_am σ) n1))), (0, .ref (a 2)), (1, .int (nI n1)), (2, .int x2)] := by rw [hi]; exact hl
  clear hn hi
  revert hl
  revert hres
  revert hE
  revert hS
  revert hP
  revert ls
  revert locs
  revert H
  revert i
  induction n with
  | zero =>
    intro i H locs ls hP hS hE hres hl
    refine lv_iload hx hb dX1_inClass_22 (lv_at hl 0 rfl) ?_
    refine lv_iload_n hx hb dX1_inClass_24 rfl (lv_at hl 1 rfl) ?_
    refine lv_icmp_ge (tgt := 48) hx hb dX1_inClass_25 (by decide) (fun c_1 => ?_) (fun c_1 => ?_)
    · refine lv_iconst (v := (-1)) hx hb dX1_inClass_48 (by decide) ?_
      exact W.iret (v := (-1)) hx hb hr (fun t ht hW => ⟨⟨(-1), (), rfl, (by rw [← hres]; rfl), trivial⟩, hS.F ht⟩) hS.2.2 dX1_inClass_49
    · exact absurd (nI_le (by omega) (by omega)) c_1
  | succ n ih =>
    intro i H locs ls hP hS hE hres hl
    refine lv_iload hx hb dX1_inClass_22 (lv_at hl 0 rfl) ?_
    refine lv_iload_n hx hb dX1_inClass_24 rfl (lv_at hl 1 rfl) ?_
    refine lv_icmp_ge (tgt := 48) hx hb dX1_inClass_25 (by decide) (fun c_2 => ?_) (fun c_2 => ?_)
    · exact absurd c_2 (nI_ge (by omega) (by omega))
    · refine lv_aload_n hx hb dX1_inClass_28 rfl (lv_at hl 2 rfl) ?_
      refine va_get (D := D) (ci := 2) (v := .ref (a 11)) (C := RX1) (T := TX1) (N := 7) hx hb hts (by decide +kernel) hown hK.1 hP 2 rfl rfl 2 (by decide) (hts (.fieldLink RX1 19 "ChooseTree$Methods" "name" "[I") (by decide +kernel)) (fun _ h9 => h9) rfl dX1_inClass_29 ?_
      refine lv_iload hx hb dX1_inClass_32 (lv_at hl 0 rfl) ?_
      refine na_iald (D := D) hx hb hK.1 hP 11 8 rfl rfl (i := i) (by omega) (by decide) dX1_inClass_34 ?_
      refine lv_iload_n hx hb dX1_inClass_35 rfl (lv_at hl 4 rfl) ?_
      refine lv_icmp_ne (tgt := 42) hx hb dX1_inClass_36 (by decide) (fun c_3 => ?_) (fun c_3 => ?_)
      · refine lv_iinc (v := (nI (i + 1))) (lv' := [(4, .int (nI (i + 1))), (3, .int (nI ((cs_fi σ) n1 + (cs_am σ) n1))), (0, .ref (a 2)), (1, .int (nI n1)), (2, .int x2)]) hx hb dX1_inClass_42 hl (k := 0) rfl (nI_1 _) (by decide) rfl (fun ls hl => ?_)
        refine lv_goto (tgt := 22) hx hb dX1_inClass_45 (by decide) ?_
        exact ih (i + 1) H locs ls hP hS (by omega) (by rw [← hres, m_scan, if_neg c_3]) (lv_sub hl [0, 1, 2, 3, 4] rfl)
      · refine lv_iload hx hb dX1_inClass_39 (lv_at hl 0 rfl) ?_
        exact W.iret (v := (nI i)) hx hb hr (fun t ht hW => ⟨⟨(nI i), (), rfl, (by rw [← hres, m_scan, if_pos c_3]), trivial⟩, hS.F ht⟩) hS.2.2 dX1_inClass_41
set_option maxHeartbeats 4000000 in
set_option maxRecDepth 100000 in
theorem c_X0_exists (l : Launch) (D : va_G) (a : Nat → Nat) (k : Nat → ClassId) (σ : CS) (x1 : Int32) : Met l yX0_exists wsX0_exists (rmC 0 0) (cP D a k σ [.ref (a 1), .int x1]) (roQ (bI (s_exists σ x1))) 0 0 (fun _ => False) := by
  refine Met.ofW (cc := cX0_exists) (maxL := 2) (ret := (some .boolean)) (by decide) rfl ?_
  intro p e s m args below meth c s₁ B hml hv
  obtain ⟨rfl, hP, hK⟩ := hv
  have hx := B.exec
  have hb := B.bytes
  have hr := B.returns
  have hts := atoms_spec (ws := wsX0_exists) B.pre
  have hown : s.vm.findClass RX0 = some m.cls := findClass_of_methodNamed B.named
  have hlocks := B.notSynchronized
  clear B
  have hl := lv_entry ([.ref (a 1), .int x1]) (n := 2) (Nat.le_of_ble_eq_true rfl)
  rw [lg_entry_eq]
  generalize (lg_sl ([.ref (a 1), .int x1]) ++ List.replicate (2 - (lg_sl ([.ref (a 1), .int x1])).length) Slot.unset).toArray = ls at hl ⊢
  replace hl : lv_has ls 2 [(0, .ref (a 1)), (1, .int x1)] := hl
  refine gen_start (A := (fun _ => False)) (fun H locs hP hS => ?_) hP
  refine lv_iload_n hx hb dX0_exists_0 rfl (lv_at hl 1 rfl) ?_
  refine lv_if_lt (tgt := 16) hx hb dX0_exists_1 (by decide) (fun c_1 => ?_) (fun c_1 => ?_)
  · refine lv_iconst (v := (nI 0)) hx hb dX0_exists_16 (by decide) ?_
    exact W.zret (v := (nI 0)) hx hb hr rfl (fun t ht hW => ⟨⟨(nI 0), (), rfl, (by simp [s_exists, bI, c_1]), trivial⟩, hS.F ht⟩) hS.2.2 dX0_exists_17
  · refine lv_iload_n hx hb dX0_exists_4 rfl (lv_at hl 1 rfl) ?_
    refine lv_aload_n hx hb dX0_exists_5 rfl (lv_at hl 0 rfl) ?_
    refine va_get (D := D) (ci := 1) (v := .int (nI (cs_n σ))) (C := RX0) (T := TX0) (N := 10) hx hb hts (by decide +kernel) hown hK.1 hP 1 rfl rfl 0 (by decide) (hts (.fieldLink RX0 9 "ChooseTree$Classes" "count" "I") (by decide +kernel)) (fun _ h9 => h9) rfl dX0_exists_6 ?_
    refine lv_icmp_ge (tgt := 16) hx hb dX0_exists_9 (by decide) (fun c_2 => ?_) (fun c_2 => ?_)
    · refine lv_iconst (v := (nI 0)) hx hb dX0_exists_16 (by decide) ?_
      exact W.zret (v := (nI 0)) hx hb hr rfl (fun t ht hW => ⟨⟨(nI 0), (), rfl, (by simp [s_exists, bI, c_1, c_2]), trivial⟩, hS.F ht⟩) hS.2.2 dX0_exists_17
    · refine lv_iconst (v := (nI 1)) hx hb dX0_exists_12 (by decide) ?_
      refine lv_goto (tgt := 17) hx hb dX0_exists_13 (by decide) ?_
      exact W.zret (v := (nI 1)) hx hb hr rfl (fun t ht hW => ⟨⟨(nI 1), (), rfl, (by simp [s_exists, bI, c_1, c_2]), trivial⟩, hS.F ht⟩) hS.2.2 dX0_exists_17
set_option maxHeartbeats 4000000 in
set_option maxRecDepth 100000 in
theorem c_X0_isFace (l : Launch) (D : va_G) (a : Nat → Nat) (k : Nat → ClassId) (σ : CS) (hok : cok σ) (x1 : Int32) : Met l yX0_isFace wsX0_isFace (rmC 1 21) (cP D a k σ [.ref (a 1), .int x1]) (roQ (bI (s_isFace σ x1))) 0 0 (fun _ => False) := by
  refine Met.ofW (cc := cX0_isFace) (maxL := 2) (ret := (some .boolean)) (by decide) rfl ?_
  intro p e s m args below meth c s₁ B hml hv
  obtain ⟨rfl, hP, hK⟩ := hv
  have hx := B.exec
  have hb := B.bytes
  have hr := B.returns
  have hts := atoms_spec (ws := wsX0_isFace) B.pre
  have hown : s.vm.findClass RX0 = some m.cls := findClass_of_methodNamed B.named
  have hlocks := B.notSynchronized
  clear B
  have hl := lv_entry ([.ref (a 1), .int x1]) (n := 2) (Nat.le_of_ble_eq_true rfl)
  rw [lg_entry_eq]
  generalize (lg_sl ([.ref (a 1), .int x1]) ++ List.replicate (2 - (lg_sl ([.ref (a 1), .int x1])).length) Slot.unset).toArray = ls at hl ⊢
  replace hl : lv_has ls 2 [(0, .ref (a 1)), (1, .int x1)] := hl
  refine gen_start (A := (fun _ => False)) (fun H locs hP hS => ?_) hP
  obtain ⟨hb0, ⟨hb1, hb2, hb3, hb4, hb5, hb6⟩, hb7, hb8⟩ := id hok
  refine lv_aload_n hx hb dX0_isFace_0 rfl (lv_at hl 0 rfl) ?_
  refine lv_iload_n hx hb dX0_isFace_1 rfl (lv_at hl 1 rfl) ?_
  refine va_calli (va_runV (As := [.int x1]) (rest := []) ⟨hx, hb, hml, hown, hts⟩ (c_X0_exists l D a k σ x1) (cwV 1 hts gX0_isFace_X0_exists rfl rfl rfl (by decide +kernel) ⟨Nat.le_of_ble_eq_true rfl, Nat.le_of_ble_eq_true rfl⟩) (cP_V hK hP 1 1 rfl rfl) rfl rfl hl.1 rfl (lv_room (Nat.le_of_ble_eq_true rfl)) dX0_isFace_2 ⟨Nat.le_of_ble_eq_true rfl, Nat.le_of_ble_eq_true rfl⟩) hS (fun _ _ h => h.elim) (fun _ h => h.elim) (fun r_1 u t H1 locs ht hvm hw hB hz1 hk1 hS => ?_)
  replace hP := ro_kept hP hk1
  obtain rfl : r_1 = _ := hw
  clear hk1 hz1 hvm ht hB
  generalize H1 = H at hP hS ⊢
  refine lv_if_eq (tgt := 21) hx hb dX0_isFace_5 (by decide) (fun c_2 => ?_) (fun c_2 => ?_)
  · have he := bI_0.mp c_2
    refine lv_iconst (v := (nI 0)) hx hb dX0_isFace_21 (by decide) ?_
    exact W.zret (v := (nI 0)) hx hb hr rfl (fun t ht hW => ⟨⟨(nI 0), (), rfl, (by first | (simp [s_isFace, bI, he]; done) | (simp [s_isFace, bI, he, hcl, c_2]; done)), trivial⟩, hS.F ht⟩) hS.2.2 dX0_isFace_22
  · have he := bI_n0.mp c_2
    obtain ⟨j, hj, rfl⟩ := s_exists_of hok he
    have hcl := nI_clamp (n := j) (by omega)
    refine lv_aload_n hx hb dX0_isFace_8 rfl (lv_at hl 0 rfl) ?_
    refine va_get (D := D) (ci := 1) (v := .ref (a 5)) (C := RX0) (T := TX0) (N := 10) hx hb hts (by decide +kernel) hown hK.1 hP 1 rfl rfl 3 (by decide) (hts (.fieldLink RX0 22 "ChooseTree$Classes" "face" "[Z") (by decide +kernel)) (fun _ h9 => h9) rfl dX0_isFace_9 ?_
    refine lv_iload_n hx hb dX0_isFace_12 rfl (lv_at hl 1 rfl) ?_
    refine na_zald (D := D) hx hb hK.1 hP 5 2 rfl rfl (i := j) (by omega) (by decide) dX0_isFace_13 ?_
    refine lv_if_eq (tgt := 21) hx hb dX0_isFace_14 (by decide) (fun c_3 => ?_) (fun c_3 => ?_)
    · refine lv_iconst (v := (nI 0)) hx hb dX0_isFace_21 (by decide) ?_
      exact W.zret (v := (nI 0)) hx hb hr rfl (fun t ht hW => ⟨⟨(nI 0), (), rfl, (by first | (simp [s_isFace, bI, he]; done) | (simp [s_isFace, bI, he, hcl, c_2, c_3]; done)), trivial⟩, hS.F ht⟩) hS.2.2 dX0_isFace_22
    · refine lv_iconst (v := (nI 1)) hx hb dX0_isFace_17 (by decide) ?_
      refine lv_goto (tgt := 22) hx hb dX0_isFace_18 (by decide) ?_
      exact W.zret (v := (nI 1)) hx hb hr rfl (fun t ht hW => ⟨⟨(nI 1), (), rfl, (by first | (simp [s_isFace, bI, he]; done) | (simp [s_isFace, bI, he, hcl, c_2, c_3]; done)), trivial⟩, hS.F ht⟩) hS.2.2 dX0_isFace_22
set_option maxHeartbeats 4000000 in
set_option maxRecDepth 100000 in
theorem c_X0_isPlain (l : Launch) (D : va_G) (a : Nat → Nat) (k : Nat → ClassId) (σ : CS) (hok : cok σ) (x1 : Int32) : Met l yX0_isPlain wsX0_isPlain (rmC 1 21) (cP D a k σ [.ref (a 1), .int x1]) (roQ (bI (s_isPlain σ x1))) 0 0 (fun _ => False) := by
  refine Met.ofW (cc := cX0_isPlain) (maxL := 2) (ret := (some .boolean)) (by decide) rfl ?_
  intro p e s m args below meth c s₁ B hml hv
  obtain ⟨rfl, hP, hK⟩ := hv
  have hx := B.exec
  have hb := B.bytes
  have hr := B.returns
  have hts := atoms_spec (ws := wsX0_isPlain) B.pre
  have hown : s.vm.findClass RX0 = some m.cls := findClass_of_methodNamed B.named
  have hlocks := B.notSynchronized
  clear B
  have hl := lv_entry ([.ref (a 1), .int x1]) (n := 2) (Nat.le_of_ble_eq_true rfl)
  rw [lg_entry_eq]
  generalize (lg_sl ([.ref (a 1), .int x1]) ++ List.replicate (2 - (lg_sl ([.ref (a 1), .int x1])).length) Slot.unset).toArray = ls at hl ⊢
  replace hl : lv_has ls 2 [(0, .ref (a 1)), (1, .int x1)] := hl
  refine gen_start (A := (fun _ => False)) (fun H locs hP hS => ?_) hP
  obtain ⟨hb0, ⟨hb1, hb2, hb3, hb4, hb5, hb6⟩, hb7, hb8⟩ := id hok
  refine lv_aload_n hx hb dX0_isPlain_0 rfl (lv_at hl 0 rfl) ?_
  refine lv_iload_n hx hb dX0_isPlain_1 rfl (lv_at hl 1 rfl) ?_
  refine va_calli (va_runV (As := [.int x1]) (rest := []) ⟨hx, hb, hml, hown, hts⟩ (c_X0_exists l D a k σ x1) (cwV 1 hts gX0_isPlain_X0_exists rfl rfl rfl (by decide +kernel) ⟨Nat.le_of_ble_eq_true rfl, Nat.le_of_ble_eq_true rfl⟩) (cP_V hK hP 1 1 rfl rfl) rfl rfl hl.1 rfl (lv_room (Nat.le_of_ble_eq_true rfl)) dX0_isPlain_2 ⟨Nat.le_of_ble_eq_true rfl, Nat.le_of_ble_eq_true rfl⟩) hS (fun _ _ h => h.elim) (fun _ h => h.elim) (fun r_1 u t H1 locs ht hvm hw hB hz1 hk1 hS => ?_)
  replace hP := ro_kept hP hk1
  obtain rfl : r_1 = _ := hw
  clear hk1 hz1 hvm ht hB
  generalize H1 = H at hP hS ⊢
  refine lv_if_eq (tgt := 21) hx hb dX0_isPlain_5 (by decide) (fun c_2 => ?_) (fun c_2 => ?_)
  · have he := bI_0.mp c_2
    refine lv_iconst (v := (nI 0)) hx hb dX0_isPlain_21 (by decide) ?_
    exact W.zret (v := (nI 0)) hx hb hr rfl (fun t ht hW => ⟨⟨(nI 0), (), rfl, (by first | (simp [s_isPlain, bI, he]; done) | (simp [s_isPlain, bI, he, hcl, c_2]; done)), trivial⟩, hS.F ht⟩) hS.2.2 dX0_isPlain_22
  · have he := bI_n0.mp c_2
    obtain ⟨j, hj, rfl⟩ := s_exists_of hok he
    have hcl := nI_clamp (n := j) (by omega)
    refine lv_aload_n hx hb dX0_isPlain_8 rfl (lv_at hl 0 rfl) ?_
    refine va_get (D := D) (ci := 1) (v := .ref (a 5)) (C := RX0) (T := TX0) (N := 10) hx hb hts (by decide +kernel) hown hK.1 hP 1 rfl rfl 3 (by decide) (hts (.fieldLink RX0 22 "ChooseTree$Classes" "face" "[Z") (by decide +kernel)) (fun _ h9 => h9) rfl dX0_isPlain_9 ?_
    refine lv_iload_n hx hb dX0_isPlain_12 rfl (lv_at hl 1 rfl) ?_
    refine na_zald (D := D) hx hb hK.1 hP 5 2 rfl rfl (i := j) (by omega) (by decide) dX0_isPlain_13 ?_
    refine lv_if_ne (tgt := 21) hx hb dX0_isPlain_14 (by decide) (fun c_3 => ?_) (fun c_3 => ?_)
    · refine lv_iconst (v := (nI 0)) hx hb dX0_isPlain_21 (by decide) ?_
      exact W.zret (v := (nI 0)) hx hb hr rfl (fun t ht hW => ⟨⟨(nI 0), (), rfl, (by first | (simp [s_isPlain, bI, he]; done) | (simp [s_isPlain, bI, he, hcl, c_2, c_3]; done)), trivial⟩, hS.F ht⟩) hS.2.2 dX0_isPlain_22
    · refine lv_iconst (v := (nI 1)) hx hb dX0_isPlain_17 (by decide) ?_
      refine lv_goto (tgt := 22) hx hb dX0_isPlain_18 (by decide) ?_
      exact W.zret (v := (nI 1)) hx hb hr rfl (fun t ht hW => ⟨⟨(nI 1), (), rfl, (by first | (simp [s_isPlain, bI, he]; done) | (simp [s_isPlain, bI, he, hcl, c_2, c_3]; done)), trivial⟩, hS.F ht⟩) hS.2.2 dX0_isPlain_22
set_option maxHeartbeats 4000000 in
set_option maxRecDepth 100000 in
theorem c_X0_isLatest (l : Launch) (D : va_G) (a : Nat → Nat) (k : Nat → ClassId) (σ : CS) (x1 : Int32) : Met l yX0_isLatest wsX0_isLatest (rmC 0 0) (cP D a k σ [.ref (a 1), .int x1]) (roQ (bI (s_isLatest σ x1))) 0 0 (fun _ => False) := by
  refine Met.ofW (cc := cX0_isLatest) (maxL := 2) (ret := (some .boolean)) (by decide) rfl ?_
  intro p e s m args below meth c s₁ B hml hv
  obtain ⟨rfl, hP, hK⟩ := hv
  have hx := B.exec
  have hb := B.bytes
  have hr := B.returns
  have hts := atoms_spec (ws := wsX0_isLatest) B.pre
  have hown : s.vm.findClass RX0 = some m.cls := findClass_of_methodNamed B.named
  have hlocks := B.notSynchronized
  clear B
  have hl := lv_entry ([.ref (a 1), .int x1]) (n := 2) (Nat.le_of_ble_eq_true rfl)
  rw [lg_entry_eq]
  generalize (lg_sl ([.ref (a 1), .int x1]) ++ List.replicate (2 - (lg_sl ([.ref (a 1), .int x1])).length) Slot.unset).toArray = ls at hl ⊢
  replace hl : lv_has ls 2 [(0, .ref (a 1)), (1, .int x1)] := hl
  refine gen_start (A := (fun _ => False)) (fun H locs hP hS => ?_) hP
  refine lv_iload_n hx hb dX0_isLatest_0 rfl (lv_at hl 1 rfl) ?_
  refine lv_aload_n hx hb dX0_isLatest_1 rfl (lv_at hl 0 rfl) ?_
  refine va_get (D := D) (ci := 1) (v := .int (nI (cs_n σ))) (C := RX0) (T := TX0) (N := 10) hx hb hts (by decide +kernel) hown hK.1 hP 1 rfl rfl 0 (by decide) (hts (.fieldLink RX0 9 "ChooseTree$Classes" "count" "I") (by decide +kernel)) (fun _ h9 => h9) rfl dX0_isLatest_2 ?_
  refine lv_iconst (v := (nI 1)) hx hb dX0_isLatest_5 (by decide) ?_
  refine lv_isub hx hb dX0_isLatest_6 ?_
  refine lv_icmp_ne (tgt := 14) hx hb dX0_isLatest_7 (by decide) (fun c_1 => ?_) (fun c_1 => ?_)
  · refine lv_iconst (v := (nI 0)) hx hb dX0_isLatest_14 (by decide) ?_
    exact W.zret (v := (nI 0)) hx hb hr rfl (fun t ht hW => ⟨⟨(nI 0), (), rfl, (by simp [s_isLatest, bI, c_1]), trivial⟩, hS.F ht⟩) hS.2.2 dX0_isLatest_15
  · refine lv_iconst (v := (nI 1)) hx hb dX0_isLatest_10 (by decide) ?_
    refine lv_goto (tgt := 15) hx hb dX0_isLatest_11 (by decide) ?_
    exact W.zret (v := (nI 1)) hx hb hr rfl (fun t ht hW => ⟨⟨(nI 1), (), rfl, (by simp [s_isLatest, bI, c_1]), trivial⟩, hS.F ht⟩) hS.2.2 dX0_isLatest_15
set_option maxHeartbeats 4000000 in
set_option maxRecDepth 100000 in
theorem c_X0_below (l : Launch) (D : va_G) (a : Nat → Nat) (k : Nat → ClassId) (σ : CS) (n1 n2 : Nat) (hn1 : n1 < 60) : Met l yX0_below wsX0_below (rmC 1 22) (cP D a k σ [.ref (a 1), .int (nI n1), .int (nI n2)]) (roQ (bI (s_below σ n1 n2))) 0 0 (fun _ => False) := by
  refine Met.ofW (cc := cX0_below) (maxL := 3) (ret := (some .boolean)) (by decide) rfl ?_
  intro p e s m args below meth c s₁ B hml hv
  obtain ⟨rfl, hP, hK⟩ := hv
  have hx := B.exec
  have hb := B.bytes
  have hr := B.returns
  have hts := atoms_spec (ws := wsX0_below) B.pre
  have hown : s.vm.findClass RX0 = some m.cls := findClass_of_methodNamed B.named
  have hlocks := B.notSynchronized
  clear B
  have hl := lv_entry ([.ref (a 1), .int (nI n1), .int (nI n2)]) (n := 3) (Nat.le_of_ble_eq_true rfl)
  rw [lg_entry_eq]
  generalize (lg_sl ([.ref (a 1), .int (nI n1), .int (nI n2)]) ++ List.replicate (3 - (lg_sl ([.ref (a 1), .int (nI n1), .int (nI n2)])).length) Slot.unset).toArray = ls at hl ⊢
  replace hl : lv_has ls 3 [(0, .ref (a 1)), (1, .int (nI n1)), (2, .int (nI n2))] := hl
  refine gen_start (A := (fun _ => False)) (fun H locs hP hS => ?_) hP
  refine lv_aload_n hx hb dX0_below_0 rfl (lv_at hl 0 rfl) ?_
  refine va_get (D := D) (ci := 1) (v := .ref (a 6)) (C := RX0) (T := TX0) (N := 10) hx hb hts (by decide +kernel) hown hK.1 hP 1 rfl rfl 4 (by decide) (hts (.fieldLink RX0 26 "ChooseTree$Classes" "above" "[J") (by decide +kernel)) (fun _ h9 => h9) rfl dX0_below_1 ?_
  refine lv_iload_n hx hb dX0_below_4 rfl (lv_at hl 1 rfl) ?_
  refine na_lald (D := D) hx hb hK.1 hP 6 3 rfl rfl (i := n1) (by omega) (by decide) dX0_below_5 ?_
  refine lv_iload_n hx hb dX0_below_6 rfl (lv_at hl 2 rfl) ?_
  refine va_calli (va_runSN (As := [.long ((cs_abv σ) n1), .int (nI n2)]) (rest := []) ⟨hx, hb, hml, hown, hts⟩ (c_X2_holds l D a k σ (cs_abv σ n1) n2) ⟨va_cnB 2 hts gX0_below_X2_holds_n50 rfl rfl rfl hK.2 (hts (.initialized RX2) (by decide +kernel)) (by decide +kernel) ⟨Nat.le_of_ble_eq_true rfl, Nat.le_of_ble_eq_true rfl⟩, hts (.static yX2_holds) (by decide +kernel), trivial⟩ (cP_S hK hP) rfl rfl hl.1 rfl (lv_room (Nat.le_of_ble_eq_true rfl)) dX0_below_7 ⟨Nat.le_of_ble_eq_true rfl, Nat.le_of_ble_eq_true rfl⟩) hS (fun _ _ h => h.elim) (fun _ h => h.elim) (fun r_1 u t H1 locs ht hvm hw hB hz1 hk1 hS => ?_)
  replace hP := ro_kept hP hk1
  obtain rfl : r_1 = _ := hw
  clear hk1 hz1 hvm ht hB
  generalize H1 = H at hP hS ⊢
  exact W.zret (v := (bI (s_holds (cs_abv σ n1) n2))) hx hb hr (bI_nar _) (fun t ht hW => ⟨⟨(bI (s_holds (cs_abv σ n1) n2)), (), rfl, rfl, trivial⟩, hS.F ht⟩) hS.2.2 dX0_below_10
set_option maxHeartbeats 4000000 in
set_option maxRecDepth 100000 in
theorem c_X0_inRow (l : Launch) (D : va_G) (a : Nat → Nat) (k : Nat → ClassId) (σ : CS) (n1 n2 : Nat) (hn1 : n1 < 60) (hn2 : n2 < 60) : Met l yX0_inRow wsX0_inRow (rmC 2 44) (cP D a k σ [.ref (a 1), .int (nI n1), .int (nI n2)]) (roQ (bI (s_inRow σ n1 n2))) 0 0 (fun _ => False) := by
  refine Met.ofW (cc := cX0_inRow) (maxL := 3) (ret := (some .boolean)) (by decide) rfl ?_
  intro p e s m args below meth c s₁ B hml hv
  obtain ⟨rfl, hP, hK⟩ := hv
  have hx := B.exec
  have hb := B.bytes
  have hr := B.returns
  have hts := atoms_spec (ws := wsX0_inRow) B.pre
  have hown : s.vm.findClass RX0 = some m.cls := findClass_of_methodNamed B.named
  have hlocks := B.notSynchronized
  clear B
  have hl := lv_entry ([.ref (a 1), .int (nI n1), .int (nI n2)]) (n := 3) (Nat.le_of_ble_eq_true rfl)
  rw [lg_entry_eq]
  generalize (lg_sl ([.ref (a 1), .int (nI n1), .int (nI n2)]) ++ List.replicate (3 - (lg_sl ([.ref (a 1), .int (nI n1), .int (nI n2)])).length) Slot.unset).toArray = ls at hl ⊢
  replace hl : lv_has ls 3 [(0, .ref (a 1)), (1, .int (nI n1)), (2, .int (nI n2))] := hl
  refine gen_start (A := (fun _ => False)) (fun H locs hP hS => ?_) hP
  refine lv_iload_n hx hb dX0_inRow_0 rfl (lv_at hl 1 rfl) ?_
  refine lv_iload_n hx hb dX0_inRow_1 rfl (lv_at hl 2 rfl) ?_
  refine lv_icmp_eq (tgt := 32) hx hb dX0_inRow_2 (by decide) (fun c_1 => ?_) (fun c_1 => ?_)
  · refine lv_iconst (v := (nI 1)) hx hb dX0_inRow_32 (by decide) ?_
    refine lv_goto (tgt := 37) hx hb dX0_inRow_33 (by decide) ?_
    exact W.zret (v := (nI 1)) hx hb hr rfl (fun t ht hW => ⟨⟨(nI 1), (), rfl, (by first | (simp [s_inRow, bI, c_1]; done) | (simp [s_inRow, bI, he, c_1]; done)), trivial⟩, hS.F ht⟩) hS.2.2 dX0_inRow_37
  · refine lv_aload_n hx hb dX0_inRow_5 rfl (lv_at hl 0 rfl) ?_
    refine va_get (D := D) (ci := 1) (v := .ref (a 5)) (C := RX0) (T := TX0) (N := 10) hx hb hts (by decide +kernel) hown hK.1 hP 1 rfl rfl 3 (by decide) (hts (.fieldLink RX0 22 "ChooseTree$Classes" "face" "[Z") (by decide +kernel)) (fun _ h9 => h9) rfl dX0_inRow_6 ?_
    refine lv_iload_n hx hb dX0_inRow_9 rfl (lv_at hl 1 rfl) ?_
    refine na_zald (D := D) hx hb hK.1 hP 5 2 rfl rfl (i := n1) (by omega) (by decide) dX0_inRow_10 ?_
    refine lv_if_ne (tgt := 36) hx hb dX0_inRow_11 (by decide) (fun c_2 => ?_) (fun c_2 => ?_)
    · refine lv_iconst (v := (nI 0)) hx hb dX0_inRow_36 (by decide) ?_
      exact W.zret (v := (nI 0)) hx hb hr rfl (fun t ht hW => ⟨⟨(nI 0), (), rfl, (by first | (simp [s_inRow, bI, c_1, c_2]; done) | (simp [s_inRow, bI, he, c_1, c_2]; done)), trivial⟩, hS.F ht⟩) hS.2.2 dX0_inRow_37
    · refine lv_aload_n hx hb dX0_inRow_14 rfl (lv_at hl 0 rfl) ?_
      refine va_get (D := D) (ci := 1) (v := .ref (a 5)) (C := RX0) (T := TX0) (N := 10) hx hb hts (by decide +kernel) hown hK.1 hP 1 rfl rfl 3 (by decide) (hts (.fieldLink RX0 22 "ChooseTree$Classes" "face" "[Z") (by decide +kernel)) (fun _ h9 => h9) rfl dX0_inRow_15 ?_
      refine lv_iload_n hx hb dX0_inRow_18 rfl (lv_at hl 2 rfl) ?_
      refine na_zald (D := D) hx hb hK.1 hP 5 2 rfl rfl (i := n2) (by omega) (by decide) dX0_inRow_19 ?_
      refine lv_if_ne (tgt := 36) hx hb dX0_inRow_20 (by decide) (fun c_3 => ?_) (fun c_3 => ?_)
      · refine lv_iconst (v := (nI 0)) hx hb dX0_inRow_36 (by decide) ?_
        exact W.zret (v := (nI 0)) hx hb hr rfl (fun t ht hW => ⟨⟨(nI 0), (), rfl, (by first | (simp [s_inRow, bI, c_1, c_2, c_3]; done) | (simp [s_inRow, bI, he, c_1, c_2, c_3]; done)), trivial⟩, hS.F ht⟩) hS.2.2 dX0_inRow_37
      · refine lv_aload_n hx hb dX0_inRow_23 rfl (lv_at hl 0 rfl) ?_
        refine lv_iload_n hx hb dX0_inRow_24 rfl (lv_at hl 1 rfl) ?_
        refine lv_iload_n hx hb dX0_inRow_25 rfl (lv_at hl 2 rfl) ?_
        refine va_calli (va_runV (As := [.int (nI n1), .int (nI n2)]) (rest := []) ⟨hx, hb, hml, hown, hts⟩ (c_X0_below l D a k σ n1 n2 hn1) (cwV 2 hts gX0_inRow_X0_below rfl rfl rfl (by decide +kernel) ⟨Nat.le_of_ble_eq_true rfl, Nat.le_of_ble_eq_true rfl⟩) (cP_V hK hP 1 1 rfl rfl) rfl rfl hl.1 rfl (lv_room (Nat.le_of_ble_eq_true rfl)) dX0_inRow_26 ⟨Nat.le_of_ble_eq_true rfl, Nat.le_of_ble_eq_true rfl⟩) hS (fun _ _ h => h.elim) (fun _ h => h.elim) (fun r_4 u t H1 locs ht hvm hw hB hz1 hk1 hS => ?_)
        replace hP := ro_kept hP hk1
        obtain rfl : r_4 = _ := hw
        clear hk1 hz1 hvm ht hB
        generalize H1 = H at hP hS ⊢
        refine lv_if_eq (tgt := 36) hx hb dX0_inRow_29 (by decide) (fun c_5 => ?_) (fun c_5 => ?_)
        · have he := bI_0.mp c_5
          refine lv_iconst (v := (nI 0)) hx hb dX0_inRow_36 (by decide) ?_
          exact W.zret (v := (nI 0)) hx hb hr rfl (fun t ht hW => ⟨⟨(nI 0), (), rfl, (by first | (simp [s_inRow, bI, c_1, c_2, c_3, c_5]; done) | (simp [s_inRow, bI, he, c_1, c_2, c_3, c_5]; done)), trivial⟩, hS.F ht⟩) hS.2.2 dX0_inRow_37
        · have he := bI_n0.mp c_5
          refine lv_iconst (v := (nI 1)) hx hb dX0_inRow_32 (by decide) ?_
          refine lv_goto (tgt := 37) hx hb dX0_inRow_33 (by decide) ?_
          exact W.zret (v := (nI 1)) hx hb hr rfl (fun t ht hW => ⟨⟨(nI 1), (), rfl, (by first | (simp [s_inRow, bI, c_1, c_2, c_3, c_5]; done) | (simp [s_inRow, bI, he, c_1, c_2, c_3, c_5]; done)), trivial⟩, hS.F ht⟩) hS.2.2 dX0_inRow_37
set_option maxHeartbeats 4000000 in
set_option maxRecDepth 100000 in
theorem c_X0_faceAt (l : Launch) (D : va_G) (a : Nat → Nat) (k : Nat → ClassId) (σ : CS) (n1 n2 : Nat) (hn1 : n1 < 60) (hn2 : (cs_fst σ) n1 + n2 < 1800) : Met l yX0_faceAt wsX0_faceAt (rmC 0 0) (cP D a k σ [.ref (a 1), .int (nI n1), .int (nI n2)]) (roQ (nI (s_faceAt σ n1 n2))) 0 0 (fun _ => False) := by
  refine Met.ofW (cc := cX0_faceAt) (maxL := 3) (ret := (some .int)) (by decide) rfl ?_
  intro p e s m args below meth c s₁ B hml hv
  obtain ⟨rfl, hP, hK⟩ := hv
  have hx := B.exec
  have hb := B.bytes
  have hr := B.returns
  have hts := atoms_spec (ws := wsX0_faceAt) B.pre
  have hown : s.vm.findClass RX0 = some m.cls := findClass_of_methodNamed B.named
  have hlocks := B.notSynchronized
  clear B
  have hl := lv_entry ([.ref (a 1), .int (nI n1), .int (nI n2)]) (n := 3) (Nat.le_of_ble_eq_true rfl)
  rw [lg_entry_eq]
  generalize (lg_sl ([.ref (a 1), .int (nI n1), .int (nI n2)]) ++ List.replicate (3 - (lg_sl ([.ref (a 1), .int (nI n1), .int (nI n2)])).length) Slot.unset).toArray = ls at hl ⊢
  replace hl : lv_has ls 3 [(0, .ref (a 1)), (1, .int (nI n1)), (2, .int (nI n2))] := hl
  refine gen_start (A := (fun _ => False)) (fun H locs hP hS => ?_) hP
  refine lv_aload_n hx hb dX0_faceAt_0 rfl (lv_at hl 0 rfl) ?_
  refine va_get (D := D) (ci := 1) (v := .ref (a 9)) (C := RX0) (T := TX0) (N := 10) hx hb hts (by decide +kernel) hown hK.1 hP 1 rfl rfl 7 (by decide) (hts (.fieldLink RX0 36 "ChooseTree$Classes" "faceList" "[I") (by decide +kernel)) (fun _ h9 => h9) rfl dX0_faceAt_1 ?_
  refine lv_aload_n hx hb dX0_faceAt_4 rfl (lv_at hl 0 rfl) ?_
  refine va_get (D := D) (ci := 1) (v := .ref (a 8)) (C := RX0) (T := TX0) (N := 10) hx hb hts (by decide +kernel) hown hK.1 hP 1 rfl rfl 6 (by decide) (hts (.fieldLink RX0 33 "ChooseTree$Classes" "faceStart" "[I") (by decide +kernel)) (fun _ h9 => h9) rfl dX0_faceAt_5 ?_
  refine lv_iload_n hx hb dX0_faceAt_8 rfl (lv_at hl 1 rfl) ?_
  refine na_iald (D := D) hx hb hK.1 hP 8 5 rfl rfl (i := n1) (by omega) (by decide) dX0_faceAt_9 ?_
  refine lv_iload_n hx hb dX0_faceAt_10 rfl (lv_at hl 2 rfl) ?_
  refine lv_iaddN hx hb dX0_faceAt_11 ?_
  refine na_iald (D := D) hx hb hK.1 hP 9 6 rfl rfl (i := (((cs_fst σ) n1) + n2)) (by omega) (by decide) dX0_faceAt_12 ?_
  exact W.iret (v := (nI ((cs_fls σ) (((cs_fst σ) n1) + n2)))) hx hb hr (fun t ht hW => ⟨⟨(nI ((cs_fls σ) (((cs_fst σ) n1) + n2))), (), rfl, rfl, trivial⟩, hS.F ht⟩) hS.2.2 dX0_faceAt_13
end
section
set_option maxHeartbeats 4000000 in
set_option maxRecDepth 100000 in
theorem c_X0_listFace (l : Launch) (D : va_G) (a : Nat → Nat) (k : Nat → ClassId) (σ : CS) (hinj : cInj a) (hok : bok σ) (n1 n2 : Nat) (hn1 : n1 < 60) : Met l yX0_listFace wsX0_listFace (rmC 1 22) (cP D a k σ [.ref (a 1), .int (nI n1), .int (nI n2)]) (wrV D a k (s_listFace σ n1 n2)) 0 0 (ca a) := by
  refine Met.ofW (cc := cX0_listFace) (maxL := 4) (ret := none) (by decide) rfl ?_
  intro p e s m args below meth c s₁ B hml hv
  obtain ⟨rfl, hP, hK⟩ := hv
  have hx := B.exec
  have hb := B.bytes
  have hr := B.returns
  have hts := atoms_spec (ws := wsX0_listFace) B.pre
  have hown : s.vm.findClass RX0 = some m.cls := findClass_of_methodNamed B.named
  have hlocks := B.notSynchronized
  clear B
  have hl := lv_entry ([.ref (a 1), .int (nI n1), .int (nI n2)]) (n := 4) (Nat.le_of_ble_eq_true rfl)
  rw [lg_entry_eq]
  generalize (lg_sl ([.ref (a 1), .int (nI n1), .int (nI n2)]) ++ List.replicate (4 - (lg_sl ([.ref (a 1), .int (nI n1), .int (nI n2)])).length) Slot.unset).toArray = ls at hl ⊢
  replace hl : lv_has ls 4 [(0, .ref (a 1)), (1, .int (nI n1)), (2, .int (nI n2))] := hl
  refine gen_start (A := (ca a)) (fun H locs hP hS => ?_) hP
  have hD : va_D (ca a) (cw a k σ) := cw_D hinj
  obtain ⟨hb1, hb2, hb3, hb4, hb5, hb6⟩ := id hok
  have hq1 := hb4 n1 hn1
  refine lv_iconst (v := (nI 0)) hx hb dX0_listFace_0 (by decide) ?_
  refine lv_istore_n (lv' := [(3, .int (nI 0)), (0, .ref (a 1)), (1, .int (nI n1)), (2, .int (nI n2))]) hx hb dX0_listFace_1 rfl hl (by decide) rfl (fun ls hl => ?_)
  obtain ⟨n, hn⟩ : ∃ n, n = cs_fam σ n1 := ⟨_, rfl⟩
  obtain ⟨i, hi⟩ : ∃ i : Nat, i = 0 := ⟨_, rfl⟩
  have hE : i + n = cs_fam σ n1 := by omega
  have hres : l_has (s_faceAt σ n1) n2 n i = l_has (s_faceAt σ n1) n2 (cs_fam σ n1) 0 := by rw [hn, hi]
  replace hl : lv_has ls 4 [(3, .int (nI i)), (0, .ref (a 1)), (1, .int (nI n1)), (2, .int (nI n2))] := by rw [hi]; exact hl
  clear hn hi hD
  revert hl
  revert hres
  revert hE
  revert hS
  revert hP
  revert ls
  revert locs
  revert H
  revert i
  induction n with
  | zero =>
    intro i H locs ls hP hS hE hres hl
    have hD : va_D (ca a) (cw a k σ) := cw_D hinj
    refine lv_iload_n hx hb dX0_listFace_2 rfl (lv_at hl 0 rfl) ?_
    refine lv_aload_n hx hb dX0_listFace_3 rfl (lv_at hl 1 rfl) ?_
    refine va_get (D := D) (ci := 1) (v := .ref (a 7)) (C := RX0) (T := TX0) (N := 10) hx hb hts (by decide +kernel) hown hK.1 hP 1 rfl rfl 5 (by decide) (hts (.fieldLink RX0 30 "ChooseTree$Classes" "faceAmount" "[I") (by decide +kernel)) (fun _ h9 => h9) rfl dX0_listFace_4 ?_
    refine lv_iload_n hx hb dX0_listFace_7 rfl (lv_at hl 2 rfl) ?_
    refine na_iald (D := D) hx hb hK.1 hP 7 4 rfl rfl (i := n1) (by omega) (by decide) dX0_listFace_8 ?_
    refine lv_icmp_ge (tgt := 29) hx hb dX0_listFace_9 (by decide) (fun c_1 => ?_) (fun c_1 => ?_)
    · refine lv_aload_n hx hb dX0_listFace_29 rfl (lv_at hl 1 rfl) ?_
      refine va_get (D := D) (ci := 1) (v := .ref (a 8)) (C := RX0) (T := TX0) (N := 10) hx hb hts (by decide +kernel) hown hK.1 hP 1 rfl rfl 6 (by decide) (hts (.fieldLink RX0 33 "ChooseTree$Classes" "faceStart" "[I") (by decide +kernel)) (fun _ h9 => h9) rfl dX0_listFace_30 ?_
      refine lv_iload_n hx hb dX0_listFace_33 rfl (lv_at hl 2 rfl) ?_
      refine na_iald (D := D) hx hb hK.1 hP 8 5 rfl rfl (i := n1) (by omega) (by decide) dX0_listFace_34 ?_
      refine lv_aload_n hx hb dX0_listFace_35 rfl (lv_at hl 1 rfl) ?_
      refine va_get (D := D) (ci := 1) (v := .ref (a 7)) (C := RX0) (T := TX0) (N := 10) hx hb hts (by decide +kernel) hown hK.1 hP 1 rfl rfl 5 (by decide) (hts (.fieldLink RX0 30 "ChooseTree$Classes" "faceAmount" "[I") (by decide +kernel)) (fun _ h9 => h9) rfl dX0_listFace_36 ?_
      refine lv_iload_n hx hb dX0_listFace_39 rfl (lv_at hl 2 rfl) ?_
      refine na_iald (D := D) hx hb hK.1 hP 7 4 rfl rfl (i := n1) (by omega) (by decide) dX0_listFace_40 ?_
      refine lv_iaddN hx hb dX0_listFace_41 ?_
      refine lv_istore_n (lv' := [(3, .int (nI (((cs_fst σ) n1) + ((cs_fam σ) n1)))), (0, .ref (a 1)), (1, .int (nI n1)), (2, .int (nI n2))]) hx hb dX0_listFace_42 rfl hl (by decide) rfl (fun ls hl => ?_)
      refine lv_iload_n hx hb dX0_listFace_43 rfl (lv_at hl 0 rfl) ?_
      refine lv_aload_n hx hb dX0_listFace_44 rfl (lv_at hl 1 rfl) ?_
      refine va_get (D := D) (ci := 1) (v := .ref (a 9)) (C := RX0) (T := TX0) (N := 10) hx hb hts (by decide +kernel) hown hK.1 hP 1 rfl rfl 7 (by decide) (hts (.fieldLink RX0 36 "ChooseTree$Classes" "faceList" "[I") (by decide +kernel)) (fun _ h9 => h9) rfl dX0_listFace_45 ?_
      refine va_alen (D := D) (v := nI 1800) hx hb hK.1 hP 9 6 rfl rfl rfl dX0_listFace_48 ?_
      refine lv_icmp_ge (tgt := 69) hx hb dX0_listFace_49 (by decide) (fun c_2 => ?_) (fun c_2 => ?_)
      · have hpl := nle (by omega) (by omega) c_2
        have e : s_listFace σ n1 n2 = σ := by rw [s_listFace, if_neg (by rw [← hres]; simp [l_has]), if_neg (by omega)]
        exact W.vret hx hb hr (fun t ht hW => ⟨⟨(), rfl, trivial, show va_P D vwCl (cw a k (s_listFace σ n1 n2)) t.heap from (by rw [ht]; exact (by rw [e]; exact hP))⟩, hS.F ht⟩) hS.2.2 dX0_listFace_69
      · have hpl := nlt (by omega) (by omega) c_2
        have e := show s_listFace σ n1 n2 = _ from (by rw [s_listFace, if_neg (by rw [← hres]; simp [l_has]), if_pos hpl])
        refine lv_aload_n hx hb dX0_listFace_52 rfl (lv_at hl 1 rfl) ?_
        refine va_get (D := D) (ci := 1) (v := .ref (a 9)) (C := RX0) (T := TX0) (N := 10) hx hb hts (by decide +kernel) hown hK.1 hP 1 rfl rfl 7 (by decide) (hts (.fieldLink RX0 36 "ChooseTree$Classes" "faceList" "[I") (by decide +kernel)) (fun _ h9 => h9) rfl dX0_listFace_53 ?_
        refine lv_iload_n hx hb dX0_listFace_56 rfl (lv_at hl 0 rfl) ?_
        refine lv_iload_n hx hb dX0_listFace_57 rfl (lv_at hl 3 rfl) ?_
        refine na_iastN (D := D) hx hb hK.1 hP hD hS 9 6 rfl rfl (i := (((cs_fst σ) n1) + ((cs_fam σ) n1))) (v := n2) hpl (by decide) dX0_listFace_58 (fun H locs hP hD hS => ?_)
        replace hP : va_P D vwCl (cw a k (cs_mk (cs_n σ) (cs_par σ) (cs_pack σ) (cs_face σ) (cs_abv σ) (cs_fam σ) (cs_fst σ) (va_up (cs_fls σ) (((cs_fst σ) n1) + ((cs_fam σ) n1)) n2) (cs_own σ) (cs_opt σ) (cs_m σ) (cs_ow σ) (cs_nm σ) (cs_fi σ) (cs_am σ) (cs_si σ) (cs_ki σ))) H := hP
        replace hD : va_D (ca a) (cw a k (cs_mk (cs_n σ) (cs_par σ) (cs_pack σ) (cs_face σ) (cs_abv σ) (cs_fam σ) (cs_fst σ) (va_up (cs_fls σ) (((cs_fst σ) n1) + ((cs_fam σ) n1)) n2) (cs_own σ) (cs_opt σ) (cs_m σ) (cs_ow σ) (cs_nm σ) (cs_fi σ) (cs_am σ) (cs_si σ) (cs_ki σ))) := cw_D hinj
        refine lv_aload_n hx hb dX0_listFace_59 rfl (lv_at hl 1 rfl) ?_
        refine va_get (D := D) (ci := 1) (v := .ref (a 7)) (C := RX0) (T := TX0) (N := 10) hx hb hts (by decide +kernel) hown hK.1 hP 1 rfl rfl 5 (by decide) (hts (.fieldLink RX0 30 "ChooseTree$Classes" "faceAmount" "[I") (by decide +kernel)) (fun _ h9 => h9) rfl dX0_listFace_60 ?_
        refine lv_iload_n hx hb dX0_listFace_63 rfl (lv_at hl 2 rfl) ?_
        refine lv_dup2_11 hx hb dX0_listFace_64 rfl rfl ?_
        refine na_iald (D := D) hx hb hK.1 hP 7 4 rfl rfl (i := n1) (by omega) (by decide) dX0_listFace_65 ?_
        refine lv_iconst (v := (nI 1)) hx hb dX0_listFace_66 (by decide) ?_
        refine lv_iaddN hx hb dX0_listFace_67 ?_
        refine na_iastN (D := D) hx hb hK.1 hP hD hS 7 4 rfl rfl (i := n1) (v := (((cs_fam σ) n1) + 1)) (by omega) (by decide) dX0_listFace_68 (fun H locs hP hD hS => ?_)
        replace hP : va_P D vwCl (cw a k (cs_mk (cs_n σ) (cs_par σ) (cs_pack σ) (cs_face σ) (cs_abv σ) (va_up (cs_fam σ) n1 (((cs_fam σ) n1) + 1)) (cs_fst σ) (va_up (cs_fls σ) (((cs_fst σ) n1) + ((cs_fam σ) n1)) n2) (cs_own σ) (cs_opt σ) (cs_m σ) (cs_ow σ) (cs_nm σ) (cs_fi σ) (cs_am σ) (cs_si σ) (cs_ki σ))) H := hP
        replace hD : va_D (ca a) (cw a k (cs_mk (cs_n σ) (cs_par σ) (cs_pack σ) (cs_face σ) (cs_abv σ) (va_up (cs_fam σ) n1 (((cs_fam σ) n1) + 1)) (cs_fst σ) (va_up (cs_fls σ) (((cs_fst σ) n1) + ((cs_fam σ) n1)) n2) (cs_own σ) (cs_opt σ) (cs_m σ) (cs_ow σ) (cs_nm σ) (cs_fi σ) (cs_am σ) (cs_si σ) (cs_ki σ))) := cw_D hinj
        exact W.vret hx hb hr (fun t ht hW => ⟨⟨(), rfl, trivial, show va_P D vwCl (cw a k (s_listFace σ n1 n2)) t.heap from (by rw [ht]; exact (by rw [e]; exact hP))⟩, hS.F ht⟩) hS.2.2 dX0_listFace_69
    · exact absurd (nI_le (by omega) (by omega)) c_1
  | succ n ih =>
    intro i H locs ls hP hS hE hres hl
    have hD : va_D (ca a) (cw a k σ) := cw_D hinj
    refine lv_iload_n hx hb dX0_listFace_2 rfl (lv_at hl 0 rfl) ?_
    refine lv_aload_n hx hb dX0_listFace_3 rfl (lv_at hl 1 rfl) ?_
    refine va_get (D := D) (ci := 1) (v := .ref (a 7)) (C := RX0) (T := TX0) (N := 10) hx hb hts (by decide +kernel) hown hK.1 hP 1 rfl rfl 5 (by decide) (hts (.fieldLink RX0 30 "ChooseTree$Classes" "faceAmount" "[I") (by decide +kernel)) (fun _ h9 => h9) rfl dX0_listFace_4 ?_
    refine lv_iload_n hx hb dX0_listFace_7 rfl (lv_at hl 2 rfl) ?_
    refine na_iald (D := D) hx hb hK.1 hP 7 4 rfl rfl (i := n1) (by omega) (by decide) dX0_listFace_8 ?_
    refine lv_icmp_ge (tgt := 29) hx hb dX0_listFace_9 (by decide) (fun c_3 => ?_) (fun c_3 => ?_)
    · exact absurd c_3 (nI_ge (by omega) (by omega))
    · refine lv_aload_n hx hb dX0_listFace_12 rfl (lv_at hl 1 rfl) ?_
      refine lv_iload_n hx hb dX0_listFace_13 rfl (lv_at hl 2 rfl) ?_
      refine lv_iload_n hx hb dX0_listFace_14 rfl (lv_at hl 0 rfl) ?_
      refine va_calli (va_runV (As := [.int (nI n1), .int (nI i)]) (rest := []) ⟨hx, hb, hml, hown, hts⟩ (c_X0_faceAt l D a k σ n1 i hn1 (by omega)) (cwV 2 hts gX0_listFace_X0_faceAt rfl rfl rfl (by decide +kernel) ⟨Nat.le_of_ble_eq_true rfl, Nat.le_of_ble_eq_true rfl⟩) (cP_V hK hP 1 1 rfl rfl) rfl rfl hl.1 rfl (lv_room (Nat.le_of_ble_eq_true rfl)) dX0_listFace_15 ⟨Nat.le_of_ble_eq_true rfl, Nat.le_of_ble_eq_true rfl⟩) hS (fun _ _ h => h.elim) (fun _ h => h.elim) (fun r_4 u t H1 locs ht hvm hw hB hz1 hk1 hS => ?_)
      replace hP := ro_kept hP hk1
      obtain rfl : r_4 = _ := hw
      clear hk1 hz1 hvm ht hB
      generalize H1 = H at hP hS ⊢
      refine lv_iload_n hx hb dX0_listFace_18 rfl (lv_at hl 3 rfl) ?_
      refine lv_icmp_ne (tgt := 23) hx hb dX0_listFace_19 (by decide) (fun c_5 => ?_) (fun c_5 => ?_)
      · refine lv_iinc (v := (nI (i + 1))) (lv' := [(3, .int (nI (i + 1))), (0, .ref (a 1)), (1, .int (nI n1)), (2, .int (nI n2))]) hx hb dX0_listFace_23 hl (k := 0) rfl (nI_1 _) (by decide) rfl (fun ls hl => ?_)
        refine lv_goto (tgt := 2) hx hb dX0_listFace_26 (by decide) ?_
        exact ih (i + 1) H locs ls hP hS (by omega) (by rw [← hres, l_has, if_neg c_5]) (lv_sub hl [0, 1, 2, 3] rfl)
      · have e : s_listFace σ n1 n2 = σ := by rw [s_listFace, if_pos (by rw [← hres, l_has, if_pos c_5])]
        exact W.vret hx hb hr (fun t ht hW => ⟨⟨(), rfl, trivial, show va_P D vwCl (cw a k (s_listFace σ n1 n2)) t.heap from (by rw [ht]; exact (by rw [e]; exact hP))⟩, hS.F ht⟩) hS.2.2 dX0_listFace_22
set_option maxHeartbeats 4000000 in
set_option maxRecDepth 100000 in
theorem c_X0_listFacesOf (l : Launch) (D : va_G) (a : Nat → Nat) (k : Nat → ClassId) (σ : CS) (hinj : cInj a) (hok : bok σ) (n1 n2 : Nat) (hn1 : n1 < 60) (hn2 : n2 < 60) : Met l yX0_listFacesOf wsX0_listFacesOf (rmC 2 45) (cP D a k σ [.ref (a 1), .int (nI n1), .int (nI n2)]) (wrV D a k (s_listFacesOf σ n1 n2)) 0 0 (ca a) := by
  refine Met.ofW (cc := cX0_listFacesOf) (maxL := 5) (ret := none) (by decide) rfl ?_
  intro p e s m args below meth c s₁ B hml hv
  obtain ⟨rfl, hP, hK⟩ := hv
  have hx := B.exec
  have hb := B.bytes
  have hr := B.returns
  have hts := atoms_spec (ws := wsX0_listFacesOf) B.pre
  have hown : s.vm.findClass RX0 = some m.cls := findClass_of_methodNamed B.named
  have hlocks := B.notSynchronized
  clear B
  have hl := lv_entry ([.ref (a 1), .int (nI n1), .int (nI n2)]) (n := 5) (Nat.le_of_ble_eq_true rfl)
  rw [lg_entry_eq]
  generalize (lg_sl ([.ref (a 1), .int (nI n1), .int (nI n2)]) ++ List.replicate (5 - (lg_sl ([.ref (a 1), .int (nI n1), .int (nI n2)])).length) Slot.unset).toArray = ls at hl ⊢
  replace hl : lv_has ls 5 [(0, .ref (a 1)), (1, .int (nI n1)), (2, .int (nI n2))] := hl
  refine gen_start (A := (ca a)) (fun H locs hP hS => ?_) hP
  have hD : va_D (ca a) (cw a k σ) := cw_D hinj
  obtain ⟨hb1, hb2, hb3, hb4, hb5, hb6⟩ := id hok
  have hq1 := hb4 n2 hn2
  refine lv_aload_n hx hb dX0_listFacesOf_0 rfl (lv_at hl 0 rfl) ?_
  refine va_get (D := D) (ci := 1) (v := .ref (a 7)) (C := RX0) (T := TX0) (N := 10) hx hb hts (by decide +kernel) hown hK.1 hP 1 rfl rfl 5 (by decide) (hts (.fieldLink RX0 30 "ChooseTree$Classes" "faceAmount" "[I") (by decide +kernel)) (fun _ h9 => h9) rfl dX0_listFacesOf_1 ?_
  refine lv_iload_n hx hb dX0_listFacesOf_4 rfl (lv_at hl 2 rfl) ?_
  refine na_iald (D := D) hx hb hK.1 hP 7 4 rfl rfl (i := n2) (by omega) (by decide) dX0_listFacesOf_5 ?_
  refine lv_istore_n (lv' := [(3, .int (nI ((cs_fam σ) n2))), (0, .ref (a 1)), (1, .int (nI n1)), (2, .int (nI n2))]) hx hb dX0_listFacesOf_6 rfl hl (by decide) rfl (fun ls hl => ?_)
  refine lv_iconst (v := (nI 0)) hx hb dX0_listFacesOf_7 (by decide) ?_
  refine lv_istore (lv' := [(4, .int (nI 0)), (3, .int (nI ((cs_fam σ) n2))), (0, .ref (a 1)), (1, .int (nI n1)), (2, .int (nI n2))]) hx hb dX0_listFacesOf_8 hl (by decide) rfl (fun ls hl => ?_)
  obtain ⟨n, hn⟩ : ∃ n, n = cs_fam σ n2 := ⟨_, rfl⟩
  obtain ⟨i, hi⟩ : ∃ i : Nat, i = 0 := ⟨_, rfl⟩
  obtain ⟨τ, hτ⟩ : ∃ τ : CS, τ = σ := ⟨_, rfl⟩
  have hE : i + n = cs_fam σ n2 ∧ cs_fst τ n2 + i + n ≤ 1800 ∧ bok τ := ⟨by omega, by rw [hτ]; omega, by rw [hτ]; exact hok⟩
  have hres : s_listAll n1 n2 n i τ = s_listFacesOf σ n1 n2 := by rw [hn, hi, hτ]; rfl
  replace hl : lv_has ls 5 [(4, .int (nI i)), (3, .int (nI ((cs_fam σ) n2))), (0, .ref (a 1)), (1, .int (nI n1)), (2, .int (nI n2))] := by rw [hi]; exact hl
  rw [← hτ] at hP
  clear hn hi hD hτ
  revert hl
  revert hres
  revert hE
  revert hS
  revert hP
  revert ls
  revert locs
  revert H
  revert i
  revert τ
  induction n with
  | zero =>
    intro τ i H locs ls hP hS hE hres hl
    obtain ⟨hE, hB, hokt⟩ := hE
    refine lv_iload hx hb dX0_listFacesOf_10 (lv_at hl 0 rfl) ?_
    refine lv_iload_n hx hb dX0_listFacesOf_12 rfl (lv_at hl 1 rfl) ?_
    refine lv_icmp_ge (tgt := 34) hx hb dX0_listFacesOf_13 (by decide) (fun c_1 => ?_) (fun c_1 => ?_)
    · exact W.vret hx hb hr (fun t ht hW => ⟨⟨(), rfl, trivial, show va_P D vwCl (cw a k (s_listFacesOf σ n1 n2)) t.heap from (by rw [ht]; exact (by rw [← hres]; exact hP))⟩, hS.F ht⟩) hS.2.2 dX0_listFacesOf_34
    · exact absurd (nI_le (by omega) (by omega)) c_1
  | succ n ih =>
    intro τ i H locs ls hP hS hE hres hl
    obtain ⟨hE, hB, hokt⟩ := hE
    have hD : va_D (ca a) (cw a k τ) := cw_D hinj
    have hf6 : s_faceAt τ n2 i < 60 := hokt.2.2.2.2.1 _ (by omega)
    have hkp := (s_listFace_keep τ n1 (s_faceAt τ n2 i)).1.2.2.2.2.2.1
    refine lv_iload hx hb dX0_listFacesOf_10 (lv_at hl 0 rfl) ?_
    refine lv_iload_n hx hb dX0_listFacesOf_12 rfl (lv_at hl 1 rfl) ?_
    refine lv_icmp_ge (tgt := 34) hx hb dX0_listFacesOf_13 (by decide) (fun c_2 => ?_) (fun c_2 => ?_)
    · exact absurd c_2 (nI_ge (by omega) (by omega))
    · refine lv_aload_n hx hb dX0_listFacesOf_16 rfl (lv_at hl 2 rfl) ?_
      refine lv_iload_n hx hb dX0_listFacesOf_17 rfl (lv_at hl 3 rfl) ?_
      refine lv_aload_n hx hb dX0_listFacesOf_18 rfl (lv_at hl 2 rfl) ?_
      refine lv_iload_n hx hb dX0_listFacesOf_19 rfl (lv_at hl 4 rfl) ?_
      refine lv_iload hx hb dX0_listFacesOf_20 (lv_at hl 0 rfl) ?_
      refine va_calli (va_runV (As := [.int (nI n2), .int (nI i)]) (rest := [.int (nI n1), .ref (a 1)]) ⟨hx, hb, hml, hown, hts⟩ (c_X0_faceAt l D a k τ n2 i hn2 (by omega)) (cwV 2 hts gX0_listFacesOf_X0_faceAt rfl rfl rfl (by decide +kernel) ⟨Nat.le_of_ble_eq_true rfl, Nat.le_of_ble_eq_true rfl⟩) (cP_V hK hP 1 1 rfl rfl) rfl rfl hl.1 rfl (lv_room (Nat.le_of_ble_eq_true rfl)) dX0_listFacesOf_22 ⟨Nat.le_of_ble_eq_true rfl, Nat.le_of_ble_eq_true rfl⟩) hS (fun _ _ h => h.elim) (fun _ h => h.elim) (fun r_3 u t H1 locs ht hvm hw hB hz1 hk1 hS => ?_)
      replace hP := ro_kept hP hk1
      obtain rfl : r_3 = _ := hw
      clear hk1 hz1 hvm ht hB
      generalize H1 = H at hP hS ⊢
      refine va_callv (va_runV (As := [.int (nI n1), .int (nI (s_faceAt τ n2 i))]) (rest := []) ⟨hx, hb, hml, hown, hts⟩ (c_X0_listFace l D a k τ hinj hokt n1 (s_faceAt τ n2 i) hn1) (cwV 2 hts gX0_listFacesOf_X0_listFace rfl rfl rfl (by decide +kernel) ⟨Nat.le_of_ble_eq_true rfl, Nat.le_of_ble_eq_true rfl⟩) (cP_V hK hP 1 1 rfl rfl) rfl rfl hl.1 rfl (lv_room (Nat.le_of_ble_eq_true rfl)) dX0_listFacesOf_25 ⟨Nat.le_of_ble_eq_true rfl, Nat.le_of_ble_eq_true rfl⟩) hS (fun _ _ h => h) (fun _ h => h) (fun u t H1 locs ht hvm hw hB hz1 hk1 hS => ?_)
      replace hB : va_P D vwCl (cw a k (s_listFace τ n1 (s_faceAt τ n2 i))) t.heap := hB
      rw [ht] at hB
      clear hk1 hz1 hvm ht hP hD hw
      have hP := hB
      clear hB
      have hP : va_P D vwCl (cw a k (s_listFace τ n1 (s_faceAt τ n2 i))) H1 := hP
      have hD : va_D (ca a) (cw a k (s_listFace τ n1 (s_faceAt τ n2 i))) := cw_D hinj
      generalize H1 = H at hP hS ⊢
      refine lv_iinc (v := (nI (i + 1))) (lv' := [(4, .int (nI (i + 1))), (3, .int (nI ((cs_fam σ) n2))), (0, .ref (a 1)), (1, .int (nI n1)), (2, .int (nI n2))]) hx hb dX0_listFacesOf_28 hl (k := 0) rfl (nI_1 _) (by decide) rfl (fun ls hl => ?_)
      refine lv_goto (tgt := 10) hx hb dX0_listFacesOf_31 (by decide) ?_
      exact ih _ (i + 1) H locs ls hP hS ⟨by omega, by rw [hkp]; omega, s_listFace_bok hokt hn1 hf6⟩ hres (lv_sub hl [0, 1, 2, 3, 4] rfl)
set_option maxHeartbeats 4000000 in
set_option maxRecDepth 100000 in
theorem c_X1_append (l : Launch) (D : va_G) (a : Nat → Nat) (k : Nat → ClassId) (σ : CS) (hinj : cInj a) (n1 : Nat) (hn1 : n1 < 60) (hm4 : cs_m σ < 400) (x2 x3 x4 : Int32) : Met l yX1_append wsX1_append (rmC 0 0) (cP D a k σ [.ref (a 2), .int (nI n1), .int x2, .int x3, .int x4]) (wrI D a k (nI (cs_m σ)) (m_append σ n1 x2 x3 x4)) 0 0 (ca a) := by
  refine Met.ofW (cc := cX1_append) (maxL := 6) (ret := (some .int)) (by decide) rfl ?_
  intro p e s m args below meth c s₁ B hml hv
  obtain ⟨rfl, hP, hK⟩ := hv
  have hx := B.exec
  have hb := B.bytes
  have hr := B.returns
  have hts := atoms_spec (ws := wsX1_append) B.pre
  have hown : s.vm.findClass RX1 = some m.cls := findClass_of_methodNamed B.named
  have hlocks := B.notSynchronized
  clear B
  have hl := lv_entry ([.ref (a 2), .int (nI n1), .int x2, .int x3, .int x4]) (n := 6) (Nat.le_of_ble_eq_true rfl)
  rw [lg_entry_eq]
  generalize (lg_sl ([.ref (a 2), .int (nI n1), .int x2, .int x3, .int x4]) ++ List.replicate (6 - (lg_sl ([.ref (a 2), .int (nI n1), .int x2, .int x3, .int x4])).length) Slot.unset).toArray = ls at hl ⊢
  replace hl : lv_has ls 6 [(0, .ref (a 2)), (1, .int (nI n1)), (2, .int x2), (3, .int x3), (4, .int x4)] := hl
  refine gen_start (A := (ca a)) (fun H locs hP hS => ?_) hP
  have hD : va_D (ca a) (cw a k σ) := cw_D hinj
  refine lv_aload_n hx hb dX1_append_0 rfl (lv_at hl 0 rfl) ?_
  refine va_get (D := D) (ci := 2) (v := .int (nI (cs_m σ))) (C := RX1) (T := TX1) (N := 7) hx hb hts (by decide +kernel) hown hK.1 hP 2 rfl rfl 0 (by decide) (hts (.fieldLink RX1 9 "ChooseTree$Methods" "count" "I") (by decide +kernel)) (fun _ h9 => h9) rfl dX1_append_1 ?_
  refine lv_istore (lv' := [(5, .int (nI (cs_m σ))), (0, .ref (a 2)), (1, .int (nI n1)), (2, .int x2), (3, .int x3), (4, .int x4)]) hx hb dX1_append_4 hl (by decide) rfl (fun ls hl => ?_)
  refine lv_aload_n hx hb dX1_append_6 rfl (lv_at hl 1 rfl) ?_
  refine va_get (D := D) (ci := 2) (v := .ref (a 13)) (C := RX1) (T := TX1) (N := 7) hx hb hts (by decide +kernel) hown hK.1 hP 2 rfl rfl 4 (by decide) (hts (.fieldLink RX1 25 "ChooseTree$Methods" "amount" "[I") (by decide +kernel)) (fun _ h9 => h9) rfl dX1_append_7 ?_
  refine lv_iload_n hx hb dX1_append_10 rfl (lv_at hl 2 rfl) ?_
  refine na_iald (D := D) hx hb hK.1 hP 13 10 rfl rfl (i := n1) (by omega) (by decide) dX1_append_11 ?_
  refine lv_if_ne (tgt := 23) hx hb dX1_append_12 (by decide) (fun c_1 => ?_) (fun c_1 => ?_)
  · have e := show m_append σ n1 x2 x3 x4 = _ from (by unfold m_append; rw [if_neg c_1])
    refine lv_aload_n hx hb dX1_append_23 rfl (lv_at hl 1 rfl) ?_
    refine va_get (D := D) (ci := 2) (v := .ref (a 13)) (C := RX1) (T := TX1) (N := 7) hx hb hts (by decide +kernel) hown hK.1 hP 2 rfl rfl 4 (by decide) (hts (.fieldLink RX1 25 "ChooseTree$Methods" "amount" "[I") (by decide +kernel)) (fun _ h9 => h9) rfl dX1_append_24 ?_
    refine lv_iload_n hx hb dX1_append_27 rfl (lv_at hl 2 rfl) ?_
    refine lv_dup2_11 hx hb dX1_append_28 rfl rfl ?_
    refine na_iald (D := D) hx hb hK.1 hP 13 10 rfl rfl (i := n1) (by omega) (by decide) dX1_append_29 ?_
    refine lv_iconst (v := (nI 1)) hx hb dX1_append_30 (by decide) ?_
    refine lv_iaddN hx hb dX1_append_31 ?_
    refine na_iastN (D := D) hx hb hK.1 hP hD hS 13 10 rfl rfl (i := n1) (v := (((cs_am σ) n1) + 1)) (by omega) (by decide) dX1_append_32 (fun H locs hP hD hS => ?_)
    replace hP : va_P D vwCl (cw a k (cs_mk (cs_n σ) (cs_par σ) (cs_pack σ) (cs_face σ) (cs_abv σ) (cs_fam σ) (cs_fst σ) (cs_fls σ) (cs_own σ) (cs_opt σ) (cs_m σ) (cs_ow σ) (cs_nm σ) (cs_fi σ) (va_up (cs_am σ) n1 (((cs_am σ) n1) + 1)) (cs_si σ) (cs_ki σ))) H := hP
    replace hD : va_D (ca a) (cw a k (cs_mk (cs_n σ) (cs_par σ) (cs_pack σ) (cs_face σ) (cs_abv σ) (cs_fam σ) (cs_fst σ) (cs_fls σ) (cs_own σ) (cs_opt σ) (cs_m σ) (cs_ow σ) (cs_nm σ) (cs_fi σ) (va_up (cs_am σ) n1 (((cs_am σ) n1) + 1)) (cs_si σ) (cs_ki σ))) := cw_D hinj
    refine lv_aload_n hx hb dX1_append_33 rfl (lv_at hl 1 rfl) ?_
    refine va_get (D := D) (ci := 2) (v := .ref (a 10)) (C := RX1) (T := TX1) (N := 7) hx hb hts (by decide +kernel) hown hK.1 hP 2 rfl rfl 1 (by decide) (hts (.fieldLink RX1 15 "ChooseTree$Methods" "owner" "[I") (by decide +kernel)) (fun _ h9 => h9) rfl dX1_append_34 ?_
    refine lv_iload hx hb dX1_append_37 (lv_at hl 0 rfl) ?_
    refine lv_iload_n hx hb dX1_append_39 rfl (lv_at hl 2 rfl) ?_
    refine na_iastN (D := D) hx hb hK.1 hP hD hS 10 7 rfl rfl (i := (cs_m σ)) (v := n1) (by omega) (by decide) dX1_append_40 (fun H locs hP hD hS => ?_)
    replace hP : va_P D vwCl (cw a k (cs_mk (cs_n σ) (cs_par σ) (cs_pack σ) (cs_face σ) (cs_abv σ) (cs_fam σ) (cs_fst σ) (cs_fls σ) (cs_own σ) (cs_opt σ) (cs_m σ) (va_up (cs_ow σ) (cs_m σ) n1) (cs_nm σ) (cs_fi σ) (va_up (cs_am σ) n1 (((cs_am σ) n1) + 1)) (cs_si σ) (cs_ki σ))) H := hP
    replace hD : va_D (ca a) (cw a k (cs_mk (cs_n σ) (cs_par σ) (cs_pack σ) (cs_face σ) (cs_abv σ) (cs_fam σ) (cs_fst σ) (cs_fls σ) (cs_own σ) (cs_opt σ) (cs_m σ) (va_up (cs_ow σ) (cs_m σ) n1) (cs_nm σ) (cs_fi σ) (va_up (cs_am σ) n1 (((cs_am σ) n1) + 1)) (cs_si σ) (cs_ki σ))) := cw_D hinj
    refine lv_aload_n hx hb dX1_append_41 rfl (lv_at hl 1 rfl) ?_
    refine va_get (D := D) (ci := 2) (v := .ref (a 11)) (C := RX1) (T := TX1) (N := 7) hx hb hts (by decide +kernel) hown hK.1 hP 2 rfl rfl 2 (by decide) (hts (.fieldLink RX1 19 "ChooseTree$Methods" "name" "[I") (by decide +kernel)) (fun _ h9 => h9) rfl dX1_append_42 ?_
    refine lv_iload hx hb dX1_append_45 (lv_at hl 0 rfl) ?_
    refine lv_iload_n hx hb dX1_append_47 rfl (lv_at hl 3 rfl) ?_
    refine na_iast (D := D) hx hb hK.1 hP hD hS 11 8 rfl rfl (i := (cs_m σ)) (x := x2) (by omega) (by decide) dX1_append_48 (fun H locs hP hD hS => ?_)
    replace hP : va_P D vwCl (cw a k (cs_mk (cs_n σ) (cs_par σ) (cs_pack σ) (cs_face σ) (cs_abv σ) (cs_fam σ) (cs_fst σ) (cs_fls σ) (cs_own σ) (cs_opt σ) (cs_m σ) (va_up (cs_ow σ) (cs_m σ) n1) (upd (cs_nm σ) (cs_m σ) x2) (cs_fi σ) (va_up (cs_am σ) n1 (((cs_am σ) n1) + 1)) (cs_si σ) (cs_ki σ))) H := hP
    replace hD : va_D (ca a) (cw a k (cs_mk (cs_n σ) (cs_par σ) (cs_pack σ) (cs_face σ) (cs_abv σ) (cs_fam σ) (cs_fst σ) (cs_fls σ) (cs_own σ) (cs_opt σ) (cs_m σ) (va_up (cs_ow σ) (cs_m σ) n1) (upd (cs_nm σ) (cs_m σ) x2) (cs_fi σ) (va_up (cs_am σ) n1 (((cs_am σ) n1) + 1)) (cs_si σ) (cs_ki σ))) := cw_D hinj
    refine lv_aload_n hx hb dX1_append_49 rfl (lv_at hl 1 rfl) ?_
    refine va_get (D := D) (ci := 2) (v := .ref (a 14)) (C := RX1) (T := TX1) (N := 7) hx hb hts (by decide +kernel) hown hK.1 hP 2 rfl rfl 5 (by decide) (hts (.fieldLink RX1 28 "ChooseTree$Methods" "sight" "[I") (by decide +kernel)) (fun _ h9 => h9) rfl dX1_append_50 ?_
    refine lv_iload hx hb dX1_append_53 (lv_at hl 0 rfl) ?_
    refine lv_iload_n hx hb dX1_append_55 rfl (lv_at hl 4 rfl) ?_
    refine na_iast (D := D) hx hb hK.1 hP hD hS 14 11 rfl rfl (i := (cs_m σ)) (x := x3) (by omega) (by decide) dX1_append_56 (fun H locs hP hD hS => ?_)
    replace hP : va_P D vwCl (cw a k (cs_mk (cs_n σ) (cs_par σ) (cs_pack σ) (cs_face σ) (cs_abv σ) (cs_fam σ) (cs_fst σ) (cs_fls σ) (cs_own σ) (cs_opt σ) (cs_m σ) (va_up (cs_ow σ) (cs_m σ) n1) (upd (cs_nm σ) (cs_m σ) x2) (cs_fi σ) (va_up (cs_am σ) n1 (((cs_am σ) n1) + 1)) (upd (cs_si σ) (cs_m σ) x3) (cs_ki σ))) H := hP
    replace hD : va_D (ca a) (cw a k (cs_mk (cs_n σ) (cs_par σ) (cs_pack σ) (cs_face σ) (cs_abv σ) (cs_fam σ) (cs_fst σ) (cs_fls σ) (cs_own σ) (cs_opt σ) (cs_m σ) (va_up (cs_ow σ) (cs_m σ) n1) (upd (cs_nm σ) (cs_m σ) x2) (cs_fi σ) (va_up (cs_am σ) n1 (((cs_am σ) n1) + 1)) (upd (cs_si σ) (cs_m σ) x3) (cs_ki σ))) := cw_D hinj
    refine lv_aload_n hx hb dX1_append_57 rfl (lv_at hl 1 rfl) ?_
    refine va_get (D := D) (ci := 2) (v := .ref (a 15)) (C := RX1) (T := TX1) (N := 7) hx hb hts (by decide +kernel) hown hK.1 hP 2 rfl rfl 6 (by decide) (hts (.fieldLink RX1 31 "ChooseTree$Methods" "kind" "[I") (by decide +kernel)) (fun _ h9 => h9) rfl dX1_append_58 ?_
    refine lv_iload hx hb dX1_append_61 (lv_at hl 0 rfl) ?_
    refine lv_iload hx hb dX1_append_63 (lv_at hl 5 rfl) ?_
    refine na_iast (D := D) hx hb hK.1 hP hD hS 15 12 rfl rfl (i := (cs_m σ)) (x := x4) (by omega) (by decide) dX1_append_65 (fun H locs hP hD hS => ?_)
    replace hP : va_P D vwCl (cw a k (cs_mk (cs_n σ) (cs_par σ) (cs_pack σ) (cs_face σ) (cs_abv σ) (cs_fam σ) (cs_fst σ) (cs_fls σ) (cs_own σ) (cs_opt σ) (cs_m σ) (va_up (cs_ow σ) (cs_m σ) n1) (upd (cs_nm σ) (cs_m σ) x2) (cs_fi σ) (va_up (cs_am σ) n1 (((cs_am σ) n1) + 1)) (upd (cs_si σ) (cs_m σ) x3) (upd (cs_ki σ) (cs_m σ) x4))) H := hP
    replace hD : va_D (ca a) (cw a k (cs_mk (cs_n σ) (cs_par σ) (cs_pack σ) (cs_face σ) (cs_abv σ) (cs_fam σ) (cs_fst σ) (cs_fls σ) (cs_own σ) (cs_opt σ) (cs_m σ) (va_up (cs_ow σ) (cs_m σ) n1) (upd (cs_nm σ) (cs_m σ) x2) (cs_fi σ) (va_up (cs_am σ) n1 (((cs_am σ) n1) + 1)) (upd (cs_si σ) (cs_m σ) x3) (upd (cs_ki σ) (cs_m σ) x4))) := cw_D hinj
    refine lv_aload_n hx hb dX1_append_66 rfl (lv_at hl 1 rfl) ?_
    refine lv_dup hx hb dX1_append_67 rfl ?_
    refine va_get (D := D) (ci := 2) (v := .int (nI (cs_m σ))) (C := RX1) (T := TX1) (N := 7) hx hb hts (by decide +kernel) hown hK.1 hP 2 rfl rfl 0 (by decide) (hts (.fieldLink RX1 9 "ChooseTree$Methods" "count" "I") (by decide +kernel)) (fun _ h9 => h9) rfl dX1_append_68 ?_
    refine lv_iconst (v := (nI 1)) hx hb dX1_append_71 (by decide) ?_
    refine lv_iaddN hx hb dX1_append_72 ?_
    refine va_put (D := D) (ci := 2) (v := .int (nI ((cs_m σ) + 1))) (ty := .int) (C := RX1) (T := TX1) (N := 7) hx hb hts (by decide +kernel) tyX1 tyX1_ok nmX1 hown hK.1 hP hD hS 2 rfl rfl 0 (by decide) (hts (.fieldLink RX1 9 "ChooseTree$Methods" "count" "I") (by decide +kernel)) (fun _ h9 => h9) rfl (by decide +kernel) rfl rfl (Nat.le_of_ble_eq_true rfl) dX1_append_73 (fun H locs hP hD hS => ?_)
    replace hP : va_P D vwCl (cw a k (cs_mk (cs_n σ) (cs_par σ) (cs_pack σ) (cs_face σ) (cs_abv σ) (cs_fam σ) (cs_fst σ) (cs_fls σ) (cs_own σ) (cs_opt σ) ((cs_m σ) + 1) (va_up (cs_ow σ) (cs_m σ) n1) (upd (cs_nm σ) (cs_m σ) x2) (cs_fi σ) (va_up (cs_am σ) n1 (((cs_am σ) n1) + 1)) (upd (cs_si σ) (cs_m σ) x3) (upd (cs_ki σ) (cs_m σ) x4))) H := hP
    replace hD : va_D (ca a) (cw a k (cs_mk (cs_n σ) (cs_par σ) (cs_pack σ) (cs_face σ) (cs_abv σ) (cs_fam σ) (cs_fst σ) (cs_fls σ) (cs_own σ) (cs_opt σ) ((cs_m σ) + 1) (va_up (cs_ow σ) (cs_m σ) n1) (upd (cs_nm σ) (cs_m σ) x2) (cs_fi σ) (va_up (cs_am σ) n1 (((cs_am σ) n1) + 1)) (upd (cs_si σ) (cs_m σ) x3) (upd (cs_ki σ) (cs_m σ) x4))) := cw_D hinj
    refine lv_iload hx hb dX1_append_76 (lv_at hl 0 rfl) ?_
    exact W.iret (v := (nI (cs_m σ))) hx hb hr (fun t ht hW => ⟨⟨(nI (cs_m σ)), (), rfl, rfl, show va_P D vwCl (cw a k (m_append σ n1 x2 x3 x4)) t.heap from (by rw [ht]; exact (by rw [e]; exact hP))⟩, hS.F ht⟩) hS.2.2 dX1_append_78
  · have e := show m_append σ n1 x2 x3 x4 = _ from (by unfold m_append; rw [if_pos c_1])
    refine lv_aload_n hx hb dX1_append_15 rfl (lv_at hl 1 rfl) ?_
    refine va_get (D := D) (ci := 2) (v := .ref (a 12)) (C := RX1) (T := TX1) (N := 7) hx hb hts (by decide +kernel) hown hK.1 hP 2 rfl rfl 3 (by decide) (hts (.fieldLink RX1 22 "ChooseTree$Methods" "first" "[I") (by decide +kernel)) (fun _ h9 => h9) rfl dX1_append_16 ?_
    refine lv_iload_n hx hb dX1_append_19 rfl (lv_at hl 2 rfl) ?_
    refine lv_iload hx hb dX1_append_20 (lv_at hl 0 rfl) ?_
    refine na_iastN (D := D) hx hb hK.1 hP hD hS 12 9 rfl rfl (i := n1) (v := (cs_m σ)) (by omega) (by decide) dX1_append_22 (fun H locs hP hD hS => ?_)
    replace hP : va_P D vwCl (cw a k (cs_mk (cs_n σ) (cs_par σ) (cs_pack σ) (cs_face σ) (cs_abv σ) (cs_fam σ) (cs_fst σ) (cs_fls σ) (cs_own σ) (cs_opt σ) (cs_m σ) (cs_ow σ) (cs_nm σ) (va_up (cs_fi σ) n1 (cs_m σ)) (cs_am σ) (cs_si σ) (cs_ki σ))) H := hP
    replace hD : va_D (ca a) (cw a k (cs_mk (cs_n σ) (cs_par σ) (cs_pack σ) (cs_face σ) (cs_abv σ) (cs_fam σ) (cs_fst σ) (cs_fls σ) (cs_own σ) (cs_opt σ) (cs_m σ) (cs_ow σ) (cs_nm σ) (va_up (cs_fi σ) n1 (cs_m σ)) (cs_am σ) (cs_si σ) (cs_ki σ))) := cw_D hinj
    refine lv_aload_n hx hb dX1_append_23 rfl (lv_at hl 1 rfl) ?_
    refine va_get (D := D) (ci := 2) (v := .ref (a 13)) (C := RX1) (T := TX1) (N := 7) hx hb hts (by decide +kernel) hown hK.1 hP 2 rfl rfl 4 (by decide) (hts (.fieldLink RX1 25 "ChooseTree$Methods" "amount" "[I") (by decide +kernel)) (fun _ h9 => h9) rfl dX1_append_24 ?_
    refine lv_iload_n hx hb dX1_append_27 rfl (lv_at hl 2 rfl) ?_
    refine lv_dup2_11 hx hb dX1_append_28 rfl rfl ?_
    refine na_iald (D := D) hx hb hK.1 hP 13 10 rfl rfl (i := n1) (by omega) (by decide) dX1_append_29 ?_
    refine lv_iconst (v := (nI 1)) hx hb dX1_append_30 (by decide) ?_
    refine lv_iaddN hx hb dX1_append_31 ?_
    refine na_iastN (D := D) hx hb hK.1 hP hD hS 13 10 rfl rfl (i := n1) (v := (((cs_am σ) n1) + 1)) (by omega) (by decide) dX1_append_32 (fun H locs hP hD hS => ?_)
    replace hP : va_P D vwCl (cw a k (cs_mk (cs_n σ) (cs_par σ) (cs_pack σ) (cs_face σ) (cs_abv σ) (cs_fam σ) (cs_fst σ) (cs_fls σ) (cs_own σ) (cs_opt σ) (cs_m σ) (cs_ow σ) (cs_nm σ) (va_up (cs_fi σ) n1 (cs_m σ)) (va_up (cs_am σ) n1 (((cs_am σ) n1) + 1)) (cs_si σ) (cs_ki σ))) H := hP
    replace hD : va_D (ca a) (cw a k (cs_mk (cs_n σ) (cs_par σ) (cs_pack σ) (cs_face σ) (cs_abv σ) (cs_fam σ) (cs_fst σ) (cs_fls σ) (cs_own σ) (cs_opt σ) (cs_m σ) (cs_ow σ) (cs_nm σ) (va_up (cs_fi σ) n1 (cs_m σ)) (va_up (cs_am σ) n1 (((cs_am σ) n1) + 1)) (cs_si σ) (cs_ki σ))) := cw_D hinj
    refine lv_aload_n hx hb dX1_append_33 rfl (lv_at hl 1 rfl) ?_
    refine va_get (D := D) (ci := 2) (v := .ref (a 10)) (C := RX1) (T := TX1) (N := 7) hx hb hts (by decide +kernel) hown hK.1 hP 2 rfl rfl 1 (by decide) (hts (.fieldLink RX1 15 "ChooseTree$Methods" "owner" "[I") (by decide +kernel)) (fun _ h9 => h9) rfl dX1_append_34 ?_
    refine lv_iload hx hb dX1_append_37 (lv_at hl 0 rfl) ?_
    refine lv_iload_n hx hb dX1_append_39 rfl (lv_at hl 2 rfl) ?_
    refine na_iastN (D := D) hx hb hK.1 hP hD hS 10 7 rfl rfl (i := (cs_m σ)) (v := n1) (by omega) (by decide) dX1_append_40 (fun H locs hP hD hS => ?_)
    replace hP : va_P D vwCl (cw a k (cs_mk (cs_n σ) (cs_par σ) (cs_pack σ) (cs_face σ) (cs_abv σ) (cs_fam σ) (cs_fst σ) (cs_fls σ) (cs_own σ) (cs_opt σ) (cs_m σ) (va_up (cs_ow σ) (cs_m σ) n1) (cs_nm σ) (va_up (cs_fi σ) n1 (cs_m σ)) (va_up (cs_am σ) n1 (((cs_am σ) n1) + 1)) (cs_si σ) (cs_ki σ))) H := hP
    replace hD : va_D (ca a) (cw a k (cs_mk (cs_n σ) (cs_par σ) (cs_pack σ) (cs_face σ) (cs_abv σ) (cs_fam σ) (cs_fst σ) (cs_fls σ) (cs_own σ) (cs_opt σ) (cs_m σ) (va_up (cs_ow σ) (cs_m σ) n1) (cs_nm σ) (va_up (cs_fi σ) n1 (cs_m σ)) (va_up (cs_am σ) n1 (((cs_am σ) n1) + 1)) (cs_si σ) (cs_ki σ))) := cw_D hinj
    refine lv_aload_n hx hb dX1_append_41 rfl (lv_at hl 1 rfl) ?_
    refine va_get (D := D) (ci := 2) (v := .ref (a 11)) (C := RX1) (T := TX1) (N := 7) hx hb hts (by decide +kernel) hown hK.1 hP 2 rfl rfl 2 (by decide) (hts (.fieldLink RX1 19 "ChooseTree$Methods" "name" "[I") (by decide +kernel)) (fun _ h9 => h9) rfl dX1_append_42 ?_
    refine lv_iload hx hb dX1_append_45 (lv_at hl 0 rfl) ?_
    refine lv_iload_n hx hb dX1_append_47 rfl (lv_at hl 3 rfl) ?_
    refine na_iast (D := D) hx hb hK.1 hP hD hS 11 8 rfl rfl (i := (cs_m σ)) (x := x2) (by omega) (by decide) dX1_append_48 (fun H locs hP hD hS => ?_)
    replace hP : va_P D vwCl (cw a k (cs_mk (cs_n σ) (cs_par σ) (cs_pack σ) (cs_face σ) (cs_abv σ) (cs_fam σ) (cs_fst σ) (cs_fls σ) (cs_own σ) (cs_opt σ) (cs_m σ) (va_up (cs_ow σ) (cs_m σ) n1) (upd (cs_nm σ) (cs_m σ) x2) (va_up (cs_fi σ) n1 (cs_m σ)) (va_up (cs_am σ) n1 (((cs_am σ) n1) + 1)) (cs_si σ) (cs_ki σ))) H := hP
    replace hD : va_D (ca a) (cw a k (cs_mk (cs_n σ) (cs_par σ) (cs_pack σ) (cs_face σ) (cs_abv σ) (cs_fam σ) (cs_fst σ) (cs_fls σ) (cs_own σ) (cs_opt σ) (cs_m σ) (va_up (cs_ow σ) (cs_m σ) n1) (upd (cs_nm σ) (cs_m σ) x2) (va_up (cs_fi σ) n1 (cs_m σ)) (va_up (cs_am σ) n1 (((cs_am σ) n1) + 1)) (cs_si σ) (cs_ki σ))) := cw_D hinj
    refine lv_aload_n hx hb dX1_append_49 rfl (lv_at hl 1 rfl) ?_
    refine va_get (D := D) (ci := 2) (v := .ref (a 14)) (C := RX1) (T := TX1) (N := 7) hx hb hts (by decide +kernel) hown hK.1 hP 2 rfl rfl 5 (by decide) (hts (.fieldLink RX1 28 "ChooseTree$Methods" "sight" "[I") (by decide +kernel)) (fun _ h9 => h9) rfl dX1_append_50 ?_
    refine lv_iload hx hb dX1_append_53 (lv_at hl 0 rfl) ?_
    refine lv_iload_n hx hb dX1_append_55 rfl (lv_at hl 4 rfl) ?_
    refine na_iast (D := D) hx hb hK.1 hP hD hS 14 11 rfl rfl (i := (cs_m σ)) (x := x3) (by omega) (by decide) dX1_append_56 (fun H locs hP hD hS => ?_)
    replace hP : va_P D vwCl (cw a k (cs_mk (cs_n σ) (cs_par σ) (cs_pack σ) (cs_face σ) (cs_abv σ) (cs_fam σ) (cs_fst σ) (cs_fls σ) (cs_own σ) (cs_opt σ) (cs_m σ) (va_up (cs_ow σ) (cs_m σ) n1) (upd (cs_nm σ) (cs_m σ) x2) (va_up (cs_fi σ) n1 (cs_m σ)) (va_up (cs_am σ) n1 (((cs_am σ) n1) + 1)) (upd (cs_si σ) (cs_m σ) x3) (cs_ki σ))) H := hP
    replace hD : va_D (ca a) (cw a k (cs_mk (cs_n σ) (cs_par σ) (cs_pack σ) (cs_face σ) (cs_abv σ) (cs_fam σ) (cs_fst σ) (cs_fls σ) (cs_own σ) (cs_opt σ) (cs_m σ) (va_up (cs_ow σ) (cs_m σ) n1) (upd (cs_nm σ) (cs_m σ) x2) (va_up (cs_fi σ) n1 (cs_m σ)) (va_up (cs_am σ) n1 (((cs_am σ) n1) + 1)) (upd (cs_si σ) (cs_m σ) x3) (cs_ki σ))) := cw_D hinj
    refine lv_aload_n hx hb dX1_append_57 rfl (lv_at hl 1 rfl) ?_
    refine va_get (D := D) (ci := 2) (v := .ref (a 15)) (C := RX1) (T := TX1) (N := 7) hx hb hts (by decide +kernel) hown hK.1 hP 2 rfl rfl 6 (by decide) (hts (.fieldLink RX1 31 "ChooseTree$Methods" "kind" "[I") (by decide +kernel)) (fun _ h9 => h9) rfl dX1_append_58 ?_
    refine lv_iload hx hb dX1_append_61 (lv_at hl 0 rfl) ?_
    refine lv_iload hx hb dX1_append_63 (lv_at hl 5 rfl) ?_
    refine na_iast (D := D) hx hb hK.1 hP hD hS 15 12 rfl rfl (i := (cs_m σ)) (x := x4) (by omega) (by decide) dX1_append_65 (fun H locs hP hD hS => ?_)
    replace hP : va_P D vwCl (cw a k (cs_mk (cs_n σ) (cs_par σ) (cs_pack σ) (cs_face σ) (cs_abv σ) (cs_fam σ) (cs_fst σ) (cs_fls σ) (cs_own σ) (cs_opt σ) (cs_m σ) (va_up (cs_ow σ) (cs_m σ) n1) (upd (cs_nm σ) (cs_m σ) x2) (va_up (cs_fi σ) n1 (cs_m σ)) (va_up (cs_am σ) n1 (((cs_am σ) n1) + 1)) (upd (cs_si σ) (cs_m σ) x3) (upd (cs_ki σ) (cs_m σ) x4))) H := hP
    replace hD : va_D (ca a) (cw a k (cs_mk (cs_n σ) (cs_par σ) (cs_pack σ) (cs_face σ) (cs_abv σ) (cs_fam σ) (cs_fst σ) (cs_fls σ) (cs_own σ) (cs_opt σ) (cs_m σ) (va_up (cs_ow σ) (cs_m σ) n1) (upd (cs_nm σ) (cs_m σ) x2) (va_up (cs_fi σ) n1 (cs_m σ)) (va_up (cs_am σ) n1 (((cs_am σ) n1) + 1)) (upd (cs_si σ) (cs_m σ) x3) (upd (cs_ki σ) (cs_m σ) x4))) := cw_D hinj
    refine lv_aload_n hx hb dX1_append_66 rfl (lv_at hl 1 rfl) ?_
    refine lv_dup hx hb dX1_append_67 rfl ?_
    refine va_get (D := D) (ci := 2) (v := .int (nI (cs_m σ))) (C := RX1) (T := TX1) (N := 7) hx hb hts (by decide +kernel) hown hK.1 hP 2 rfl rfl 0 (by decide) (hts (.fieldLink RX1 9 "ChooseTree$Methods" "count" "I") (by decide +kernel)) (fun _ h9 => h9) rfl dX1_append_68 ?_
    refine lv_iconst (v := (nI 1)) hx hb dX1_append_71 (by decide) ?_
    refine lv_iaddN hx hb dX1_append_72 ?_
    refine va_put (D := D) (ci := 2) (v := .int (nI ((cs_m σ) + 1))) (ty := .int) (C := RX1) (T := TX1) (N := 7) hx hb hts (by decide +kernel) tyX1 tyX1_ok nmX1 hown hK.1 hP hD hS 2 rfl rfl 0 (by decide) (hts (.fieldLink RX1 9 "ChooseTree$Methods" "count" "I") (by decide +kernel)) (fun _ h9 => h9) rfl (by decide +kernel) rfl rfl (Nat.le_of_ble_eq_true rfl) dX1_append_73 (fun H locs hP hD hS => ?_)
    replace hP : va_P D vwCl (cw a k (cs_mk (cs_n σ) (cs_par σ) (cs_pack σ) (cs_face σ) (cs_abv σ) (cs_fam σ) (cs_fst σ) (cs_fls σ) (cs_own σ) (cs_opt σ) ((cs_m σ) + 1) (va_up (cs_ow σ) (cs_m σ) n1) (upd (cs_nm σ) (cs_m σ) x2) (va_up (cs_fi σ) n1 (cs_m σ)) (va_up (cs_am σ) n1 (((cs_am σ) n1) + 1)) (upd (cs_si σ) (cs_m σ) x3) (upd (cs_ki σ) (cs_m σ) x4))) H := hP
    replace hD : va_D (ca a) (cw a k (cs_mk (cs_n σ) (cs_par σ) (cs_pack σ) (cs_face σ) (cs_abv σ) (cs_fam σ) (cs_fst σ) (cs_fls σ) (cs_own σ) (cs_opt σ) ((cs_m σ) + 1) (va_up (cs_ow σ) (cs_m σ) n1) (upd (cs_nm σ) (cs_m σ) x2) (va_up (cs_fi σ) n1 (cs_m σ)) (va_up (cs_am σ) n1 (((cs_am σ) n1) + 1)) (upd (cs_si σ) (cs_m σ) x3) (upd (cs_ki σ) (cs_m σ) x4))) := cw_D hinj
    refine lv_iload hx hb dX1_append_76 (lv_at hl 0 rfl) ?_
    exact W.iret (v := (nI (cs_m σ))) hx hb hr (fun t ht hW => ⟨⟨(nI (cs_m σ)), (), rfl, rfl, show va_P D vwCl (cw a k (m_append σ n1 x2 x3 x4)) t.heap from (by rw [ht]; exact (by rw [e]; exact hP))⟩, hS.F ht⟩) hS.2.2 dX1_append_78
set_option maxHeartbeats 4000000 in
set_option maxRecDepth 100000 in
theorem c_X0_append (l : Launch) (D : va_G) (a : Nat → Nat) (k : Nat → ClassId) (σ : CS) (hinj : cInj a) (hok : cok σ) (n1 : Nat) (hn1 : n1 < 60) (hn6 : cs_n σ < 60) (x2 : Int32) (b3 : Bool) : Met l yX0_append wsX0_append (rmC 3 69) (cP D a k σ [.ref (a 1), .int (nI n1), .int x2, .int (bI b3)]) (wrI D a k (nI (cs_n σ)) (s_append σ n1 x2 b3)) 0 0 (ca a) := by
  refine Met.ofW (cc := cX0_append) (maxL := 5) (ret := (some .int)) (by decide) rfl ?_
  intro p e s m args below meth c s₁ B hml hv
  obtain ⟨rfl, hP, hK⟩ := hv
  have hx := B.exec
  have hb := B.bytes
  have hr := B.returns
  have hts := atoms_spec (ws := wsX0_append) B.pre
  have hown : s.vm.findClass RX0 = some m.cls := findClass_of_methodNamed B.named
  have hlocks := B.notSynchronized
  clear B
  have hl := lv_entry ([.ref (a 1), .int (nI n1), .int x2, .int (bI b3)]) (n := 5) (Nat.le_of_ble_eq_true rfl)
  rw [lg_entry_eq]
  generalize (lg_sl ([.ref (a 1), .int (nI n1), .int x2, .int (bI b3)]) ++ List.replicate (5 - (lg_sl ([.ref (a 1), .int (nI n1), .int x2, .int (bI b3)])).length) Slot.unset).toArray = ls at hl ⊢
  replace hl : lv_has ls 5 [(0, .ref (a 1)), (1, .int (nI n1)), (2, .int x2), (3, .int (bI b3))] := hl
  refine gen_start (A := (ca a)) (fun H locs hP hS => ?_) hP
  have hD : va_D (ca a) (cw a k σ) := cw_D hinj
  obtain ⟨hb0, hb1, hb7, hb8⟩ := id hok
  refine lv_aload_n hx hb dX0_append_0 rfl (lv_at hl 0 rfl) ?_
  refine va_get (D := D) (ci := 1) (v := .int (nI (cs_n σ))) (C := RX0) (T := TX0) (N := 10) hx hb hts (by decide +kernel) hown hK.1 hP 1 rfl rfl 0 (by decide) (hts (.fieldLink RX0 9 "ChooseTree$Classes" "count" "I") (by decide +kernel)) (fun _ h9 => h9) rfl dX0_append_1 ?_
  refine lv_istore (lv' := [(4, .int (nI (cs_n σ))), (0, .ref (a 1)), (1, .int (nI n1)), (2, .int x2), (3, .int (bI b3))]) hx hb dX0_append_4 hl (by decide) rfl (fun ls hl => ?_)
  refine lv_aload_n hx hb dX0_append_6 rfl (lv_at hl 1 rfl) ?_
  refine va_get (D := D) (ci := 1) (v := .ref (a 8)) (C := RX0) (T := TX0) (N := 10) hx hb hts (by decide +kernel) hown hK.1 hP 1 rfl rfl 6 (by decide) (hts (.fieldLink RX0 33 "ChooseTree$Classes" "faceStart" "[I") (by decide +kernel)) (fun _ h9 => h9) rfl dX0_append_7 ?_
  refine lv_iload hx hb dX0_append_10 (lv_at hl 0 rfl) ?_
  refine lv_aload_n hx hb dX0_append_12 rfl (lv_at hl 1 rfl) ?_
  refine va_get (D := D) (ci := 1) (v := .ref (a 8)) (C := RX0) (T := TX0) (N := 10) hx hb hts (by decide +kernel) hown hK.1 hP 1 rfl rfl 6 (by decide) (hts (.fieldLink RX0 33 "ChooseTree$Classes" "faceStart" "[I") (by decide +kernel)) (fun _ h9 => h9) rfl dX0_append_13 ?_
  refine lv_iload hx hb dX0_append_16 (lv_at hl 0 rfl) ?_
  refine lv_iconst (v := (nI 1)) hx hb dX0_append_18 (by decide) ?_
  refine lv_isubN hx hb dX0_append_19 (by omega) ?_
  refine na_iald (D := D) hx hb hK.1 hP 8 5 rfl rfl (i := ((cs_n σ) - 1)) (by omega) (by decide) dX0_append_20 ?_
  refine lv_aload_n hx hb dX0_append_21 rfl (lv_at hl 1 rfl) ?_
  refine va_get (D := D) (ci := 1) (v := .ref (a 7)) (C := RX0) (T := TX0) (N := 10) hx hb hts (by decide +kernel) hown hK.1 hP 1 rfl rfl 5 (by decide) (hts (.fieldLink RX0 30 "ChooseTree$Classes" "faceAmount" "[I") (by decide +kernel)) (fun _ h9 => h9) rfl dX0_append_22 ?_
  refine lv_iload hx hb dX0_append_25 (lv_at hl 0 rfl) ?_
  refine lv_iconst (v := (nI 1)) hx hb dX0_append_27 (by decide) ?_
  refine lv_isubN hx hb dX0_append_28 (by omega) ?_
  refine na_iald (D := D) hx hb hK.1 hP 7 4 rfl rfl (i := ((cs_n σ) - 1)) (by omega) (by decide) dX0_append_29 ?_
  refine lv_iaddN hx hb dX0_append_30 ?_
  refine na_iastN (D := D) hx hb hK.1 hP hD hS 8 5 rfl rfl (i := (cs_n σ)) (v := (((cs_fst σ) ((cs_n σ) - 1)) + ((cs_fam σ) ((cs_n σ) - 1)))) (by omega) (by decide) dX0_append_31 (fun H locs hP hD hS => ?_)
  replace hP : va_P D vwCl (cw a k (cs_mk (cs_n σ) (cs_par σ) (cs_pack σ) (cs_face σ) (cs_abv σ) (cs_fam σ) (va_up (cs_fst σ) (cs_n σ) (((cs_fst σ) ((cs_n σ) - 1)) + ((cs_fam σ) ((cs_n σ) - 1)))) (cs_fls σ) (cs_own σ) (cs_opt σ) (cs_m σ) (cs_ow σ) (cs_nm σ) (cs_fi σ) (cs_am σ) (cs_si σ) (cs_ki σ))) H := hP
  replace hD : va_D (ca a) (cw a k (cs_mk (cs_n σ) (cs_par σ) (cs_pack σ) (cs_face σ) (cs_abv σ) (cs_fam σ) (va_up (cs_fst σ) (cs_n σ) (((cs_fst σ) ((cs_n σ) - 1)) + ((cs_fam σ) ((cs_n σ) - 1)))) (cs_fls σ) (cs_own σ) (cs_opt σ) (cs_m σ) (cs_ow σ) (cs_nm σ) (cs_fi σ) (cs_am σ) (cs_si σ) (cs_ki σ))) := cw_D hinj
  refine lv_aload_n hx hb dX0_append_32 rfl (lv_at hl 1 rfl) ?_
  refine va_get (D := D) (ci := 1) (v := .ref (a 3)) (C := RX0) (T := TX0) (N := 10) hx hb hts (by decide +kernel) hown hK.1 hP 1 rfl rfl 1 (by decide) (hts (.fieldLink RX0 15 "ChooseTree$Classes" "parent" "[I") (by decide +kernel)) (fun _ h9 => h9) rfl dX0_append_33 ?_
  refine lv_iload hx hb dX0_append_36 (lv_at hl 0 rfl) ?_
  refine lv_iload_n hx hb dX0_append_38 rfl (lv_at hl 2 rfl) ?_
  refine na_iastN (D := D) hx hb hK.1 hP hD hS 3 0 rfl rfl (i := (cs_n σ)) (v := n1) (by omega) (by decide) dX0_append_39 (fun H locs hP hD hS => ?_)
  replace hP : va_P D vwCl (cw a k (cs_mk (cs_n σ) (va_up (cs_par σ) (cs_n σ) n1) (cs_pack σ) (cs_face σ) (cs_abv σ) (cs_fam σ) (va_up (cs_fst σ) (cs_n σ) (((cs_fst σ) ((cs_n σ) - 1)) + ((cs_fam σ) ((cs_n σ) - 1)))) (cs_fls σ) (cs_own σ) (cs_opt σ) (cs_m σ) (cs_ow σ) (cs_nm σ) (cs_fi σ) (cs_am σ) (cs_si σ) (cs_ki σ))) H := hP
  replace hD : va_D (ca a) (cw a k (cs_mk (cs_n σ) (va_up (cs_par σ) (cs_n σ) n1) (cs_pack σ) (cs_face σ) (cs_abv σ) (cs_fam σ) (va_up (cs_fst σ) (cs_n σ) (((cs_fst σ) ((cs_n σ) - 1)) + ((cs_fam σ) ((cs_n σ) - 1)))) (cs_fls σ) (cs_own σ) (cs_opt σ) (cs_m σ) (cs_ow σ) (cs_nm σ) (cs_fi σ) (cs_am σ) (cs_si σ) (cs_ki σ))) := cw_D hinj
  refine lv_aload_n hx hb dX0_append_40 rfl (lv_at hl 1 rfl) ?_
  refine va_get (D := D) (ci := 1) (v := .ref (a 4)) (C := RX0) (T := TX0) (N := 10) hx hb hts (by decide +kernel) hown hK.1 hP 1 rfl rfl 2 (by decide) (hts (.fieldLink RX0 19 "ChooseTree$Classes" "pack" "[I") (by decide +kernel)) (fun _ h9 => h9) rfl dX0_append_41 ?_
  refine lv_iload hx hb dX0_append_44 (lv_at hl 0 rfl) ?_
  refine lv_iload_n hx hb dX0_append_46 rfl (lv_at hl 3 rfl) ?_
  refine na_iast (D := D) hx hb hK.1 hP hD hS 4 1 rfl rfl (i := (cs_n σ)) (x := x2) (by omega) (by decide) dX0_append_47 (fun H locs hP hD hS => ?_)
  replace hP : va_P D vwCl (cw a k (cs_mk (cs_n σ) (va_up (cs_par σ) (cs_n σ) n1) (upd (cs_pack σ) (cs_n σ) x2) (cs_face σ) (cs_abv σ) (cs_fam σ) (va_up (cs_fst σ) (cs_n σ) (((cs_fst σ) ((cs_n σ) - 1)) + ((cs_fam σ) ((cs_n σ) - 1)))) (cs_fls σ) (cs_own σ) (cs_opt σ) (cs_m σ) (cs_ow σ) (cs_nm σ) (cs_fi σ) (cs_am σ) (cs_si σ) (cs_ki σ))) H := hP
  replace hD : va_D (ca a) (cw a k (cs_mk (cs_n σ) (va_up (cs_par σ) (cs_n σ) n1) (upd (cs_pack σ) (cs_n σ) x2) (cs_face σ) (cs_abv σ) (cs_fam σ) (va_up (cs_fst σ) (cs_n σ) (((cs_fst σ) ((cs_n σ) - 1)) + ((cs_fam σ) ((cs_n σ) - 1)))) (cs_fls σ) (cs_own σ) (cs_opt σ) (cs_m σ) (cs_ow σ) (cs_nm σ) (cs_fi σ) (cs_am σ) (cs_si σ) (cs_ki σ))) := cw_D hinj
  refine lv_aload_n hx hb dX0_append_48 rfl (lv_at hl 1 rfl) ?_
  refine va_get (D := D) (ci := 1) (v := .ref (a 5)) (C := RX0) (T := TX0) (N := 10) hx hb hts (by decide +kernel) hown hK.1 hP 1 rfl rfl 3 (by decide) (hts (.fieldLink RX0 22 "ChooseTree$Classes" "face" "[Z") (by decide +kernel)) (fun _ h9 => h9) rfl dX0_append_49 ?_
  refine lv_iload hx hb dX0_append_52 (lv_at hl 0 rfl) ?_
  refine lv_iload_n hx hb dX0_append_54 rfl (lv_at hl 4 rfl) ?_
  refine na_zast (D := D) hx hb hK.1 hP hD hS 5 2 rfl rfl (i := (cs_n σ)) (x := (bI b3)) (by omega) (by decide) (bI_vnar _) dX0_append_55 (fun H locs hP hD hS => ?_)
  replace hP : va_P D vwCl (cw a k (cs_mk (cs_n σ) (va_up (cs_par σ) (cs_n σ) n1) (upd (cs_pack σ) (cs_n σ) x2) (upd (cs_face σ) (cs_n σ) (bI b3)) (cs_abv σ) (cs_fam σ) (va_up (cs_fst σ) (cs_n σ) (((cs_fst σ) ((cs_n σ) - 1)) + ((cs_fam σ) ((cs_n σ) - 1)))) (cs_fls σ) (cs_own σ) (cs_opt σ) (cs_m σ) (cs_ow σ) (cs_nm σ) (cs_fi σ) (cs_am σ) (cs_si σ) (cs_ki σ))) H := hP
  replace hD : va_D (ca a) (cw a k (cs_mk (cs_n σ) (va_up (cs_par σ) (cs_n σ) n1) (upd (cs_pack σ) (cs_n σ) x2) (upd (cs_face σ) (cs_n σ) (bI b3)) (cs_abv σ) (cs_fam σ) (va_up (cs_fst σ) (cs_n σ) (((cs_fst σ) ((cs_n σ) - 1)) + ((cs_fam σ) ((cs_n σ) - 1)))) (cs_fls σ) (cs_own σ) (cs_opt σ) (cs_m σ) (cs_ow σ) (cs_nm σ) (cs_fi σ) (cs_am σ) (cs_si σ) (cs_ki σ))) := cw_D hinj
  refine lv_aload_n hx hb dX0_append_56 rfl (lv_at hl 1 rfl) ?_
  refine va_get (D := D) (ci := 1) (v := .ref (a 6)) (C := RX0) (T := TX0) (N := 10) hx hb hts (by decide +kernel) hown hK.1 hP 1 rfl rfl 4 (by decide) (hts (.fieldLink RX0 26 "ChooseTree$Classes" "above" "[J") (by decide +kernel)) (fun _ h9 => h9) rfl dX0_append_57 ?_
  refine lv_iload hx hb dX0_append_60 (lv_at hl 0 rfl) ?_
  refine lv_aload_n hx hb dX0_append_62 rfl (lv_at hl 1 rfl) ?_
  refine va_get (D := D) (ci := 1) (v := .ref (a 6)) (C := RX0) (T := TX0) (N := 10) hx hb hts (by decide +kernel) hown hK.1 hP 1 rfl rfl 4 (by decide) (hts (.fieldLink RX0 26 "ChooseTree$Classes" "above" "[J") (by decide +kernel)) (fun _ h9 => h9) rfl dX0_append_63 ?_
  refine lv_iload_n hx hb dX0_append_66 rfl (lv_at hl 2 rfl) ?_
  refine na_lald (D := D) hx hb hK.1 hP 6 3 rfl rfl (i := n1) (by omega) (by decide) dX0_append_67 ?_
  refine lv_lconst (v := 1) hx hb dX0_append_68 (by decide) ?_
  refine lv_iload_n hx hb dX0_append_69 rfl (lv_at hl 2 rfl) ?_
  refine lv_lshl (v := (shlL (1 : Int64) (nI n1))) hx hb dX0_append_70 rfl ?_
  refine lv_lor hx hb dX0_append_71 ?_
  refine na_last (D := D) hx hb hK.1 hP hD hS 6 3 rfl rfl (i := (cs_n σ)) (by omega) (by decide) dX0_append_72 (fun H locs hP hD hS => ?_)
  replace hP : va_P D vwCl (cw a k (cs_mk (cs_n σ) (va_up (cs_par σ) (cs_n σ) n1) (upd (cs_pack σ) (cs_n σ) x2) (upd (cs_face σ) (cs_n σ) (bI b3)) (vp_updL (cs_abv σ) (cs_n σ) (((cs_abv σ) n1) ||| (shlL (1 : Int64) (nI n1)))) (cs_fam σ) (va_up (cs_fst σ) (cs_n σ) (((cs_fst σ) ((cs_n σ) - 1)) + ((cs_fam σ) ((cs_n σ) - 1)))) (cs_fls σ) (cs_own σ) (cs_opt σ) (cs_m σ) (cs_ow σ) (cs_nm σ) (cs_fi σ) (cs_am σ) (cs_si σ) (cs_ki σ))) H := hP
  replace hD : va_D (ca a) (cw a k (cs_mk (cs_n σ) (va_up (cs_par σ) (cs_n σ) n1) (upd (cs_pack σ) (cs_n σ) x2) (upd (cs_face σ) (cs_n σ) (bI b3)) (vp_updL (cs_abv σ) (cs_n σ) (((cs_abv σ) n1) ||| (shlL (1 : Int64) (nI n1)))) (cs_fam σ) (va_up (cs_fst σ) (cs_n σ) (((cs_fst σ) ((cs_n σ) - 1)) + ((cs_fam σ) ((cs_n σ) - 1)))) (cs_fls σ) (cs_own σ) (cs_opt σ) (cs_m σ) (cs_ow σ) (cs_nm σ) (cs_fi σ) (cs_am σ) (cs_si σ) (cs_ki σ))) := cw_D hinj
  refine lv_aload_n hx hb dX0_append_73 rfl (lv_at hl 1 rfl) ?_
  refine lv_lconst (v := 0) hx hb dX0_append_74 (by decide) ?_
  refine va_put (D := D) (ci := 1) (v := .long (0 : Int64)) (ty := .long) (C := RX0) (T := TX0) (N := 10) hx hb hts (by decide +kernel) tyX0 tyX0_ok nmX0 hown hK.1 hP hD hS 1 rfl rfl 8 (by decide) (hts (.fieldLink RX0 39 "ChooseTree$Classes" "ownFaces" "J") (by decide +kernel)) (fun _ h9 => h9) rfl (by decide +kernel) rfl rfl (Nat.le_of_ble_eq_true rfl) dX0_append_75 (fun H locs hP hD hS => ?_)
  replace hP : va_P D vwCl (cw a k (cs_mk (cs_n σ) (va_up (cs_par σ) (cs_n σ) n1) (upd (cs_pack σ) (cs_n σ) x2) (upd (cs_face σ) (cs_n σ) (bI b3)) (vp_updL (cs_abv σ) (cs_n σ) (((cs_abv σ) n1) ||| (shlL (1 : Int64) (nI n1)))) (cs_fam σ) (va_up (cs_fst σ) (cs_n σ) (((cs_fst σ) ((cs_n σ) - 1)) + ((cs_fam σ) ((cs_n σ) - 1)))) (cs_fls σ) (0 : Int64) (cs_opt σ) (cs_m σ) (cs_ow σ) (cs_nm σ) (cs_fi σ) (cs_am σ) (cs_si σ) (cs_ki σ))) H := hP
  replace hD : va_D (ca a) (cw a k (cs_mk (cs_n σ) (va_up (cs_par σ) (cs_n σ) n1) (upd (cs_pack σ) (cs_n σ) x2) (upd (cs_face σ) (cs_n σ) (bI b3)) (vp_updL (cs_abv σ) (cs_n σ) (((cs_abv σ) n1) ||| (shlL (1 : Int64) (nI n1)))) (cs_fam σ) (va_up (cs_fst σ) (cs_n σ) (((cs_fst σ) ((cs_n σ) - 1)) + ((cs_fam σ) ((cs_n σ) - 1)))) (cs_fls σ) (0 : Int64) (cs_opt σ) (cs_m σ) (cs_ow σ) (cs_nm σ) (cs_fi σ) (cs_am σ) (cs_si σ) (cs_ki σ))) := cw_D hinj
  refine lv_aload_n hx hb dX0_append_78 rfl (lv_at hl 1 rfl) ?_
  refine lv_iconst (v := (nI 0)) hx hb dX0_append_79 (by decide) ?_
  refine va_put (D := D) (ci := 1) (v := .int (nI 0)) (ty := .int) (C := RX0) (T := TX0) (N := 10) hx hb hts (by decide +kernel) tyX0 tyX0_ok nmX0 hown hK.1 hP hD hS 1 rfl rfl 9 (by decide) (hts (.fieldLink RX0 43 "ChooseTree$Classes" "ownPart" "I") (by decide +kernel)) (fun _ h9 => h9) rfl (by decide +kernel) rfl rfl (Nat.le_of_ble_eq_true rfl) dX0_append_80 (fun H locs hP hD hS => ?_)
  replace hP : va_P D vwCl (cw a k (cs_mk (cs_n σ) (va_up (cs_par σ) (cs_n σ) n1) (upd (cs_pack σ) (cs_n σ) x2) (upd (cs_face σ) (cs_n σ) (bI b3)) (vp_updL (cs_abv σ) (cs_n σ) (((cs_abv σ) n1) ||| (shlL (1 : Int64) (nI n1)))) (cs_fam σ) (va_up (cs_fst σ) (cs_n σ) (((cs_fst σ) ((cs_n σ) - 1)) + ((cs_fam σ) ((cs_n σ) - 1)))) (cs_fls σ) (0 : Int64) 0 (cs_m σ) (cs_ow σ) (cs_nm σ) (cs_fi σ) (cs_am σ) (cs_si σ) (cs_ki σ))) H := hP
  replace hD : va_D (ca a) (cw a k (cs_mk (cs_n σ) (va_up (cs_par σ) (cs_n σ) n1) (upd (cs_pack σ) (cs_n σ) x2) (upd (cs_face σ) (cs_n σ) (bI b3)) (vp_updL (cs_abv σ) (cs_n σ) (((cs_abv σ) n1) ||| (shlL (1 : Int64) (nI n1)))) (cs_fam σ) (va_up (cs_fst σ) (cs_n σ) (((cs_fst σ) ((cs_n σ) - 1)) + ((cs_fam σ) ((cs_n σ) - 1)))) (cs_fls σ) (0 : Int64) 0 (cs_m σ) (cs_ow σ) (cs_nm σ) (cs_fi σ) (cs_am σ) (cs_si σ) (cs_ki σ))) := cw_D hinj
  replace hP : va_P D vwCl (cw a k (s_app0 σ n1 x2 b3)) H := hP
  replace hD : va_D (ca a) (cw a k (s_app0 σ n1 x2 b3)) := cw_D hinj
  refine lv_aload_n hx hb dX0_append_83 rfl (lv_at hl 1 rfl) ?_
  refine lv_iload hx hb dX0_append_84 (lv_at hl 0 rfl) ?_
  refine lv_iload_n hx hb dX0_append_86 rfl (lv_at hl 2 rfl) ?_
  refine va_callv (va_runV (As := [.int (nI (cs_n σ)), .int (nI n1)]) (rest := []) ⟨hx, hb, hml, hown, hts⟩ (c_X0_listFacesOf l D a k (s_app0 σ n1 x2 b3) hinj (s_app0_bok hok hn1 hn6 x2 b3) (cs_n σ) n1 hn6 hn1) (cwV 2 hts gX0_append_X0_listFacesOf rfl rfl rfl (by decide +kernel) ⟨Nat.le_of_ble_eq_true rfl, Nat.le_of_ble_eq_true rfl⟩) (cP_V hK hP 1 1 rfl rfl) rfl rfl hl.1 rfl (lv_room (Nat.le_of_ble_eq_true rfl)) dX0_append_87 ⟨Nat.le_of_ble_eq_true rfl, Nat.le_of_ble_eq_true rfl⟩) hS (fun _ _ h => h) (fun _ h => h) (fun u t H1 locs ht hvm hw hB hz1 hk1 hS => ?_)
  replace hB : va_P D vwCl (cw a k (s_listFacesOf (s_app0 σ n1 x2 b3) (cs_n σ) n1)) t.heap := hB
  rw [ht] at hB
  clear hk1 hz1 hvm ht hP hD hw
  have hP := hB
  clear hB
  have hP : va_P D vwCl (cw a k (s_listFacesOf (s_app0 σ n1 x2 b3) (cs_n σ) n1)) H1 := hP
  have hD : va_D (ca a) (cw a k (s_listFacesOf (s_app0 σ n1 x2 b3) (cs_n σ) n1)) := cw_D hinj
  generalize H1 = H at hP hS ⊢
  refine lv_aload_n hx hb dX0_append_90 rfl (lv_at hl 1 rfl) ?_
  refine lv_dup hx hb dX0_append_91 rfl ?_
  refine va_get (D := D) (ci := 1) (v := .int (nI (cs_n (s_listFacesOf (s_app0 σ n1 x2 b3) (cs_n σ) n1)))) (C := RX0) (T := TX0) (N := 10) hx hb hts (by decide +kernel) hown hK.1 hP 1 rfl rfl 0 (by decide) (hts (.fieldLink RX0 9 "ChooseTree$Classes" "count" "I") (by decide +kernel)) (fun _ h9 => h9) rfl dX0_append_92 ?_
  refine lv_iconst (v := (nI 1)) hx hb dX0_append_95 (by decide) ?_
  refine lv_iaddN hx hb dX0_append_96 ?_
  refine va_put (D := D) (ci := 1) (v := .int (nI ((cs_n (s_listFacesOf (s_app0 σ n1 x2 b3) (cs_n σ) n1)) + 1))) (ty := .int) (C := RX0) (T := TX0) (N := 10) hx hb hts (by decide +kernel) tyX0 tyX0_ok nmX0 hown hK.1 hP hD hS 1 rfl rfl 0 (by decide) (hts (.fieldLink RX0 9 "ChooseTree$Classes" "count" "I") (by decide +kernel)) (fun _ h9 => h9) rfl (by decide +kernel) rfl rfl (Nat.le_of_ble_eq_true rfl) dX0_append_97 (fun H locs hP hD hS => ?_)
  replace hP : va_P D vwCl (cw a k (cs_mk ((cs_n (s_listFacesOf (s_app0 σ n1 x2 b3) (cs_n σ) n1)) + 1) (cs_par (s_listFacesOf (s_app0 σ n1 x2 b3) (cs_n σ) n1)) (cs_pack (s_listFacesOf (s_app0 σ n1 x2 b3) (cs_n σ) n1)) (cs_face (s_listFacesOf (s_app0 σ n1 x2 b3) (cs_n σ) n1)) (cs_abv (s_listFacesOf (s_app0 σ n1 x2 b3) (cs_n σ) n1)) (cs_fam (s_listFacesOf (s_app0 σ n1 x2 b3) (cs_n σ) n1)) (cs_fst (s_listFacesOf (s_app0 σ n1 x2 b3) (cs_n σ) n1)) (cs_fls (s_listFacesOf (s_app0 σ n1 x2 b3) (cs_n σ) n1)) (cs_own (s_listFacesOf (s_app0 σ n1 x2 b3) (cs_n σ) n1)) (cs_opt (s_listFacesOf (s_app0 σ n1 x2 b3) (cs_n σ) n1)) (cs_m (s_listFacesOf (s_app0 σ n1 x2 b3) (cs_n σ) n1)) (cs_ow (s_listFacesOf (s_app0 σ n1 x2 b3) (cs_n σ) n1)) (cs_nm (s_listFacesOf (s_app0 σ n1 x2 b3) (cs_n σ) n1)) (cs_fi (s_listFacesOf (s_app0 σ n1 x2 b3) (cs_n σ) n1)) (cs_am (s_listFacesOf (s_app0 σ n1 x2 b3) (cs_n σ) n1)) (cs_si (s_listFacesOf (s_app0 σ n1 x2 b3) (cs_n σ) n1)) (cs_ki (s_listFacesOf (s_app0 σ n1 x2 b3) (cs_n σ) n1)))) H := hP
  replace hD : va_D (ca a) (cw a k (cs_mk ((cs_n (s_listFacesOf (s_app0 σ n1 x2 b3) (cs_n σ) n1)) + 1) (cs_par (s_listFacesOf (s_app0 σ n1 x2 b3) (cs_n σ) n1)) (cs_pack (s_listFacesOf (s_app0 σ n1 x2 b3) (cs_n σ) n1)) (cs_face (s_listFacesOf (s_app0 σ n1 x2 b3) (cs_n σ) n1)) (cs_abv (s_listFacesOf (s_app0 σ n1 x2 b3) (cs_n σ) n1)) (cs_fam (s_listFacesOf (s_app0 σ n1 x2 b3) (cs_n σ) n1)) (cs_fst (s_listFacesOf (s_app0 σ n1 x2 b3) (cs_n σ) n1)) (cs_fls (s_listFacesOf (s_app0 σ n1 x2 b3) (cs_n σ) n1)) (cs_own (s_listFacesOf (s_app0 σ n1 x2 b3) (cs_n σ) n1)) (cs_opt (s_listFacesOf (s_app0 σ n1 x2 b3) (cs_n σ) n1)) (cs_m (s_listFacesOf (s_app0 σ n1 x2 b3) (cs_n σ) n1)) (cs_ow (s_listFacesOf (s_app0 σ n1 x2 b3) (cs_n σ) n1)) (cs_nm (s_listFacesOf (s_app0 σ n1 x2 b3) (cs_n σ) n1)) (cs_fi (s_listFacesOf (s_app0 σ n1 x2 b3) (cs_n σ) n1)) (cs_am (s_listFacesOf (s_app0 σ n1 x2 b3) (cs_n σ) n1)) (cs_si (s_listFacesOf (s_app0 σ n1 x2 b3) (cs_n σ) n1)) (cs_ki (s_listFacesOf (s_app0 σ n1 x2 b3) (cs_n σ) n1)))) := cw_D hinj
  refine lv_iload hx hb dX0_append_100 (lv_at hl 0 rfl) ?_
  exact W.iret (v := (nI (cs_n σ))) hx hb hr (fun t ht hW => ⟨⟨(nI (cs_n σ)), (), rfl, rfl, show va_P D vwCl (cw a k (s_append σ n1 x2 b3)) t.heap from (by rw [ht]; exact hP)⟩, hS.F ht⟩) hS.2.2 dX0_append_102
set_option maxHeartbeats 4000000 in
set_option maxRecDepth 100000 in
theorem c_J13_bitCount_95d88 (l : Launch) (D : va_G) (a : Nat → Nat) (k : Nat → ClassId) (σ : CS) (w1 : Int64) : Met l yJ13_bitCount_95d88 wsJ13_bitCount_95d88 (rmC 0 0) (cP D a k σ [.long w1]) (roQ (j_bits w1)) 0 0 (fun _ => False) := by
  refine Met.ofW (cc := cJ13_bitCount_95d88) (maxL := 2) (ret := (some .int)) (by decide) rfl ?_
  intro p e s m args below meth c s₁ B hml hv
  obtain ⟨rfl, hP, hK⟩ := hv
  have hx := B.exec
  have hb := B.bytes
  have hr := B.returns
  have hts := atoms_spec (ws := wsJ13_bitCount_95d88) B.pre
  have hown : s.vm.findClass RJ13 = some m.cls := findClass_of_methodNamed B.named
  have hlocks := B.notSynchronized
  clear B
  have hl := lv_entry ([.long w1]) (n := 2) (Nat.le_of_ble_eq_true rfl)
  rw [lg_entry_eq]
  generalize (lg_sl ([.long w1]) ++ List.replicate (2 - (lg_sl ([.long w1])).length) Slot.unset).toArray = ls at hl ⊢
  replace hl : lv_has ls 2 [(0, .long w1)] := hl
  refine gen_start (A := (fun _ => False)) (fun H locs hP hS => ?_) hP
  refine lv_lload_n hx hb dJ13_bitCount_95d88_0 rfl (lv_at hl 0 rfl) ?_
  refine lv_lload_n hx hb dJ13_bitCount_95d88_1 rfl (lv_at hl 0 rfl) ?_
  refine lv_iconst (v := (nI 1)) hx hb dJ13_bitCount_95d88_2 (by decide) ?_
  refine lv_lushr (v := (ushL w1 (nI 1))) hx hb dJ13_bitCount_95d88_3 rfl ?_
  refine lv_ldc2 (v := (6148914691236517205)) hx hb hown (hts (.constantLong RJ13 314 (6148914691236517205)) (by decide +kernel)) dJ13_bitCount_95d88_4 ?_
  refine lv_land hx hb dJ13_bitCount_95d88_7 ?_
  refine lv_lsub hx hb dJ13_bitCount_95d88_8 ?_
  refine lv_topl (fun y1 ey1 => ?_)
  replace ey1 : y1 = (bc1 w1) := ey1
  refine lv_lstore_n (lv' := [(0, .long y1)]) hx hb dJ13_bitCount_95d88_9 rfl hl (by decide) rfl (fun ls hl => ?_)
  refine lv_lload_n hx hb dJ13_bitCount_95d88_10 rfl (lv_at hl 0 rfl) ?_
  refine lv_ldc2 (v := (3689348814741910323)) hx hb hown (hts (.constantLong RJ13 316 (3689348814741910323)) (by decide +kernel)) dJ13_bitCount_95d88_11 ?_
  refine lv_land hx hb dJ13_bitCount_95d88_14 ?_
  refine lv_lload_n hx hb dJ13_bitCount_95d88_15 rfl (lv_at hl 0 rfl) ?_
  refine lv_iconst (v := (nI 2)) hx hb dJ13_bitCount_95d88_16 (by decide) ?_
  refine lv_lushr (v := (ushL y1 (nI 2))) hx hb dJ13_bitCount_95d88_17 rfl ?_
  refine lv_ldc2 (v := (3689348814741910323)) hx hb hown (hts (.constantLong RJ13 316 (3689348814741910323)) (by decide +kernel)) dJ13_bitCount_95d88_18 ?_
  refine lv_land hx hb dJ13_bitCount_95d88_21 ?_
  refine lv_ladd hx hb dJ13_bitCount_95d88_22 ?_
  refine lv_topl (fun y2 ey2 => ?_)
  replace ey2 : y2 = (bc2 y1) := ey2
  refine lv_lstore_n (lv' := [(0, .long y2)]) hx hb dJ13_bitCount_95d88_23 rfl hl (by decide) rfl (fun ls hl => ?_)
  refine lv_lload_n hx hb dJ13_bitCount_95d88_24 rfl (lv_at hl 0 rfl) ?_
  refine lv_lload_n hx hb dJ13_bitCount_95d88_25 rfl (lv_at hl 0 rfl) ?_
  refine lv_iconst (v := (nI 4)) hx hb dJ13_bitCount_95d88_26 (by decide) ?_
  refine lv_lushr (v := (ushL y2 (nI 4))) hx hb dJ13_bitCount_95d88_27 rfl ?_
  refine lv_ladd hx hb dJ13_bitCount_95d88_28 ?_
  refine lv_ldc2 (v := (1085102592571150095)) hx hb hown (hts (.constantLong RJ13 318 (1085102592571150095)) (by decide +kernel)) dJ13_bitCount_95d88_29 ?_
  refine lv_land hx hb dJ13_bitCount_95d88_32 ?_
  refine lv_topl (fun y3 ey3 => ?_)
  replace ey3 : y3 = (bc3 y2) := ey3
  refine lv_lstore_n (lv' := [(0, .long y3)]) hx hb dJ13_bitCount_95d88_33 rfl hl (by decide) rfl (fun ls hl => ?_)
  refine lv_lload_n hx hb dJ13_bitCount_95d88_34 rfl (lv_at hl 0 rfl) ?_
  refine lv_lload_n hx hb dJ13_bitCount_95d88_35 rfl (lv_at hl 0 rfl) ?_
  refine lv_bipush (v := (nI 8)) hx hb dJ13_bitCount_95d88_36 (by decide) ?_
  refine lv_lushr (v := (ushL y3 (nI 8))) hx hb dJ13_bitCount_95d88_38 rfl ?_
  refine lv_ladd hx hb dJ13_bitCount_95d88_39 ?_
  refine lv_topl (fun y4 ey4 => ?_)
  replace ey4 : y4 = (bc4 y3) := ey4
  refine lv_lstore_n (lv' := [(0, .long y4)]) hx hb dJ13_bitCount_95d88_40 rfl hl (by decide) rfl (fun ls hl => ?_)
  refine lv_lload_n hx hb dJ13_bitCount_95d88_41 rfl (lv_at hl 0 rfl) ?_
  refine lv_lload_n hx hb dJ13_bitCount_95d88_42 rfl (lv_at hl 0 rfl) ?_
  refine lv_bipush (v := (nI 16)) hx hb dJ13_bitCount_95d88_43 (by decide) ?_
  refine lv_lushr (v := (ushL y4 (nI 16))) hx hb dJ13_bitCount_95d88_45 rfl ?_
  refine lv_ladd hx hb dJ13_bitCount_95d88_46 ?_
  refine lv_topl (fun y5 ey5 => ?_)
  replace ey5 : y5 = (bc5 y4) := ey5
  refine lv_lstore_n (lv' := [(0, .long y5)]) hx hb dJ13_bitCount_95d88_47 rfl hl (by decide) rfl (fun ls hl => ?_)
  refine lv_lload_n hx hb dJ13_bitCount_95d88_48 rfl (lv_at hl 0 rfl) ?_
  refine lv_lload_n hx hb dJ13_bitCount_95d88_49 rfl (lv_at hl 0 rfl) ?_
  refine lv_bipush (v := (nI 32)) hx hb dJ13_bitCount_95d88_50 (by decide) ?_
  refine lv_lushr (v := (ushL y5 (nI 32))) hx hb dJ13_bitCount_95d88_52 rfl ?_
  refine lv_ladd hx hb dJ13_bitCount_95d88_53 ?_
  refine lv_topl (fun y6 ey6 => ?_)
  replace ey6 : y6 = (bc6 y5) := ey6
  refine lv_lstore_n (lv' := [(0, .long y6)]) hx hb dJ13_bitCount_95d88_54 rfl hl (by decide) rfl (fun ls hl => ?_)
  refine lv_lload_n hx hb dJ13_bitCount_95d88_55 rfl (lv_at hl 0 rfl) ?_
  refine lv_l2i (v := (y6).toInt32) hx hb dJ13_bitCount_95d88_56 rfl ?_
  refine lv_bipush (v := (nI 127)) hx hb dJ13_bitCount_95d88_57 (by decide) ?_
  refine lv_iand hx hb dJ13_bitCount_95d88_59 ?_
  exact W.iret (v := ((y6).toInt32 &&& (nI 127))) hx hb hr (fun t ht hW => ⟨⟨((y6).toInt32 &&& (nI 127)), (), rfl, (by rw [ey6, ey5, ey4, ey3, ey2, ey1]; rfl), trivial⟩, hS.F ht⟩) hS.2.2 dJ13_bitCount_95d88_60
set_option maxHeartbeats 4000000 in
set_option maxRecDepth 100000 in
theorem c_X0_ownAmount (l : Launch) (D : va_G) (a : Nat → Nat) (k : Nat → ClassId) (σ : CS)  : Met l yX0_ownAmount wsX0_ownAmount (rmC 1 21) (cP D a k σ [.ref (a 1)]) (roQ (j_bits (cs_own σ))) 0 0 (fun _ => False) := by
  refine Met.ofW (cc := cX0_ownAmount) (maxL := 1) (ret := (some .int)) (by decide) rfl ?_
  intro p e s m args below meth c s₁ B hml hv
  obtain ⟨rfl, hP, hK⟩ := hv
  have hx := B.exec
  have hb := B.bytes
  have hr := B.returns
  have hts := atoms_spec (ws := wsX0_ownAmount) B.pre
  have hown : s.vm.findClass RX0 = some m.cls := findClass_of_methodNamed B.named
  have hlocks := B.notSynchronized
  clear B
  have hl := lv_entry ([.ref (a 1)]) (n := 1) (Nat.le_of_ble_eq_true rfl)
  rw [lg_entry_eq]
  generalize (lg_sl ([.ref (a 1)]) ++ List.replicate (1 - (lg_sl ([.ref (a 1)])).length) Slot.unset).toArray = ls at hl ⊢
  replace hl : lv_has ls 1 [(0, .ref (a 1))] := hl
  refine gen_start (A := (fun _ => False)) (fun H locs hP hS => ?_) hP
  refine lv_aload_n hx hb dX0_ownAmount_0 rfl (lv_at hl 0 rfl) ?_
  refine va_get (D := D) (ci := 1) (v := .long (cs_own σ)) (C := RX0) (T := TX0) (N := 10) hx hb hts (by decide +kernel) hown hK.1 hP 1 rfl rfl 8 (by decide) (hts (.fieldLink RX0 39 "ChooseTree$Classes" "ownFaces" "J") (by decide +kernel)) (fun _ h9 => h9) rfl dX0_ownAmount_1 ?_
  refine va_calli (va_runS (As := [.long (cs_own σ)]) (rest := []) ⟨hx, hb, hml, hown, hts⟩ (c_J13_bitCount_95d88 l D a k σ (cs_own σ)) (va_cwS 1 hts gX0_ownAmount_J13_bitCount_95d88 rfl rfl rfl (by decide +kernel) ⟨Nat.le_of_ble_eq_true rfl, Nat.le_of_ble_eq_true rfl⟩) (cP_S hK hP) rfl rfl hl.1 rfl (lv_room (Nat.le_of_ble_eq_true rfl)) dX0_ownAmount_4 ⟨Nat.le_of_ble_eq_true rfl, Nat.le_of_ble_eq_true rfl⟩) hS (fun _ _ h => h.elim) (fun _ h => h.elim) (fun r_1 u t H1 locs ht hvm hw hB hz1 hk1 hS => ?_)
  replace hP := ro_kept hP hk1
  obtain rfl : r_1 = _ := hw
  clear hk1 hz1 hvm ht hB
  generalize H1 = H at hP hS ⊢
  exact W.iret (v := (j_bits (cs_own σ))) hx hb hr (fun t ht hW => ⟨⟨(j_bits (cs_own σ)), (), rfl, rfl, trivial⟩, hS.F ht⟩) hS.2.2 dX0_ownAmount_7
set_option maxHeartbeats 4000000 in
set_option maxRecDepth 100000 in
theorem c_X0_latestImplements (l : Launch) (D : va_G) (a : Nat → Nat) (k : Nat → ClassId) (σ : CS) (n1 : Nat) : Met l yX0_latestImplements wsX0_latestImplements (rmC 1 22) (cP D a k σ [.ref (a 1), .int (nI n1)]) (roQ (bI (s_holds (cs_own σ) n1))) 0 0 (fun _ => False) := by
  refine Met.ofW (cc := cX0_latestImplements) (maxL := 2) (ret := (some .boolean)) (by decide) rfl ?_
  intro p e s m args below meth c s₁ B hml hv
  obtain ⟨rfl, hP, hK⟩ := hv
  have hx := B.exec
  have hb := B.bytes
  have hr := B.returns
  have hts := atoms_spec (ws := wsX0_latestImplements) B.pre
  have hown : s.vm.findClass RX0 = some m.cls := findClass_of_methodNamed B.named
  have hlocks := B.notSynchronized
  clear B
  have hl := lv_entry ([.ref (a 1), .int (nI n1)]) (n := 2) (Nat.le_of_ble_eq_true rfl)
  rw [lg_entry_eq]
  generalize (lg_sl ([.ref (a 1), .int (nI n1)]) ++ List.replicate (2 - (lg_sl ([.ref (a 1), .int (nI n1)])).length) Slot.unset).toArray = ls at hl ⊢
  replace hl : lv_has ls 2 [(0, .ref (a 1)), (1, .int (nI n1))] := hl
  refine gen_start (A := (fun _ => False)) (fun H locs hP hS => ?_) hP
  refine lv_aload_n hx hb dX0_latestImplements_0 rfl (lv_at hl 0 rfl) ?_
  refine va_get (D := D) (ci := 1) (v := .long (cs_own σ)) (C := RX0) (T := TX0) (N := 10) hx hb hts (by decide +kernel) hown hK.1 hP 1 rfl rfl 8 (by decide) (hts (.fieldLink RX0 39 "ChooseTree$Classes" "ownFaces" "J") (by decide +kernel)) (fun _ h9 => h9) rfl dX0_latestImplements_1 ?_
  refine lv_iload_n hx hb dX0_latestImplements_4 rfl (lv_at hl 1 rfl) ?_
  refine va_calli (va_runSN (As := [.long (cs_own σ), .int (nI n1)]) (rest := []) ⟨hx, hb, hml, hown, hts⟩ (c_X2_holds l D a k σ (cs_own σ) n1) ⟨va_cnB 2 hts gX0_latestImplements_X2_holds_n50 rfl rfl rfl hK.2 (hts (.initialized RX2) (by decide +kernel)) (by decide +kernel) ⟨Nat.le_of_ble_eq_true rfl, Nat.le_of_ble_eq_true rfl⟩, hts (.static yX2_holds) (by decide +kernel), trivial⟩ (cP_S hK hP) rfl rfl hl.1 rfl (lv_room (Nat.le_of_ble_eq_true rfl)) dX0_latestImplements_5 ⟨Nat.le_of_ble_eq_true rfl, Nat.le_of_ble_eq_true rfl⟩) hS (fun _ _ h => h.elim) (fun _ h => h.elim) (fun r_1 u t H1 locs ht hvm hw hB hz1 hk1 hS => ?_)
  replace hP := ro_kept hP hk1
  obtain rfl : r_1 = _ := hw
  clear hk1 hz1 hvm ht hB
  generalize H1 = H at hP hS ⊢
  exact W.zret (v := (bI (s_holds (cs_own σ) n1))) hx hb hr (bI_nar _) (fun t ht hW => ⟨⟨(bI (s_holds (cs_own σ) n1)), (), rfl, rfl, trivial⟩, hS.F ht⟩) hS.2.2 dX0_latestImplements_8
set_option maxHeartbeats 4000000 in
set_option maxRecDepth 100000 in
theorem c_X0_giveFace (l : Launch) (D : va_G) (a : Nat → Nat) (k : Nat → ClassId) (σ : CS) (hinj : cInj a) (hok : cok σ) (n1 n2 : Nat) (hn1 : n1 = cs_n σ - 1) (hn2 : n2 < 60) : Met l yX0_giveFace wsX0_giveFace (rmC 3 69) (cP D a k σ [.ref (a 1), .int (nI n1), .int (nI n2)]) (wrV D a k (s_giveFace σ n1 n2)) 0 0 (ca a) := by
  refine Met.ofW (cc := cX0_giveFace) (maxL := 3) (ret := none) (by decide) rfl ?_
  intro p e s m args below meth c s₁ B hml hv
  obtain ⟨rfl, hP, hK⟩ := hv
  have hx := B.exec
  have hb := B.bytes
  have hr := B.returns
  have hts := atoms_spec (ws := wsX0_giveFace) B.pre
  have hown : s.vm.findClass RX0 = some m.cls := findClass_of_methodNamed B.named
  have hlocks := B.notSynchronized
  clear B
  have hl := lv_entry ([.ref (a 1), .int (nI n1), .int (nI n2)]) (n := 3) (Nat.le_of_ble_eq_true rfl)
  rw [lg_entry_eq]
  generalize (lg_sl ([.ref (a 1), .int (nI n1), .int (nI n2)]) ++ List.replicate (3 - (lg_sl ([.ref (a 1), .int (nI n1), .int (nI n2)])).length) Slot.unset).toArray = ls at hl ⊢
  replace hl : lv_has ls 3 [(0, .ref (a 1)), (1, .int (nI n1)), (2, .int (nI n2))] := hl
  refine gen_start (A := (ca a)) (fun H locs hP hS => ?_) hP
  have hD : va_D (ca a) (cw a k σ) := cw_D hinj
  obtain ⟨hb0, hb1, hb7, hb8⟩ := id hok
  have hc6 : n1 < 60 := by omega
  have hk0 := s_give0_bok (f := n2) hok hn1
  obtain ⟨hk1, hk2, hk3⟩ := s_give1_ok hok hn1 hn2
  have hk4 : cs_par (s_give2 (s_give1 σ n1 n2) n1) n1 < 60 := hk1.2.2.2.2.2 n1 hc6
  refine lv_aload_n hx hb dX0_giveFace_0 rfl (lv_at hl 0 rfl) ?_
  refine lv_dup hx hb dX0_giveFace_1 rfl ?_
  refine va_get (D := D) (ci := 1) (v := .long (cs_own σ)) (C := RX0) (T := TX0) (N := 10) hx hb hts (by decide +kernel) hown hK.1 hP 1 rfl rfl 8 (by decide) (hts (.fieldLink RX0 39 "ChooseTree$Classes" "ownFaces" "J") (by decide +kernel)) (fun _ h9 => h9) rfl dX0_giveFace_2 ?_
  refine lv_lconst (v := 1) hx hb dX0_giveFace_5 (by decide) ?_
  refine lv_iload_n hx hb dX0_giveFace_6 rfl (lv_at hl 2 rfl) ?_
  refine lv_lshl (v := (shlL (1 : Int64) (nI n2))) hx hb dX0_giveFace_7 rfl ?_
  refine lv_lor hx hb dX0_giveFace_8 ?_
  refine va_put (D := D) (ci := 1) (v := .long ((cs_own σ) ||| (shlL (1 : Int64) (nI n2)))) (ty := .long) (C := RX0) (T := TX0) (N := 10) hx hb hts (by decide +kernel) tyX0 tyX0_ok nmX0 hown hK.1 hP hD hS 1 rfl rfl 8 (by decide) (hts (.fieldLink RX0 39 "ChooseTree$Classes" "ownFaces" "J") (by decide +kernel)) (fun _ h9 => h9) rfl (by decide +kernel) rfl rfl (Nat.le_of_ble_eq_true rfl) dX0_giveFace_9 (fun H locs hP hD hS => ?_)
  replace hP : va_P D vwCl (cw a k (cs_mk (cs_n σ) (cs_par σ) (cs_pack σ) (cs_face σ) (cs_abv σ) (cs_fam σ) (cs_fst σ) (cs_fls σ) ((cs_own σ) ||| (shlL (1 : Int64) (nI n2))) (cs_opt σ) (cs_m σ) (cs_ow σ) (cs_nm σ) (cs_fi σ) (cs_am σ) (cs_si σ) (cs_ki σ))) H := hP
  replace hD : va_D (ca a) (cw a k (cs_mk (cs_n σ) (cs_par σ) (cs_pack σ) (cs_face σ) (cs_abv σ) (cs_fam σ) (cs_fst σ) (cs_fls σ) ((cs_own σ) ||| (shlL (1 : Int64) (nI n2))) (cs_opt σ) (cs_m σ) (cs_ow σ) (cs_nm σ) (cs_fi σ) (cs_am σ) (cs_si σ) (cs_ki σ))) := cw_D hinj
  refine lv_aload_n hx hb dX0_giveFace_12 rfl (lv_at hl 0 rfl) ?_
  refine va_get (D := D) (ci := 1) (v := .ref (a 6)) (C := RX0) (T := TX0) (N := 10) hx hb hts (by decide +kernel) hown hK.1 hP 1 rfl rfl 4 (by decide) (hts (.fieldLink RX0 26 "ChooseTree$Classes" "above" "[J") (by decide +kernel)) (fun _ h9 => h9) rfl dX0_giveFace_13 ?_
  refine lv_iload_n hx hb dX0_giveFace_16 rfl (lv_at hl 1 rfl) ?_
  refine lv_dup2_11 hx hb dX0_giveFace_17 rfl rfl ?_
  refine na_lald (D := D) hx hb hK.1 hP 6 3 rfl rfl (i := n1) (by omega) (by decide) dX0_giveFace_18 ?_
  refine lv_aload_n hx hb dX0_giveFace_19 rfl (lv_at hl 0 rfl) ?_
  refine va_get (D := D) (ci := 1) (v := .ref (a 6)) (C := RX0) (T := TX0) (N := 10) hx hb hts (by decide +kernel) hown hK.1 hP 1 rfl rfl 4 (by decide) (hts (.fieldLink RX0 26 "ChooseTree$Classes" "above" "[J") (by decide +kernel)) (fun _ h9 => h9) rfl dX0_giveFace_20 ?_
  refine lv_iload_n hx hb dX0_giveFace_23 rfl (lv_at hl 2 rfl) ?_
  refine na_lald (D := D) hx hb hK.1 hP 6 3 rfl rfl (i := n2) (by omega) (by decide) dX0_giveFace_24 ?_
  refine lv_lconst (v := 1) hx hb dX0_giveFace_25 (by decide) ?_
  refine lv_iload_n hx hb dX0_giveFace_26 rfl (lv_at hl 2 rfl) ?_
  refine lv_lshl (v := (shlL (1 : Int64) (nI n2))) hx hb dX0_giveFace_27 rfl ?_
  refine lv_lor hx hb dX0_giveFace_28 ?_
  refine lv_lor hx hb dX0_giveFace_29 ?_
  refine na_last (D := D) hx hb hK.1 hP hD hS 6 3 rfl rfl (i := n1) (by omega) (by decide) dX0_giveFace_30 (fun H locs hP hD hS => ?_)
  replace hP : va_P D vwCl (cw a k (cs_mk (cs_n σ) (cs_par σ) (cs_pack σ) (cs_face σ) (vp_updL (cs_abv σ) n1 (((cs_abv σ) n1) ||| (((cs_abv σ) n2) ||| (shlL (1 : Int64) (nI n2))))) (cs_fam σ) (cs_fst σ) (cs_fls σ) ((cs_own σ) ||| (shlL (1 : Int64) (nI n2))) (cs_opt σ) (cs_m σ) (cs_ow σ) (cs_nm σ) (cs_fi σ) (cs_am σ) (cs_si σ) (cs_ki σ))) H := hP
  replace hD : va_D (ca a) (cw a k (cs_mk (cs_n σ) (cs_par σ) (cs_pack σ) (cs_face σ) (vp_updL (cs_abv σ) n1 (((cs_abv σ) n1) ||| (((cs_abv σ) n2) ||| (shlL (1 : Int64) (nI n2))))) (cs_fam σ) (cs_fst σ) (cs_fls σ) ((cs_own σ) ||| (shlL (1 : Int64) (nI n2))) (cs_opt σ) (cs_m σ) (cs_ow σ) (cs_nm σ) (cs_fi σ) (cs_am σ) (cs_si σ) (cs_ki σ))) := cw_D hinj
  refine lv_aload_n hx hb dX0_giveFace_31 rfl (lv_at hl 0 rfl) ?_
  refine va_get (D := D) (ci := 1) (v := .ref (a 7)) (C := RX0) (T := TX0) (N := 10) hx hb hts (by decide +kernel) hown hK.1 hP 1 rfl rfl 5 (by decide) (hts (.fieldLink RX0 30 "ChooseTree$Classes" "faceAmount" "[I") (by decide +kernel)) (fun _ h9 => h9) rfl dX0_giveFace_32 ?_
  refine lv_iload_n hx hb dX0_giveFace_35 rfl (lv_at hl 1 rfl) ?_
  refine lv_aload_n hx hb dX0_giveFace_36 rfl (lv_at hl 0 rfl) ?_
  refine va_get (D := D) (ci := 1) (v := .int (nI (cs_opt σ))) (C := RX0) (T := TX0) (N := 10) hx hb hts (by decide +kernel) hown hK.1 hP 1 rfl rfl 9 (by decide) (hts (.fieldLink RX0 43 "ChooseTree$Classes" "ownPart" "I") (by decide +kernel)) (fun _ h9 => h9) rfl dX0_giveFace_37 ?_
  refine na_iastN (D := D) hx hb hK.1 hP hD hS 7 4 rfl rfl (i := n1) (v := (cs_opt σ)) (by omega) (by decide) dX0_giveFace_40 (fun H locs hP hD hS => ?_)
  replace hP : va_P D vwCl (cw a k (cs_mk (cs_n σ) (cs_par σ) (cs_pack σ) (cs_face σ) (vp_updL (cs_abv σ) n1 (((cs_abv σ) n1) ||| (((cs_abv σ) n2) ||| (shlL (1 : Int64) (nI n2))))) (va_up (cs_fam σ) n1 (cs_opt σ)) (cs_fst σ) (cs_fls σ) ((cs_own σ) ||| (shlL (1 : Int64) (nI n2))) (cs_opt σ) (cs_m σ) (cs_ow σ) (cs_nm σ) (cs_fi σ) (cs_am σ) (cs_si σ) (cs_ki σ))) H := hP
  replace hD : va_D (ca a) (cw a k (cs_mk (cs_n σ) (cs_par σ) (cs_pack σ) (cs_face σ) (vp_updL (cs_abv σ) n1 (((cs_abv σ) n1) ||| (((cs_abv σ) n2) ||| (shlL (1 : Int64) (nI n2))))) (va_up (cs_fam σ) n1 (cs_opt σ)) (cs_fst σ) (cs_fls σ) ((cs_own σ) ||| (shlL (1 : Int64) (nI n2))) (cs_opt σ) (cs_m σ) (cs_ow σ) (cs_nm σ) (cs_fi σ) (cs_am σ) (cs_si σ) (cs_ki σ))) := cw_D hinj
  replace hP : va_P D vwCl (cw a k (s_give0 σ n1 n2)) H := hP
  replace hD : va_D (ca a) (cw a k (s_give0 σ n1 n2)) := cw_D hinj
  refine lv_aload_n hx hb dX0_giveFace_41 rfl (lv_at hl 0 rfl) ?_
  refine lv_iload_n hx hb dX0_giveFace_42 rfl (lv_at hl 1 rfl) ?_
  refine lv_iload_n hx hb dX0_giveFace_43 rfl (lv_at hl 2 rfl) ?_
  refine va_callv (va_runV (As := [.int (nI n1), .int (nI n2)]) (rest := []) ⟨hx, hb, hml, hown, hts⟩ (c_X0_listFace l D a k (s_give0 σ n1 n2) hinj hk0 n1 n2 hc6) (cwV 2 hts gX0_giveFace_X0_listFace rfl rfl rfl (by decide +kernel) ⟨Nat.le_of_ble_eq_true rfl, Nat.le_of_ble_eq_true rfl⟩) (cP_V hK hP 1 1 rfl rfl) rfl rfl hl.1 rfl (lv_room (Nat.le_of_ble_eq_true rfl)) dX0_giveFace_44 ⟨Nat.le_of_ble_eq_true rfl, Nat.le_of_ble_eq_true rfl⟩) hS (fun _ _ h => h) (fun _ h => h) (fun u t H1 locs ht hvm hw hB hz1 hk1 hS => ?_)
  replace hB : va_P D vwCl (cw a k (s_listFace (s_give0 σ n1 n2) n1 n2)) t.heap := hB
  rw [ht] at hB
  clear hk1 hz1 hvm ht hP hD hw
  have hP := hB
  clear hB
  have hP : va_P D vwCl (cw a k (s_listFace (s_give0 σ n1 n2) n1 n2)) H1 := hP
  have hD : va_D (ca a) (cw a k (s_listFace (s_give0 σ n1 n2) n1 n2)) := cw_D hinj
  generalize H1 = H at hP hS ⊢
  refine lv_aload_n hx hb dX0_giveFace_47 rfl (lv_at hl 0 rfl) ?_
  refine lv_iload_n hx hb dX0_giveFace_48 rfl (lv_at hl 1 rfl) ?_
  refine lv_iload_n hx hb dX0_giveFace_49 rfl (lv_at hl 2 rfl) ?_
  refine va_callv (va_runV (As := [.int (nI n1), .int (nI n2)]) (rest := []) ⟨hx, hb, hml, hown, hts⟩ (c_X0_listFacesOf l D a k (s_listFace (s_give0 σ n1 n2) n1 n2) hinj (s_listFace_bok hk0 hc6 hn2) n1 n2 hc6 hn2) (cwV 2 hts gX0_giveFace_X0_listFacesOf rfl rfl rfl (by decide +kernel) ⟨Nat.le_of_ble_eq_true rfl, Nat.le_of_ble_eq_true rfl⟩) (cP_V hK hP 1 1 rfl rfl) rfl rfl hl.1 rfl (lv_room (Nat.le_of_ble_eq_true rfl)) dX0_giveFace_50 ⟨Nat.le_of_ble_eq_true rfl, Nat.le_of_ble_eq_true rfl⟩) hS (fun _ _ h => h) (fun _ h => h) (fun u t H1 locs ht hvm hw hB hz1 hk1 hS => ?_)
  replace hB : va_P D vwCl (cw a k (s_give1 σ n1 n2)) t.heap := hB
  rw [ht] at hB
  clear hk1 hz1 hvm ht hP hD hw
  have hP := hB
  clear hB
  have hP : va_P D vwCl (cw a k (s_give1 σ n1 n2)) H1 := hP
  have hD : va_D (ca a) (cw a k (s_give1 σ n1 n2)) := cw_D hinj
  generalize H1 = H at hP hS ⊢
  refine lv_aload_n hx hb dX0_giveFace_53 rfl (lv_at hl 0 rfl) ?_
  refine lv_aload_n hx hb dX0_giveFace_54 rfl (lv_at hl 0 rfl) ?_
  refine va_get (D := D) (ci := 1) (v := .ref (a 7)) (C := RX0) (T := TX0) (N := 10) hx hb hts (by decide +kernel) hown hK.1 hP 1 rfl rfl 5 (by decide) (hts (.fieldLink RX0 30 "ChooseTree$Classes" "faceAmount" "[I") (by decide +kernel)) (fun _ h9 => h9) rfl dX0_giveFace_55 ?_
  refine lv_iload_n hx hb dX0_giveFace_58 rfl (lv_at hl 1 rfl) ?_
  refine na_iald (D := D) hx hb hK.1 hP 7 4 rfl rfl (i := n1) (by omega) (by decide) dX0_giveFace_59 ?_
  refine va_put (D := D) (ci := 1) (v := .int (nI ((cs_fam (s_give1 σ n1 n2)) n1))) (ty := .int) (C := RX0) (T := TX0) (N := 10) hx hb hts (by decide +kernel) tyX0 tyX0_ok nmX0 hown hK.1 hP hD hS 1 rfl rfl 9 (by decide) (hts (.fieldLink RX0 43 "ChooseTree$Classes" "ownPart" "I") (by decide +kernel)) (fun _ h9 => h9) rfl (by decide +kernel) rfl rfl (Nat.le_of_ble_eq_true rfl) dX0_giveFace_60 (fun H locs hP hD hS => ?_)
  replace hP : va_P D vwCl (cw a k (cs_mk (cs_n (s_give1 σ n1 n2)) (cs_par (s_give1 σ n1 n2)) (cs_pack (s_give1 σ n1 n2)) (cs_face (s_give1 σ n1 n2)) (cs_abv (s_give1 σ n1 n2)) (cs_fam (s_give1 σ n1 n2)) (cs_fst (s_give1 σ n1 n2)) (cs_fls (s_give1 σ n1 n2)) (cs_own (s_give1 σ n1 n2)) ((cs_fam (s_give1 σ n1 n2)) n1) (cs_m (s_give1 σ n1 n2)) (cs_ow (s_give1 σ n1 n2)) (cs_nm (s_give1 σ n1 n2)) (cs_fi (s_give1 σ n1 n2)) (cs_am (s_give1 σ n1 n2)) (cs_si (s_give1 σ n1 n2)) (cs_ki (s_give1 σ n1 n2)))) H := hP
  replace hD : va_D (ca a) (cw a k (cs_mk (cs_n (s_give1 σ n1 n2)) (cs_par (s_give1 σ n1 n2)) (cs_pack (s_give1 σ n1 n2)) (cs_face (s_give1 σ n1 n2)) (cs_abv (s_give1 σ n1 n2)) (cs_fam (s_give1 σ n1 n2)) (cs_fst (s_give1 σ n1 n2)) (cs_fls (s_give1 σ n1 n2)) (cs_own (s_give1 σ n1 n2)) ((cs_fam (s_give1 σ n1 n2)) n1) (cs_m (s_give1 σ n1 n2)) (cs_ow (s_give1 σ n1 n2)) (cs_nm (s_give1 σ n1 n2)) (cs_fi (s_give1 σ n1 n2)) (cs_am (s_give1 σ n1 n2)) (cs_si (s_give1 σ n1 n2)) (cs_ki (s_give1 σ n1 n2)))) := cw_D hinj
  replace hP : va_P D vwCl (cw a k (s_give2 (s_give1 σ n1 n2) n1)) H := hP
  replace hD : va_D (ca a) (cw a k (s_give2 (s_give1 σ n1 n2) n1)) := cw_D hinj
  refine lv_aload_n hx hb dX0_giveFace_63 rfl (lv_at hl 0 rfl) ?_
  refine lv_iload_n hx hb dX0_giveFace_64 rfl (lv_at hl 1 rfl) ?_
  refine lv_aload_n hx hb dX0_giveFace_65 rfl (lv_at hl 0 rfl) ?_
  refine va_get (D := D) (ci := 1) (v := .ref (a 3)) (C := RX0) (T := TX0) (N := 10) hx hb hts (by decide +kernel) hown hK.1 hP 1 rfl rfl 1 (by decide) (hts (.fieldLink RX0 15 "ChooseTree$Classes" "parent" "[I") (by decide +kernel)) (fun _ h9 => h9) rfl dX0_giveFace_66 ?_
  refine lv_iload_n hx hb dX0_giveFace_69 rfl (lv_at hl 1 rfl) ?_
  refine na_iald (D := D) hx hb hK.1 hP 3 0 rfl rfl (i := n1) (by omega) (by decide) dX0_giveFace_70 ?_
  refine va_callv (va_runV (As := [.int (nI n1), .int (nI ((cs_par (s_give2 (s_give1 σ n1 n2) n1)) n1))]) (rest := []) ⟨hx, hb, hml, hown, hts⟩ (c_X0_listFacesOf l D a k (s_give2 (s_give1 σ n1 n2) n1) hinj (s_give2_bok hk1 n1) n1 (cs_par (s_give2 (s_give1 σ n1 n2) n1) n1) hc6 hk4) (cwV 2 hts gX0_giveFace_X0_listFacesOf rfl rfl rfl (by decide +kernel) ⟨Nat.le_of_ble_eq_true rfl, Nat.le_of_ble_eq_true rfl⟩) (cP_V hK hP 1 1 rfl rfl) rfl rfl hl.1 rfl (lv_room (Nat.le_of_ble_eq_true rfl)) dX0_giveFace_71 ⟨Nat.le_of_ble_eq_true rfl, Nat.le_of_ble_eq_true rfl⟩) hS (fun _ _ h => h) (fun _ h => h) (fun u t H1 locs ht hvm hw hB hz1 hk1 hS => ?_)
  replace hB : va_P D vwCl (cw a k (s_giveFace σ n1 n2)) t.heap := hB
  rw [ht] at hB
  clear hk1 hz1 hvm ht hP hD hw
  have hP := hB
  clear hB
  have hP : va_P D vwCl (cw a k (s_giveFace σ n1 n2)) H1 := hP
  have hD : va_D (ca a) (cw a k (s_giveFace σ n1 n2)) := cw_D hinj
  generalize H1 = H at hP hS ⊢
  exact W.vret hx hb hr (fun t ht hW => ⟨⟨(), rfl, trivial, show va_P D vwCl (cw a k (s_giveFace σ n1 n2)) t.heap from (by rw [ht]; exact hP)⟩, hS.F ht⟩) hS.2.2 dX0_giveFace_74
end
section
theorem kpred (n : Nat) : nI (n + 1) - nI 1 = nI n := nI_pred n
theorem kdec (n : Nat) : nI n + Int32.ofInt (-1) = nI n - nI 1 := by
  show nI n + (-1) = nI n - 1
  rw [Int32.sub_eq_add_neg]
/-! what the class's own methods answer -/
def s_fits (x y f : Int32) : Bool := !decide (x < 0) && (!decide (nI 3 < x) && (!decide (y < 0) && (decide (y ≤ nI 4) && (if f = 0 then (!decide (y = nI 4) || !decide (x = nI 3)) else (decide (x = nI 1) && (decide (y = 0) || decide (y = nI 4)))))))
def s_isBelow (σ : CS) (x y : Int32) : Bool := s_exists σ x && (s_exists σ y && (decide (x = y) || s_below σ x.toNatClampNeg y.toNatClampNeg))
def s_faceI (σ : CS) (x y : Int32) : Int32 := if s_exists σ x = true ∧ ¬ y < 0 ∧ y < nI (cs_fam σ x.toNatClampNeg) then nI (s_faceAt σ x.toNatClampNeg y.toNatClampNeg) else -1
def r_could (σ : CS) (a b : Nat) : Bool := !decide (nI a = nI b) && (decide (cs_nm σ a = cs_nm σ b) && (m_virtual σ a && m_virtual σ b))
def r_between (σ : CS) (fr g : Nat) (x : Int32) : Nat → Bool
  | 0 => false
  | n + 1 => if s_inRow σ fr n = true then (if nI n = nI g then false else if ¬ m_inClass σ n x = -1 ∧ cs_pack σ n = cs_pack σ g ∧ m_virtual σ (m_inClass σ n x).toNatClampNeg = true ∧ m_pp σ (m_inClass σ n x).toNatClampNeg = true then true else r_between σ fr g x n) else r_between σ fr g x n
def r_bw (σ : CS) (a b : Nat) : Bool := r_between σ (cs_ow σ a) (cs_ow σ b) (cs_nm σ a) (cs_ow σ a)
def r_repl (σ : CS) (a b : Nat) : Bool := r_could σ a b && (m_pp σ b || (decide (cs_pack σ (cs_ow σ a) = cs_pack σ (cs_ow σ b)) || r_bw σ a b))
def s_overrides (σ : CS) (x y : Int32) : Bool := m_exists σ x && (m_exists σ y && r_repl σ x.toNatClampNeg y.toNatClampNeg)
def r_fin (σ : CS) (m : Nat) : Nat → Bool
  | 0 => false
  | n + 1 => if s_inRow σ (cs_ow σ m) n = true ∧ ¬ m_inClass σ n (cs_nm σ m) = -1 ∧ m_final σ (m_inClass σ n (cs_nm σ m)).toNatClampNeg = true ∧ r_repl σ m (m_inClass σ n (cs_nm σ m)).toNatClampNeg = true then true else r_fin σ m n
def r_final (σ : CS) (m : Nat) : Bool := r_fin σ m (cs_ow σ m)
def r_brk (σ : CS) : Nat → Nat → Int32
  | 0, _ => -1
  | n + 1, i => if r_final σ i = true then nI i else r_brk σ n (i + 1)
def s_broken (σ : CS) (x : Int32) : Int32 := if s_exists σ x = true then r_brk σ (cs_am σ x.toNatClampNeg) (cs_fi σ x.toNatClampNeg) else -1
def r_from (σ : CS) (x m : Nat) : Bool := s_below σ (cs_ow σ x) (cs_ow σ m) && r_repl σ x m
def r_plain (σ : CS) (m x : Nat) : Bool := decide (cs_face σ (cs_ow σ x) = 0) && r_repl σ m x
def r_kin (σ : CS) (m : Nat) : Nat → Nat → Nat → Nat
  | 0, _, k => k
  | n + 1, i, k => if r_from σ i m = true ∨ r_plain σ m i = true then r_kin σ m n (i + 1) (k + 1) else r_kin σ m n (i + 1) k
def s_kin (σ : CS) (x : Int32) : Int32 := if m_exists σ x = true then nI (r_kin σ x.toNatClampNeg (cs_m σ) 0 0) else -1
def a_add (σ : CS) (x y z : Int32) : Int32 × CS := if s_isPlain σ x = true then (if ¬ y < 0 ∧ ¬ nI 10 ≤ y ∧ ¬ z < 0 ∧ ¬ nI 1 < z ∧ (z = nI 1 → x = 0) then (if nI (cs_n σ) < nI 60 then (nI (cs_n σ), s_append σ x.toNatClampNeg y (decide (z = nI 1))) else (-12, σ)) else (-1, σ)) else (-14, σ)
def a_impl (σ : CS) (x y : Int32) : Int32 × CS := if s_isLatest σ x = true ∧ ¬ y = x ∧ s_isFace σ y = true then (if s_holds (cs_own σ) y.toNatClampNeg = false ∧ nI (cs_am σ (cs_n σ - 1)) ≤ 0 then (if j_bits (cs_own σ) < nI 20 then (j_bits (cs_own (s_giveFace σ (cs_n σ - 1) y.toNatClampNeg)), s_giveFace σ (cs_n σ - 1) y.toNatClampNeg) else (-12, σ)) else (-1, σ)) else (-14, σ)
def a_meth (σ : CS) (x y z w : Int32) : Int32 × CS := if s_isLatest σ x = true ∧ ¬ x = 0 then (if ¬ y < 0 ∧ ¬ nI 32 ≤ y ∧ s_fits z w (cs_face σ (cs_n σ - 1)) = true then (if m_inClass σ (cs_n σ - 1) y = -1 then (if nI (cs_m σ) < nI 400 then (nI (cs_m σ), m_append σ (cs_n σ - 1) y z w) else (-12, σ)) else (-1, σ)) else (-1, σ)) else (-14, σ)
theorem s_isPlain_of {σ : CS} (hok : cok σ) {x : Int32} (h : s_isPlain σ x = true) : ∃ j : Nat, j < cs_n σ ∧ x = nI j := s_exists_of hok (by unfold s_isPlain at h; simp only [Bool.and_eq_true] at h; exact h.1)
theorem s_isFace_of {σ : CS} (hok : cok σ) {x : Int32} (h : s_isFace σ x = true) : ∃ j : Nat, j < cs_n σ ∧ x = nI j := s_exists_of hok (by unfold s_isFace at h; simp only [Bool.and_eq_true] at h; exact h.1)
theorem s_isLatest_of {σ : CS} (hok : cok σ) {x : Int32} (h : s_isLatest σ x = true) : x = nI (cs_n σ - 1) := by
  have h1 : x = nI (cs_n σ) - nI 1 := of_decide_eq_true h
  rw [h1, pk_sub hok.1.1]
end
section
set_option maxHeartbeats 4000000 in
set_option maxRecDepth 100000 in
theorem c_X2_fits (l : Launch) (D : va_G) (a : Nat → Nat) (k : Nat → ClassId) (σ : CS) (x1 x2 x3 : Int32) : Met l yX2_fits wsX2_fits (rmC 0 0) (cP D a k σ [.int x1, .int x2, .int x3]) (roQ (bI (s_fits x1 x2 x3))) 0 0 (fun _ => False) := by
  refine Met.ofW (cc := cX2_fits) (maxL := 3) (ret := (some .boolean)) (by decide) rfl ?_
  intro p e s m args below meth c s₁ B hml hv
  obtain ⟨rfl, hP, hK⟩ := hv
  have hx := B.exec
  have hb := B.bytes
  have hr := B.returns
  have hts := atoms_spec (ws := wsX2_fits) B.pre
  have hown : s.vm.findClass RX2 = some m.cls := findClass_of_methodNamed B.named
  have hlocks := B.notSynchronized
  clear B
  have hl := lv_entry ([.int x1, .int x2, .int x3]) (n := 3) (Nat.le_of_ble_eq_true rfl)
  rw [lg_entry_eq]
  generalize (lg_sl ([.int x1, .int x2, .int x3]) ++ List.replicate (3 - (lg_sl ([.int x1, .int x2, .int x3])).length) Slot.unset).toArray = ls at hl ⊢
  replace hl : lv_has ls 3 [(0, .int x1), (1, .int x2), (2, .int x3)] := hl
  refine gen_start (A := (fun _ => False)) (fun H locs hP hS => ?_) hP
  refine lv_iload_n hx hb dX2_fits_0 rfl (lv_at hl 0 rfl) ?_
  refine lv_if_lt (tgt := 18) hx hb dX2_fits_1 (by decide) (fun c_1 => ?_) (fun c_1 => ?_)
  · refine lv_iconst (v := (nI 0)) hx hb dX2_fits_18 (by decide) ?_
    exact W.zret (v := (nI 0)) hx hb hr rfl (fun t ht hW => ⟨⟨(nI 0), (), rfl, (by first | (simp [s_fits, bI, c_1]; done) | (simp [s_fits, bI, c_1]; decide)), trivial⟩, hS.F ht⟩) hS.2.2 dX2_fits_19
  · refine lv_iload_n hx hb dX2_fits_4 rfl (lv_at hl 0 rfl) ?_
    refine lv_iconst (v := (nI 3)) hx hb dX2_fits_5 (by decide) ?_
    refine lv_icmp_gt (tgt := 18) hx hb dX2_fits_6 (by decide) (fun c_2 => ?_) (fun c_2 => ?_)
    · refine lv_iconst (v := (nI 0)) hx hb dX2_fits_18 (by decide) ?_
      exact W.zret (v := (nI 0)) hx hb hr rfl (fun t ht hW => ⟨⟨(nI 0), (), rfl, (by first | (simp [s_fits, bI, c_1, c_2]; done) | (simp [s_fits, bI, c_1, c_2]; decide)), trivial⟩, hS.F ht⟩) hS.2.2 dX2_fits_19
    · refine lv_iload_n hx hb dX2_fits_9 rfl (lv_at hl 1 rfl) ?_
      refine lv_if_lt (tgt := 18) hx hb dX2_fits_10 (by decide) (fun c_3 => ?_) (fun c_3 => ?_)
      · refine lv_iconst (v := (nI 0)) hx hb dX2_fits_18 (by decide) ?_
        exact W.zret (v := (nI 0)) hx hb hr rfl (fun t ht hW => ⟨⟨(nI 0), (), rfl, (by first | (simp [s_fits, bI, c_1, c_2, c_3]; done) | (simp [s_fits, bI, c_1, c_2, c_3]; decide)), trivial⟩, hS.F ht⟩) hS.2.2 dX2_fits_19
      · refine lv_iload_n hx hb dX2_fits_13 rfl (lv_at hl 1 rfl) ?_
        refine lv_iconst (v := (nI 4)) hx hb dX2_fits_14 (by decide) ?_
        refine lv_icmp_le (tgt := 20) hx hb dX2_fits_15 (by decide) (fun c_4 => ?_) (fun c_4 => ?_)
        · refine lv_iload_n hx hb dX2_fits_20 rfl (lv_at hl 2 rfl) ?_
          refine lv_if_eq (tgt := 44) hx hb dX2_fits_21 (by decide) (fun c_5 => ?_) (fun c_5 => ?_)
          · refine lv_iload_n hx hb dX2_fits_44 rfl (lv_at hl 1 rfl) ?_
            refine lv_iconst (v := (nI 4)) hx hb dX2_fits_45 (by decide) ?_
            refine lv_icmp_ne (tgt := 54) hx hb dX2_fits_46 (by decide) (fun c_6 => ?_) (fun c_6 => ?_)
            · refine lv_iconst (v := (nI 1)) hx hb dX2_fits_54 (by decide) ?_
              refine lv_goto (tgt := 59) hx hb dX2_fits_55 (by decide) ?_
              exact W.zret (v := (nI 1)) hx hb hr rfl (fun t ht hW => ⟨⟨(nI 1), (), rfl, (by first | (simp [s_fits, bI, c_1, c_2, c_3, c_4, c_5, c_6]; done) | (simp [s_fits, bI, c_1, c_2, c_3, c_4, c_5, c_6]; decide)), trivial⟩, hS.F ht⟩) hS.2.2 dX2_fits_59
            · refine lv_iload_n hx hb dX2_fits_49 rfl (lv_at hl 0 rfl) ?_
              refine lv_iconst (v := (nI 3)) hx hb dX2_fits_50 (by decide) ?_
              refine lv_icmp_eq (tgt := 58) hx hb dX2_fits_51 (by decide) (fun c_7 => ?_) (fun c_7 => ?_)
              · refine lv_iconst (v := (nI 0)) hx hb dX2_fits_58 (by decide) ?_
                exact W.zret (v := (nI 0)) hx hb hr rfl (fun t ht hW => ⟨⟨(nI 0), (), rfl, (by first | (simp [s_fits, bI, c_1, c_2, c_3, c_4, c_5, c_6, c_7]; done) | (simp [s_fits, bI, c_1, c_2, c_3, c_4, c_5, c_6, c_7]; decide)), trivial⟩, hS.F ht⟩) hS.2.2 dX2_fits_59
              · refine lv_iconst (v := (nI 1)) hx hb dX2_fits_54 (by decide) ?_
                refine lv_goto (tgt := 59) hx hb dX2_fits_55 (by decide) ?_
                exact W.zret (v := (nI 1)) hx hb hr rfl (fun t ht hW => ⟨⟨(nI 1), (), rfl, (by first | (simp [s_fits, bI, c_1, c_2, c_3, c_4, c_5, c_6, c_7]; done) | (simp [s_fits, bI, c_1, c_2, c_3, c_4, c_5, c_6, c_7]; decide)), trivial⟩, hS.F ht⟩) hS.2.2 dX2_fits_59
          · refine lv_iload_n hx hb dX2_fits_24 rfl (lv_at hl 0 rfl) ?_
            refine lv_iconst (v := (nI 1)) hx hb dX2_fits_25 (by decide) ?_
            refine lv_icmp_ne (tgt := 42) hx hb dX2_fits_26 (by decide) (fun c_8 => ?_) (fun c_8 => ?_)
            · refine lv_iconst (v := (nI 0)) hx hb dX2_fits_42 (by decide) ?_
              exact W.zret (v := (nI 0)) hx hb hr rfl (fun t ht hW => ⟨⟨(nI 0), (), rfl, (by first | (simp [s_fits, bI, c_1, c_2, c_3, c_4, c_5, c_8]; done) | (simp [s_fits, bI, c_1, c_2, c_3, c_4, c_5, c_8]; decide)), trivial⟩, hS.F ht⟩) hS.2.2 dX2_fits_43
            · refine lv_iload_n hx hb dX2_fits_29 rfl (lv_at hl 1 rfl) ?_
              refine lv_if_eq (tgt := 38) hx hb dX2_fits_30 (by decide) (fun c_9 => ?_) (fun c_9 => ?_)
              · refine lv_iconst (v := (nI 1)) hx hb dX2_fits_38 (by decide) ?_
                refine lv_goto (tgt := 43) hx hb dX2_fits_39 (by decide) ?_
                exact W.zret (v := (nI 1)) hx hb hr rfl (fun t ht hW => ⟨⟨(nI 1), (), rfl, (by first | (simp [s_fits, bI, c_1, c_2, c_3, c_4, c_5, c_8, c_9]; done) | (simp [s_fits, bI, c_1, c_2, c_3, c_4, c_5, c_8, c_9]; decide)), trivial⟩, hS.F ht⟩) hS.2.2 dX2_fits_43
              · refine lv_iload_n hx hb dX2_fits_33 rfl (lv_at hl 1 rfl) ?_
                refine lv_iconst (v := (nI 4)) hx hb dX2_fits_34 (by decide) ?_
                refine lv_icmp_ne (tgt := 42) hx hb dX2_fits_35 (by decide) (fun c_10 => ?_) (fun c_10 => ?_)
                · refine lv_iconst (v := (nI 0)) hx hb dX2_fits_42 (by decide) ?_
                  exact W.zret (v := (nI 0)) hx hb hr rfl (fun t ht hW => ⟨⟨(nI 0), (), rfl, (by first | (simp [s_fits, bI, c_1, c_2, c_3, c_4, c_5, c_8, c_9, c_10]; done) | (simp [s_fits, bI, c_1, c_2, c_3, c_4, c_5, c_8, c_9, c_10]; decide)), trivial⟩, hS.F ht⟩) hS.2.2 dX2_fits_43
                · refine lv_iconst (v := (nI 1)) hx hb dX2_fits_38 (by decide) ?_
                  refine lv_goto (tgt := 43) hx hb dX2_fits_39 (by decide) ?_
                  exact W.zret (v := (nI 1)) hx hb hr rfl (fun t ht hW => ⟨⟨(nI 1), (), rfl, (by first | (simp [s_fits, bI, c_1, c_2, c_3, c_4, c_5, c_8, c_9, c_10]; done) | (simp [s_fits, bI, c_1, c_2, c_3, c_4, c_5, c_8, c_9, c_10]; decide)), trivial⟩, hS.F ht⟩) hS.2.2 dX2_fits_43
        · refine lv_iconst (v := (nI 0)) hx hb dX2_fits_18 (by decide) ?_
          exact W.zret (v := (nI 0)) hx hb hr rfl (fun t ht hW => ⟨⟨(nI 0), (), rfl, (by first | (simp [s_fits, bI, c_1, c_2, c_3, c_4]; done) | (simp [s_fits, bI, c_1, c_2, c_3, c_4]; decide)), trivial⟩, hS.F ht⟩) hS.2.2 dX2_fits_19
set_option maxHeartbeats 4000000 in
set_option maxRecDepth 100000 in
theorem c_X2_isBelow (l : Launch) (D : va_G) (a : Nat → Nat) (k : Nat → ClassId) (σ : CS) (hok : cok σ) (x1 x2 : Int32) : Met l yX2_isBelow wsX2_isBelow (rmC 2 44) (cP D a k σ [.ref (a 0), .int x1, .int x2]) (roQ (bI (s_isBelow σ x1 x2))) 0 0 (fun _ => False) := by
  refine Met.ofW (cc := cX2_isBelow) (maxL := 3) (ret := (some .boolean)) (by decide) rfl ?_
  intro p e s m args below meth c s₁ B hml hv
  obtain ⟨rfl, hP, hK⟩ := hv
  have hx := B.exec
  have hb := B.bytes
  have hr := B.returns
  have hts := atoms_spec (ws := wsX2_isBelow) B.pre
  have hown : s.vm.findClass RX2 = some m.cls := findClass_of_methodNamed B.named
  have hlocks := B.notSynchronized
  clear B
  have hl := lv_entry ([.ref (a 0), .int x1, .int x2]) (n := 3) (Nat.le_of_ble_eq_true rfl)
  rw [lg_entry_eq]
  generalize (lg_sl ([.ref (a 0), .int x1, .int x2]) ++ List.replicate (3 - (lg_sl ([.ref (a 0), .int x1, .int x2])).length) Slot.unset).toArray = ls at hl ⊢
  replace hl : lv_has ls 3 [(0, .ref (a 0)), (1, .int x1), (2, .int x2)] := hl
  refine gen_start (A := (fun _ => False)) (fun H locs hP hS => ?_) hP
  obtain ⟨hb0, ⟨hb1, hb2, hb3, hb4, hb5, hb6⟩, hb7, hb8⟩ := id hok
  refine lv_aload_n hx hb dX2_isBelow_0 rfl (lv_at hl 0 rfl) ?_
  refine va_get (D := D) (ci := 3) (v := .ref (a 1)) (C := RX2) (T := TX2) (N := 2) hx hb hts (by decide +kernel) hown hK.1 hP 0 rfl rfl 0 (by decide) (hts (.fieldLink RX2 10 "ChooseTree" "classes" "LChooseTree$Classes;") (by decide +kernel)) (fun _ h9 => h9) rfl dX2_isBelow_1 ?_
  refine lv_iload_n hx hb dX2_isBelow_4 rfl (lv_at hl 1 rfl) ?_
  refine va_calli (va_runV (As := [.int x1]) (rest := []) ⟨hx, hb, hml, hown, hts⟩ (c_X0_exists l D a k σ x1) (cwV 1 hts gX2_isBelow_X0_exists rfl rfl rfl (by decide +kernel) ⟨Nat.le_of_ble_eq_true rfl, Nat.le_of_ble_eq_true rfl⟩) (cP_V hK hP 1 1 rfl rfl) rfl rfl hl.1 rfl (lv_room (Nat.le_of_ble_eq_true rfl)) dX2_isBelow_5 ⟨Nat.le_of_ble_eq_true rfl, Nat.le_of_ble_eq_true rfl⟩) hS (fun _ _ h => h.elim) (fun _ h => h.elim) (fun r_1 u t H1 locs ht hvm hw hB hz1 hk1 hS => ?_)
  replace hP := ro_kept hP hk1
  obtain rfl : r_1 = _ := hw
  clear hk1 hz1 hvm ht hB
  generalize H1 = H at hP hS ⊢
  refine lv_if_eq (tgt := 43) hx hb dX2_isBelow_8 (by decide) (fun c_2 => ?_) (fun c_2 => ?_)
  · replace c_2 := bI_0.mp c_2
    refine lv_iconst (v := (nI 0)) hx hb dX2_isBelow_43 (by decide) ?_
    exact W.zret (v := (nI 0)) hx hb hr rfl (fun t ht hW => ⟨⟨(nI 0), (), rfl, (by simp [s_isBelow, bI, c_2]), trivial⟩, hS.F ht⟩) hS.2.2 dX2_isBelow_44
  · replace c_2 := bI_n0.mp c_2
    obtain ⟨j1, hj1, ej1⟩ := s_exists_of hok c_2
    subst ej1
    have hclj1 := nI_clamp (n := j1) (by omega)
    refine lv_aload_n hx hb dX2_isBelow_11 rfl (lv_at hl 0 rfl) ?_
    refine va_get (D := D) (ci := 3) (v := .ref (a 1)) (C := RX2) (T := TX2) (N := 2) hx hb hts (by decide +kernel) hown hK.1 hP 0 rfl rfl 0 (by decide) (hts (.fieldLink RX2 10 "ChooseTree" "classes" "LChooseTree$Classes;") (by decide +kernel)) (fun _ h9 => h9) rfl dX2_isBelow_12 ?_
    refine lv_iload_n hx hb dX2_isBelow_15 rfl (lv_at hl 2 rfl) ?_
    refine va_calli (va_runV (As := [.int x2]) (rest := []) ⟨hx, hb, hml, hown, hts⟩ (c_X0_exists l D a k σ x2) (cwV 1 hts gX2_isBelow_X0_exists rfl rfl rfl (by decide +kernel) ⟨Nat.le_of_ble_eq_true rfl, Nat.le_of_ble_eq_true rfl⟩) (cP_V hK hP 1 1 rfl rfl) rfl rfl hl.1 rfl (lv_room (Nat.le_of_ble_eq_true rfl)) dX2_isBelow_16 ⟨Nat.le_of_ble_eq_true rfl, Nat.le_of_ble_eq_true rfl⟩) hS (fun _ _ h => h.elim) (fun _ h => h.elim) (fun r_3 u t H1 locs ht hvm hw hB hz1 hk1 hS => ?_)
    replace hP := ro_kept hP hk1
    obtain rfl : r_3 = _ := hw
    clear hk1 hz1 hvm ht hB
    generalize H1 = H at hP hS ⊢
    refine lv_if_eq (tgt := 43) hx hb dX2_isBelow_19 (by decide) (fun c_4 => ?_) (fun c_4 => ?_)
    · replace c_4 := bI_0.mp c_4
      refine lv_iconst (v := (nI 0)) hx hb dX2_isBelow_43 (by decide) ?_
      exact W.zret (v := (nI 0)) hx hb hr rfl (fun t ht hW => ⟨⟨(nI 0), (), rfl, (by simp [s_isBelow, bI, c_2, hclj1, c_4]), trivial⟩, hS.F ht⟩) hS.2.2 dX2_isBelow_44
    · replace c_4 := bI_n0.mp c_4
      obtain ⟨j2, hj2, ej2⟩ := s_exists_of hok c_4
      subst ej2
      have hclj2 := nI_clamp (n := j2) (by omega)
      refine lv_iload_n hx hb dX2_isBelow_22 rfl (lv_at hl 1 rfl) ?_
      refine lv_iload_n hx hb dX2_isBelow_23 rfl (lv_at hl 2 rfl) ?_
      refine lv_icmp_eq (tgt := 39) hx hb dX2_isBelow_24 (by decide) (fun c_5 => ?_) (fun c_5 => ?_)
      · refine lv_iconst (v := (nI 1)) hx hb dX2_isBelow_39 (by decide) ?_
        refine lv_goto (tgt := 44) hx hb dX2_isBelow_40 (by decide) ?_
        exact W.zret (v := (nI 1)) hx hb hr rfl (fun t ht hW => ⟨⟨(nI 1), (), rfl, (by simp [s_isBelow, bI, c_2, hclj1, c_4, hclj2, c_5]), trivial⟩, hS.F ht⟩) hS.2.2 dX2_isBelow_44
      · refine lv_aload_n hx hb dX2_isBelow_27 rfl (lv_at hl 0 rfl) ?_
        refine va_get (D := D) (ci := 3) (v := .ref (a 1)) (C := RX2) (T := TX2) (N := 2) hx hb hts (by decide +kernel) hown hK.1 hP 0 rfl rfl 0 (by decide) (hts (.fieldLink RX2 10 "ChooseTree" "classes" "LChooseTree$Classes;") (by decide +kernel)) (fun _ h9 => h9) rfl dX2_isBelow_28 ?_
        refine lv_iload_n hx hb dX2_isBelow_31 rfl (lv_at hl 1 rfl) ?_
        refine lv_iload_n hx hb dX2_isBelow_32 rfl (lv_at hl 2 rfl) ?_
        refine va_calli (va_runV (As := [.int (nI j1), .int (nI j2)]) (rest := []) ⟨hx, hb, hml, hown, hts⟩ (c_X0_below l D a k σ j1 j2 (by omega)) (cwV 2 hts gX2_isBelow_X0_below rfl rfl rfl (by decide +kernel) ⟨Nat.le_of_ble_eq_true rfl, Nat.le_of_ble_eq_true rfl⟩) (cP_V hK hP 1 1 rfl rfl) rfl rfl hl.1 rfl (lv_room (Nat.le_of_ble_eq_true rfl)) dX2_isBelow_33 ⟨Nat.le_of_ble_eq_true rfl, Nat.le_of_ble_eq_true rfl⟩) hS (fun _ _ h => h.elim) (fun _ h => h.elim) (fun r_6 u t H1 locs ht hvm hw hB hz1 hk1 hS => ?_)
        replace hP := ro_kept hP hk1
        obtain rfl : r_6 = _ := hw
        clear hk1 hz1 hvm ht hB
        generalize H1 = H at hP hS ⊢
        refine lv_if_eq (tgt := 43) hx hb dX2_isBelow_36 (by decide) (fun c_7 => ?_) (fun c_7 => ?_)
        · replace c_7 := bI_0.mp c_7
          refine lv_iconst (v := (nI 0)) hx hb dX2_isBelow_43 (by decide) ?_
          exact W.zret (v := (nI 0)) hx hb hr rfl (fun t ht hW => ⟨⟨(nI 0), (), rfl, (by simp [s_isBelow, bI, c_2, hclj1, c_4, hclj2, c_5, c_7]), trivial⟩, hS.F ht⟩) hS.2.2 dX2_isBelow_44
        · replace c_7 := bI_n0.mp c_7
          refine lv_iconst (v := (nI 1)) hx hb dX2_isBelow_39 (by decide) ?_
          refine lv_goto (tgt := 44) hx hb dX2_isBelow_40 (by decide) ?_
          exact W.zret (v := (nI 1)) hx hb hr rfl (fun t ht hW => ⟨⟨(nI 1), (), rfl, (by simp [s_isBelow, bI, c_2, hclj1, c_4, hclj2, c_5, c_7]), trivial⟩, hS.F ht⟩) hS.2.2 dX2_isBelow_44
set_option maxHeartbeats 4000000 in
set_option maxRecDepth 100000 in
theorem c_X2_face (l : Launch) (D : va_G) (a : Nat → Nat) (k : Nat → ClassId) (σ : CS) (hok : cok σ) (x1 x2 : Int32) : Met l yX2_face wsX2_face (rmC 1 22) (cP D a k σ [.ref (a 0), .int x1, .int x2]) (roQ (s_faceI σ x1 x2)) 0 0 (fun _ => False) := by
  refine Met.ofW (cc := cX2_face) (maxL := 3) (ret := (some .int)) (by decide) rfl ?_
  intro p e s m args below meth c s₁ B hml hv
  obtain ⟨rfl, hP, hK⟩ := hv
  have hx := B.exec
  have hb := B.bytes
  have hr := B.returns
  have hts := atoms_spec (ws := wsX2_face) B.pre
  have hown : s.vm.findClass RX2 = some m.cls := findClass_of_methodNamed B.named
  have hlocks := B.notSynchronized
  clear B
  have hl := lv_entry ([.ref (a 0), .int x1, .int x2]) (n := 3) (Nat.le_of_ble_eq_true rfl)
  rw [lg_entry_eq]
  generalize (lg_sl ([.ref (a 0), .int x1, .int x2]) ++ List.replicate (3 - (lg_sl ([.ref (a 0), .int x1, .int x2])).length) Slot.unset).toArray = ls at hl ⊢
  replace hl : lv_has ls 3 [(0, .ref (a 0)), (1, .int x1), (2, .int x2)] := hl
  refine gen_start (A := (fun _ => False)) (fun H locs hP hS => ?_) hP
  obtain ⟨hb0, ⟨hb1, hb2, hb3, hb4, hb5, hb6⟩, hb7, hb8⟩ := id hok
  refine lv_aload_n hx hb dX2_face_0 rfl (lv_at hl 0 rfl) ?_
  refine va_get (D := D) (ci := 3) (v := .ref (a 1)) (C := RX2) (T := TX2) (N := 2) hx hb hts (by decide +kernel) hown hK.1 hP 0 rfl rfl 0 (by decide) (hts (.fieldLink RX2 10 "ChooseTree" "classes" "LChooseTree$Classes;") (by decide +kernel)) (fun _ h9 => h9) rfl dX2_face_1 ?_
  refine lv_iload_n hx hb dX2_face_4 rfl (lv_at hl 1 rfl) ?_
  refine va_calli (va_runV (As := [.int x1]) (rest := []) ⟨hx, hb, hml, hown, hts⟩ (c_X0_exists l D a k σ x1) (cwV 1 hts gX2_face_X0_exists rfl rfl rfl (by decide +kernel) ⟨Nat.le_of_ble_eq_true rfl, Nat.le_of_ble_eq_true rfl⟩) (cP_V hK hP 1 1 rfl rfl) rfl rfl hl.1 rfl (lv_room (Nat.le_of_ble_eq_true rfl)) dX2_face_5 ⟨Nat.le_of_ble_eq_true rfl, Nat.le_of_ble_eq_true rfl⟩) hS (fun _ _ h => h.elim) (fun _ h => h.elim) (fun r_1 u t H1 locs ht hvm hw hB hz1 hk1 hS => ?_)
  replace hP := ro_kept hP hk1
  obtain rfl : r_1 = _ := hw
  clear hk1 hz1 hvm ht hB
  generalize H1 = H at hP hS ⊢
  refine lv_if_eq (tgt := 28) hx hb dX2_face_8 (by decide) (fun c_2 => ?_) (fun c_2 => ?_)
  · replace c_2 := bI_0.mp c_2
    refine lv_iconst (v := (-1)) hx hb dX2_face_28 (by decide) ?_
    exact W.iret (v := (-1)) hx hb hr (fun t ht hW => ⟨⟨(-1), (), rfl, (by simp [s_faceI, bI, c_2]), trivial⟩, hS.F ht⟩) hS.2.2 dX2_face_29
  · replace c_2 := bI_n0.mp c_2
    obtain ⟨j1, hj1, ej1⟩ := s_exists_of hok c_2
    subst ej1
    have hclj1 := nI_clamp (n := j1) (by omega)
    refine lv_iload_n hx hb dX2_face_11 rfl (lv_at hl 2 rfl) ?_
    refine lv_if_lt (tgt := 28) hx hb dX2_face_12 (by decide) (fun c_3 => ?_) (fun c_3 => ?_)
    · refine lv_iconst (v := (-1)) hx hb dX2_face_28 (by decide) ?_
      exact W.iret (v := (-1)) hx hb hr (fun t ht hW => ⟨⟨(-1), (), rfl, (by simp [s_faceI, bI, c_2, hclj1, c_3]), trivial⟩, hS.F ht⟩) hS.2.2 dX2_face_29
    · refine lv_iload_n hx hb dX2_face_15 rfl (lv_at hl 2 rfl) ?_
      refine lv_aload_n hx hb dX2_face_16 rfl (lv_at hl 0 rfl) ?_
      refine va_get (D := D) (ci := 3) (v := .ref (a 1)) (C := RX2) (T := TX2) (N := 2) hx hb hts (by decide +kernel) hown hK.1 hP 0 rfl rfl 0 (by decide) (hts (.fieldLink RX2 10 "ChooseTree" "classes" "LChooseTree$Classes;") (by decide +kernel)) (fun _ h9 => h9) rfl dX2_face_17 ?_
      refine va_get (D := D) (ci := 1) (v := .ref (a 7)) (C := RX0) (T := TX0) (N := 10) hx hb hts (by decide +kernel) hown hK.1 hP 1 rfl rfl 5 (by decide) (hts (.fieldLink RX2 79 "ChooseTree$Classes" "faceAmount" "[I") (by decide +kernel)) (fun _ h9 => h9) rfl dX2_face_20 ?_
      refine lv_iload_n hx hb dX2_face_23 rfl (lv_at hl 1 rfl) ?_
      refine na_iald (D := D) hx hb hK.1 hP 7 4 rfl rfl (i := j1) (by omega) (by decide) dX2_face_24 ?_
      refine lv_icmp_lt (tgt := 30) hx hb dX2_face_25 (by decide) (fun c_4 => ?_) (fun c_4 => ?_)
      · have hq := hb4 j1 (by omega)
        obtain ⟨j2, hj2, e2⟩ := ix_of (x := x2) (n := cs_fam σ j1) (by omega) (by simp [c_3, Int32.not_le.mpr c_4])
        subst e2
        have hcl2 := nI_clamp (n := j2) (by omega)
        refine lv_aload_n hx hb dX2_face_30 rfl (lv_at hl 0 rfl) ?_
        refine va_get (D := D) (ci := 3) (v := .ref (a 1)) (C := RX2) (T := TX2) (N := 2) hx hb hts (by decide +kernel) hown hK.1 hP 0 rfl rfl 0 (by decide) (hts (.fieldLink RX2 10 "ChooseTree" "classes" "LChooseTree$Classes;") (by decide +kernel)) (fun _ h9 => h9) rfl dX2_face_31 ?_
        refine lv_iload_n hx hb dX2_face_34 rfl (lv_at hl 1 rfl) ?_
        refine lv_iload_n hx hb dX2_face_35 rfl (lv_at hl 2 rfl) ?_
        refine va_calli (va_runV (As := [.int (nI j1), .int (nI j2)]) (rest := []) ⟨hx, hb, hml, hown, hts⟩ (c_X0_faceAt l D a k σ j1 j2 (by omega) (by omega)) (cwV 2 hts gX2_face_X0_faceAt rfl rfl rfl (by decide +kernel) ⟨Nat.le_of_ble_eq_true rfl, Nat.le_of_ble_eq_true rfl⟩) (cP_V hK hP 1 1 rfl rfl) rfl rfl hl.1 rfl (lv_room (Nat.le_of_ble_eq_true rfl)) dX2_face_36 ⟨Nat.le_of_ble_eq_true rfl, Nat.le_of_ble_eq_true rfl⟩) hS (fun _ _ h => h.elim) (fun _ h => h.elim) (fun r_5 u t H1 locs ht hvm hw hB hz1 hk1 hS => ?_)
        replace hP := ro_kept hP hk1
        obtain rfl : r_5 = _ := hw
        clear hk1 hz1 hvm ht hB
        generalize H1 = H at hP hS ⊢
        exact W.iret (v := (nI (s_faceAt σ j1 j2))) hx hb hr (fun t ht hW => ⟨⟨(nI (s_faceAt σ j1 j2)), (), rfl, (by simp [s_faceI, bI, c_2, hclj1, c_3, c_4, hcl2]), trivial⟩, hS.F ht⟩) hS.2.2 dX2_face_39
      · refine lv_iconst (v := (-1)) hx hb dX2_face_28 (by decide) ?_
        exact W.iret (v := (-1)) hx hb hr (fun t ht hW => ⟨⟨(-1), (), rfl, (by simp [s_faceI, bI, c_2, hclj1, c_3, c_4]), trivial⟩, hS.F ht⟩) hS.2.2 dX2_face_29
set_option maxHeartbeats 4000000 in
set_option maxRecDepth 100000 in
theorem c_X2_couldReplace (l : Launch) (D : va_G) (a : Nat → Nat) (k : Nat → ClassId) (σ : CS) (hok : cok σ) (n1 n2 : Nat) (hn1 : n1 < 400) (hn2 : n2 < 400) : Met l yX2_couldReplace wsX2_couldReplace (rmC 2 42) (cP D a k σ [.ref (a 0), .int (nI n1), .int (nI n2)]) (roQ (bI (r_could σ n1 n2))) 0 0 (fun _ => False) := by
  refine Met.ofW (cc := cX2_couldReplace) (maxL := 3) (ret := (some .boolean)) (by decide) rfl ?_
  intro p e s m args below meth c s₁ B hml hv
  obtain ⟨rfl, hP, hK⟩ := hv
  have hx := B.exec
  have hb := B.bytes
  have hr := B.returns
  have hts := atoms_spec (ws := wsX2_couldReplace) B.pre
  have hown : s.vm.findClass RX2 = some m.cls := findClass_of_methodNamed B.named
  have hlocks := B.notSynchronized
  clear B
  have hl := lv_entry ([.ref (a 0), .int (nI n1), .int (nI n2)]) (n := 3) (Nat.le_of_ble_eq_true rfl)
  rw [lg_entry_eq]
  generalize (lg_sl ([.ref (a 0), .int (nI n1), .int (nI n2)]) ++ List.replicate (3 - (lg_sl ([.ref (a 0), .int (nI n1), .int (nI n2)])).length) Slot.unset).toArray = ls at hl ⊢
  replace hl : lv_has ls 3 [(0, .ref (a 0)), (1, .int (nI n1)), (2, .int (nI n2))] := hl
  refine gen_start (A := (fun _ => False)) (fun H locs hP hS => ?_) hP
  refine lv_iload_n hx hb dX2_couldReplace_0 rfl (lv_at hl 1 rfl) ?_
  refine lv_iload_n hx hb dX2_couldReplace_1 rfl (lv_at hl 2 rfl) ?_
  refine lv_icmp_eq (tgt := 52) hx hb dX2_couldReplace_2 (by decide) (fun c_1 => ?_) (fun c_1 => ?_)
  · refine lv_iconst (v := (nI 0)) hx hb dX2_couldReplace_52 (by decide) ?_
    exact W.zret (v := (nI 0)) hx hb hr rfl (fun t ht hW => ⟨⟨(nI 0), (), rfl, (by simp [r_could, bI, c_1]), trivial⟩, hS.F ht⟩) hS.2.2 dX2_couldReplace_53
  · refine lv_aload_n hx hb dX2_couldReplace_5 rfl (lv_at hl 0 rfl) ?_
    refine va_get (D := D) (ci := 3) (v := .ref (a 2)) (C := RX2) (T := TX2) (N := 2) hx hb hts (by decide +kernel) hown hK.1 hP 0 rfl rfl 1 (by decide) (hts (.fieldLink RX2 19 "ChooseTree" "methods" "LChooseTree$Methods;") (by decide +kernel)) (fun _ h9 => h9) rfl dX2_couldReplace_6 ?_
    refine va_get (D := D) (ci := 2) (v := .ref (a 11)) (C := RX1) (T := TX1) (N := 7) hx hb hts (by decide +kernel) hown hK.1 hP 2 rfl rfl 2 (by decide) (hts (.fieldLink RX2 131 "ChooseTree$Methods" "name" "[I") (by decide +kernel)) (fun _ h9 => h9) rfl dX2_couldReplace_9 ?_
    refine lv_iload_n hx hb dX2_couldReplace_12 rfl (lv_at hl 1 rfl) ?_
    refine na_iald (D := D) hx hb hK.1 hP 11 8 rfl rfl (i := n1) (by omega) (by decide) dX2_couldReplace_13 ?_
    refine lv_aload_n hx hb dX2_couldReplace_14 rfl (lv_at hl 0 rfl) ?_
    refine va_get (D := D) (ci := 3) (v := .ref (a 2)) (C := RX2) (T := TX2) (N := 2) hx hb hts (by decide +kernel) hown hK.1 hP 0 rfl rfl 1 (by decide) (hts (.fieldLink RX2 19 "ChooseTree" "methods" "LChooseTree$Methods;") (by decide +kernel)) (fun _ h9 => h9) rfl dX2_couldReplace_15 ?_
    refine va_get (D := D) (ci := 2) (v := .ref (a 11)) (C := RX1) (T := TX1) (N := 7) hx hb hts (by decide +kernel) hown hK.1 hP 2 rfl rfl 2 (by decide) (hts (.fieldLink RX2 131 "ChooseTree$Methods" "name" "[I") (by decide +kernel)) (fun _ h9 => h9) rfl dX2_couldReplace_18 ?_
    refine lv_iload_n hx hb dX2_couldReplace_21 rfl (lv_at hl 2 rfl) ?_
    refine na_iald (D := D) hx hb hK.1 hP 11 8 rfl rfl (i := n2) (by omega) (by decide) dX2_couldReplace_22 ?_
    refine lv_icmp_ne (tgt := 52) hx hb dX2_couldReplace_23 (by decide) (fun c_2 => ?_) (fun c_2 => ?_)
    · refine lv_iconst (v := (nI 0)) hx hb dX2_couldReplace_52 (by decide) ?_
      exact W.zret (v := (nI 0)) hx hb hr rfl (fun t ht hW => ⟨⟨(nI 0), (), rfl, (by simp [r_could, bI, c_1, c_2]), trivial⟩, hS.F ht⟩) hS.2.2 dX2_couldReplace_53
    · refine lv_aload_n hx hb dX2_couldReplace_26 rfl (lv_at hl 0 rfl) ?_
      refine va_get (D := D) (ci := 3) (v := .ref (a 2)) (C := RX2) (T := TX2) (N := 2) hx hb hts (by decide +kernel) hown hK.1 hP 0 rfl rfl 1 (by decide) (hts (.fieldLink RX2 19 "ChooseTree" "methods" "LChooseTree$Methods;") (by decide +kernel)) (fun _ h9 => h9) rfl dX2_couldReplace_27 ?_
      refine lv_iload_n hx hb dX2_couldReplace_30 rfl (lv_at hl 1 rfl) ?_
      refine va_calli (va_runV (As := [.int (nI n1)]) (rest := []) ⟨hx, hb, hml, hown, hts⟩ (c_X1_isVirtual l D a k σ n1 hn1) (cwV 1 hts gX2_couldReplace_X1_isVirtual rfl rfl rfl (by decide +kernel) ⟨Nat.le_of_ble_eq_true rfl, Nat.le_of_ble_eq_true rfl⟩) (cP_V hK hP 2 2 rfl rfl) rfl rfl hl.1 rfl (lv_room (Nat.le_of_ble_eq_true rfl)) dX2_couldReplace_31 ⟨Nat.le_of_ble_eq_true rfl, Nat.le_of_ble_eq_true rfl⟩) hS (fun _ _ h => h.elim) (fun _ h => h.elim) (fun r_3 u t H1 locs ht hvm hw hB hz1 hk1 hS => ?_)
      replace hP := ro_kept hP hk1
      obtain rfl : r_3 = _ := hw
      clear hk1 hz1 hvm ht hB
      generalize H1 = H at hP hS ⊢
      refine lv_if_eq (tgt := 52) hx hb dX2_couldReplace_34 (by decide) (fun c_4 => ?_) (fun c_4 => ?_)
      · replace c_4 := bI_0.mp c_4
        refine lv_iconst (v := (nI 0)) hx hb dX2_couldReplace_52 (by decide) ?_
        exact W.zret (v := (nI 0)) hx hb hr rfl (fun t ht hW => ⟨⟨(nI 0), (), rfl, (by simp [r_could, bI, c_1, c_2, c_4]), trivial⟩, hS.F ht⟩) hS.2.2 dX2_couldReplace_53
      · replace c_4 := bI_n0.mp c_4
        refine lv_aload_n hx hb dX2_couldReplace_37 rfl (lv_at hl 0 rfl) ?_
        refine va_get (D := D) (ci := 3) (v := .ref (a 2)) (C := RX2) (T := TX2) (N := 2) hx hb hts (by decide +kernel) hown hK.1 hP 0 rfl rfl 1 (by decide) (hts (.fieldLink RX2 19 "ChooseTree" "methods" "LChooseTree$Methods;") (by decide +kernel)) (fun _ h9 => h9) rfl dX2_couldReplace_38 ?_
        refine lv_iload_n hx hb dX2_couldReplace_41 rfl (lv_at hl 2 rfl) ?_
        refine va_calli (va_runV (As := [.int (nI n2)]) (rest := []) ⟨hx, hb, hml, hown, hts⟩ (c_X1_isVirtual l D a k σ n2 hn2) (cwV 1 hts gX2_couldReplace_X1_isVirtual rfl rfl rfl (by decide +kernel) ⟨Nat.le_of_ble_eq_true rfl, Nat.le_of_ble_eq_true rfl⟩) (cP_V hK hP 2 2 rfl rfl) rfl rfl hl.1 rfl (lv_room (Nat.le_of_ble_eq_true rfl)) dX2_couldReplace_42 ⟨Nat.le_of_ble_eq_true rfl, Nat.le_of_ble_eq_true rfl⟩) hS (fun _ _ h => h.elim) (fun _ h => h.elim) (fun r_5 u t H1 locs ht hvm hw hB hz1 hk1 hS => ?_)
        replace hP := ro_kept hP hk1
        obtain rfl : r_5 = _ := hw
        clear hk1 hz1 hvm ht hB
        generalize H1 = H at hP hS ⊢
        refine lv_if_eq (tgt := 52) hx hb dX2_couldReplace_45 (by decide) (fun c_6 => ?_) (fun c_6 => ?_)
        · replace c_6 := bI_0.mp c_6
          refine lv_iconst (v := (nI 0)) hx hb dX2_couldReplace_52 (by decide) ?_
          exact W.zret (v := (nI 0)) hx hb hr rfl (fun t ht hW => ⟨⟨(nI 0), (), rfl, (by simp [r_could, bI, c_1, c_2, c_4, c_6]), trivial⟩, hS.F ht⟩) hS.2.2 dX2_couldReplace_53
        · replace c_6 := bI_n0.mp c_6
          refine lv_iconst (v := (nI 1)) hx hb dX2_couldReplace_48 (by decide) ?_
          refine lv_goto (tgt := 53) hx hb dX2_couldReplace_49 (by decide) ?_
          exact W.zret (v := (nI 1)) hx hb hr rfl (fun t ht hW => ⟨⟨(nI 1), (), rfl, (by simp [r_could, bI, c_1, c_2, c_4, c_6]), trivial⟩, hS.F ht⟩) hS.2.2 dX2_couldReplace_53
set_option maxHeartbeats 4000000 in
set_option maxRecDepth 100000 in
theorem c_X2_replacesBetween (l : Launch) (D : va_G) (a : Nat → Nat) (k : Nat → ClassId) (σ : CS) (hok : cok σ) (n1 n2 : Nat) (hn1 : n1 < 400) (hn2 : n2 < 400) : Met l yX2_replacesBetween wsX2_replacesBetween (rmC 3 66) (cP D a k σ [.ref (a 0), .int (nI n1), .int (nI n2)]) (roQ (bI (r_bw σ n1 n2))) 0 0 (fun _ => False) := by
  refine Met.ofW (cc := cX2_replacesBetween) (maxL := 7) (ret := (some .boolean)) (by decide) rfl ?_
  intro p e s m args below meth c s₁ B hml hv
  obtain ⟨rfl, hP, hK⟩ := hv
  have hx := B.exec
  have hb := B.bytes
  have hr := B.returns
  have hts := atoms_spec (ws := wsX2_replacesBetween) B.pre
  have hown : s.vm.findClass RX2 = some m.cls := findClass_of_methodNamed B.named
  have hlocks := B.notSynchronized
  clear B
  have hl := lv_entry ([.ref (a 0), .int (nI n1), .int (nI n2)]) (n := 7) (Nat.le_of_ble_eq_true rfl)
  rw [lg_entry_eq]
  generalize (lg_sl ([.ref (a 0), .int (nI n1), .int (nI n2)]) ++ List.replicate (7 - (lg_sl ([.ref (a 0), .int (nI n1), .int (nI n2)])).length) Slot.unset).toArray = ls at hl ⊢
  replace hl : lv_has ls 7 [(0, .ref (a 0)), (1, .int (nI n1)), (2, .int (nI n2))] := hl
  refine gen_start (A := (fun _ => False)) (fun H locs hP hS => ?_) hP
  obtain ⟨hb0, ⟨hb1, hb2, hb3, hb4, hb5, hb6⟩, hb7, hb8⟩ := id hok
  have hw1 := hb3 n1 hn1
  have hw2 := hb3 n2 hn2
  refine lv_aload_n hx hb dX2_replacesBetween_0 rfl (lv_at hl 0 rfl) ?_
  refine va_get (D := D) (ci := 3) (v := .ref (a 2)) (C := RX2) (T := TX2) (N := 2) hx hb hts (by decide +kernel) hown hK.1 hP 0 rfl rfl 1 (by decide) (hts (.fieldLink RX2 19 "ChooseTree" "methods" "LChooseTree$Methods;") (by decide +kernel)) (fun _ h9 => h9) rfl dX2_replacesBetween_1 ?_
  refine va_get (D := D) (ci := 2) (v := .ref (a 10)) (C := RX1) (T := TX1) (N := 7) hx hb hts (by decide +kernel) hown hK.1 hP 2 rfl rfl 1 (by decide) (hts (.fieldLink RX2 115 "ChooseTree$Methods" "owner" "[I") (by decide +kernel)) (fun _ h9 => h9) rfl dX2_replacesBetween_4 ?_
  refine lv_iload_n hx hb dX2_replacesBetween_7 rfl (lv_at hl 1 rfl) ?_
  refine na_iald (D := D) hx hb hK.1 hP 10 7 rfl rfl (i := n1) (by omega) (by decide) dX2_replacesBetween_8 ?_
  refine lv_istore_n (lv' := [(3, .int (nI ((cs_ow σ) n1))), (0, .ref (a 0)), (1, .int (nI n1)), (2, .int (nI n2))]) hx hb dX2_replacesBetween_9 rfl hl (by decide) rfl (fun ls hl => ?_)
  refine lv_aload_n hx hb dX2_replacesBetween_10 rfl (lv_at hl 1 rfl) ?_
  refine va_get (D := D) (ci := 3) (v := .ref (a 2)) (C := RX2) (T := TX2) (N := 2) hx hb hts (by decide +kernel) hown hK.1 hP 0 rfl rfl 1 (by decide) (hts (.fieldLink RX2 19 "ChooseTree" "methods" "LChooseTree$Methods;") (by decide +kernel)) (fun _ h9 => h9) rfl dX2_replacesBetween_11 ?_
  refine va_get (D := D) (ci := 2) (v := .ref (a 10)) (C := RX1) (T := TX1) (N := 7) hx hb hts (by decide +kernel) hown hK.1 hP 2 rfl rfl 1 (by decide) (hts (.fieldLink RX2 115 "ChooseTree$Methods" "owner" "[I") (by decide +kernel)) (fun _ h9 => h9) rfl dX2_replacesBetween_14 ?_
  refine lv_iload_n hx hb dX2_replacesBetween_17 rfl (lv_at hl 3 rfl) ?_
  refine na_iald (D := D) hx hb hK.1 hP 10 7 rfl rfl (i := n2) (by omega) (by decide) dX2_replacesBetween_18 ?_
  refine lv_istore (lv' := [(4, .int (nI ((cs_ow σ) n2))), (3, .int (nI ((cs_ow σ) n1))), (0, .ref (a 0)), (1, .int (nI n1)), (2, .int (nI n2))]) hx hb dX2_replacesBetween_19 hl (by decide) rfl (fun ls hl => ?_)
  refine lv_iload_n hx hb dX2_replacesBetween_21 rfl (lv_at hl 1 rfl) ?_
  refine lv_iconst (v := (nI 1)) hx hb dX2_replacesBetween_22 (by decide) ?_
  refine lv_isub hx hb dX2_replacesBetween_23 ?_
  refine lv_istore (lv' := [(5, .int ((nI ((cs_ow σ) n1)) - (nI 1))), (4, .int (nI ((cs_ow σ) n2))), (3, .int (nI ((cs_ow σ) n1))), (0, .ref (a 0)), (1, .int (nI n1)), (2, .int (nI n2))]) hx hb dX2_replacesBetween_24 hl (by decide) rfl (fun ls hl => ?_)
  obtain ⟨n, hn⟩ : ∃ n : Nat, n = cs_ow σ n1 := ⟨_, rfl⟩
  have hE : n ≤ 60 := by omega
  have hres : r_between σ (cs_ow σ n1) (cs_ow σ n2) (cs_nm σ n1) n = r_bw σ n1 n2 := by rw [hn]; rfl
  replace hl : lv_has ls 7 [(5, .int (nI n - nI 1)), (4, .int (nI ((cs_ow σ) n2))), (3, .int (nI ((cs_ow σ) n1))), (0, .ref (a 0)), (1, .int (nI n1)), (2, .int (nI n2))] := by rw [hn]; exact hl
  clear hn
  revert hl
  revert hres
  revert hE
  revert hS
  revert hP
  revert ls
  revert locs
  revert H
  induction n with
  | zero =>
    intro H locs ls hP hS hE hres hl
    refine lv_iload hx hb dX2_replacesBetween_26 (lv_at hl 0 rfl) ?_
    refine lv_if_lt (tgt := 137) hx hb dX2_replacesBetween_28 (by decide) (fun c_1 => ?_) (fun c_1 => ?_)
    · refine lv_iconst (v := (nI 0)) hx hb dX2_replacesBetween_137 (by decide) ?_
      exact W.zret (v := (nI 0)) hx hb hr rfl (fun t ht hW => ⟨⟨(nI 0), (), rfl, (by rw [← hres]; rfl), trivial⟩, hS.F ht⟩) hS.2.2 dX2_replacesBetween_138
    · exact absurd (by decide) c_1
  | succ n ih =>
    intro H locs ls hP hS hE hres hl
    rw [kpred] at hl
    have hn6 : n < 60 := by omega
    refine lv_iload hx hb dX2_replacesBetween_26 (lv_at hl 0 rfl) ?_
    refine lv_if_lt (tgt := 137) hx hb dX2_replacesBetween_28 (by decide) (fun c_2 => ?_) (fun c_2 => ?_)
    · exact absurd c_2 (nI_pos (by omega))
    · refine lv_aload_n hx hb dX2_replacesBetween_31 rfl (lv_at hl 3 rfl) ?_
      refine va_get (D := D) (ci := 3) (v := .ref (a 1)) (C := RX2) (T := TX2) (N := 2) hx hb hts (by decide +kernel) hown hK.1 hP 0 rfl rfl 0 (by decide) (hts (.fieldLink RX2 10 "ChooseTree" "classes" "LChooseTree$Classes;") (by decide +kernel)) (fun _ h9 => h9) rfl dX2_replacesBetween_32 ?_
      refine lv_iload_n hx hb dX2_replacesBetween_35 rfl (lv_at hl 2 rfl) ?_
      refine lv_iload hx hb dX2_replacesBetween_36 (lv_at hl 0 rfl) ?_
      refine va_calli (va_runV (As := [.int (nI ((cs_ow σ) n1)), .int (nI n)]) (rest := []) ⟨hx, hb, hml, hown, hts⟩ (c_X0_inRow l D a k σ (cs_ow σ n1) n hw1 hn6) (cwV 2 hts gX2_replacesBetween_X0_inRow rfl rfl rfl (by decide +kernel) ⟨Nat.le_of_ble_eq_true rfl, Nat.le_of_ble_eq_true rfl⟩) (cP_V hK hP 1 1 rfl rfl) rfl rfl hl.1 rfl (lv_room (Nat.le_of_ble_eq_true rfl)) dX2_replacesBetween_38 ⟨Nat.le_of_ble_eq_true rfl, Nat.le_of_ble_eq_true rfl⟩) hS (fun _ _ h => h.elim) (fun _ h => h.elim) (fun r_3 u t H1 locs ht hvm hw hB hz1 hk1 hS => ?_)
      replace hP := ro_kept hP hk1
      obtain rfl : r_3 = _ := hw
      clear hk1 hz1 hvm ht hB
      generalize H1 = H at hP hS ⊢
      refine lv_if_ne (tgt := 47) hx hb dX2_replacesBetween_41 (by decide) (fun c_4 => ?_) (fun c_4 => ?_)
      · replace c_4 := bI_n0.mp c_4
        refine lv_iload hx hb dX2_replacesBetween_47 (lv_at hl 0 rfl) ?_
        refine lv_iload hx hb dX2_replacesBetween_49 (lv_at hl 1 rfl) ?_
        refine lv_icmp_ne (tgt := 56) hx hb dX2_replacesBetween_51 (by decide) (fun c_5 => ?_) (fun c_5 => ?_)
        · refine lv_aload_n hx hb dX2_replacesBetween_56 rfl (lv_at hl 3 rfl) ?_
          refine va_get (D := D) (ci := 3) (v := .ref (a 2)) (C := RX2) (T := TX2) (N := 2) hx hb hts (by decide +kernel) hown hK.1 hP 0 rfl rfl 1 (by decide) (hts (.fieldLink RX2 19 "ChooseTree" "methods" "LChooseTree$Methods;") (by decide +kernel)) (fun _ h9 => h9) rfl dX2_replacesBetween_57 ?_
          refine lv_iload hx hb dX2_replacesBetween_60 (lv_at hl 0 rfl) ?_
          refine lv_aload_n hx hb dX2_replacesBetween_62 rfl (lv_at hl 3 rfl) ?_
          refine va_get (D := D) (ci := 3) (v := .ref (a 2)) (C := RX2) (T := TX2) (N := 2) hx hb hts (by decide +kernel) hown hK.1 hP 0 rfl rfl 1 (by decide) (hts (.fieldLink RX2 19 "ChooseTree" "methods" "LChooseTree$Methods;") (by decide +kernel)) (fun _ h9 => h9) rfl dX2_replacesBetween_63 ?_
          refine va_get (D := D) (ci := 2) (v := .ref (a 11)) (C := RX1) (T := TX1) (N := 7) hx hb hts (by decide +kernel) hown hK.1 hP 2 rfl rfl 2 (by decide) (hts (.fieldLink RX2 131 "ChooseTree$Methods" "name" "[I") (by decide +kernel)) (fun _ h9 => h9) rfl dX2_replacesBetween_66 ?_
          refine lv_iload_n hx hb dX2_replacesBetween_69 rfl (lv_at hl 4 rfl) ?_
          refine na_iald (D := D) hx hb hK.1 hP 11 8 rfl rfl (i := n1) (by omega) (by decide) dX2_replacesBetween_70 ?_
          refine va_calli (va_runV (As := [.int (nI n), .int ((cs_nm σ) n1)]) (rest := []) ⟨hx, hb, hml, hown, hts⟩ (c_X1_inClass l D a k σ hok n hn6 (cs_nm σ n1)) (cwV 2 hts gX2_replacesBetween_X1_inClass rfl rfl rfl (by decide +kernel) ⟨Nat.le_of_ble_eq_true rfl, Nat.le_of_ble_eq_true rfl⟩) (cP_V hK hP 2 2 rfl rfl) rfl rfl hl.1 rfl (lv_room (Nat.le_of_ble_eq_true rfl)) dX2_replacesBetween_71 ⟨Nat.le_of_ble_eq_true rfl, Nat.le_of_ble_eq_true rfl⟩) hS (fun _ _ h => h.elim) (fun _ h => h.elim) (fun r_6 u t H1 locs ht hvm hw hB hz1 hk1 hS => ?_)
          replace hP := ro_kept hP hk1
          obtain rfl : r_6 = _ := hw
          clear hk1 hz1 hvm ht hB
          generalize H1 = H at hP hS ⊢
          refine lv_istore (lv' := [(6, .int (m_inClass σ n ((cs_nm σ) n1))), (5, .int (nI n)), (4, .int (nI ((cs_ow σ) n2))), (3, .int (nI ((cs_ow σ) n1))), (0, .ref (a 0)), (1, .int (nI n1)), (2, .int (nI n2))]) hx hb dX2_replacesBetween_74 hl (by decide) rfl (fun ls hl => ?_)
          refine lv_iload hx hb dX2_replacesBetween_76 (lv_at hl 0 rfl) ?_
          refine lv_iconst (v := (-1)) hx hb dX2_replacesBetween_78 (by decide) ?_
          refine lv_icmp_eq (tgt := 131) hx hb dX2_replacesBetween_79 (by decide) (fun c_7 => ?_) (fun c_7 => ?_)
          · refine lv_iinc (v := ((nI n) - nI 1)) (lv' := [(5, .int ((nI n) - nI 1)), (6, .int (m_inClass σ n ((cs_nm σ) n1))), (4, .int (nI ((cs_ow σ) n2))), (3, .int (nI ((cs_ow σ) n1))), (0, .ref (a 0)), (1, .int (nI n1)), (2, .int (nI n2))]) hx hb dX2_replacesBetween_131 hl (k := 1) rfl (kdec _) (by decide) rfl (fun ls hl => ?_)
            refine lv_goto (tgt := 26) hx hb dX2_replacesBetween_134 (by decide) ?_
            exact ih H locs ls hP hS (by omega) (by rw [← hres]; simp [r_between, c_2, c_4, c_5, c_7]) (lv_sub hl [0, 2, 3, 4, 5, 6] rfl)
          · obtain ⟨j, hj, ej⟩ := (m_inClass_of hok hn6 ((cs_nm σ) n1)).resolve_left c_7
            rw [ej] at hl
            have ec : (m_inClass σ n ((cs_nm σ) n1)).toNatClampNeg = j := by rw [ej]; exact nI_clamp (by omega)
            refine lv_aload_n hx hb dX2_replacesBetween_82 rfl (lv_at hl 4 rfl) ?_
            refine va_get (D := D) (ci := 3) (v := .ref (a 1)) (C := RX2) (T := TX2) (N := 2) hx hb hts (by decide +kernel) hown hK.1 hP 0 rfl rfl 0 (by decide) (hts (.fieldLink RX2 10 "ChooseTree" "classes" "LChooseTree$Classes;") (by decide +kernel)) (fun _ h9 => h9) rfl dX2_replacesBetween_83 ?_
            refine va_get (D := D) (ci := 1) (v := .ref (a 4)) (C := RX0) (T := TX0) (N := 10) hx hb hts (by decide +kernel) hown hK.1 hP 1 rfl rfl 2 (by decide) (hts (.fieldLink RX2 155 "ChooseTree$Classes" "pack" "[I") (by decide +kernel)) (fun _ h9 => h9) rfl dX2_replacesBetween_86 ?_
            refine lv_iload hx hb dX2_replacesBetween_89 (lv_at hl 1 rfl) ?_
            refine na_iald (D := D) hx hb hK.1 hP 4 1 rfl rfl (i := n) (by omega) (by decide) dX2_replacesBetween_91 ?_
            refine lv_aload_n hx hb dX2_replacesBetween_92 rfl (lv_at hl 4 rfl) ?_
            refine va_get (D := D) (ci := 3) (v := .ref (a 1)) (C := RX2) (T := TX2) (N := 2) hx hb hts (by decide +kernel) hown hK.1 hP 0 rfl rfl 0 (by decide) (hts (.fieldLink RX2 10 "ChooseTree" "classes" "LChooseTree$Classes;") (by decide +kernel)) (fun _ h9 => h9) rfl dX2_replacesBetween_93 ?_
            refine va_get (D := D) (ci := 1) (v := .ref (a 4)) (C := RX0) (T := TX0) (N := 10) hx hb hts (by decide +kernel) hown hK.1 hP 1 rfl rfl 2 (by decide) (hts (.fieldLink RX2 155 "ChooseTree$Classes" "pack" "[I") (by decide +kernel)) (fun _ h9 => h9) rfl dX2_replacesBetween_96 ?_
            refine lv_iload hx hb dX2_replacesBetween_99 (lv_at hl 2 rfl) ?_
            refine na_iald (D := D) hx hb hK.1 hP 4 1 rfl rfl (i := ((cs_ow σ) n2)) (by omega) (by decide) dX2_replacesBetween_101 ?_
            refine lv_icmp_ne (tgt := 131) hx hb dX2_replacesBetween_102 (by decide) (fun c_8 => ?_) (fun c_8 => ?_)
            · refine lv_iinc (v := ((nI n) - nI 1)) (lv' := [(5, .int ((nI n) - nI 1)), (6, .int (nI j)), (4, .int (nI ((cs_ow σ) n2))), (3, .int (nI ((cs_ow σ) n1))), (0, .ref (a 0)), (1, .int (nI n1)), (2, .int (nI n2))]) hx hb dX2_replacesBetween_131 hl (k := 1) rfl (kdec _) (by decide) rfl (fun ls hl => ?_)
              refine lv_goto (tgt := 26) hx hb dX2_replacesBetween_134 (by decide) ?_
              exact ih H locs ls hP hS (by omega) (by rw [← hres]; simp [r_between, c_2, c_4, c_5, c_7, ec, c_8]) (lv_sub hl [0, 2, 3, 4, 5, 6] rfl)
            · refine lv_aload_n hx hb dX2_replacesBetween_105 rfl (lv_at hl 4 rfl) ?_
              refine va_get (D := D) (ci := 3) (v := .ref (a 2)) (C := RX2) (T := TX2) (N := 2) hx hb hts (by decide +kernel) hown hK.1 hP 0 rfl rfl 1 (by decide) (hts (.fieldLink RX2 19 "ChooseTree" "methods" "LChooseTree$Methods;") (by decide +kernel)) (fun _ h9 => h9) rfl dX2_replacesBetween_106 ?_
              refine lv_iload hx hb dX2_replacesBetween_109 (lv_at hl 0 rfl) ?_
              refine va_calli (va_runV (As := [.int (nI j)]) (rest := []) ⟨hx, hb, hml, hown, hts⟩ (c_X1_isVirtual l D a k σ j (by omega)) (cwV 1 hts gX2_replacesBetween_X1_isVirtual rfl rfl rfl (by decide +kernel) ⟨Nat.le_of_ble_eq_true rfl, Nat.le_of_ble_eq_true rfl⟩) (cP_V hK hP 2 2 rfl rfl) rfl rfl hl.1 rfl (lv_room (Nat.le_of_ble_eq_true rfl)) dX2_replacesBetween_111 ⟨Nat.le_of_ble_eq_true rfl, Nat.le_of_ble_eq_true rfl⟩) hS (fun _ _ h => h.elim) (fun _ h => h.elim) (fun r_9 u t H1 locs ht hvm hw hB hz1 hk1 hS => ?_)
              replace hP := ro_kept hP hk1
              obtain rfl : r_9 = _ := hw
              clear hk1 hz1 hvm ht hB
              generalize H1 = H at hP hS ⊢
              refine lv_if_eq (tgt := 131) hx hb dX2_replacesBetween_114 (by decide) (fun c_10 => ?_) (fun c_10 => ?_)
              · replace c_10 := bI_0.mp c_10
                refine lv_iinc (v := ((nI n) - nI 1)) (lv' := [(5, .int ((nI n) - nI 1)), (6, .int (nI j)), (4, .int (nI ((cs_ow σ) n2))), (3, .int (nI ((cs_ow σ) n1))), (0, .ref (a 0)), (1, .int (nI n1)), (2, .int (nI n2))]) hx hb dX2_replacesBetween_131 hl (k := 1) rfl (kdec _) (by decide) rfl (fun ls hl => ?_)
                refine lv_goto (tgt := 26) hx hb dX2_replacesBetween_134 (by decide) ?_
                exact ih H locs ls hP hS (by omega) (by rw [← hres]; simp [r_between, c_2, c_4, c_5, c_7, ec, c_8, c_10]) (lv_sub hl [0, 2, 3, 4, 5, 6] rfl)
              · replace c_10 := bI_n0.mp c_10
                refine lv_aload_n hx hb dX2_replacesBetween_117 rfl (lv_at hl 4 rfl) ?_
                refine va_get (D := D) (ci := 3) (v := .ref (a 2)) (C := RX2) (T := TX2) (N := 2) hx hb hts (by decide +kernel) hown hK.1 hP 0 rfl rfl 1 (by decide) (hts (.fieldLink RX2 19 "ChooseTree" "methods" "LChooseTree$Methods;") (by decide +kernel)) (fun _ h9 => h9) rfl dX2_replacesBetween_118 ?_
                refine lv_iload hx hb dX2_replacesBetween_121 (lv_at hl 0 rfl) ?_
                refine va_calli (va_runV (As := [.int (nI j)]) (rest := []) ⟨hx, hb, hml, hown, hts⟩ (c_X1_isPublicOrProtected l D a k σ j (by omega)) (cwV 1 hts gX2_replacesBetween_X1_isPublicOrProtected rfl rfl rfl (by decide +kernel) ⟨Nat.le_of_ble_eq_true rfl, Nat.le_of_ble_eq_true rfl⟩) (cP_V hK hP 2 2 rfl rfl) rfl rfl hl.1 rfl (lv_room (Nat.le_of_ble_eq_true rfl)) dX2_replacesBetween_123 ⟨Nat.le_of_ble_eq_true rfl, Nat.le_of_ble_eq_true rfl⟩) hS (fun _ _ h => h.elim) (fun _ h => h.elim) (fun r_11 u t H1 locs ht hvm hw hB hz1 hk1 hS => ?_)
                replace hP := ro_kept hP hk1
                obtain rfl : r_11 = _ := hw
                clear hk1 hz1 hvm ht hB
                generalize H1 = H at hP hS ⊢
                refine lv_if_eq (tgt := 131) hx hb dX2_replacesBetween_126 (by decide) (fun c_12 => ?_) (fun c_12 => ?_)
                · replace c_12 := bI_0.mp c_12
                  refine lv_iinc (v := ((nI n) - nI 1)) (lv' := [(5, .int ((nI n) - nI 1)), (6, .int (nI j)), (4, .int (nI ((cs_ow σ) n2))), (3, .int (nI ((cs_ow σ) n1))), (0, .ref (a 0)), (1, .int (nI n1)), (2, .int (nI n2))]) hx hb dX2_replacesBetween_131 hl (k := 1) rfl (kdec _) (by decide) rfl (fun ls hl => ?_)
                  refine lv_goto (tgt := 26) hx hb dX2_replacesBetween_134 (by decide) ?_
                  exact ih H locs ls hP hS (by omega) (by rw [← hres]; simp [r_between, c_2, c_4, c_5, c_7, ec, c_8, c_10, c_12]) (lv_sub hl [0, 2, 3, 4, 5, 6] rfl)
                · replace c_12 := bI_n0.mp c_12
                  refine lv_iconst (v := (nI 1)) hx hb dX2_replacesBetween_129 (by decide) ?_
                  exact W.zret (v := (nI 1)) hx hb hr rfl (fun t ht hW => ⟨⟨(nI 1), (), rfl, (by rw [← hres]; simp [r_between, bI, c_2, c_4, c_5, c_7, ec, c_8, c_10, c_12]), trivial⟩, hS.F ht⟩) hS.2.2 dX2_replacesBetween_130
        · refine lv_iconst (v := (nI 0)) hx hb dX2_replacesBetween_54 (by decide) ?_
          exact W.zret (v := (nI 0)) hx hb hr rfl (fun t ht hW => ⟨⟨(nI 0), (), rfl, (by rw [← hres]; simp [r_between, bI, c_2, c_4, c_5]), trivial⟩, hS.F ht⟩) hS.2.2 dX2_replacesBetween_55
      · replace c_4 := bI_0.mp c_4
        refine lv_goto (tgt := 131) hx hb dX2_replacesBetween_44 (by decide) ?_
        refine lv_iinc (v := ((nI n) - nI 1)) (lv' := [(5, .int ((nI n) - nI 1)), (4, .int (nI ((cs_ow σ) n2))), (3, .int (nI ((cs_ow σ) n1))), (0, .ref (a 0)), (1, .int (nI n1)), (2, .int (nI n2))]) hx hb dX2_replacesBetween_131 hl (k := 0) rfl (kdec _) (by decide) rfl (fun ls hl => ?_)
        refine lv_goto (tgt := 26) hx hb dX2_replacesBetween_134 (by decide) ?_
        exact ih H locs ls hP hS (by omega) (by rw [← hres]; simp [r_between, c_2, c_4]) (lv_sub hl [0, 1, 2, 3, 4, 5] rfl)
set_option maxHeartbeats 4000000 in
set_option maxRecDepth 100000 in
theorem c_X2_replaces (l : Launch) (D : va_G) (a : Nat → Nat) (k : Nat → ClassId) (σ : CS) (hok : cok σ) (n1 n2 : Nat) (hn1 : n1 < 400) (hn2 : n2 < 400) : Met l yX2_replaces wsX2_replaces (rmC 4 92) (cP D a k σ [.ref (a 0), .int (nI n1), .int (nI n2)]) (roQ (bI (r_repl σ n1 n2))) 0 0 (fun _ => False) := by
  refine Met.ofW (cc := cX2_replaces) (maxL := 3) (ret := (some .boolean)) (by decide) rfl ?_
  intro p e s m args below meth c s₁ B hml hv
  obtain ⟨rfl, hP, hK⟩ := hv
  have hx := B.exec
  have hb := B.bytes
  have hr := B.returns
  have hts := atoms_spec (ws := wsX2_replaces) B.pre
  have hown : s.vm.findClass RX2 = some m.cls := findClass_of_methodNamed B.named
  have hlocks := B.notSynchronized
  clear B
  have hl := lv_entry ([.ref (a 0), .int (nI n1), .int (nI n2)]) (n := 3) (Nat.le_of_ble_eq_true rfl)
  rw [lg_entry_eq]
  generalize (lg_sl ([.ref (a 0), .int (nI n1), .int (nI n2)]) ++ List.replicate (3 - (lg_sl ([.ref (a 0), .int (nI n1), .int (nI n2)])).length) Slot.unset).toArray = ls at hl ⊢
  replace hl : lv_has ls 3 [(0, .ref (a 0)), (1, .int (nI n1)), (2, .int (nI n2))] := hl
  refine gen_start (A := (fun _ => False)) (fun H locs hP hS => ?_) hP
  obtain ⟨hb0, ⟨hb1, hb2, hb3, hb4, hb5, hb6⟩, hb7, hb8⟩ := id hok
  have hw1 := hb3 n1 hn1
  have hw2 := hb3 n2 hn2
  refine lv_aload_n hx hb dX2_replaces_0 rfl (lv_at hl 0 rfl) ?_
  refine lv_iload_n hx hb dX2_replaces_1 rfl (lv_at hl 1 rfl) ?_
  refine lv_iload_n hx hb dX2_replaces_2 rfl (lv_at hl 2 rfl) ?_
  refine va_calli (va_runV (As := [.int (nI n1), .int (nI n2)]) (rest := []) ⟨hx, hb, hml, hown, hts⟩ (c_X2_couldReplace l D a k σ hok n1 n2 hn1 hn2) (cwV 2 hts gX2_replaces_X2_couldReplace rfl rfl rfl (by decide +kernel) ⟨Nat.le_of_ble_eq_true rfl, Nat.le_of_ble_eq_true rfl⟩) (cP_V hK hP 3 0 rfl rfl) rfl rfl hl.1 rfl (lv_room (Nat.le_of_ble_eq_true rfl)) dX2_replaces_3 ⟨Nat.le_of_ble_eq_true rfl, Nat.le_of_ble_eq_true rfl⟩) hS (fun _ _ h => h.elim) (fun _ h => h.elim) (fun r_1 u t H1 locs ht hvm hw hB hz1 hk1 hS => ?_)
  replace hP := ro_kept hP hk1
  obtain rfl : r_1 = _ := hw
  clear hk1 hz1 hvm ht hB
  generalize H1 = H at hP hS ⊢
  refine lv_if_ne (tgt := 11) hx hb dX2_replaces_6 (by decide) (fun c_2 => ?_) (fun c_2 => ?_)
  · replace c_2 := bI_n0.mp c_2
    refine lv_aload_n hx hb dX2_replaces_11 rfl (lv_at hl 0 rfl) ?_
    refine va_get (D := D) (ci := 3) (v := .ref (a 2)) (C := RX2) (T := TX2) (N := 2) hx hb hts (by decide +kernel) hown hK.1 hP 0 rfl rfl 1 (by decide) (hts (.fieldLink RX2 19 "ChooseTree" "methods" "LChooseTree$Methods;") (by decide +kernel)) (fun _ h9 => h9) rfl dX2_replaces_12 ?_
    refine lv_iload_n hx hb dX2_replaces_15 rfl (lv_at hl 2 rfl) ?_
    refine va_calli (va_runV (As := [.int (nI n2)]) (rest := []) ⟨hx, hb, hml, hown, hts⟩ (c_X1_isPublicOrProtected l D a k σ n2 hn2) (cwV 1 hts gX2_replaces_X1_isPublicOrProtected rfl rfl rfl (by decide +kernel) ⟨Nat.le_of_ble_eq_true rfl, Nat.le_of_ble_eq_true rfl⟩) (cP_V hK hP 2 2 rfl rfl) rfl rfl hl.1 rfl (lv_room (Nat.le_of_ble_eq_true rfl)) dX2_replaces_16 ⟨Nat.le_of_ble_eq_true rfl, Nat.le_of_ble_eq_true rfl⟩) hS (fun _ _ h => h.elim) (fun _ h => h.elim) (fun r_3 u t H1 locs ht hvm hw hB hz1 hk1 hS => ?_)
    replace hP := ro_kept hP hk1
    obtain rfl : r_3 = _ := hw
    clear hk1 hz1 hvm ht hB
    generalize H1 = H at hP hS ⊢
    refine lv_if_ne (tgt := 68) hx hb dX2_replaces_19 (by decide) (fun c_4 => ?_) (fun c_4 => ?_)
    · replace c_4 := bI_n0.mp c_4
      refine lv_iconst (v := (nI 1)) hx hb dX2_replaces_68 (by decide) ?_
      refine lv_goto (tgt := 73) hx hb dX2_replaces_69 (by decide) ?_
      exact W.zret (v := (nI 1)) hx hb hr rfl (fun t ht hW => ⟨⟨(nI 1), (), rfl, (by simp [r_repl, bI, c_2, c_4]), trivial⟩, hS.F ht⟩) hS.2.2 dX2_replaces_73
    · replace c_4 := bI_0.mp c_4
      refine lv_aload_n hx hb dX2_replaces_22 rfl (lv_at hl 0 rfl) ?_
      refine va_get (D := D) (ci := 3) (v := .ref (a 1)) (C := RX2) (T := TX2) (N := 2) hx hb hts (by decide +kernel) hown hK.1 hP 0 rfl rfl 0 (by decide) (hts (.fieldLink RX2 10 "ChooseTree" "classes" "LChooseTree$Classes;") (by decide +kernel)) (fun _ h9 => h9) rfl dX2_replaces_23 ?_
      refine va_get (D := D) (ci := 1) (v := .ref (a 4)) (C := RX0) (T := TX0) (N := 10) hx hb hts (by decide +kernel) hown hK.1 hP 1 rfl rfl 2 (by decide) (hts (.fieldLink RX2 155 "ChooseTree$Classes" "pack" "[I") (by decide +kernel)) (fun _ h9 => h9) rfl dX2_replaces_26 ?_
      refine lv_aload_n hx hb dX2_replaces_29 rfl (lv_at hl 0 rfl) ?_
      refine va_get (D := D) (ci := 3) (v := .ref (a 2)) (C := RX2) (T := TX2) (N := 2) hx hb hts (by decide +kernel) hown hK.1 hP 0 rfl rfl 1 (by decide) (hts (.fieldLink RX2 19 "ChooseTree" "methods" "LChooseTree$Methods;") (by decide +kernel)) (fun _ h9 => h9) rfl dX2_replaces_30 ?_
      refine va_get (D := D) (ci := 2) (v := .ref (a 10)) (C := RX1) (T := TX1) (N := 7) hx hb hts (by decide +kernel) hown hK.1 hP 2 rfl rfl 1 (by decide) (hts (.fieldLink RX2 115 "ChooseTree$Methods" "owner" "[I") (by decide +kernel)) (fun _ h9 => h9) rfl dX2_replaces_33 ?_
      refine lv_iload_n hx hb dX2_replaces_36 rfl (lv_at hl 1 rfl) ?_
      refine na_iald (D := D) hx hb hK.1 hP 10 7 rfl rfl (i := n1) (by omega) (by decide) dX2_replaces_37 ?_
      refine na_iald (D := D) hx hb hK.1 hP 4 1 rfl rfl (i := ((cs_ow σ) n1)) (by omega) (by decide) dX2_replaces_38 ?_
      refine lv_aload_n hx hb dX2_replaces_39 rfl (lv_at hl 0 rfl) ?_
      refine va_get (D := D) (ci := 3) (v := .ref (a 1)) (C := RX2) (T := TX2) (N := 2) hx hb hts (by decide +kernel) hown hK.1 hP 0 rfl rfl 0 (by decide) (hts (.fieldLink RX2 10 "ChooseTree" "classes" "LChooseTree$Classes;") (by decide +kernel)) (fun _ h9 => h9) rfl dX2_replaces_40 ?_
      refine va_get (D := D) (ci := 1) (v := .ref (a 4)) (C := RX0) (T := TX0) (N := 10) hx hb hts (by decide +kernel) hown hK.1 hP 1 rfl rfl 2 (by decide) (hts (.fieldLink RX2 155 "ChooseTree$Classes" "pack" "[I") (by decide +kernel)) (fun _ h9 => h9) rfl dX2_replaces_43 ?_
      refine lv_aload_n hx hb dX2_replaces_46 rfl (lv_at hl 0 rfl) ?_
      refine va_get (D := D) (ci := 3) (v := .ref (a 2)) (C := RX2) (T := TX2) (N := 2) hx hb hts (by decide +kernel) hown hK.1 hP 0 rfl rfl 1 (by decide) (hts (.fieldLink RX2 19 "ChooseTree" "methods" "LChooseTree$Methods;") (by decide +kernel)) (fun _ h9 => h9) rfl dX2_replaces_47 ?_
      refine va_get (D := D) (ci := 2) (v := .ref (a 10)) (C := RX1) (T := TX1) (N := 7) hx hb hts (by decide +kernel) hown hK.1 hP 2 rfl rfl 1 (by decide) (hts (.fieldLink RX2 115 "ChooseTree$Methods" "owner" "[I") (by decide +kernel)) (fun _ h9 => h9) rfl dX2_replaces_50 ?_
      refine lv_iload_n hx hb dX2_replaces_53 rfl (lv_at hl 2 rfl) ?_
      refine na_iald (D := D) hx hb hK.1 hP 10 7 rfl rfl (i := n2) (by omega) (by decide) dX2_replaces_54 ?_
      refine na_iald (D := D) hx hb hK.1 hP 4 1 rfl rfl (i := ((cs_ow σ) n2)) (by omega) (by decide) dX2_replaces_55 ?_
      refine lv_icmp_eq (tgt := 68) hx hb dX2_replaces_56 (by decide) (fun c_5 => ?_) (fun c_5 => ?_)
      · refine lv_iconst (v := (nI 1)) hx hb dX2_replaces_68 (by decide) ?_
        refine lv_goto (tgt := 73) hx hb dX2_replaces_69 (by decide) ?_
        exact W.zret (v := (nI 1)) hx hb hr rfl (fun t ht hW => ⟨⟨(nI 1), (), rfl, (by simp [r_repl, bI, c_2, c_4, c_5]), trivial⟩, hS.F ht⟩) hS.2.2 dX2_replaces_73
      · refine lv_aload_n hx hb dX2_replaces_59 rfl (lv_at hl 0 rfl) ?_
        refine lv_iload_n hx hb dX2_replaces_60 rfl (lv_at hl 1 rfl) ?_
        refine lv_iload_n hx hb dX2_replaces_61 rfl (lv_at hl 2 rfl) ?_
        refine va_calli (va_runV (As := [.int (nI n1), .int (nI n2)]) (rest := []) ⟨hx, hb, hml, hown, hts⟩ (c_X2_replacesBetween l D a k σ hok n1 n2 hn1 hn2) (cwV 2 hts gX2_replaces_X2_replacesBetween rfl rfl rfl (by decide +kernel) ⟨Nat.le_of_ble_eq_true rfl, Nat.le_of_ble_eq_true rfl⟩) (cP_V hK hP 3 0 rfl rfl) rfl rfl hl.1 rfl (lv_room (Nat.le_of_ble_eq_true rfl)) dX2_replaces_62 ⟨Nat.le_of_ble_eq_true rfl, Nat.le_of_ble_eq_true rfl⟩) hS (fun _ _ h => h.elim) (fun _ h => h.elim) (fun r_6 u t H1 locs ht hvm hw hB hz1 hk1 hS => ?_)
        replace hP := ro_kept hP hk1
        obtain rfl : r_6 = _ := hw
        clear hk1 hz1 hvm ht hB
        generalize H1 = H at hP hS ⊢
        refine lv_if_eq (tgt := 72) hx hb dX2_replaces_65 (by decide) (fun c_7 => ?_) (fun c_7 => ?_)
        · replace c_7 := bI_0.mp c_7
          refine lv_iconst (v := (nI 0)) hx hb dX2_replaces_72 (by decide) ?_
          exact W.zret (v := (nI 0)) hx hb hr rfl (fun t ht hW => ⟨⟨(nI 0), (), rfl, (by simp [r_repl, bI, c_2, c_4, c_5, c_7]), trivial⟩, hS.F ht⟩) hS.2.2 dX2_replaces_73
        · replace c_7 := bI_n0.mp c_7
          refine lv_iconst (v := (nI 1)) hx hb dX2_replaces_68 (by decide) ?_
          refine lv_goto (tgt := 73) hx hb dX2_replaces_69 (by decide) ?_
          exact W.zret (v := (nI 1)) hx hb hr rfl (fun t ht hW => ⟨⟨(nI 1), (), rfl, (by simp [r_repl, bI, c_2, c_4, c_5, c_7]), trivial⟩, hS.F ht⟩) hS.2.2 dX2_replaces_73
  · replace c_2 := bI_0.mp c_2
    refine lv_iconst (v := (nI 0)) hx hb dX2_replaces_9 (by decide) ?_
    exact W.zret (v := (nI 0)) hx hb hr rfl (fun t ht hW => ⟨⟨(nI 0), (), rfl, (by simp [r_repl, bI, c_2]), trivial⟩, hS.F ht⟩) hS.2.2 dX2_replaces_10
set_option maxHeartbeats 4000000 in
set_option maxRecDepth 100000 in
theorem c_X2_overrides (l : Launch) (D : va_G) (a : Nat → Nat) (k : Nat → ClassId) (σ : CS) (hok : cok σ) (x1 x2 : Int32) : Met l yX2_overrides wsX2_overrides (rmC 5 114) (cP D a k σ [.ref (a 0), .int x1, .int x2]) (roQ (bI (s_overrides σ x1 x2))) 0 0 (fun _ => False) := by
  refine Met.ofW (cc := cX2_overrides) (maxL := 3) (ret := (some .boolean)) (by decide) rfl ?_
  intro p e s m args below meth c s₁ B hml hv
  obtain ⟨rfl, hP, hK⟩ := hv
  have hx := B.exec
  have hb := B.bytes
  have hr := B.returns
  have hts := atoms_spec (ws := wsX2_overrides) B.pre
  have hown : s.vm.findClass RX2 = some m.cls := findClass_of_methodNamed B.named
  have hlocks := B.notSynchronized
  clear B
  have hl := lv_entry ([.ref (a 0), .int x1, .int x2]) (n := 3) (Nat.le_of_ble_eq_true rfl)
  rw [lg_entry_eq]
  generalize (lg_sl ([.ref (a 0), .int x1, .int x2]) ++ List.replicate (3 - (lg_sl ([.ref (a 0), .int x1, .int x2])).length) Slot.unset).toArray = ls at hl ⊢
  replace hl : lv_has ls 3 [(0, .ref (a 0)), (1, .int x1), (2, .int x2)] := hl
  refine gen_start (A := (fun _ => False)) (fun H locs hP hS => ?_) hP
  obtain ⟨hb0, ⟨hb1, hb2, hb3, hb4, hb5, hb6⟩, hb7, hb8⟩ := id hok
  refine lv_aload_n hx hb dX2_overrides_0 rfl (lv_at hl 0 rfl) ?_
  refine va_get (D := D) (ci := 3) (v := .ref (a 2)) (C := RX2) (T := TX2) (N := 2) hx hb hts (by decide +kernel) hown hK.1 hP 0 rfl rfl 1 (by decide) (hts (.fieldLink RX2 19 "ChooseTree" "methods" "LChooseTree$Methods;") (by decide +kernel)) (fun _ h9 => h9) rfl dX2_overrides_1 ?_
  refine lv_iload_n hx hb dX2_overrides_4 rfl (lv_at hl 1 rfl) ?_
  refine va_calli (va_runV (As := [.int x1]) (rest := []) ⟨hx, hb, hml, hown, hts⟩ (c_X1_exists l D a k σ x1) (cwV 1 hts gX2_overrides_X1_exists rfl rfl rfl (by decide +kernel) ⟨Nat.le_of_ble_eq_true rfl, Nat.le_of_ble_eq_true rfl⟩) (cP_V hK hP 2 2 rfl rfl) rfl rfl hl.1 rfl (lv_room (Nat.le_of_ble_eq_true rfl)) dX2_overrides_5 ⟨Nat.le_of_ble_eq_true rfl, Nat.le_of_ble_eq_true rfl⟩) hS (fun _ _ h => h.elim) (fun _ h => h.elim) (fun r_1 u t H1 locs ht hvm hw hB hz1 hk1 hS => ?_)
  replace hP := ro_kept hP hk1
  obtain rfl : r_1 = _ := hw
  clear hk1 hz1 hvm ht hB
  generalize H1 = H at hP hS ⊢
  refine lv_if_eq (tgt := 35) hx hb dX2_overrides_8 (by decide) (fun c_2 => ?_) (fun c_2 => ?_)
  · replace c_2 := bI_0.mp c_2
    refine lv_iconst (v := (nI 0)) hx hb dX2_overrides_35 (by decide) ?_
    exact W.zret (v := (nI 0)) hx hb hr rfl (fun t ht hW => ⟨⟨(nI 0), (), rfl, (by simp [s_overrides, bI, c_2]), trivial⟩, hS.F ht⟩) hS.2.2 dX2_overrides_36
  · replace c_2 := bI_n0.mp c_2
    obtain ⟨j1, hj1, ej1⟩ := m_exists_of hok c_2
    subst ej1
    have hclj1 := nI_clamp (n := j1) (by omega)
    refine lv_aload_n hx hb dX2_overrides_11 rfl (lv_at hl 0 rfl) ?_
    refine va_get (D := D) (ci := 3) (v := .ref (a 2)) (C := RX2) (T := TX2) (N := 2) hx hb hts (by decide +kernel) hown hK.1 hP 0 rfl rfl 1 (by decide) (hts (.fieldLink RX2 19 "ChooseTree" "methods" "LChooseTree$Methods;") (by decide +kernel)) (fun _ h9 => h9) rfl dX2_overrides_12 ?_
    refine lv_iload_n hx hb dX2_overrides_15 rfl (lv_at hl 2 rfl) ?_
    refine va_calli (va_runV (As := [.int x2]) (rest := []) ⟨hx, hb, hml, hown, hts⟩ (c_X1_exists l D a k σ x2) (cwV 1 hts gX2_overrides_X1_exists rfl rfl rfl (by decide +kernel) ⟨Nat.le_of_ble_eq_true rfl, Nat.le_of_ble_eq_true rfl⟩) (cP_V hK hP 2 2 rfl rfl) rfl rfl hl.1 rfl (lv_room (Nat.le_of_ble_eq_true rfl)) dX2_overrides_16 ⟨Nat.le_of_ble_eq_true rfl, Nat.le_of_ble_eq_true rfl⟩) hS (fun _ _ h => h.elim) (fun _ h => h.elim) (fun r_3 u t H1 locs ht hvm hw hB hz1 hk1 hS => ?_)
    replace hP := ro_kept hP hk1
    obtain rfl : r_3 = _ := hw
    clear hk1 hz1 hvm ht hB
    generalize H1 = H at hP hS ⊢
    refine lv_if_eq (tgt := 35) hx hb dX2_overrides_19 (by decide) (fun c_4 => ?_) (fun c_4 => ?_)
    · replace c_4 := bI_0.mp c_4
      refine lv_iconst (v := (nI 0)) hx hb dX2_overrides_35 (by decide) ?_
      exact W.zret (v := (nI 0)) hx hb hr rfl (fun t ht hW => ⟨⟨(nI 0), (), rfl, (by simp [s_overrides, bI, c_2, hclj1, c_4]), trivial⟩, hS.F ht⟩) hS.2.2 dX2_overrides_36
    · replace c_4 := bI_n0.mp c_4
      obtain ⟨j2, hj2, ej2⟩ := m_exists_of hok c_4
      subst ej2
      have hclj2 := nI_clamp (n := j2) (by omega)
      refine lv_aload_n hx hb dX2_overrides_22 rfl (lv_at hl 0 rfl) ?_
      refine lv_iload_n hx hb dX2_overrides_23 rfl (lv_at hl 1 rfl) ?_
      refine lv_iload_n hx hb dX2_overrides_24 rfl (lv_at hl 2 rfl) ?_
      refine va_calli (va_runV (As := [.int (nI j1), .int (nI j2)]) (rest := []) ⟨hx, hb, hml, hown, hts⟩ (c_X2_replaces l D a k σ hok j1 j2 (by omega) (by omega)) (cwV 2 hts gX2_overrides_X2_replaces rfl rfl rfl (by decide +kernel) ⟨Nat.le_of_ble_eq_true rfl, Nat.le_of_ble_eq_true rfl⟩) (cP_V hK hP 3 0 rfl rfl) rfl rfl hl.1 rfl (lv_room (Nat.le_of_ble_eq_true rfl)) dX2_overrides_25 ⟨Nat.le_of_ble_eq_true rfl, Nat.le_of_ble_eq_true rfl⟩) hS (fun _ _ h => h.elim) (fun _ h => h.elim) (fun r_5 u t H1 locs ht hvm hw hB hz1 hk1 hS => ?_)
      replace hP := ro_kept hP hk1
      obtain rfl : r_5 = _ := hw
      clear hk1 hz1 hvm ht hB
      generalize H1 = H at hP hS ⊢
      refine lv_if_eq (tgt := 35) hx hb dX2_overrides_28 (by decide) (fun c_6 => ?_) (fun c_6 => ?_)
      · replace c_6 := bI_0.mp c_6
        refine lv_iconst (v := (nI 0)) hx hb dX2_overrides_35 (by decide) ?_
        exact W.zret (v := (nI 0)) hx hb hr rfl (fun t ht hW => ⟨⟨(nI 0), (), rfl, (by simp [s_overrides, bI, c_2, hclj1, c_4, hclj2, c_6]), trivial⟩, hS.F ht⟩) hS.2.2 dX2_overrides_36
      · replace c_6 := bI_n0.mp c_6
        refine lv_iconst (v := (nI 1)) hx hb dX2_overrides_31 (by decide) ?_
        refine lv_goto (tgt := 36) hx hb dX2_overrides_32 (by decide) ?_
        exact W.zret (v := (nI 1)) hx hb hr rfl (fun t ht hW => ⟨⟨(nI 1), (), rfl, (by simp [s_overrides, bI, c_2, hclj1, c_4, hclj2, c_6]), trivial⟩, hS.F ht⟩) hS.2.2 dX2_overrides_36
set_option maxHeartbeats 4000000 in
set_option maxRecDepth 100000 in
theorem c_X2_replacesFinal (l : Launch) (D : va_G) (a : Nat → Nat) (k : Nat → ClassId) (σ : CS) (hok : cok σ) (n1 : Nat) (hn1 : n1 < 400) : Met l yX2_replacesFinal wsX2_replacesFinal (rmC 5 114) (cP D a k σ [.ref (a 0), .int (nI n1)]) (roQ (bI (r_final σ n1))) 0 0 (fun _ => False) := by
  refine Met.ofW (cc := cX2_replacesFinal) (maxL := 5) (ret := (some .boolean)) (by decide) rfl ?_
  intro p e s m args below meth c s₁ B hml hv
  obtain ⟨rfl, hP, hK⟩ := hv
  have hx := B.exec
  have hb := B.bytes
  have hr := B.returns
  have hts := atoms_spec (ws := wsX2_replacesFinal) B.pre
  have hown : s.vm.findClass RX2 = some m.cls := findClass_of_methodNamed B.named
  have hlocks := B.notSynchronized
  clear B
  have hl := lv_entry ([.ref (a 0), .int (nI n1)]) (n := 5) (Nat.le_of_ble_eq_true rfl)
  rw [lg_entry_eq]
  generalize (lg_sl ([.ref (a 0), .int (nI n1)]) ++ List.replicate (5 - (lg_sl ([.ref (a 0), .int (nI n1)])).length) Slot.unset).toArray = ls at hl ⊢
  replace hl : lv_has ls 5 [(0, .ref (a 0)), (1, .int (nI n1))] := hl
  refine gen_start (A := (fun _ => False)) (fun H locs hP hS => ?_) hP
  obtain ⟨hb0, ⟨hb1, hb2, hb3, hb4, hb5, hb6⟩, hb7, hb8⟩ := id hok
  have hw1 := hb3 n1 hn1
  refine lv_aload_n hx hb dX2_replacesFinal_0 rfl (lv_at hl 0 rfl) ?_
  refine va_get (D := D) (ci := 3) (v := .ref (a 2)) (C := RX2) (T := TX2) (N := 2) hx hb hts (by decide +kernel) hown hK.1 hP 0 rfl rfl 1 (by decide) (hts (.fieldLink RX2 19 "ChooseTree" "methods" "LChooseTree$Methods;") (by decide +kernel)) (fun _ h9 => h9) rfl dX2_replacesFinal_1 ?_
  refine va_get (D := D) (ci := 2) (v := .ref (a 10)) (C := RX1) (T := TX1) (N := 7) hx hb hts (by decide +kernel) hown hK.1 hP 2 rfl rfl 1 (by decide) (hts (.fieldLink RX2 115 "ChooseTree$Methods" "owner" "[I") (by decide +kernel)) (fun _ h9 => h9) rfl dX2_replacesFinal_4 ?_
  refine lv_iload_n hx hb dX2_replacesFinal_7 rfl (lv_at hl 1 rfl) ?_
  refine na_iald (D := D) hx hb hK.1 hP 10 7 rfl rfl (i := n1) (by omega) (by decide) dX2_replacesFinal_8 ?_
  refine lv_istore_n (lv' := [(2, .int (nI ((cs_ow σ) n1))), (0, .ref (a 0)), (1, .int (nI n1))]) hx hb dX2_replacesFinal_9 rfl hl (by decide) rfl (fun ls hl => ?_)
  refine lv_iload_n hx hb dX2_replacesFinal_10 rfl (lv_at hl 0 rfl) ?_
  refine lv_iconst (v := (nI 1)) hx hb dX2_replacesFinal_11 (by decide) ?_
  refine lv_isub hx hb dX2_replacesFinal_12 ?_
  refine lv_istore_n (lv' := [(3, .int ((nI ((cs_ow σ) n1)) - (nI 1))), (2, .int (nI ((cs_ow σ) n1))), (0, .ref (a 0)), (1, .int (nI n1))]) hx hb dX2_replacesFinal_13 rfl hl (by decide) rfl (fun ls hl => ?_)
  obtain ⟨n, hn⟩ : ∃ n : Nat, n = cs_ow σ n1 := ⟨_, rfl⟩
  have hE : n ≤ 60 := by omega
  have hres : r_fin σ n1 n = r_final σ n1 := by rw [hn]; rfl
  replace hl : lv_has ls 5 [(3, .int (nI n - nI 1)), (2, .int (nI ((cs_ow σ) n1))), (0, .ref (a 0)), (1, .int (nI n1))] := by rw [hn]; exact hl
  clear hn
  revert hl
  revert hres
  revert hE
  revert hS
  revert hP
  revert ls
  revert locs
  revert H
  induction n with
  | zero =>
    intro H locs ls hP hS hE hres hl
    refine lv_iload_n hx hb dX2_replacesFinal_14 rfl (lv_at hl 0 rfl) ?_
    refine lv_if_lt (tgt := 85) hx hb dX2_replacesFinal_15 (by decide) (fun c_1 => ?_) (fun c_1 => ?_)
    · refine lv_iconst (v := (nI 0)) hx hb dX2_replacesFinal_85 (by decide) ?_
      exact W.zret (v := (nI 0)) hx hb hr rfl (fun t ht hW => ⟨⟨(nI 0), (), rfl, (by rw [← hres]; rfl), trivial⟩, hS.F ht⟩) hS.2.2 dX2_replacesFinal_86
    · exact absurd (by decide) c_1
  | succ n ih =>
    intro H locs ls hP hS hE hres hl
    rw [kpred] at hl
    have hn6 : n < 60 := by omega
    refine lv_iload_n hx hb dX2_replacesFinal_14 rfl (lv_at hl 0 rfl) ?_
    refine lv_if_lt (tgt := 85) hx hb dX2_replacesFinal_15 (by decide) (fun c_2 => ?_) (fun c_2 => ?_)
    · exact absurd c_2 (nI_pos (by omega))
    · refine lv_aload_n hx hb dX2_replacesFinal_18 rfl (lv_at hl 2 rfl) ?_
      refine va_get (D := D) (ci := 3) (v := .ref (a 1)) (C := RX2) (T := TX2) (N := 2) hx hb hts (by decide +kernel) hown hK.1 hP 0 rfl rfl 0 (by decide) (hts (.fieldLink RX2 10 "ChooseTree" "classes" "LChooseTree$Classes;") (by decide +kernel)) (fun _ h9 => h9) rfl dX2_replacesFinal_19 ?_
      refine lv_iload_n hx hb dX2_replacesFinal_22 rfl (lv_at hl 1 rfl) ?_
      refine lv_iload_n hx hb dX2_replacesFinal_23 rfl (lv_at hl 0 rfl) ?_
      refine va_calli (va_runV (As := [.int (nI ((cs_ow σ) n1)), .int (nI n)]) (rest := []) ⟨hx, hb, hml, hown, hts⟩ (c_X0_inRow l D a k σ (cs_ow σ n1) n hw1 hn6) (cwV 2 hts gX2_replacesFinal_X0_inRow rfl rfl rfl (by decide +kernel) ⟨Nat.le_of_ble_eq_true rfl, Nat.le_of_ble_eq_true rfl⟩) (cP_V hK hP 1 1 rfl rfl) rfl rfl hl.1 rfl (lv_room (Nat.le_of_ble_eq_true rfl)) dX2_replacesFinal_24 ⟨Nat.le_of_ble_eq_true rfl, Nat.le_of_ble_eq_true rfl⟩) hS (fun _ _ h => h.elim) (fun _ h => h.elim) (fun r_3 u t H1 locs ht hvm hw hB hz1 hk1 hS => ?_)
      replace hP := ro_kept hP hk1
      obtain rfl : r_3 = _ := hw
      clear hk1 hz1 hvm ht hB
      generalize H1 = H at hP hS ⊢
      refine lv_if_eq (tgt := 79) hx hb dX2_replacesFinal_27 (by decide) (fun c_4 => ?_) (fun c_4 => ?_)
      · replace c_4 := bI_0.mp c_4
        refine lv_iinc (v := ((nI n) - nI 1)) (lv' := [(3, .int ((nI n) - nI 1)), (2, .int (nI ((cs_ow σ) n1))), (0, .ref (a 0)), (1, .int (nI n1))]) hx hb dX2_replacesFinal_79 hl (k := 0) rfl (kdec _) (by decide) rfl (fun ls hl => ?_)
        refine lv_goto (tgt := 14) hx hb dX2_replacesFinal_82 (by decide) ?_
        exact ih H locs ls hP hS (by omega) (by rw [← hres]; simp [r_fin, c_2, c_4]) (lv_sub hl [0, 1, 2, 3] rfl)
      · replace c_4 := bI_n0.mp c_4
        refine lv_aload_n hx hb dX2_replacesFinal_30 rfl (lv_at hl 2 rfl) ?_
        refine va_get (D := D) (ci := 3) (v := .ref (a 2)) (C := RX2) (T := TX2) (N := 2) hx hb hts (by decide +kernel) hown hK.1 hP 0 rfl rfl 1 (by decide) (hts (.fieldLink RX2 19 "ChooseTree" "methods" "LChooseTree$Methods;") (by decide +kernel)) (fun _ h9 => h9) rfl dX2_replacesFinal_31 ?_
        refine lv_iload_n hx hb dX2_replacesFinal_34 rfl (lv_at hl 0 rfl) ?_
        refine lv_aload_n hx hb dX2_replacesFinal_35 rfl (lv_at hl 2 rfl) ?_
        refine va_get (D := D) (ci := 3) (v := .ref (a 2)) (C := RX2) (T := TX2) (N := 2) hx hb hts (by decide +kernel) hown hK.1 hP 0 rfl rfl 1 (by decide) (hts (.fieldLink RX2 19 "ChooseTree" "methods" "LChooseTree$Methods;") (by decide +kernel)) (fun _ h9 => h9) rfl dX2_replacesFinal_36 ?_
        refine va_get (D := D) (ci := 2) (v := .ref (a 11)) (C := RX1) (T := TX1) (N := 7) hx hb hts (by decide +kernel) hown hK.1 hP 2 rfl rfl 2 (by decide) (hts (.fieldLink RX2 131 "ChooseTree$Methods" "name" "[I") (by decide +kernel)) (fun _ h9 => h9) rfl dX2_replacesFinal_39 ?_
        refine lv_iload_n hx hb dX2_replacesFinal_42 rfl (lv_at hl 3 rfl) ?_
        refine na_iald (D := D) hx hb hK.1 hP 11 8 rfl rfl (i := n1) (by omega) (by decide) dX2_replacesFinal_43 ?_
        refine va_calli (va_runV (As := [.int (nI n), .int ((cs_nm σ) n1)]) (rest := []) ⟨hx, hb, hml, hown, hts⟩ (c_X1_inClass l D a k σ hok n hn6 (cs_nm σ n1)) (cwV 2 hts gX2_replacesFinal_X1_inClass rfl rfl rfl (by decide +kernel) ⟨Nat.le_of_ble_eq_true rfl, Nat.le_of_ble_eq_true rfl⟩) (cP_V hK hP 2 2 rfl rfl) rfl rfl hl.1 rfl (lv_room (Nat.le_of_ble_eq_true rfl)) dX2_replacesFinal_44 ⟨Nat.le_of_ble_eq_true rfl, Nat.le_of_ble_eq_true rfl⟩) hS (fun _ _ h => h.elim) (fun _ h => h.elim) (fun r_5 u t H1 locs ht hvm hw hB hz1 hk1 hS => ?_)
        replace hP := ro_kept hP hk1
        obtain rfl : r_5 = _ := hw
        clear hk1 hz1 hvm ht hB
        generalize H1 = H at hP hS ⊢
        refine lv_istore (lv' := [(4, .int (m_inClass σ n ((cs_nm σ) n1))), (3, .int (nI n)), (2, .int (nI ((cs_ow σ) n1))), (0, .ref (a 0)), (1, .int (nI n1))]) hx hb dX2_replacesFinal_47 hl (by decide) rfl (fun ls hl => ?_)
        refine lv_iload hx hb dX2_replacesFinal_49 (lv_at hl 0 rfl) ?_
        refine lv_iconst (v := (-1)) hx hb dX2_replacesFinal_51 (by decide) ?_
        refine lv_icmp_eq (tgt := 79) hx hb dX2_replacesFinal_52 (by decide) (fun c_6 => ?_) (fun c_6 => ?_)
        · refine lv_iinc (v := ((nI n) - nI 1)) (lv' := [(3, .int ((nI n) - nI 1)), (4, .int (m_inClass σ n ((cs_nm σ) n1))), (2, .int (nI ((cs_ow σ) n1))), (0, .ref (a 0)), (1, .int (nI n1))]) hx hb dX2_replacesFinal_79 hl (k := 1) rfl (kdec _) (by decide) rfl (fun ls hl => ?_)
          refine lv_goto (tgt := 14) hx hb dX2_replacesFinal_82 (by decide) ?_
          exact ih H locs ls hP hS (by omega) (by rw [← hres]; simp [r_fin, c_2, c_4, c_6]) (lv_sub hl [0, 2, 3, 4] rfl)
        · obtain ⟨j, hj, ej⟩ := (m_inClass_of hok hn6 ((cs_nm σ) n1)).resolve_left c_6
          rw [ej] at hl
          have ec : (m_inClass σ n ((cs_nm σ) n1)).toNatClampNeg = j := by rw [ej]; exact nI_clamp (by omega)
          refine lv_aload_n hx hb dX2_replacesFinal_55 rfl (lv_at hl 3 rfl) ?_
          refine va_get (D := D) (ci := 3) (v := .ref (a 2)) (C := RX2) (T := TX2) (N := 2) hx hb hts (by decide +kernel) hown hK.1 hP 0 rfl rfl 1 (by decide) (hts (.fieldLink RX2 19 "ChooseTree" "methods" "LChooseTree$Methods;") (by decide +kernel)) (fun _ h9 => h9) rfl dX2_replacesFinal_56 ?_
          refine lv_iload hx hb dX2_replacesFinal_59 (lv_at hl 0 rfl) ?_
          refine va_calli (va_runV (As := [.int (nI j)]) (rest := []) ⟨hx, hb, hml, hown, hts⟩ (c_X1_isFinal l D a k σ j (by omega)) (cwV 1 hts gX2_replacesFinal_X1_isFinal rfl rfl rfl (by decide +kernel) ⟨Nat.le_of_ble_eq_true rfl, Nat.le_of_ble_eq_true rfl⟩) (cP_V hK hP 2 2 rfl rfl) rfl rfl hl.1 rfl (lv_room (Nat.le_of_ble_eq_true rfl)) dX2_replacesFinal_61 ⟨Nat.le_of_ble_eq_true rfl, Nat.le_of_ble_eq_true rfl⟩) hS (fun _ _ h => h.elim) (fun _ h => h.elim) (fun r_7 u t H1 locs ht hvm hw hB hz1 hk1 hS => ?_)
          replace hP := ro_kept hP hk1
          obtain rfl : r_7 = _ := hw
          clear hk1 hz1 hvm ht hB
          generalize H1 = H at hP hS ⊢
          refine lv_if_eq (tgt := 79) hx hb dX2_replacesFinal_64 (by decide) (fun c_8 => ?_) (fun c_8 => ?_)
          · replace c_8 := bI_0.mp c_8
            refine lv_iinc (v := ((nI n) - nI 1)) (lv' := [(3, .int ((nI n) - nI 1)), (4, .int (nI j)), (2, .int (nI ((cs_ow σ) n1))), (0, .ref (a 0)), (1, .int (nI n1))]) hx hb dX2_replacesFinal_79 hl (k := 1) rfl (kdec _) (by decide) rfl (fun ls hl => ?_)
            refine lv_goto (tgt := 14) hx hb dX2_replacesFinal_82 (by decide) ?_
            exact ih H locs ls hP hS (by omega) (by rw [← hres]; simp [r_fin, c_2, c_4, c_6, ec, c_8]) (lv_sub hl [0, 2, 3, 4] rfl)
          · replace c_8 := bI_n0.mp c_8
            refine lv_aload_n hx hb dX2_replacesFinal_67 rfl (lv_at hl 3 rfl) ?_
            refine lv_iload_n hx hb dX2_replacesFinal_68 rfl (lv_at hl 4 rfl) ?_
            refine lv_iload hx hb dX2_replacesFinal_69 (lv_at hl 0 rfl) ?_
            refine va_calli (va_runV (As := [.int (nI n1), .int (nI j)]) (rest := []) ⟨hx, hb, hml, hown, hts⟩ (c_X2_replaces l D a k σ hok n1 j hn1 (by omega)) (cwV 2 hts gX2_replacesFinal_X2_replaces rfl rfl rfl (by decide +kernel) ⟨Nat.le_of_ble_eq_true rfl, Nat.le_of_ble_eq_true rfl⟩) (cP_V hK hP 3 0 rfl rfl) rfl rfl hl.1 rfl (lv_room (Nat.le_of_ble_eq_true rfl)) dX2_replacesFinal_71 ⟨Nat.le_of_ble_eq_true rfl, Nat.le_of_ble_eq_true rfl⟩) hS (fun _ _ h => h.elim) (fun _ h => h.elim) (fun r_9 u t H1 locs ht hvm hw hB hz1 hk1 hS => ?_)
            replace hP := ro_kept hP hk1
            obtain rfl : r_9 = _ := hw
            clear hk1 hz1 hvm ht hB
            generalize H1 = H at hP hS ⊢
            refine lv_if_eq (tgt := 79) hx hb dX2_replacesFinal_74 (by decide) (fun c_10 => ?_) (fun c_10 => ?_)
            · replace c_10 := bI_0.mp c_10
              refine lv_iinc (v := ((nI n) - nI 1)) (lv' := [(3, .int ((nI n) - nI 1)), (4, .int (nI j)), (2, .int (nI ((cs_ow σ) n1))), (0, .ref (a 0)), (1, .int (nI n1))]) hx hb dX2_replacesFinal_79 hl (k := 1) rfl (kdec _) (by decide) rfl (fun ls hl => ?_)
              refine lv_goto (tgt := 14) hx hb dX2_replacesFinal_82 (by decide) ?_
              exact ih H locs ls hP hS (by omega) (by rw [← hres]; simp [r_fin, c_2, c_4, c_6, ec, c_8, c_10]) (lv_sub hl [0, 2, 3, 4] rfl)
            · replace c_10 := bI_n0.mp c_10
              refine lv_iconst (v := (nI 1)) hx hb dX2_replacesFinal_77 (by decide) ?_
              exact W.zret (v := (nI 1)) hx hb hr rfl (fun t ht hW => ⟨⟨(nI 1), (), rfl, (by rw [← hres]; simp [r_fin, bI, c_2, c_4, c_6, ec, c_8, c_10]), trivial⟩, hS.F ht⟩) hS.2.2 dX2_replacesFinal_78
set_option maxHeartbeats 4000000 in
set_option maxRecDepth 100000 in
theorem c_X2_broken (l : Launch) (D : va_G) (a : Nat → Nat) (k : Nat → ClassId) (σ : CS) (hok : cok σ) (x1 : Int32) : Met l yX2_broken wsX2_broken (rmC 6 138) (cP D a k σ [.ref (a 0), .int x1]) (roQ (s_broken σ x1)) 0 0 (fun _ => False) := by
  refine Met.ofW (cc := cX2_broken) (maxL := 4) (ret := (some .int)) (by decide) rfl ?_
  intro p e s m args below meth c s₁ B hml hv
  obtain ⟨rfl, hP, hK⟩ := hv
  have hx := B.exec
  have hb := B.bytes
  have hr := B.returns
  have hts := atoms_spec (ws := wsX2_broken) B.pre
  have hown : s.vm.findClass RX2 = some m.cls := findClass_of_methodNamed B.named
  have hlocks := B.notSynchronized
  clear B
  have hl := lv_entry ([.ref (a 0), .int x1]) (n := 4) (Nat.le_of_ble_eq_true rfl)
  rw [lg_entry_eq]
  generalize (lg_sl ([.ref (a 0), .int x1]) ++ List.replicate (4 - (lg_sl ([.ref (a 0), .int x1])).length) Slot.unset).toArray = ls at hl ⊢
  replace hl : lv_has ls 4 [(0, .ref (a 0)), (1, .int x1)] := hl
  refine gen_start (A := (fun _ => False)) (fun H locs hP hS => ?_) hP
  obtain ⟨hb0, ⟨hb1, hb2, hb3, hb4, hb5, hb6⟩, hb7, hb8⟩ := id hok
  refine lv_aload_n hx hb dX2_broken_0 rfl (lv_at hl 0 rfl) ?_
  refine va_get (D := D) (ci := 3) (v := .ref (a 1)) (C := RX2) (T := TX2) (N := 2) hx hb hts (by decide +kernel) hown hK.1 hP 0 rfl rfl 0 (by decide) (hts (.fieldLink RX2 10 "ChooseTree" "classes" "LChooseTree$Classes;") (by decide +kernel)) (fun _ h9 => h9) rfl dX2_broken_1 ?_
  refine lv_iload_n hx hb dX2_broken_4 rfl (lv_at hl 1 rfl) ?_
  refine va_calli (va_runV (As := [.int x1]) (rest := []) ⟨hx, hb, hml, hown, hts⟩ (c_X0_exists l D a k σ x1) (cwV 1 hts gX2_broken_X0_exists rfl rfl rfl (by decide +kernel) ⟨Nat.le_of_ble_eq_true rfl, Nat.le_of_ble_eq_true rfl⟩) (cP_V hK hP 1 1 rfl rfl) rfl rfl hl.1 rfl (lv_room (Nat.le_of_ble_eq_true rfl)) dX2_broken_5 ⟨Nat.le_of_ble_eq_true rfl, Nat.le_of_ble_eq_true rfl⟩) hS (fun _ _ h => h.elim) (fun _ h => h.elim) (fun r_1 u t H1 locs ht hvm hw hB hz1 hk1 hS => ?_)
  replace hP := ro_kept hP hk1
  obtain rfl : r_1 = _ := hw
  clear hk1 hz1 hvm ht hB
  generalize H1 = H at hP hS ⊢
  refine lv_if_ne (tgt := 13) hx hb dX2_broken_8 (by decide) (fun c_2 => ?_) (fun c_2 => ?_)
  · replace c_2 := bI_n0.mp c_2
    obtain ⟨j1, hj1, ej1⟩ := s_exists_of hok c_2
    subst ej1
    have hclj1 := nI_clamp (n := j1) (by omega)
    refine lv_aload_n hx hb dX2_broken_13 rfl (lv_at hl 0 rfl) ?_
    refine va_get (D := D) (ci := 3) (v := .ref (a 2)) (C := RX2) (T := TX2) (N := 2) hx hb hts (by decide +kernel) hown hK.1 hP 0 rfl rfl 1 (by decide) (hts (.fieldLink RX2 19 "ChooseTree" "methods" "LChooseTree$Methods;") (by decide +kernel)) (fun _ h9 => h9) rfl dX2_broken_14 ?_
    refine va_get (D := D) (ci := 2) (v := .ref (a 12)) (C := RX1) (T := TX1) (N := 7) hx hb hts (by decide +kernel) hown hK.1 hP 2 rfl rfl 3 (by decide) (hts (.fieldLink RX2 89 "ChooseTree$Methods" "first" "[I") (by decide +kernel)) (fun _ h9 => h9) rfl dX2_broken_17 ?_
    refine lv_iload_n hx hb dX2_broken_20 rfl (lv_at hl 1 rfl) ?_
    refine na_iald (D := D) hx hb hK.1 hP 12 9 rfl rfl (i := j1) (by omega) (by decide) dX2_broken_21 ?_
    refine lv_aload_n hx hb dX2_broken_22 rfl (lv_at hl 0 rfl) ?_
    refine va_get (D := D) (ci := 3) (v := .ref (a 2)) (C := RX2) (T := TX2) (N := 2) hx hb hts (by decide +kernel) hown hK.1 hP 0 rfl rfl 1 (by decide) (hts (.fieldLink RX2 19 "ChooseTree" "methods" "LChooseTree$Methods;") (by decide +kernel)) (fun _ h9 => h9) rfl dX2_broken_23 ?_
    refine va_get (D := D) (ci := 2) (v := .ref (a 13)) (C := RX1) (T := TX1) (N := 7) hx hb hts (by decide +kernel) hown hK.1 hP 2 rfl rfl 4 (by decide) (hts (.fieldLink RX2 44 "ChooseTree$Methods" "amount" "[I") (by decide +kernel)) (fun _ h9 => h9) rfl dX2_broken_26 ?_
    refine lv_iload_n hx hb dX2_broken_29 rfl (lv_at hl 1 rfl) ?_
    refine na_iald (D := D) hx hb hK.1 hP 13 10 rfl rfl (i := j1) (by omega) (by decide) dX2_broken_30 ?_
    refine lv_iaddN hx hb dX2_broken_31 ?_
    refine lv_istore_n (lv' := [(2, .int (nI (((cs_fi σ) j1) + ((cs_am σ) j1)))), (0, .ref (a 0)), (1, .int (nI j1))]) hx hb dX2_broken_32 rfl hl (by decide) rfl (fun ls hl => ?_)
    refine lv_aload_n hx hb dX2_broken_33 rfl (lv_at hl 1 rfl) ?_
    refine va_get (D := D) (ci := 3) (v := .ref (a 2)) (C := RX2) (T := TX2) (N := 2) hx hb hts (by decide +kernel) hown hK.1 hP 0 rfl rfl 1 (by decide) (hts (.fieldLink RX2 19 "ChooseTree" "methods" "LChooseTree$Methods;") (by decide +kernel)) (fun _ h9 => h9) rfl dX2_broken_34 ?_
    refine va_get (D := D) (ci := 2) (v := .ref (a 12)) (C := RX1) (T := TX1) (N := 7) hx hb hts (by decide +kernel) hown hK.1 hP 2 rfl rfl 3 (by decide) (hts (.fieldLink RX2 89 "ChooseTree$Methods" "first" "[I") (by decide +kernel)) (fun _ h9 => h9) rfl dX2_broken_37 ?_
    refine lv_iload_n hx hb dX2_broken_40 rfl (lv_at hl 2 rfl) ?_
    refine na_iald (D := D) hx hb hK.1 hP 12 9 rfl rfl (i := j1) (by omega) (by decide) dX2_broken_41 ?_
    refine lv_istore_n (lv' := [(3, .int (nI ((cs_fi σ) j1))), (2, .int (nI (((cs_fi σ) j1) + ((cs_am σ) j1)))), (0, .ref (a 0)), (1, .int (nI j1))]) hx hb dX2_broken_42 rfl hl (by decide) rfl (fun ls hl => ?_)
    have hq := hb2 j1 (by omega)
    obtain ⟨n, hn⟩ : ∃ n : Nat, n = cs_am σ j1 := ⟨_, rfl⟩
    obtain ⟨i, hi⟩ : ∃ i : Nat, i = cs_fi σ j1 := ⟨_, rfl⟩
    have hE : i + n = cs_fi σ j1 + cs_am σ j1 := by omega
    have hres : r_brk σ n i = s_broken σ (nI j1) := by rw [hn, hi]; simp [s_broken, c_2, hclj1]
    replace hl : lv_has ls 4 [(3, .int (nI i)), (2, .int (nI ((cs_fi σ) j1 + (cs_am σ) j1))), (0, .ref (a 0)), (1, .int (nI j1))] := by rw [hi]; exact hl
    clear hn hi
    revert hl
    revert hres
    revert hE
    revert hS
    revert hP
    revert ls
    revert locs
    revert H
    revert i
    induction n with
    | zero =>
      intro i H locs ls hP hS hE hres hl
      refine lv_iload_n hx hb dX2_broken_43 rfl (lv_at hl 0 rfl) ?_
      refine lv_iload_n hx hb dX2_broken_44 rfl (lv_at hl 1 rfl) ?_
      refine lv_icmp_ge (tgt := 64) hx hb dX2_broken_45 (by decide) (fun c_3 => ?_) (fun c_3 => ?_)
      · refine lv_iconst (v := (-1)) hx hb dX2_broken_64 (by decide) ?_
        exact W.iret (v := (-1)) hx hb hr (fun t ht hW => ⟨⟨(-1), (), rfl, (by rw [← hres]; rfl), trivial⟩, hS.F ht⟩) hS.2.2 dX2_broken_65
      · exact absurd (nI_le (by omega) (by omega)) c_3
    | succ n ih =>
      intro i H locs ls hP hS hE hres hl
      refine lv_iload_n hx hb dX2_broken_43 rfl (lv_at hl 0 rfl) ?_
      refine lv_iload_n hx hb dX2_broken_44 rfl (lv_at hl 1 rfl) ?_
      refine lv_icmp_ge (tgt := 64) hx hb dX2_broken_45 (by decide) (fun c_4 => ?_) (fun c_4 => ?_)
      · exact absurd c_4 (nI_ge (by omega) (by omega))
      · refine lv_aload_n hx hb dX2_broken_48 rfl (lv_at hl 2 rfl) ?_
        refine lv_iload_n hx hb dX2_broken_49 rfl (lv_at hl 0 rfl) ?_
        refine va_calli (va_runV (As := [.int (nI i)]) (rest := []) ⟨hx, hb, hml, hown, hts⟩ (c_X2_replacesFinal l D a k σ hok i (by omega)) (cwV 1 hts gX2_broken_X2_replacesFinal rfl rfl rfl (by decide +kernel) ⟨Nat.le_of_ble_eq_true rfl, Nat.le_of_ble_eq_true rfl⟩) (cP_V hK hP 3 0 rfl rfl) rfl rfl hl.1 rfl (lv_room (Nat.le_of_ble_eq_true rfl)) dX2_broken_50 ⟨Nat.le_of_ble_eq_true rfl, Nat.le_of_ble_eq_true rfl⟩) hS (fun _ _ h => h.elim) (fun _ h => h.elim) (fun r_5 u t H1 locs ht hvm hw hB hz1 hk1 hS => ?_)
        replace hP := ro_kept hP hk1
        obtain rfl : r_5 = _ := hw
        clear hk1 hz1 hvm ht hB
        generalize H1 = H at hP hS ⊢
        refine lv_if_eq (tgt := 58) hx hb dX2_broken_53 (by decide) (fun c_6 => ?_) (fun c_6 => ?_)
        · replace c_6 := bI_0.mp c_6
          refine lv_iinc (v := (nI (i + 1))) (lv' := [(3, .int (nI (i + 1))), (2, .int (nI ((cs_fi σ) j1 + (cs_am σ) j1))), (0, .ref (a 0)), (1, .int (nI j1))]) hx hb dX2_broken_58 hl (k := 0) rfl (nI_1 _) (by decide) rfl (fun ls hl => ?_)
          refine lv_goto (tgt := 43) hx hb dX2_broken_61 (by decide) ?_
          exact ih (i + 1) H locs ls hP hS (by omega) (by rw [← hres]; simp [r_brk, c_4, c_6]) (lv_sub hl [0, 1, 2, 3] rfl)
        · replace c_6 := bI_n0.mp c_6
          refine lv_iload_n hx hb dX2_broken_56 rfl (lv_at hl 0 rfl) ?_
          exact W.iret (v := (nI i)) hx hb hr (fun t ht hW => ⟨⟨(nI i), (), rfl, (by rw [← hres]; simp [r_brk, c_4, c_6]), trivial⟩, hS.F ht⟩) hS.2.2 dX2_broken_57
  · replace c_2 := bI_0.mp c_2
    refine lv_iconst (v := (-1)) hx hb dX2_broken_11 (by decide) ?_
    exact W.iret (v := (-1)) hx hb hr (fun t ht hW => ⟨⟨(-1), (), rfl, (by simp [s_broken, bI, c_2]), trivial⟩, hS.F ht⟩) hS.2.2 dX2_broken_12
set_option maxHeartbeats 4000000 in
set_option maxRecDepth 100000 in
theorem c_X2_replacesFromBelow (l : Launch) (D : va_G) (a : Nat → Nat) (k : Nat → ClassId) (σ : CS) (hok : cok σ) (n1 n2 : Nat) (hn1 : n1 < 400) (hn2 : n2 < 400) : Met l yX2_replacesFromBelow wsX2_replacesFromBelow (rmC 5 114) (cP D a k σ [.ref (a 0), .int (nI n1), .int (nI n2)]) (roQ (bI (r_from σ n1 n2))) 0 0 (fun _ => False) := by
  refine Met.ofW (cc := cX2_replacesFromBelow) (maxL := 3) (ret := (some .boolean)) (by decide) rfl ?_
  intro p e s m args below meth c s₁ B hml hv
  obtain ⟨rfl, hP, hK⟩ := hv
  have hx := B.exec
  have hb := B.bytes
  have hr := B.returns
  have hts := atoms_spec (ws := wsX2_replacesFromBelow) B.pre
  have hown : s.vm.findClass RX2 = some m.cls := findClass_of_methodNamed B.named
  have hlocks := B.notSynchronized
  clear B
  have hl := lv_entry ([.ref (a 0), .int (nI n1), .int (nI n2)]) (n := 3) (Nat.le_of_ble_eq_true rfl)
  rw [lg_entry_eq]
  generalize (lg_sl ([.ref (a 0), .int (nI n1), .int (nI n2)]) ++ List.replicate (3 - (lg_sl ([.ref (a 0), .int (nI n1), .int (nI n2)])).length) Slot.unset).toArray = ls at hl ⊢
  replace hl : lv_has ls 3 [(0, .ref (a 0)), (1, .int (nI n1)), (2, .int (nI n2))] := hl
  refine gen_start (A := (fun _ => False)) (fun H locs hP hS => ?_) hP
  obtain ⟨hb0, ⟨hb1, hb2, hb3, hb4, hb5, hb6⟩, hb7, hb8⟩ := id hok
  have hw1 := hb3 n1 hn1
  refine lv_aload_n hx hb dX2_replacesFromBelow_0 rfl (lv_at hl 0 rfl) ?_
  refine va_get (D := D) (ci := 3) (v := .ref (a 1)) (C := RX2) (T := TX2) (N := 2) hx hb hts (by decide +kernel) hown hK.1 hP 0 rfl rfl 0 (by decide) (hts (.fieldLink RX2 10 "ChooseTree" "classes" "LChooseTree$Classes;") (by decide +kernel)) (fun _ h9 => h9) rfl dX2_replacesFromBelow_1 ?_
  refine lv_aload_n hx hb dX2_replacesFromBelow_4 rfl (lv_at hl 0 rfl) ?_
  refine va_get (D := D) (ci := 3) (v := .ref (a 2)) (C := RX2) (T := TX2) (N := 2) hx hb hts (by decide +kernel) hown hK.1 hP 0 rfl rfl 1 (by decide) (hts (.fieldLink RX2 19 "ChooseTree" "methods" "LChooseTree$Methods;") (by decide +kernel)) (fun _ h9 => h9) rfl dX2_replacesFromBelow_5 ?_
  refine va_get (D := D) (ci := 2) (v := .ref (a 10)) (C := RX1) (T := TX1) (N := 7) hx hb hts (by decide +kernel) hown hK.1 hP 2 rfl rfl 1 (by decide) (hts (.fieldLink RX2 115 "ChooseTree$Methods" "owner" "[I") (by decide +kernel)) (fun _ h9 => h9) rfl dX2_replacesFromBelow_8 ?_
  refine lv_iload_n hx hb dX2_replacesFromBelow_11 rfl (lv_at hl 1 rfl) ?_
  refine na_iald (D := D) hx hb hK.1 hP 10 7 rfl rfl (i := n1) (by omega) (by decide) dX2_replacesFromBelow_12 ?_
  refine lv_aload_n hx hb dX2_replacesFromBelow_13 rfl (lv_at hl 0 rfl) ?_
  refine va_get (D := D) (ci := 3) (v := .ref (a 2)) (C := RX2) (T := TX2) (N := 2) hx hb hts (by decide +kernel) hown hK.1 hP 0 rfl rfl 1 (by decide) (hts (.fieldLink RX2 19 "ChooseTree" "methods" "LChooseTree$Methods;") (by decide +kernel)) (fun _ h9 => h9) rfl dX2_replacesFromBelow_14 ?_
  refine va_get (D := D) (ci := 2) (v := .ref (a 10)) (C := RX1) (T := TX1) (N := 7) hx hb hts (by decide +kernel) hown hK.1 hP 2 rfl rfl 1 (by decide) (hts (.fieldLink RX2 115 "ChooseTree$Methods" "owner" "[I") (by decide +kernel)) (fun _ h9 => h9) rfl dX2_replacesFromBelow_17 ?_
  refine lv_iload_n hx hb dX2_replacesFromBelow_20 rfl (lv_at hl 2 rfl) ?_
  refine na_iald (D := D) hx hb hK.1 hP 10 7 rfl rfl (i := n2) (by omega) (by decide) dX2_replacesFromBelow_21 ?_
  refine va_calli (va_runV (As := [.int (nI ((cs_ow σ) n1)), .int (nI ((cs_ow σ) n2))]) (rest := []) ⟨hx, hb, hml, hown, hts⟩ (c_X0_below l D a k σ (cs_ow σ n1) (cs_ow σ n2) hw1) (cwV 2 hts gX2_replacesFromBelow_X0_below rfl rfl rfl (by decide +kernel) ⟨Nat.le_of_ble_eq_true rfl, Nat.le_of_ble_eq_true rfl⟩) (cP_V hK hP 1 1 rfl rfl) rfl rfl hl.1 rfl (lv_room (Nat.le_of_ble_eq_true rfl)) dX2_replacesFromBelow_22 ⟨Nat.le_of_ble_eq_true rfl, Nat.le_of_ble_eq_true rfl⟩) hS (fun _ _ h => h.elim) (fun _ h => h.elim) (fun r_1 u t H1 locs ht hvm hw hB hz1 hk1 hS => ?_)
  replace hP := ro_kept hP hk1
  obtain rfl : r_1 = _ := hw
  clear hk1 hz1 hvm ht hB
  generalize H1 = H at hP hS ⊢
  refine lv_if_eq (tgt := 41) hx hb dX2_replacesFromBelow_25 (by decide) (fun c_2 => ?_) (fun c_2 => ?_)
  · replace c_2 := bI_0.mp c_2
    refine lv_iconst (v := (nI 0)) hx hb dX2_replacesFromBelow_41 (by decide) ?_
    exact W.zret (v := (nI 0)) hx hb hr rfl (fun t ht hW => ⟨⟨(nI 0), (), rfl, (by simp [r_from, bI, c_2]), trivial⟩, hS.F ht⟩) hS.2.2 dX2_replacesFromBelow_42
  · replace c_2 := bI_n0.mp c_2
    refine lv_aload_n hx hb dX2_replacesFromBelow_28 rfl (lv_at hl 0 rfl) ?_
    refine lv_iload_n hx hb dX2_replacesFromBelow_29 rfl (lv_at hl 1 rfl) ?_
    refine lv_iload_n hx hb dX2_replacesFromBelow_30 rfl (lv_at hl 2 rfl) ?_
    refine va_calli (va_runV (As := [.int (nI n1), .int (nI n2)]) (rest := []) ⟨hx, hb, hml, hown, hts⟩ (c_X2_replaces l D a k σ hok n1 n2 hn1 hn2) (cwV 2 hts gX2_replacesFromBelow_X2_replaces rfl rfl rfl (by decide +kernel) ⟨Nat.le_of_ble_eq_true rfl, Nat.le_of_ble_eq_true rfl⟩) (cP_V hK hP 3 0 rfl rfl) rfl rfl hl.1 rfl (lv_room (Nat.le_of_ble_eq_true rfl)) dX2_replacesFromBelow_31 ⟨Nat.le_of_ble_eq_true rfl, Nat.le_of_ble_eq_true rfl⟩) hS (fun _ _ h => h.elim) (fun _ h => h.elim) (fun r_3 u t H1 locs ht hvm hw hB hz1 hk1 hS => ?_)
    replace hP := ro_kept hP hk1
    obtain rfl : r_3 = _ := hw
    clear hk1 hz1 hvm ht hB
    generalize H1 = H at hP hS ⊢
    refine lv_if_eq (tgt := 41) hx hb dX2_replacesFromBelow_34 (by decide) (fun c_4 => ?_) (fun c_4 => ?_)
    · replace c_4 := bI_0.mp c_4
      refine lv_iconst (v := (nI 0)) hx hb dX2_replacesFromBelow_41 (by decide) ?_
      exact W.zret (v := (nI 0)) hx hb hr rfl (fun t ht hW => ⟨⟨(nI 0), (), rfl, (by simp [r_from, bI, c_2, c_4]), trivial⟩, hS.F ht⟩) hS.2.2 dX2_replacesFromBelow_42
    · replace c_4 := bI_n0.mp c_4
      refine lv_iconst (v := (nI 1)) hx hb dX2_replacesFromBelow_37 (by decide) ?_
      refine lv_goto (tgt := 42) hx hb dX2_replacesFromBelow_38 (by decide) ?_
      exact W.zret (v := (nI 1)) hx hb hr rfl (fun t ht hW => ⟨⟨(nI 1), (), rfl, (by simp [r_from, bI, c_2, c_4]), trivial⟩, hS.F ht⟩) hS.2.2 dX2_replacesFromBelow_42
set_option maxHeartbeats 4000000 in
set_option maxRecDepth 100000 in
theorem c_X2_replacesOfPlain (l : Launch) (D : va_G) (a : Nat → Nat) (k : Nat → ClassId) (σ : CS) (hok : cok σ) (n1 n2 : Nat) (hn1 : n1 < 400) (hn2 : n2 < 400) : Met l yX2_replacesOfPlain wsX2_replacesOfPlain (rmC 5 114) (cP D a k σ [.ref (a 0), .int (nI n1), .int (nI n2)]) (roQ (bI (r_plain σ n1 n2))) 0 0 (fun _ => False) := by
  refine Met.ofW (cc := cX2_replacesOfPlain) (maxL := 3) (ret := (some .boolean)) (by decide) rfl ?_
  intro p e s m args below meth c s₁ B hml hv
  obtain ⟨rfl, hP, hK⟩ := hv
  have hx := B.exec
  have hb := B.bytes
  have hr := B.returns
  have hts := atoms_spec (ws := wsX2_replacesOfPlain) B.pre
  have hown : s.vm.findClass RX2 = some m.cls := findClass_of_methodNamed B.named
  have hlocks := B.notSynchronized
  clear B
  have hl := lv_entry ([.ref (a 0), .int (nI n1), .int (nI n2)]) (n := 3) (Nat.le_of_ble_eq_true rfl)
  rw [lg_entry_eq]
  generalize (lg_sl ([.ref (a 0), .int (nI n1), .int (nI n2)]) ++ List.replicate (3 - (lg_sl ([.ref (a 0), .int (nI n1), .int (nI n2)])).length) Slot.unset).toArray = ls at hl ⊢
  replace hl : lv_has ls 3 [(0, .ref (a 0)), (1, .int (nI n1)), (2, .int (nI n2))] := hl
  refine gen_start (A := (fun _ => False)) (fun H locs hP hS => ?_) hP
  obtain ⟨hb0, ⟨hb1, hb2, hb3, hb4, hb5, hb6⟩, hb7, hb8⟩ := id hok
  have hw2 := hb3 n2 hn2
  refine lv_aload_n hx hb dX2_replacesOfPlain_0 rfl (lv_at hl 0 rfl) ?_
  refine va_get (D := D) (ci := 3) (v := .ref (a 1)) (C := RX2) (T := TX2) (N := 2) hx hb hts (by decide +kernel) hown hK.1 hP 0 rfl rfl 0 (by decide) (hts (.fieldLink RX2 10 "ChooseTree" "classes" "LChooseTree$Classes;") (by decide +kernel)) (fun _ h9 => h9) rfl dX2_replacesOfPlain_1 ?_
  refine va_get (D := D) (ci := 1) (v := .ref (a 5)) (C := RX0) (T := TX0) (N := 10) hx hb hts (by decide +kernel) hown hK.1 hP 1 rfl rfl 3 (by decide) (hts (.fieldLink RX2 56 "ChooseTree$Classes" "face" "[Z") (by decide +kernel)) (fun _ h9 => h9) rfl dX2_replacesOfPlain_4 ?_
  refine lv_aload_n hx hb dX2_replacesOfPlain_7 rfl (lv_at hl 0 rfl) ?_
  refine va_get (D := D) (ci := 3) (v := .ref (a 2)) (C := RX2) (T := TX2) (N := 2) hx hb hts (by decide +kernel) hown hK.1 hP 0 rfl rfl 1 (by decide) (hts (.fieldLink RX2 19 "ChooseTree" "methods" "LChooseTree$Methods;") (by decide +kernel)) (fun _ h9 => h9) rfl dX2_replacesOfPlain_8 ?_
  refine va_get (D := D) (ci := 2) (v := .ref (a 10)) (C := RX1) (T := TX1) (N := 7) hx hb hts (by decide +kernel) hown hK.1 hP 2 rfl rfl 1 (by decide) (hts (.fieldLink RX2 115 "ChooseTree$Methods" "owner" "[I") (by decide +kernel)) (fun _ h9 => h9) rfl dX2_replacesOfPlain_11 ?_
  refine lv_iload_n hx hb dX2_replacesOfPlain_14 rfl (lv_at hl 2 rfl) ?_
  refine na_iald (D := D) hx hb hK.1 hP 10 7 rfl rfl (i := n2) (by omega) (by decide) dX2_replacesOfPlain_15 ?_
  refine na_zald (D := D) hx hb hK.1 hP 5 2 rfl rfl (i := ((cs_ow σ) n2)) (by omega) (by decide) dX2_replacesOfPlain_16 ?_
  refine lv_if_ne (tgt := 33) hx hb dX2_replacesOfPlain_17 (by decide) (fun c_1 => ?_) (fun c_1 => ?_)
  · refine lv_iconst (v := (nI 0)) hx hb dX2_replacesOfPlain_33 (by decide) ?_
    exact W.zret (v := (nI 0)) hx hb hr rfl (fun t ht hW => ⟨⟨(nI 0), (), rfl, (by simp [r_plain, bI, c_1]), trivial⟩, hS.F ht⟩) hS.2.2 dX2_replacesOfPlain_34
  · refine lv_aload_n hx hb dX2_replacesOfPlain_20 rfl (lv_at hl 0 rfl) ?_
    refine lv_iload_n hx hb dX2_replacesOfPlain_21 rfl (lv_at hl 1 rfl) ?_
    refine lv_iload_n hx hb dX2_replacesOfPlain_22 rfl (lv_at hl 2 rfl) ?_
    refine va_calli (va_runV (As := [.int (nI n1), .int (nI n2)]) (rest := []) ⟨hx, hb, hml, hown, hts⟩ (c_X2_replaces l D a k σ hok n1 n2 hn1 hn2) (cwV 2 hts gX2_replacesOfPlain_X2_replaces rfl rfl rfl (by decide +kernel) ⟨Nat.le_of_ble_eq_true rfl, Nat.le_of_ble_eq_true rfl⟩) (cP_V hK hP 3 0 rfl rfl) rfl rfl hl.1 rfl (lv_room (Nat.le_of_ble_eq_true rfl)) dX2_replacesOfPlain_23 ⟨Nat.le_of_ble_eq_true rfl, Nat.le_of_ble_eq_true rfl⟩) hS (fun _ _ h => h.elim) (fun _ h => h.elim) (fun r_2 u t H1 locs ht hvm hw hB hz1 hk1 hS => ?_)
    replace hP := ro_kept hP hk1
    obtain rfl : r_2 = _ := hw
    clear hk1 hz1 hvm ht hB
    generalize H1 = H at hP hS ⊢
    refine lv_if_eq (tgt := 33) hx hb dX2_replacesOfPlain_26 (by decide) (fun c_3 => ?_) (fun c_3 => ?_)
    · replace c_3 := bI_0.mp c_3
      refine lv_iconst (v := (nI 0)) hx hb dX2_replacesOfPlain_33 (by decide) ?_
      exact W.zret (v := (nI 0)) hx hb hr rfl (fun t ht hW => ⟨⟨(nI 0), (), rfl, (by simp [r_plain, bI, c_1, c_3]), trivial⟩, hS.F ht⟩) hS.2.2 dX2_replacesOfPlain_34
    · replace c_3 := bI_n0.mp c_3
      refine lv_iconst (v := (nI 1)) hx hb dX2_replacesOfPlain_29 (by decide) ?_
      refine lv_goto (tgt := 34) hx hb dX2_replacesOfPlain_30 (by decide) ?_
      exact W.zret (v := (nI 1)) hx hb hr rfl (fun t ht hW => ⟨⟨(nI 1), (), rfl, (by simp [r_plain, bI, c_1, c_3]), trivial⟩, hS.F ht⟩) hS.2.2 dX2_replacesOfPlain_34
set_option maxHeartbeats 4000000 in
set_option maxRecDepth 100000 in
theorem c_X2_kin (l : Launch) (D : va_G) (a : Nat → Nat) (k : Nat → ClassId) (σ : CS) (hok : cok σ) (x1 : Int32) : Met l yX2_kin wsX2_kin (rmC 6 136) (cP D a k σ [.ref (a 0), .int x1]) (roQ (s_kin σ x1)) 0 0 (fun _ => False) := by
  refine Met.ofW (cc := cX2_kin) (maxL := 4) (ret := (some .int)) (by decide) rfl ?_
  intro p e s m args below meth c s₁ B hml hv
  obtain ⟨rfl, hP, hK⟩ := hv
  have hx := B.exec
  have hb := B.bytes
  have hr := B.returns
  have hts := atoms_spec (ws := wsX2_kin) B.pre
  have hown : s.vm.findClass RX2 = some m.cls := findClass_of_methodNamed B.named
  have hlocks := B.notSynchronized
  clear B
  have hl := lv_entry ([.ref (a 0), .int x1]) (n := 4) (Nat.le_of_ble_eq_true rfl)
  rw [lg_entry_eq]
  generalize (lg_sl ([.ref (a 0), .int x1]) ++ List.replicate (4 - (lg_sl ([.ref (a 0), .int x1])).length) Slot.unset).toArray = ls at hl ⊢
  replace hl : lv_has ls 4 [(0, .ref (a 0)), (1, .int x1)] := hl
  refine gen_start (A := (fun _ => False)) (fun H locs hP hS => ?_) hP
  obtain ⟨hb0, ⟨hb1, hb2, hb3, hb4, hb5, hb6⟩, hb7, hb8⟩ := id hok
  refine lv_aload_n hx hb dX2_kin_0 rfl (lv_at hl 0 rfl) ?_
  refine va_get (D := D) (ci := 3) (v := .ref (a 2)) (C := RX2) (T := TX2) (N := 2) hx hb hts (by decide +kernel) hown hK.1 hP 0 rfl rfl 1 (by decide) (hts (.fieldLink RX2 19 "ChooseTree" "methods" "LChooseTree$Methods;") (by decide +kernel)) (fun _ h9 => h9) rfl dX2_kin_1 ?_
  refine lv_iload_n hx hb dX2_kin_4 rfl (lv_at hl 1 rfl) ?_
  refine va_calli (va_runV (As := [.int x1]) (rest := []) ⟨hx, hb, hml, hown, hts⟩ (c_X1_exists l D a k σ x1) (cwV 1 hts gX2_kin_X1_exists rfl rfl rfl (by decide +kernel) ⟨Nat.le_of_ble_eq_true rfl, Nat.le_of_ble_eq_true rfl⟩) (cP_V hK hP 2 2 rfl rfl) rfl rfl hl.1 rfl (lv_room (Nat.le_of_ble_eq_true rfl)) dX2_kin_5 ⟨Nat.le_of_ble_eq_true rfl, Nat.le_of_ble_eq_true rfl⟩) hS (fun _ _ h => h.elim) (fun _ h => h.elim) (fun r_1 u t H1 locs ht hvm hw hB hz1 hk1 hS => ?_)
  replace hP := ro_kept hP hk1
  obtain rfl : r_1 = _ := hw
  clear hk1 hz1 hvm ht hB
  generalize H1 = H at hP hS ⊢
  refine lv_if_ne (tgt := 13) hx hb dX2_kin_8 (by decide) (fun c_2 => ?_) (fun c_2 => ?_)
  · replace c_2 := bI_n0.mp c_2
    obtain ⟨j1, hj1, ej1⟩ := m_exists_of hok c_2
    subst ej1
    have hclj1 := nI_clamp (n := j1) (by omega)
    refine lv_iconst (v := (nI 0)) hx hb dX2_kin_13 (by decide) ?_
    refine lv_istore_n (lv' := [(2, .int (nI 0)), (0, .ref (a 0)), (1, .int (nI j1))]) hx hb dX2_kin_14 rfl hl (by decide) rfl (fun ls hl => ?_)
    refine lv_iconst (v := (nI 0)) hx hb dX2_kin_15 (by decide) ?_
    refine lv_istore_n (lv' := [(3, .int (nI 0)), (2, .int (nI 0)), (0, .ref (a 0)), (1, .int (nI j1))]) hx hb dX2_kin_16 rfl hl (by decide) rfl (fun ls hl => ?_)
    obtain ⟨n, hn⟩ : ∃ n : Nat, n = cs_m σ := ⟨_, rfl⟩
    obtain ⟨i, hi⟩ : ∃ i : Nat, i = 0 := ⟨_, rfl⟩
    obtain ⟨q, hqq⟩ : ∃ q : Nat, q = 0 := ⟨_, rfl⟩
    have hE : i + n = cs_m σ := by omega
    have hres : nI (r_kin σ j1 n i q) = s_kin σ (nI j1) := by rw [hn, hi, hqq]; simp [s_kin, c_2, hclj1]
    replace hl : lv_has ls 4 [(3, .int (nI i)), (2, .int (nI q)), (0, .ref (a 0)), (1, .int (nI j1))] := by rw [hi, hqq]; exact hl
    clear hn hi hqq
    revert hl
    revert hres
    revert hE
    revert hS
    revert hP
    revert ls
    revert locs
    revert H
    revert i
    revert q
    induction n with
    | zero =>
      intro q i H locs ls hP hS hE hres hl
      refine lv_iload_n hx hb dX2_kin_17 rfl (lv_at hl 0 rfl) ?_
      refine lv_aload_n hx hb dX2_kin_18 rfl (lv_at hl 2 rfl) ?_
      refine va_get (D := D) (ci := 3) (v := .ref (a 2)) (C := RX2) (T := TX2) (N := 2) hx hb hts (by decide +kernel) hown hK.1 hP 0 rfl rfl 1 (by decide) (hts (.fieldLink RX2 19 "ChooseTree" "methods" "LChooseTree$Methods;") (by decide +kernel)) (fun _ h9 => h9) rfl dX2_kin_19 ?_
      refine va_get (D := D) (ci := 2) (v := .int (nI (cs_m σ))) (C := RX1) (T := TX1) (N := 7) hx hb hts (by decide +kernel) hown hK.1 hP 2 rfl rfl 0 (by decide) (hts (.fieldLink RX2 68 "ChooseTree$Methods" "count" "I") (by decide +kernel)) (fun _ h9 => h9) rfl dX2_kin_22 ?_
      refine lv_icmp_ge (tgt := 55) hx hb dX2_kin_25 (by decide) (fun c_3 => ?_) (fun c_3 => ?_)
      · refine lv_iload_n hx hb dX2_kin_55 rfl (lv_at hl 1 rfl) ?_
        exact W.iret (v := (nI q)) hx hb hr (fun t ht hW => ⟨⟨(nI q), (), rfl, (by rw [← hres]; rfl), trivial⟩, hS.F ht⟩) hS.2.2 dX2_kin_56
      · exact absurd (nI_le (by omega) (by omega)) c_3
    | succ n ih =>
      intro q i H locs ls hP hS hE hres hl
      refine lv_iload_n hx hb dX2_kin_17 rfl (lv_at hl 0 rfl) ?_
      refine lv_aload_n hx hb dX2_kin_18 rfl (lv_at hl 2 rfl) ?_
      refine va_get (D := D) (ci := 3) (v := .ref (a 2)) (C := RX2) (T := TX2) (N := 2) hx hb hts (by decide +kernel) hown hK.1 hP 0 rfl rfl 1 (by decide) (hts (.fieldLink RX2 19 "ChooseTree" "methods" "LChooseTree$Methods;") (by decide +kernel)) (fun _ h9 => h9) rfl dX2_kin_19 ?_
      refine va_get (D := D) (ci := 2) (v := .int (nI (cs_m σ))) (C := RX1) (T := TX1) (N := 7) hx hb hts (by decide +kernel) hown hK.1 hP 2 rfl rfl 0 (by decide) (hts (.fieldLink RX2 68 "ChooseTree$Methods" "count" "I") (by decide +kernel)) (fun _ h9 => h9) rfl dX2_kin_22 ?_
      refine lv_icmp_ge (tgt := 55) hx hb dX2_kin_25 (by decide) (fun c_4 => ?_) (fun c_4 => ?_)
      · exact absurd c_4 (nI_ge (by omega) (by omega))
      · refine lv_aload_n hx hb dX2_kin_28 rfl (lv_at hl 2 rfl) ?_
        refine lv_iload_n hx hb dX2_kin_29 rfl (lv_at hl 0 rfl) ?_
        refine lv_iload_n hx hb dX2_kin_30 rfl (lv_at hl 3 rfl) ?_
        refine va_calli (va_runV (As := [.int (nI i), .int (nI j1)]) (rest := []) ⟨hx, hb, hml, hown, hts⟩ (c_X2_replacesFromBelow l D a k σ hok i j1 (by omega) (by omega)) (cwV 2 hts gX2_kin_X2_replacesFromBelow rfl rfl rfl (by decide +kernel) ⟨Nat.le_of_ble_eq_true rfl, Nat.le_of_ble_eq_true rfl⟩) (cP_V hK hP 3 0 rfl rfl) rfl rfl hl.1 rfl (lv_room (Nat.le_of_ble_eq_true rfl)) dX2_kin_31 ⟨Nat.le_of_ble_eq_true rfl, Nat.le_of_ble_eq_true rfl⟩) hS (fun _ _ h => h.elim) (fun _ h => h.elim) (fun r_5 u t H1 locs ht hvm hw hB hz1 hk1 hS => ?_)
        replace hP := ro_kept hP hk1
        obtain rfl : r_5 = _ := hw
        clear hk1 hz1 hvm ht hB
        generalize H1 = H at hP hS ⊢
        refine lv_if_ne (tgt := 46) hx hb dX2_kin_34 (by decide) (fun c_6 => ?_) (fun c_6 => ?_)
        · replace c_6 := bI_n0.mp c_6
          refine lv_iinc (v := (nI (q + 1))) (lv' := [(2, .int (nI (q + 1))), (3, .int (nI i)), (0, .ref (a 0)), (1, .int (nI j1))]) hx hb dX2_kin_46 hl (k := 1) rfl (nI_1 _) (by decide) rfl (fun ls hl => ?_)
          refine lv_iinc (v := (nI (i + 1))) (lv' := [(3, .int (nI (i + 1))), (2, .int (nI (q + 1))), (0, .ref (a 0)), (1, .int (nI j1))]) hx hb dX2_kin_49 hl (k := 1) rfl (nI_1 _) (by decide) rfl (fun ls hl => ?_)
          refine lv_goto (tgt := 17) hx hb dX2_kin_52 (by decide) ?_
          exact ih (q + 1) (i + 1) H locs ls hP hS (by omega) (by rw [← hres]; simp [r_kin, c_4, c_6]) (lv_sub hl [0, 1, 2, 3] rfl)
        · replace c_6 := bI_0.mp c_6
          refine lv_aload_n hx hb dX2_kin_37 rfl (lv_at hl 2 rfl) ?_
          refine lv_iload_n hx hb dX2_kin_38 rfl (lv_at hl 3 rfl) ?_
          refine lv_iload_n hx hb dX2_kin_39 rfl (lv_at hl 0 rfl) ?_
          refine va_calli (va_runV (As := [.int (nI j1), .int (nI i)]) (rest := []) ⟨hx, hb, hml, hown, hts⟩ (c_X2_replacesOfPlain l D a k σ hok j1 i (by omega) (by omega)) (cwV 2 hts gX2_kin_X2_replacesOfPlain rfl rfl rfl (by decide +kernel) ⟨Nat.le_of_ble_eq_true rfl, Nat.le_of_ble_eq_true rfl⟩) (cP_V hK hP 3 0 rfl rfl) rfl rfl hl.1 rfl (lv_room (Nat.le_of_ble_eq_true rfl)) dX2_kin_40 ⟨Nat.le_of_ble_eq_true rfl, Nat.le_of_ble_eq_true rfl⟩) hS (fun _ _ h => h.elim) (fun _ h => h.elim) (fun r_7 u t H1 locs ht hvm hw hB hz1 hk1 hS => ?_)
          replace hP := ro_kept hP hk1
          obtain rfl : r_7 = _ := hw
          clear hk1 hz1 hvm ht hB
          generalize H1 = H at hP hS ⊢
          refine lv_if_eq (tgt := 49) hx hb dX2_kin_43 (by decide) (fun c_8 => ?_) (fun c_8 => ?_)
          · replace c_8 := bI_0.mp c_8
            refine lv_iinc (v := (nI (i + 1))) (lv' := [(3, .int (nI (i + 1))), (2, .int (nI q)), (0, .ref (a 0)), (1, .int (nI j1))]) hx hb dX2_kin_49 hl (k := 0) rfl (nI_1 _) (by decide) rfl (fun ls hl => ?_)
            refine lv_goto (tgt := 17) hx hb dX2_kin_52 (by decide) ?_
            exact ih q (i + 1) H locs ls hP hS (by omega) (by rw [← hres]; simp [r_kin, c_4, c_6, c_8]) (lv_sub hl [0, 1, 2, 3] rfl)
          · replace c_8 := bI_n0.mp c_8
            refine lv_iinc (v := (nI (q + 1))) (lv' := [(2, .int (nI (q + 1))), (3, .int (nI i)), (0, .ref (a 0)), (1, .int (nI j1))]) hx hb dX2_kin_46 hl (k := 1) rfl (nI_1 _) (by decide) rfl (fun ls hl => ?_)
            refine lv_iinc (v := (nI (i + 1))) (lv' := [(3, .int (nI (i + 1))), (2, .int (nI (q + 1))), (0, .ref (a 0)), (1, .int (nI j1))]) hx hb dX2_kin_49 hl (k := 1) rfl (nI_1 _) (by decide) rfl (fun ls hl => ?_)
            refine lv_goto (tgt := 17) hx hb dX2_kin_52 (by decide) ?_
            exact ih (q + 1) (i + 1) H locs ls hP hS (by omega) (by rw [← hres]; simp [r_kin, c_4, c_6, c_8]) (lv_sub hl [0, 1, 2, 3] rfl)
  · replace c_2 := bI_0.mp c_2
    refine lv_iconst (v := (-1)) hx hb dX2_kin_11 (by decide) ?_
    exact W.iret (v := (-1)) hx hb hr (fun t ht hW => ⟨⟨(-1), (), rfl, (by simp [s_kin, bI, c_2]), trivial⟩, hS.F ht⟩) hS.2.2 dX2_kin_12
end
