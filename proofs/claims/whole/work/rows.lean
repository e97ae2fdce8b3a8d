section
-- ===== PART A: goes FIRST, ahead of the names: the tables' words, and 'selects' of the private methods out of them =====
/-- a private method of a class that the tables say can be made, by its rows of tables_1 -/
def lw_okq (q : MethodName × Nat) : Prop := (q.1.cls ≠ "java/lang/invoke/MethodHandle" ∧ q.1.cls ≠ "java/lang/invoke/VarHandle") ∧ Cond.instantiable q.1.cls q.2 ∈ tables_1 ∧ Cond.privateMethod q.1 ∈ tables_1 ∧ Cond.instanceMethod q.1 ∈ tables_1
theorem lw_p0 : lw_okq (⟨"LeastSets", "forgetLists", "()V"⟩, 7) := ⟨⟨by decide +kernel, by decide +kernel⟩, List.mem_of_getElem? (i := 15) (by decide +kernel), List.mem_of_getElem? (i := 118) (by decide +kernel), List.mem_of_getElem? (i := 119) (by decide +kernel)⟩
theorem lw_p1 : lw_okq (⟨"LeastSets", "knownCauses", "()LLeastSets$SetList;"⟩, 7) := ⟨⟨by decide +kernel, by decide +kernel⟩, List.mem_of_getElem? (i := 15) (by decide +kernel), List.mem_of_getElem? (i := 168) (by decide +kernel), List.mem_of_getElem? (i := 169) (by decide +kernel)⟩
theorem lw_p2 : lw_okq (⟨"LeastSets$Axioms", "setsWith", "(II)J"⟩, 7) := ⟨⟨by decide +kernel, by decide +kernel⟩, List.mem_of_getElem? (i := 23) (by decide +kernel), List.mem_of_getElem? (i := 180) (by decide +kernel), List.mem_of_getElem? (i := 181) (by decide +kernel)⟩
theorem lw_p3 : lw_okq (⟨"LeastSets$Axioms", "setsGiving", "(I)J"⟩, 7) := ⟨⟨by decide +kernel, by decide +kernel⟩, List.mem_of_getElem? (i := 23) (by decide +kernel), List.mem_of_getElem? (i := 187) (by decide +kernel), List.mem_of_getElem? (i := 188) (by decide +kernel)⟩
theorem lw_p4 : lw_okq (⟨"LeastSets$Axioms", "setsGivingAll", "(IJ)J"⟩, 7) := ⟨⟨by decide +kernel, by decide +kernel⟩, List.mem_of_getElem? (i := 23) (by decide +kernel), List.mem_of_getElem? (i := 194) (by decide +kernel), List.mem_of_getElem? (i := 195) (by decide +kernel)⟩
theorem lw_p5 : lw_okq (⟨"LeastSets$Family", "leastOf", "(I)J"⟩, 2) := ⟨⟨by decide +kernel, by decide +kernel⟩, List.mem_of_getElem? (i := 57) (by decide +kernel), List.mem_of_getElem? (i := 217) (by decide +kernel), List.mem_of_getElem? (i := 218) (by decide +kernel)⟩
theorem lw_p6 : lw_okq (⟨"LeastSets", "knownCures", "()LLeastSets$SetList;"⟩, 7) := ⟨⟨by decide +kernel, by decide +kernel⟩, List.mem_of_getElem? (i := 15) (by decide +kernel), List.mem_of_getElem? (i := 240) (by decide +kernel), List.mem_of_getElem? (i := 241) (by decide +kernel)⟩
theorem lw_p7 : lw_okq (⟨"java/lang/Throwable", "fillInStackTrace", "(I)Ljava/lang/Throwable;"⟩, 6) := ⟨⟨by decide +kernel, by decide +kernel⟩, List.mem_of_getElem? (i := 344) (by decide +kernel), List.mem_of_getElem? (i := 342) (by decide +kernel), List.mem_of_getElem? (i := 343) (by decide +kernel)⟩
theorem lw_p8 : lw_okq (⟨"LeastSetsModel", "isAxiom", "(I)Z"⟩, 14) := ⟨⟨by decide +kernel, by decide +kernel⟩, List.mem_of_getElem? (i := 378) (by decide +kernel), List.mem_of_getElem? (i := 440) (by decide +kernel), List.mem_of_getElem? (i := 441) (by decide +kernel)⟩
theorem lw_p9 : lw_okq (⟨"LeastSetsModel", "reckon", "(I)I"⟩, 14) := ⟨⟨by decide +kernel, by decide +kernel⟩, List.mem_of_getElem? (i := 378) (by decide +kernel), List.mem_of_getElem? (i := 460) (by decide +kernel), List.mem_of_getElem? (i := 461) (by decide +kernel)⟩
theorem lw_p10 : lw_okq (⟨"LeastSetsModel", "find", "()V"⟩, 14) := ⟨⟨by decide +kernel, by decide +kernel⟩, List.mem_of_getElem? (i := 378) (by decide +kernel), List.mem_of_getElem? (i := 476) (by decide +kernel), List.mem_of_getElem? (i := 477) (by decide +kernel)⟩
theorem lw_p11 : lw_okq (⟨"LeastSetsModel", "isCause", "(I)Z"⟩, 14) := ⟨⟨by decide +kernel, by decide +kernel⟩, List.mem_of_getElem? (i := 378) (by decide +kernel), List.mem_of_getElem? (i := 483) (by decide +kernel), List.mem_of_getElem? (i := 484) (by decide +kernel)⟩
theorem lw_p12 : lw_okq (⟨"LeastSetsModel", "isCure", "(II)Z"⟩, 14) := ⟨⟨by decide +kernel, by decide +kernel⟩, List.mem_of_getElem? (i := 378) (by decide +kernel), List.mem_of_getElem? (i := 487) (by decide +kernel), List.mem_of_getElem? (i := 488) (by decide +kernel)⟩
def lw_privs_1 : List (MethodName × Nat) := [(⟨"LeastSets", "forgetLists", "()V"⟩, 7), (⟨"LeastSets", "knownCauses", "()LLeastSets$SetList;"⟩, 7), (⟨"LeastSets$Axioms", "setsWith", "(II)J"⟩, 7), (⟨"LeastSets$Axioms", "setsGiving", "(I)J"⟩, 7), (⟨"LeastSets$Axioms", "setsGivingAll", "(IJ)J"⟩, 7), (⟨"LeastSets$Family", "leastOf", "(I)J"⟩, 2), (⟨"LeastSets", "knownCures", "()LLeastSets$SetList;"⟩, 7), (⟨"java/lang/Throwable", "fillInStackTrace", "(I)Ljava/lang/Throwable;"⟩, 6), (⟨"LeastSetsModel", "isAxiom", "(I)Z"⟩, 14), (⟨"LeastSetsModel", "reckon", "(I)I"⟩, 14), (⟨"LeastSetsModel", "find", "()V"⟩, 14), (⟨"LeastSetsModel", "isCause", "(I)Z"⟩, 14), (⟨"LeastSetsModel", "isCure", "(II)Z"⟩, 14)]
theorem lw_r1 : ∀ q ∈ lw_privs_1, lw_okq q := List.forall_mem_cons.mpr ⟨lw_p0, List.forall_mem_cons.mpr ⟨lw_p1, List.forall_mem_cons.mpr ⟨lw_p2, List.forall_mem_cons.mpr ⟨lw_p3, List.forall_mem_cons.mpr ⟨lw_p4, List.forall_mem_cons.mpr ⟨lw_p5, List.forall_mem_cons.mpr ⟨lw_p6, List.forall_mem_cons.mpr ⟨lw_p7, List.forall_mem_cons.mpr ⟨lw_p8, List.forall_mem_cons.mpr ⟨lw_p9, List.forall_mem_cons.mpr ⟨lw_p10, List.forall_mem_cons.mpr ⟨lw_p11, List.forall_mem_cons.mpr ⟨lw_p12, fun _ h => absurd h List.not_mem_nil⟩⟩⟩⟩⟩⟩⟩⟩⟩⟩⟩⟩⟩
def lw_privs : List (MethodName × Nat) := lw_privs_1
def lw_tbl : List Cond := k2_sels lw_privs ++ tables_1
theorem lw_privs_ok : ∀ q ∈ lw_privs, lw_okq q := lw_r1
end
section
/-! ===== BEGIN words of one list among another's, by their places ===== -/
theorem goodIn_r {big : List Cond} (ws : List Cond) (ps : List Nat) (hp : ws = ps.filterMap (fun i => big[i]?)) (h : ws.all goodWord = true) : GoodIn big ws := by
  intro w hw
  have h1 := List.all_eq_true.mp h w hw
  rw [hp] at hw
  obtain ⟨i, -, hi⟩ := List.mem_filterMap.mp hw
  have hm : w ∈ big := by first | exact List.mem_of_getElem? hi | exact List.getElem?_mem hi
  exact ⟨hm, good_of_word h1⟩
theorem goodIn_app {big a b : List Cond} (ha : GoodIn big a) (hb : GoodIn big b) : GoodIn big (a ++ b) := fun w h => (List.mem_append.mp h).elim (ha w) (hb w)
theorem goodIn_ca {big a b : List Cond} {c : Cond} (ha : GoodIn big (c :: a)) (hb : GoodIn big b) : GoodIn big (c :: (a ++ b)) := fun w h => (List.mem_cons.mp h).elim (fun e => ha w (List.mem_cons.mpr (Or.inl e))) (fun h => (List.mem_append.mp h).elim (fun h => ha w (List.mem_cons.mpr (Or.inr h))) (hb w))
theorem goodIn_sub {big ws : List Cond} (hm : ∀ w ∈ ws, w ∈ big) (h : ws.all goodWord = true) : GoodIn big ws := fun w hw => ⟨hm w hw, good_of_word (List.all_eq_true.mp h w hw)⟩
/-! ===== END ===== -/

/-! ===== BEGIN printed: names, fields, word lists, decode rows ===== -/
def RX0 : String := "LeastSets$Axioms"
def TX0 : u_T := fun k => match k with
  | 0 => ("LeastSets$Axioms", "body", "[I", true)
  | 1 => ("LeastSets$Axioms", "head", "[I", true)
  | 2 => ("LeastSets$Axioms", "weight", "[I", true)
  | 3 => ("LeastSets$Axioms", "fixed", "[Z", true)
  | 4 => ("LeastSets$Axioms", "count", "I", false)
  | 5 => ("LeastSets$Axioms", "usedBy", "[J", true)
  | _ => ("LeastSets$Axioms", "givenBy", "[J", true)
def tyX0 : Nat → FieldType := fun k => match k with
  | 0 => .array .int
  | 1 => .array .int
  | 2 => .array .int
  | 3 => .array .boolean
  | 4 => .int
  | 5 => .array .long
  | _ => .array .long
abbrev wsX00 : List Cond := u_ws RX0 TX0 7
theorem nmX0 : ∀ a, a < 7 → ∀ b, b < 7 → a ≠ b → (TX0 a).2.1 ≠ (TX0 b).2.1 := by decide +kernel
theorem tyX0_ok : ∀ k, k < 7 → parseFieldDescriptor (TX0 k).2.2.1 = some (tyX0 k) := by decide +kernel
abbrev cX0_init : ByteArray := prog_2_method_1_code
def yX0_init : MethodName := ⟨RX0, "<init>", "()V"⟩
abbrev cX0_has : ByteArray := prog_2_method_2_code
def yX0_has : MethodName := ⟨RX0, "has", "(I)Z"⟩
abbrev cX0_append : ByteArray := prog_2_method_3_code
def yX0_append : MethodName := ⟨RX0, "append", "(II)V"⟩
abbrev cX0_remove : ByteArray := prog_2_method_4_code
def yX0_remove : MethodName := ⟨RX0, "remove", "(I)V"⟩
abbrev cX0_weightOf : ByteArray := prog_2_method_5_code
def yX0_weightOf : MethodName := ⟨RX0, "weightOf", "(I)I"⟩
abbrev cX0_oneStepMore : ByteArray := prog_2_method_6_code
def yX0_oneStepMore : MethodName := ⟨RX0, "oneStepMore", "(II)I"⟩
abbrev cX0_factsFrom : ByteArray := prog_2_method_7_code
def yX0_factsFrom : MethodName := ⟨RX0, "factsFrom", "(I)I"⟩
abbrev cX0_words : ByteArray := prog_2_method_8_code
def yX0_words : MethodName := ⟨RX0, "words", "()I"⟩
abbrev cX0_setsThatGive : ByteArray := prog_2_method_9_code
def yX0_setsThatGive : MethodName := ⟨RX0, "setsThatGive", "(II)J"⟩
abbrev cX0_setsThatLeave : ByteArray := prog_2_method_10_code
def yX0_setsThatLeave : MethodName := ⟨RX0, "setsThatLeave", "(II)J"⟩
abbrev cX0_setsWith : ByteArray := prog_2_method_11_code
def yX0_setsWith : MethodName := ⟨RX0, "setsWith", "(II)J"⟩
abbrev cX0_setsGiving : ByteArray := prog_2_method_12_code
def yX0_setsGiving : MethodName := ⟨RX0, "setsGiving", "(I)J"⟩
abbrev cX0_setsGivingAll : ByteArray := prog_2_method_13_code
def yX0_setsGivingAll : MethodName := ⟨RX0, "setsGivingAll", "(IJ)J"⟩
def RX1 : String := "LeastSets$Family"
def TX1 : u_T := fun k => match k with
  | 0 => ("LeastSets$Family", "members", "[J", true)
  | _ => ("LeastSets$Family", "least", "[J", true)
def tyX1 : Nat → FieldType := fun k => match k with
  | 0 => .array .long
  | _ => .array .long
abbrev wsX10 : List Cond := u_ws RX1 TX1 2
theorem nmX1 : ∀ a, a < 2 → ∀ b, b < 2 → a ≠ b → (TX1 a).2.1 ≠ (TX1 b).2.1 := by decide +kernel
theorem tyX1_ok : ∀ k, k < 2 → parseFieldDescriptor (TX1 k).2.2.1 = some (tyX1 k) := by decide +kernel
abbrev cX1_init : ByteArray := prog_3_method_1_code
def yX1_init : MethodName := ⟨RX1, "<init>", "()V"⟩
abbrev cX1_listLeast : ByteArray := prog_3_method_2_code
def yX1_listLeast : MethodName := ⟨RX1, "listLeast", "(ILLeastSets$SetList;)V"⟩
abbrev cX1_leastOf : ByteArray := prog_3_method_3_code
def yX1_leastOf : MethodName := ⟨RX1, "leastOf", "(I)J"⟩
def RX2 : String := "LeastSets$SetList"
def TX2 : u_T := fun k => match k with
  | 0 => ("LeastSets$SetList", "sets", "[I", true)
  | _ => ("LeastSets$SetList", "size", "I", false)
def tyX2 : Nat → FieldType := fun k => match k with
  | 0 => .array .int
  | _ => .int
abbrev wsX20 : List Cond := u_ws RX2 TX2 2
theorem nmX2 : ∀ a, a < 2 → ∀ b, b < 2 → a ≠ b → (TX2 a).2.1 ≠ (TX2 b).2.1 := by decide +kernel
theorem tyX2_ok : ∀ k, k < 2 → parseFieldDescriptor (TX2 k).2.2.1 = some (tyX2 k) := by decide +kernel
abbrev cX2_init : ByteArray := prog_4_method_1_code
def yX2_init : MethodName := ⟨RX2, "<init>", "()V"⟩
abbrev cX2_clear : ByteArray := prog_4_method_2_code
def yX2_clear : MethodName := ⟨RX2, "clear", "()V"⟩
abbrev cX2_addAll : ByteArray := prog_4_method_3_code
def yX2_addAll : MethodName := ⟨RX2, "addAll", "(IJ)V"⟩
abbrev cX2_at : ByteArray := prog_4_method_4_code
def yX2_at : MethodName := ⟨RX2, "at", "(I)I"⟩
abbrev cX2_howManyWith : ByteArray := prog_4_method_5_code
def yX2_howManyWith : MethodName := ⟨RX2, "howManyWith", "(I)I"⟩
abbrev cX2_firstInside : ByteArray := prog_4_method_6_code
def yX2_firstInside : MethodName := ⟨RX2, "firstInside", "(I)I"⟩
abbrev cX2_sharedByAll : ByteArray := prog_4_method_7_code
def yX2_sharedByAll : MethodName := ⟨RX2, "sharedByAll", "()I"⟩
def RX3 : String := "LeastSets"
def TX3 : u_T := fun k => match k with
  | 0 => ("LeastSets", "rows", "LLeastSets$Axioms;", true)
  | 1 => ("LeastSets", "family", "LLeastSets$Family;", true)
  | 2 => ("LeastSets", "causeList", "LLeastSets$SetList;", true)
  | 3 => ("LeastSets", "cureList", "LLeastSets$SetList;", true)
  | 4 => ("LeastSets", "goalFact", "I", false)
  | 5 => ("LeastSets", "causesKnown", "Z", false)
  | _ => ("LeastSets", "curesKnown", "Z", false)
def tyX3 : Nat → FieldType := fun k => match k with
  | 0 => .object "LeastSets$Axioms"
  | 1 => .object "LeastSets$Family"
  | 2 => .object "LeastSets$SetList"
  | 3 => .object "LeastSets$SetList"
  | 4 => .int
  | 5 => .boolean
  | _ => .boolean
abbrev wsX30 : List Cond := u_ws RX3 TX3 7
theorem nmX3 : ∀ a, a < 7 → ∀ b, b < 7 → a ≠ b → (TX3 a).2.1 ≠ (TX3 b).2.1 := by decide +kernel
theorem tyX3_ok : ∀ k, k < 7 → parseFieldDescriptor (TX3 k).2.2.1 = some (tyX3 k) := by decide +kernel
abbrev cX3_init : ByteArray := prog_1_method_1_code
def yX3_init : MethodName := ⟨RX3, "<init>", "()V"⟩
abbrev cX3_axiom : ByteArray := prog_1_method_2_code
def yX3_axiom : MethodName := ⟨RX3, "axiom", "(II)I"⟩
abbrev cX3_drop : ByteArray := prog_1_method_3_code
def yX3_drop : MethodName := ⟨RX3, "drop", "(I)I"⟩
abbrev cX3_fix : ByteArray := prog_1_method_4_code
def yX3_fix : MethodName := ⟨RX3, "fix", "(IZ)I"⟩
abbrev cX3_weight : ByteArray := prog_1_method_5_code
def yX3_weight : MethodName := ⟨RX3, "weight", "(II)I"⟩
abbrev cX3_goal : ByteArray := prog_1_method_6_code
def yX3_goal : MethodName := ⟨RX3, "goal", "(I)I"⟩
abbrev cX3_follow : ByteArray := prog_1_method_7_code
def yX3_follow : MethodName := ⟨RX3, "follow", "(I)I"⟩
abbrev cX3_steps : ByteArray := prog_1_method_8_code
def yX3_steps : MethodName := ⟨RX3, "steps", "(I)I"⟩
abbrev cX3_causes : ByteArray := prog_1_method_9_code
def yX3_causes : MethodName := ⟨RX3, "causes", "()I"⟩
abbrev cX3_cures : ByteArray := prog_1_method_10_code
def yX3_cures : MethodName := ⟨RX3, "cures", "()I"⟩
abbrev cX3_cause : ByteArray := prog_1_method_11_code
def yX3_cause : MethodName := ⟨RX3, "cause", "(I)I"⟩
abbrev cX3_cure : ByteArray := prog_1_method_12_code
def yX3_cure : MethodName := ⟨RX3, "cure", "(I)I"⟩
abbrev cX3_lightest : ByteArray := prog_1_method_13_code
def yX3_lightest : MethodName := ⟨RX3, "lightest", "()I"⟩
abbrev cX3_times : ByteArray := prog_1_method_14_code
def yX3_times : MethodName := ⟨RX3, "times", "(II)I"⟩
abbrev cX3_within : ByteArray := prog_1_method_15_code
def yX3_within : MethodName := ⟨RX3, "within", "(I)I"⟩
abbrev cX3_common : ByteArray := prog_1_method_16_code
def yX3_common : MethodName := ⟨RX3, "common", "()I"⟩
abbrev cX3_axioms : ByteArray := prog_1_method_17_code
def yX3_axioms : MethodName := ⟨RX3, "axioms", "()I"⟩
abbrev cX3_fact : ByteArray := prog_1_method_18_code
def yX3_fact : MethodName := ⟨RX3, "fact", "(I)I"⟩
abbrev cX3_isFact : ByteArray := prog_1_method_19_code
def yX3_isFact : MethodName := ⟨RX3, "isFact", "(I)Z"⟩
abbrev cX3_lowestPlace : ByteArray := prog_1_method_20_code
def yX3_lowestPlace : MethodName := ⟨RX3, "lowestPlace", "(J)I"⟩
abbrev cX3_forgetLists : ByteArray := prog_1_method_21_code
def yX3_forgetLists : MethodName := ⟨RX3, "forgetLists", "()V"⟩
abbrev cX3_knownCauses : ByteArray := prog_1_method_22_code
def yX3_knownCauses : MethodName := ⟨RX3, "knownCauses", "()LLeastSets$SetList;"⟩
abbrev cX3_knownCures : ByteArray := prog_1_method_23_code
def yX3_knownCures : MethodName := ⟨RX3, "knownCures", "()LLeastSets$SetList;"⟩
def RX4 : String := "LeastSetsModel"
def TX4 : u_T := fun k => match k with
  | 0 => ("LeastSetsModel", "bodies", "[I", true)
  | 1 => ("LeastSetsModel", "heads", "[I", true)
  | 2 => ("LeastSetsModel", "weights", "[I", true)
  | 3 => ("LeastSetsModel", "fixed", "[Z", true)
  | 4 => ("LeastSetsModel", "count", "I", false)
  | 5 => ("LeastSetsModel", "goal", "I", false)
  | 6 => ("LeastSetsModel", "known", "Z", false)
  | 7 => ("LeastSetsModel", "gives", "[Z", true)
  | 8 => ("LeastSetsModel", "causes", "[I", true)
  | 9 => ("LeastSetsModel", "causeCount", "I", false)
  | 10 => ("LeastSetsModel", "cures", "[I", true)
  | 11 => ("LeastSetsModel", "cureCount", "I", false)
  | 12 => ("LeastSetsModel", "steps", "I", false)
  | _ => ("LeastSetsModel", "thrown", "I", false)
def tyX4 : Nat → FieldType := fun k => match k with
  | 0 => .array .int
  | 1 => .array .int
  | 2 => .array .int
  | 3 => .array .boolean
  | 4 => .int
  | 5 => .int
  | 6 => .boolean
  | 7 => .array .boolean
  | 8 => .array .int
  | 9 => .int
  | 10 => .array .int
  | 11 => .int
  | 12 => .int
  | _ => .int
abbrev wsX40 : List Cond := u_ws RX4 TX4 14
theorem nmX4 : ∀ a, a < 14 → ∀ b, b < 14 → a ≠ b → (TX4 a).2.1 ≠ (TX4 b).2.1 := by decide +kernel
theorem tyX4_ok : ∀ k, k < 14 → parseFieldDescriptor (TX4 k).2.2.1 = some (tyX4 k) := by decide +kernel
abbrev cX4_init : ByteArray := prog_6_method_1_code
def yX4_init : MethodName := ⟨RX4, "<init>", "()V"⟩
abbrev cX4_thrown : ByteArray := prog_6_method_2_code
def yX4_thrown : MethodName := ⟨RX4, "thrown", "()I"⟩
abbrev cX4_isAxiom : ByteArray := prog_6_method_3_code
def yX4_isAxiom : MethodName := ⟨RX4, "isAxiom", "(I)Z"⟩
abbrev cX4_axiom : ByteArray := prog_6_method_4_code
def yX4_axiom : MethodName := ⟨RX4, "axiom", "(II)I"⟩
abbrev cX4_drop : ByteArray := prog_6_method_5_code
def yX4_drop : MethodName := ⟨RX4, "drop", "(I)I"⟩
abbrev cX4_fix : ByteArray := prog_6_method_6_code
def yX4_fix : MethodName := ⟨RX4, "fix", "(IZ)I"⟩
abbrev cX4_weight : ByteArray := prog_6_method_7_code
def yX4_weight : MethodName := ⟨RX4, "weight", "(II)I"⟩
abbrev cX4_goal : ByteArray := prog_6_method_8_code
def yX4_goal : MethodName := ⟨RX4, "goal", "(I)I"⟩
abbrev cX4_reckon : ByteArray := prog_6_method_9_code
def yX4_reckon : MethodName := ⟨RX4, "reckon", "(I)I"⟩
abbrev cX4_follow : ByteArray := prog_6_method_10_code
def yX4_follow : MethodName := ⟨RX4, "follow", "(I)I"⟩
abbrev cX4_steps : ByteArray := prog_6_method_11_code
def yX4_steps : MethodName := ⟨RX4, "steps", "(I)I"⟩
abbrev cX4_fact : ByteArray := prog_6_method_12_code
def yX4_fact : MethodName := ⟨RX4, "fact", "(I)I"⟩
abbrev cX4_size : ByteArray := prog_6_method_13_code
def yX4_size : MethodName := ⟨RX4, "size", "(I)I"⟩
abbrev cX4_isCause : ByteArray := prog_6_method_14_code
def yX4_isCause : MethodName := ⟨RX4, "isCause", "(I)Z"⟩
abbrev cX4_isCure : ByteArray := prog_6_method_15_code
def yX4_isCure : MethodName := ⟨RX4, "isCure", "(II)Z"⟩
abbrev cX4_find : ByteArray := prog_6_method_16_code
def yX4_find : MethodName := ⟨RX4, "find", "()V"⟩
abbrev cX4_causes : ByteArray := prog_6_method_17_code
def yX4_causes : MethodName := ⟨RX4, "causes", "()I"⟩
abbrev cX4_cures : ByteArray := prog_6_method_18_code
def yX4_cures : MethodName := ⟨RX4, "cures", "()I"⟩
abbrev cX4_cause : ByteArray := prog_6_method_19_code
def yX4_cause : MethodName := ⟨RX4, "cause", "(I)I"⟩
abbrev cX4_cure : ByteArray := prog_6_method_20_code
def yX4_cure : MethodName := ⟨RX4, "cure", "(I)I"⟩
abbrev cX4_lightest : ByteArray := prog_6_method_21_code
def yX4_lightest : MethodName := ⟨RX4, "lightest", "()I"⟩
abbrev cX4_times : ByteArray := prog_6_method_22_code
def yX4_times : MethodName := ⟨RX4, "times", "(II)I"⟩
abbrev cX4_within : ByteArray := prog_6_method_23_code
def yX4_within : MethodName := ⟨RX4, "within", "(I)I"⟩
abbrev cX4_common : ByteArray := prog_6_method_24_code
def yX4_common : MethodName := ⟨RX4, "common", "()I"⟩
abbrev cX4_axioms : ByteArray := prog_6_method_25_code
def yX4_axioms : MethodName := ⟨RX4, "axioms", "()I"⟩
def RJx00060 : String := "java/lang/ArrayIndexOutOfBoundsException"
def TJx00060 : u_T := fun k => match k with
  | 0 => ("java/lang/Throwable", "cause", "Ljava/lang/Throwable;", false)
  | 1 => ("java/lang/Throwable", "stackTrace", "[Ljava/lang/StackTraceElement;", false)
  | 2 => ("java/lang/Throwable", "suppressedExceptions", "Ljava/util/List;", false)
  | 3 => ("java/lang/Throwable", "detailMessage", "Ljava/lang/String;", false)
  | 4 => ("java/lang/Throwable", "backtrace", "Ljava/lang/Object;", false)
  | _ => ("java/lang/Throwable", "depth", "I", false)
def tyJx00060 : Nat → FieldType := fun k => match k with
  | 0 => .object "java/lang/Throwable"
  | 1 => .array (.object "java/lang/StackTraceElement")
  | 2 => .object "java/util/List"
  | 3 => .object "java/lang/String"
  | 4 => .object "java/lang/Object"
  | _ => .int
abbrev wsJx000600 : List Cond := u_ws RJx00060 TJx00060 6
theorem nmJx00060 : ∀ a, a < 6 → ∀ b, b < 6 → a ≠ b → (TJx00060 a).2.1 ≠ (TJx00060 b).2.1 := by decide +kernel
theorem tyJx00060_ok : ∀ k, k < 6 → parseFieldDescriptor (TJx00060 k).2.2.1 = some (tyJx00060 k) := by decide +kernel
abbrev cJx00060_init_a7421 : ByteArray := prog_7_method_2_code
def yJx00060_init_a7421 : MethodName := ⟨RJx00060, "<init>", "(Ljava/lang/String;)V"⟩
def RJ6 : String := "java/lang/Integer"
def TJ6 : u_T := fun k => match k with
  | _ => ("", "", "", false)
def tyJ6 : Nat → FieldType := fun k => match k with
  | _ => .int
abbrev wsJ60 : List Cond := u_ws RJ6 TJ6 0
theorem nmJ6 : ∀ a, a < 0 → ∀ b, b < 0 → a ≠ b → (TJ6 a).2.1 ≠ (TJ6 b).2.1 := by decide +kernel
theorem tyJ6_ok : ∀ k, k < 0 → parseFieldDescriptor (TJ6 k).2.2.1 = some (tyJ6 k) := by decide +kernel
abbrev cJ6_bitCount_0f7a4 : ByteArray := prog_10_method_49_code
def yJ6_bitCount_0f7a4 : MethodName := ⟨RJ6, "bitCount", "(I)I"⟩
def RJ13 : String := "java/lang/Long"
def TJ13 : u_T := fun k => match k with
  | _ => ("", "", "", false)
def tyJ13 : Nat → FieldType := fun k => match k with
  | _ => .int
abbrev wsJ130 : List Cond := u_ws RJ13 TJ13 0
theorem nmJ13 : ∀ a, a < 0 → ∀ b, b < 0 → a ≠ b → (TJ13 a).2.1 ≠ (TJ13 b).2.1 := by decide +kernel
theorem tyJ13_ok : ∀ k, k < 0 → parseFieldDescriptor (TJ13 k).2.2.1 = some (tyJ13 k) := by decide +kernel
abbrev cJ13_bitCount_95d88 : ByteArray := prog_11_method_50_code
def yJ13_bitCount_95d88 : MethodName := ⟨RJ13, "bitCount", "(J)I"⟩
def RJ0 : String := "java/lang/String"
def TJ0 : u_T := fun k => match k with
  | _ => ("", "", "", false)
def tyJ0 : Nat → FieldType := fun k => match k with
  | _ => .int
abbrev wsJ00 : List Cond := u_ws RJ0 TJ0 0
theorem nmJ0 : ∀ a, a < 0 → ∀ b, b < 0 → a ≠ b → (TJ0 a).2.1 ≠ (TJ0 b).2.1 := by decide +kernel
theorem tyJ0_ok : ∀ k, k < 0 → parseFieldDescriptor (TJ0 k).2.2.1 = some (tyJ0 k) := by decide +kernel
def RJ7 : String := "java/util/Arrays"
def TJ7 : u_T := fun k => match k with
  | _ => ("", "", "", false)
def tyJ7 : Nat → FieldType := fun k => match k with
  | _ => .int
abbrev wsJ70 : List Cond := u_ws RJ7 TJ7 0
theorem nmJ7 : ∀ a, a < 0 → ∀ b, b < 0 → a ≠ b → (TJ7 a).2.1 ≠ (TJ7 b).2.1 := by decide +kernel
theorem tyJ7_ok : ∀ k, k < 0 → parseFieldDescriptor (TJ7 k).2.2.1 = some (tyJ7 k) := by decide +kernel
abbrev cJ7_fill_d0a16 : ByteArray := prog_15_method_101_code
def yJ7_fill_d0a16 : MethodName := ⟨RJ7, "fill", "([JJ)V"⟩
def RL : String := "LeastSetsLaw"
abbrev cL_fact : ByteArray := method_3_code
def yL_fact : MethodName := ⟨RL, "fact", "(LLeastSets;I[J)I"⟩
abbrev cL_law : ByteArray := code
def yL_law : MethodName := ⟨RL, "law", "([I)Z"⟩
def wsX0_init : List Cond := .code yX0_init cX0_init 1 none :: ([.methodLink RX0 3 objectInit, .instanceMethod objectInit, .code objectInit ⟨#[0xb1]⟩ 1 none, .arrayClass .int, .fieldLink RX0 9 "LeastSets$Axioms" "body" "[I", .fieldLink RX0 15 "LeastSets$Axioms" "head" "[I", .fieldLink RX0 18 "LeastSets$Axioms" "weight" "[I", .arrayClass .boolean, .fieldLink RX0 21 "LeastSets$Axioms" "fixed" "[Z", .fieldLink RX0 25 "LeastSets$Axioms" "count" "I", .arrayClass .long, .fieldLink RX0 29 "LeastSets$Axioms" "usedBy" "[J", .fieldLink RX0 33 "LeastSets$Axioms" "givenBy" "[J"] ++ wsX00)
def wsX0_has : List Cond := .code yX0_has cX0_has 2 (some .boolean) :: ([.fieldLink RX0 25 "LeastSets$Axioms" "count" "I"] ++ wsX00)
def wsX0_append : List Cond := .code yX0_append cX0_append 3 none :: ([.fieldLink RX0 25 "LeastSets$Axioms" "count" "I", .fieldLink RX0 9 "LeastSets$Axioms" "body" "[I", .fieldLink RX0 15 "LeastSets$Axioms" "head" "[I", .fieldLink RX0 18 "LeastSets$Axioms" "weight" "[I", .fieldLink RX0 21 "LeastSets$Axioms" "fixed" "[Z"] ++ wsX00)
def wsX0_remove : List Cond := .code yX0_remove cX0_remove 3 none :: ([.fieldLink RX0 25 "LeastSets$Axioms" "count" "I", .fieldLink RX0 9 "LeastSets$Axioms" "body" "[I", .fieldLink RX0 15 "LeastSets$Axioms" "head" "[I", .fieldLink RX0 18 "LeastSets$Axioms" "weight" "[I", .fieldLink RX0 21 "LeastSets$Axioms" "fixed" "[Z", .methodLink RX0 36 yX0_has, .instanceMethod yX0_has, .selects RX0 yX0_has yX0_has, .initialized RX0, .code yX0_has cX0_has 2 (some .boolean)] ++ wsX00)
def wsX0_weightOf : List Cond := .code yX0_weightOf cX0_weightOf 4 (some .int) :: ([.fieldLink RX0 25 "LeastSets$Axioms" "count" "I", .fieldLink RX0 18 "LeastSets$Axioms" "weight" "[I"] ++ wsX00)
def wsX0_oneStepMore : List Cond := .code yX0_oneStepMore cX0_oneStepMore 5 (some .int) :: ([.fieldLink RX0 25 "LeastSets$Axioms" "count" "I", .fieldLink RX0 9 "LeastSets$Axioms" "body" "[I", .fieldLink RX0 15 "LeastSets$Axioms" "head" "[I"] ++ wsX00)
def wsX0_factsFrom : List Cond := .code yX0_factsFrom cX0_factsFrom 4 (some .int) :: ([.fieldLink RX0 25 "LeastSets$Axioms" "count" "I", .methodLink RX0 40 yX0_oneStepMore, .instanceMethod yX0_oneStepMore, .selects RX0 yX0_oneStepMore yX0_oneStepMore, .initialized RX0, .code yX0_oneStepMore cX0_oneStepMore 5 (some .int), .fieldLink RX0 9 "LeastSets$Axioms" "body" "[I", .fieldLink RX0 15 "LeastSets$Axioms" "head" "[I"] ++ wsX00)
def wsX0_words : List Cond := .code yX0_words cX0_words 1 (some .int) :: ([.fieldLink RX0 25 "LeastSets$Axioms" "count" "I"] ++ wsX00)
def wsX0_setsWith : List Cond := .code yX0_setsWith cX0_setsWith 3 (some .long) :: ([.constantLong RX0 52 (-1)])
def wsJ7_fill_d0a16 : List Cond := .code yJ7_fill_d0a16 cJ7_fill_d0a16 5 none :: ([])
def wsJ6_bitCount_0f7a4 : List Cond := .code yJ6_bitCount_0f7a4 cJ6_bitCount_0f7a4 1 (some .int) :: ([.constant RJ6 265 (1431655765), .constant RJ6 266 (858993459), .constant RJ6 267 (252645135)])
def wsJ13_bitCount_95d88 : List Cond := .code yJ13_bitCount_95d88 cJ13_bitCount_95d88 2 (some .int) :: ([.constantLong RJ13 314 (6148914691236517205), .constantLong RJ13 316 (3689348814741910323), .constantLong RJ13 318 (1085102592571150095)])
def wsX3_lowestPlace : List Cond := .code yX3_lowestPlace cX3_lowestPlace 2 (some .int) :: ([.methodLink RX3 123 yJ13_bitCount_95d88, .static yJ13_bitCount_95d88, .initialized RJ13, .code yJ13_bitCount_95d88 cJ13_bitCount_95d88 2 (some .int), .constantLong RJ13 314 (6148914691236517205), .constantLong RJ13 316 (3689348814741910323), .constantLong RJ13 318 (1085102592571150095)])
def wsX0_setsGivingAll : List Cond := .code yX0_setsGivingAll cX0_setsGivingAll 9 (some .long) :: ([.fieldLink RX0 33 "LeastSets$Axioms" "givenBy" "[J", .methodLink RX0 67 yJ6_bitCount_0f7a4, .static yJ6_bitCount_0f7a4, .initialized RJ6, .code yJ6_bitCount_0f7a4 cJ6_bitCount_0f7a4 1 (some .int), .constant RJ6 265 (1431655765), .constant RJ6 266 (858993459), .constant RJ6 267 (252645135), .static yX3_lowestPlace, .initialized RX3, .code yX3_lowestPlace cX3_lowestPlace 2 (some .int), .methodLink RX3 123 yJ13_bitCount_95d88, .static yJ13_bitCount_95d88, .initialized RJ13, .code yJ13_bitCount_95d88 cJ13_bitCount_95d88 2 (some .int), .constantLong RJ13 314 (6148914691236517205), .constantLong RJ13 316 (3689348814741910323), .constantLong RJ13 318 (1085102592571150095)] ++ wsX00)
def wsX0_setsGiving_r1 : List Cond := [Cond.fieldLink RX0 33 "LeastSets$Axioms" "givenBy" "[J", Cond.fieldLink RX0 25 "LeastSets$Axioms" "count" "I", Cond.fieldLink RX0 9 "LeastSets$Axioms" "body" "[I", Cond.fieldLink RX0 29 "LeastSets$Axioms" "usedBy" "[J", Cond.fieldLink RX0 15 "LeastSets$Axioms" "head" "[I", Cond.constantLong RX0 52 (-1), Cond.methodLink RX0 57 yJ7_fill_d0a16, Cond.static yJ7_fill_d0a16, Cond.initialized RJ7, Cond.code yJ7_fill_d0a16 cJ7_fill_d0a16 5 none, Cond.methodLink RX0 63 yX0_setsGivingAll, Cond.instanceMethod yX0_setsGivingAll, Cond.selects RX0 yX0_setsGivingAll yX0_setsGivingAll, Cond.initialized RX0, Cond.code yX0_setsGivingAll cX0_setsGivingAll 9 (some .long), Cond.methodLink RX0 67 yJ6_bitCount_0f7a4, Cond.static yJ6_bitCount_0f7a4, Cond.initialized RJ6, Cond.code yJ6_bitCount_0f7a4 cJ6_bitCount_0f7a4 1 (some .int), Cond.constant RJ6 265 (1431655765), Cond.constant RJ6 266 (858993459), Cond.constant RJ6 267 (252645135), Cond.static yX3_lowestPlace, Cond.initialized RX3]
def wsX0_setsGiving_r2 : List Cond := [Cond.code yX3_lowestPlace cX3_lowestPlace 2 (some .int), Cond.methodLink RX3 123 yJ13_bitCount_95d88, Cond.static yJ13_bitCount_95d88, Cond.initialized RJ13, Cond.code yJ13_bitCount_95d88 cJ13_bitCount_95d88 2 (some .int), Cond.constantLong RJ13 314 (6148914691236517205), Cond.constantLong RJ13 316 (3689348814741910323), Cond.constantLong RJ13 318 (1085102592571150095)]
def wsX0_setsGiving : List Cond := .code yX0_setsGiving cX0_setsGiving 7 (some .long) :: ((wsX0_setsGiving_r1 ++ wsX0_setsGiving_r2) ++ wsX00)
def wsX0_setsThatGive_r1 : List Cond := [Cond.fieldLink RX0 25 "LeastSets$Axioms" "count" "I", Cond.fieldLink RX0 29 "LeastSets$Axioms" "usedBy" "[J", Cond.methodLink RX0 44 yX0_setsWith, Cond.instanceMethod yX0_setsWith, Cond.selects RX0 yX0_setsWith yX0_setsWith, Cond.initialized RX0, Cond.code yX0_setsWith cX0_setsWith 3 (some .long), Cond.constantLong RX0 52 (-1), Cond.methodLink RX0 48 yX0_setsGiving, Cond.instanceMethod yX0_setsGiving, Cond.selects RX0 yX0_setsGiving yX0_setsGiving, Cond.code yX0_setsGiving cX0_setsGiving 7 (some .long), Cond.fieldLink RX0 33 "LeastSets$Axioms" "givenBy" "[J", Cond.fieldLink RX0 9 "LeastSets$Axioms" "body" "[I", Cond.fieldLink RX0 15 "LeastSets$Axioms" "head" "[I", Cond.methodLink RX0 57 yJ7_fill_d0a16, Cond.static yJ7_fill_d0a16, Cond.initialized RJ7, Cond.code yJ7_fill_d0a16 cJ7_fill_d0a16 5 none, Cond.methodLink RX0 63 yX0_setsGivingAll, Cond.instanceMethod yX0_setsGivingAll, Cond.selects RX0 yX0_setsGivingAll yX0_setsGivingAll, Cond.code yX0_setsGivingAll cX0_setsGivingAll 9 (some .long), Cond.methodLink RX0 67 yJ6_bitCount_0f7a4]
def wsX0_setsThatGive_r2 : List Cond := [Cond.static yJ6_bitCount_0f7a4, Cond.initialized RJ6, Cond.code yJ6_bitCount_0f7a4 cJ6_bitCount_0f7a4 1 (some .int), Cond.constant RJ6 265 (1431655765), Cond.constant RJ6 266 (858993459), Cond.constant RJ6 267 (252645135), Cond.static yX3_lowestPlace, Cond.initialized RX3, Cond.code yX3_lowestPlace cX3_lowestPlace 2 (some .int), Cond.methodLink RX3 123 yJ13_bitCount_95d88, Cond.static yJ13_bitCount_95d88, Cond.initialized RJ13, Cond.code yJ13_bitCount_95d88 cJ13_bitCount_95d88 2 (some .int), Cond.constantLong RJ13 314 (6148914691236517205), Cond.constantLong RJ13 316 (3689348814741910323), Cond.constantLong RJ13 318 (1085102592571150095)]
def wsX0_setsThatGive : List Cond := .code yX0_setsThatGive cX0_setsThatGive 4 (some .long) :: ((wsX0_setsThatGive_r1 ++ wsX0_setsThatGive_r2) ++ wsX00)
def wsX0_setsThatLeave_r1 : List Cond := [Cond.fieldLink RX0 25 "LeastSets$Axioms" "count" "I", Cond.fieldLink RX0 29 "LeastSets$Axioms" "usedBy" "[J", Cond.fieldLink RX0 21 "LeastSets$Axioms" "fixed" "[Z", Cond.constantLong RX0 52 (-1), Cond.methodLink RX0 44 yX0_setsWith, Cond.instanceMethod yX0_setsWith, Cond.selects RX0 yX0_setsWith yX0_setsWith, Cond.initialized RX0, Cond.code yX0_setsWith cX0_setsWith 3 (some .long), Cond.methodLink RX0 48 yX0_setsGiving, Cond.instanceMethod yX0_setsGiving, Cond.selects RX0 yX0_setsGiving yX0_setsGiving, Cond.code yX0_setsGiving cX0_setsGiving 7 (some .long), Cond.fieldLink RX0 33 "LeastSets$Axioms" "givenBy" "[J", Cond.fieldLink RX0 9 "LeastSets$Axioms" "body" "[I", Cond.fieldLink RX0 15 "LeastSets$Axioms" "head" "[I", Cond.methodLink RX0 57 yJ7_fill_d0a16, Cond.static yJ7_fill_d0a16, Cond.initialized RJ7, Cond.code yJ7_fill_d0a16 cJ7_fill_d0a16 5 none, Cond.methodLink RX0 63 yX0_setsGivingAll, Cond.instanceMethod yX0_setsGivingAll, Cond.selects RX0 yX0_setsGivingAll yX0_setsGivingAll, Cond.code yX0_setsGivingAll cX0_setsGivingAll 9 (some .long)]
def wsX0_setsThatLeave_r2 : List Cond := [Cond.methodLink RX0 67 yJ6_bitCount_0f7a4, Cond.static yJ6_bitCount_0f7a4, Cond.initialized RJ6, Cond.code yJ6_bitCount_0f7a4 cJ6_bitCount_0f7a4 1 (some .int), Cond.constant RJ6 265 (1431655765), Cond.constant RJ6 266 (858993459), Cond.constant RJ6 267 (252645135), Cond.static yX3_lowestPlace, Cond.initialized RX3, Cond.code yX3_lowestPlace cX3_lowestPlace 2 (some .int), Cond.methodLink RX3 123 yJ13_bitCount_95d88, Cond.static yJ13_bitCount_95d88, Cond.initialized RJ13, Cond.code yJ13_bitCount_95d88 cJ13_bitCount_95d88 2 (some .int), Cond.constantLong RJ13 314 (6148914691236517205), Cond.constantLong RJ13 316 (3689348814741910323), Cond.constantLong RJ13 318 (1085102592571150095)]
def wsX0_setsThatLeave : List Cond := .code yX0_setsThatLeave cX0_setsThatLeave 4 (some .long) :: ((wsX0_setsThatLeave_r1 ++ wsX0_setsThatLeave_r2) ++ wsX00)
def wsX1_init : List Cond := .code yX1_init cX1_init 1 none :: ([.methodLink RX1 3 objectInit, .instanceMethod objectInit, .code objectInit ⟨#[0xb1]⟩ 1 none, .arrayClass .long, .fieldLink RX1 9 "LeastSets$Family" "members" "[J", .fieldLink RX1 15 "LeastSets$Family" "least" "[J"] ++ wsX10)
def wsX1_leastOf : List Cond := .code yX1_leastOf cX1_leastOf 7 (some .long) :: ([.fieldLink RX1 9 "LeastSets$Family" "members" "[J", .constantLong RX1 43 (-1)] ++ wsX10)
def wsX2_clear : List Cond := .code yX2_clear cX2_clear 1 none :: ([.fieldLink RX2 15 "LeastSets$SetList" "size" "I"] ++ wsX20)
def wsX2_addAll : List Cond := .code yX2_addAll cX2_addAll 8 none :: ([.fieldLink RX2 15 "LeastSets$SetList" "size" "I", .fieldLink RX2 9 "LeastSets$SetList" "sets" "[I", .methodLink RX2 19 yJ13_bitCount_95d88, .static yJ13_bitCount_95d88, .initialized RJ13, .code yJ13_bitCount_95d88 cJ13_bitCount_95d88 2 (some .int), .constantLong RJ13 314 (6148914691236517205), .constantLong RJ13 316 (3689348814741910323), .constantLong RJ13 318 (1085102592571150095), .static yX3_lowestPlace, .initialized RX3, .code yX3_lowestPlace cX3_lowestPlace 2 (some .int), .methodLink RX3 123 yJ13_bitCount_95d88] ++ wsX20)
def wsX1_listLeast_r1 : List Cond := [Cond.fieldLink RX1 15 "LeastSets$Family" "least" "[J", Cond.methodLink RX1 18 yX1_leastOf, Cond.instanceMethod yX1_leastOf, Cond.selects RX1 yX1_leastOf yX1_leastOf, Cond.initialized RX1, Cond.code yX1_leastOf cX1_leastOf 7 (some .long), Cond.fieldLink RX1 9 "LeastSets$Family" "members" "[J", Cond.constantLong RX1 43 (-1), Cond.methodLink RX1 22 yX2_clear, Cond.instanceMethod yX2_clear, Cond.selects RX2 yX2_clear yX2_clear, Cond.initialized RX2, Cond.code yX2_clear cX2_clear 1 none, Cond.fieldLink RX2 15 "LeastSets$SetList" "size" "I", Cond.methodLink RX1 27 yJ6_bitCount_0f7a4, Cond.static yJ6_bitCount_0f7a4, Cond.initialized RJ6, Cond.code yJ6_bitCount_0f7a4 cJ6_bitCount_0f7a4 1 (some .int), Cond.constant RJ6 265 (1431655765), Cond.constant RJ6 266 (858993459), Cond.constant RJ6 267 (252645135), Cond.methodLink RX1 36 yX2_addAll, Cond.instanceMethod yX2_addAll, Cond.selects RX2 yX2_addAll yX2_addAll]
def wsX1_listLeast_r2 : List Cond := [Cond.code yX2_addAll cX2_addAll 8 none, Cond.fieldLink RX2 9 "LeastSets$SetList" "sets" "[I", Cond.methodLink RX2 19 yJ13_bitCount_95d88, Cond.static yJ13_bitCount_95d88, Cond.initialized RJ13, Cond.code yJ13_bitCount_95d88 cJ13_bitCount_95d88 2 (some .int), Cond.constantLong RJ13 314 (6148914691236517205), Cond.constantLong RJ13 316 (3689348814741910323), Cond.constantLong RJ13 318 (1085102592571150095), Cond.static yX3_lowestPlace, Cond.initialized RX3, Cond.code yX3_lowestPlace cX3_lowestPlace 2 (some .int), Cond.methodLink RX3 123 yJ13_bitCount_95d88]
def wsX1_listLeast : List Cond := .code yX1_listLeast cX1_listLeast 6 none :: ((wsX1_listLeast_r1 ++ wsX1_listLeast_r2) ++ wsX10 ++ wsX20)
def wsX2_init : List Cond := .code yX2_init cX2_init 1 none :: ([.methodLink RX2 3 objectInit, .instanceMethod objectInit, .code objectInit ⟨#[0xb1]⟩ 1 none, .arrayClass .int, .fieldLink RX2 9 "LeastSets$SetList" "sets" "[I", .fieldLink RX2 15 "LeastSets$SetList" "size" "I"] ++ wsX20)
def wsX2_at : List Cond := .code yX2_at cX2_at 2 (some .int) :: ([.fieldLink RX2 15 "LeastSets$SetList" "size" "I", .fieldLink RX2 9 "LeastSets$SetList" "sets" "[I"] ++ wsX20)
def wsX2_howManyWith : List Cond := .code yX2_howManyWith cX2_howManyWith 4 (some .int) :: ([.fieldLink RX2 15 "LeastSets$SetList" "size" "I", .fieldLink RX2 9 "LeastSets$SetList" "sets" "[I"] ++ wsX20)
def wsX2_firstInside : List Cond := .code yX2_firstInside cX2_firstInside 3 (some .int) :: ([.fieldLink RX2 15 "LeastSets$SetList" "size" "I", .fieldLink RX2 9 "LeastSets$SetList" "sets" "[I"] ++ wsX20)
def wsX2_sharedByAll : List Cond := .code yX2_sharedByAll cX2_sharedByAll 3 (some .int) :: ([.fieldLink RX2 15 "LeastSets$SetList" "size" "I", .fieldLink RX2 9 "LeastSets$SetList" "sets" "[I"] ++ wsX20)
def wsX3_init_r1 : List Cond := [Cond.methodLink RX3 3 objectInit, Cond.instanceMethod objectInit, Cond.code objectInit ⟨#[0xb1]⟩ 1 none, Cond.classLink RX3 9 RX0, Cond.instantiable RX0 7, Cond.initialized RX0, Cond.fieldLink RX3 12 "LeastSets" "rows" "LLeastSets$Axioms;", Cond.classLink RX3 16 RX1, Cond.instantiable RX1 2, Cond.initialized RX1, Cond.fieldLink RX3 19 "LeastSets" "family" "LLeastSets$Family;", Cond.classLink RX3 23 RX2, Cond.instantiable RX2 2, Cond.initialized RX2, Cond.fieldLink RX3 26 "LeastSets" "causeList" "LLeastSets$SetList;", Cond.fieldLink RX3 30 "LeastSets" "cureList" "LLeastSets$SetList;", Cond.fieldLink RX3 33 "LeastSets" "goalFact" "I", Cond.fieldLink RX3 37 "LeastSets" "causesKnown" "Z", Cond.fieldLink RX3 41 "LeastSets" "curesKnown" "Z", Cond.instanceMethod yX0_init, Cond.code yX0_init cX0_init 1 none, Cond.methodLink RX0 3 objectInit, Cond.arrayClass .int, Cond.fieldLink RX0 9 "LeastSets$Axioms" "body" "[I"]
def wsX3_init_r2 : List Cond := [Cond.fieldLink RX0 15 "LeastSets$Axioms" "head" "[I", Cond.fieldLink RX0 18 "LeastSets$Axioms" "weight" "[I", Cond.arrayClass .boolean, Cond.fieldLink RX0 21 "LeastSets$Axioms" "fixed" "[Z", Cond.fieldLink RX0 25 "LeastSets$Axioms" "count" "I", Cond.arrayClass .long, Cond.fieldLink RX0 29 "LeastSets$Axioms" "usedBy" "[J", Cond.fieldLink RX0 33 "LeastSets$Axioms" "givenBy" "[J", Cond.instanceMethod yX1_init, Cond.code yX1_init cX1_init 1 none, Cond.methodLink RX1 3 objectInit, Cond.fieldLink RX1 9 "LeastSets$Family" "members" "[J", Cond.fieldLink RX1 15 "LeastSets$Family" "least" "[J", Cond.instanceMethod yX2_init, Cond.code yX2_init cX2_init 1 none, Cond.methodLink RX2 3 objectInit, Cond.fieldLink RX2 9 "LeastSets$SetList" "sets" "[I", Cond.fieldLink RX2 15 "LeastSets$SetList" "size" "I"]
def wsX3_init : List Cond := .code yX3_init cX3_init 1 none :: ((wsX3_init_r1 ++ wsX3_init_r2) ++ wsX00 ++ wsX30 ++ wsX10 ++ wsX20)
def wsX3_isFact : List Cond := .code yX3_isFact cX3_isFact 1 (some .boolean) :: ([])
def wsX3_forgetLists : List Cond := .code yX3_forgetLists cX3_forgetLists 1 none :: ([.fieldLink RX3 37 "LeastSets" "causesKnown" "Z", .fieldLink RX3 41 "LeastSets" "curesKnown" "Z"] ++ wsX30)
def wsX3_axiom : List Cond := .code yX3_axiom cX3_axiom 3 (some .int) :: ([.fieldLink RX3 12 "LeastSets" "rows" "LLeastSets$Axioms;", .methodLink RX3 44 yX3_isFact, .static yX3_isFact, .initialized RX3, .code yX3_isFact cX3_isFact 1 (some .boolean), .methodLink RX3 51 yX0_append, .instanceMethod yX0_append, .selects RX0 yX0_append yX0_append, .initialized RX0, .code yX0_append cX0_append 3 none, .fieldLink RX0 25 "LeastSets$Axioms" "count" "I", .fieldLink RX0 9 "LeastSets$Axioms" "body" "[I", .fieldLink RX0 15 "LeastSets$Axioms" "head" "[I", .fieldLink RX0 18 "LeastSets$Axioms" "weight" "[I", .fieldLink RX0 21 "LeastSets$Axioms" "fixed" "[Z", .methodLink RX3 55 yX3_forgetLists, .instanceMethod yX3_forgetLists, .selects RX3 yX3_forgetLists yX3_forgetLists, .code yX3_forgetLists cX3_forgetLists 1 none, .fieldLink RX3 37 "LeastSets" "causesKnown" "Z", .fieldLink RX3 41 "LeastSets" "curesKnown" "Z"] ++ wsX30 ++ wsX00)
def wsX3_drop : List Cond := .code yX3_drop cX3_drop 2 (some .int) :: ([.fieldLink RX3 12 "LeastSets" "rows" "LLeastSets$Axioms;", .methodLink RX3 58 yX0_has, .instanceMethod yX0_has, .selects RX0 yX0_has yX0_has, .initialized RX0, .code yX0_has cX0_has 2 (some .boolean), .fieldLink RX0 25 "LeastSets$Axioms" "count" "I", .methodLink RX3 61 yX0_remove, .instanceMethod yX0_remove, .selects RX0 yX0_remove yX0_remove, .code yX0_remove cX0_remove 3 none, .fieldLink RX0 9 "LeastSets$Axioms" "body" "[I", .fieldLink RX0 15 "LeastSets$Axioms" "head" "[I", .fieldLink RX0 18 "LeastSets$Axioms" "weight" "[I", .fieldLink RX0 21 "LeastSets$Axioms" "fixed" "[Z", .methodLink RX0 36 yX0_has, .methodLink RX3 55 yX3_forgetLists, .instanceMethod yX3_forgetLists, .selects RX3 yX3_forgetLists yX3_forgetLists, .initialized RX3, .code yX3_forgetLists cX3_forgetLists 1 none, .fieldLink RX3 37 "LeastSets" "causesKnown" "Z", .fieldLink RX3 41 "LeastSets" "curesKnown" "Z"] ++ wsX30 ++ wsX00)
def wsX3_fix : List Cond := .code yX3_fix cX3_fix 4 (some .int) :: ([.fieldLink RX3 12 "LeastSets" "rows" "LLeastSets$Axioms;", .fieldLink RX3 41 "LeastSets" "curesKnown" "Z", .methodLink RX3 58 yX0_has, .instanceMethod yX0_has, .selects RX0 yX0_has yX0_has, .initialized RX0, .code yX0_has cX0_has 2 (some .boolean), .fieldLink RX0 25 "LeastSets$Axioms" "count" "I"] ++ wsX30 ++ wsX00)
def wsX3_weight : List Cond := .code yX3_weight cX3_weight 4 (some .int) :: ([.fieldLink RX3 12 "LeastSets" "rows" "LLeastSets$Axioms;", .methodLink RX3 58 yX0_has, .instanceMethod yX0_has, .selects RX0 yX0_has yX0_has, .initialized RX0, .code yX0_has cX0_has 2 (some .boolean), .fieldLink RX0 25 "LeastSets$Axioms" "count" "I"] ++ wsX30 ++ wsX00)
def wsX3_goal : List Cond := .code yX3_goal cX3_goal 3 (some .int) :: ([.fieldLink RX3 33 "LeastSets" "goalFact" "I", .methodLink RX3 44 yX3_isFact, .static yX3_isFact, .initialized RX3, .code yX3_isFact cX3_isFact 1 (some .boolean), .methodLink RX3 55 yX3_forgetLists, .instanceMethod yX3_forgetLists, .selects RX3 yX3_forgetLists yX3_forgetLists, .code yX3_forgetLists cX3_forgetLists 1 none, .fieldLink RX3 37 "LeastSets" "causesKnown" "Z", .fieldLink RX3 41 "LeastSets" "curesKnown" "Z"] ++ wsX30)
def wsX3_follow : List Cond := .code yX3_follow cX3_follow 2 (some .int) :: ([.fieldLink RX3 12 "LeastSets" "rows" "LLeastSets$Axioms;", .methodLink RX3 73 yX0_factsFrom, .instanceMethod yX0_factsFrom, .selects RX0 yX0_factsFrom yX0_factsFrom, .initialized RX0, .code yX0_factsFrom cX0_factsFrom 4 (some .int), .fieldLink RX0 25 "LeastSets$Axioms" "count" "I", .methodLink RX0 40 yX0_oneStepMore, .instanceMethod yX0_oneStepMore, .selects RX0 yX0_oneStepMore yX0_oneStepMore, .code yX0_oneStepMore cX0_oneStepMore 5 (some .int), .fieldLink RX0 9 "LeastSets$Axioms" "body" "[I", .fieldLink RX0 15 "LeastSets$Axioms" "head" "[I"] ++ wsX30 ++ wsX00)
def wsX3_steps : List Cond := .code yX3_steps cX3_steps 4 (some .int) :: ([.fieldLink RX3 12 "LeastSets" "rows" "LLeastSets$Axioms;", .fieldLink RX3 33 "LeastSets" "goalFact" "I", .methodLink RX3 77 yX0_oneStepMore, .instanceMethod yX0_oneStepMore, .selects RX0 yX0_oneStepMore yX0_oneStepMore, .initialized RX0, .code yX0_oneStepMore cX0_oneStepMore 5 (some .int), .fieldLink RX0 25 "LeastSets$Axioms" "count" "I", .fieldLink RX0 9 "LeastSets$Axioms" "body" "[I", .fieldLink RX0 15 "LeastSets$Axioms" "head" "[I"] ++ wsX30 ++ wsX00)
def wsX3_knownCauses_r1 : List Cond := [Cond.fieldLink RX3 37 "LeastSets" "causesKnown" "Z", Cond.fieldLink RX3 12 "LeastSets" "rows" "LLeastSets$Axioms;", Cond.fieldLink RX3 19 "LeastSets" "family" "LLeastSets$Family;", Cond.fieldLink RX3 33 "LeastSets" "goalFact" "I", Cond.fieldLink RX3 26 "LeastSets" "causeList" "LLeastSets$SetList;", Cond.methodLink RX3 127 yX0_words, Cond.instanceMethod yX0_words, Cond.selects RX0 yX0_words yX0_words, Cond.initialized RX0, Cond.code yX0_words cX0_words 1 (some .int), Cond.fieldLink RX0 25 "LeastSets$Axioms" "count" "I", Cond.methodLink RX3 134 yX0_setsThatGive, Cond.instanceMethod yX0_setsThatGive, Cond.selects RX0 yX0_setsThatGive yX0_setsThatGive, Cond.code yX0_setsThatGive cX0_setsThatGive 4 (some .long), Cond.fieldLink RX0 29 "LeastSets$Axioms" "usedBy" "[J", Cond.methodLink RX0 44 yX0_setsWith, Cond.instanceMethod yX0_setsWith, Cond.selects RX0 yX0_setsWith yX0_setsWith, Cond.code yX0_setsWith cX0_setsWith 3 (some .long), Cond.constantLong RX0 52 (-1), Cond.methodLink RX0 48 yX0_setsGiving, Cond.instanceMethod yX0_setsGiving, Cond.selects RX0 yX0_setsGiving yX0_setsGiving]
def wsX3_knownCauses_r2 : List Cond := [Cond.code yX0_setsGiving cX0_setsGiving 7 (some .long), Cond.fieldLink RX0 33 "LeastSets$Axioms" "givenBy" "[J", Cond.fieldLink RX0 9 "LeastSets$Axioms" "body" "[I", Cond.fieldLink RX0 15 "LeastSets$Axioms" "head" "[I", Cond.methodLink RX0 57 yJ7_fill_d0a16, Cond.static yJ7_fill_d0a16, Cond.initialized RJ7, Cond.code yJ7_fill_d0a16 cJ7_fill_d0a16 5 none, Cond.methodLink RX0 63 yX0_setsGivingAll, Cond.instanceMethod yX0_setsGivingAll, Cond.selects RX0 yX0_setsGivingAll yX0_setsGivingAll, Cond.code yX0_setsGivingAll cX0_setsGivingAll 9 (some .long), Cond.methodLink RX0 67 yJ6_bitCount_0f7a4, Cond.static yJ6_bitCount_0f7a4, Cond.initialized RJ6, Cond.code yJ6_bitCount_0f7a4 cJ6_bitCount_0f7a4 1 (some .int), Cond.constant RJ6 265 (1431655765), Cond.constant RJ6 266 (858993459), Cond.constant RJ6 267 (252645135), Cond.static yX3_lowestPlace, Cond.initialized RX3, Cond.code yX3_lowestPlace cX3_lowestPlace 2 (some .int), Cond.methodLink RX3 123 yJ13_bitCount_95d88, Cond.static yJ13_bitCount_95d88]
def wsX3_knownCauses_r3 : List Cond := [Cond.initialized RJ13, Cond.code yJ13_bitCount_95d88 cJ13_bitCount_95d88 2 (some .int), Cond.constantLong RJ13 314 (6148914691236517205), Cond.constantLong RJ13 316 (3689348814741910323), Cond.constantLong RJ13 318 (1085102592571150095), Cond.methodLink RX3 138 yX1_listLeast, Cond.instanceMethod yX1_listLeast, Cond.selects RX1 yX1_listLeast yX1_listLeast, Cond.initialized RX1, Cond.code yX1_listLeast cX1_listLeast 6 none, Cond.fieldLink RX1 15 "LeastSets$Family" "least" "[J", Cond.methodLink RX1 18 yX1_leastOf, Cond.instanceMethod yX1_leastOf, Cond.selects RX1 yX1_leastOf yX1_leastOf, Cond.code yX1_leastOf cX1_leastOf 7 (some .long), Cond.fieldLink RX1 9 "LeastSets$Family" "members" "[J", Cond.constantLong RX1 43 (-1), Cond.methodLink RX1 22 yX2_clear, Cond.instanceMethod yX2_clear, Cond.selects RX2 yX2_clear yX2_clear, Cond.initialized RX2, Cond.code yX2_clear cX2_clear 1 none, Cond.fieldLink RX2 15 "LeastSets$SetList" "size" "I", Cond.methodLink RX1 27 yJ6_bitCount_0f7a4]
def wsX3_knownCauses_r4 : List Cond := [Cond.methodLink RX1 36 yX2_addAll, Cond.instanceMethod yX2_addAll, Cond.selects RX2 yX2_addAll yX2_addAll, Cond.code yX2_addAll cX2_addAll 8 none, Cond.fieldLink RX2 9 "LeastSets$SetList" "sets" "[I", Cond.methodLink RX2 19 yJ13_bitCount_95d88]
def wsX3_knownCauses : List Cond := .code yX3_knownCauses cX3_knownCauses 3 (some (.object "LeastSets$SetList")) :: ((wsX3_knownCauses_r1 ++ (wsX3_knownCauses_r2 ++ (wsX3_knownCauses_r3 ++ wsX3_knownCauses_r4))) ++ wsX30 ++ wsX10 ++ wsX00 ++ wsX20)
def wsX3_causes_r1 : List Cond := [Cond.methodLink RX3 81 yX3_knownCauses, Cond.instanceMethod yX3_knownCauses, Cond.selects RX3 yX3_knownCauses yX3_knownCauses, Cond.initialized RX3, Cond.code yX3_knownCauses cX3_knownCauses 3 (some (.object "LeastSets$SetList")), Cond.fieldLink RX3 37 "LeastSets" "causesKnown" "Z", Cond.fieldLink RX3 12 "LeastSets" "rows" "LLeastSets$Axioms;", Cond.fieldLink RX3 19 "LeastSets" "family" "LLeastSets$Family;", Cond.fieldLink RX3 33 "LeastSets" "goalFact" "I", Cond.fieldLink RX3 26 "LeastSets" "causeList" "LLeastSets$SetList;", Cond.methodLink RX3 127 yX0_words, Cond.instanceMethod yX0_words, Cond.selects RX0 yX0_words yX0_words, Cond.initialized RX0, Cond.code yX0_words cX0_words 1 (some .int), Cond.fieldLink RX0 25 "LeastSets$Axioms" "count" "I", Cond.methodLink RX3 134 yX0_setsThatGive, Cond.instanceMethod yX0_setsThatGive, Cond.selects RX0 yX0_setsThatGive yX0_setsThatGive, Cond.code yX0_setsThatGive cX0_setsThatGive 4 (some .long), Cond.fieldLink RX0 29 "LeastSets$Axioms" "usedBy" "[J", Cond.methodLink RX0 44 yX0_setsWith, Cond.instanceMethod yX0_setsWith, Cond.selects RX0 yX0_setsWith yX0_setsWith]
def wsX3_causes_r2 : List Cond := [Cond.code yX0_setsWith cX0_setsWith 3 (some .long), Cond.constantLong RX0 52 (-1), Cond.methodLink RX0 48 yX0_setsGiving, Cond.instanceMethod yX0_setsGiving, Cond.selects RX0 yX0_setsGiving yX0_setsGiving, Cond.code yX0_setsGiving cX0_setsGiving 7 (some .long), Cond.fieldLink RX0 33 "LeastSets$Axioms" "givenBy" "[J", Cond.fieldLink RX0 9 "LeastSets$Axioms" "body" "[I", Cond.fieldLink RX0 15 "LeastSets$Axioms" "head" "[I", Cond.methodLink RX0 57 yJ7_fill_d0a16, Cond.static yJ7_fill_d0a16, Cond.initialized RJ7, Cond.code yJ7_fill_d0a16 cJ7_fill_d0a16 5 none, Cond.methodLink RX0 63 yX0_setsGivingAll, Cond.instanceMethod yX0_setsGivingAll, Cond.selects RX0 yX0_setsGivingAll yX0_setsGivingAll, Cond.code yX0_setsGivingAll cX0_setsGivingAll 9 (some .long), Cond.methodLink RX0 67 yJ6_bitCount_0f7a4, Cond.static yJ6_bitCount_0f7a4, Cond.initialized RJ6, Cond.code yJ6_bitCount_0f7a4 cJ6_bitCount_0f7a4 1 (some .int), Cond.constant RJ6 265 (1431655765), Cond.constant RJ6 266 (858993459), Cond.constant RJ6 267 (252645135)]
def wsX3_causes_r3 : List Cond := [Cond.static yX3_lowestPlace, Cond.code yX3_lowestPlace cX3_lowestPlace 2 (some .int), Cond.methodLink RX3 123 yJ13_bitCount_95d88, Cond.static yJ13_bitCount_95d88, Cond.initialized RJ13, Cond.code yJ13_bitCount_95d88 cJ13_bitCount_95d88 2 (some .int), Cond.constantLong RJ13 314 (6148914691236517205), Cond.constantLong RJ13 316 (3689348814741910323), Cond.constantLong RJ13 318 (1085102592571150095), Cond.methodLink RX3 138 yX1_listLeast, Cond.instanceMethod yX1_listLeast, Cond.selects RX1 yX1_listLeast yX1_listLeast, Cond.initialized RX1, Cond.code yX1_listLeast cX1_listLeast 6 none, Cond.fieldLink RX1 15 "LeastSets$Family" "least" "[J", Cond.methodLink RX1 18 yX1_leastOf, Cond.instanceMethod yX1_leastOf, Cond.selects RX1 yX1_leastOf yX1_leastOf, Cond.code yX1_leastOf cX1_leastOf 7 (some .long), Cond.fieldLink RX1 9 "LeastSets$Family" "members" "[J", Cond.constantLong RX1 43 (-1), Cond.methodLink RX1 22 yX2_clear, Cond.instanceMethod yX2_clear, Cond.selects RX2 yX2_clear yX2_clear]
def wsX3_causes_r4 : List Cond := [Cond.initialized RX2, Cond.code yX2_clear cX2_clear 1 none, Cond.fieldLink RX2 15 "LeastSets$SetList" "size" "I", Cond.methodLink RX1 27 yJ6_bitCount_0f7a4, Cond.methodLink RX1 36 yX2_addAll, Cond.instanceMethod yX2_addAll, Cond.selects RX2 yX2_addAll yX2_addAll, Cond.code yX2_addAll cX2_addAll 8 none, Cond.fieldLink RX2 9 "LeastSets$SetList" "sets" "[I", Cond.methodLink RX2 19 yJ13_bitCount_95d88]
def wsX3_causes : List Cond := .code yX3_causes cX3_causes 1 (some .int) :: ((wsX3_causes_r1 ++ (wsX3_causes_r2 ++ (wsX3_causes_r3 ++ wsX3_causes_r4))) ++ wsX20 ++ wsX30 ++ wsX10 ++ wsX00)
def wsX3_knownCures_r1 : List Cond := [Cond.fieldLink RX3 41 "LeastSets" "curesKnown" "Z", Cond.fieldLink RX3 12 "LeastSets" "rows" "LLeastSets$Axioms;", Cond.fieldLink RX3 19 "LeastSets" "family" "LLeastSets$Family;", Cond.fieldLink RX3 33 "LeastSets" "goalFact" "I", Cond.constantLong RX3 145 (-1), Cond.fieldLink RX3 30 "LeastSets" "cureList" "LLeastSets$SetList;", Cond.methodLink RX3 127 yX0_words, Cond.instanceMethod yX0_words, Cond.selects RX0 yX0_words yX0_words, Cond.initialized RX0, Cond.code yX0_words cX0_words 1 (some .int), Cond.fieldLink RX0 25 "LeastSets$Axioms" "count" "I", Cond.methodLink RX3 142 yX0_setsThatLeave, Cond.instanceMethod yX0_setsThatLeave, Cond.selects RX0 yX0_setsThatLeave yX0_setsThatLeave, Cond.code yX0_setsThatLeave cX0_setsThatLeave 4 (some .long), Cond.fieldLink RX0 29 "LeastSets$Axioms" "usedBy" "[J", Cond.fieldLink RX0 21 "LeastSets$Axioms" "fixed" "[Z", Cond.constantLong RX0 52 (-1), Cond.methodLink RX0 44 yX0_setsWith, Cond.instanceMethod yX0_setsWith, Cond.selects RX0 yX0_setsWith yX0_setsWith, Cond.code yX0_setsWith cX0_setsWith 3 (some .long), Cond.methodLink RX0 48 yX0_setsGiving]
def wsX3_knownCures_r2 : List Cond := [Cond.instanceMethod yX0_setsGiving, Cond.selects RX0 yX0_setsGiving yX0_setsGiving, Cond.code yX0_setsGiving cX0_setsGiving 7 (some .long), Cond.fieldLink RX0 33 "LeastSets$Axioms" "givenBy" "[J", Cond.fieldLink RX0 9 "LeastSets$Axioms" "body" "[I", Cond.fieldLink RX0 15 "LeastSets$Axioms" "head" "[I", Cond.methodLink RX0 57 yJ7_fill_d0a16, Cond.static yJ7_fill_d0a16, Cond.initialized RJ7, Cond.code yJ7_fill_d0a16 cJ7_fill_d0a16 5 none, Cond.methodLink RX0 63 yX0_setsGivingAll, Cond.instanceMethod yX0_setsGivingAll, Cond.selects RX0 yX0_setsGivingAll yX0_setsGivingAll, Cond.code yX0_setsGivingAll cX0_setsGivingAll 9 (some .long), Cond.methodLink RX0 67 yJ6_bitCount_0f7a4, Cond.static yJ6_bitCount_0f7a4, Cond.initialized RJ6, Cond.code yJ6_bitCount_0f7a4 cJ6_bitCount_0f7a4 1 (some .int), Cond.constant RJ6 265 (1431655765), Cond.constant RJ6 266 (858993459), Cond.constant RJ6 267 (252645135), Cond.static yX3_lowestPlace, Cond.initialized RX3, Cond.code yX3_lowestPlace cX3_lowestPlace 2 (some .int)]
def wsX3_knownCures_r3 : List Cond := [Cond.methodLink RX3 123 yJ13_bitCount_95d88, Cond.static yJ13_bitCount_95d88, Cond.initialized RJ13, Cond.code yJ13_bitCount_95d88 cJ13_bitCount_95d88 2 (some .int), Cond.constantLong RJ13 314 (6148914691236517205), Cond.constantLong RJ13 316 (3689348814741910323), Cond.constantLong RJ13 318 (1085102592571150095), Cond.methodLink RX3 138 yX1_listLeast, Cond.instanceMethod yX1_listLeast, Cond.selects RX1 yX1_listLeast yX1_listLeast, Cond.initialized RX1, Cond.code yX1_listLeast cX1_listLeast 6 none, Cond.fieldLink RX1 15 "LeastSets$Family" "least" "[J", Cond.methodLink RX1 18 yX1_leastOf, Cond.instanceMethod yX1_leastOf, Cond.selects RX1 yX1_leastOf yX1_leastOf, Cond.code yX1_leastOf cX1_leastOf 7 (some .long), Cond.fieldLink RX1 9 "LeastSets$Family" "members" "[J", Cond.constantLong RX1 43 (-1), Cond.methodLink RX1 22 yX2_clear, Cond.instanceMethod yX2_clear, Cond.selects RX2 yX2_clear yX2_clear, Cond.initialized RX2, Cond.code yX2_clear cX2_clear 1 none]
def wsX3_knownCures_r4 : List Cond := [Cond.fieldLink RX2 15 "LeastSets$SetList" "size" "I", Cond.methodLink RX1 27 yJ6_bitCount_0f7a4, Cond.methodLink RX1 36 yX2_addAll, Cond.instanceMethod yX2_addAll, Cond.selects RX2 yX2_addAll yX2_addAll, Cond.code yX2_addAll cX2_addAll 8 none, Cond.fieldLink RX2 9 "LeastSets$SetList" "sets" "[I", Cond.methodLink RX2 19 yJ13_bitCount_95d88]
def wsX3_knownCures : List Cond := .code yX3_knownCures cX3_knownCures 3 (some (.object "LeastSets$SetList")) :: ((wsX3_knownCures_r1 ++ (wsX3_knownCures_r2 ++ (wsX3_knownCures_r3 ++ wsX3_knownCures_r4))) ++ wsX30 ++ wsX10 ++ wsX00 ++ wsX20)
def wsX3_cures_r1 : List Cond := [Cond.methodLink RX3 88 yX3_knownCures, Cond.instanceMethod yX3_knownCures, Cond.selects RX3 yX3_knownCures yX3_knownCures, Cond.initialized RX3, Cond.code yX3_knownCures cX3_knownCures 3 (some (.object "LeastSets$SetList")), Cond.fieldLink RX3 41 "LeastSets" "curesKnown" "Z", Cond.fieldLink RX3 12 "LeastSets" "rows" "LLeastSets$Axioms;", Cond.fieldLink RX3 19 "LeastSets" "family" "LLeastSets$Family;", Cond.fieldLink RX3 33 "LeastSets" "goalFact" "I", Cond.constantLong RX3 145 (-1), Cond.fieldLink RX3 30 "LeastSets" "cureList" "LLeastSets$SetList;", Cond.methodLink RX3 127 yX0_words, Cond.instanceMethod yX0_words, Cond.selects RX0 yX0_words yX0_words, Cond.initialized RX0, Cond.code yX0_words cX0_words 1 (some .int), Cond.fieldLink RX0 25 "LeastSets$Axioms" "count" "I", Cond.methodLink RX3 142 yX0_setsThatLeave, Cond.instanceMethod yX0_setsThatLeave, Cond.selects RX0 yX0_setsThatLeave yX0_setsThatLeave, Cond.code yX0_setsThatLeave cX0_setsThatLeave 4 (some .long), Cond.fieldLink RX0 29 "LeastSets$Axioms" "usedBy" "[J", Cond.fieldLink RX0 21 "LeastSets$Axioms" "fixed" "[Z", Cond.constantLong RX0 52 (-1)]
def wsX3_cures_r2 : List Cond := [Cond.methodLink RX0 44 yX0_setsWith, Cond.instanceMethod yX0_setsWith, Cond.selects RX0 yX0_setsWith yX0_setsWith, Cond.code yX0_setsWith cX0_setsWith 3 (some .long), Cond.methodLink RX0 48 yX0_setsGiving, Cond.instanceMethod yX0_setsGiving, Cond.selects RX0 yX0_setsGiving yX0_setsGiving, Cond.code yX0_setsGiving cX0_setsGiving 7 (some .long), Cond.fieldLink RX0 33 "LeastSets$Axioms" "givenBy" "[J", Cond.fieldLink RX0 9 "LeastSets$Axioms" "body" "[I", Cond.fieldLink RX0 15 "LeastSets$Axioms" "head" "[I", Cond.methodLink RX0 57 yJ7_fill_d0a16, Cond.static yJ7_fill_d0a16, Cond.initialized RJ7, Cond.code yJ7_fill_d0a16 cJ7_fill_d0a16 5 none, Cond.methodLink RX0 63 yX0_setsGivingAll, Cond.instanceMethod yX0_setsGivingAll, Cond.selects RX0 yX0_setsGivingAll yX0_setsGivingAll, Cond.code yX0_setsGivingAll cX0_setsGivingAll 9 (some .long), Cond.methodLink RX0 67 yJ6_bitCount_0f7a4, Cond.static yJ6_bitCount_0f7a4, Cond.initialized RJ6, Cond.code yJ6_bitCount_0f7a4 cJ6_bitCount_0f7a4 1 (some .int), Cond.constant RJ6 265 (1431655765)]
def wsX3_cures_r3 : List Cond := [Cond.constant RJ6 266 (858993459), Cond.constant RJ6 267 (252645135), Cond.static yX3_lowestPlace, Cond.code yX3_lowestPlace cX3_lowestPlace 2 (some .int), Cond.methodLink RX3 123 yJ13_bitCount_95d88, Cond.static yJ13_bitCount_95d88, Cond.initialized RJ13, Cond.code yJ13_bitCount_95d88 cJ13_bitCount_95d88 2 (some .int), Cond.constantLong RJ13 314 (6148914691236517205), Cond.constantLong RJ13 316 (3689348814741910323), Cond.constantLong RJ13 318 (1085102592571150095), Cond.methodLink RX3 138 yX1_listLeast, Cond.instanceMethod yX1_listLeast, Cond.selects RX1 yX1_listLeast yX1_listLeast, Cond.initialized RX1, Cond.code yX1_listLeast cX1_listLeast 6 none, Cond.fieldLink RX1 15 "LeastSets$Family" "least" "[J", Cond.methodLink RX1 18 yX1_leastOf, Cond.instanceMethod yX1_leastOf, Cond.selects RX1 yX1_leastOf yX1_leastOf, Cond.code yX1_leastOf cX1_leastOf 7 (some .long), Cond.fieldLink RX1 9 "LeastSets$Family" "members" "[J", Cond.constantLong RX1 43 (-1), Cond.methodLink RX1 22 yX2_clear]
def wsX3_cures_r4 : List Cond := [Cond.instanceMethod yX2_clear, Cond.selects RX2 yX2_clear yX2_clear, Cond.initialized RX2, Cond.code yX2_clear cX2_clear 1 none, Cond.fieldLink RX2 15 "LeastSets$SetList" "size" "I", Cond.methodLink RX1 27 yJ6_bitCount_0f7a4, Cond.methodLink RX1 36 yX2_addAll, Cond.instanceMethod yX2_addAll, Cond.selects RX2 yX2_addAll yX2_addAll, Cond.code yX2_addAll cX2_addAll 8 none, Cond.fieldLink RX2 9 "LeastSets$SetList" "sets" "[I", Cond.methodLink RX2 19 yJ13_bitCount_95d88]
def wsX3_cures : List Cond := .code yX3_cures cX3_cures 1 (some .int) :: ((wsX3_cures_r1 ++ (wsX3_cures_r2 ++ (wsX3_cures_r3 ++ wsX3_cures_r4))) ++ wsX20 ++ wsX30 ++ wsX10 ++ wsX00)
def wsX3_cause_r1 : List Cond := [Cond.methodLink RX3 81 yX3_knownCauses, Cond.instanceMethod yX3_knownCauses, Cond.selects RX3 yX3_knownCauses yX3_knownCauses, Cond.initialized RX3, Cond.code yX3_knownCauses cX3_knownCauses 3 (some (.object "LeastSets$SetList")), Cond.fieldLink RX3 37 "LeastSets" "causesKnown" "Z", Cond.fieldLink RX3 12 "LeastSets" "rows" "LLeastSets$Axioms;", Cond.fieldLink RX3 19 "LeastSets" "family" "LLeastSets$Family;", Cond.fieldLink RX3 33 "LeastSets" "goalFact" "I", Cond.fieldLink RX3 26 "LeastSets" "causeList" "LLeastSets$SetList;", Cond.methodLink RX3 127 yX0_words, Cond.instanceMethod yX0_words, Cond.selects RX0 yX0_words yX0_words, Cond.initialized RX0, Cond.code yX0_words cX0_words 1 (some .int), Cond.fieldLink RX0 25 "LeastSets$Axioms" "count" "I", Cond.methodLink RX3 134 yX0_setsThatGive, Cond.instanceMethod yX0_setsThatGive, Cond.selects RX0 yX0_setsThatGive yX0_setsThatGive, Cond.code yX0_setsThatGive cX0_setsThatGive 4 (some .long), Cond.fieldLink RX0 29 "LeastSets$Axioms" "usedBy" "[J", Cond.methodLink RX0 44 yX0_setsWith, Cond.instanceMethod yX0_setsWith, Cond.selects RX0 yX0_setsWith yX0_setsWith]
def wsX3_cause_r2 : List Cond := [Cond.code yX0_setsWith cX0_setsWith 3 (some .long), Cond.constantLong RX0 52 (-1), Cond.methodLink RX0 48 yX0_setsGiving, Cond.instanceMethod yX0_setsGiving, Cond.selects RX0 yX0_setsGiving yX0_setsGiving, Cond.code yX0_setsGiving cX0_setsGiving 7 (some .long), Cond.fieldLink RX0 33 "LeastSets$Axioms" "givenBy" "[J", Cond.fieldLink RX0 9 "LeastSets$Axioms" "body" "[I", Cond.fieldLink RX0 15 "LeastSets$Axioms" "head" "[I", Cond.methodLink RX0 57 yJ7_fill_d0a16, Cond.static yJ7_fill_d0a16, Cond.initialized RJ7, Cond.code yJ7_fill_d0a16 cJ7_fill_d0a16 5 none, Cond.methodLink RX0 63 yX0_setsGivingAll, Cond.instanceMethod yX0_setsGivingAll, Cond.selects RX0 yX0_setsGivingAll yX0_setsGivingAll, Cond.code yX0_setsGivingAll cX0_setsGivingAll 9 (some .long), Cond.methodLink RX0 67 yJ6_bitCount_0f7a4, Cond.static yJ6_bitCount_0f7a4, Cond.initialized RJ6, Cond.code yJ6_bitCount_0f7a4 cJ6_bitCount_0f7a4 1 (some .int), Cond.constant RJ6 265 (1431655765), Cond.constant RJ6 266 (858993459), Cond.constant RJ6 267 (252645135)]
def wsX3_cause_r3 : List Cond := [Cond.static yX3_lowestPlace, Cond.code yX3_lowestPlace cX3_lowestPlace 2 (some .int), Cond.methodLink RX3 123 yJ13_bitCount_95d88, Cond.static yJ13_bitCount_95d88, Cond.initialized RJ13, Cond.code yJ13_bitCount_95d88 cJ13_bitCount_95d88 2 (some .int), Cond.constantLong RJ13 314 (6148914691236517205), Cond.constantLong RJ13 316 (3689348814741910323), Cond.constantLong RJ13 318 (1085102592571150095), Cond.methodLink RX3 138 yX1_listLeast, Cond.instanceMethod yX1_listLeast, Cond.selects RX1 yX1_listLeast yX1_listLeast, Cond.initialized RX1, Cond.code yX1_listLeast cX1_listLeast 6 none, Cond.fieldLink RX1 15 "LeastSets$Family" "least" "[J", Cond.methodLink RX1 18 yX1_leastOf, Cond.instanceMethod yX1_leastOf, Cond.selects RX1 yX1_leastOf yX1_leastOf, Cond.code yX1_leastOf cX1_leastOf 7 (some .long), Cond.fieldLink RX1 9 "LeastSets$Family" "members" "[J", Cond.constantLong RX1 43 (-1), Cond.methodLink RX1 22 yX2_clear, Cond.instanceMethod yX2_clear, Cond.selects RX2 yX2_clear yX2_clear]
def wsX3_cause_r4 : List Cond := [Cond.initialized RX2, Cond.code yX2_clear cX2_clear 1 none, Cond.fieldLink RX2 15 "LeastSets$SetList" "size" "I", Cond.methodLink RX1 27 yJ6_bitCount_0f7a4, Cond.methodLink RX1 36 yX2_addAll, Cond.instanceMethod yX2_addAll, Cond.selects RX2 yX2_addAll yX2_addAll, Cond.code yX2_addAll cX2_addAll 8 none, Cond.fieldLink RX2 9 "LeastSets$SetList" "sets" "[I", Cond.methodLink RX2 19 yJ13_bitCount_95d88, Cond.methodLink RX3 91 yX2_at, Cond.instanceMethod yX2_at, Cond.selects RX2 yX2_at yX2_at, Cond.code yX2_at cX2_at 2 (some .int)]
def wsX3_cause : List Cond := .code yX3_cause cX3_cause 2 (some .int) :: ((wsX3_cause_r1 ++ (wsX3_cause_r2 ++ (wsX3_cause_r3 ++ wsX3_cause_r4))) ++ wsX30 ++ wsX10 ++ wsX00 ++ wsX20)
def wsX3_cure_r1 : List Cond := [Cond.methodLink RX3 88 yX3_knownCures, Cond.instanceMethod yX3_knownCures, Cond.selects RX3 yX3_knownCures yX3_knownCures, Cond.initialized RX3, Cond.code yX3_knownCures cX3_knownCures 3 (some (.object "LeastSets$SetList")), Cond.fieldLink RX3 41 "LeastSets" "curesKnown" "Z", Cond.fieldLink RX3 12 "LeastSets" "rows" "LLeastSets$Axioms;", Cond.fieldLink RX3 19 "LeastSets" "family" "LLeastSets$Family;", Cond.fieldLink RX3 33 "LeastSets" "goalFact" "I", Cond.constantLong RX3 145 (-1), Cond.fieldLink RX3 30 "LeastSets" "cureList" "LLeastSets$SetList;", Cond.methodLink RX3 127 yX0_words, Cond.instanceMethod yX0_words, Cond.selects RX0 yX0_words yX0_words, Cond.initialized RX0, Cond.code yX0_words cX0_words 1 (some .int), Cond.fieldLink RX0 25 "LeastSets$Axioms" "count" "I", Cond.methodLink RX3 142 yX0_setsThatLeave, Cond.instanceMethod yX0_setsThatLeave, Cond.selects RX0 yX0_setsThatLeave yX0_setsThatLeave, Cond.code yX0_setsThatLeave cX0_setsThatLeave 4 (some .long), Cond.fieldLink RX0 29 "LeastSets$Axioms" "usedBy" "[J", Cond.fieldLink RX0 21 "LeastSets$Axioms" "fixed" "[Z", Cond.constantLong RX0 52 (-1)]
def wsX3_cure_r2 : List Cond := [Cond.methodLink RX0 44 yX0_setsWith, Cond.instanceMethod yX0_setsWith, Cond.selects RX0 yX0_setsWith yX0_setsWith, Cond.code yX0_setsWith cX0_setsWith 3 (some .long), Cond.methodLink RX0 48 yX0_setsGiving, Cond.instanceMethod yX0_setsGiving, Cond.selects RX0 yX0_setsGiving yX0_setsGiving, Cond.code yX0_setsGiving cX0_setsGiving 7 (some .long), Cond.fieldLink RX0 33 "LeastSets$Axioms" "givenBy" "[J", Cond.fieldLink RX0 9 "LeastSets$Axioms" "body" "[I", Cond.fieldLink RX0 15 "LeastSets$Axioms" "head" "[I", Cond.methodLink RX0 57 yJ7_fill_d0a16, Cond.static yJ7_fill_d0a16, Cond.initialized RJ7, Cond.code yJ7_fill_d0a16 cJ7_fill_d0a16 5 none, Cond.methodLink RX0 63 yX0_setsGivingAll, Cond.instanceMethod yX0_setsGivingAll, Cond.selects RX0 yX0_setsGivingAll yX0_setsGivingAll, Cond.code yX0_setsGivingAll cX0_setsGivingAll 9 (some .long), Cond.methodLink RX0 67 yJ6_bitCount_0f7a4, Cond.static yJ6_bitCount_0f7a4, Cond.initialized RJ6, Cond.code yJ6_bitCount_0f7a4 cJ6_bitCount_0f7a4 1 (some .int), Cond.constant RJ6 265 (1431655765)]
def wsX3_cure_r3 : List Cond := [Cond.constant RJ6 266 (858993459), Cond.constant RJ6 267 (252645135), Cond.static yX3_lowestPlace, Cond.code yX3_lowestPlace cX3_lowestPlace 2 (some .int), Cond.methodLink RX3 123 yJ13_bitCount_95d88, Cond.static yJ13_bitCount_95d88, Cond.initialized RJ13, Cond.code yJ13_bitCount_95d88 cJ13_bitCount_95d88 2 (some .int), Cond.constantLong RJ13 314 (6148914691236517205), Cond.constantLong RJ13 316 (3689348814741910323), Cond.constantLong RJ13 318 (1085102592571150095), Cond.methodLink RX3 138 yX1_listLeast, Cond.instanceMethod yX1_listLeast, Cond.selects RX1 yX1_listLeast yX1_listLeast, Cond.initialized RX1, Cond.code yX1_listLeast cX1_listLeast 6 none, Cond.fieldLink RX1 15 "LeastSets$Family" "least" "[J", Cond.methodLink RX1 18 yX1_leastOf, Cond.instanceMethod yX1_leastOf, Cond.selects RX1 yX1_leastOf yX1_leastOf, Cond.code yX1_leastOf cX1_leastOf 7 (some .long), Cond.fieldLink RX1 9 "LeastSets$Family" "members" "[J", Cond.constantLong RX1 43 (-1), Cond.methodLink RX1 22 yX2_clear]
def wsX3_cure_r4 : List Cond := [Cond.instanceMethod yX2_clear, Cond.selects RX2 yX2_clear yX2_clear, Cond.initialized RX2, Cond.code yX2_clear cX2_clear 1 none, Cond.fieldLink RX2 15 "LeastSets$SetList" "size" "I", Cond.methodLink RX1 27 yJ6_bitCount_0f7a4, Cond.methodLink RX1 36 yX2_addAll, Cond.instanceMethod yX2_addAll, Cond.selects RX2 yX2_addAll yX2_addAll, Cond.code yX2_addAll cX2_addAll 8 none, Cond.fieldLink RX2 9 "LeastSets$SetList" "sets" "[I", Cond.methodLink RX2 19 yJ13_bitCount_95d88, Cond.methodLink RX3 91 yX2_at, Cond.instanceMethod yX2_at, Cond.selects RX2 yX2_at yX2_at, Cond.code yX2_at cX2_at 2 (some .int)]
def wsX3_cure : List Cond := .code yX3_cure cX3_cure 2 (some .int) :: ((wsX3_cure_r1 ++ (wsX3_cure_r2 ++ (wsX3_cure_r3 ++ wsX3_cure_r4))) ++ wsX30 ++ wsX10 ++ wsX00 ++ wsX20)
def wsX3_lightest_r1 : List Cond := [Cond.fieldLink RX3 12 "LeastSets" "rows" "LLeastSets$Axioms;", Cond.methodLink RX3 88 yX3_knownCures, Cond.instanceMethod yX3_knownCures, Cond.selects RX3 yX3_knownCures yX3_knownCures, Cond.initialized RX3, Cond.code yX3_knownCures cX3_knownCures 3 (some (.object "LeastSets$SetList")), Cond.fieldLink RX3 41 "LeastSets" "curesKnown" "Z", Cond.fieldLink RX3 19 "LeastSets" "family" "LLeastSets$Family;", Cond.fieldLink RX3 33 "LeastSets" "goalFact" "I", Cond.constantLong RX3 145 (-1), Cond.fieldLink RX3 30 "LeastSets" "cureList" "LLeastSets$SetList;", Cond.methodLink RX3 127 yX0_words, Cond.instanceMethod yX0_words, Cond.selects RX0 yX0_words yX0_words, Cond.initialized RX0, Cond.code yX0_words cX0_words 1 (some .int), Cond.fieldLink RX0 25 "LeastSets$Axioms" "count" "I", Cond.methodLink RX3 142 yX0_setsThatLeave, Cond.instanceMethod yX0_setsThatLeave, Cond.selects RX0 yX0_setsThatLeave yX0_setsThatLeave, Cond.code yX0_setsThatLeave cX0_setsThatLeave 4 (some .long), Cond.fieldLink RX0 29 "LeastSets$Axioms" "usedBy" "[J", Cond.fieldLink RX0 21 "LeastSets$Axioms" "fixed" "[Z", Cond.constantLong RX0 52 (-1)]
def wsX3_lightest_r2 : List Cond := [Cond.methodLink RX0 44 yX0_setsWith, Cond.instanceMethod yX0_setsWith, Cond.selects RX0 yX0_setsWith yX0_setsWith, Cond.code yX0_setsWith cX0_setsWith 3 (some .long), Cond.methodLink RX0 48 yX0_setsGiving, Cond.instanceMethod yX0_setsGiving, Cond.selects RX0 yX0_setsGiving yX0_setsGiving, Cond.code yX0_setsGiving cX0_setsGiving 7 (some .long), Cond.fieldLink RX0 33 "LeastSets$Axioms" "givenBy" "[J", Cond.fieldLink RX0 9 "LeastSets$Axioms" "body" "[I", Cond.fieldLink RX0 15 "LeastSets$Axioms" "head" "[I", Cond.methodLink RX0 57 yJ7_fill_d0a16, Cond.static yJ7_fill_d0a16, Cond.initialized RJ7, Cond.code yJ7_fill_d0a16 cJ7_fill_d0a16 5 none, Cond.methodLink RX0 63 yX0_setsGivingAll, Cond.instanceMethod yX0_setsGivingAll, Cond.selects RX0 yX0_setsGivingAll yX0_setsGivingAll, Cond.code yX0_setsGivingAll cX0_setsGivingAll 9 (some .long), Cond.methodLink RX0 67 yJ6_bitCount_0f7a4, Cond.static yJ6_bitCount_0f7a4, Cond.initialized RJ6, Cond.code yJ6_bitCount_0f7a4 cJ6_bitCount_0f7a4 1 (some .int), Cond.constant RJ6 265 (1431655765)]
def wsX3_lightest_r3 : List Cond := [Cond.constant RJ6 266 (858993459), Cond.constant RJ6 267 (252645135), Cond.static yX3_lowestPlace, Cond.code yX3_lowestPlace cX3_lowestPlace 2 (some .int), Cond.methodLink RX3 123 yJ13_bitCount_95d88, Cond.static yJ13_bitCount_95d88, Cond.initialized RJ13, Cond.code yJ13_bitCount_95d88 cJ13_bitCount_95d88 2 (some .int), Cond.constantLong RJ13 314 (6148914691236517205), Cond.constantLong RJ13 316 (3689348814741910323), Cond.constantLong RJ13 318 (1085102592571150095), Cond.methodLink RX3 138 yX1_listLeast, Cond.instanceMethod yX1_listLeast, Cond.selects RX1 yX1_listLeast yX1_listLeast, Cond.initialized RX1, Cond.code yX1_listLeast cX1_listLeast 6 none, Cond.fieldLink RX1 15 "LeastSets$Family" "least" "[J", Cond.methodLink RX1 18 yX1_leastOf, Cond.instanceMethod yX1_leastOf, Cond.selects RX1 yX1_leastOf yX1_leastOf, Cond.code yX1_leastOf cX1_leastOf 7 (some .long), Cond.fieldLink RX1 9 "LeastSets$Family" "members" "[J", Cond.constantLong RX1 43 (-1), Cond.methodLink RX1 22 yX2_clear]
def wsX3_lightest_r4 : List Cond := [Cond.instanceMethod yX2_clear, Cond.selects RX2 yX2_clear yX2_clear, Cond.initialized RX2, Cond.code yX2_clear cX2_clear 1 none, Cond.fieldLink RX2 15 "LeastSets$SetList" "size" "I", Cond.methodLink RX1 27 yJ6_bitCount_0f7a4, Cond.methodLink RX1 36 yX2_addAll, Cond.instanceMethod yX2_addAll, Cond.selects RX2 yX2_addAll yX2_addAll, Cond.code yX2_addAll cX2_addAll 8 none, Cond.fieldLink RX2 9 "LeastSets$SetList" "sets" "[I", Cond.methodLink RX2 19 yJ13_bitCount_95d88, Cond.methodLink RX3 91 yX2_at, Cond.instanceMethod yX2_at, Cond.selects RX2 yX2_at yX2_at, Cond.code yX2_at cX2_at 2 (some .int), Cond.methodLink RX3 94 yX0_weightOf, Cond.instanceMethod yX0_weightOf, Cond.selects RX0 yX0_weightOf yX0_weightOf, Cond.code yX0_weightOf cX0_weightOf 4 (some .int), Cond.fieldLink RX0 18 "LeastSets$Axioms" "weight" "[I"]
def wsX3_lightest : List Cond := .code yX3_lightest cX3_lightest 6 (some .int) :: ((wsX3_lightest_r1 ++ (wsX3_lightest_r2 ++ (wsX3_lightest_r3 ++ wsX3_lightest_r4))) ++ wsX20 ++ wsX30 ++ wsX10 ++ wsX00)
def wsX3_times_r1 : List Cond := [Cond.fieldLink RX3 12 "LeastSets" "rows" "LLeastSets$Axioms;", Cond.methodLink RX3 58 yX0_has, Cond.instanceMethod yX0_has, Cond.selects RX0 yX0_has yX0_has, Cond.initialized RX0, Cond.code yX0_has cX0_has 2 (some .boolean), Cond.fieldLink RX0 25 "LeastSets$Axioms" "count" "I", Cond.methodLink RX3 88 yX3_knownCures, Cond.instanceMethod yX3_knownCures, Cond.selects RX3 yX3_knownCures yX3_knownCures, Cond.initialized RX3, Cond.code yX3_knownCures cX3_knownCures 3 (some (.object "LeastSets$SetList")), Cond.fieldLink RX3 41 "LeastSets" "curesKnown" "Z", Cond.fieldLink RX3 19 "LeastSets" "family" "LLeastSets$Family;", Cond.fieldLink RX3 33 "LeastSets" "goalFact" "I", Cond.constantLong RX3 145 (-1), Cond.fieldLink RX3 30 "LeastSets" "cureList" "LLeastSets$SetList;", Cond.methodLink RX3 127 yX0_words, Cond.instanceMethod yX0_words, Cond.selects RX0 yX0_words yX0_words, Cond.code yX0_words cX0_words 1 (some .int), Cond.methodLink RX3 142 yX0_setsThatLeave, Cond.instanceMethod yX0_setsThatLeave, Cond.selects RX0 yX0_setsThatLeave yX0_setsThatLeave]
def wsX3_times_r2 : List Cond := [Cond.code yX0_setsThatLeave cX0_setsThatLeave 4 (some .long), Cond.fieldLink RX0 29 "LeastSets$Axioms" "usedBy" "[J", Cond.fieldLink RX0 21 "LeastSets$Axioms" "fixed" "[Z", Cond.constantLong RX0 52 (-1), Cond.methodLink RX0 44 yX0_setsWith, Cond.instanceMethod yX0_setsWith, Cond.selects RX0 yX0_setsWith yX0_setsWith, Cond.code yX0_setsWith cX0_setsWith 3 (some .long), Cond.methodLink RX0 48 yX0_setsGiving, Cond.instanceMethod yX0_setsGiving, Cond.selects RX0 yX0_setsGiving yX0_setsGiving, Cond.code yX0_setsGiving cX0_setsGiving 7 (some .long), Cond.fieldLink RX0 33 "LeastSets$Axioms" "givenBy" "[J", Cond.fieldLink RX0 9 "LeastSets$Axioms" "body" "[I", Cond.fieldLink RX0 15 "LeastSets$Axioms" "head" "[I", Cond.methodLink RX0 57 yJ7_fill_d0a16, Cond.static yJ7_fill_d0a16, Cond.initialized RJ7, Cond.code yJ7_fill_d0a16 cJ7_fill_d0a16 5 none, Cond.methodLink RX0 63 yX0_setsGivingAll, Cond.instanceMethod yX0_setsGivingAll, Cond.selects RX0 yX0_setsGivingAll yX0_setsGivingAll, Cond.code yX0_setsGivingAll cX0_setsGivingAll 9 (some .long), Cond.methodLink RX0 67 yJ6_bitCount_0f7a4]
def wsX3_times_r3 : List Cond := [Cond.static yJ6_bitCount_0f7a4, Cond.initialized RJ6, Cond.code yJ6_bitCount_0f7a4 cJ6_bitCount_0f7a4 1 (some .int), Cond.constant RJ6 265 (1431655765), Cond.constant RJ6 266 (858993459), Cond.constant RJ6 267 (252645135), Cond.static yX3_lowestPlace, Cond.code yX3_lowestPlace cX3_lowestPlace 2 (some .int), Cond.methodLink RX3 123 yJ13_bitCount_95d88, Cond.static yJ13_bitCount_95d88, Cond.initialized RJ13, Cond.code yJ13_bitCount_95d88 cJ13_bitCount_95d88 2 (some .int), Cond.constantLong RJ13 314 (6148914691236517205), Cond.constantLong RJ13 316 (3689348814741910323), Cond.constantLong RJ13 318 (1085102592571150095), Cond.methodLink RX3 138 yX1_listLeast, Cond.instanceMethod yX1_listLeast, Cond.selects RX1 yX1_listLeast yX1_listLeast, Cond.initialized RX1, Cond.code yX1_listLeast cX1_listLeast 6 none, Cond.fieldLink RX1 15 "LeastSets$Family" "least" "[J", Cond.methodLink RX1 18 yX1_leastOf, Cond.instanceMethod yX1_leastOf, Cond.selects RX1 yX1_leastOf yX1_leastOf]
def wsX3_times_r4 : List Cond := [Cond.code yX1_leastOf cX1_leastOf 7 (some .long), Cond.fieldLink RX1 9 "LeastSets$Family" "members" "[J", Cond.constantLong RX1 43 (-1), Cond.methodLink RX1 22 yX2_clear, Cond.instanceMethod yX2_clear, Cond.selects RX2 yX2_clear yX2_clear, Cond.initialized RX2, Cond.code yX2_clear cX2_clear 1 none, Cond.fieldLink RX2 15 "LeastSets$SetList" "size" "I", Cond.methodLink RX1 27 yJ6_bitCount_0f7a4, Cond.methodLink RX1 36 yX2_addAll, Cond.instanceMethod yX2_addAll, Cond.selects RX2 yX2_addAll yX2_addAll, Cond.code yX2_addAll cX2_addAll 8 none, Cond.fieldLink RX2 9 "LeastSets$SetList" "sets" "[I", Cond.methodLink RX2 19 yJ13_bitCount_95d88, Cond.methodLink RX3 81 yX3_knownCauses, Cond.instanceMethod yX3_knownCauses, Cond.selects RX3 yX3_knownCauses yX3_knownCauses, Cond.code yX3_knownCauses cX3_knownCauses 3 (some (.object "LeastSets$SetList")), Cond.fieldLink RX3 37 "LeastSets" "causesKnown" "Z", Cond.fieldLink RX3 26 "LeastSets" "causeList" "LLeastSets$SetList;", Cond.methodLink RX3 134 yX0_setsThatGive, Cond.instanceMethod yX0_setsThatGive]
def wsX3_times_r5 : List Cond := [Cond.selects RX0 yX0_setsThatGive yX0_setsThatGive, Cond.code yX0_setsThatGive cX0_setsThatGive 4 (some .long), Cond.methodLink RX3 97 yX2_howManyWith, Cond.instanceMethod yX2_howManyWith, Cond.selects RX2 yX2_howManyWith yX2_howManyWith, Cond.code yX2_howManyWith cX2_howManyWith 4 (some .int)]
def wsX3_times : List Cond := .code yX3_times cX3_times 4 (some .int) :: ((wsX3_times_r1 ++ (wsX3_times_r2 ++ (wsX3_times_r3 ++ (wsX3_times_r4 ++ wsX3_times_r5)))) ++ wsX30 ++ wsX00 ++ wsX10 ++ wsX20)
def wsX3_within_r1 : List Cond := [Cond.methodLink RX3 81 yX3_knownCauses, Cond.instanceMethod yX3_knownCauses, Cond.selects RX3 yX3_knownCauses yX3_knownCauses, Cond.initialized RX3, Cond.code yX3_knownCauses cX3_knownCauses 3 (some (.object "LeastSets$SetList")), Cond.fieldLink RX3 37 "LeastSets" "causesKnown" "Z", Cond.fieldLink RX3 12 "LeastSets" "rows" "LLeastSets$Axioms;", Cond.fieldLink RX3 19 "LeastSets" "family" "LLeastSets$Family;", Cond.fieldLink RX3 33 "LeastSets" "goalFact" "I", Cond.fieldLink RX3 26 "LeastSets" "causeList" "LLeastSets$SetList;", Cond.methodLink RX3 127 yX0_words, Cond.instanceMethod yX0_words, Cond.selects RX0 yX0_words yX0_words, Cond.initialized RX0, Cond.code yX0_words cX0_words 1 (some .int), Cond.fieldLink RX0 25 "LeastSets$Axioms" "count" "I", Cond.methodLink RX3 134 yX0_setsThatGive, Cond.instanceMethod yX0_setsThatGive, Cond.selects RX0 yX0_setsThatGive yX0_setsThatGive, Cond.code yX0_setsThatGive cX0_setsThatGive 4 (some .long), Cond.fieldLink RX0 29 "LeastSets$Axioms" "usedBy" "[J", Cond.methodLink RX0 44 yX0_setsWith, Cond.instanceMethod yX0_setsWith, Cond.selects RX0 yX0_setsWith yX0_setsWith]
def wsX3_within_r2 : List Cond := [Cond.code yX0_setsWith cX0_setsWith 3 (some .long), Cond.constantLong RX0 52 (-1), Cond.methodLink RX0 48 yX0_setsGiving, Cond.instanceMethod yX0_setsGiving, Cond.selects RX0 yX0_setsGiving yX0_setsGiving, Cond.code yX0_setsGiving cX0_setsGiving 7 (some .long), Cond.fieldLink RX0 33 "LeastSets$Axioms" "givenBy" "[J", Cond.fieldLink RX0 9 "LeastSets$Axioms" "body" "[I", Cond.fieldLink RX0 15 "LeastSets$Axioms" "head" "[I", Cond.methodLink RX0 57 yJ7_fill_d0a16, Cond.static yJ7_fill_d0a16, Cond.initialized RJ7, Cond.code yJ7_fill_d0a16 cJ7_fill_d0a16 5 none, Cond.methodLink RX0 63 yX0_setsGivingAll, Cond.instanceMethod yX0_setsGivingAll, Cond.selects RX0 yX0_setsGivingAll yX0_setsGivingAll, Cond.code yX0_setsGivingAll cX0_setsGivingAll 9 (some .long), Cond.methodLink RX0 67 yJ6_bitCount_0f7a4, Cond.static yJ6_bitCount_0f7a4, Cond.initialized RJ6, Cond.code yJ6_bitCount_0f7a4 cJ6_bitCount_0f7a4 1 (some .int), Cond.constant RJ6 265 (1431655765), Cond.constant RJ6 266 (858993459), Cond.constant RJ6 267 (252645135)]
def wsX3_within_r3 : List Cond := [Cond.static yX3_lowestPlace, Cond.code yX3_lowestPlace cX3_lowestPlace 2 (some .int), Cond.methodLink RX3 123 yJ13_bitCount_95d88, Cond.static yJ13_bitCount_95d88, Cond.initialized RJ13, Cond.code yJ13_bitCount_95d88 cJ13_bitCount_95d88 2 (some .int), Cond.constantLong RJ13 314 (6148914691236517205), Cond.constantLong RJ13 316 (3689348814741910323), Cond.constantLong RJ13 318 (1085102592571150095), Cond.methodLink RX3 138 yX1_listLeast, Cond.instanceMethod yX1_listLeast, Cond.selects RX1 yX1_listLeast yX1_listLeast, Cond.initialized RX1, Cond.code yX1_listLeast cX1_listLeast 6 none, Cond.fieldLink RX1 15 "LeastSets$Family" "least" "[J", Cond.methodLink RX1 18 yX1_leastOf, Cond.instanceMethod yX1_leastOf, Cond.selects RX1 yX1_leastOf yX1_leastOf, Cond.code yX1_leastOf cX1_leastOf 7 (some .long), Cond.fieldLink RX1 9 "LeastSets$Family" "members" "[J", Cond.constantLong RX1 43 (-1), Cond.methodLink RX1 22 yX2_clear, Cond.instanceMethod yX2_clear, Cond.selects RX2 yX2_clear yX2_clear]
def wsX3_within_r4 : List Cond := [Cond.initialized RX2, Cond.code yX2_clear cX2_clear 1 none, Cond.fieldLink RX2 15 "LeastSets$SetList" "size" "I", Cond.methodLink RX1 27 yJ6_bitCount_0f7a4, Cond.methodLink RX1 36 yX2_addAll, Cond.instanceMethod yX2_addAll, Cond.selects RX2 yX2_addAll yX2_addAll, Cond.code yX2_addAll cX2_addAll 8 none, Cond.fieldLink RX2 9 "LeastSets$SetList" "sets" "[I", Cond.methodLink RX2 19 yJ13_bitCount_95d88, Cond.methodLink RX3 100 yX2_firstInside, Cond.instanceMethod yX2_firstInside, Cond.selects RX2 yX2_firstInside yX2_firstInside, Cond.code yX2_firstInside cX2_firstInside 3 (some .int)]
def wsX3_within : List Cond := .code yX3_within cX3_within 2 (some .int) :: ((wsX3_within_r1 ++ (wsX3_within_r2 ++ (wsX3_within_r3 ++ wsX3_within_r4))) ++ wsX30 ++ wsX10 ++ wsX00 ++ wsX20)
def wsX3_common_r1 : List Cond := [Cond.methodLink RX3 81 yX3_knownCauses, Cond.instanceMethod yX3_knownCauses, Cond.selects RX3 yX3_knownCauses yX3_knownCauses, Cond.initialized RX3, Cond.code yX3_knownCauses cX3_knownCauses 3 (some (.object "LeastSets$SetList")), Cond.fieldLink RX3 37 "LeastSets" "causesKnown" "Z", Cond.fieldLink RX3 12 "LeastSets" "rows" "LLeastSets$Axioms;", Cond.fieldLink RX3 19 "LeastSets" "family" "LLeastSets$Family;", Cond.fieldLink RX3 33 "LeastSets" "goalFact" "I", Cond.fieldLink RX3 26 "LeastSets" "causeList" "LLeastSets$SetList;", Cond.methodLink RX3 127 yX0_words, Cond.instanceMethod yX0_words, Cond.selects RX0 yX0_words yX0_words, Cond.initialized RX0, Cond.code yX0_words cX0_words 1 (some .int), Cond.fieldLink RX0 25 "LeastSets$Axioms" "count" "I", Cond.methodLink RX3 134 yX0_setsThatGive, Cond.instanceMethod yX0_setsThatGive, Cond.selects RX0 yX0_setsThatGive yX0_setsThatGive, Cond.code yX0_setsThatGive cX0_setsThatGive 4 (some .long), Cond.fieldLink RX0 29 "LeastSets$Axioms" "usedBy" "[J", Cond.methodLink RX0 44 yX0_setsWith, Cond.instanceMethod yX0_setsWith, Cond.selects RX0 yX0_setsWith yX0_setsWith]
def wsX3_common_r2 : List Cond := [Cond.code yX0_setsWith cX0_setsWith 3 (some .long), Cond.constantLong RX0 52 (-1), Cond.methodLink RX0 48 yX0_setsGiving, Cond.instanceMethod yX0_setsGiving, Cond.selects RX0 yX0_setsGiving yX0_setsGiving, Cond.code yX0_setsGiving cX0_setsGiving 7 (some .long), Cond.fieldLink RX0 33 "LeastSets$Axioms" "givenBy" "[J", Cond.fieldLink RX0 9 "LeastSets$Axioms" "body" "[I", Cond.fieldLink RX0 15 "LeastSets$Axioms" "head" "[I", Cond.methodLink RX0 57 yJ7_fill_d0a16, Cond.static yJ7_fill_d0a16, Cond.initialized RJ7, Cond.code yJ7_fill_d0a16 cJ7_fill_d0a16 5 none, Cond.methodLink RX0 63 yX0_setsGivingAll, Cond.instanceMethod yX0_setsGivingAll, Cond.selects RX0 yX0_setsGivingAll yX0_setsGivingAll, Cond.code yX0_setsGivingAll cX0_setsGivingAll 9 (some .long), Cond.methodLink RX0 67 yJ6_bitCount_0f7a4, Cond.static yJ6_bitCount_0f7a4, Cond.initialized RJ6, Cond.code yJ6_bitCount_0f7a4 cJ6_bitCount_0f7a4 1 (some .int), Cond.constant RJ6 265 (1431655765), Cond.constant RJ6 266 (858993459), Cond.constant RJ6 267 (252645135)]
def wsX3_common_r3 : List Cond := [Cond.static yX3_lowestPlace, Cond.code yX3_lowestPlace cX3_lowestPlace 2 (some .int), Cond.methodLink RX3 123 yJ13_bitCount_95d88, Cond.static yJ13_bitCount_95d88, Cond.initialized RJ13, Cond.code yJ13_bitCount_95d88 cJ13_bitCount_95d88 2 (some .int), Cond.constantLong RJ13 314 (6148914691236517205), Cond.constantLong RJ13 316 (3689348814741910323), Cond.constantLong RJ13 318 (1085102592571150095), Cond.methodLink RX3 138 yX1_listLeast, Cond.instanceMethod yX1_listLeast, Cond.selects RX1 yX1_listLeast yX1_listLeast, Cond.initialized RX1, Cond.code yX1_listLeast cX1_listLeast 6 none, Cond.fieldLink RX1 15 "LeastSets$Family" "least" "[J", Cond.methodLink RX1 18 yX1_leastOf, Cond.instanceMethod yX1_leastOf, Cond.selects RX1 yX1_leastOf yX1_leastOf, Cond.code yX1_leastOf cX1_leastOf 7 (some .long), Cond.fieldLink RX1 9 "LeastSets$Family" "members" "[J", Cond.constantLong RX1 43 (-1), Cond.methodLink RX1 22 yX2_clear, Cond.instanceMethod yX2_clear, Cond.selects RX2 yX2_clear yX2_clear]
def wsX3_common_r4 : List Cond := [Cond.initialized RX2, Cond.code yX2_clear cX2_clear 1 none, Cond.fieldLink RX2 15 "LeastSets$SetList" "size" "I", Cond.methodLink RX1 27 yJ6_bitCount_0f7a4, Cond.methodLink RX1 36 yX2_addAll, Cond.instanceMethod yX2_addAll, Cond.selects RX2 yX2_addAll yX2_addAll, Cond.code yX2_addAll cX2_addAll 8 none, Cond.fieldLink RX2 9 "LeastSets$SetList" "sets" "[I", Cond.methodLink RX2 19 yJ13_bitCount_95d88, Cond.methodLink RX3 103 yX2_sharedByAll, Cond.instanceMethod yX2_sharedByAll, Cond.selects RX2 yX2_sharedByAll yX2_sharedByAll, Cond.code yX2_sharedByAll cX2_sharedByAll 3 (some .int)]
def wsX3_common : List Cond := .code yX3_common cX3_common 1 (some .int) :: ((wsX3_common_r1 ++ (wsX3_common_r2 ++ (wsX3_common_r3 ++ wsX3_common_r4))) ++ wsX30 ++ wsX10 ++ wsX00 ++ wsX20)
def wsX3_axioms : List Cond := .code yX3_axioms cX3_axioms 1 (some .int) :: ([.fieldLink RX3 12 "LeastSets" "rows" "LLeastSets$Axioms;"] ++ wsX30 ++ wsX00)
def wsX3_fact_r1 : List Cond := [Cond.fieldLink RX3 12 "LeastSets" "rows" "LLeastSets$Axioms;", Cond.classLink RX3 112 RJx00060, Cond.instantiable RJx00060 6, Cond.initialized RJx00060, Cond.methodLink RX3 73 yX0_factsFrom, Cond.instanceMethod yX0_factsFrom, Cond.selects RX0 yX0_factsFrom yX0_factsFrom, Cond.initialized RX0, Cond.code yX0_factsFrom cX0_factsFrom 4 (some .int), Cond.fieldLink RX0 25 "LeastSets$Axioms" "count" "I", Cond.methodLink RX0 40 yX0_oneStepMore, Cond.instanceMethod yX0_oneStepMore, Cond.selects RX0 yX0_oneStepMore yX0_oneStepMore, Cond.code yX0_oneStepMore cX0_oneStepMore 5 (some .int), Cond.fieldLink RX0 9 "LeastSets$Axioms" "body" "[I", Cond.fieldLink RX0 15 "LeastSets$Axioms" "head" "[I", Cond.methodLink RX3 107 yJ6_bitCount_0f7a4, Cond.static yJ6_bitCount_0f7a4, Cond.initialized RJ6, Cond.code yJ6_bitCount_0f7a4 cJ6_bitCount_0f7a4 1 (some .int), Cond.constant RJ6 265 (1431655765), Cond.constant RJ6 266 (858993459), Cond.constant RJ6 267 (252645135), Cond.methodLink RX3 119 yX3_lowestPlace]
def wsX3_fact_r2 : List Cond := [Cond.static yX3_lowestPlace, Cond.initialized RX3, Cond.code yX3_lowestPlace cX3_lowestPlace 2 (some .int), Cond.methodLink RX3 123 yJ13_bitCount_95d88, Cond.static yJ13_bitCount_95d88, Cond.initialized RJ13, Cond.code yJ13_bitCount_95d88 cJ13_bitCount_95d88 2 (some .int), Cond.constantLong RJ13 314 (6148914691236517205), Cond.constantLong RJ13 316 (3689348814741910323), Cond.constantLong RJ13 318 (1085102592571150095)]
def wsX3_fact : List Cond := .code yX3_fact cX3_fact 4 (some .int) :: ((wsX3_fact_r1 ++ wsX3_fact_r2) ++ wsX30 ++ wsJx000600 ++ wsX00)
def wsX4_init : List Cond := .code yX4_init cX4_init 1 none :: ([.methodLink RX4 1 objectInit, .instanceMethod objectInit, .code objectInit ⟨#[0xb1]⟩ 1 none, .arrayClass .int, .fieldLink RX4 7 "LeastSetsModel" "bodies" "[I", .fieldLink RX4 13 "LeastSetsModel" "heads" "[I", .fieldLink RX4 16 "LeastSetsModel" "weights" "[I", .arrayClass .boolean, .fieldLink RX4 19 "LeastSetsModel" "fixed" "[Z", .fieldLink RX4 23 "LeastSetsModel" "gives" "[Z", .fieldLink RX4 26 "LeastSetsModel" "causes" "[I", .fieldLink RX4 29 "LeastSetsModel" "cures" "[I"] ++ wsX40)
def wsX4_thrown : List Cond := .code yX4_thrown cX4_thrown 1 (some .int) :: ([.fieldLink RX4 32 "LeastSetsModel" "thrown" "I"] ++ wsX40)
def wsX4_isAxiom : List Cond := .code yX4_isAxiom cX4_isAxiom 2 (some .boolean) :: ([.fieldLink RX4 36 "LeastSetsModel" "count" "I"] ++ wsX40)
def wsX4_axiom : List Cond := .code yX4_axiom cX4_axiom 3 (some .int) :: ([.fieldLink RX4 32 "LeastSetsModel" "thrown" "I", .constant RX4 39 (16777216), .fieldLink RX4 36 "LeastSetsModel" "count" "I", .fieldLink RX4 7 "LeastSetsModel" "bodies" "[I", .fieldLink RX4 13 "LeastSetsModel" "heads" "[I", .fieldLink RX4 16 "LeastSetsModel" "weights" "[I", .fieldLink RX4 19 "LeastSetsModel" "fixed" "[Z", .fieldLink RX4 40 "LeastSetsModel" "known" "Z"] ++ wsX40)
def wsX4_drop : List Cond := .code yX4_drop cX4_drop 3 (some .int) :: ([.fieldLink RX4 32 "LeastSetsModel" "thrown" "I", .fieldLink RX4 36 "LeastSetsModel" "count" "I", .fieldLink RX4 7 "LeastSetsModel" "bodies" "[I", .fieldLink RX4 13 "LeastSetsModel" "heads" "[I", .fieldLink RX4 16 "LeastSetsModel" "weights" "[I", .fieldLink RX4 19 "LeastSetsModel" "fixed" "[Z", .fieldLink RX4 40 "LeastSetsModel" "known" "Z", .methodLink RX4 44 yX4_isAxiom, .instanceMethod yX4_isAxiom, .selects RX4 yX4_isAxiom yX4_isAxiom, .initialized RX4, .code yX4_isAxiom cX4_isAxiom 2 (some .boolean)] ++ wsX40)
def wsX4_fix : List Cond := .code yX4_fix cX4_fix 4 (some .int) :: ([.fieldLink RX4 32 "LeastSetsModel" "thrown" "I", .fieldLink RX4 19 "LeastSetsModel" "fixed" "[Z", .fieldLink RX4 40 "LeastSetsModel" "known" "Z", .methodLink RX4 44 yX4_isAxiom, .instanceMethod yX4_isAxiom, .selects RX4 yX4_isAxiom yX4_isAxiom, .initialized RX4, .code yX4_isAxiom cX4_isAxiom 2 (some .boolean), .fieldLink RX4 36 "LeastSetsModel" "count" "I"] ++ wsX40)
def wsX4_weight : List Cond := .code yX4_weight cX4_weight 4 (some .int) :: ([.fieldLink RX4 32 "LeastSetsModel" "thrown" "I", .fieldLink RX4 16 "LeastSetsModel" "weights" "[I", .methodLink RX4 44 yX4_isAxiom, .instanceMethod yX4_isAxiom, .selects RX4 yX4_isAxiom yX4_isAxiom, .initialized RX4, .code yX4_isAxiom cX4_isAxiom 2 (some .boolean), .fieldLink RX4 36 "LeastSetsModel" "count" "I"] ++ wsX40)
def wsX4_goal : List Cond := .code yX4_goal cX4_goal 3 (some .int) :: ([.fieldLink RX4 32 "LeastSetsModel" "thrown" "I", .fieldLink RX4 48 "LeastSetsModel" "goal" "I", .fieldLink RX4 40 "LeastSetsModel" "known" "Z"] ++ wsX40)
def wsX4_reckon : List Cond := .code yX4_reckon cX4_reckon 7 (some .int) :: ([.fieldLink RX4 51 "LeastSetsModel" "steps" "I", .fieldLink RX4 36 "LeastSetsModel" "count" "I", .fieldLink RX4 7 "LeastSetsModel" "bodies" "[I", .fieldLink RX4 13 "LeastSetsModel" "heads" "[I", .fieldLink RX4 48 "LeastSetsModel" "goal" "I"] ++ wsX40)
def wsX4_follow : List Cond := .code yX4_follow cX4_follow 2 (some .int) :: ([.fieldLink RX4 32 "LeastSetsModel" "thrown" "I", .methodLink RX4 54 yX4_reckon, .instanceMethod yX4_reckon, .selects RX4 yX4_reckon yX4_reckon, .initialized RX4, .code yX4_reckon cX4_reckon 7 (some .int), .fieldLink RX4 51 "LeastSetsModel" "steps" "I", .fieldLink RX4 36 "LeastSetsModel" "count" "I", .fieldLink RX4 7 "LeastSetsModel" "bodies" "[I", .fieldLink RX4 13 "LeastSetsModel" "heads" "[I", .fieldLink RX4 48 "LeastSetsModel" "goal" "I"] ++ wsX40)
def wsX4_steps : List Cond := .code yX4_steps cX4_steps 2 (some .int) :: ([.fieldLink RX4 32 "LeastSetsModel" "thrown" "I", .fieldLink RX4 51 "LeastSetsModel" "steps" "I", .methodLink RX4 54 yX4_reckon, .instanceMethod yX4_reckon, .selects RX4 yX4_reckon yX4_reckon, .initialized RX4, .code yX4_reckon cX4_reckon 7 (some .int), .fieldLink RX4 36 "LeastSetsModel" "count" "I", .fieldLink RX4 7 "LeastSetsModel" "bodies" "[I", .fieldLink RX4 13 "LeastSetsModel" "heads" "[I", .fieldLink RX4 48 "LeastSetsModel" "goal" "I"] ++ wsX40)
def wsX4_fact : List Cond := .code yX4_fact cX4_fact 5 (some .int) :: ([.fieldLink RX4 32 "LeastSetsModel" "thrown" "I", .methodLink RX4 54 yX4_reckon, .instanceMethod yX4_reckon, .selects RX4 yX4_reckon yX4_reckon, .initialized RX4, .code yX4_reckon cX4_reckon 7 (some .int), .fieldLink RX4 51 "LeastSetsModel" "steps" "I", .fieldLink RX4 36 "LeastSetsModel" "count" "I", .fieldLink RX4 7 "LeastSetsModel" "bodies" "[I", .fieldLink RX4 13 "LeastSetsModel" "heads" "[I", .fieldLink RX4 48 "LeastSetsModel" "goal" "I"] ++ wsX40)
def wsX4_size : List Cond := .code yX4_size cX4_size 3 (some .int) :: ([])
def wsX4_isCause : List Cond := .code yX4_isCause cX4_isCause 4 (some .boolean) :: ([.fieldLink RX4 23 "LeastSetsModel" "gives" "[Z", .fieldLink RX4 36 "LeastSetsModel" "count" "I"] ++ wsX40)
def wsX4_isCure : List Cond := .code yX4_isCure cX4_isCure 5 (some .boolean) :: ([.fieldLink RX4 23 "LeastSetsModel" "gives" "[Z", .fieldLink RX4 36 "LeastSetsModel" "count" "I", .fieldLink RX4 19 "LeastSetsModel" "fixed" "[Z"] ++ wsX40)
def wsX4_find_r1 : List Cond := [Cond.fieldLink RX4 40 "LeastSetsModel" "known" "Z", Cond.fieldLink RX4 36 "LeastSetsModel" "count" "I", Cond.fieldLink RX4 23 "LeastSetsModel" "gives" "[Z", Cond.fieldLink RX4 48 "LeastSetsModel" "goal" "I", Cond.fieldLink RX4 58 "LeastSetsModel" "causeCount" "I", Cond.fieldLink RX4 61 "LeastSetsModel" "cureCount" "I", Cond.fieldLink RX4 26 "LeastSetsModel" "causes" "[I", Cond.fieldLink RX4 29 "LeastSetsModel" "cures" "[I", Cond.methodLink RX4 54 yX4_reckon, Cond.instanceMethod yX4_reckon, Cond.selects RX4 yX4_reckon yX4_reckon, Cond.initialized RX4, Cond.code yX4_reckon cX4_reckon 7 (some .int), Cond.fieldLink RX4 51 "LeastSetsModel" "steps" "I", Cond.fieldLink RX4 7 "LeastSetsModel" "bodies" "[I", Cond.fieldLink RX4 13 "LeastSetsModel" "heads" "[I", Cond.methodLink RX4 64 yX4_size, Cond.static yX4_size, Cond.code yX4_size cX4_size 3 (some .int), Cond.methodLink RX4 67 yX4_isCause, Cond.instanceMethod yX4_isCause, Cond.selects RX4 yX4_isCause yX4_isCause, Cond.code yX4_isCause cX4_isCause 4 (some .boolean), Cond.methodLink RX4 70 yX4_isCure]
def wsX4_find_r2 : List Cond := [Cond.instanceMethod yX4_isCure, Cond.selects RX4 yX4_isCure yX4_isCure, Cond.code yX4_isCure cX4_isCure 5 (some .boolean), Cond.fieldLink RX4 19 "LeastSetsModel" "fixed" "[Z"]
def wsX4_find : List Cond := .code yX4_find cX4_find 4 none :: ((wsX4_find_r1 ++ wsX4_find_r2) ++ wsX40)
def wsX4_causes_r1 : List Cond := [Cond.fieldLink RX4 32 "LeastSetsModel" "thrown" "I", Cond.fieldLink RX4 58 "LeastSetsModel" "causeCount" "I", Cond.methodLink RX4 74 yX4_find, Cond.instanceMethod yX4_find, Cond.selects RX4 yX4_find yX4_find, Cond.initialized RX4, Cond.code yX4_find cX4_find 4 none, Cond.fieldLink RX4 40 "LeastSetsModel" "known" "Z", Cond.fieldLink RX4 36 "LeastSetsModel" "count" "I", Cond.fieldLink RX4 23 "LeastSetsModel" "gives" "[Z", Cond.fieldLink RX4 48 "LeastSetsModel" "goal" "I", Cond.fieldLink RX4 61 "LeastSetsModel" "cureCount" "I", Cond.fieldLink RX4 26 "LeastSetsModel" "causes" "[I", Cond.fieldLink RX4 29 "LeastSetsModel" "cures" "[I", Cond.methodLink RX4 54 yX4_reckon, Cond.instanceMethod yX4_reckon, Cond.selects RX4 yX4_reckon yX4_reckon, Cond.code yX4_reckon cX4_reckon 7 (some .int), Cond.fieldLink RX4 51 "LeastSetsModel" "steps" "I", Cond.fieldLink RX4 7 "LeastSetsModel" "bodies" "[I", Cond.fieldLink RX4 13 "LeastSetsModel" "heads" "[I", Cond.methodLink RX4 64 yX4_size, Cond.static yX4_size, Cond.code yX4_size cX4_size 3 (some .int)]
def wsX4_causes_r2 : List Cond := [Cond.methodLink RX4 67 yX4_isCause, Cond.instanceMethod yX4_isCause, Cond.selects RX4 yX4_isCause yX4_isCause, Cond.code yX4_isCause cX4_isCause 4 (some .boolean), Cond.methodLink RX4 70 yX4_isCure, Cond.instanceMethod yX4_isCure, Cond.selects RX4 yX4_isCure yX4_isCure, Cond.code yX4_isCure cX4_isCure 5 (some .boolean), Cond.fieldLink RX4 19 "LeastSetsModel" "fixed" "[Z"]
def wsX4_causes : List Cond := .code yX4_causes cX4_causes 1 (some .int) :: ((wsX4_causes_r1 ++ wsX4_causes_r2) ++ wsX40)
def wsX4_cures_r1 : List Cond := [Cond.fieldLink RX4 32 "LeastSetsModel" "thrown" "I", Cond.fieldLink RX4 61 "LeastSetsModel" "cureCount" "I", Cond.methodLink RX4 74 yX4_find, Cond.instanceMethod yX4_find, Cond.selects RX4 yX4_find yX4_find, Cond.initialized RX4, Cond.code yX4_find cX4_find 4 none, Cond.fieldLink RX4 40 "LeastSetsModel" "known" "Z", Cond.fieldLink RX4 36 "LeastSetsModel" "count" "I", Cond.fieldLink RX4 23 "LeastSetsModel" "gives" "[Z", Cond.fieldLink RX4 48 "LeastSetsModel" "goal" "I", Cond.fieldLink RX4 58 "LeastSetsModel" "causeCount" "I", Cond.fieldLink RX4 26 "LeastSetsModel" "causes" "[I", Cond.fieldLink RX4 29 "LeastSetsModel" "cures" "[I", Cond.methodLink RX4 54 yX4_reckon, Cond.instanceMethod yX4_reckon, Cond.selects RX4 yX4_reckon yX4_reckon, Cond.code yX4_reckon cX4_reckon 7 (some .int), Cond.fieldLink RX4 51 "LeastSetsModel" "steps" "I", Cond.fieldLink RX4 7 "LeastSetsModel" "bodies" "[I", Cond.fieldLink RX4 13 "LeastSetsModel" "heads" "[I", Cond.methodLink RX4 64 yX4_size, Cond.static yX4_size, Cond.code yX4_size cX4_size 3 (some .int)]
def wsX4_cures_r2 : List Cond := [Cond.methodLink RX4 67 yX4_isCause, Cond.instanceMethod yX4_isCause, Cond.selects RX4 yX4_isCause yX4_isCause, Cond.code yX4_isCause cX4_isCause 4 (some .boolean), Cond.methodLink RX4 70 yX4_isCure, Cond.instanceMethod yX4_isCure, Cond.selects RX4 yX4_isCure yX4_isCure, Cond.code yX4_isCure cX4_isCure 5 (some .boolean), Cond.fieldLink RX4 19 "LeastSetsModel" "fixed" "[Z"]
def wsX4_cures : List Cond := .code yX4_cures cX4_cures 1 (some .int) :: ((wsX4_cures_r1 ++ wsX4_cures_r2) ++ wsX40)
def wsX4_cause_r1 : List Cond := [Cond.fieldLink RX4 32 "LeastSetsModel" "thrown" "I", Cond.fieldLink RX4 58 "LeastSetsModel" "causeCount" "I", Cond.fieldLink RX4 26 "LeastSetsModel" "causes" "[I", Cond.methodLink RX4 74 yX4_find, Cond.instanceMethod yX4_find, Cond.selects RX4 yX4_find yX4_find, Cond.initialized RX4, Cond.code yX4_find cX4_find 4 none, Cond.fieldLink RX4 40 "LeastSetsModel" "known" "Z", Cond.fieldLink RX4 36 "LeastSetsModel" "count" "I", Cond.fieldLink RX4 23 "LeastSetsModel" "gives" "[Z", Cond.fieldLink RX4 48 "LeastSetsModel" "goal" "I", Cond.fieldLink RX4 61 "LeastSetsModel" "cureCount" "I", Cond.fieldLink RX4 29 "LeastSetsModel" "cures" "[I", Cond.methodLink RX4 54 yX4_reckon, Cond.instanceMethod yX4_reckon, Cond.selects RX4 yX4_reckon yX4_reckon, Cond.code yX4_reckon cX4_reckon 7 (some .int), Cond.fieldLink RX4 51 "LeastSetsModel" "steps" "I", Cond.fieldLink RX4 7 "LeastSetsModel" "bodies" "[I", Cond.fieldLink RX4 13 "LeastSetsModel" "heads" "[I", Cond.methodLink RX4 64 yX4_size, Cond.static yX4_size, Cond.code yX4_size cX4_size 3 (some .int)]
def wsX4_cause_r2 : List Cond := [Cond.methodLink RX4 67 yX4_isCause, Cond.instanceMethod yX4_isCause, Cond.selects RX4 yX4_isCause yX4_isCause, Cond.code yX4_isCause cX4_isCause 4 (some .boolean), Cond.methodLink RX4 70 yX4_isCure, Cond.instanceMethod yX4_isCure, Cond.selects RX4 yX4_isCure yX4_isCure, Cond.code yX4_isCure cX4_isCure 5 (some .boolean), Cond.fieldLink RX4 19 "LeastSetsModel" "fixed" "[Z"]
def wsX4_cause : List Cond := .code yX4_cause cX4_cause 2 (some .int) :: ((wsX4_cause_r1 ++ wsX4_cause_r2) ++ wsX40)
def wsX4_cure_r1 : List Cond := [Cond.fieldLink RX4 32 "LeastSetsModel" "thrown" "I", Cond.fieldLink RX4 61 "LeastSetsModel" "cureCount" "I", Cond.fieldLink RX4 29 "LeastSetsModel" "cures" "[I", Cond.methodLink RX4 74 yX4_find, Cond.instanceMethod yX4_find, Cond.selects RX4 yX4_find yX4_find, Cond.initialized RX4, Cond.code yX4_find cX4_find 4 none, Cond.fieldLink RX4 40 "LeastSetsModel" "known" "Z", Cond.fieldLink RX4 36 "LeastSetsModel" "count" "I", Cond.fieldLink RX4 23 "LeastSetsModel" "gives" "[Z", Cond.fieldLink RX4 48 "LeastSetsModel" "goal" "I", Cond.fieldLink RX4 58 "LeastSetsModel" "causeCount" "I", Cond.fieldLink RX4 26 "LeastSetsModel" "causes" "[I", Cond.methodLink RX4 54 yX4_reckon, Cond.instanceMethod yX4_reckon, Cond.selects RX4 yX4_reckon yX4_reckon, Cond.code yX4_reckon cX4_reckon 7 (some .int), Cond.fieldLink RX4 51 "LeastSetsModel" "steps" "I", Cond.fieldLink RX4 7 "LeastSetsModel" "bodies" "[I", Cond.fieldLink RX4 13 "LeastSetsModel" "heads" "[I", Cond.methodLink RX4 64 yX4_size, Cond.static yX4_size, Cond.code yX4_size cX4_size 3 (some .int)]
def wsX4_cure_r2 : List Cond := [Cond.methodLink RX4 67 yX4_isCause, Cond.instanceMethod yX4_isCause, Cond.selects RX4 yX4_isCause yX4_isCause, Cond.code yX4_isCause cX4_isCause 4 (some .boolean), Cond.methodLink RX4 70 yX4_isCure, Cond.instanceMethod yX4_isCure, Cond.selects RX4 yX4_isCure yX4_isCure, Cond.code yX4_isCure cX4_isCure 5 (some .boolean), Cond.fieldLink RX4 19 "LeastSetsModel" "fixed" "[Z"]
def wsX4_cure : List Cond := .code yX4_cure cX4_cure 2 (some .int) :: ((wsX4_cure_r1 ++ wsX4_cure_r2) ++ wsX40)
def wsX4_lightest_r1 : List Cond := [Cond.fieldLink RX4 32 "LeastSetsModel" "thrown" "I", Cond.fieldLink RX4 61 "LeastSetsModel" "cureCount" "I", Cond.fieldLink RX4 36 "LeastSetsModel" "count" "I", Cond.fieldLink RX4 29 "LeastSetsModel" "cures" "[I", Cond.fieldLink RX4 16 "LeastSetsModel" "weights" "[I", Cond.methodLink RX4 74 yX4_find, Cond.instanceMethod yX4_find, Cond.selects RX4 yX4_find yX4_find, Cond.initialized RX4, Cond.code yX4_find cX4_find 4 none, Cond.fieldLink RX4 40 "LeastSetsModel" "known" "Z", Cond.fieldLink RX4 23 "LeastSetsModel" "gives" "[Z", Cond.fieldLink RX4 48 "LeastSetsModel" "goal" "I", Cond.fieldLink RX4 58 "LeastSetsModel" "causeCount" "I", Cond.fieldLink RX4 26 "LeastSetsModel" "causes" "[I", Cond.methodLink RX4 54 yX4_reckon, Cond.instanceMethod yX4_reckon, Cond.selects RX4 yX4_reckon yX4_reckon, Cond.code yX4_reckon cX4_reckon 7 (some .int), Cond.fieldLink RX4 51 "LeastSetsModel" "steps" "I", Cond.fieldLink RX4 7 "LeastSetsModel" "bodies" "[I", Cond.fieldLink RX4 13 "LeastSetsModel" "heads" "[I", Cond.methodLink RX4 64 yX4_size, Cond.static yX4_size]
def wsX4_lightest_r2 : List Cond := [Cond.code yX4_size cX4_size 3 (some .int), Cond.methodLink RX4 67 yX4_isCause, Cond.instanceMethod yX4_isCause, Cond.selects RX4 yX4_isCause yX4_isCause, Cond.code yX4_isCause cX4_isCause 4 (some .boolean), Cond.methodLink RX4 70 yX4_isCure, Cond.instanceMethod yX4_isCure, Cond.selects RX4 yX4_isCure yX4_isCure, Cond.code yX4_isCure cX4_isCure 5 (some .boolean), Cond.fieldLink RX4 19 "LeastSetsModel" "fixed" "[Z"]
def wsX4_lightest : List Cond := .code yX4_lightest cX4_lightest 6 (some .int) :: ((wsX4_lightest_r1 ++ wsX4_lightest_r2) ++ wsX40)
def wsX4_times_r1 : List Cond := [Cond.fieldLink RX4 32 "LeastSetsModel" "thrown" "I", Cond.fieldLink RX4 58 "LeastSetsModel" "causeCount" "I", Cond.fieldLink RX4 61 "LeastSetsModel" "cureCount" "I", Cond.fieldLink RX4 26 "LeastSetsModel" "causes" "[I", Cond.fieldLink RX4 29 "LeastSetsModel" "cures" "[I", Cond.methodLink RX4 44 yX4_isAxiom, Cond.instanceMethod yX4_isAxiom, Cond.selects RX4 yX4_isAxiom yX4_isAxiom, Cond.initialized RX4, Cond.code yX4_isAxiom cX4_isAxiom 2 (some .boolean), Cond.fieldLink RX4 36 "LeastSetsModel" "count" "I", Cond.methodLink RX4 74 yX4_find, Cond.instanceMethod yX4_find, Cond.selects RX4 yX4_find yX4_find, Cond.code yX4_find cX4_find 4 none, Cond.fieldLink RX4 40 "LeastSetsModel" "known" "Z", Cond.fieldLink RX4 23 "LeastSetsModel" "gives" "[Z", Cond.fieldLink RX4 48 "LeastSetsModel" "goal" "I", Cond.methodLink RX4 54 yX4_reckon, Cond.instanceMethod yX4_reckon, Cond.selects RX4 yX4_reckon yX4_reckon, Cond.code yX4_reckon cX4_reckon 7 (some .int), Cond.fieldLink RX4 51 "LeastSetsModel" "steps" "I", Cond.fieldLink RX4 7 "LeastSetsModel" "bodies" "[I"]
def wsX4_times_r2 : List Cond := [Cond.fieldLink RX4 13 "LeastSetsModel" "heads" "[I", Cond.methodLink RX4 64 yX4_size, Cond.static yX4_size, Cond.code yX4_size cX4_size 3 (some .int), Cond.methodLink RX4 67 yX4_isCause, Cond.instanceMethod yX4_isCause, Cond.selects RX4 yX4_isCause yX4_isCause, Cond.code yX4_isCause cX4_isCause 4 (some .boolean), Cond.methodLink RX4 70 yX4_isCure, Cond.instanceMethod yX4_isCure, Cond.selects RX4 yX4_isCure yX4_isCure, Cond.code yX4_isCure cX4_isCure 5 (some .boolean), Cond.fieldLink RX4 19 "LeastSetsModel" "fixed" "[Z"]
def wsX4_times : List Cond := .code yX4_times cX4_times 5 (some .int) :: ((wsX4_times_r1 ++ wsX4_times_r2) ++ wsX40)
def wsX4_within_r1 : List Cond := [Cond.fieldLink RX4 32 "LeastSetsModel" "thrown" "I", Cond.fieldLink RX4 58 "LeastSetsModel" "causeCount" "I", Cond.fieldLink RX4 26 "LeastSetsModel" "causes" "[I", Cond.methodLink RX4 74 yX4_find, Cond.instanceMethod yX4_find, Cond.selects RX4 yX4_find yX4_find, Cond.initialized RX4, Cond.code yX4_find cX4_find 4 none, Cond.fieldLink RX4 40 "LeastSetsModel" "known" "Z", Cond.fieldLink RX4 36 "LeastSetsModel" "count" "I", Cond.fieldLink RX4 23 "LeastSetsModel" "gives" "[Z", Cond.fieldLink RX4 48 "LeastSetsModel" "goal" "I", Cond.fieldLink RX4 61 "LeastSetsModel" "cureCount" "I", Cond.fieldLink RX4 29 "LeastSetsModel" "cures" "[I", Cond.methodLink RX4 54 yX4_reckon, Cond.instanceMethod yX4_reckon, Cond.selects RX4 yX4_reckon yX4_reckon, Cond.code yX4_reckon cX4_reckon 7 (some .int), Cond.fieldLink RX4 51 "LeastSetsModel" "steps" "I", Cond.fieldLink RX4 7 "LeastSetsModel" "bodies" "[I", Cond.fieldLink RX4 13 "LeastSetsModel" "heads" "[I", Cond.methodLink RX4 64 yX4_size, Cond.static yX4_size, Cond.code yX4_size cX4_size 3 (some .int)]
def wsX4_within_r2 : List Cond := [Cond.methodLink RX4 67 yX4_isCause, Cond.instanceMethod yX4_isCause, Cond.selects RX4 yX4_isCause yX4_isCause, Cond.code yX4_isCause cX4_isCause 4 (some .boolean), Cond.methodLink RX4 70 yX4_isCure, Cond.instanceMethod yX4_isCure, Cond.selects RX4 yX4_isCure yX4_isCure, Cond.code yX4_isCure cX4_isCure 5 (some .boolean), Cond.fieldLink RX4 19 "LeastSetsModel" "fixed" "[Z"]
def wsX4_within : List Cond := .code yX4_within cX4_within 3 (some .int) :: ((wsX4_within_r1 ++ wsX4_within_r2) ++ wsX40)
def wsX4_common_r1 : List Cond := [Cond.fieldLink RX4 32 "LeastSetsModel" "thrown" "I", Cond.fieldLink RX4 58 "LeastSetsModel" "causeCount" "I", Cond.fieldLink RX4 26 "LeastSetsModel" "causes" "[I", Cond.methodLink RX4 74 yX4_find, Cond.instanceMethod yX4_find, Cond.selects RX4 yX4_find yX4_find, Cond.initialized RX4, Cond.code yX4_find cX4_find 4 none, Cond.fieldLink RX4 40 "LeastSetsModel" "known" "Z", Cond.fieldLink RX4 36 "LeastSetsModel" "count" "I", Cond.fieldLink RX4 23 "LeastSetsModel" "gives" "[Z", Cond.fieldLink RX4 48 "LeastSetsModel" "goal" "I", Cond.fieldLink RX4 61 "LeastSetsModel" "cureCount" "I", Cond.fieldLink RX4 29 "LeastSetsModel" "cures" "[I", Cond.methodLink RX4 54 yX4_reckon, Cond.instanceMethod yX4_reckon, Cond.selects RX4 yX4_reckon yX4_reckon, Cond.code yX4_reckon cX4_reckon 7 (some .int), Cond.fieldLink RX4 51 "LeastSetsModel" "steps" "I", Cond.fieldLink RX4 7 "LeastSetsModel" "bodies" "[I", Cond.fieldLink RX4 13 "LeastSetsModel" "heads" "[I", Cond.methodLink RX4 64 yX4_size, Cond.static yX4_size, Cond.code yX4_size cX4_size 3 (some .int)]
def wsX4_common_r2 : List Cond := [Cond.methodLink RX4 67 yX4_isCause, Cond.instanceMethod yX4_isCause, Cond.selects RX4 yX4_isCause yX4_isCause, Cond.code yX4_isCause cX4_isCause 4 (some .boolean), Cond.methodLink RX4 70 yX4_isCure, Cond.instanceMethod yX4_isCure, Cond.selects RX4 yX4_isCure yX4_isCure, Cond.code yX4_isCure cX4_isCure 5 (some .boolean), Cond.fieldLink RX4 19 "LeastSetsModel" "fixed" "[Z"]
def wsX4_common : List Cond := .code yX4_common cX4_common 3 (some .int) :: ((wsX4_common_r1 ++ wsX4_common_r2) ++ wsX40)
def wsX4_axioms : List Cond := .code yX4_axioms cX4_axioms 1 (some .int) :: ([.fieldLink RX4 32 "LeastSetsModel" "thrown" "I", .fieldLink RX4 36 "LeastSetsModel" "count" "I"] ++ wsX40)
def wsJx00060_init_a7421 : List Cond := .code yJx00060_init_a7421 cJx00060_init_a7421 2 none :: ([])
def wsL_fact_r1 : List Cond := [Cond.methodLink RL 7 yX3_fact, Cond.instanceMethod yX3_fact, Cond.selects RX3 yX3_fact yX3_fact, Cond.initialized RX3, Cond.code yX3_fact cX3_fact 4 (some .int), Cond.fieldLink RX3 12 "LeastSets" "rows" "LLeastSets$Axioms;", Cond.classLink RX3 112 RJx00060, Cond.instantiable RJx00060 6, Cond.initialized RJx00060, Cond.methodLink RX3 73 yX0_factsFrom, Cond.instanceMethod yX0_factsFrom, Cond.selects RX0 yX0_factsFrom yX0_factsFrom, Cond.initialized RX0, Cond.code yX0_factsFrom cX0_factsFrom 4 (some .int), Cond.fieldLink RX0 25 "LeastSets$Axioms" "count" "I", Cond.methodLink RX0 40 yX0_oneStepMore, Cond.instanceMethod yX0_oneStepMore, Cond.selects RX0 yX0_oneStepMore yX0_oneStepMore, Cond.code yX0_oneStepMore cX0_oneStepMore 5 (some .int), Cond.fieldLink RX0 9 "LeastSets$Axioms" "body" "[I", Cond.fieldLink RX0 15 "LeastSets$Axioms" "head" "[I", Cond.methodLink RX3 107 yJ6_bitCount_0f7a4, Cond.static yJ6_bitCount_0f7a4, Cond.initialized RJ6]
def wsL_fact_r2 : List Cond := [Cond.code yJ6_bitCount_0f7a4 cJ6_bitCount_0f7a4 1 (some .int), Cond.constant RJ6 265 (1431655765), Cond.constant RJ6 266 (858993459), Cond.constant RJ6 267 (252645135), Cond.methodLink RX3 119 yX3_lowestPlace, Cond.static yX3_lowestPlace, Cond.code yX3_lowestPlace cX3_lowestPlace 2 (some .int), Cond.methodLink RX3 123 yJ13_bitCount_95d88, Cond.static yJ13_bitCount_95d88, Cond.initialized RJ13, Cond.code yJ13_bitCount_95d88 cJ13_bitCount_95d88 2 (some .int), Cond.constantLong RJ13 314 (6148914691236517205), Cond.constantLong RJ13 316 (3689348814741910323), Cond.constantLong RJ13 318 (1085102592571150095)]
def wsL_fact : List Cond := .codeWith yL_fact cL_fact 4 (some .int) [(0, 9, 12, 13)] :: ((wsL_fact_r1 ++ wsL_fact_r2) ++ wsX30 ++ wsJx000600 ++ wsX00)
def wsL_law_r1 : List Cond := [Cond.classLink RL 8 RX3, Cond.instantiable RX3 7, Cond.initialized RX3, Cond.classLink RL 16 RX4, Cond.instantiable RX4 14, Cond.initialized RX4, Cond.arrayClass .long, Cond.methodLink RL 15 yX3_init, Cond.instanceMethod yX3_init, Cond.code yX3_init cX3_init 1 none, Cond.methodLink RX3 3 objectInit, Cond.instanceMethod objectInit, Cond.code objectInit ⟨#[0xb1]⟩ 1 none, Cond.classLink RX3 9 RX0, Cond.instantiable RX0 7, Cond.initialized RX0, Cond.fieldLink RX3 12 "LeastSets" "rows" "LLeastSets$Axioms;", Cond.classLink RX3 16 RX1, Cond.instantiable RX1 2, Cond.initialized RX1, Cond.fieldLink RX3 19 "LeastSets" "family" "LLeastSets$Family;", Cond.classLink RX3 23 RX2, Cond.instantiable RX2 2, Cond.initialized RX2]
def wsL_law_r2 : List Cond := [Cond.fieldLink RX3 26 "LeastSets" "causeList" "LLeastSets$SetList;", Cond.fieldLink RX3 30 "LeastSets" "cureList" "LLeastSets$SetList;", Cond.fieldLink RX3 33 "LeastSets" "goalFact" "I", Cond.fieldLink RX3 37 "LeastSets" "causesKnown" "Z", Cond.fieldLink RX3 41 "LeastSets" "curesKnown" "Z", Cond.instanceMethod yX0_init, Cond.code yX0_init cX0_init 1 none, Cond.methodLink RX0 3 objectInit, Cond.arrayClass .int, Cond.fieldLink RX0 9 "LeastSets$Axioms" "body" "[I", Cond.fieldLink RX0 15 "LeastSets$Axioms" "head" "[I", Cond.fieldLink RX0 18 "LeastSets$Axioms" "weight" "[I", Cond.arrayClass .boolean, Cond.fieldLink RX0 21 "LeastSets$Axioms" "fixed" "[Z", Cond.fieldLink RX0 25 "LeastSets$Axioms" "count" "I", Cond.fieldLink RX0 29 "LeastSets$Axioms" "usedBy" "[J", Cond.fieldLink RX0 33 "LeastSets$Axioms" "givenBy" "[J", Cond.instanceMethod yX1_init, Cond.code yX1_init cX1_init 1 none, Cond.methodLink RX1 3 objectInit, Cond.fieldLink RX1 9 "LeastSets$Family" "members" "[J", Cond.fieldLink RX1 15 "LeastSets$Family" "least" "[J", Cond.instanceMethod yX2_init, Cond.code yX2_init cX2_init 1 none]
def wsL_law_r3 : List Cond := [Cond.methodLink RX2 3 objectInit, Cond.fieldLink RX2 9 "LeastSets$SetList" "sets" "[I", Cond.fieldLink RX2 15 "LeastSets$SetList" "size" "I", Cond.methodLink RL 18 yX4_init, Cond.instanceMethod yX4_init, Cond.code yX4_init cX4_init 1 none, Cond.methodLink RX4 1 objectInit, Cond.fieldLink RX4 7 "LeastSetsModel" "bodies" "[I", Cond.fieldLink RX4 13 "LeastSetsModel" "heads" "[I", Cond.fieldLink RX4 16 "LeastSetsModel" "weights" "[I", Cond.fieldLink RX4 19 "LeastSetsModel" "fixed" "[Z", Cond.fieldLink RX4 23 "LeastSetsModel" "gives" "[Z", Cond.fieldLink RX4 26 "LeastSetsModel" "causes" "[I", Cond.fieldLink RX4 29 "LeastSetsModel" "cures" "[I", Cond.methodLink RL 19 yX3_axiom, Cond.instanceMethod yX3_axiom, Cond.selects RX3 yX3_axiom yX3_axiom, Cond.code yX3_axiom cX3_axiom 3 (some .int), Cond.methodLink RX3 44 yX3_isFact, Cond.static yX3_isFact, Cond.code yX3_isFact cX3_isFact 1 (some .boolean), Cond.methodLink RX3 51 yX0_append, Cond.instanceMethod yX0_append, Cond.selects RX0 yX0_append yX0_append]
def wsL_law_r4 : List Cond := [Cond.code yX0_append cX0_append 3 none, Cond.methodLink RX3 55 yX3_forgetLists, Cond.instanceMethod yX3_forgetLists, Cond.selects RX3 yX3_forgetLists yX3_forgetLists, Cond.code yX3_forgetLists cX3_forgetLists 1 none, Cond.methodLink RL 23 yX4_axiom, Cond.instanceMethod yX4_axiom, Cond.selects RX4 yX4_axiom yX4_axiom, Cond.code yX4_axiom cX4_axiom 3 (some .int), Cond.fieldLink RX4 32 "LeastSetsModel" "thrown" "I", Cond.constant RX4 39 (16777216), Cond.fieldLink RX4 36 "LeastSetsModel" "count" "I", Cond.fieldLink RX4 40 "LeastSetsModel" "known" "Z", Cond.methodLink RL 24 yX3_drop, Cond.instanceMethod yX3_drop, Cond.selects RX3 yX3_drop yX3_drop, Cond.code yX3_drop cX3_drop 2 (some .int), Cond.methodLink RX3 58 yX0_has, Cond.instanceMethod yX0_has, Cond.selects RX0 yX0_has yX0_has, Cond.code yX0_has cX0_has 2 (some .boolean), Cond.methodLink RX3 61 yX0_remove, Cond.instanceMethod yX0_remove, Cond.selects RX0 yX0_remove yX0_remove]
def wsL_law_r5 : List Cond := [Cond.code yX0_remove cX0_remove 3 none, Cond.methodLink RX0 36 yX0_has, Cond.methodLink RL 27 yX4_drop, Cond.instanceMethod yX4_drop, Cond.selects RX4 yX4_drop yX4_drop, Cond.code yX4_drop cX4_drop 3 (some .int), Cond.methodLink RX4 44 yX4_isAxiom, Cond.instanceMethod yX4_isAxiom, Cond.selects RX4 yX4_isAxiom yX4_isAxiom, Cond.code yX4_isAxiom cX4_isAxiom 2 (some .boolean), Cond.methodLink RL 28 yX3_fix, Cond.instanceMethod yX3_fix, Cond.selects RX3 yX3_fix yX3_fix, Cond.code yX3_fix cX3_fix 4 (some .int), Cond.methodLink RL 32 yX4_fix, Cond.instanceMethod yX4_fix, Cond.selects RX4 yX4_fix yX4_fix, Cond.code yX4_fix cX4_fix 4 (some .int), Cond.methodLink RL 33 yX3_weight, Cond.instanceMethod yX3_weight, Cond.selects RX3 yX3_weight yX3_weight, Cond.code yX3_weight cX3_weight 4 (some .int), Cond.methodLink RL 36 yX4_weight, Cond.instanceMethod yX4_weight]
def wsL_law_r6 : List Cond := [Cond.selects RX4 yX4_weight yX4_weight, Cond.code yX4_weight cX4_weight 4 (some .int), Cond.methodLink RL 37 yX3_goal, Cond.instanceMethod yX3_goal, Cond.selects RX3 yX3_goal yX3_goal, Cond.code yX3_goal cX3_goal 3 (some .int), Cond.methodLink RL 40 yX4_goal, Cond.instanceMethod yX4_goal, Cond.selects RX4 yX4_goal yX4_goal, Cond.code yX4_goal cX4_goal 3 (some .int), Cond.fieldLink RX4 48 "LeastSetsModel" "goal" "I", Cond.methodLink RL 41 yX3_follow, Cond.instanceMethod yX3_follow, Cond.selects RX3 yX3_follow yX3_follow, Cond.code yX3_follow cX3_follow 2 (some .int), Cond.methodLink RX3 73 yX0_factsFrom, Cond.instanceMethod yX0_factsFrom, Cond.selects RX0 yX0_factsFrom yX0_factsFrom, Cond.code yX0_factsFrom cX0_factsFrom 4 (some .int), Cond.methodLink RX0 40 yX0_oneStepMore, Cond.instanceMethod yX0_oneStepMore, Cond.selects RX0 yX0_oneStepMore yX0_oneStepMore, Cond.code yX0_oneStepMore cX0_oneStepMore 5 (some .int), Cond.methodLink RL 44 yX4_follow]
def wsL_law_r7 : List Cond := [Cond.instanceMethod yX4_follow, Cond.selects RX4 yX4_follow yX4_follow, Cond.code yX4_follow cX4_follow 2 (some .int), Cond.methodLink RX4 54 yX4_reckon, Cond.instanceMethod yX4_reckon, Cond.selects RX4 yX4_reckon yX4_reckon, Cond.code yX4_reckon cX4_reckon 7 (some .int), Cond.fieldLink RX4 51 "LeastSetsModel" "steps" "I", Cond.methodLink RL 45 yX3_steps, Cond.instanceMethod yX3_steps, Cond.selects RX3 yX3_steps yX3_steps, Cond.code yX3_steps cX3_steps 4 (some .int), Cond.methodLink RX3 77 yX0_oneStepMore, Cond.methodLink RL 48 yX4_steps, Cond.instanceMethod yX4_steps, Cond.selects RX4 yX4_steps yX4_steps, Cond.code yX4_steps cX4_steps 2 (some .int), Cond.methodLink RL 49 yX3_causes, Cond.instanceMethod yX3_causes, Cond.selects RX3 yX3_causes yX3_causes, Cond.code yX3_causes cX3_causes 1 (some .int), Cond.methodLink RX3 81 yX3_knownCauses, Cond.instanceMethod yX3_knownCauses, Cond.selects RX3 yX3_knownCauses yX3_knownCauses]
def wsL_law_r8 : List Cond := [Cond.code yX3_knownCauses cX3_knownCauses 3 (some (.object "LeastSets$SetList")), Cond.methodLink RX3 127 yX0_words, Cond.instanceMethod yX0_words, Cond.selects RX0 yX0_words yX0_words, Cond.code yX0_words cX0_words 1 (some .int), Cond.methodLink RX3 134 yX0_setsThatGive, Cond.instanceMethod yX0_setsThatGive, Cond.selects RX0 yX0_setsThatGive yX0_setsThatGive, Cond.code yX0_setsThatGive cX0_setsThatGive 4 (some .long), Cond.methodLink RX0 44 yX0_setsWith, Cond.instanceMethod yX0_setsWith, Cond.selects RX0 yX0_setsWith yX0_setsWith, Cond.code yX0_setsWith cX0_setsWith 3 (some .long), Cond.constantLong RX0 52 (-1), Cond.methodLink RX0 48 yX0_setsGiving, Cond.instanceMethod yX0_setsGiving, Cond.selects RX0 yX0_setsGiving yX0_setsGiving, Cond.code yX0_setsGiving cX0_setsGiving 7 (some .long), Cond.methodLink RX0 57 yJ7_fill_d0a16, Cond.static yJ7_fill_d0a16, Cond.initialized RJ7, Cond.code yJ7_fill_d0a16 cJ7_fill_d0a16 5 none, Cond.methodLink RX0 63 yX0_setsGivingAll, Cond.instanceMethod yX0_setsGivingAll]
def wsL_law_r9 : List Cond := [Cond.selects RX0 yX0_setsGivingAll yX0_setsGivingAll, Cond.code yX0_setsGivingAll cX0_setsGivingAll 9 (some .long), Cond.methodLink RX0 67 yJ6_bitCount_0f7a4, Cond.static yJ6_bitCount_0f7a4, Cond.initialized RJ6, Cond.code yJ6_bitCount_0f7a4 cJ6_bitCount_0f7a4 1 (some .int), Cond.constant RJ6 265 (1431655765), Cond.constant RJ6 266 (858993459), Cond.constant RJ6 267 (252645135), Cond.static yX3_lowestPlace, Cond.code yX3_lowestPlace cX3_lowestPlace 2 (some .int), Cond.methodLink RX3 123 yJ13_bitCount_95d88, Cond.static yJ13_bitCount_95d88, Cond.initialized RJ13, Cond.code yJ13_bitCount_95d88 cJ13_bitCount_95d88 2 (some .int), Cond.constantLong RJ13 314 (6148914691236517205), Cond.constantLong RJ13 316 (3689348814741910323), Cond.constantLong RJ13 318 (1085102592571150095), Cond.methodLink RX3 138 yX1_listLeast, Cond.instanceMethod yX1_listLeast, Cond.selects RX1 yX1_listLeast yX1_listLeast, Cond.code yX1_listLeast cX1_listLeast 6 none, Cond.methodLink RX1 18 yX1_leastOf, Cond.instanceMethod yX1_leastOf]
def wsL_law_r10 : List Cond := [Cond.selects RX1 yX1_leastOf yX1_leastOf, Cond.code yX1_leastOf cX1_leastOf 7 (some .long), Cond.constantLong RX1 43 (-1), Cond.methodLink RX1 22 yX2_clear, Cond.instanceMethod yX2_clear, Cond.selects RX2 yX2_clear yX2_clear, Cond.code yX2_clear cX2_clear 1 none, Cond.methodLink RX1 27 yJ6_bitCount_0f7a4, Cond.methodLink RX1 36 yX2_addAll, Cond.instanceMethod yX2_addAll, Cond.selects RX2 yX2_addAll yX2_addAll, Cond.code yX2_addAll cX2_addAll 8 none, Cond.methodLink RX2 19 yJ13_bitCount_95d88, Cond.methodLink RL 53 yX4_causes, Cond.instanceMethod yX4_causes, Cond.selects RX4 yX4_causes yX4_causes, Cond.code yX4_causes cX4_causes 1 (some .int), Cond.fieldLink RX4 58 "LeastSetsModel" "causeCount" "I", Cond.methodLink RX4 74 yX4_find, Cond.instanceMethod yX4_find, Cond.selects RX4 yX4_find yX4_find, Cond.code yX4_find cX4_find 4 none, Cond.fieldLink RX4 61 "LeastSetsModel" "cureCount" "I", Cond.methodLink RX4 64 yX4_size]
def wsL_law_r11 : List Cond := [Cond.static yX4_size, Cond.code yX4_size cX4_size 3 (some .int), Cond.methodLink RX4 67 yX4_isCause, Cond.instanceMethod yX4_isCause, Cond.selects RX4 yX4_isCause yX4_isCause, Cond.code yX4_isCause cX4_isCause 4 (some .boolean), Cond.methodLink RX4 70 yX4_isCure, Cond.instanceMethod yX4_isCure, Cond.selects RX4 yX4_isCure yX4_isCure, Cond.code yX4_isCure cX4_isCure 5 (some .boolean), Cond.methodLink RL 54 yX3_cures, Cond.instanceMethod yX3_cures, Cond.selects RX3 yX3_cures yX3_cures, Cond.code yX3_cures cX3_cures 1 (some .int), Cond.methodLink RX3 88 yX3_knownCures, Cond.instanceMethod yX3_knownCures, Cond.selects RX3 yX3_knownCures yX3_knownCures, Cond.code yX3_knownCures cX3_knownCures 3 (some (.object "LeastSets$SetList")), Cond.constantLong RX3 145 (-1), Cond.methodLink RX3 142 yX0_setsThatLeave, Cond.instanceMethod yX0_setsThatLeave, Cond.selects RX0 yX0_setsThatLeave yX0_setsThatLeave, Cond.code yX0_setsThatLeave cX0_setsThatLeave 4 (some .long), Cond.methodLink RL 57 yX4_cures]
def wsL_law_r12 : List Cond := [Cond.instanceMethod yX4_cures, Cond.selects RX4 yX4_cures yX4_cures, Cond.code yX4_cures cX4_cures 1 (some .int), Cond.methodLink RL 58 yX3_cause, Cond.instanceMethod yX3_cause, Cond.selects RX3 yX3_cause yX3_cause, Cond.code yX3_cause cX3_cause 2 (some .int), Cond.methodLink RX3 91 yX2_at, Cond.instanceMethod yX2_at, Cond.selects RX2 yX2_at yX2_at, Cond.code yX2_at cX2_at 2 (some .int), Cond.methodLink RL 61 yX4_cause, Cond.instanceMethod yX4_cause, Cond.selects RX4 yX4_cause yX4_cause, Cond.code yX4_cause cX4_cause 2 (some .int), Cond.methodLink RL 62 yX3_cure, Cond.instanceMethod yX3_cure, Cond.selects RX3 yX3_cure yX3_cure, Cond.code yX3_cure cX3_cure 2 (some .int), Cond.methodLink RL 65 yX4_cure, Cond.instanceMethod yX4_cure, Cond.selects RX4 yX4_cure yX4_cure, Cond.code yX4_cure cX4_cure 2 (some .int), Cond.methodLink RL 66 yX3_lightest]
def wsL_law_r13 : List Cond := [Cond.instanceMethod yX3_lightest, Cond.selects RX3 yX3_lightest yX3_lightest, Cond.code yX3_lightest cX3_lightest 6 (some .int), Cond.methodLink RX3 94 yX0_weightOf, Cond.instanceMethod yX0_weightOf, Cond.selects RX0 yX0_weightOf yX0_weightOf, Cond.code yX0_weightOf cX0_weightOf 4 (some .int), Cond.methodLink RL 69 yX4_lightest, Cond.instanceMethod yX4_lightest, Cond.selects RX4 yX4_lightest yX4_lightest, Cond.code yX4_lightest cX4_lightest 6 (some .int), Cond.methodLink RL 70 yX3_times, Cond.instanceMethod yX3_times, Cond.selects RX3 yX3_times yX3_times, Cond.code yX3_times cX3_times 4 (some .int), Cond.methodLink RX3 97 yX2_howManyWith, Cond.instanceMethod yX2_howManyWith, Cond.selects RX2 yX2_howManyWith yX2_howManyWith, Cond.code yX2_howManyWith cX2_howManyWith 4 (some .int), Cond.methodLink RL 73 yX4_times, Cond.instanceMethod yX4_times, Cond.selects RX4 yX4_times yX4_times, Cond.code yX4_times cX4_times 5 (some .int), Cond.methodLink RL 74 yX3_within]
def wsL_law_r14 : List Cond := [Cond.instanceMethod yX3_within, Cond.selects RX3 yX3_within yX3_within, Cond.code yX3_within cX3_within 2 (some .int), Cond.methodLink RX3 100 yX2_firstInside, Cond.instanceMethod yX2_firstInside, Cond.selects RX2 yX2_firstInside yX2_firstInside, Cond.code yX2_firstInside cX2_firstInside 3 (some .int), Cond.methodLink RL 77 yX4_within, Cond.instanceMethod yX4_within, Cond.selects RX4 yX4_within yX4_within, Cond.code yX4_within cX4_within 3 (some .int), Cond.methodLink RL 78 yX3_common, Cond.instanceMethod yX3_common, Cond.selects RX3 yX3_common yX3_common, Cond.code yX3_common cX3_common 1 (some .int), Cond.methodLink RX3 103 yX2_sharedByAll, Cond.instanceMethod yX2_sharedByAll, Cond.selects RX2 yX2_sharedByAll yX2_sharedByAll, Cond.code yX2_sharedByAll cX2_sharedByAll 3 (some .int), Cond.methodLink RL 81 yX4_common, Cond.instanceMethod yX4_common, Cond.selects RX4 yX4_common yX4_common, Cond.code yX4_common cX4_common 3 (some .int), Cond.methodLink RL 82 yX3_axioms]
def wsL_law_r15 : List Cond := [Cond.instanceMethod yX3_axioms, Cond.selects RX3 yX3_axioms yX3_axioms, Cond.code yX3_axioms cX3_axioms 1 (some .int), Cond.methodLink RL 85 yX4_axioms, Cond.instanceMethod yX4_axioms, Cond.selects RX4 yX4_axioms yX4_axioms, Cond.code yX4_axioms cX4_axioms 1 (some .int), Cond.methodLink RL 86 yL_fact, Cond.static yL_fact, Cond.initialized RL, Cond.codeWith yL_fact cL_fact 4 (some .int) [(0, 9, 12, 13)], Cond.methodLink RL 7 yX3_fact, Cond.instanceMethod yX3_fact, Cond.selects RX3 yX3_fact yX3_fact, Cond.code yX3_fact cX3_fact 4 (some .int), Cond.classLink RX3 112 RJx00060, Cond.instantiable RJx00060 6, Cond.initialized RJx00060, Cond.methodLink RX3 107 yJ6_bitCount_0f7a4, Cond.methodLink RX3 119 yX3_lowestPlace, Cond.methodLink RL 91 yX4_fact, Cond.instanceMethod yX4_fact, Cond.selects RX4 yX4_fact yX4_fact, Cond.code yX4_fact cX4_fact 5 (some .int)]
def wsL_law_r16 : List Cond := [Cond.methodLink RL 92 yX4_thrown, Cond.instanceMethod yX4_thrown, Cond.selects RX4 yX4_thrown yX4_thrown, Cond.code yX4_thrown cX4_thrown 1 (some .int)]
def wsL_law : List Cond := (wsL_law_r1 ++ (wsL_law_r2 ++ (wsL_law_r3 ++ (wsL_law_r4 ++ (wsL_law_r5 ++ (wsL_law_r6 ++ (wsL_law_r7 ++ (wsL_law_r8 ++ (wsL_law_r9 ++ (wsL_law_r10 ++ (wsL_law_r11 ++ (wsL_law_r12 ++ (wsL_law_r13 ++ (wsL_law_r14 ++ (wsL_law_r15 ++ wsL_law_r16))))))))))))))) ++ wsX30 ++ wsX40 ++ wsX00 ++ wsX10 ++ wsX20 ++ wsJx000600 ++ ([] : List Cond)
set_option maxRecDepth 20000 in
theorem wsL_law_in : ∀ w ∈ wsL_law, w ∈ lw_tbl := fun w h => (goodIn_p wsL_law [31, 34, 39, 73, 87, 394, 122, 125, 129, 133, 446, 137, 141, 145, 451, 455, 150, 459, 154, 463, 158, 467, 162, 166, 170, 471, 475, 174, 479, 179, 183, 187, 191, 195, 202, 205, 209, 212, 218, 221, 228, 232, 238, 245, 487, 491, 494, 498, 502, 251, 255, 259, 506, 264, 268, 510, 272, 514, 276, 280, 518, 284, 288, 522, 292, 296, 526, 300, 304, 530, 308, 534, 316, 483, 442] (by decide +kernel) (by decide +kernel) w h).1
theorem inlX0 : ∀ w ∈ wsX00, w ∈ wsL_law := fun _ h => List.mem_append_left _ (List.mem_append_left _ (List.mem_append_left _ (List.mem_append_left _ (List.mem_append_right _ h))))
theorem inX0 : ∀ w ∈ wsX00, w ∈ lw_tbl := fun w h => wsL_law_in w (inlX0 w h)
theorem inlX1 : ∀ w ∈ wsX10, w ∈ wsL_law := fun _ h => List.mem_append_left _ (List.mem_append_left _ (List.mem_append_left _ (List.mem_append_right _ h)))
theorem inX1 : ∀ w ∈ wsX10, w ∈ lw_tbl := fun w h => wsL_law_in w (inlX1 w h)
theorem inlX2 : ∀ w ∈ wsX20, w ∈ wsL_law := fun _ h => List.mem_append_left _ (List.mem_append_left _ (List.mem_append_right _ h))
theorem inX2 : ∀ w ∈ wsX20, w ∈ lw_tbl := fun w h => wsL_law_in w (inlX2 w h)
theorem inlX3 : ∀ w ∈ wsX30, w ∈ wsL_law := fun _ h => List.mem_append_left _ (List.mem_append_left _ (List.mem_append_left _ (List.mem_append_left _ (List.mem_append_left _ (List.mem_append_left _ (List.mem_append_right _ h))))))
theorem inX3 : ∀ w ∈ wsX30, w ∈ lw_tbl := fun w h => wsL_law_in w (inlX3 w h)
theorem inlX4 : ∀ w ∈ wsX40, w ∈ wsL_law := fun _ h => List.mem_append_left _ (List.mem_append_left _ (List.mem_append_left _ (List.mem_append_left _ (List.mem_append_left _ (List.mem_append_right _ h)))))
theorem inX4 : ∀ w ∈ wsX40, w ∈ lw_tbl := fun w h => wsL_law_in w (inlX4 w h)
theorem inlJx00060 : ∀ w ∈ wsJx000600, w ∈ wsL_law := fun _ h => List.mem_append_left _ (List.mem_append_right _ h)
theorem inJx00060 : ∀ w ∈ wsJx000600, w ∈ lw_tbl := fun w h => wsL_law_in w (inlJx00060 w h)
theorem inJ6 : ∀ w ∈ wsJ60, w ∈ lw_tbl := by decide +kernel
theorem inJ13 : ∀ w ∈ wsJ130, w ∈ lw_tbl := by decide +kernel
theorem inJ0 : ∀ w ∈ wsJ00, w ∈ lw_tbl := by decide +kernel
theorem inJ7 : ∀ w ∈ wsJ70, w ∈ lw_tbl := by decide +kernel
theorem dX0_init_0 : decode cX0_init 0 = .ok (.aload_n 0, 1) := by decide +kernel
theorem dX0_init_1 : decode cX0_init 1 = .ok (.invokespecial 3, 3) := by decide +kernel
theorem dX0_init_4 : decode cX0_init 4 = .ok (.aload_n 0, 1) := by decide +kernel
theorem dX0_init_5 : decode cX0_init 5 = .ok (.bipush 14, 2) := by decide +kernel
theorem dX0_init_7 : decode cX0_init 7 = .ok (.newarray .int, 2) := by decide +kernel
theorem dX0_init_9 : decode cX0_init 9 = .ok (.putfield 9, 3) := by decide +kernel
theorem dX0_init_12 : decode cX0_init 12 = .ok (.aload_n 0, 1) := by decide +kernel
theorem dX0_init_13 : decode cX0_init 13 = .ok (.bipush 14, 2) := by decide +kernel
theorem dX0_init_15 : decode cX0_init 15 = .ok (.newarray .int, 2) := by decide +kernel
theorem dX0_init_17 : decode cX0_init 17 = .ok (.putfield 15, 3) := by decide +kernel
theorem dX0_init_20 : decode cX0_init 20 = .ok (.aload_n 0, 1) := by decide +kernel
theorem dX0_init_21 : decode cX0_init 21 = .ok (.bipush 14, 2) := by decide +kernel
theorem dX0_init_23 : decode cX0_init 23 = .ok (.newarray .int, 2) := by decide +kernel
theorem dX0_init_25 : decode cX0_init 25 = .ok (.putfield 18, 3) := by decide +kernel
theorem dX0_init_28 : decode cX0_init 28 = .ok (.aload_n 0, 1) := by decide +kernel
theorem dX0_init_29 : decode cX0_init 29 = .ok (.bipush 14, 2) := by decide +kernel
theorem dX0_init_31 : decode cX0_init 31 = .ok (.newarray .boolean, 2) := by decide +kernel
theorem dX0_init_33 : decode cX0_init 33 = .ok (.putfield 21, 3) := by decide +kernel
theorem dX0_init_36 : decode cX0_init 36 = .ok (.aload_n 0, 1) := by decide +kernel
theorem dX0_init_37 : decode cX0_init 37 = .ok (.iconst 0, 1) := by decide +kernel
theorem dX0_init_38 : decode cX0_init 38 = .ok (.putfield 25, 3) := by decide +kernel
theorem dX0_init_41 : decode cX0_init 41 = .ok (.aload_n 0, 1) := by decide +kernel
theorem dX0_init_42 : decode cX0_init 42 = .ok (.bipush 14, 2) := by decide +kernel
theorem dX0_init_44 : decode cX0_init 44 = .ok (.newarray .long, 2) := by decide +kernel
theorem dX0_init_46 : decode cX0_init 46 = .ok (.putfield 29, 3) := by decide +kernel
theorem dX0_init_49 : decode cX0_init 49 = .ok (.aload_n 0, 1) := by decide +kernel
theorem dX0_init_50 : decode cX0_init 50 = .ok (.bipush 24, 2) := by decide +kernel
theorem dX0_init_52 : decode cX0_init 52 = .ok (.newarray .long, 2) := by decide +kernel
theorem dX0_init_54 : decode cX0_init 54 = .ok (.putfield 33, 3) := by decide +kernel
theorem dX0_init_57 : decode cX0_init 57 = .ok (.return_, 1) := by decide +kernel
theorem dX0_has_0 : decode cX0_has 0 = .ok (.iload_n 1, 1) := by decide +kernel
theorem dX0_has_1 : decode cX0_has 1 = .ok (.ifCond .lt 15, 3) := by decide +kernel
theorem dX0_has_4 : decode cX0_has 4 = .ok (.iload_n 1, 1) := by decide +kernel
theorem dX0_has_5 : decode cX0_has 5 = .ok (.aload_n 0, 1) := by decide +kernel
theorem dX0_has_6 : decode cX0_has 6 = .ok (.getfield 25, 3) := by decide +kernel
theorem dX0_has_9 : decode cX0_has 9 = .ok (.if_icmp .ge 7, 3) := by decide +kernel
theorem dX0_has_12 : decode cX0_has 12 = .ok (.iconst 1, 1) := by decide +kernel
theorem dX0_has_13 : decode cX0_has 13 = .ok (.goto 4, 3) := by decide +kernel
theorem dX0_has_16 : decode cX0_has 16 = .ok (.iconst 0, 1) := by decide +kernel
theorem dX0_has_17 : decode cX0_has 17 = .ok (.ireturn, 1) := by decide +kernel
theorem dX0_append_0 : decode cX0_append 0 = .ok (.aload_n 0, 1) := by decide +kernel
theorem dX0_append_1 : decode cX0_append 1 = .ok (.getfield 25, 3) := by decide +kernel
theorem dX0_append_4 : decode cX0_append 4 = .ok (.bipush 14, 2) := by decide +kernel
theorem dX0_append_6 : decode cX0_append 6 = .ok (.if_icmp .ge 53, 3) := by decide +kernel
theorem dX0_append_9 : decode cX0_append 9 = .ok (.aload_n 0, 1) := by decide +kernel
theorem dX0_append_10 : decode cX0_append 10 = .ok (.getfield 9, 3) := by decide +kernel
theorem dX0_append_13 : decode cX0_append 13 = .ok (.aload_n 0, 1) := by decide +kernel
theorem dX0_append_14 : decode cX0_append 14 = .ok (.getfield 25, 3) := by decide +kernel
theorem dX0_append_17 : decode cX0_append 17 = .ok (.iload_n 1, 1) := by decide +kernel
theorem dX0_append_18 : decode cX0_append 18 = .ok (.iastore, 1) := by decide +kernel
theorem dX0_append_19 : decode cX0_append 19 = .ok (.aload_n 0, 1) := by decide +kernel
theorem dX0_append_20 : decode cX0_append 20 = .ok (.getfield 15, 3) := by decide +kernel
theorem dX0_append_23 : decode cX0_append 23 = .ok (.aload_n 0, 1) := by decide +kernel
theorem dX0_append_24 : decode cX0_append 24 = .ok (.getfield 25, 3) := by decide +kernel
theorem dX0_append_27 : decode cX0_append 27 = .ok (.iload_n 2, 1) := by decide +kernel
theorem dX0_append_28 : decode cX0_append 28 = .ok (.iastore, 1) := by decide +kernel
theorem dX0_append_29 : decode cX0_append 29 = .ok (.aload_n 0, 1) := by decide +kernel
theorem dX0_append_30 : decode cX0_append 30 = .ok (.getfield 18, 3) := by decide +kernel
theorem dX0_append_33 : decode cX0_append 33 = .ok (.aload_n 0, 1) := by decide +kernel
theorem dX0_append_34 : decode cX0_append 34 = .ok (.getfield 25, 3) := by decide +kernel
theorem dX0_append_37 : decode cX0_append 37 = .ok (.iconst 1, 1) := by decide +kernel
theorem dX0_append_38 : decode cX0_append 38 = .ok (.iastore, 1) := by decide +kernel
theorem dX0_append_39 : decode cX0_append 39 = .ok (.aload_n 0, 1) := by decide +kernel
theorem dX0_append_40 : decode cX0_append 40 = .ok (.getfield 21, 3) := by decide +kernel
theorem dX0_append_43 : decode cX0_append 43 = .ok (.aload_n 0, 1) := by decide +kernel
theorem dX0_append_44 : decode cX0_append 44 = .ok (.getfield 25, 3) := by decide +kernel
theorem dX0_append_47 : decode cX0_append 47 = .ok (.iconst 0, 1) := by decide +kernel
theorem dX0_append_48 : decode cX0_append 48 = .ok (.bastore, 1) := by decide +kernel
theorem dX0_append_49 : decode cX0_append 49 = .ok (.aload_n 0, 1) := by decide +kernel
theorem dX0_append_50 : decode cX0_append 50 = .ok (.dup, 1) := by decide +kernel
theorem dX0_append_51 : decode cX0_append 51 = .ok (.getfield 25, 3) := by decide +kernel
theorem dX0_append_54 : decode cX0_append 54 = .ok (.iconst 1, 1) := by decide +kernel
theorem dX0_append_55 : decode cX0_append 55 = .ok (.iadd, 1) := by decide +kernel
theorem dX0_append_56 : decode cX0_append 56 = .ok (.putfield 25, 3) := by decide +kernel
theorem dX0_append_59 : decode cX0_append 59 = .ok (.return_, 1) := by decide +kernel
set_option maxRecDepth 20000 in
theorem ggX0_remove_X0_has : GoodIn wsX0_remove wsX0_has := goodIn_r _ [10, 1, 11, 12, 13, 14, 15, 16, 17] (by decide +kernel) (by decide +kernel)
set_option maxRecDepth 20000 in
theorem gX0_remove_X0_has : GoodIn wsX0_remove (wsV RX0 36 RX0 yX0_has wsX0_has) := goodIn_app (goodIn_of _ (by decide +kernel)) ggX0_remove_X0_has
theorem dX0_remove_0 : decode cX0_remove 0 = .ok (.aload_n 0, 1) := by decide +kernel
theorem dX0_remove_1 : decode cX0_remove 1 = .ok (.iload_n 1, 1) := by decide +kernel
theorem dX0_remove_2 : decode cX0_remove 2 = .ok (.invokevirtual 36, 3) := by decide +kernel
theorem dX0_remove_5 : decode cX0_remove 5 = .ok (.ifCond .eq 87, 3) := by decide +kernel
theorem dX0_remove_8 : decode cX0_remove 8 = .ok (.iload_n 1, 1) := by decide +kernel
theorem dX0_remove_9 : decode cX0_remove 9 = .ok (.istore_n 2, 1) := by decide +kernel
theorem dX0_remove_10 : decode cX0_remove 10 = .ok (.iload_n 2, 1) := by decide +kernel
theorem dX0_remove_11 : decode cX0_remove 11 = .ok (.iconst 1, 1) := by decide +kernel
theorem dX0_remove_12 : decode cX0_remove 12 = .ok (.iadd, 1) := by decide +kernel
theorem dX0_remove_13 : decode cX0_remove 13 = .ok (.aload_n 0, 1) := by decide +kernel
theorem dX0_remove_14 : decode cX0_remove 14 = .ok (.getfield 25, 3) := by decide +kernel
theorem dX0_remove_17 : decode cX0_remove 17 = .ok (.if_icmp .ge 65, 3) := by decide +kernel
theorem dX0_remove_20 : decode cX0_remove 20 = .ok (.aload_n 0, 1) := by decide +kernel
theorem dX0_remove_21 : decode cX0_remove 21 = .ok (.getfield 9, 3) := by decide +kernel
theorem dX0_remove_24 : decode cX0_remove 24 = .ok (.iload_n 2, 1) := by decide +kernel
theorem dX0_remove_25 : decode cX0_remove 25 = .ok (.aload_n 0, 1) := by decide +kernel
theorem dX0_remove_26 : decode cX0_remove 26 = .ok (.getfield 9, 3) := by decide +kernel
theorem dX0_remove_29 : decode cX0_remove 29 = .ok (.iload_n 2, 1) := by decide +kernel
theorem dX0_remove_30 : decode cX0_remove 30 = .ok (.iconst 1, 1) := by decide +kernel
theorem dX0_remove_31 : decode cX0_remove 31 = .ok (.iadd, 1) := by decide +kernel
theorem dX0_remove_32 : decode cX0_remove 32 = .ok (.iaload, 1) := by decide +kernel
theorem dX0_remove_33 : decode cX0_remove 33 = .ok (.iastore, 1) := by decide +kernel
theorem dX0_remove_34 : decode cX0_remove 34 = .ok (.aload_n 0, 1) := by decide +kernel
theorem dX0_remove_35 : decode cX0_remove 35 = .ok (.getfield 15, 3) := by decide +kernel
theorem dX0_remove_38 : decode cX0_remove 38 = .ok (.iload_n 2, 1) := by decide +kernel
theorem dX0_remove_39 : decode cX0_remove 39 = .ok (.aload_n 0, 1) := by decide +kernel
theorem dX0_remove_40 : decode cX0_remove 40 = .ok (.getfield 15, 3) := by decide +kernel
theorem dX0_remove_43 : decode cX0_remove 43 = .ok (.iload_n 2, 1) := by decide +kernel
theorem dX0_remove_44 : decode cX0_remove 44 = .ok (.iconst 1, 1) := by decide +kernel
theorem dX0_remove_45 : decode cX0_remove 45 = .ok (.iadd, 1) := by decide +kernel
theorem dX0_remove_46 : decode cX0_remove 46 = .ok (.iaload, 1) := by decide +kernel
theorem dX0_remove_47 : decode cX0_remove 47 = .ok (.iastore, 1) := by decide +kernel
theorem dX0_remove_48 : decode cX0_remove 48 = .ok (.aload_n 0, 1) := by decide +kernel
theorem dX0_remove_49 : decode cX0_remove 49 = .ok (.getfield 18, 3) := by decide +kernel
theorem dX0_remove_52 : decode cX0_remove 52 = .ok (.iload_n 2, 1) := by decide +kernel
theorem dX0_remove_53 : decode cX0_remove 53 = .ok (.aload_n 0, 1) := by decide +kernel
theorem dX0_remove_54 : decode cX0_remove 54 = .ok (.getfield 18, 3) := by decide +kernel
theorem dX0_remove_57 : decode cX0_remove 57 = .ok (.iload_n 2, 1) := by decide +kernel
theorem dX0_remove_58 : decode cX0_remove 58 = .ok (.iconst 1, 1) := by decide +kernel
theorem dX0_remove_59 : decode cX0_remove 59 = .ok (.iadd, 1) := by decide +kernel
theorem dX0_remove_60 : decode cX0_remove 60 = .ok (.iaload, 1) := by decide +kernel
theorem dX0_remove_61 : decode cX0_remove 61 = .ok (.iastore, 1) := by decide +kernel
theorem dX0_remove_62 : decode cX0_remove 62 = .ok (.aload_n 0, 1) := by decide +kernel
theorem dX0_remove_63 : decode cX0_remove 63 = .ok (.getfield 21, 3) := by decide +kernel
theorem dX0_remove_66 : decode cX0_remove 66 = .ok (.iload_n 2, 1) := by decide +kernel
theorem dX0_remove_67 : decode cX0_remove 67 = .ok (.aload_n 0, 1) := by decide +kernel
theorem dX0_remove_68 : decode cX0_remove 68 = .ok (.getfield 21, 3) := by decide +kernel
theorem dX0_remove_71 : decode cX0_remove 71 = .ok (.iload_n 2, 1) := by decide +kernel
theorem dX0_remove_72 : decode cX0_remove 72 = .ok (.iconst 1, 1) := by decide +kernel
theorem dX0_remove_73 : decode cX0_remove 73 = .ok (.iadd, 1) := by decide +kernel
theorem dX0_remove_74 : decode cX0_remove 74 = .ok (.baload, 1) := by decide +kernel
theorem dX0_remove_75 : decode cX0_remove 75 = .ok (.bastore, 1) := by decide +kernel
theorem dX0_remove_76 : decode cX0_remove 76 = .ok (.iinc 2 1, 3) := by decide +kernel
theorem dX0_remove_79 : decode cX0_remove 79 = .ok (.goto (-69), 3) := by decide +kernel
theorem dX0_remove_82 : decode cX0_remove 82 = .ok (.aload_n 0, 1) := by decide +kernel
theorem dX0_remove_83 : decode cX0_remove 83 = .ok (.dup, 1) := by decide +kernel
theorem dX0_remove_84 : decode cX0_remove 84 = .ok (.getfield 25, 3) := by decide +kernel
theorem dX0_remove_87 : decode cX0_remove 87 = .ok (.iconst 1, 1) := by decide +kernel
theorem dX0_remove_88 : decode cX0_remove 88 = .ok (.isub, 1) := by decide +kernel
theorem dX0_remove_89 : decode cX0_remove 89 = .ok (.putfield 25, 3) := by decide +kernel
theorem dX0_remove_92 : decode cX0_remove 92 = .ok (.return_, 1) := by decide +kernel
theorem dX0_weightOf_0 : decode cX0_weightOf 0 = .ok (.iconst 0, 1) := by decide +kernel
theorem dX0_weightOf_1 : decode cX0_weightOf 1 = .ok (.istore_n 2, 1) := by decide +kernel
theorem dX0_weightOf_2 : decode cX0_weightOf 2 = .ok (.iconst 0, 1) := by decide +kernel
theorem dX0_weightOf_3 : decode cX0_weightOf 3 = .ok (.istore_n 3, 1) := by decide +kernel
theorem dX0_weightOf_4 : decode cX0_weightOf 4 = .ok (.iload_n 3, 1) := by decide +kernel
theorem dX0_weightOf_5 : decode cX0_weightOf 5 = .ok (.aload_n 0, 1) := by decide +kernel
theorem dX0_weightOf_6 : decode cX0_weightOf 6 = .ok (.getfield 25, 3) := by decide +kernel
theorem dX0_weightOf_9 : decode cX0_weightOf 9 = .ok (.if_icmp .ge 26, 3) := by decide +kernel
theorem dX0_weightOf_12 : decode cX0_weightOf 12 = .ok (.iload_n 1, 1) := by decide +kernel
theorem dX0_weightOf_13 : decode cX0_weightOf 13 = .ok (.iload_n 3, 1) := by decide +kernel
theorem dX0_weightOf_14 : decode cX0_weightOf 14 = .ok (.ishr, 1) := by decide +kernel
theorem dX0_weightOf_15 : decode cX0_weightOf 15 = .ok (.iconst 1, 1) := by decide +kernel
theorem dX0_weightOf_16 : decode cX0_weightOf 16 = .ok (.iand, 1) := by decide +kernel
theorem dX0_weightOf_17 : decode cX0_weightOf 17 = .ok (.ifCond .eq 12, 3) := by decide +kernel
theorem dX0_weightOf_20 : decode cX0_weightOf 20 = .ok (.iload_n 2, 1) := by decide +kernel
theorem dX0_weightOf_21 : decode cX0_weightOf 21 = .ok (.aload_n 0, 1) := by decide +kernel
theorem dX0_weightOf_22 : decode cX0_weightOf 22 = .ok (.getfield 18, 3) := by decide +kernel
theorem dX0_weightOf_25 : decode cX0_weightOf 25 = .ok (.iload_n 3, 1) := by decide +kernel
theorem dX0_weightOf_26 : decode cX0_weightOf 26 = .ok (.iaload, 1) := by decide +kernel
theorem dX0_weightOf_27 : decode cX0_weightOf 27 = .ok (.iadd, 1) := by decide +kernel
theorem dX0_weightOf_28 : decode cX0_weightOf 28 = .ok (.istore_n 2, 1) := by decide +kernel
theorem dX0_weightOf_29 : decode cX0_weightOf 29 = .ok (.iinc 3 1, 3) := by decide +kernel
theorem dX0_weightOf_32 : decode cX0_weightOf 32 = .ok (.goto (-28), 3) := by decide +kernel
theorem dX0_weightOf_35 : decode cX0_weightOf 35 = .ok (.iload_n 2, 1) := by decide +kernel
theorem dX0_weightOf_36 : decode cX0_weightOf 36 = .ok (.ireturn, 1) := by decide +kernel
theorem dX0_oneStepMore_0 : decode cX0_oneStepMore 0 = .ok (.iload_n 2, 1) := by decide +kernel
theorem dX0_oneStepMore_1 : decode cX0_oneStepMore 1 = .ok (.istore_n 3, 1) := by decide +kernel
theorem dX0_oneStepMore_2 : decode cX0_oneStepMore 2 = .ok (.iconst 0, 1) := by decide +kernel
theorem dX0_oneStepMore_3 : decode cX0_oneStepMore 3 = .ok (.istore 4, 2) := by decide +kernel
theorem dX0_oneStepMore_5 : decode cX0_oneStepMore 5 = .ok (.iload 4, 2) := by decide +kernel
theorem dX0_oneStepMore_7 : decode cX0_oneStepMore 7 = .ok (.aload_n 0, 1) := by decide +kernel
theorem dX0_oneStepMore_8 : decode cX0_oneStepMore 8 = .ok (.getfield 25, 3) := by decide +kernel
theorem dX0_oneStepMore_11 : decode cX0_oneStepMore 11 = .ok (.if_icmp .ge 44, 3) := by decide +kernel
theorem dX0_oneStepMore_14 : decode cX0_oneStepMore 14 = .ok (.iload_n 1, 1) := by decide +kernel
theorem dX0_oneStepMore_15 : decode cX0_oneStepMore 15 = .ok (.iload 4, 2) := by decide +kernel
theorem dX0_oneStepMore_17 : decode cX0_oneStepMore 17 = .ok (.ishr, 1) := by decide +kernel
theorem dX0_oneStepMore_18 : decode cX0_oneStepMore 18 = .ok (.iconst 1, 1) := by decide +kernel
theorem dX0_oneStepMore_19 : decode cX0_oneStepMore 19 = .ok (.iand, 1) := by decide +kernel
theorem dX0_oneStepMore_20 : decode cX0_oneStepMore 20 = .ok (.ifCond .eq 29, 3) := by decide +kernel
theorem dX0_oneStepMore_23 : decode cX0_oneStepMore 23 = .ok (.aload_n 0, 1) := by decide +kernel
theorem dX0_oneStepMore_24 : decode cX0_oneStepMore 24 = .ok (.getfield 9, 3) := by decide +kernel
theorem dX0_oneStepMore_27 : decode cX0_oneStepMore 27 = .ok (.iload 4, 2) := by decide +kernel
theorem dX0_oneStepMore_29 : decode cX0_oneStepMore 29 = .ok (.iaload, 1) := by decide +kernel
theorem dX0_oneStepMore_30 : decode cX0_oneStepMore 30 = .ok (.iload_n 2, 1) := by decide +kernel
theorem dX0_oneStepMore_31 : decode cX0_oneStepMore 31 = .ok (.iconst (-1), 1) := by decide +kernel
theorem dX0_oneStepMore_32 : decode cX0_oneStepMore 32 = .ok (.ixor, 1) := by decide +kernel
theorem dX0_oneStepMore_33 : decode cX0_oneStepMore 33 = .ok (.iand, 1) := by decide +kernel
theorem dX0_oneStepMore_34 : decode cX0_oneStepMore 34 = .ok (.ifCond .ne 15, 3) := by decide +kernel
theorem dX0_oneStepMore_37 : decode cX0_oneStepMore 37 = .ok (.iload_n 3, 1) := by decide +kernel
theorem dX0_oneStepMore_38 : decode cX0_oneStepMore 38 = .ok (.iconst 1, 1) := by decide +kernel
theorem dX0_oneStepMore_39 : decode cX0_oneStepMore 39 = .ok (.aload_n 0, 1) := by decide +kernel
theorem dX0_oneStepMore_40 : decode cX0_oneStepMore 40 = .ok (.getfield 15, 3) := by decide +kernel
theorem dX0_oneStepMore_43 : decode cX0_oneStepMore 43 = .ok (.iload 4, 2) := by decide +kernel
theorem dX0_oneStepMore_45 : decode cX0_oneStepMore 45 = .ok (.iaload, 1) := by decide +kernel
theorem dX0_oneStepMore_46 : decode cX0_oneStepMore 46 = .ok (.ishl, 1) := by decide +kernel
theorem dX0_oneStepMore_47 : decode cX0_oneStepMore 47 = .ok (.ior, 1) := by decide +kernel
theorem dX0_oneStepMore_48 : decode cX0_oneStepMore 48 = .ok (.istore_n 3, 1) := by decide +kernel
theorem dX0_oneStepMore_49 : decode cX0_oneStepMore 49 = .ok (.iinc 4 1, 3) := by decide +kernel
theorem dX0_oneStepMore_52 : decode cX0_oneStepMore 52 = .ok (.goto (-47), 3) := by decide +kernel
theorem dX0_oneStepMore_55 : decode cX0_oneStepMore 55 = .ok (.iload_n 3, 1) := by decide +kernel
theorem dX0_oneStepMore_56 : decode cX0_oneStepMore 56 = .ok (.ireturn, 1) := by decide +kernel
set_option maxRecDepth 20000 in
theorem ggX0_factsFrom_X0_oneStepMore : GoodIn wsX0_factsFrom wsX0_oneStepMore := goodIn_r _ [6, 1, 7, 8, 9, 10, 11, 12, 13, 14, 15] (by decide +kernel) (by decide +kernel)
set_option maxRecDepth 20000 in
theorem gX0_factsFrom_X0_oneStepMore : GoodIn wsX0_factsFrom (wsV RX0 40 RX0 yX0_oneStepMore wsX0_oneStepMore) := goodIn_app (goodIn_of _ (by decide +kernel)) ggX0_factsFrom_X0_oneStepMore
theorem dX0_factsFrom_0 : decode cX0_factsFrom 0 = .ok (.iconst 0, 1) := by decide +kernel
theorem dX0_factsFrom_1 : decode cX0_factsFrom 1 = .ok (.istore_n 2, 1) := by decide +kernel
theorem dX0_factsFrom_2 : decode cX0_factsFrom 2 = .ok (.iconst 0, 1) := by decide +kernel
theorem dX0_factsFrom_3 : decode cX0_factsFrom 3 = .ok (.istore_n 3, 1) := by decide +kernel
theorem dX0_factsFrom_4 : decode cX0_factsFrom 4 = .ok (.iload_n 3, 1) := by decide +kernel
theorem dX0_factsFrom_5 : decode cX0_factsFrom 5 = .ok (.aload_n 0, 1) := by decide +kernel
theorem dX0_factsFrom_6 : decode cX0_factsFrom 6 = .ok (.getfield 25, 3) := by decide +kernel
theorem dX0_factsFrom_9 : decode cX0_factsFrom 9 = .ok (.if_icmp .ge 16, 3) := by decide +kernel
theorem dX0_factsFrom_12 : decode cX0_factsFrom 12 = .ok (.aload_n 0, 1) := by decide +kernel
theorem dX0_factsFrom_13 : decode cX0_factsFrom 13 = .ok (.iload_n 1, 1) := by decide +kernel
theorem dX0_factsFrom_14 : decode cX0_factsFrom 14 = .ok (.iload_n 2, 1) := by decide +kernel
theorem dX0_factsFrom_15 : decode cX0_factsFrom 15 = .ok (.invokevirtual 40, 3) := by decide +kernel
theorem dX0_factsFrom_18 : decode cX0_factsFrom 18 = .ok (.istore_n 2, 1) := by decide +kernel
theorem dX0_factsFrom_19 : decode cX0_factsFrom 19 = .ok (.iinc 3 1, 3) := by decide +kernel
theorem dX0_factsFrom_22 : decode cX0_factsFrom 22 = .ok (.goto (-18), 3) := by decide +kernel
theorem dX0_factsFrom_25 : decode cX0_factsFrom 25 = .ok (.iload_n 2, 1) := by decide +kernel
theorem dX0_factsFrom_26 : decode cX0_factsFrom 26 = .ok (.ireturn, 1) := by decide +kernel
theorem dX0_words_0 : decode cX0_words 0 = .ok (.aload_n 0, 1) := by decide +kernel
theorem dX0_words_1 : decode cX0_words 1 = .ok (.getfield 25, 3) := by decide +kernel
theorem dX0_words_4 : decode cX0_words 4 = .ok (.bipush 6, 2) := by decide +kernel
theorem dX0_words_6 : decode cX0_words 6 = .ok (.if_icmp .gt 7, 3) := by decide +kernel
theorem dX0_words_9 : decode cX0_words 9 = .ok (.iconst 1, 1) := by decide +kernel
theorem dX0_words_10 : decode cX0_words 10 = .ok (.goto 12, 3) := by decide +kernel
theorem dX0_words_13 : decode cX0_words 13 = .ok (.iconst 1, 1) := by decide +kernel
theorem dX0_words_14 : decode cX0_words 14 = .ok (.aload_n 0, 1) := by decide +kernel
theorem dX0_words_15 : decode cX0_words 15 = .ok (.getfield 25, 3) := by decide +kernel
theorem dX0_words_18 : decode cX0_words 18 = .ok (.bipush 6, 2) := by decide +kernel
theorem dX0_words_20 : decode cX0_words 20 = .ok (.isub, 1) := by decide +kernel
theorem dX0_words_21 : decode cX0_words 21 = .ok (.ishl, 1) := by decide +kernel
theorem dX0_words_22 : decode cX0_words 22 = .ok (.ireturn, 1) := by decide +kernel
set_option maxRecDepth 20000 in
theorem ggX0_setsThatGive_X0_setsWith : GoodIn wsX0_setsThatGive wsX0_setsWith := goodIn_r _ [7, 8] (by decide +kernel) (by decide +kernel)
set_option maxRecDepth 20000 in
theorem gX0_setsThatGive_X0_setsWith : GoodIn wsX0_setsThatGive (wsV RX0 44 RX0 yX0_setsWith wsX0_setsWith) := goodIn_app (goodIn_of _ (by decide +kernel)) ggX0_setsThatGive_X0_setsWith
set_option maxRecDepth 20000 in
theorem ggX0_setsThatGive_X0_setsGiving : GoodIn wsX0_setsThatGive wsX0_setsGiving := goodIn_r _ [12, 13, 1, 14, 2, 15, 8, 16, 17, 18, 19, 20, 21, 22, 6, 23, 24, 25, 26, 27, 28, 29, 30, 31, 32, 33, 34, 35, 36, 37, 38, 39, 40, 41, 42, 43, 44, 45, 46, 47] (by decide +kernel) (by decide +kernel)
set_option maxRecDepth 20000 in
theorem gX0_setsThatGive_X0_setsGiving : GoodIn wsX0_setsThatGive (wsV RX0 48 RX0 yX0_setsGiving wsX0_setsGiving) := goodIn_app (goodIn_of _ (by decide +kernel)) ggX0_setsThatGive_X0_setsGiving
theorem dX0_setsThatGive_0 : decode cX0_setsThatGive 0 = .ok (.iconst 0, 1) := by decide +kernel
theorem dX0_setsThatGive_1 : decode cX0_setsThatGive 1 = .ok (.istore_n 3, 1) := by decide +kernel
theorem dX0_setsThatGive_2 : decode cX0_setsThatGive 2 = .ok (.iload_n 3, 1) := by decide +kernel
theorem dX0_setsThatGive_3 : decode cX0_setsThatGive 3 = .ok (.aload_n 0, 1) := by decide +kernel
theorem dX0_setsThatGive_4 : decode cX0_setsThatGive 4 = .ok (.getfield 25, 3) := by decide +kernel
theorem dX0_setsThatGive_7 : decode cX0_setsThatGive 7 = .ok (.if_icmp .ge 21, 3) := by decide +kernel
theorem dX0_setsThatGive_10 : decode cX0_setsThatGive 10 = .ok (.aload_n 0, 1) := by decide +kernel
theorem dX0_setsThatGive_11 : decode cX0_setsThatGive 11 = .ok (.getfield 29, 3) := by decide +kernel
theorem dX0_setsThatGive_14 : decode cX0_setsThatGive 14 = .ok (.iload_n 3, 1) := by decide +kernel
theorem dX0_setsThatGive_15 : decode cX0_setsThatGive 15 = .ok (.aload_n 0, 1) := by decide +kernel
theorem dX0_setsThatGive_16 : decode cX0_setsThatGive 16 = .ok (.iload_n 3, 1) := by decide +kernel
theorem dX0_setsThatGive_17 : decode cX0_setsThatGive 17 = .ok (.iload_n 2, 1) := by decide +kernel
theorem dX0_setsThatGive_18 : decode cX0_setsThatGive 18 = .ok (.invokevirtual 44, 3) := by decide +kernel
theorem dX0_setsThatGive_21 : decode cX0_setsThatGive 21 = .ok (.lastore, 1) := by decide +kernel
theorem dX0_setsThatGive_22 : decode cX0_setsThatGive 22 = .ok (.iinc 3 1, 3) := by decide +kernel
theorem dX0_setsThatGive_25 : decode cX0_setsThatGive 25 = .ok (.goto (-23), 3) := by decide +kernel
theorem dX0_setsThatGive_28 : decode cX0_setsThatGive 28 = .ok (.aload_n 0, 1) := by decide +kernel
theorem dX0_setsThatGive_29 : decode cX0_setsThatGive 29 = .ok (.iload_n 1, 1) := by decide +kernel
theorem dX0_setsThatGive_30 : decode cX0_setsThatGive 30 = .ok (.invokevirtual 48, 3) := by decide +kernel
theorem dX0_setsThatGive_33 : decode cX0_setsThatGive 33 = .ok (.lreturn, 1) := by decide +kernel
set_option maxRecDepth 20000 in
theorem ggX0_setsThatLeave_X0_setsWith : GoodIn wsX0_setsThatLeave wsX0_setsWith := goodIn_r _ [9, 4] (by decide +kernel) (by decide +kernel)
set_option maxRecDepth 20000 in
theorem gX0_setsThatLeave_X0_setsWith : GoodIn wsX0_setsThatLeave (wsV RX0 44 RX0 yX0_setsWith wsX0_setsWith) := goodIn_app (goodIn_of _ (by decide +kernel)) ggX0_setsThatLeave_X0_setsWith
set_option maxRecDepth 20000 in
theorem ggX0_setsThatLeave_X0_setsGiving : GoodIn wsX0_setsThatLeave wsX0_setsGiving := goodIn_r _ [13, 14, 1, 15, 2, 16, 4, 17, 18, 19, 20, 21, 22, 23, 8, 24, 25, 26, 27, 28, 29, 30, 31, 32, 33, 34, 35, 36, 37, 38, 39, 40, 41, 42, 43, 44, 45, 46, 47, 48] (by decide +kernel) (by decide +kernel)
set_option maxRecDepth 20000 in
theorem gX0_setsThatLeave_X0_setsGiving : GoodIn wsX0_setsThatLeave (wsV RX0 48 RX0 yX0_setsGiving wsX0_setsGiving) := goodIn_app (goodIn_of _ (by decide +kernel)) ggX0_setsThatLeave_X0_setsGiving
theorem dX0_setsThatLeave_0 : decode cX0_setsThatLeave 0 = .ok (.iconst 0, 1) := by decide +kernel
theorem dX0_setsThatLeave_1 : decode cX0_setsThatLeave 1 = .ok (.istore_n 3, 1) := by decide +kernel
theorem dX0_setsThatLeave_2 : decode cX0_setsThatLeave 2 = .ok (.iload_n 3, 1) := by decide +kernel
theorem dX0_setsThatLeave_3 : decode cX0_setsThatLeave 3 = .ok (.aload_n 0, 1) := by decide +kernel
theorem dX0_setsThatLeave_4 : decode cX0_setsThatLeave 4 = .ok (.getfield 25, 3) := by decide +kernel
theorem dX0_setsThatLeave_7 : decode cX0_setsThatLeave 7 = .ok (.if_icmp .ge 40, 3) := by decide +kernel
theorem dX0_setsThatLeave_10 : decode cX0_setsThatLeave 10 = .ok (.aload_n 0, 1) := by decide +kernel
theorem dX0_setsThatLeave_11 : decode cX0_setsThatLeave 11 = .ok (.getfield 29, 3) := by decide +kernel
theorem dX0_setsThatLeave_14 : decode cX0_setsThatLeave 14 = .ok (.iload_n 3, 1) := by decide +kernel
theorem dX0_setsThatLeave_15 : decode cX0_setsThatLeave 15 = .ok (.aload_n 0, 1) := by decide +kernel
theorem dX0_setsThatLeave_16 : decode cX0_setsThatLeave 16 = .ok (.getfield 21, 3) := by decide +kernel
theorem dX0_setsThatLeave_19 : decode cX0_setsThatLeave 19 = .ok (.iload_n 3, 1) := by decide +kernel
theorem dX0_setsThatLeave_20 : decode cX0_setsThatLeave 20 = .ok (.baload, 1) := by decide +kernel
theorem dX0_setsThatLeave_21 : decode cX0_setsThatLeave 21 = .ok (.ifCond .eq 9, 3) := by decide +kernel
theorem dX0_setsThatLeave_24 : decode cX0_setsThatLeave 24 = .ok (.ldc2_w 52, 3) := by decide +kernel
theorem dX0_setsThatLeave_27 : decode cX0_setsThatLeave 27 = .ok (.goto 13, 3) := by decide +kernel
theorem dX0_setsThatLeave_30 : decode cX0_setsThatLeave 30 = .ok (.aload_n 0, 1) := by decide +kernel
theorem dX0_setsThatLeave_31 : decode cX0_setsThatLeave 31 = .ok (.iload_n 3, 1) := by decide +kernel
theorem dX0_setsThatLeave_32 : decode cX0_setsThatLeave 32 = .ok (.iload_n 2, 1) := by decide +kernel
theorem dX0_setsThatLeave_33 : decode cX0_setsThatLeave 33 = .ok (.invokevirtual 44, 3) := by decide +kernel
theorem dX0_setsThatLeave_36 : decode cX0_setsThatLeave 36 = .ok (.ldc2_w 52, 3) := by decide +kernel
theorem dX0_setsThatLeave_39 : decode cX0_setsThatLeave 39 = .ok (.lxor, 1) := by decide +kernel
theorem dX0_setsThatLeave_40 : decode cX0_setsThatLeave 40 = .ok (.lastore, 1) := by decide +kernel
theorem dX0_setsThatLeave_41 : decode cX0_setsThatLeave 41 = .ok (.iinc 3 1, 3) := by decide +kernel
theorem dX0_setsThatLeave_44 : decode cX0_setsThatLeave 44 = .ok (.goto (-42), 3) := by decide +kernel
theorem dX0_setsThatLeave_47 : decode cX0_setsThatLeave 47 = .ok (.aload_n 0, 1) := by decide +kernel
theorem dX0_setsThatLeave_48 : decode cX0_setsThatLeave 48 = .ok (.iload_n 1, 1) := by decide +kernel
theorem dX0_setsThatLeave_49 : decode cX0_setsThatLeave 49 = .ok (.invokevirtual 48, 3) := by decide +kernel
theorem dX0_setsThatLeave_52 : decode cX0_setsThatLeave 52 = .ok (.lreturn, 1) := by decide +kernel
theorem dX0_setsWith_0 : decode cX0_setsWith 0 = .ok (.iload_n 1, 1) := by decide +kernel
theorem dX0_setsWith_1 : decode cX0_setsWith 1 = .ok (.bipush 6, 2) := by decide +kernel
theorem dX0_setsWith_3 : decode cX0_setsWith 3 = .ok (.if_icmp .ge 9, 3) := by decide +kernel
theorem dX0_setsWith_6 : decode cX0_setsWith 6 = .ok (.getstatic 54, 3) := by decide +kernel
theorem dX0_setsWith_9 : decode cX0_setsWith 9 = .ok (.iload_n 1, 1) := by decide +kernel
theorem dX0_setsWith_10 : decode cX0_setsWith 10 = .ok (.laload, 1) := by decide +kernel
theorem dX0_setsWith_11 : decode cX0_setsWith 11 = .ok (.lreturn, 1) := by decide +kernel
theorem dX0_setsWith_12 : decode cX0_setsWith 12 = .ok (.iload_n 2, 1) := by decide +kernel
theorem dX0_setsWith_13 : decode cX0_setsWith 13 = .ok (.iload_n 1, 1) := by decide +kernel
theorem dX0_setsWith_14 : decode cX0_setsWith 14 = .ok (.bipush 6, 2) := by decide +kernel
theorem dX0_setsWith_16 : decode cX0_setsWith 16 = .ok (.isub, 1) := by decide +kernel
theorem dX0_setsWith_17 : decode cX0_setsWith 17 = .ok (.ishr, 1) := by decide +kernel
theorem dX0_setsWith_18 : decode cX0_setsWith 18 = .ok (.iconst 1, 1) := by decide +kernel
theorem dX0_setsWith_19 : decode cX0_setsWith 19 = .ok (.iand, 1) := by decide +kernel
theorem dX0_setsWith_20 : decode cX0_setsWith 20 = .ok (.ifCond .eq 9, 3) := by decide +kernel
theorem dX0_setsWith_23 : decode cX0_setsWith 23 = .ok (.ldc2_w 52, 3) := by decide +kernel
theorem dX0_setsWith_26 : decode cX0_setsWith 26 = .ok (.goto 4, 3) := by decide +kernel
theorem dX0_setsWith_29 : decode cX0_setsWith 29 = .ok (.lconst 0, 1) := by decide +kernel
theorem dX0_setsWith_30 : decode cX0_setsWith 30 = .ok (.lreturn, 1) := by decide +kernel
set_option maxRecDepth 20000 in
theorem ggX0_setsGiving_J7_fill_d0a16 : GoodIn wsX0_setsGiving wsJ7_fill_d0a16 := goodIn_r _ [10] (by decide +kernel) (by decide +kernel)
set_option maxRecDepth 20000 in
theorem gX0_setsGiving_J7_fill_d0a16 : GoodIn wsX0_setsGiving (va_wsS RX0 57 yJ7_fill_d0a16 wsJ7_fill_d0a16) := goodIn_app (goodIn_of _ (by decide +kernel)) ggX0_setsGiving_J7_fill_d0a16
set_option maxRecDepth 20000 in
theorem ggX0_setsGiving_X0_setsGivingAll : GoodIn wsX0_setsGiving wsX0_setsGivingAll := goodIn_r _ [15, 1, 16, 17, 18, 19, 20, 21, 22, 23, 24, 25, 26, 27, 28, 29, 30, 31, 32, 33, 34, 35, 36, 37, 38, 39] (by decide +kernel) (by decide +kernel)
set_option maxRecDepth 20000 in
theorem gX0_setsGiving_X0_setsGivingAll : GoodIn wsX0_setsGiving (wsV RX0 63 RX0 yX0_setsGivingAll wsX0_setsGivingAll) := goodIn_app (goodIn_of _ (by decide +kernel)) ggX0_setsGiving_X0_setsGivingAll
theorem dX0_setsGiving_0 : decode cX0_setsGiving 0 = .ok (.aload_n 0, 1) := by decide +kernel
theorem dX0_setsGiving_1 : decode cX0_setsGiving 1 = .ok (.getfield 33, 3) := by decide +kernel
theorem dX0_setsGiving_4 : decode cX0_setsGiving 4 = .ok (.lconst 0, 1) := by decide +kernel
theorem dX0_setsGiving_5 : decode cX0_setsGiving 5 = .ok (.invokestatic 57, 3) := by decide +kernel
theorem dX0_setsGiving_8 : decode cX0_setsGiving 8 = .ok (.iconst 1, 1) := by decide +kernel
theorem dX0_setsGiving_9 : decode cX0_setsGiving 9 = .ok (.istore_n 2, 1) := by decide +kernel
theorem dX0_setsGiving_10 : decode cX0_setsGiving 10 = .ok (.iconst 0, 1) := by decide +kernel
theorem dX0_setsGiving_11 : decode cX0_setsGiving 11 = .ok (.istore_n 3, 1) := by decide +kernel
theorem dX0_setsGiving_12 : decode cX0_setsGiving 12 = .ok (.iload_n 3, 1) := by decide +kernel
theorem dX0_setsGiving_13 : decode cX0_setsGiving 13 = .ok (.aload_n 0, 1) := by decide +kernel
theorem dX0_setsGiving_14 : decode cX0_setsGiving 14 = .ok (.getfield 25, 3) := by decide +kernel
theorem dX0_setsGiving_17 : decode cX0_setsGiving 17 = .ok (.if_icmp .ge 104, 3) := by decide +kernel
theorem dX0_setsGiving_20 : decode cX0_setsGiving 20 = .ok (.iload_n 2, 1) := by decide +kernel
theorem dX0_setsGiving_21 : decode cX0_setsGiving 21 = .ok (.ifCond .eq 100, 3) := by decide +kernel
theorem dX0_setsGiving_24 : decode cX0_setsGiving 24 = .ok (.iconst 0, 1) := by decide +kernel
theorem dX0_setsGiving_25 : decode cX0_setsGiving 25 = .ok (.istore_n 2, 1) := by decide +kernel
theorem dX0_setsGiving_26 : decode cX0_setsGiving 26 = .ok (.iconst 0, 1) := by decide +kernel
theorem dX0_setsGiving_27 : decode cX0_setsGiving 27 = .ok (.istore 4, 2) := by decide +kernel
theorem dX0_setsGiving_29 : decode cX0_setsGiving 29 = .ok (.iload 4, 2) := by decide +kernel
theorem dX0_setsGiving_31 : decode cX0_setsGiving 31 = .ok (.aload_n 0, 1) := by decide +kernel
theorem dX0_setsGiving_32 : decode cX0_setsGiving 32 = .ok (.getfield 25, 3) := by decide +kernel
theorem dX0_setsGiving_35 : decode cX0_setsGiving 35 = .ok (.if_icmp .ge 80, 3) := by decide +kernel
theorem dX0_setsGiving_38 : decode cX0_setsGiving 38 = .ok (.aload_n 0, 1) := by decide +kernel
theorem dX0_setsGiving_39 : decode cX0_setsGiving 39 = .ok (.aload_n 0, 1) := by decide +kernel
theorem dX0_setsGiving_40 : decode cX0_setsGiving 40 = .ok (.getfield 9, 3) := by decide +kernel
theorem dX0_setsGiving_43 : decode cX0_setsGiving 43 = .ok (.iload 4, 2) := by decide +kernel
theorem dX0_setsGiving_45 : decode cX0_setsGiving 45 = .ok (.iaload, 1) := by decide +kernel
theorem dX0_setsGiving_46 : decode cX0_setsGiving 46 = .ok (.aload_n 0, 1) := by decide +kernel
theorem dX0_setsGiving_47 : decode cX0_setsGiving 47 = .ok (.getfield 29, 3) := by decide +kernel
theorem dX0_setsGiving_50 : decode cX0_setsGiving 50 = .ok (.iload 4, 2) := by decide +kernel
theorem dX0_setsGiving_52 : decode cX0_setsGiving 52 = .ok (.laload, 1) := by decide +kernel
theorem dX0_setsGiving_53 : decode cX0_setsGiving 53 = .ok (.aload_n 0, 1) := by decide +kernel
theorem dX0_setsGiving_54 : decode cX0_setsGiving 54 = .ok (.getfield 33, 3) := by decide +kernel
theorem dX0_setsGiving_57 : decode cX0_setsGiving 57 = .ok (.aload_n 0, 1) := by decide +kernel
theorem dX0_setsGiving_58 : decode cX0_setsGiving 58 = .ok (.getfield 15, 3) := by decide +kernel
theorem dX0_setsGiving_61 : decode cX0_setsGiving 61 = .ok (.iload 4, 2) := by decide +kernel
theorem dX0_setsGiving_63 : decode cX0_setsGiving 63 = .ok (.iaload, 1) := by decide +kernel
theorem dX0_setsGiving_64 : decode cX0_setsGiving 64 = .ok (.laload, 1) := by decide +kernel
theorem dX0_setsGiving_65 : decode cX0_setsGiving 65 = .ok (.ldc2_w 52, 3) := by decide +kernel
theorem dX0_setsGiving_68 : decode cX0_setsGiving 68 = .ok (.lxor, 1) := by decide +kernel
theorem dX0_setsGiving_69 : decode cX0_setsGiving 69 = .ok (.land, 1) := by decide +kernel
theorem dX0_setsGiving_70 : decode cX0_setsGiving 70 = .ok (.invokevirtual 63, 3) := by decide +kernel
theorem dX0_setsGiving_73 : decode cX0_setsGiving 73 = .ok (.lstore 5, 2) := by decide +kernel
theorem dX0_setsGiving_75 : decode cX0_setsGiving 75 = .ok (.aload_n 0, 1) := by decide +kernel
theorem dX0_setsGiving_76 : decode cX0_setsGiving 76 = .ok (.getfield 33, 3) := by decide +kernel
theorem dX0_setsGiving_79 : decode cX0_setsGiving 79 = .ok (.aload_n 0, 1) := by decide +kernel
theorem dX0_setsGiving_80 : decode cX0_setsGiving 80 = .ok (.getfield 15, 3) := by decide +kernel
theorem dX0_setsGiving_83 : decode cX0_setsGiving 83 = .ok (.iload 4, 2) := by decide +kernel
theorem dX0_setsGiving_85 : decode cX0_setsGiving 85 = .ok (.iaload, 1) := by decide +kernel
theorem dX0_setsGiving_86 : decode cX0_setsGiving 86 = .ok (.dup2, 1) := by decide +kernel
theorem dX0_setsGiving_87 : decode cX0_setsGiving 87 = .ok (.laload, 1) := by decide +kernel
theorem dX0_setsGiving_88 : decode cX0_setsGiving 88 = .ok (.lload 5, 2) := by decide +kernel
theorem dX0_setsGiving_90 : decode cX0_setsGiving 90 = .ok (.lor, 1) := by decide +kernel
theorem dX0_setsGiving_91 : decode cX0_setsGiving 91 = .ok (.lastore, 1) := by decide +kernel
theorem dX0_setsGiving_92 : decode cX0_setsGiving 92 = .ok (.iload_n 2, 1) := by decide +kernel
theorem dX0_setsGiving_93 : decode cX0_setsGiving 93 = .ok (.ifCond .ne 10, 3) := by decide +kernel
theorem dX0_setsGiving_96 : decode cX0_setsGiving 96 = .ok (.lload 5, 2) := by decide +kernel
theorem dX0_setsGiving_98 : decode cX0_setsGiving 98 = .ok (.lconst 0, 1) := by decide +kernel
theorem dX0_setsGiving_99 : decode cX0_setsGiving 99 = .ok (.lcmp, 1) := by decide +kernel
theorem dX0_setsGiving_100 : decode cX0_setsGiving 100 = .ok (.ifCond .eq 7, 3) := by decide +kernel
theorem dX0_setsGiving_103 : decode cX0_setsGiving 103 = .ok (.iconst 1, 1) := by decide +kernel
theorem dX0_setsGiving_104 : decode cX0_setsGiving 104 = .ok (.goto 4, 3) := by decide +kernel
theorem dX0_setsGiving_107 : decode cX0_setsGiving 107 = .ok (.iconst 0, 1) := by decide +kernel
theorem dX0_setsGiving_108 : decode cX0_setsGiving 108 = .ok (.istore_n 2, 1) := by decide +kernel
theorem dX0_setsGiving_109 : decode cX0_setsGiving 109 = .ok (.iinc 4 1, 3) := by decide +kernel
theorem dX0_setsGiving_112 : decode cX0_setsGiving 112 = .ok (.goto (-83), 3) := by decide +kernel
theorem dX0_setsGiving_115 : decode cX0_setsGiving 115 = .ok (.iinc 3 1, 3) := by decide +kernel
theorem dX0_setsGiving_118 : decode cX0_setsGiving 118 = .ok (.goto (-106), 3) := by decide +kernel
theorem dX0_setsGiving_121 : decode cX0_setsGiving 121 = .ok (.aload_n 0, 1) := by decide +kernel
theorem dX0_setsGiving_122 : decode cX0_setsGiving 122 = .ok (.getfield 33, 3) := by decide +kernel
theorem dX0_setsGiving_125 : decode cX0_setsGiving 125 = .ok (.iload_n 1, 1) := by decide +kernel
theorem dX0_setsGiving_126 : decode cX0_setsGiving 126 = .ok (.laload, 1) := by decide +kernel
theorem dX0_setsGiving_127 : decode cX0_setsGiving 127 = .ok (.lreturn, 1) := by decide +kernel
set_option maxRecDepth 20000 in
theorem ggX0_setsGivingAll_J6_bitCount_0f7a4 : GoodIn wsX0_setsGivingAll wsJ6_bitCount_0f7a4 := goodIn_r _ [5, 6, 7, 8] (by decide +kernel) (by decide +kernel)
set_option maxRecDepth 20000 in
theorem gX0_setsGivingAll_J6_bitCount_0f7a4 : GoodIn wsX0_setsGivingAll (va_wsS RX0 67 yJ6_bitCount_0f7a4 wsJ6_bitCount_0f7a4) := goodIn_app (goodIn_of _ (by decide +kernel)) ggX0_setsGivingAll_J6_bitCount_0f7a4
set_option maxRecDepth 20000 in
theorem ggX0_setsGivingAll_X3_lowestPlace : GoodIn wsX0_setsGivingAll wsX3_lowestPlace := goodIn_r _ [11, 12, 13, 14, 15, 16, 17, 18] (by decide +kernel) (by decide +kernel)
set_option maxRecDepth 20000 in
theorem gX0_setsGivingAll_X3_lowestPlace_n73 : GoodIn wsX0_setsGivingAll (wsX3_lowestPlace) := ggX0_setsGivingAll_X3_lowestPlace
theorem dX0_setsGivingAll_0 : decode cX0_setsGivingAll 0 = .ok (.lload_n 2, 1) := by decide +kernel
theorem dX0_setsGivingAll_1 : decode cX0_setsGivingAll 1 = .ok (.lstore 4, 2) := by decide +kernel
theorem dX0_setsGivingAll_3 : decode cX0_setsGivingAll 3 = .ok (.iload_n 1, 1) := by decide +kernel
theorem dX0_setsGivingAll_4 : decode cX0_setsGivingAll 4 = .ok (.istore 6, 2) := by decide +kernel
theorem dX0_setsGivingAll_6 : decode cX0_setsGivingAll 6 = .ok (.iload_n 1, 1) := by decide +kernel
theorem dX0_setsGivingAll_7 : decode cX0_setsGivingAll 7 = .ok (.invokestatic 67, 3) := by decide +kernel
theorem dX0_setsGivingAll_10 : decode cX0_setsGivingAll 10 = .ok (.istore 7, 2) := by decide +kernel
theorem dX0_setsGivingAll_12 : decode cX0_setsGivingAll 12 = .ok (.iconst 0, 1) := by decide +kernel
theorem dX0_setsGivingAll_13 : decode cX0_setsGivingAll 13 = .ok (.istore 8, 2) := by decide +kernel
theorem dX0_setsGivingAll_15 : decode cX0_setsGivingAll 15 = .ok (.iload 8, 2) := by decide +kernel
theorem dX0_setsGivingAll_17 : decode cX0_setsGivingAll 17 = .ok (.iload 7, 2) := by decide +kernel
theorem dX0_setsGivingAll_19 : decode cX0_setsGivingAll 19 = .ok (.if_icmp .ge 41, 3) := by decide +kernel
theorem dX0_setsGivingAll_22 : decode cX0_setsGivingAll 22 = .ok (.lload 4, 2) := by decide +kernel
theorem dX0_setsGivingAll_24 : decode cX0_setsGivingAll 24 = .ok (.lconst 0, 1) := by decide +kernel
theorem dX0_setsGivingAll_25 : decode cX0_setsGivingAll 25 = .ok (.lcmp, 1) := by decide +kernel
theorem dX0_setsGivingAll_26 : decode cX0_setsGivingAll 26 = .ok (.ifCond .eq 34, 3) := by decide +kernel
theorem dX0_setsGivingAll_29 : decode cX0_setsGivingAll 29 = .ok (.lload 4, 2) := by decide +kernel
theorem dX0_setsGivingAll_31 : decode cX0_setsGivingAll 31 = .ok (.aload_n 0, 1) := by decide +kernel
theorem dX0_setsGivingAll_32 : decode cX0_setsGivingAll 32 = .ok (.getfield 33, 3) := by decide +kernel
theorem dX0_setsGivingAll_35 : decode cX0_setsGivingAll 35 = .ok (.iload 6, 2) := by decide +kernel
theorem dX0_setsGivingAll_37 : decode cX0_setsGivingAll 37 = .ok (.i2l, 1) := by decide +kernel
theorem dX0_setsGivingAll_38 : decode cX0_setsGivingAll 38 = .ok (.invokestatic 73, 3) := by decide +kernel
theorem dX0_setsGivingAll_41 : decode cX0_setsGivingAll 41 = .ok (.laload, 1) := by decide +kernel
theorem dX0_setsGivingAll_42 : decode cX0_setsGivingAll 42 = .ok (.land, 1) := by decide +kernel
theorem dX0_setsGivingAll_43 : decode cX0_setsGivingAll 43 = .ok (.lstore 4, 2) := by decide +kernel
theorem dX0_setsGivingAll_45 : decode cX0_setsGivingAll 45 = .ok (.iload 6, 2) := by decide +kernel
theorem dX0_setsGivingAll_47 : decode cX0_setsGivingAll 47 = .ok (.iload 6, 2) := by decide +kernel
theorem dX0_setsGivingAll_49 : decode cX0_setsGivingAll 49 = .ok (.iconst 1, 1) := by decide +kernel
theorem dX0_setsGivingAll_50 : decode cX0_setsGivingAll 50 = .ok (.isub, 1) := by decide +kernel
theorem dX0_setsGivingAll_51 : decode cX0_setsGivingAll 51 = .ok (.iand, 1) := by decide +kernel
theorem dX0_setsGivingAll_52 : decode cX0_setsGivingAll 52 = .ok (.istore 6, 2) := by decide +kernel
theorem dX0_setsGivingAll_54 : decode cX0_setsGivingAll 54 = .ok (.iinc 8 1, 3) := by decide +kernel
theorem dX0_setsGivingAll_57 : decode cX0_setsGivingAll 57 = .ok (.goto (-42), 3) := by decide +kernel
theorem dX0_setsGivingAll_60 : decode cX0_setsGivingAll 60 = .ok (.lload 4, 2) := by decide +kernel
theorem dX0_setsGivingAll_62 : decode cX0_setsGivingAll 62 = .ok (.lreturn, 1) := by decide +kernel
theorem dX1_init_0 : decode cX1_init 0 = .ok (.aload_n 0, 1) := by decide +kernel
theorem dX1_init_1 : decode cX1_init 1 = .ok (.invokespecial 3, 3) := by decide +kernel
theorem dX1_init_4 : decode cX1_init 4 = .ok (.aload_n 0, 1) := by decide +kernel
theorem dX1_init_5 : decode cX1_init 5 = .ok (.sipush 256, 3) := by decide +kernel
theorem dX1_init_8 : decode cX1_init 8 = .ok (.newarray .long, 2) := by decide +kernel
theorem dX1_init_10 : decode cX1_init 10 = .ok (.putfield 9, 3) := by decide +kernel
theorem dX1_init_13 : decode cX1_init 13 = .ok (.aload_n 0, 1) := by decide +kernel
theorem dX1_init_14 : decode cX1_init 14 = .ok (.sipush 256, 3) := by decide +kernel
theorem dX1_init_17 : decode cX1_init 17 = .ok (.newarray .long, 2) := by decide +kernel
theorem dX1_init_19 : decode cX1_init 19 = .ok (.putfield 15, 3) := by decide +kernel
theorem dX1_init_22 : decode cX1_init 22 = .ok (.return_, 1) := by decide +kernel
set_option maxRecDepth 20000 in
theorem ggX1_listLeast_X1_leastOf : GoodIn wsX1_listLeast wsX1_leastOf := goodIn_r _ [6, 7, 8, 38, 39] (by decide +kernel) (by decide +kernel)
set_option maxRecDepth 20000 in
theorem gX1_listLeast_X1_leastOf : GoodIn wsX1_listLeast (wsV RX1 18 RX1 yX1_leastOf wsX1_leastOf) := goodIn_app (goodIn_of _ (by decide +kernel)) ggX1_listLeast_X1_leastOf
set_option maxRecDepth 20000 in
theorem ggX1_listLeast_X2_clear : GoodIn wsX1_listLeast wsX2_clear := goodIn_r _ [13, 14, 40, 41] (by decide +kernel) (by decide +kernel)
set_option maxRecDepth 20000 in
theorem gX1_listLeast_X2_clear : GoodIn wsX1_listLeast (wsV RX1 22 RX2 yX2_clear wsX2_clear) := goodIn_app (goodIn_of _ (by decide +kernel)) ggX1_listLeast_X2_clear
set_option maxRecDepth 20000 in
theorem ggX1_listLeast_J6_bitCount_0f7a4 : GoodIn wsX1_listLeast wsJ6_bitCount_0f7a4 := goodIn_r _ [18, 19, 20, 21] (by decide +kernel) (by decide +kernel)
set_option maxRecDepth 20000 in
theorem gX1_listLeast_J6_bitCount_0f7a4 : GoodIn wsX1_listLeast (va_wsS RX1 27 yJ6_bitCount_0f7a4 wsJ6_bitCount_0f7a4) := goodIn_app (goodIn_of _ (by decide +kernel)) ggX1_listLeast_J6_bitCount_0f7a4
set_option maxRecDepth 20000 in
theorem ggX1_listLeast_X2_addAll : GoodIn wsX1_listLeast wsX2_addAll := goodIn_r _ [25, 14, 26, 27, 28, 29, 30, 31, 32, 33, 34, 35, 36, 37, 40, 41] (by decide +kernel) (by decide +kernel)
set_option maxRecDepth 20000 in
theorem gX1_listLeast_X2_addAll : GoodIn wsX1_listLeast (wsV RX1 36 RX2 yX2_addAll wsX2_addAll) := goodIn_app (goodIn_of _ (by decide +kernel)) ggX1_listLeast_X2_addAll
theorem dX1_listLeast_0 : decode cX1_listLeast 0 = .ok (.iconst 0, 1) := by decide +kernel
theorem dX1_listLeast_1 : decode cX1_listLeast 1 = .ok (.istore_n 3, 1) := by decide +kernel
theorem dX1_listLeast_2 : decode cX1_listLeast 2 = .ok (.iload_n 3, 1) := by decide +kernel
theorem dX1_listLeast_3 : decode cX1_listLeast 3 = .ok (.iload_n 1, 1) := by decide +kernel
theorem dX1_listLeast_4 : decode cX1_listLeast 4 = .ok (.if_icmp .ge 20, 3) := by decide +kernel
theorem dX1_listLeast_7 : decode cX1_listLeast 7 = .ok (.aload_n 0, 1) := by decide +kernel
theorem dX1_listLeast_8 : decode cX1_listLeast 8 = .ok (.getfield 15, 3) := by decide +kernel
theorem dX1_listLeast_11 : decode cX1_listLeast 11 = .ok (.iload_n 3, 1) := by decide +kernel
theorem dX1_listLeast_12 : decode cX1_listLeast 12 = .ok (.aload_n 0, 1) := by decide +kernel
theorem dX1_listLeast_13 : decode cX1_listLeast 13 = .ok (.iload_n 3, 1) := by decide +kernel
theorem dX1_listLeast_14 : decode cX1_listLeast 14 = .ok (.invokevirtual 18, 3) := by decide +kernel
theorem dX1_listLeast_17 : decode cX1_listLeast 17 = .ok (.lastore, 1) := by decide +kernel
theorem dX1_listLeast_18 : decode cX1_listLeast 18 = .ok (.iinc 3 1, 3) := by decide +kernel
theorem dX1_listLeast_21 : decode cX1_listLeast 21 = .ok (.goto (-19), 3) := by decide +kernel
theorem dX1_listLeast_24 : decode cX1_listLeast 24 = .ok (.aload_n 2, 1) := by decide +kernel
theorem dX1_listLeast_25 : decode cX1_listLeast 25 = .ok (.invokevirtual 22, 3) := by decide +kernel
theorem dX1_listLeast_28 : decode cX1_listLeast 28 = .ok (.iconst 0, 1) := by decide +kernel
theorem dX1_listLeast_29 : decode cX1_listLeast 29 = .ok (.istore_n 3, 1) := by decide +kernel
theorem dX1_listLeast_30 : decode cX1_listLeast 30 = .ok (.iload_n 3, 1) := by decide +kernel
theorem dX1_listLeast_31 : decode cX1_listLeast 31 = .ok (.bipush 14, 2) := by decide +kernel
theorem dX1_listLeast_33 : decode cX1_listLeast 33 = .ok (.if_icmp .gt 65, 3) := by decide +kernel
theorem dX1_listLeast_36 : decode cX1_listLeast 36 = .ok (.iconst 0, 1) := by decide +kernel
theorem dX1_listLeast_37 : decode cX1_listLeast 37 = .ok (.istore 4, 2) := by decide +kernel
theorem dX1_listLeast_39 : decode cX1_listLeast 39 = .ok (.iload 4, 2) := by decide +kernel
theorem dX1_listLeast_41 : decode cX1_listLeast 41 = .ok (.iload_n 1, 1) := by decide +kernel
theorem dX1_listLeast_42 : decode cX1_listLeast 42 = .ok (.if_icmp .ge 50, 3) := by decide +kernel
theorem dX1_listLeast_45 : decode cX1_listLeast 45 = .ok (.iload_n 3, 1) := by decide +kernel
theorem dX1_listLeast_46 : decode cX1_listLeast 46 = .ok (.iload 4, 2) := by decide +kernel
theorem dX1_listLeast_48 : decode cX1_listLeast 48 = .ok (.invokestatic 27, 3) := by decide +kernel
theorem dX1_listLeast_51 : decode cX1_listLeast 51 = .ok (.isub, 1) := by decide +kernel
theorem dX1_listLeast_52 : decode cX1_listLeast 52 = .ok (.istore 5, 2) := by decide +kernel
theorem dX1_listLeast_54 : decode cX1_listLeast 54 = .ok (.iload 5, 2) := by decide +kernel
theorem dX1_listLeast_56 : decode cX1_listLeast 56 = .ok (.ifCond .lt 30, 3) := by decide +kernel
theorem dX1_listLeast_59 : decode cX1_listLeast 59 = .ok (.iload 5, 2) := by decide +kernel
theorem dX1_listLeast_61 : decode cX1_listLeast 61 = .ok (.bipush 6, 2) := by decide +kernel
theorem dX1_listLeast_63 : decode cX1_listLeast 63 = .ok (.if_icmp .gt 23, 3) := by decide +kernel
theorem dX1_listLeast_66 : decode cX1_listLeast 66 = .ok (.aload_n 2, 1) := by decide +kernel
theorem dX1_listLeast_67 : decode cX1_listLeast 67 = .ok (.iload 4, 2) := by decide +kernel
theorem dX1_listLeast_69 : decode cX1_listLeast 69 = .ok (.aload_n 0, 1) := by decide +kernel
theorem dX1_listLeast_70 : decode cX1_listLeast 70 = .ok (.getfield 15, 3) := by decide +kernel
theorem dX1_listLeast_73 : decode cX1_listLeast 73 = .ok (.iload 4, 2) := by decide +kernel
theorem dX1_listLeast_75 : decode cX1_listLeast 75 = .ok (.laload, 1) := by decide +kernel
theorem dX1_listLeast_76 : decode cX1_listLeast 76 = .ok (.getstatic 33, 3) := by decide +kernel
theorem dX1_listLeast_79 : decode cX1_listLeast 79 = .ok (.iload 5, 2) := by decide +kernel
theorem dX1_listLeast_81 : decode cX1_listLeast 81 = .ok (.laload, 1) := by decide +kernel
theorem dX1_listLeast_82 : decode cX1_listLeast 82 = .ok (.land, 1) := by decide +kernel
theorem dX1_listLeast_83 : decode cX1_listLeast 83 = .ok (.invokevirtual 36, 3) := by decide +kernel
theorem dX1_listLeast_86 : decode cX1_listLeast 86 = .ok (.iinc 4 1, 3) := by decide +kernel
theorem dX1_listLeast_89 : decode cX1_listLeast 89 = .ok (.goto (-50), 3) := by decide +kernel
theorem dX1_listLeast_92 : decode cX1_listLeast 92 = .ok (.iinc 3 1, 3) := by decide +kernel
theorem dX1_listLeast_95 : decode cX1_listLeast 95 = .ok (.goto (-65), 3) := by decide +kernel
theorem dX1_listLeast_98 : decode cX1_listLeast 98 = .ok (.return_, 1) := by decide +kernel
theorem dX1_leastOf_0 : decode cX1_leastOf 0 = .ok (.aload_n 0, 1) := by decide +kernel
theorem dX1_leastOf_1 : decode cX1_leastOf 1 = .ok (.getfield 9, 3) := by decide +kernel
theorem dX1_leastOf_4 : decode cX1_leastOf 4 = .ok (.iload_n 1, 1) := by decide +kernel
theorem dX1_leastOf_5 : decode cX1_leastOf 5 = .ok (.laload, 1) := by decide +kernel
theorem dX1_leastOf_6 : decode cX1_leastOf 6 = .ok (.lstore_n 2, 1) := by decide +kernel
theorem dX1_leastOf_7 : decode cX1_leastOf 7 = .ok (.iconst 0, 1) := by decide +kernel
theorem dX1_leastOf_8 : decode cX1_leastOf 8 = .ok (.istore 4, 2) := by decide +kernel
theorem dX1_leastOf_10 : decode cX1_leastOf 10 = .ok (.iload 4, 2) := by decide +kernel
theorem dX1_leastOf_12 : decode cX1_leastOf 12 = .ok (.bipush 6, 2) := by decide +kernel
theorem dX1_leastOf_14 : decode cX1_leastOf 14 = .ok (.if_icmp .ge 38, 3) := by decide +kernel
theorem dX1_leastOf_17 : decode cX1_leastOf 17 = .ok (.aload_n 0, 1) := by decide +kernel
theorem dX1_leastOf_18 : decode cX1_leastOf 18 = .ok (.getfield 9, 3) := by decide +kernel
theorem dX1_leastOf_21 : decode cX1_leastOf 21 = .ok (.iload_n 1, 1) := by decide +kernel
theorem dX1_leastOf_22 : decode cX1_leastOf 22 = .ok (.laload, 1) := by decide +kernel
theorem dX1_leastOf_23 : decode cX1_leastOf 23 = .ok (.iconst 1, 1) := by decide +kernel
theorem dX1_leastOf_24 : decode cX1_leastOf 24 = .ok (.iload 4, 2) := by decide +kernel
theorem dX1_leastOf_26 : decode cX1_leastOf 26 = .ok (.ishl, 1) := by decide +kernel
theorem dX1_leastOf_27 : decode cX1_leastOf 27 = .ok (.lshl, 1) := by decide +kernel
theorem dX1_leastOf_28 : decode cX1_leastOf 28 = .ok (.getstatic 40, 3) := by decide +kernel
theorem dX1_leastOf_31 : decode cX1_leastOf 31 = .ok (.iload 4, 2) := by decide +kernel
theorem dX1_leastOf_33 : decode cX1_leastOf 33 = .ok (.laload, 1) := by decide +kernel
theorem dX1_leastOf_34 : decode cX1_leastOf 34 = .ok (.land, 1) := by decide +kernel
theorem dX1_leastOf_35 : decode cX1_leastOf 35 = .ok (.lstore 5, 2) := by decide +kernel
theorem dX1_leastOf_37 : decode cX1_leastOf 37 = .ok (.lload_n 2, 1) := by decide +kernel
theorem dX1_leastOf_38 : decode cX1_leastOf 38 = .ok (.lload 5, 2) := by decide +kernel
theorem dX1_leastOf_40 : decode cX1_leastOf 40 = .ok (.ldc2_w 43, 3) := by decide +kernel
theorem dX1_leastOf_43 : decode cX1_leastOf 43 = .ok (.lxor, 1) := by decide +kernel
theorem dX1_leastOf_44 : decode cX1_leastOf 44 = .ok (.land, 1) := by decide +kernel
theorem dX1_leastOf_45 : decode cX1_leastOf 45 = .ok (.lstore_n 2, 1) := by decide +kernel
theorem dX1_leastOf_46 : decode cX1_leastOf 46 = .ok (.iinc 4 1, 3) := by decide +kernel
theorem dX1_leastOf_49 : decode cX1_leastOf 49 = .ok (.goto (-39), 3) := by decide +kernel
theorem dX1_leastOf_52 : decode cX1_leastOf 52 = .ok (.iconst 0, 1) := by decide +kernel
theorem dX1_leastOf_53 : decode cX1_leastOf 53 = .ok (.istore 4, 2) := by decide +kernel
theorem dX1_leastOf_55 : decode cX1_leastOf 55 = .ok (.iload 4, 2) := by decide +kernel
theorem dX1_leastOf_57 : decode cX1_leastOf 57 = .ok (.bipush 8, 2) := by decide +kernel
theorem dX1_leastOf_59 : decode cX1_leastOf 59 = .ok (.if_icmp .ge 36, 3) := by decide +kernel
theorem dX1_leastOf_62 : decode cX1_leastOf 62 = .ok (.iload_n 1, 1) := by decide +kernel
theorem dX1_leastOf_63 : decode cX1_leastOf 63 = .ok (.iload 4, 2) := by decide +kernel
theorem dX1_leastOf_65 : decode cX1_leastOf 65 = .ok (.ishr, 1) := by decide +kernel
theorem dX1_leastOf_66 : decode cX1_leastOf 66 = .ok (.iconst 1, 1) := by decide +kernel
theorem dX1_leastOf_67 : decode cX1_leastOf 67 = .ok (.iand, 1) := by decide +kernel
theorem dX1_leastOf_68 : decode cX1_leastOf 68 = .ok (.ifCond .eq 21, 3) := by decide +kernel
theorem dX1_leastOf_71 : decode cX1_leastOf 71 = .ok (.lload_n 2, 1) := by decide +kernel
theorem dX1_leastOf_72 : decode cX1_leastOf 72 = .ok (.aload_n 0, 1) := by decide +kernel
theorem dX1_leastOf_73 : decode cX1_leastOf 73 = .ok (.getfield 9, 3) := by decide +kernel
theorem dX1_leastOf_76 : decode cX1_leastOf 76 = .ok (.iload_n 1, 1) := by decide +kernel
theorem dX1_leastOf_77 : decode cX1_leastOf 77 = .ok (.iconst 1, 1) := by decide +kernel
theorem dX1_leastOf_78 : decode cX1_leastOf 78 = .ok (.iload 4, 2) := by decide +kernel
theorem dX1_leastOf_80 : decode cX1_leastOf 80 = .ok (.ishl, 1) := by decide +kernel
theorem dX1_leastOf_81 : decode cX1_leastOf 81 = .ok (.ixor, 1) := by decide +kernel
theorem dX1_leastOf_82 : decode cX1_leastOf 82 = .ok (.laload, 1) := by decide +kernel
theorem dX1_leastOf_83 : decode cX1_leastOf 83 = .ok (.ldc2_w 43, 3) := by decide +kernel
theorem dX1_leastOf_86 : decode cX1_leastOf 86 = .ok (.lxor, 1) := by decide +kernel
theorem dX1_leastOf_87 : decode cX1_leastOf 87 = .ok (.land, 1) := by decide +kernel
theorem dX1_leastOf_88 : decode cX1_leastOf 88 = .ok (.lstore_n 2, 1) := by decide +kernel
theorem dX1_leastOf_89 : decode cX1_leastOf 89 = .ok (.iinc 4 1, 3) := by decide +kernel
theorem dX1_leastOf_92 : decode cX1_leastOf 92 = .ok (.goto (-37), 3) := by decide +kernel
theorem dX1_leastOf_95 : decode cX1_leastOf 95 = .ok (.lload_n 2, 1) := by decide +kernel
theorem dX1_leastOf_96 : decode cX1_leastOf 96 = .ok (.lreturn, 1) := by decide +kernel
theorem dX2_init_0 : decode cX2_init 0 = .ok (.aload_n 0, 1) := by decide +kernel
theorem dX2_init_1 : decode cX2_init 1 = .ok (.invokespecial 3, 3) := by decide +kernel
theorem dX2_init_4 : decode cX2_init 4 = .ok (.aload_n 0, 1) := by decide +kernel
theorem dX2_init_5 : decode cX2_init 5 = .ok (.sipush 3432, 3) := by decide +kernel
theorem dX2_init_8 : decode cX2_init 8 = .ok (.newarray .int, 2) := by decide +kernel
theorem dX2_init_10 : decode cX2_init 10 = .ok (.putfield 9, 3) := by decide +kernel
theorem dX2_init_13 : decode cX2_init 13 = .ok (.aload_n 0, 1) := by decide +kernel
theorem dX2_init_14 : decode cX2_init 14 = .ok (.iconst 0, 1) := by decide +kernel
theorem dX2_init_15 : decode cX2_init 15 = .ok (.putfield 15, 3) := by decide +kernel
theorem dX2_init_18 : decode cX2_init 18 = .ok (.return_, 1) := by decide +kernel
theorem dX2_clear_0 : decode cX2_clear 0 = .ok (.aload_n 0, 1) := by decide +kernel
theorem dX2_clear_1 : decode cX2_clear 1 = .ok (.iconst 0, 1) := by decide +kernel
theorem dX2_clear_2 : decode cX2_clear 2 = .ok (.putfield 15, 3) := by decide +kernel
theorem dX2_clear_5 : decode cX2_clear 5 = .ok (.return_, 1) := by decide +kernel
set_option maxRecDepth 20000 in
theorem ggX2_addAll_J13_bitCount_95d88 : GoodIn wsX2_addAll wsJ13_bitCount_95d88 := goodIn_r _ [6, 7, 8, 9] (by decide +kernel) (by decide +kernel)
set_option maxRecDepth 20000 in
theorem gX2_addAll_J13_bitCount_95d88 : GoodIn wsX2_addAll (va_wsS RX2 19 yJ13_bitCount_95d88 wsJ13_bitCount_95d88) := goodIn_app (goodIn_of _ (by decide +kernel)) ggX2_addAll_J13_bitCount_95d88
set_option maxRecDepth 20000 in
theorem ggX2_addAll_X3_lowestPlace : GoodIn wsX2_addAll wsX3_lowestPlace := goodIn_r _ [12, 13, 4, 5, 6, 7, 8, 9] (by decide +kernel) (by decide +kernel)
set_option maxRecDepth 20000 in
theorem gX2_addAll_X3_lowestPlace_n25 : GoodIn wsX2_addAll (wsX3_lowestPlace) := ggX2_addAll_X3_lowestPlace
theorem dX2_addAll_0 : decode cX2_addAll 0 = .ok (.lload_n 2, 1) := by decide +kernel
theorem dX2_addAll_1 : decode cX2_addAll 1 = .ok (.lstore 4, 2) := by decide +kernel
theorem dX2_addAll_3 : decode cX2_addAll 3 = .ok (.lload_n 2, 1) := by decide +kernel
theorem dX2_addAll_4 : decode cX2_addAll 4 = .ok (.invokestatic 19, 3) := by decide +kernel
theorem dX2_addAll_7 : decode cX2_addAll 7 = .ok (.istore 6, 2) := by decide +kernel
theorem dX2_addAll_9 : decode cX2_addAll 9 = .ok (.iconst 0, 1) := by decide +kernel
theorem dX2_addAll_10 : decode cX2_addAll 10 = .ok (.istore 7, 2) := by decide +kernel
theorem dX2_addAll_12 : decode cX2_addAll 12 = .ok (.iload 7, 2) := by decide +kernel
theorem dX2_addAll_14 : decode cX2_addAll 14 = .ok (.iload 6, 2) := by decide +kernel
theorem dX2_addAll_16 : decode cX2_addAll 16 = .ok (.if_icmp .ge 57, 3) := by decide +kernel
theorem dX2_addAll_19 : decode cX2_addAll 19 = .ok (.aload_n 0, 1) := by decide +kernel
theorem dX2_addAll_20 : decode cX2_addAll 20 = .ok (.getfield 15, 3) := by decide +kernel
theorem dX2_addAll_23 : decode cX2_addAll 23 = .ok (.sipush 3432, 3) := by decide +kernel
theorem dX2_addAll_26 : decode cX2_addAll 26 = .ok (.if_icmp .ge 47, 3) := by decide +kernel
theorem dX2_addAll_29 : decode cX2_addAll 29 = .ok (.aload_n 0, 1) := by decide +kernel
theorem dX2_addAll_30 : decode cX2_addAll 30 = .ok (.getfield 9, 3) := by decide +kernel
theorem dX2_addAll_33 : decode cX2_addAll 33 = .ok (.aload_n 0, 1) := by decide +kernel
theorem dX2_addAll_34 : decode cX2_addAll 34 = .ok (.getfield 15, 3) := by decide +kernel
theorem dX2_addAll_37 : decode cX2_addAll 37 = .ok (.iload_n 1, 1) := by decide +kernel
theorem dX2_addAll_38 : decode cX2_addAll 38 = .ok (.bipush 6, 2) := by decide +kernel
theorem dX2_addAll_40 : decode cX2_addAll 40 = .ok (.ishl, 1) := by decide +kernel
theorem dX2_addAll_41 : decode cX2_addAll 41 = .ok (.lload 4, 2) := by decide +kernel
theorem dX2_addAll_43 : decode cX2_addAll 43 = .ok (.invokestatic 25, 3) := by decide +kernel
theorem dX2_addAll_46 : decode cX2_addAll 46 = .ok (.iadd, 1) := by decide +kernel
theorem dX2_addAll_47 : decode cX2_addAll 47 = .ok (.iastore, 1) := by decide +kernel
theorem dX2_addAll_48 : decode cX2_addAll 48 = .ok (.aload_n 0, 1) := by decide +kernel
theorem dX2_addAll_49 : decode cX2_addAll 49 = .ok (.dup, 1) := by decide +kernel
theorem dX2_addAll_50 : decode cX2_addAll 50 = .ok (.getfield 15, 3) := by decide +kernel
theorem dX2_addAll_53 : decode cX2_addAll 53 = .ok (.iconst 1, 1) := by decide +kernel
theorem dX2_addAll_54 : decode cX2_addAll 54 = .ok (.iadd, 1) := by decide +kernel
theorem dX2_addAll_55 : decode cX2_addAll 55 = .ok (.putfield 15, 3) := by decide +kernel
theorem dX2_addAll_58 : decode cX2_addAll 58 = .ok (.lload 4, 2) := by decide +kernel
theorem dX2_addAll_60 : decode cX2_addAll 60 = .ok (.lload 4, 2) := by decide +kernel
theorem dX2_addAll_62 : decode cX2_addAll 62 = .ok (.lconst 1, 1) := by decide +kernel
theorem dX2_addAll_63 : decode cX2_addAll 63 = .ok (.lsub, 1) := by decide +kernel
theorem dX2_addAll_64 : decode cX2_addAll 64 = .ok (.land, 1) := by decide +kernel
theorem dX2_addAll_65 : decode cX2_addAll 65 = .ok (.lstore 4, 2) := by decide +kernel
theorem dX2_addAll_67 : decode cX2_addAll 67 = .ok (.iinc 7 1, 3) := by decide +kernel
theorem dX2_addAll_70 : decode cX2_addAll 70 = .ok (.goto (-58), 3) := by decide +kernel
theorem dX2_addAll_73 : decode cX2_addAll 73 = .ok (.return_, 1) := by decide +kernel
theorem dX2_at_0 : decode cX2_at 0 = .ok (.iload_n 1, 1) := by decide +kernel
theorem dX2_at_1 : decode cX2_at 1 = .ok (.ifCond .lt 20, 3) := by decide +kernel
theorem dX2_at_4 : decode cX2_at 4 = .ok (.iload_n 1, 1) := by decide +kernel
theorem dX2_at_5 : decode cX2_at 5 = .ok (.aload_n 0, 1) := by decide +kernel
theorem dX2_at_6 : decode cX2_at 6 = .ok (.getfield 15, 3) := by decide +kernel
theorem dX2_at_9 : decode cX2_at 9 = .ok (.if_icmp .ge 12, 3) := by decide +kernel
theorem dX2_at_12 : decode cX2_at 12 = .ok (.aload_n 0, 1) := by decide +kernel
theorem dX2_at_13 : decode cX2_at 13 = .ok (.getfield 9, 3) := by decide +kernel
theorem dX2_at_16 : decode cX2_at 16 = .ok (.iload_n 1, 1) := by decide +kernel
theorem dX2_at_17 : decode cX2_at 17 = .ok (.iaload, 1) := by decide +kernel
theorem dX2_at_18 : decode cX2_at 18 = .ok (.goto 5, 3) := by decide +kernel
theorem dX2_at_21 : decode cX2_at 21 = .ok (.bipush (-2), 2) := by decide +kernel
theorem dX2_at_23 : decode cX2_at 23 = .ok (.ireturn, 1) := by decide +kernel
theorem dX2_howManyWith_0 : decode cX2_howManyWith 0 = .ok (.iconst 0, 1) := by decide +kernel
theorem dX2_howManyWith_1 : decode cX2_howManyWith 1 = .ok (.istore_n 2, 1) := by decide +kernel
theorem dX2_howManyWith_2 : decode cX2_howManyWith 2 = .ok (.iconst 0, 1) := by decide +kernel
theorem dX2_howManyWith_3 : decode cX2_howManyWith 3 = .ok (.istore_n 3, 1) := by decide +kernel
theorem dX2_howManyWith_4 : decode cX2_howManyWith 4 = .ok (.iload_n 3, 1) := by decide +kernel
theorem dX2_howManyWith_5 : decode cX2_howManyWith 5 = .ok (.aload_n 0, 1) := by decide +kernel
theorem dX2_howManyWith_6 : decode cX2_howManyWith 6 = .ok (.getfield 15, 3) := by decide +kernel
theorem dX2_howManyWith_9 : decode cX2_howManyWith 9 = .ok (.if_icmp .ge 22, 3) := by decide +kernel
theorem dX2_howManyWith_12 : decode cX2_howManyWith 12 = .ok (.iload_n 2, 1) := by decide +kernel
theorem dX2_howManyWith_13 : decode cX2_howManyWith 13 = .ok (.aload_n 0, 1) := by decide +kernel
theorem dX2_howManyWith_14 : decode cX2_howManyWith 14 = .ok (.getfield 9, 3) := by decide +kernel
theorem dX2_howManyWith_17 : decode cX2_howManyWith 17 = .ok (.iload_n 3, 1) := by decide +kernel
theorem dX2_howManyWith_18 : decode cX2_howManyWith 18 = .ok (.iaload, 1) := by decide +kernel
theorem dX2_howManyWith_19 : decode cX2_howManyWith 19 = .ok (.iload_n 1, 1) := by decide +kernel
theorem dX2_howManyWith_20 : decode cX2_howManyWith 20 = .ok (.ishr, 1) := by decide +kernel
theorem dX2_howManyWith_21 : decode cX2_howManyWith 21 = .ok (.iconst 1, 1) := by decide +kernel
theorem dX2_howManyWith_22 : decode cX2_howManyWith 22 = .ok (.iand, 1) := by decide +kernel
theorem dX2_howManyWith_23 : decode cX2_howManyWith 23 = .ok (.iadd, 1) := by decide +kernel
theorem dX2_howManyWith_24 : decode cX2_howManyWith 24 = .ok (.istore_n 2, 1) := by decide +kernel
theorem dX2_howManyWith_25 : decode cX2_howManyWith 25 = .ok (.iinc 3 1, 3) := by decide +kernel
theorem dX2_howManyWith_28 : decode cX2_howManyWith 28 = .ok (.goto (-24), 3) := by decide +kernel
theorem dX2_howManyWith_31 : decode cX2_howManyWith 31 = .ok (.iload_n 2, 1) := by decide +kernel
theorem dX2_howManyWith_32 : decode cX2_howManyWith 32 = .ok (.ireturn, 1) := by decide +kernel
theorem dX2_firstInside_0 : decode cX2_firstInside 0 = .ok (.iconst 0, 1) := by decide +kernel
theorem dX2_firstInside_1 : decode cX2_firstInside 1 = .ok (.istore_n 2, 1) := by decide +kernel
theorem dX2_firstInside_2 : decode cX2_firstInside 2 = .ok (.iload_n 2, 1) := by decide +kernel
theorem dX2_firstInside_3 : decode cX2_firstInside 3 = .ok (.aload_n 0, 1) := by decide +kernel
theorem dX2_firstInside_4 : decode cX2_firstInside 4 = .ok (.getfield 15, 3) := by decide +kernel
theorem dX2_firstInside_7 : decode cX2_firstInside 7 = .ok (.if_icmp .ge 29, 3) := by decide +kernel
theorem dX2_firstInside_10 : decode cX2_firstInside 10 = .ok (.aload_n 0, 1) := by decide +kernel
theorem dX2_firstInside_11 : decode cX2_firstInside 11 = .ok (.getfield 9, 3) := by decide +kernel
theorem dX2_firstInside_14 : decode cX2_firstInside 14 = .ok (.iload_n 2, 1) := by decide +kernel
theorem dX2_firstInside_15 : decode cX2_firstInside 15 = .ok (.iaload, 1) := by decide +kernel
theorem dX2_firstInside_16 : decode cX2_firstInside 16 = .ok (.iload_n 1, 1) := by decide +kernel
theorem dX2_firstInside_17 : decode cX2_firstInside 17 = .ok (.iconst (-1), 1) := by decide +kernel
theorem dX2_firstInside_18 : decode cX2_firstInside 18 = .ok (.ixor, 1) := by decide +kernel
theorem dX2_firstInside_19 : decode cX2_firstInside 19 = .ok (.iand, 1) := by decide +kernel
theorem dX2_firstInside_20 : decode cX2_firstInside 20 = .ok (.ifCond .ne 10, 3) := by decide +kernel
theorem dX2_firstInside_23 : decode cX2_firstInside 23 = .ok (.aload_n 0, 1) := by decide +kernel
theorem dX2_firstInside_24 : decode cX2_firstInside 24 = .ok (.getfield 9, 3) := by decide +kernel
theorem dX2_firstInside_27 : decode cX2_firstInside 27 = .ok (.iload_n 2, 1) := by decide +kernel
theorem dX2_firstInside_28 : decode cX2_firstInside 28 = .ok (.iaload, 1) := by decide +kernel
theorem dX2_firstInside_29 : decode cX2_firstInside 29 = .ok (.ireturn, 1) := by decide +kernel
theorem dX2_firstInside_30 : decode cX2_firstInside 30 = .ok (.iinc 2 1, 3) := by decide +kernel
theorem dX2_firstInside_33 : decode cX2_firstInside 33 = .ok (.goto (-31), 3) := by decide +kernel
theorem dX2_firstInside_36 : decode cX2_firstInside 36 = .ok (.bipush (-2), 2) := by decide +kernel
theorem dX2_firstInside_38 : decode cX2_firstInside 38 = .ok (.ireturn, 1) := by decide +kernel
theorem dX2_sharedByAll_0 : decode cX2_sharedByAll 0 = .ok (.aload_n 0, 1) := by decide +kernel
theorem dX2_sharedByAll_1 : decode cX2_sharedByAll 1 = .ok (.getfield 15, 3) := by decide +kernel
theorem dX2_sharedByAll_4 : decode cX2_sharedByAll 4 = .ok (.ifCond .ne 6, 3) := by decide +kernel
theorem dX2_sharedByAll_7 : decode cX2_sharedByAll 7 = .ok (.bipush (-2), 2) := by decide +kernel
theorem dX2_sharedByAll_9 : decode cX2_sharedByAll 9 = .ok (.ireturn, 1) := by decide +kernel
theorem dX2_sharedByAll_10 : decode cX2_sharedByAll 10 = .ok (.iconst (-1), 1) := by decide +kernel
theorem dX2_sharedByAll_11 : decode cX2_sharedByAll 11 = .ok (.istore_n 1, 1) := by decide +kernel
theorem dX2_sharedByAll_12 : decode cX2_sharedByAll 12 = .ok (.iconst 0, 1) := by decide +kernel
theorem dX2_sharedByAll_13 : decode cX2_sharedByAll 13 = .ok (.istore_n 2, 1) := by decide +kernel
theorem dX2_sharedByAll_14 : decode cX2_sharedByAll 14 = .ok (.iload_n 2, 1) := by decide +kernel
theorem dX2_sharedByAll_15 : decode cX2_sharedByAll 15 = .ok (.aload_n 0, 1) := by decide +kernel
theorem dX2_sharedByAll_16 : decode cX2_sharedByAll 16 = .ok (.getfield 15, 3) := by decide +kernel
theorem dX2_sharedByAll_19 : decode cX2_sharedByAll 19 = .ok (.if_icmp .ge 18, 3) := by decide +kernel
theorem dX2_sharedByAll_22 : decode cX2_sharedByAll 22 = .ok (.iload_n 1, 1) := by decide +kernel
theorem dX2_sharedByAll_23 : decode cX2_sharedByAll 23 = .ok (.aload_n 0, 1) := by decide +kernel
theorem dX2_sharedByAll_24 : decode cX2_sharedByAll 24 = .ok (.getfield 9, 3) := by decide +kernel
theorem dX2_sharedByAll_27 : decode cX2_sharedByAll 27 = .ok (.iload_n 2, 1) := by decide +kernel
theorem dX2_sharedByAll_28 : decode cX2_sharedByAll 28 = .ok (.iaload, 1) := by decide +kernel
theorem dX2_sharedByAll_29 : decode cX2_sharedByAll 29 = .ok (.iand, 1) := by decide +kernel
theorem dX2_sharedByAll_30 : decode cX2_sharedByAll 30 = .ok (.istore_n 1, 1) := by decide +kernel
theorem dX2_sharedByAll_31 : decode cX2_sharedByAll 31 = .ok (.iinc 2 1, 3) := by decide +kernel
theorem dX2_sharedByAll_34 : decode cX2_sharedByAll 34 = .ok (.goto (-20), 3) := by decide +kernel
theorem dX2_sharedByAll_37 : decode cX2_sharedByAll 37 = .ok (.iload_n 1, 1) := by decide +kernel
theorem dX2_sharedByAll_38 : decode cX2_sharedByAll 38 = .ok (.ireturn, 1) := by decide +kernel
set_option maxRecDepth 20000 in
theorem ggX3_init_X0_init : GoodIn wsX3_init wsX0_init := goodIn_r _ [21, 22, 2, 3, 23, 24, 25, 26, 27, 28, 29, 30, 31, 32, 43, 44, 45, 46, 47, 48, 49] (by decide +kernel) (by decide +kernel)
set_option maxRecDepth 20000 in
theorem gX3_init_X0_init_n11 : GoodIn wsX3_init (wsX0_init) := ggX3_init_X0_init
set_option maxRecDepth 20000 in
theorem ggX3_init_X1_init : GoodIn wsX3_init wsX1_init := goodIn_r _ [34, 35, 2, 3, 30, 36, 37, 57, 58] (by decide +kernel) (by decide +kernel)
set_option maxRecDepth 20000 in
theorem gX3_init_X1_init_n18 : GoodIn wsX3_init (wsX1_init) := ggX3_init_X1_init
set_option maxRecDepth 20000 in
theorem ggX3_init_X2_init : GoodIn wsX3_init wsX2_init := goodIn_r _ [39, 40, 2, 3, 23, 41, 42, 59, 60] (by decide +kernel) (by decide +kernel)
set_option maxRecDepth 20000 in
theorem gX3_init_X2_init_n25 : GoodIn wsX3_init (wsX2_init) := ggX3_init_X2_init
theorem dX3_init_0 : decode cX3_init 0 = .ok (.aload_n 0, 1) := by decide +kernel
theorem dX3_init_1 : decode cX3_init 1 = .ok (.invokespecial 3, 3) := by decide +kernel
theorem dX3_init_4 : decode cX3_init 4 = .ok (.aload_n 0, 1) := by decide +kernel
theorem dX3_init_5 : decode cX3_init 5 = .ok (.new 9, 3) := by decide +kernel
theorem dX3_init_8 : decode cX3_init 8 = .ok (.dup, 1) := by decide +kernel
theorem dX3_init_9 : decode cX3_init 9 = .ok (.invokespecial 11, 3) := by decide +kernel
theorem dX3_init_12 : decode cX3_init 12 = .ok (.putfield 12, 3) := by decide +kernel
theorem dX3_init_15 : decode cX3_init 15 = .ok (.aload_n 0, 1) := by decide +kernel
theorem dX3_init_16 : decode cX3_init 16 = .ok (.new 16, 3) := by decide +kernel
theorem dX3_init_19 : decode cX3_init 19 = .ok (.dup, 1) := by decide +kernel
theorem dX3_init_20 : decode cX3_init 20 = .ok (.invokespecial 18, 3) := by decide +kernel
theorem dX3_init_23 : decode cX3_init 23 = .ok (.putfield 19, 3) := by decide +kernel
theorem dX3_init_26 : decode cX3_init 26 = .ok (.aload_n 0, 1) := by decide +kernel
theorem dX3_init_27 : decode cX3_init 27 = .ok (.new 23, 3) := by decide +kernel
theorem dX3_init_30 : decode cX3_init 30 = .ok (.dup, 1) := by decide +kernel
theorem dX3_init_31 : decode cX3_init 31 = .ok (.invokespecial 25, 3) := by decide +kernel
theorem dX3_init_34 : decode cX3_init 34 = .ok (.putfield 26, 3) := by decide +kernel
theorem dX3_init_37 : decode cX3_init 37 = .ok (.aload_n 0, 1) := by decide +kernel
theorem dX3_init_38 : decode cX3_init 38 = .ok (.new 23, 3) := by decide +kernel
theorem dX3_init_41 : decode cX3_init 41 = .ok (.dup, 1) := by decide +kernel
theorem dX3_init_42 : decode cX3_init 42 = .ok (.invokespecial 25, 3) := by decide +kernel
theorem dX3_init_45 : decode cX3_init 45 = .ok (.putfield 30, 3) := by decide +kernel
theorem dX3_init_48 : decode cX3_init 48 = .ok (.aload_n 0, 1) := by decide +kernel
theorem dX3_init_49 : decode cX3_init 49 = .ok (.iconst 0, 1) := by decide +kernel
theorem dX3_init_50 : decode cX3_init 50 = .ok (.putfield 33, 3) := by decide +kernel
theorem dX3_init_53 : decode cX3_init 53 = .ok (.aload_n 0, 1) := by decide +kernel
theorem dX3_init_54 : decode cX3_init 54 = .ok (.iconst 0, 1) := by decide +kernel
theorem dX3_init_55 : decode cX3_init 55 = .ok (.putfield 37, 3) := by decide +kernel
theorem dX3_init_58 : decode cX3_init 58 = .ok (.aload_n 0, 1) := by decide +kernel
theorem dX3_init_59 : decode cX3_init 59 = .ok (.iconst 0, 1) := by decide +kernel
theorem dX3_init_60 : decode cX3_init 60 = .ok (.putfield 41, 3) := by decide +kernel
theorem dX3_init_63 : decode cX3_init 63 = .ok (.return_, 1) := by decide +kernel
set_option maxRecDepth 20000 in
theorem ggX3_axiom_X3_isFact : GoodIn wsX3_axiom wsX3_isFact := goodIn_r _ [5] (by decide +kernel) (by decide +kernel)
set_option maxRecDepth 20000 in
theorem gX3_axiom_X3_isFact : GoodIn wsX3_axiom (va_wsS RX3 44 yX3_isFact wsX3_isFact) := goodIn_app (goodIn_of _ (by decide +kernel)) ggX3_axiom_X3_isFact
set_option maxRecDepth 20000 in
theorem ggX3_axiom_X0_append : GoodIn wsX3_axiom wsX0_append := goodIn_r _ [10, 11, 12, 13, 14, 15, 29, 30, 31, 32, 33, 34, 35] (by decide +kernel) (by decide +kernel)
set_option maxRecDepth 20000 in
theorem gX3_axiom_X0_append : GoodIn wsX3_axiom (wsV RX3 51 RX0 yX0_append wsX0_append) := goodIn_app (goodIn_of _ (by decide +kernel)) ggX3_axiom_X0_append
set_option maxRecDepth 20000 in
theorem ggX3_axiom_X3_forgetLists : GoodIn wsX3_axiom wsX3_forgetLists := goodIn_r _ [19, 20, 21, 22, 23, 24, 25, 26, 27, 28] (by decide +kernel) (by decide +kernel)
set_option maxRecDepth 20000 in
theorem gX3_axiom_X3_forgetLists : GoodIn wsX3_axiom (wsV RX3 55 RX3 yX3_forgetLists wsX3_forgetLists) := goodIn_app (goodIn_of _ (by decide +kernel)) ggX3_axiom_X3_forgetLists
theorem dX3_axiom_0 : decode cX3_axiom 0 = .ok (.iload_n 1, 1) := by decide +kernel
theorem dX3_axiom_1 : decode cX3_axiom 1 = .ok (.bipush 24, 2) := by decide +kernel
theorem dX3_axiom_3 : decode cX3_axiom 3 = .ok (.iushr, 1) := by decide +kernel
theorem dX3_axiom_4 : decode cX3_axiom 4 = .ok (.ifCond .ne 10, 3) := by decide +kernel
theorem dX3_axiom_7 : decode cX3_axiom 7 = .ok (.iload_n 2, 1) := by decide +kernel
theorem dX3_axiom_8 : decode cX3_axiom 8 = .ok (.invokestatic 44, 3) := by decide +kernel
theorem dX3_axiom_11 : decode cX3_axiom 11 = .ok (.ifCond .ne 5, 3) := by decide +kernel
theorem dX3_axiom_14 : decode cX3_axiom 14 = .ok (.iconst (-1), 1) := by decide +kernel
theorem dX3_axiom_15 : decode cX3_axiom 15 = .ok (.ireturn, 1) := by decide +kernel
theorem dX3_axiom_16 : decode cX3_axiom 16 = .ok (.aload_n 0, 1) := by decide +kernel
theorem dX3_axiom_17 : decode cX3_axiom 17 = .ok (.getfield 12, 3) := by decide +kernel
theorem dX3_axiom_20 : decode cX3_axiom 20 = .ok (.getfield 48, 3) := by decide +kernel
theorem dX3_axiom_23 : decode cX3_axiom 23 = .ok (.bipush 14, 2) := by decide +kernel
theorem dX3_axiom_25 : decode cX3_axiom 25 = .ok (.if_icmp .lt 6, 3) := by decide +kernel
theorem dX3_axiom_28 : decode cX3_axiom 28 = .ok (.bipush (-3), 2) := by decide +kernel
theorem dX3_axiom_30 : decode cX3_axiom 30 = .ok (.ireturn, 1) := by decide +kernel
theorem dX3_axiom_31 : decode cX3_axiom 31 = .ok (.aload_n 0, 1) := by decide +kernel
theorem dX3_axiom_32 : decode cX3_axiom 32 = .ok (.getfield 12, 3) := by decide +kernel
theorem dX3_axiom_35 : decode cX3_axiom 35 = .ok (.iload_n 1, 1) := by decide +kernel
theorem dX3_axiom_36 : decode cX3_axiom 36 = .ok (.iload_n 2, 1) := by decide +kernel
theorem dX3_axiom_37 : decode cX3_axiom 37 = .ok (.invokevirtual 51, 3) := by decide +kernel
theorem dX3_axiom_40 : decode cX3_axiom 40 = .ok (.aload_n 0, 1) := by decide +kernel
theorem dX3_axiom_41 : decode cX3_axiom 41 = .ok (.invokevirtual 55, 3) := by decide +kernel
theorem dX3_axiom_44 : decode cX3_axiom 44 = .ok (.aload_n 0, 1) := by decide +kernel
theorem dX3_axiom_45 : decode cX3_axiom 45 = .ok (.getfield 12, 3) := by decide +kernel
theorem dX3_axiom_48 : decode cX3_axiom 48 = .ok (.getfield 48, 3) := by decide +kernel
theorem dX3_axiom_51 : decode cX3_axiom 51 = .ok (.iconst 1, 1) := by decide +kernel
theorem dX3_axiom_52 : decode cX3_axiom 52 = .ok (.isub, 1) := by decide +kernel
theorem dX3_axiom_53 : decode cX3_axiom 53 = .ok (.ireturn, 1) := by decide +kernel
set_option maxRecDepth 20000 in
theorem ggX3_drop_X0_has : GoodIn wsX3_drop wsX0_has := goodIn_r _ [6, 7, 31, 32, 33, 34, 35, 36, 37] (by decide +kernel) (by decide +kernel)
set_option maxRecDepth 20000 in
theorem gX3_drop_X0_has : GoodIn wsX3_drop (wsV RX3 58 RX0 yX0_has wsX0_has) := goodIn_app (goodIn_of _ (by decide +kernel)) ggX3_drop_X0_has
set_option maxRecDepth 20000 in
theorem ggX3_drop_X0_remove : GoodIn wsX3_drop wsX0_remove := goodIn_r _ [11, 7, 12, 13, 14, 15, 16, 3, 4, 5, 6, 31, 32, 33, 34, 35, 36, 37] (by decide +kernel) (by decide +kernel)
set_option maxRecDepth 20000 in
theorem gX3_drop_X0_remove : GoodIn wsX3_drop (wsV RX3 61 RX0 yX0_remove wsX0_remove) := goodIn_app (goodIn_of _ (by decide +kernel)) ggX3_drop_X0_remove
set_option maxRecDepth 20000 in
theorem ggX3_drop_X3_forgetLists : GoodIn wsX3_drop wsX3_forgetLists := goodIn_r _ [21, 22, 23, 24, 25, 26, 27, 28, 29, 30] (by decide +kernel) (by decide +kernel)
set_option maxRecDepth 20000 in
theorem gX3_drop_X3_forgetLists : GoodIn wsX3_drop (wsV RX3 55 RX3 yX3_forgetLists wsX3_forgetLists) := goodIn_app (goodIn_of _ (by decide +kernel)) ggX3_drop_X3_forgetLists
theorem dX3_drop_0 : decode cX3_drop 0 = .ok (.aload_n 0, 1) := by decide +kernel
theorem dX3_drop_1 : decode cX3_drop 1 = .ok (.getfield 12, 3) := by decide +kernel
theorem dX3_drop_4 : decode cX3_drop 4 = .ok (.iload_n 1, 1) := by decide +kernel
theorem dX3_drop_5 : decode cX3_drop 5 = .ok (.invokevirtual 58, 3) := by decide +kernel
theorem dX3_drop_8 : decode cX3_drop 8 = .ok (.ifCond .ne 5, 3) := by decide +kernel
theorem dX3_drop_11 : decode cX3_drop 11 = .ok (.iconst (-1), 1) := by decide +kernel
theorem dX3_drop_12 : decode cX3_drop 12 = .ok (.ireturn, 1) := by decide +kernel
theorem dX3_drop_13 : decode cX3_drop 13 = .ok (.aload_n 0, 1) := by decide +kernel
theorem dX3_drop_14 : decode cX3_drop 14 = .ok (.getfield 12, 3) := by decide +kernel
theorem dX3_drop_17 : decode cX3_drop 17 = .ok (.iload_n 1, 1) := by decide +kernel
theorem dX3_drop_18 : decode cX3_drop 18 = .ok (.invokevirtual 61, 3) := by decide +kernel
theorem dX3_drop_21 : decode cX3_drop 21 = .ok (.aload_n 0, 1) := by decide +kernel
theorem dX3_drop_22 : decode cX3_drop 22 = .ok (.invokevirtual 55, 3) := by decide +kernel
theorem dX3_drop_25 : decode cX3_drop 25 = .ok (.aload_n 0, 1) := by decide +kernel
theorem dX3_drop_26 : decode cX3_drop 26 = .ok (.getfield 12, 3) := by decide +kernel
theorem dX3_drop_29 : decode cX3_drop 29 = .ok (.getfield 48, 3) := by decide +kernel
theorem dX3_drop_32 : decode cX3_drop 32 = .ok (.ireturn, 1) := by decide +kernel
set_option maxRecDepth 20000 in
theorem ggX3_fix_X0_has : GoodIn wsX3_fix wsX0_has := goodIn_r _ [7, 8, 16, 17, 18, 19, 20, 21, 22] (by decide +kernel) (by decide +kernel)
set_option maxRecDepth 20000 in
theorem gX3_fix_X0_has : GoodIn wsX3_fix (wsV RX3 58 RX0 yX0_has wsX0_has) := goodIn_app (goodIn_of _ (by decide +kernel)) ggX3_fix_X0_has
theorem dX3_fix_0 : decode cX3_fix 0 = .ok (.aload_n 0, 1) := by decide +kernel
theorem dX3_fix_1 : decode cX3_fix 1 = .ok (.getfield 12, 3) := by decide +kernel
theorem dX3_fix_4 : decode cX3_fix 4 = .ok (.iload_n 1, 1) := by decide +kernel
theorem dX3_fix_5 : decode cX3_fix 5 = .ok (.invokevirtual 58, 3) := by decide +kernel
theorem dX3_fix_8 : decode cX3_fix 8 = .ok (.ifCond .ne 5, 3) := by decide +kernel
theorem dX3_fix_11 : decode cX3_fix 11 = .ok (.iconst (-1), 1) := by decide +kernel
theorem dX3_fix_12 : decode cX3_fix 12 = .ok (.ireturn, 1) := by decide +kernel
theorem dX3_fix_13 : decode cX3_fix 13 = .ok (.aload_n 0, 1) := by decide +kernel
theorem dX3_fix_14 : decode cX3_fix 14 = .ok (.getfield 12, 3) := by decide +kernel
theorem dX3_fix_17 : decode cX3_fix 17 = .ok (.getfield 65, 3) := by decide +kernel
theorem dX3_fix_20 : decode cX3_fix 20 = .ok (.iload_n 1, 1) := by decide +kernel
theorem dX3_fix_21 : decode cX3_fix 21 = .ok (.baload, 1) := by decide +kernel
theorem dX3_fix_22 : decode cX3_fix 22 = .ok (.istore_n 3, 1) := by decide +kernel
theorem dX3_fix_23 : decode cX3_fix 23 = .ok (.aload_n 0, 1) := by decide +kernel
theorem dX3_fix_24 : decode cX3_fix 24 = .ok (.getfield 12, 3) := by decide +kernel
theorem dX3_fix_27 : decode cX3_fix 27 = .ok (.getfield 65, 3) := by decide +kernel
theorem dX3_fix_30 : decode cX3_fix 30 = .ok (.iload_n 1, 1) := by decide +kernel
theorem dX3_fix_31 : decode cX3_fix 31 = .ok (.iload_n 2, 1) := by decide +kernel
theorem dX3_fix_32 : decode cX3_fix 32 = .ok (.bastore, 1) := by decide +kernel
theorem dX3_fix_33 : decode cX3_fix 33 = .ok (.aload_n 0, 1) := by decide +kernel
theorem dX3_fix_34 : decode cX3_fix 34 = .ok (.iconst 0, 1) := by decide +kernel
theorem dX3_fix_35 : decode cX3_fix 35 = .ok (.putfield 41, 3) := by decide +kernel
theorem dX3_fix_38 : decode cX3_fix 38 = .ok (.iload_n 3, 1) := by decide +kernel
theorem dX3_fix_39 : decode cX3_fix 39 = .ok (.ifCond .eq 7, 3) := by decide +kernel
theorem dX3_fix_42 : decode cX3_fix 42 = .ok (.iconst 1, 1) := by decide +kernel
theorem dX3_fix_43 : decode cX3_fix 43 = .ok (.goto 4, 3) := by decide +kernel
theorem dX3_fix_46 : decode cX3_fix 46 = .ok (.iconst 0, 1) := by decide +kernel
theorem dX3_fix_47 : decode cX3_fix 47 = .ok (.ireturn, 1) := by decide +kernel
set_option maxRecDepth 20000 in
theorem ggX3_weight_X0_has : GoodIn wsX3_weight wsX0_has := goodIn_r _ [6, 7, 15, 16, 17, 18, 19, 20, 21] (by decide +kernel) (by decide +kernel)
set_option maxRecDepth 20000 in
theorem gX3_weight_X0_has : GoodIn wsX3_weight (wsV RX3 58 RX0 yX0_has wsX0_has) := goodIn_app (goodIn_of _ (by decide +kernel)) ggX3_weight_X0_has
theorem dX3_weight_0 : decode cX3_weight 0 = .ok (.aload_n 0, 1) := by decide +kernel
theorem dX3_weight_1 : decode cX3_weight 1 = .ok (.getfield 12, 3) := by decide +kernel
theorem dX3_weight_4 : decode cX3_weight 4 = .ok (.iload_n 1, 1) := by decide +kernel
theorem dX3_weight_5 : decode cX3_weight 5 = .ok (.invokevirtual 58, 3) := by decide +kernel
theorem dX3_weight_8 : decode cX3_weight 8 = .ok (.ifCond .eq 14, 3) := by decide +kernel
theorem dX3_weight_11 : decode cX3_weight 11 = .ok (.iload_n 2, 1) := by decide +kernel
theorem dX3_weight_12 : decode cX3_weight 12 = .ok (.ifCond .lt 10, 3) := by decide +kernel
theorem dX3_weight_15 : decode cX3_weight 15 = .ok (.iload_n 2, 1) := by decide +kernel
theorem dX3_weight_16 : decode cX3_weight 16 = .ok (.sipush 1000, 3) := by decide +kernel
theorem dX3_weight_19 : decode cX3_weight 19 = .ok (.if_icmp .le 5, 3) := by decide +kernel
theorem dX3_weight_22 : decode cX3_weight 22 = .ok (.iconst (-1), 1) := by decide +kernel
theorem dX3_weight_23 : decode cX3_weight 23 = .ok (.ireturn, 1) := by decide +kernel
theorem dX3_weight_24 : decode cX3_weight 24 = .ok (.aload_n 0, 1) := by decide +kernel
theorem dX3_weight_25 : decode cX3_weight 25 = .ok (.getfield 12, 3) := by decide +kernel
theorem dX3_weight_28 : decode cX3_weight 28 = .ok (.getfield 69, 3) := by decide +kernel
theorem dX3_weight_31 : decode cX3_weight 31 = .ok (.iload_n 1, 1) := by decide +kernel
theorem dX3_weight_32 : decode cX3_weight 32 = .ok (.iaload, 1) := by decide +kernel
theorem dX3_weight_33 : decode cX3_weight 33 = .ok (.istore_n 3, 1) := by decide +kernel
theorem dX3_weight_34 : decode cX3_weight 34 = .ok (.aload_n 0, 1) := by decide +kernel
theorem dX3_weight_35 : decode cX3_weight 35 = .ok (.getfield 12, 3) := by decide +kernel
theorem dX3_weight_38 : decode cX3_weight 38 = .ok (.getfield 69, 3) := by decide +kernel
theorem dX3_weight_41 : decode cX3_weight 41 = .ok (.iload_n 1, 1) := by decide +kernel
theorem dX3_weight_42 : decode cX3_weight 42 = .ok (.iload_n 2, 1) := by decide +kernel
theorem dX3_weight_43 : decode cX3_weight 43 = .ok (.iastore, 1) := by decide +kernel
theorem dX3_weight_44 : decode cX3_weight 44 = .ok (.iload_n 3, 1) := by decide +kernel
theorem dX3_weight_45 : decode cX3_weight 45 = .ok (.ireturn, 1) := by decide +kernel
set_option maxRecDepth 20000 in
theorem ggX3_goal_X3_isFact : GoodIn wsX3_goal wsX3_isFact := goodIn_r _ [5] (by decide +kernel) (by decide +kernel)
set_option maxRecDepth 20000 in
theorem gX3_goal_X3_isFact : GoodIn wsX3_goal (va_wsS RX3 44 yX3_isFact wsX3_isFact) := goodIn_app (goodIn_of _ (by decide +kernel)) ggX3_goal_X3_isFact
set_option maxRecDepth 20000 in
theorem ggX3_goal_X3_forgetLists : GoodIn wsX3_goal wsX3_forgetLists := goodIn_r _ [9, 10, 11, 12, 13, 14, 15, 16, 17, 18] (by decide +kernel) (by decide +kernel)
set_option maxRecDepth 20000 in
theorem gX3_goal_X3_forgetLists : GoodIn wsX3_goal (wsV RX3 55 RX3 yX3_forgetLists wsX3_forgetLists) := goodIn_app (goodIn_of _ (by decide +kernel)) ggX3_goal_X3_forgetLists
theorem dX3_goal_0 : decode cX3_goal 0 = .ok (.iload_n 1, 1) := by decide +kernel
theorem dX3_goal_1 : decode cX3_goal 1 = .ok (.invokestatic 44, 3) := by decide +kernel
theorem dX3_goal_4 : decode cX3_goal 4 = .ok (.ifCond .ne 5, 3) := by decide +kernel
theorem dX3_goal_7 : decode cX3_goal 7 = .ok (.iconst (-1), 1) := by decide +kernel
theorem dX3_goal_8 : decode cX3_goal 8 = .ok (.ireturn, 1) := by decide +kernel
theorem dX3_goal_9 : decode cX3_goal 9 = .ok (.aload_n 0, 1) := by decide +kernel
theorem dX3_goal_10 : decode cX3_goal 10 = .ok (.getfield 33, 3) := by decide +kernel
theorem dX3_goal_13 : decode cX3_goal 13 = .ok (.istore_n 2, 1) := by decide +kernel
theorem dX3_goal_14 : decode cX3_goal 14 = .ok (.aload_n 0, 1) := by decide +kernel
theorem dX3_goal_15 : decode cX3_goal 15 = .ok (.iload_n 1, 1) := by decide +kernel
theorem dX3_goal_16 : decode cX3_goal 16 = .ok (.putfield 33, 3) := by decide +kernel
theorem dX3_goal_19 : decode cX3_goal 19 = .ok (.aload_n 0, 1) := by decide +kernel
theorem dX3_goal_20 : decode cX3_goal 20 = .ok (.invokevirtual 55, 3) := by decide +kernel
theorem dX3_goal_23 : decode cX3_goal 23 = .ok (.iload_n 2, 1) := by decide +kernel
theorem dX3_goal_24 : decode cX3_goal 24 = .ok (.ireturn, 1) := by decide +kernel
set_option maxRecDepth 20000 in
theorem ggX3_follow_X0_factsFrom : GoodIn wsX3_follow wsX0_factsFrom := goodIn_r _ [6, 7, 8, 9, 10, 5, 11, 12, 13, 21, 22, 23, 24, 25, 26, 27] (by decide +kernel) (by decide +kernel)
set_option maxRecDepth 20000 in
theorem gX3_follow_X0_factsFrom : GoodIn wsX3_follow (wsV RX3 73 RX0 yX0_factsFrom wsX0_factsFrom) := goodIn_app (goodIn_of _ (by decide +kernel)) ggX3_follow_X0_factsFrom
theorem dX3_follow_0 : decode cX3_follow 0 = .ok (.aload_n 0, 1) := by decide +kernel
theorem dX3_follow_1 : decode cX3_follow 1 = .ok (.getfield 12, 3) := by decide +kernel
theorem dX3_follow_4 : decode cX3_follow 4 = .ok (.iload_n 1, 1) := by decide +kernel
theorem dX3_follow_5 : decode cX3_follow 5 = .ok (.invokevirtual 73, 3) := by decide +kernel
theorem dX3_follow_8 : decode cX3_follow 8 = .ok (.ireturn, 1) := by decide +kernel
set_option maxRecDepth 20000 in
theorem ggX3_steps_X0_oneStepMore : GoodIn wsX3_steps wsX0_oneStepMore := goodIn_r _ [7, 8, 9, 10, 18, 19, 20, 21, 22, 23, 24] (by decide +kernel) (by decide +kernel)
set_option maxRecDepth 20000 in
theorem gX3_steps_X0_oneStepMore : GoodIn wsX3_steps (wsV RX3 77 RX0 yX0_oneStepMore wsX0_oneStepMore) := goodIn_app (goodIn_of _ (by decide +kernel)) ggX3_steps_X0_oneStepMore
theorem dX3_steps_0 : decode cX3_steps 0 = .ok (.iconst 0, 1) := by decide +kernel
theorem dX3_steps_1 : decode cX3_steps 1 = .ok (.istore_n 2, 1) := by decide +kernel
theorem dX3_steps_2 : decode cX3_steps 2 = .ok (.iconst 1, 1) := by decide +kernel
theorem dX3_steps_3 : decode cX3_steps 3 = .ok (.istore_n 3, 1) := by decide +kernel
theorem dX3_steps_4 : decode cX3_steps 4 = .ok (.iload_n 3, 1) := by decide +kernel
theorem dX3_steps_5 : decode cX3_steps 5 = .ok (.aload_n 0, 1) := by decide +kernel
theorem dX3_steps_6 : decode cX3_steps 6 = .ok (.getfield 12, 3) := by decide +kernel
theorem dX3_steps_9 : decode cX3_steps 9 = .ok (.getfield 48, 3) := by decide +kernel
theorem dX3_steps_12 : decode cX3_steps 12 = .ok (.if_icmp .gt 32, 3) := by decide +kernel
theorem dX3_steps_15 : decode cX3_steps 15 = .ok (.aload_n 0, 1) := by decide +kernel
theorem dX3_steps_16 : decode cX3_steps 16 = .ok (.getfield 12, 3) := by decide +kernel
theorem dX3_steps_19 : decode cX3_steps 19 = .ok (.iload_n 1, 1) := by decide +kernel
theorem dX3_steps_20 : decode cX3_steps 20 = .ok (.iload_n 2, 1) := by decide +kernel
theorem dX3_steps_21 : decode cX3_steps 21 = .ok (.invokevirtual 77, 3) := by decide +kernel
theorem dX3_steps_24 : decode cX3_steps 24 = .ok (.istore_n 2, 1) := by decide +kernel
theorem dX3_steps_25 : decode cX3_steps 25 = .ok (.iload_n 2, 1) := by decide +kernel
theorem dX3_steps_26 : decode cX3_steps 26 = .ok (.aload_n 0, 1) := by decide +kernel
theorem dX3_steps_27 : decode cX3_steps 27 = .ok (.getfield 33, 3) := by decide +kernel
theorem dX3_steps_30 : decode cX3_steps 30 = .ok (.ishr, 1) := by decide +kernel
theorem dX3_steps_31 : decode cX3_steps 31 = .ok (.iconst 1, 1) := by decide +kernel
theorem dX3_steps_32 : decode cX3_steps 32 = .ok (.iand, 1) := by decide +kernel
theorem dX3_steps_33 : decode cX3_steps 33 = .ok (.ifCond .eq 5, 3) := by decide +kernel
theorem dX3_steps_36 : decode cX3_steps 36 = .ok (.iload_n 3, 1) := by decide +kernel
theorem dX3_steps_37 : decode cX3_steps 37 = .ok (.ireturn, 1) := by decide +kernel
theorem dX3_steps_38 : decode cX3_steps 38 = .ok (.iinc 3 1, 3) := by decide +kernel
theorem dX3_steps_41 : decode cX3_steps 41 = .ok (.goto (-37), 3) := by decide +kernel
theorem dX3_steps_44 : decode cX3_steps 44 = .ok (.iconst 0, 1) := by decide +kernel
theorem dX3_steps_45 : decode cX3_steps 45 = .ok (.ireturn, 1) := by decide +kernel
set_option maxRecDepth 20000 in
theorem ggX3_causes_X3_knownCauses : GoodIn wsX3_causes wsX3_knownCauses := goodIn_r _ [5, 6, 7, 8, 9, 10, 11, 12, 13, 14, 15, 16, 17, 18, 19, 20, 21, 22, 23, 24, 25, 26, 27, 28, 29, 30, 31, 32, 33, 34, 35, 36, 37, 38, 39, 40, 41, 42, 43, 44, 45, 46, 47, 48, 49, 4, 50, 51, 52, 53, 54, 55, 56, 57, 58, 59, 60, 61, 62, 63, 64, 65, 66, 67, 68, 69, 70, 71, 72, 73, 74, 75, 76, 77, 78, 79, 80, 81, 82, 85, 86, 87, 88, 89, 90, 91, 92, 93, 94, 95, 96, 97, 98, 99, 100, 83, 84] (by decide +kernel) (by decide +kernel)
set_option maxRecDepth 20000 in
theorem gX3_causes_X3_knownCauses : GoodIn wsX3_causes (wsV RX3 81 RX3 yX3_knownCauses wsX3_knownCauses) := goodIn_app (goodIn_of _ (by decide +kernel)) ggX3_causes_X3_knownCauses
theorem dX3_causes_0 : decode cX3_causes 0 = .ok (.aload_n 0, 1) := by decide +kernel
theorem dX3_causes_1 : decode cX3_causes 1 = .ok (.invokevirtual 81, 3) := by decide +kernel
theorem dX3_causes_4 : decode cX3_causes 4 = .ok (.getfield 85, 3) := by decide +kernel
theorem dX3_causes_7 : decode cX3_causes 7 = .ok (.ireturn, 1) := by decide +kernel
set_option maxRecDepth 20000 in
theorem ggX3_cures_X3_knownCures : GoodIn wsX3_cures wsX3_knownCures := goodIn_r _ [5, 6, 7, 8, 9, 10, 11, 12, 13, 14, 15, 16, 17, 18, 19, 20, 21, 22, 23, 24, 25, 26, 27, 28, 29, 30, 31, 32, 33, 34, 35, 36, 37, 38, 39, 40, 41, 42, 43, 44, 45, 46, 47, 48, 49, 50, 51, 4, 52, 53, 54, 55, 56, 57, 58, 59, 60, 61, 62, 63, 64, 65, 66, 67, 68, 69, 70, 71, 72, 73, 74, 75, 76, 77, 78, 79, 80, 81, 82, 83, 84, 87, 88, 89, 90, 91, 92, 93, 94, 95, 96, 97, 98, 99, 100, 101, 102, 85, 86] (by decide +kernel) (by decide +kernel)
set_option maxRecDepth 20000 in
theorem gX3_cures_X3_knownCures : GoodIn wsX3_cures (wsV RX3 88 RX3 yX3_knownCures wsX3_knownCures) := goodIn_app (goodIn_of _ (by decide +kernel)) ggX3_cures_X3_knownCures
theorem dX3_cures_0 : decode cX3_cures 0 = .ok (.aload_n 0, 1) := by decide +kernel
theorem dX3_cures_1 : decode cX3_cures 1 = .ok (.invokevirtual 88, 3) := by decide +kernel
theorem dX3_cures_4 : decode cX3_cures 4 = .ok (.getfield 85, 3) := by decide +kernel
theorem dX3_cures_7 : decode cX3_cures 7 = .ok (.ireturn, 1) := by decide +kernel
set_option maxRecDepth 20000 in
theorem ggX3_cause_X3_knownCauses : GoodIn wsX3_cause wsX3_knownCauses := goodIn_r _ [5, 6, 7, 8, 9, 10, 11, 12, 13, 14, 15, 16, 17, 18, 19, 20, 21, 22, 23, 24, 25, 26, 27, 28, 29, 30, 31, 32, 33, 34, 35, 36, 37, 38, 39, 40, 41, 42, 43, 44, 45, 46, 47, 48, 49, 4, 50, 51, 52, 53, 54, 55, 56, 57, 58, 59, 60, 61, 62, 63, 64, 65, 66, 67, 68, 69, 70, 71, 72, 73, 74, 75, 76, 77, 78, 79, 80, 81, 82, 87, 88, 89, 90, 91, 92, 93, 94, 95, 96, 97, 98, 99, 100, 101, 102, 103, 104] (by decide +kernel) (by decide +kernel)
set_option maxRecDepth 20000 in
theorem gX3_cause_X3_knownCauses : GoodIn wsX3_cause (wsV RX3 81 RX3 yX3_knownCauses wsX3_knownCauses) := goodIn_app (goodIn_of _ (by decide +kernel)) ggX3_cause_X3_knownCauses
set_option maxRecDepth 20000 in
theorem ggX3_cause_X2_at : GoodIn wsX3_cause wsX2_at := goodIn_r _ [86, 75, 81, 103, 104] (by decide +kernel) (by decide +kernel)
set_option maxRecDepth 20000 in
theorem gX3_cause_X2_at : GoodIn wsX3_cause (wsV RX3 91 RX2 yX2_at wsX2_at) := goodIn_app (goodIn_of _ (by decide +kernel)) ggX3_cause_X2_at
theorem dX3_cause_0 : decode cX3_cause 0 = .ok (.aload_n 0, 1) := by decide +kernel
theorem dX3_cause_1 : decode cX3_cause 1 = .ok (.invokevirtual 81, 3) := by decide +kernel
theorem dX3_cause_4 : decode cX3_cause 4 = .ok (.iload_n 1, 1) := by decide +kernel
theorem dX3_cause_5 : decode cX3_cause 5 = .ok (.invokevirtual 91, 3) := by decide +kernel
theorem dX3_cause_8 : decode cX3_cause 8 = .ok (.ireturn, 1) := by decide +kernel
set_option maxRecDepth 20000 in
theorem ggX3_cure_X3_knownCures : GoodIn wsX3_cure wsX3_knownCures := goodIn_r _ [5, 6, 7, 8, 9, 10, 11, 12, 13, 14, 15, 16, 17, 18, 19, 20, 21, 22, 23, 24, 25, 26, 27, 28, 29, 30, 31, 32, 33, 34, 35, 36, 37, 38, 39, 40, 41, 42, 43, 44, 45, 46, 47, 48, 49, 50, 51, 4, 52, 53, 54, 55, 56, 57, 58, 59, 60, 61, 62, 63, 64, 65, 66, 67, 68, 69, 70, 71, 72, 73, 74, 75, 76, 77, 78, 79, 80, 81, 82, 83, 84, 89, 90, 91, 92, 93, 94, 95, 96, 97, 98, 99, 100, 101, 102, 103, 104, 105, 106] (by decide +kernel) (by decide +kernel)
set_option maxRecDepth 20000 in
theorem gX3_cure_X3_knownCures : GoodIn wsX3_cure (wsV RX3 88 RX3 yX3_knownCures wsX3_knownCures) := goodIn_app (goodIn_of _ (by decide +kernel)) ggX3_cure_X3_knownCures
set_option maxRecDepth 20000 in
theorem ggX3_cure_X2_at : GoodIn wsX3_cure wsX2_at := goodIn_r _ [88, 77, 83, 105, 106] (by decide +kernel) (by decide +kernel)
set_option maxRecDepth 20000 in
theorem gX3_cure_X2_at : GoodIn wsX3_cure (wsV RX3 91 RX2 yX2_at wsX2_at) := goodIn_app (goodIn_of _ (by decide +kernel)) ggX3_cure_X2_at
theorem dX3_cure_0 : decode cX3_cure 0 = .ok (.aload_n 0, 1) := by decide +kernel
theorem dX3_cure_1 : decode cX3_cure 1 = .ok (.invokevirtual 88, 3) := by decide +kernel
theorem dX3_cure_4 : decode cX3_cure 4 = .ok (.iload_n 1, 1) := by decide +kernel
theorem dX3_cure_5 : decode cX3_cure 5 = .ok (.invokevirtual 91, 3) := by decide +kernel
theorem dX3_cure_8 : decode cX3_cure 8 = .ok (.ireturn, 1) := by decide +kernel
set_option maxRecDepth 20000 in
theorem ggX3_lightest_X3_knownCures : GoodIn wsX3_lightest wsX3_knownCures := goodIn_r _ [6, 7, 1, 8, 9, 10, 11, 12, 13, 14, 15, 16, 17, 18, 19, 20, 21, 22, 23, 24, 25, 26, 27, 28, 29, 30, 31, 32, 33, 34, 35, 36, 37, 38, 39, 40, 41, 42, 43, 44, 45, 46, 47, 48, 49, 50, 51, 5, 52, 53, 54, 55, 56, 57, 58, 59, 60, 61, 62, 63, 64, 65, 66, 67, 68, 69, 70, 71, 72, 73, 74, 75, 76, 77, 78, 79, 80, 81, 82, 83, 84, 96, 97, 98, 99, 100, 101, 102, 103, 104, 105, 106, 107, 108, 109, 110, 111, 94, 95] (by decide +kernel) (by decide +kernel)
set_option maxRecDepth 20000 in
theorem gX3_lightest_X3_knownCures : GoodIn wsX3_lightest (wsV RX3 88 RX3 yX3_knownCures wsX3_knownCures) := goodIn_app (goodIn_of _ (by decide +kernel)) ggX3_lightest_X3_knownCures
set_option maxRecDepth 20000 in
theorem ggX3_lightest_X2_at : GoodIn wsX3_lightest wsX2_at := goodIn_r _ [88, 77, 83, 94, 95] (by decide +kernel) (by decide +kernel)
set_option maxRecDepth 20000 in
theorem gX3_lightest_X2_at : GoodIn wsX3_lightest (wsV RX3 91 RX2 yX2_at wsX2_at) := goodIn_app (goodIn_of _ (by decide +kernel)) ggX3_lightest_X2_at
set_option maxRecDepth 20000 in
theorem ggX3_lightest_X0_weightOf : GoodIn wsX3_lightest wsX0_weightOf := goodIn_r _ [92, 17, 93, 105, 106, 107, 108, 109, 110, 111] (by decide +kernel) (by decide +kernel)
set_option maxRecDepth 20000 in
theorem gX3_lightest_X0_weightOf : GoodIn wsX3_lightest (wsV RX3 94 RX0 yX0_weightOf wsX0_weightOf) := goodIn_app (goodIn_of _ (by decide +kernel)) ggX3_lightest_X0_weightOf
theorem dX3_lightest_0 : decode cX3_lightest 0 = .ok (.aload_n 0, 1) := by decide +kernel
theorem dX3_lightest_1 : decode cX3_lightest 1 = .ok (.invokevirtual 88, 3) := by decide +kernel
theorem dX3_lightest_4 : decode cX3_lightest 4 = .ok (.astore_n 1, 1) := by decide +kernel
theorem dX3_lightest_5 : decode cX3_lightest 5 = .ok (.bipush (-2), 2) := by decide +kernel
theorem dX3_lightest_7 : decode cX3_lightest 7 = .ok (.istore_n 2, 1) := by decide +kernel
theorem dX3_lightest_8 : decode cX3_lightest 8 = .ok (.iconst 0, 1) := by decide +kernel
theorem dX3_lightest_9 : decode cX3_lightest 9 = .ok (.istore_n 3, 1) := by decide +kernel
theorem dX3_lightest_10 : decode cX3_lightest 10 = .ok (.iconst 0, 1) := by decide +kernel
theorem dX3_lightest_11 : decode cX3_lightest 11 = .ok (.istore 4, 2) := by decide +kernel
theorem dX3_lightest_13 : decode cX3_lightest 13 = .ok (.iload 4, 2) := by decide +kernel
theorem dX3_lightest_15 : decode cX3_lightest 15 = .ok (.aload_n 1, 1) := by decide +kernel
theorem dX3_lightest_16 : decode cX3_lightest 16 = .ok (.getfield 85, 3) := by decide +kernel
theorem dX3_lightest_19 : decode cX3_lightest 19 = .ok (.if_icmp .ge 42, 3) := by decide +kernel
theorem dX3_lightest_22 : decode cX3_lightest 22 = .ok (.aload_n 0, 1) := by decide +kernel
theorem dX3_lightest_23 : decode cX3_lightest 23 = .ok (.getfield 12, 3) := by decide +kernel
theorem dX3_lightest_26 : decode cX3_lightest 26 = .ok (.aload_n 1, 1) := by decide +kernel
theorem dX3_lightest_27 : decode cX3_lightest 27 = .ok (.iload 4, 2) := by decide +kernel
theorem dX3_lightest_29 : decode cX3_lightest 29 = .ok (.invokevirtual 91, 3) := by decide +kernel
theorem dX3_lightest_32 : decode cX3_lightest 32 = .ok (.invokevirtual 94, 3) := by decide +kernel
theorem dX3_lightest_35 : decode cX3_lightest 35 = .ok (.istore 5, 2) := by decide +kernel
theorem dX3_lightest_37 : decode cX3_lightest 37 = .ok (.iload_n 2, 1) := by decide +kernel
theorem dX3_lightest_38 : decode cX3_lightest 38 = .ok (.bipush (-2), 2) := by decide +kernel
theorem dX3_lightest_40 : decode cX3_lightest 40 = .ok (.if_icmp .eq 9, 3) := by decide +kernel
theorem dX3_lightest_43 : decode cX3_lightest 43 = .ok (.iload 5, 2) := by decide +kernel
theorem dX3_lightest_45 : decode cX3_lightest 45 = .ok (.iload_n 3, 1) := by decide +kernel
theorem dX3_lightest_46 : decode cX3_lightest 46 = .ok (.if_icmp .ge 9, 3) := by decide +kernel
theorem dX3_lightest_49 : decode cX3_lightest 49 = .ok (.iload 4, 2) := by decide +kernel
theorem dX3_lightest_51 : decode cX3_lightest 51 = .ok (.istore_n 2, 1) := by decide +kernel
theorem dX3_lightest_52 : decode cX3_lightest 52 = .ok (.iload 5, 2) := by decide +kernel
theorem dX3_lightest_54 : decode cX3_lightest 54 = .ok (.istore_n 3, 1) := by decide +kernel
theorem dX3_lightest_55 : decode cX3_lightest 55 = .ok (.iinc 4 1, 3) := by decide +kernel
theorem dX3_lightest_58 : decode cX3_lightest 58 = .ok (.goto (-45), 3) := by decide +kernel
theorem dX3_lightest_61 : decode cX3_lightest 61 = .ok (.iload_n 2, 1) := by decide +kernel
theorem dX3_lightest_62 : decode cX3_lightest 62 = .ok (.ireturn, 1) := by decide +kernel
set_option maxRecDepth 20000 in
theorem ggX3_times_X0_has : GoodIn wsX3_times wsX0_has := goodIn_r _ [6, 7, 110, 111, 112, 113, 114, 115, 116] (by decide +kernel) (by decide +kernel)
set_option maxRecDepth 20000 in
theorem gX3_times_X0_has : GoodIn wsX3_times (wsV RX3 58 RX0 yX0_has wsX0_has) := goodIn_app (goodIn_of _ (by decide +kernel)) ggX3_times_X0_has
set_option maxRecDepth 20000 in
theorem ggX3_times_X3_knownCures : GoodIn wsX3_times wsX3_knownCures := goodIn_r _ [12, 13, 1, 14, 15, 16, 17, 18, 19, 20, 5, 21, 7, 22, 23, 24, 25, 26, 27, 28, 29, 30, 31, 32, 33, 34, 35, 36, 37, 38, 39, 40, 41, 42, 43, 44, 45, 46, 47, 48, 49, 50, 51, 52, 53, 54, 55, 11, 56, 57, 58, 59, 60, 61, 62, 63, 64, 65, 66, 67, 68, 69, 70, 71, 72, 73, 74, 75, 76, 77, 78, 79, 80, 81, 82, 83, 84, 85, 86, 87, 88, 103, 104, 105, 106, 107, 108, 109, 117, 118, 110, 111, 112, 113, 114, 115, 116, 119, 120] (by decide +kernel) (by decide +kernel)
set_option maxRecDepth 20000 in
theorem gX3_times_X3_knownCures : GoodIn wsX3_times (wsV RX3 88 RX3 yX3_knownCures wsX3_knownCures) := goodIn_app (goodIn_of _ (by decide +kernel)) ggX3_times_X3_knownCures
set_option maxRecDepth 20000 in
theorem ggX3_times_X3_knownCauses : GoodIn wsX3_times wsX3_knownCauses := goodIn_r _ [92, 93, 1, 14, 15, 94, 18, 19, 20, 5, 21, 7, 95, 96, 97, 98, 26, 29, 30, 31, 32, 28, 33, 34, 35, 36, 37, 38, 39, 40, 41, 42, 43, 44, 45, 46, 47, 48, 49, 50, 51, 52, 53, 54, 55, 11, 56, 57, 58, 59, 60, 61, 62, 63, 64, 65, 66, 67, 68, 69, 70, 71, 72, 73, 74, 75, 76, 77, 78, 79, 80, 81, 82, 83, 84, 85, 86, 87, 88, 103, 104, 105, 106, 107, 108, 109, 117, 118, 110, 111, 112, 113, 114, 115, 116, 119, 120] (by decide +kernel) (by decide +kernel)
set_option maxRecDepth 20000 in
theorem gX3_times_X3_knownCauses : GoodIn wsX3_times (wsV RX3 81 RX3 yX3_knownCauses wsX3_knownCauses) := goodIn_app (goodIn_of _ (by decide +kernel)) ggX3_times_X3_knownCauses
set_option maxRecDepth 20000 in
theorem ggX3_times_X2_howManyWith : GoodIn wsX3_times wsX2_howManyWith := goodIn_r _ [102, 81, 87, 119, 120] (by decide +kernel) (by decide +kernel)
set_option maxRecDepth 20000 in
theorem gX3_times_X2_howManyWith : GoodIn wsX3_times (wsV RX3 97 RX2 yX2_howManyWith wsX2_howManyWith) := goodIn_app (goodIn_of _ (by decide +kernel)) ggX3_times_X2_howManyWith
theorem dX3_times_0 : decode cX3_times 0 = .ok (.aload_n 0, 1) := by decide +kernel
theorem dX3_times_1 : decode cX3_times 1 = .ok (.getfield 12, 3) := by decide +kernel
theorem dX3_times_4 : decode cX3_times 4 = .ok (.iload_n 1, 1) := by decide +kernel
theorem dX3_times_5 : decode cX3_times 5 = .ok (.invokevirtual 58, 3) := by decide +kernel
theorem dX3_times_8 : decode cX3_times 8 = .ok (.ifCond .eq 12, 3) := by decide +kernel
theorem dX3_times_11 : decode cX3_times 11 = .ok (.iload_n 2, 1) := by decide +kernel
theorem dX3_times_12 : decode cX3_times 12 = .ok (.ifCond .lt 8, 3) := by decide +kernel
theorem dX3_times_15 : decode cX3_times 15 = .ok (.iload_n 2, 1) := by decide +kernel
theorem dX3_times_16 : decode cX3_times 16 = .ok (.iconst 1, 1) := by decide +kernel
theorem dX3_times_17 : decode cX3_times 17 = .ok (.if_icmp .le 5, 3) := by decide +kernel
theorem dX3_times_20 : decode cX3_times 20 = .ok (.iconst (-1), 1) := by decide +kernel
theorem dX3_times_21 : decode cX3_times 21 = .ok (.ireturn, 1) := by decide +kernel
theorem dX3_times_22 : decode cX3_times 22 = .ok (.iload_n 2, 1) := by decide +kernel
theorem dX3_times_23 : decode cX3_times 23 = .ok (.iconst 1, 1) := by decide +kernel
theorem dX3_times_24 : decode cX3_times 24 = .ok (.if_icmp .ne 10, 3) := by decide +kernel
theorem dX3_times_27 : decode cX3_times 27 = .ok (.aload_n 0, 1) := by decide +kernel
theorem dX3_times_28 : decode cX3_times 28 = .ok (.invokevirtual 88, 3) := by decide +kernel
theorem dX3_times_31 : decode cX3_times 31 = .ok (.goto 7, 3) := by decide +kernel
theorem dX3_times_34 : decode cX3_times 34 = .ok (.aload_n 0, 1) := by decide +kernel
theorem dX3_times_35 : decode cX3_times 35 = .ok (.invokevirtual 81, 3) := by decide +kernel
theorem dX3_times_38 : decode cX3_times 38 = .ok (.astore_n 3, 1) := by decide +kernel
theorem dX3_times_39 : decode cX3_times 39 = .ok (.aload_n 3, 1) := by decide +kernel
theorem dX3_times_40 : decode cX3_times 40 = .ok (.iload_n 1, 1) := by decide +kernel
theorem dX3_times_41 : decode cX3_times 41 = .ok (.invokevirtual 97, 3) := by decide +kernel
theorem dX3_times_44 : decode cX3_times 44 = .ok (.ireturn, 1) := by decide +kernel
set_option maxRecDepth 20000 in
theorem ggX3_within_X3_knownCauses : GoodIn wsX3_within wsX3_knownCauses := goodIn_r _ [5, 6, 7, 8, 9, 10, 11, 12, 13, 14, 15, 16, 17, 18, 19, 20, 21, 22, 23, 24, 25, 26, 27, 28, 29, 30, 31, 32, 33, 34, 35, 36, 37, 38, 39, 40, 41, 42, 43, 44, 45, 46, 47, 48, 49, 4, 50, 51, 52, 53, 54, 55, 56, 57, 58, 59, 60, 61, 62, 63, 64, 65, 66, 67, 68, 69, 70, 71, 72, 73, 74, 75, 76, 77, 78, 79, 80, 81, 82, 87, 88, 89, 90, 91, 92, 93, 94, 95, 96, 97, 98, 99, 100, 101, 102, 103, 104] (by decide +kernel) (by decide +kernel)
set_option maxRecDepth 20000 in
theorem gX3_within_X3_knownCauses : GoodIn wsX3_within (wsV RX3 81 RX3 yX3_knownCauses wsX3_knownCauses) := goodIn_app (goodIn_of _ (by decide +kernel)) ggX3_within_X3_knownCauses
set_option maxRecDepth 20000 in
theorem ggX3_within_X2_firstInside : GoodIn wsX3_within wsX2_firstInside := goodIn_r _ [86, 75, 81, 103, 104] (by decide +kernel) (by decide +kernel)
set_option maxRecDepth 20000 in
theorem gX3_within_X2_firstInside : GoodIn wsX3_within (wsV RX3 100 RX2 yX2_firstInside wsX2_firstInside) := goodIn_app (goodIn_of _ (by decide +kernel)) ggX3_within_X2_firstInside
theorem dX3_within_0 : decode cX3_within 0 = .ok (.aload_n 0, 1) := by decide +kernel
theorem dX3_within_1 : decode cX3_within 1 = .ok (.invokevirtual 81, 3) := by decide +kernel
theorem dX3_within_4 : decode cX3_within 4 = .ok (.iload_n 1, 1) := by decide +kernel
theorem dX3_within_5 : decode cX3_within 5 = .ok (.invokevirtual 100, 3) := by decide +kernel
theorem dX3_within_8 : decode cX3_within 8 = .ok (.ireturn, 1) := by decide +kernel
set_option maxRecDepth 20000 in
theorem ggX3_common_X3_knownCauses : GoodIn wsX3_common wsX3_knownCauses := goodIn_r _ [5, 6, 7, 8, 9, 10, 11, 12, 13, 14, 15, 16, 17, 18, 19, 20, 21, 22, 23, 24, 25, 26, 27, 28, 29, 30, 31, 32, 33, 34, 35, 36, 37, 38, 39, 40, 41, 42, 43, 44, 45, 46, 47, 48, 49, 4, 50, 51, 52, 53, 54, 55, 56, 57, 58, 59, 60, 61, 62, 63, 64, 65, 66, 67, 68, 69, 70, 71, 72, 73, 74, 75, 76, 77, 78, 79, 80, 81, 82, 87, 88, 89, 90, 91, 92, 93, 94, 95, 96, 97, 98, 99, 100, 101, 102, 103, 104] (by decide +kernel) (by decide +kernel)
set_option maxRecDepth 20000 in
theorem gX3_common_X3_knownCauses : GoodIn wsX3_common (wsV RX3 81 RX3 yX3_knownCauses wsX3_knownCauses) := goodIn_app (goodIn_of _ (by decide +kernel)) ggX3_common_X3_knownCauses
set_option maxRecDepth 20000 in
theorem ggX3_common_X2_sharedByAll : GoodIn wsX3_common wsX2_sharedByAll := goodIn_r _ [86, 75, 81, 103, 104] (by decide +kernel) (by decide +kernel)
set_option maxRecDepth 20000 in
theorem gX3_common_X2_sharedByAll : GoodIn wsX3_common (wsV RX3 103 RX2 yX2_sharedByAll wsX2_sharedByAll) := goodIn_app (goodIn_of _ (by decide +kernel)) ggX3_common_X2_sharedByAll
theorem dX3_common_0 : decode cX3_common 0 = .ok (.aload_n 0, 1) := by decide +kernel
theorem dX3_common_1 : decode cX3_common 1 = .ok (.invokevirtual 81, 3) := by decide +kernel
theorem dX3_common_4 : decode cX3_common 4 = .ok (.invokevirtual 103, 3) := by decide +kernel
theorem dX3_common_7 : decode cX3_common 7 = .ok (.ireturn, 1) := by decide +kernel
theorem dX3_axioms_0 : decode cX3_axioms 0 = .ok (.aload_n 0, 1) := by decide +kernel
theorem dX3_axioms_1 : decode cX3_axioms 1 = .ok (.getfield 12, 3) := by decide +kernel
theorem dX3_axioms_4 : decode cX3_axioms 4 = .ok (.getfield 48, 3) := by decide +kernel
theorem dX3_axioms_7 : decode cX3_axioms 7 = .ok (.ireturn, 1) := by decide +kernel
set_option maxRecDepth 20000 in
theorem ggX3_fact_X0_factsFrom : GoodIn wsX3_fact wsX0_factsFrom := goodIn_r _ [9, 10, 11, 12, 13, 8, 14, 15, 16, 48, 49, 50, 51, 52, 53, 54] (by decide +kernel) (by decide +kernel)
set_option maxRecDepth 20000 in
theorem gX3_fact_X0_factsFrom : GoodIn wsX3_fact (wsV RX3 73 RX0 yX0_factsFrom wsX0_factsFrom) := goodIn_app (goodIn_of _ (by decide +kernel)) ggX3_fact_X0_factsFrom
set_option maxRecDepth 20000 in
theorem ggX3_fact_J6_bitCount_0f7a4 : GoodIn wsX3_fact wsJ6_bitCount_0f7a4 := goodIn_r _ [20, 21, 22, 23] (by decide +kernel) (by decide +kernel)
set_option maxRecDepth 20000 in
theorem gX3_fact_J6_bitCount_0f7a4 : GoodIn wsX3_fact (va_wsS RX3 107 yJ6_bitCount_0f7a4 wsJ6_bitCount_0f7a4) := goodIn_app (goodIn_of _ (by decide +kernel)) ggX3_fact_J6_bitCount_0f7a4
set_option maxRecDepth 20000 in
theorem ggX3_fact_X3_lowestPlace : GoodIn wsX3_fact wsX3_lowestPlace := goodIn_r _ [27, 28, 29, 30, 31, 32, 33, 34] (by decide +kernel) (by decide +kernel)
set_option maxRecDepth 20000 in
theorem gX3_fact_X3_lowestPlace : GoodIn wsX3_fact (va_wsS RX3 119 yX3_lowestPlace wsX3_lowestPlace) := goodIn_app (goodIn_of _ (by decide +kernel)) ggX3_fact_X3_lowestPlace
theorem dX3_fact_0 : decode cX3_fact 0 = .ok (.aload_n 0, 1) := by decide +kernel
theorem dX3_fact_1 : decode cX3_fact 1 = .ok (.getfield 12, 3) := by decide +kernel
theorem dX3_fact_4 : decode cX3_fact 4 = .ok (.iconst (-1), 1) := by decide +kernel
theorem dX3_fact_5 : decode cX3_fact 5 = .ok (.invokevirtual 73, 3) := by decide +kernel
theorem dX3_fact_8 : decode cX3_fact 8 = .ok (.istore_n 2, 1) := by decide +kernel
theorem dX3_fact_9 : decode cX3_fact 9 = .ok (.iload_n 1, 1) := by decide +kernel
theorem dX3_fact_10 : decode cX3_fact 10 = .ok (.ifCond .lt 11, 3) := by decide +kernel
theorem dX3_fact_13 : decode cX3_fact 13 = .ok (.iload_n 1, 1) := by decide +kernel
theorem dX3_fact_14 : decode cX3_fact 14 = .ok (.iload_n 2, 1) := by decide +kernel
theorem dX3_fact_15 : decode cX3_fact 15 = .ok (.invokestatic 107, 3) := by decide +kernel
theorem dX3_fact_18 : decode cX3_fact 18 = .ok (.if_icmp .lt 13, 3) := by decide +kernel
theorem dX3_fact_21 : decode cX3_fact 21 = .ok (.new 112, 3) := by decide +kernel
theorem dX3_fact_24 : decode cX3_fact 24 = .ok (.dup, 1) := by decide +kernel
theorem dX3_fact_25 : decode cX3_fact 25 = .ok (.ldc 114, 2) := by decide +kernel
theorem dX3_fact_27 : decode cX3_fact 27 = .ok (.invokespecial 116, 3) := by decide +kernel
theorem dX3_fact_30 : decode cX3_fact 30 = .ok (.athrow, 1) := by decide +kernel
theorem dX3_fact_31 : decode cX3_fact 31 = .ok (.iconst 0, 1) := by decide +kernel
theorem dX3_fact_32 : decode cX3_fact 32 = .ok (.istore_n 3, 1) := by decide +kernel
theorem dX3_fact_33 : decode cX3_fact 33 = .ok (.iload_n 3, 1) := by decide +kernel
theorem dX3_fact_34 : decode cX3_fact 34 = .ok (.iload_n 1, 1) := by decide +kernel
theorem dX3_fact_35 : decode cX3_fact 35 = .ok (.if_icmp .ge 15, 3) := by decide +kernel
theorem dX3_fact_38 : decode cX3_fact 38 = .ok (.iload_n 2, 1) := by decide +kernel
theorem dX3_fact_39 : decode cX3_fact 39 = .ok (.iload_n 2, 1) := by decide +kernel
theorem dX3_fact_40 : decode cX3_fact 40 = .ok (.iconst 1, 1) := by decide +kernel
theorem dX3_fact_41 : decode cX3_fact 41 = .ok (.isub, 1) := by decide +kernel
theorem dX3_fact_42 : decode cX3_fact 42 = .ok (.iand, 1) := by decide +kernel
theorem dX3_fact_43 : decode cX3_fact 43 = .ok (.istore_n 2, 1) := by decide +kernel
theorem dX3_fact_44 : decode cX3_fact 44 = .ok (.iinc 3 1, 3) := by decide +kernel
theorem dX3_fact_47 : decode cX3_fact 47 = .ok (.goto (-14), 3) := by decide +kernel
theorem dX3_fact_50 : decode cX3_fact 50 = .ok (.iload_n 2, 1) := by decide +kernel
theorem dX3_fact_51 : decode cX3_fact 51 = .ok (.i2l, 1) := by decide +kernel
theorem dX3_fact_52 : decode cX3_fact 52 = .ok (.invokestatic 119, 3) := by decide +kernel
theorem dX3_fact_55 : decode cX3_fact 55 = .ok (.ireturn, 1) := by decide +kernel
theorem dX3_isFact_0 : decode cX3_isFact 0 = .ok (.iload_n 0, 1) := by decide +kernel
theorem dX3_isFact_1 : decode cX3_isFact 1 = .ok (.ifCond .lt 13, 3) := by decide +kernel
theorem dX3_isFact_4 : decode cX3_isFact 4 = .ok (.iload_n 0, 1) := by decide +kernel
theorem dX3_isFact_5 : decode cX3_isFact 5 = .ok (.bipush 24, 2) := by decide +kernel
theorem dX3_isFact_7 : decode cX3_isFact 7 = .ok (.if_icmp .ge 7, 3) := by decide +kernel
theorem dX3_isFact_10 : decode cX3_isFact 10 = .ok (.iconst 1, 1) := by decide +kernel
theorem dX3_isFact_11 : decode cX3_isFact 11 = .ok (.goto 4, 3) := by decide +kernel
theorem dX3_isFact_14 : decode cX3_isFact 14 = .ok (.iconst 0, 1) := by decide +kernel
theorem dX3_isFact_15 : decode cX3_isFact 15 = .ok (.ireturn, 1) := by decide +kernel
set_option maxRecDepth 20000 in
theorem ggX3_lowestPlace_J13_bitCount_95d88 : GoodIn wsX3_lowestPlace wsJ13_bitCount_95d88 := goodIn_r _ [4, 5, 6, 7] (by decide +kernel) (by decide +kernel)
set_option maxRecDepth 20000 in
theorem gX3_lowestPlace_J13_bitCount_95d88 : GoodIn wsX3_lowestPlace (va_wsS RX3 123 yJ13_bitCount_95d88 wsJ13_bitCount_95d88) := goodIn_app (goodIn_of _ (by decide +kernel)) ggX3_lowestPlace_J13_bitCount_95d88
theorem dX3_lowestPlace_0 : decode cX3_lowestPlace 0 = .ok (.lload_n 0, 1) := by decide +kernel
theorem dX3_lowestPlace_1 : decode cX3_lowestPlace 1 = .ok (.lload_n 0, 1) := by decide +kernel
theorem dX3_lowestPlace_2 : decode cX3_lowestPlace 2 = .ok (.lneg, 1) := by decide +kernel
theorem dX3_lowestPlace_3 : decode cX3_lowestPlace 3 = .ok (.land, 1) := by decide +kernel
theorem dX3_lowestPlace_4 : decode cX3_lowestPlace 4 = .ok (.lconst 1, 1) := by decide +kernel
theorem dX3_lowestPlace_5 : decode cX3_lowestPlace 5 = .ok (.lsub, 1) := by decide +kernel
theorem dX3_lowestPlace_6 : decode cX3_lowestPlace 6 = .ok (.invokestatic 123, 3) := by decide +kernel
theorem dX3_lowestPlace_9 : decode cX3_lowestPlace 9 = .ok (.ireturn, 1) := by decide +kernel
theorem dX3_forgetLists_0 : decode cX3_forgetLists 0 = .ok (.aload_n 0, 1) := by decide +kernel
theorem dX3_forgetLists_1 : decode cX3_forgetLists 1 = .ok (.iconst 0, 1) := by decide +kernel
theorem dX3_forgetLists_2 : decode cX3_forgetLists 2 = .ok (.putfield 37, 3) := by decide +kernel
theorem dX3_forgetLists_5 : decode cX3_forgetLists 5 = .ok (.aload_n 0, 1) := by decide +kernel
theorem dX3_forgetLists_6 : decode cX3_forgetLists 6 = .ok (.iconst 0, 1) := by decide +kernel
theorem dX3_forgetLists_7 : decode cX3_forgetLists 7 = .ok (.putfield 41, 3) := by decide +kernel
theorem dX3_forgetLists_10 : decode cX3_forgetLists 10 = .ok (.return_, 1) := by decide +kernel
set_option maxRecDepth 20000 in
theorem ggX3_knownCauses_X0_words : GoodIn wsX3_knownCauses wsX0_words := goodIn_r _ [10, 11, 88, 89, 90, 91, 92, 93, 94] (by decide +kernel) (by decide +kernel)
set_option maxRecDepth 20000 in
theorem gX3_knownCauses_X0_words : GoodIn wsX3_knownCauses (wsV RX3 127 RX0 yX0_words wsX0_words) := goodIn_app (goodIn_of _ (by decide +kernel)) ggX3_knownCauses_X0_words
set_option maxRecDepth 20000 in
theorem ggX3_knownCauses_X0_setsThatGive : GoodIn wsX3_knownCauses wsX0_setsThatGive := goodIn_r _ [15, 11, 16, 17, 18, 19, 9, 20, 21, 22, 23, 24, 25, 26, 27, 28, 29, 30, 31, 32, 33, 34, 35, 36, 37, 38, 39, 40, 41, 42, 43, 44, 45, 46, 47, 48, 49, 50, 51, 52, 53, 88, 89, 90, 91, 92, 93, 94] (by decide +kernel) (by decide +kernel)
set_option maxRecDepth 20000 in
theorem gX3_knownCauses_X0_setsThatGive : GoodIn wsX3_knownCauses (wsV RX3 134 RX0 yX0_setsThatGive wsX0_setsThatGive) := goodIn_app (goodIn_of _ (by decide +kernel)) ggX3_knownCauses_X0_setsThatGive
set_option maxRecDepth 20000 in
theorem ggX3_knownCauses_X1_listLeast : GoodIn wsX3_knownCauses wsX1_listLeast := goodIn_r _ [58, 59, 60, 61, 62, 57, 63, 64, 65, 66, 67, 68, 69, 70, 71, 72, 38, 39, 40, 41, 42, 43, 73, 74, 75, 76, 77, 78, 48, 49, 50, 51, 52, 53, 44, 45, 46, 47, 86, 87, 95, 96] (by decide +kernel) (by decide +kernel)
set_option maxRecDepth 20000 in
theorem gX3_knownCauses_X1_listLeast : GoodIn wsX3_knownCauses (wsV RX3 138 RX1 yX1_listLeast wsX1_listLeast) := goodIn_app (goodIn_of _ (by decide +kernel)) ggX3_knownCauses_X1_listLeast
theorem dX3_knownCauses_0 : decode cX3_knownCauses 0 = .ok (.aload_n 0, 1) := by decide +kernel
theorem dX3_knownCauses_1 : decode cX3_knownCauses 1 = .ok (.getfield 37, 3) := by decide +kernel
theorem dX3_knownCauses_4 : decode cX3_knownCauses 4 = .ok (.ifCond .ne 62, 3) := by decide +kernel
theorem dX3_knownCauses_7 : decode cX3_knownCauses 7 = .ok (.aload_n 0, 1) := by decide +kernel
theorem dX3_knownCauses_8 : decode cX3_knownCauses 8 = .ok (.getfield 12, 3) := by decide +kernel
theorem dX3_knownCauses_11 : decode cX3_knownCauses 11 = .ok (.invokevirtual 127, 3) := by decide +kernel
theorem dX3_knownCauses_14 : decode cX3_knownCauses 14 = .ok (.istore_n 1, 1) := by decide +kernel
theorem dX3_knownCauses_15 : decode cX3_knownCauses 15 = .ok (.iconst 0, 1) := by decide +kernel
theorem dX3_knownCauses_16 : decode cX3_knownCauses 16 = .ok (.istore_n 2, 1) := by decide +kernel
theorem dX3_knownCauses_17 : decode cX3_knownCauses 17 = .ok (.iload_n 2, 1) := by decide +kernel
theorem dX3_knownCauses_18 : decode cX3_knownCauses 18 = .ok (.iload_n 1, 1) := by decide +kernel
theorem dX3_knownCauses_19 : decode cX3_knownCauses 19 = .ok (.if_icmp .ge 30, 3) := by decide +kernel
theorem dX3_knownCauses_22 : decode cX3_knownCauses 22 = .ok (.aload_n 0, 1) := by decide +kernel
theorem dX3_knownCauses_23 : decode cX3_knownCauses 23 = .ok (.getfield 19, 3) := by decide +kernel
theorem dX3_knownCauses_26 : decode cX3_knownCauses 26 = .ok (.getfield 130, 3) := by decide +kernel
theorem dX3_knownCauses_29 : decode cX3_knownCauses 29 = .ok (.iload_n 2, 1) := by decide +kernel
theorem dX3_knownCauses_30 : decode cX3_knownCauses 30 = .ok (.aload_n 0, 1) := by decide +kernel
theorem dX3_knownCauses_31 : decode cX3_knownCauses 31 = .ok (.getfield 12, 3) := by decide +kernel
theorem dX3_knownCauses_34 : decode cX3_knownCauses 34 = .ok (.aload_n 0, 1) := by decide +kernel
theorem dX3_knownCauses_35 : decode cX3_knownCauses 35 = .ok (.getfield 33, 3) := by decide +kernel
theorem dX3_knownCauses_38 : decode cX3_knownCauses 38 = .ok (.iload_n 2, 1) := by decide +kernel
theorem dX3_knownCauses_39 : decode cX3_knownCauses 39 = .ok (.invokevirtual 134, 3) := by decide +kernel
theorem dX3_knownCauses_42 : decode cX3_knownCauses 42 = .ok (.lastore, 1) := by decide +kernel
theorem dX3_knownCauses_43 : decode cX3_knownCauses 43 = .ok (.iinc 2 1, 3) := by decide +kernel
theorem dX3_knownCauses_46 : decode cX3_knownCauses 46 = .ok (.goto (-29), 3) := by decide +kernel
theorem dX3_knownCauses_49 : decode cX3_knownCauses 49 = .ok (.aload_n 0, 1) := by decide +kernel
theorem dX3_knownCauses_50 : decode cX3_knownCauses 50 = .ok (.getfield 19, 3) := by decide +kernel
theorem dX3_knownCauses_53 : decode cX3_knownCauses 53 = .ok (.iload_n 1, 1) := by decide +kernel
theorem dX3_knownCauses_54 : decode cX3_knownCauses 54 = .ok (.aload_n 0, 1) := by decide +kernel
theorem dX3_knownCauses_55 : decode cX3_knownCauses 55 = .ok (.getfield 26, 3) := by decide +kernel
theorem dX3_knownCauses_58 : decode cX3_knownCauses 58 = .ok (.invokevirtual 138, 3) := by decide +kernel
theorem dX3_knownCauses_61 : decode cX3_knownCauses 61 = .ok (.aload_n 0, 1) := by decide +kernel
theorem dX3_knownCauses_62 : decode cX3_knownCauses 62 = .ok (.iconst 1, 1) := by decide +kernel
theorem dX3_knownCauses_63 : decode cX3_knownCauses 63 = .ok (.putfield 37, 3) := by decide +kernel
theorem dX3_knownCauses_66 : decode cX3_knownCauses 66 = .ok (.aload_n 0, 1) := by decide +kernel
theorem dX3_knownCauses_67 : decode cX3_knownCauses 67 = .ok (.getfield 26, 3) := by decide +kernel
theorem dX3_knownCauses_70 : decode cX3_knownCauses 70 = .ok (.areturn, 1) := by decide +kernel
set_option maxRecDepth 20000 in
theorem ggX3_knownCures_X0_words : GoodIn wsX3_knownCures wsX0_words := goodIn_r _ [11, 12, 90, 91, 92, 93, 94, 95, 96] (by decide +kernel) (by decide +kernel)
set_option maxRecDepth 20000 in
theorem gX3_knownCures_X0_words : GoodIn wsX3_knownCures (wsV RX3 127 RX0 yX0_words wsX0_words) := goodIn_app (goodIn_of _ (by decide +kernel)) ggX3_knownCures_X0_words
set_option maxRecDepth 20000 in
theorem ggX3_knownCures_X0_setsThatLeave : GoodIn wsX3_knownCures wsX0_setsThatLeave := goodIn_r _ [16, 12, 17, 18, 19, 20, 21, 22, 10, 23, 24, 25, 26, 27, 28, 29, 30, 31, 32, 33, 34, 35, 36, 37, 38, 39, 40, 41, 42, 43, 44, 45, 46, 47, 48, 49, 50, 51, 52, 53, 54, 55, 90, 91, 92, 93, 94, 95, 96] (by decide +kernel) (by decide +kernel)
set_option maxRecDepth 20000 in
theorem gX3_knownCures_X0_setsThatLeave : GoodIn wsX3_knownCures (wsV RX3 142 RX0 yX0_setsThatLeave wsX0_setsThatLeave) := goodIn_app (goodIn_of _ (by decide +kernel)) ggX3_knownCures_X0_setsThatLeave
set_option maxRecDepth 20000 in
theorem ggX3_knownCures_X1_listLeast : GoodIn wsX3_knownCures wsX1_listLeast := goodIn_r _ [60, 61, 62, 63, 64, 59, 65, 66, 67, 68, 69, 70, 71, 72, 73, 74, 40, 41, 42, 43, 44, 45, 75, 76, 77, 78, 79, 80, 50, 51, 52, 53, 54, 55, 46, 47, 48, 49, 88, 89, 97, 98] (by decide +kernel) (by decide +kernel)
set_option maxRecDepth 20000 in
theorem gX3_knownCures_X1_listLeast : GoodIn wsX3_knownCures (wsV RX3 138 RX1 yX1_listLeast wsX1_listLeast) := goodIn_app (goodIn_of _ (by decide +kernel)) ggX3_knownCures_X1_listLeast
theorem dX3_knownCures_0 : decode cX3_knownCures 0 = .ok (.aload_n 0, 1) := by decide +kernel
theorem dX3_knownCures_1 : decode cX3_knownCures 1 = .ok (.getfield 41, 3) := by decide +kernel
theorem dX3_knownCures_4 : decode cX3_knownCures 4 = .ok (.ifCond .ne 66, 3) := by decide +kernel
theorem dX3_knownCures_7 : decode cX3_knownCures 7 = .ok (.aload_n 0, 1) := by decide +kernel
theorem dX3_knownCures_8 : decode cX3_knownCures 8 = .ok (.getfield 12, 3) := by decide +kernel
theorem dX3_knownCures_11 : decode cX3_knownCures 11 = .ok (.invokevirtual 127, 3) := by decide +kernel
theorem dX3_knownCures_14 : decode cX3_knownCures 14 = .ok (.istore_n 1, 1) := by decide +kernel
theorem dX3_knownCures_15 : decode cX3_knownCures 15 = .ok (.iconst 0, 1) := by decide +kernel
theorem dX3_knownCures_16 : decode cX3_knownCures 16 = .ok (.istore_n 2, 1) := by decide +kernel
theorem dX3_knownCures_17 : decode cX3_knownCures 17 = .ok (.iload_n 2, 1) := by decide +kernel
theorem dX3_knownCures_18 : decode cX3_knownCures 18 = .ok (.iload_n 1, 1) := by decide +kernel
theorem dX3_knownCures_19 : decode cX3_knownCures 19 = .ok (.if_icmp .ge 34, 3) := by decide +kernel
theorem dX3_knownCures_22 : decode cX3_knownCures 22 = .ok (.aload_n 0, 1) := by decide +kernel
theorem dX3_knownCures_23 : decode cX3_knownCures 23 = .ok (.getfield 19, 3) := by decide +kernel
theorem dX3_knownCures_26 : decode cX3_knownCures 26 = .ok (.getfield 130, 3) := by decide +kernel
theorem dX3_knownCures_29 : decode cX3_knownCures 29 = .ok (.iload_n 2, 1) := by decide +kernel
theorem dX3_knownCures_30 : decode cX3_knownCures 30 = .ok (.aload_n 0, 1) := by decide +kernel
theorem dX3_knownCures_31 : decode cX3_knownCures 31 = .ok (.getfield 12, 3) := by decide +kernel
theorem dX3_knownCures_34 : decode cX3_knownCures 34 = .ok (.aload_n 0, 1) := by decide +kernel
theorem dX3_knownCures_35 : decode cX3_knownCures 35 = .ok (.getfield 33, 3) := by decide +kernel
theorem dX3_knownCures_38 : decode cX3_knownCures 38 = .ok (.iload_n 2, 1) := by decide +kernel
theorem dX3_knownCures_39 : decode cX3_knownCures 39 = .ok (.invokevirtual 142, 3) := by decide +kernel
theorem dX3_knownCures_42 : decode cX3_knownCures 42 = .ok (.ldc2_w 145, 3) := by decide +kernel
theorem dX3_knownCures_45 : decode cX3_knownCures 45 = .ok (.lxor, 1) := by decide +kernel
theorem dX3_knownCures_46 : decode cX3_knownCures 46 = .ok (.lastore, 1) := by decide +kernel
theorem dX3_knownCures_47 : decode cX3_knownCures 47 = .ok (.iinc 2 1, 3) := by decide +kernel
theorem dX3_knownCures_50 : decode cX3_knownCures 50 = .ok (.goto (-33), 3) := by decide +kernel
theorem dX3_knownCures_53 : decode cX3_knownCures 53 = .ok (.aload_n 0, 1) := by decide +kernel
theorem dX3_knownCures_54 : decode cX3_knownCures 54 = .ok (.getfield 19, 3) := by decide +kernel
theorem dX3_knownCures_57 : decode cX3_knownCures 57 = .ok (.iload_n 1, 1) := by decide +kernel
theorem dX3_knownCures_58 : decode cX3_knownCures 58 = .ok (.aload_n 0, 1) := by decide +kernel
theorem dX3_knownCures_59 : decode cX3_knownCures 59 = .ok (.getfield 30, 3) := by decide +kernel
theorem dX3_knownCures_62 : decode cX3_knownCures 62 = .ok (.invokevirtual 138, 3) := by decide +kernel
theorem dX3_knownCures_65 : decode cX3_knownCures 65 = .ok (.aload_n 0, 1) := by decide +kernel
theorem dX3_knownCures_66 : decode cX3_knownCures 66 = .ok (.iconst 1, 1) := by decide +kernel
theorem dX3_knownCures_67 : decode cX3_knownCures 67 = .ok (.putfield 41, 3) := by decide +kernel
theorem dX3_knownCures_70 : decode cX3_knownCures 70 = .ok (.aload_n 0, 1) := by decide +kernel
theorem dX3_knownCures_71 : decode cX3_knownCures 71 = .ok (.getfield 30, 3) := by decide +kernel
theorem dX3_knownCures_74 : decode cX3_knownCures 74 = .ok (.areturn, 1) := by decide +kernel
theorem dX4_init_0 : decode cX4_init 0 = .ok (.aload_n 0, 1) := by decide +kernel
theorem dX4_init_1 : decode cX4_init 1 = .ok (.invokespecial 1, 3) := by decide +kernel
theorem dX4_init_4 : decode cX4_init 4 = .ok (.aload_n 0, 1) := by decide +kernel
theorem dX4_init_5 : decode cX4_init 5 = .ok (.bipush 14, 2) := by decide +kernel
theorem dX4_init_7 : decode cX4_init 7 = .ok (.newarray .int, 2) := by decide +kernel
theorem dX4_init_9 : decode cX4_init 9 = .ok (.putfield 7, 3) := by decide +kernel
theorem dX4_init_12 : decode cX4_init 12 = .ok (.aload_n 0, 1) := by decide +kernel
theorem dX4_init_13 : decode cX4_init 13 = .ok (.bipush 14, 2) := by decide +kernel
theorem dX4_init_15 : decode cX4_init 15 = .ok (.newarray .int, 2) := by decide +kernel
theorem dX4_init_17 : decode cX4_init 17 = .ok (.putfield 13, 3) := by decide +kernel
theorem dX4_init_20 : decode cX4_init 20 = .ok (.aload_n 0, 1) := by decide +kernel
theorem dX4_init_21 : decode cX4_init 21 = .ok (.bipush 14, 2) := by decide +kernel
theorem dX4_init_23 : decode cX4_init 23 = .ok (.newarray .int, 2) := by decide +kernel
theorem dX4_init_25 : decode cX4_init 25 = .ok (.putfield 16, 3) := by decide +kernel
theorem dX4_init_28 : decode cX4_init 28 = .ok (.aload_n 0, 1) := by decide +kernel
theorem dX4_init_29 : decode cX4_init 29 = .ok (.bipush 14, 2) := by decide +kernel
theorem dX4_init_31 : decode cX4_init 31 = .ok (.newarray .boolean, 2) := by decide +kernel
theorem dX4_init_33 : decode cX4_init 33 = .ok (.putfield 19, 3) := by decide +kernel
theorem dX4_init_36 : decode cX4_init 36 = .ok (.aload_n 0, 1) := by decide +kernel
theorem dX4_init_37 : decode cX4_init 37 = .ok (.sipush 16384, 3) := by decide +kernel
theorem dX4_init_40 : decode cX4_init 40 = .ok (.newarray .boolean, 2) := by decide +kernel
theorem dX4_init_42 : decode cX4_init 42 = .ok (.putfield 23, 3) := by decide +kernel
theorem dX4_init_45 : decode cX4_init 45 = .ok (.aload_n 0, 1) := by decide +kernel
theorem dX4_init_46 : decode cX4_init 46 = .ok (.sipush 4000, 3) := by decide +kernel
theorem dX4_init_49 : decode cX4_init 49 = .ok (.newarray .int, 2) := by decide +kernel
theorem dX4_init_51 : decode cX4_init 51 = .ok (.putfield 26, 3) := by decide +kernel
theorem dX4_init_54 : decode cX4_init 54 = .ok (.aload_n 0, 1) := by decide +kernel
theorem dX4_init_55 : decode cX4_init 55 = .ok (.sipush 4000, 3) := by decide +kernel
theorem dX4_init_58 : decode cX4_init 58 = .ok (.newarray .int, 2) := by decide +kernel
theorem dX4_init_60 : decode cX4_init 60 = .ok (.putfield 29, 3) := by decide +kernel
theorem dX4_init_63 : decode cX4_init 63 = .ok (.return_, 1) := by decide +kernel
theorem dX4_thrown_0 : decode cX4_thrown 0 = .ok (.aload_n 0, 1) := by decide +kernel
theorem dX4_thrown_1 : decode cX4_thrown 1 = .ok (.getfield 32, 3) := by decide +kernel
theorem dX4_thrown_4 : decode cX4_thrown 4 = .ok (.ireturn, 1) := by decide +kernel
theorem dX4_isAxiom_0 : decode cX4_isAxiom 0 = .ok (.iload_n 1, 1) := by decide +kernel
theorem dX4_isAxiom_1 : decode cX4_isAxiom 1 = .ok (.ifCond .lt 15, 3) := by decide +kernel
theorem dX4_isAxiom_4 : decode cX4_isAxiom 4 = .ok (.iload_n 1, 1) := by decide +kernel
theorem dX4_isAxiom_5 : decode cX4_isAxiom 5 = .ok (.aload_n 0, 1) := by decide +kernel
theorem dX4_isAxiom_6 : decode cX4_isAxiom 6 = .ok (.getfield 36, 3) := by decide +kernel
theorem dX4_isAxiom_9 : decode cX4_isAxiom 9 = .ok (.if_icmp .ge 7, 3) := by decide +kernel
theorem dX4_isAxiom_12 : decode cX4_isAxiom 12 = .ok (.iconst 1, 1) := by decide +kernel
theorem dX4_isAxiom_13 : decode cX4_isAxiom 13 = .ok (.goto 4, 3) := by decide +kernel
theorem dX4_isAxiom_16 : decode cX4_isAxiom 16 = .ok (.iconst 0, 1) := by decide +kernel
theorem dX4_isAxiom_17 : decode cX4_isAxiom 17 = .ok (.ireturn, 1) := by decide +kernel
theorem dX4_axiom_0 : decode cX4_axiom 0 = .ok (.aload_n 0, 1) := by decide +kernel
theorem dX4_axiom_1 : decode cX4_axiom 1 = .ok (.iconst 0, 1) := by decide +kernel
theorem dX4_axiom_2 : decode cX4_axiom 2 = .ok (.putfield 32, 3) := by decide +kernel
theorem dX4_axiom_5 : decode cX4_axiom 5 = .ok (.iload_n 1, 1) := by decide +kernel
theorem dX4_axiom_6 : decode cX4_axiom 6 = .ok (.ifCond .lt 19, 3) := by decide +kernel
theorem dX4_axiom_9 : decode cX4_axiom 9 = .ok (.iload_n 1, 1) := by decide +kernel
theorem dX4_axiom_10 : decode cX4_axiom 10 = .ok (.ldc 39, 2) := by decide +kernel
theorem dX4_axiom_12 : decode cX4_axiom 12 = .ok (.if_icmp .ge 13, 3) := by decide +kernel
theorem dX4_axiom_15 : decode cX4_axiom 15 = .ok (.iload_n 2, 1) := by decide +kernel
theorem dX4_axiom_16 : decode cX4_axiom 16 = .ok (.ifCond .lt 9, 3) := by decide +kernel
theorem dX4_axiom_19 : decode cX4_axiom 19 = .ok (.iload_n 2, 1) := by decide +kernel
theorem dX4_axiom_20 : decode cX4_axiom 20 = .ok (.bipush 24, 2) := by decide +kernel
theorem dX4_axiom_22 : decode cX4_axiom 22 = .ok (.if_icmp .lt 5, 3) := by decide +kernel
theorem dX4_axiom_25 : decode cX4_axiom 25 = .ok (.iconst (-1), 1) := by decide +kernel
theorem dX4_axiom_26 : decode cX4_axiom 26 = .ok (.ireturn, 1) := by decide +kernel
theorem dX4_axiom_27 : decode cX4_axiom 27 = .ok (.aload_n 0, 1) := by decide +kernel
theorem dX4_axiom_28 : decode cX4_axiom 28 = .ok (.getfield 36, 3) := by decide +kernel
theorem dX4_axiom_31 : decode cX4_axiom 31 = .ok (.bipush 14, 2) := by decide +kernel
theorem dX4_axiom_33 : decode cX4_axiom 33 = .ok (.if_icmp .ne 6, 3) := by decide +kernel
theorem dX4_axiom_36 : decode cX4_axiom 36 = .ok (.bipush (-3), 2) := by decide +kernel
theorem dX4_axiom_38 : decode cX4_axiom 38 = .ok (.ireturn, 1) := by decide +kernel
theorem dX4_axiom_39 : decode cX4_axiom 39 = .ok (.aload_n 0, 1) := by decide +kernel
theorem dX4_axiom_40 : decode cX4_axiom 40 = .ok (.getfield 7, 3) := by decide +kernel
theorem dX4_axiom_43 : decode cX4_axiom 43 = .ok (.aload_n 0, 1) := by decide +kernel
theorem dX4_axiom_44 : decode cX4_axiom 44 = .ok (.getfield 36, 3) := by decide +kernel
theorem dX4_axiom_47 : decode cX4_axiom 47 = .ok (.iload_n 1, 1) := by decide +kernel
theorem dX4_axiom_48 : decode cX4_axiom 48 = .ok (.iastore, 1) := by decide +kernel
theorem dX4_axiom_49 : decode cX4_axiom 49 = .ok (.aload_n 0, 1) := by decide +kernel
theorem dX4_axiom_50 : decode cX4_axiom 50 = .ok (.getfield 13, 3) := by decide +kernel
theorem dX4_axiom_53 : decode cX4_axiom 53 = .ok (.aload_n 0, 1) := by decide +kernel
theorem dX4_axiom_54 : decode cX4_axiom 54 = .ok (.getfield 36, 3) := by decide +kernel
theorem dX4_axiom_57 : decode cX4_axiom 57 = .ok (.iload_n 2, 1) := by decide +kernel
theorem dX4_axiom_58 : decode cX4_axiom 58 = .ok (.iastore, 1) := by decide +kernel
theorem dX4_axiom_59 : decode cX4_axiom 59 = .ok (.aload_n 0, 1) := by decide +kernel
theorem dX4_axiom_60 : decode cX4_axiom 60 = .ok (.getfield 16, 3) := by decide +kernel
theorem dX4_axiom_63 : decode cX4_axiom 63 = .ok (.aload_n 0, 1) := by decide +kernel
theorem dX4_axiom_64 : decode cX4_axiom 64 = .ok (.getfield 36, 3) := by decide +kernel
theorem dX4_axiom_67 : decode cX4_axiom 67 = .ok (.iconst 1, 1) := by decide +kernel
theorem dX4_axiom_68 : decode cX4_axiom 68 = .ok (.iastore, 1) := by decide +kernel
theorem dX4_axiom_69 : decode cX4_axiom 69 = .ok (.aload_n 0, 1) := by decide +kernel
theorem dX4_axiom_70 : decode cX4_axiom 70 = .ok (.getfield 19, 3) := by decide +kernel
theorem dX4_axiom_73 : decode cX4_axiom 73 = .ok (.aload_n 0, 1) := by decide +kernel
theorem dX4_axiom_74 : decode cX4_axiom 74 = .ok (.getfield 36, 3) := by decide +kernel
theorem dX4_axiom_77 : decode cX4_axiom 77 = .ok (.iconst 0, 1) := by decide +kernel
theorem dX4_axiom_78 : decode cX4_axiom 78 = .ok (.bastore, 1) := by decide +kernel
theorem dX4_axiom_79 : decode cX4_axiom 79 = .ok (.aload_n 0, 1) := by decide +kernel
theorem dX4_axiom_80 : decode cX4_axiom 80 = .ok (.dup, 1) := by decide +kernel
theorem dX4_axiom_81 : decode cX4_axiom 81 = .ok (.getfield 36, 3) := by decide +kernel
theorem dX4_axiom_84 : decode cX4_axiom 84 = .ok (.iconst 1, 1) := by decide +kernel
theorem dX4_axiom_85 : decode cX4_axiom 85 = .ok (.iadd, 1) := by decide +kernel
theorem dX4_axiom_86 : decode cX4_axiom 86 = .ok (.putfield 36, 3) := by decide +kernel
theorem dX4_axiom_89 : decode cX4_axiom 89 = .ok (.aload_n 0, 1) := by decide +kernel
theorem dX4_axiom_90 : decode cX4_axiom 90 = .ok (.iconst 0, 1) := by decide +kernel
theorem dX4_axiom_91 : decode cX4_axiom 91 = .ok (.putfield 40, 3) := by decide +kernel
theorem dX4_axiom_94 : decode cX4_axiom 94 = .ok (.aload_n 0, 1) := by decide +kernel
theorem dX4_axiom_95 : decode cX4_axiom 95 = .ok (.getfield 36, 3) := by decide +kernel
theorem dX4_axiom_98 : decode cX4_axiom 98 = .ok (.iconst 1, 1) := by decide +kernel
theorem dX4_axiom_99 : decode cX4_axiom 99 = .ok (.isub, 1) := by decide +kernel
theorem dX4_axiom_100 : decode cX4_axiom 100 = .ok (.ireturn, 1) := by decide +kernel
set_option maxRecDepth 20000 in
theorem ggX4_drop_X4_isAxiom : GoodIn wsX4_drop wsX4_isAxiom := goodIn_r _ [12, 2, 13, 14, 15, 16, 17, 18, 19, 20, 21, 22, 23, 24, 25, 26] (by decide +kernel) (by decide +kernel)
set_option maxRecDepth 20000 in
theorem gX4_drop_X4_isAxiom : GoodIn wsX4_drop (wsV RX4 44 RX4 yX4_isAxiom wsX4_isAxiom) := goodIn_app (goodIn_of _ (by decide +kernel)) ggX4_drop_X4_isAxiom
theorem dX4_drop_0 : decode cX4_drop 0 = .ok (.aload_n 0, 1) := by decide +kernel
theorem dX4_drop_1 : decode cX4_drop 1 = .ok (.iconst 0, 1) := by decide +kernel
theorem dX4_drop_2 : decode cX4_drop 2 = .ok (.putfield 32, 3) := by decide +kernel
theorem dX4_drop_5 : decode cX4_drop 5 = .ok (.aload_n 0, 1) := by decide +kernel
theorem dX4_drop_6 : decode cX4_drop 6 = .ok (.iload_n 1, 1) := by decide +kernel
theorem dX4_drop_7 : decode cX4_drop 7 = .ok (.invokevirtual 44, 3) := by decide +kernel
theorem dX4_drop_10 : decode cX4_drop 10 = .ok (.ifCond .ne 5, 3) := by decide +kernel
theorem dX4_drop_13 : decode cX4_drop 13 = .ok (.iconst (-1), 1) := by decide +kernel
theorem dX4_drop_14 : decode cX4_drop 14 = .ok (.ireturn, 1) := by decide +kernel
theorem dX4_drop_15 : decode cX4_drop 15 = .ok (.aload_n 0, 1) := by decide +kernel
theorem dX4_drop_16 : decode cX4_drop 16 = .ok (.dup, 1) := by decide +kernel
theorem dX4_drop_17 : decode cX4_drop 17 = .ok (.getfield 36, 3) := by decide +kernel
theorem dX4_drop_20 : decode cX4_drop 20 = .ok (.iconst 1, 1) := by decide +kernel
theorem dX4_drop_21 : decode cX4_drop 21 = .ok (.isub, 1) := by decide +kernel
theorem dX4_drop_22 : decode cX4_drop 22 = .ok (.putfield 36, 3) := by decide +kernel
theorem dX4_drop_25 : decode cX4_drop 25 = .ok (.iload_n 1, 1) := by decide +kernel
theorem dX4_drop_26 : decode cX4_drop 26 = .ok (.istore_n 2, 1) := by decide +kernel
theorem dX4_drop_27 : decode cX4_drop 27 = .ok (.iload_n 2, 1) := by decide +kernel
theorem dX4_drop_28 : decode cX4_drop 28 = .ok (.aload_n 0, 1) := by decide +kernel
theorem dX4_drop_29 : decode cX4_drop 29 = .ok (.getfield 36, 3) := by decide +kernel
theorem dX4_drop_32 : decode cX4_drop 32 = .ok (.if_icmp .ge 65, 3) := by decide +kernel
theorem dX4_drop_35 : decode cX4_drop 35 = .ok (.aload_n 0, 1) := by decide +kernel
theorem dX4_drop_36 : decode cX4_drop 36 = .ok (.getfield 7, 3) := by decide +kernel
theorem dX4_drop_39 : decode cX4_drop 39 = .ok (.iload_n 2, 1) := by decide +kernel
theorem dX4_drop_40 : decode cX4_drop 40 = .ok (.aload_n 0, 1) := by decide +kernel
theorem dX4_drop_41 : decode cX4_drop 41 = .ok (.getfield 7, 3) := by decide +kernel
theorem dX4_drop_44 : decode cX4_drop 44 = .ok (.iload_n 2, 1) := by decide +kernel
theorem dX4_drop_45 : decode cX4_drop 45 = .ok (.iconst 1, 1) := by decide +kernel
theorem dX4_drop_46 : decode cX4_drop 46 = .ok (.iadd, 1) := by decide +kernel
theorem dX4_drop_47 : decode cX4_drop 47 = .ok (.iaload, 1) := by decide +kernel
theorem dX4_drop_48 : decode cX4_drop 48 = .ok (.iastore, 1) := by decide +kernel
theorem dX4_drop_49 : decode cX4_drop 49 = .ok (.aload_n 0, 1) := by decide +kernel
theorem dX4_drop_50 : decode cX4_drop 50 = .ok (.getfield 13, 3) := by decide +kernel
theorem dX4_drop_53 : decode cX4_drop 53 = .ok (.iload_n 2, 1) := by decide +kernel
theorem dX4_drop_54 : decode cX4_drop 54 = .ok (.aload_n 0, 1) := by decide +kernel
theorem dX4_drop_55 : decode cX4_drop 55 = .ok (.getfield 13, 3) := by decide +kernel
theorem dX4_drop_58 : decode cX4_drop 58 = .ok (.iload_n 2, 1) := by decide +kernel
theorem dX4_drop_59 : decode cX4_drop 59 = .ok (.iconst 1, 1) := by decide +kernel
theorem dX4_drop_60 : decode cX4_drop 60 = .ok (.iadd, 1) := by decide +kernel
theorem dX4_drop_61 : decode cX4_drop 61 = .ok (.iaload, 1) := by decide +kernel
theorem dX4_drop_62 : decode cX4_drop 62 = .ok (.iastore, 1) := by decide +kernel
theorem dX4_drop_63 : decode cX4_drop 63 = .ok (.aload_n 0, 1) := by decide +kernel
theorem dX4_drop_64 : decode cX4_drop 64 = .ok (.getfield 16, 3) := by decide +kernel
theorem dX4_drop_67 : decode cX4_drop 67 = .ok (.iload_n 2, 1) := by decide +kernel
theorem dX4_drop_68 : decode cX4_drop 68 = .ok (.aload_n 0, 1) := by decide +kernel
theorem dX4_drop_69 : decode cX4_drop 69 = .ok (.getfield 16, 3) := by decide +kernel
theorem dX4_drop_72 : decode cX4_drop 72 = .ok (.iload_n 2, 1) := by decide +kernel
theorem dX4_drop_73 : decode cX4_drop 73 = .ok (.iconst 1, 1) := by decide +kernel
theorem dX4_drop_74 : decode cX4_drop 74 = .ok (.iadd, 1) := by decide +kernel
theorem dX4_drop_75 : decode cX4_drop 75 = .ok (.iaload, 1) := by decide +kernel
theorem dX4_drop_76 : decode cX4_drop 76 = .ok (.iastore, 1) := by decide +kernel
theorem dX4_drop_77 : decode cX4_drop 77 = .ok (.aload_n 0, 1) := by decide +kernel
theorem dX4_drop_78 : decode cX4_drop 78 = .ok (.getfield 19, 3) := by decide +kernel
theorem dX4_drop_81 : decode cX4_drop 81 = .ok (.iload_n 2, 1) := by decide +kernel
theorem dX4_drop_82 : decode cX4_drop 82 = .ok (.aload_n 0, 1) := by decide +kernel
theorem dX4_drop_83 : decode cX4_drop 83 = .ok (.getfield 19, 3) := by decide +kernel
theorem dX4_drop_86 : decode cX4_drop 86 = .ok (.iload_n 2, 1) := by decide +kernel
theorem dX4_drop_87 : decode cX4_drop 87 = .ok (.iconst 1, 1) := by decide +kernel
theorem dX4_drop_88 : decode cX4_drop 88 = .ok (.iadd, 1) := by decide +kernel
theorem dX4_drop_89 : decode cX4_drop 89 = .ok (.baload, 1) := by decide +kernel
theorem dX4_drop_90 : decode cX4_drop 90 = .ok (.bastore, 1) := by decide +kernel
theorem dX4_drop_91 : decode cX4_drop 91 = .ok (.iinc 2 1, 3) := by decide +kernel
theorem dX4_drop_94 : decode cX4_drop 94 = .ok (.goto (-67), 3) := by decide +kernel
theorem dX4_drop_97 : decode cX4_drop 97 = .ok (.aload_n 0, 1) := by decide +kernel
theorem dX4_drop_98 : decode cX4_drop 98 = .ok (.iconst 0, 1) := by decide +kernel
theorem dX4_drop_99 : decode cX4_drop 99 = .ok (.putfield 40, 3) := by decide +kernel
theorem dX4_drop_102 : decode cX4_drop 102 = .ok (.aload_n 0, 1) := by decide +kernel
theorem dX4_drop_103 : decode cX4_drop 103 = .ok (.getfield 36, 3) := by decide +kernel
theorem dX4_drop_106 : decode cX4_drop 106 = .ok (.ireturn, 1) := by decide +kernel
set_option maxRecDepth 20000 in
theorem ggX4_fix_X4_isAxiom : GoodIn wsX4_fix wsX4_isAxiom := goodIn_r _ [8, 9, 10, 11, 12, 13, 14, 15, 16, 17, 18, 19, 20, 21, 22, 23] (by decide +kernel) (by decide +kernel)
set_option maxRecDepth 20000 in
theorem gX4_fix_X4_isAxiom : GoodIn wsX4_fix (wsV RX4 44 RX4 yX4_isAxiom wsX4_isAxiom) := goodIn_app (goodIn_of _ (by decide +kernel)) ggX4_fix_X4_isAxiom
theorem dX4_fix_0 : decode cX4_fix 0 = .ok (.aload_n 0, 1) := by decide +kernel
theorem dX4_fix_1 : decode cX4_fix 1 = .ok (.iconst 0, 1) := by decide +kernel
theorem dX4_fix_2 : decode cX4_fix 2 = .ok (.putfield 32, 3) := by decide +kernel
theorem dX4_fix_5 : decode cX4_fix 5 = .ok (.aload_n 0, 1) := by decide +kernel
theorem dX4_fix_6 : decode cX4_fix 6 = .ok (.iload_n 1, 1) := by decide +kernel
theorem dX4_fix_7 : decode cX4_fix 7 = .ok (.invokevirtual 44, 3) := by decide +kernel
theorem dX4_fix_10 : decode cX4_fix 10 = .ok (.ifCond .ne 5, 3) := by decide +kernel
theorem dX4_fix_13 : decode cX4_fix 13 = .ok (.iconst (-1), 1) := by decide +kernel
theorem dX4_fix_14 : decode cX4_fix 14 = .ok (.ireturn, 1) := by decide +kernel
theorem dX4_fix_15 : decode cX4_fix 15 = .ok (.aload_n 0, 1) := by decide +kernel
theorem dX4_fix_16 : decode cX4_fix 16 = .ok (.getfield 19, 3) := by decide +kernel
theorem dX4_fix_19 : decode cX4_fix 19 = .ok (.iload_n 1, 1) := by decide +kernel
theorem dX4_fix_20 : decode cX4_fix 20 = .ok (.baload, 1) := by decide +kernel
theorem dX4_fix_21 : decode cX4_fix 21 = .ok (.ifCond .eq 7, 3) := by decide +kernel
theorem dX4_fix_24 : decode cX4_fix 24 = .ok (.iconst 1, 1) := by decide +kernel
theorem dX4_fix_25 : decode cX4_fix 25 = .ok (.goto 4, 3) := by decide +kernel
theorem dX4_fix_28 : decode cX4_fix 28 = .ok (.iconst 0, 1) := by decide +kernel
theorem dX4_fix_29 : decode cX4_fix 29 = .ok (.istore_n 3, 1) := by decide +kernel
theorem dX4_fix_30 : decode cX4_fix 30 = .ok (.aload_n 0, 1) := by decide +kernel
theorem dX4_fix_31 : decode cX4_fix 31 = .ok (.getfield 19, 3) := by decide +kernel
theorem dX4_fix_34 : decode cX4_fix 34 = .ok (.iload_n 1, 1) := by decide +kernel
theorem dX4_fix_35 : decode cX4_fix 35 = .ok (.iload_n 2, 1) := by decide +kernel
theorem dX4_fix_36 : decode cX4_fix 36 = .ok (.bastore, 1) := by decide +kernel
theorem dX4_fix_37 : decode cX4_fix 37 = .ok (.aload_n 0, 1) := by decide +kernel
theorem dX4_fix_38 : decode cX4_fix 38 = .ok (.iconst 0, 1) := by decide +kernel
theorem dX4_fix_39 : decode cX4_fix 39 = .ok (.putfield 40, 3) := by decide +kernel
theorem dX4_fix_42 : decode cX4_fix 42 = .ok (.iload_n 3, 1) := by decide +kernel
theorem dX4_fix_43 : decode cX4_fix 43 = .ok (.ireturn, 1) := by decide +kernel
set_option maxRecDepth 20000 in
theorem ggX4_weight_X4_isAxiom : GoodIn wsX4_weight wsX4_isAxiom := goodIn_r _ [7, 8, 9, 10, 11, 12, 13, 14, 15, 16, 17, 18, 19, 20, 21, 22] (by decide +kernel) (by decide +kernel)
set_option maxRecDepth 20000 in
theorem gX4_weight_X4_isAxiom : GoodIn wsX4_weight (wsV RX4 44 RX4 yX4_isAxiom wsX4_isAxiom) := goodIn_app (goodIn_of _ (by decide +kernel)) ggX4_weight_X4_isAxiom
theorem dX4_weight_0 : decode cX4_weight 0 = .ok (.aload_n 0, 1) := by decide +kernel
theorem dX4_weight_1 : decode cX4_weight 1 = .ok (.iconst 0, 1) := by decide +kernel
theorem dX4_weight_2 : decode cX4_weight 2 = .ok (.putfield 32, 3) := by decide +kernel
theorem dX4_weight_5 : decode cX4_weight 5 = .ok (.aload_n 0, 1) := by decide +kernel
theorem dX4_weight_6 : decode cX4_weight 6 = .ok (.iload_n 1, 1) := by decide +kernel
theorem dX4_weight_7 : decode cX4_weight 7 = .ok (.invokevirtual 44, 3) := by decide +kernel
theorem dX4_weight_10 : decode cX4_weight 10 = .ok (.ifCond .eq 14, 3) := by decide +kernel
theorem dX4_weight_13 : decode cX4_weight 13 = .ok (.iload_n 2, 1) := by decide +kernel
theorem dX4_weight_14 : decode cX4_weight 14 = .ok (.ifCond .lt 10, 3) := by decide +kernel
theorem dX4_weight_17 : decode cX4_weight 17 = .ok (.iload_n 2, 1) := by decide +kernel
theorem dX4_weight_18 : decode cX4_weight 18 = .ok (.sipush 1000, 3) := by decide +kernel
theorem dX4_weight_21 : decode cX4_weight 21 = .ok (.if_icmp .le 5, 3) := by decide +kernel
theorem dX4_weight_24 : decode cX4_weight 24 = .ok (.iconst (-1), 1) := by decide +kernel
theorem dX4_weight_25 : decode cX4_weight 25 = .ok (.ireturn, 1) := by decide +kernel
theorem dX4_weight_26 : decode cX4_weight 26 = .ok (.aload_n 0, 1) := by decide +kernel
theorem dX4_weight_27 : decode cX4_weight 27 = .ok (.getfield 16, 3) := by decide +kernel
theorem dX4_weight_30 : decode cX4_weight 30 = .ok (.iload_n 1, 1) := by decide +kernel
theorem dX4_weight_31 : decode cX4_weight 31 = .ok (.iaload, 1) := by decide +kernel
theorem dX4_weight_32 : decode cX4_weight 32 = .ok (.istore_n 3, 1) := by decide +kernel
theorem dX4_weight_33 : decode cX4_weight 33 = .ok (.aload_n 0, 1) := by decide +kernel
theorem dX4_weight_34 : decode cX4_weight 34 = .ok (.getfield 16, 3) := by decide +kernel
theorem dX4_weight_37 : decode cX4_weight 37 = .ok (.iload_n 1, 1) := by decide +kernel
theorem dX4_weight_38 : decode cX4_weight 38 = .ok (.iload_n 2, 1) := by decide +kernel
theorem dX4_weight_39 : decode cX4_weight 39 = .ok (.iastore, 1) := by decide +kernel
theorem dX4_weight_40 : decode cX4_weight 40 = .ok (.iload_n 3, 1) := by decide +kernel
theorem dX4_weight_41 : decode cX4_weight 41 = .ok (.ireturn, 1) := by decide +kernel
theorem dX4_goal_0 : decode cX4_goal 0 = .ok (.aload_n 0, 1) := by decide +kernel
theorem dX4_goal_1 : decode cX4_goal 1 = .ok (.iconst 0, 1) := by decide +kernel
theorem dX4_goal_2 : decode cX4_goal 2 = .ok (.putfield 32, 3) := by decide +kernel
theorem dX4_goal_5 : decode cX4_goal 5 = .ok (.iload_n 1, 1) := by decide +kernel
theorem dX4_goal_6 : decode cX4_goal 6 = .ok (.ifCond .lt 9, 3) := by decide +kernel
theorem dX4_goal_9 : decode cX4_goal 9 = .ok (.iload_n 1, 1) := by decide +kernel
theorem dX4_goal_10 : decode cX4_goal 10 = .ok (.bipush 24, 2) := by decide +kernel
theorem dX4_goal_12 : decode cX4_goal 12 = .ok (.if_icmp .lt 5, 3) := by decide +kernel
theorem dX4_goal_15 : decode cX4_goal 15 = .ok (.iconst (-1), 1) := by decide +kernel
theorem dX4_goal_16 : decode cX4_goal 16 = .ok (.ireturn, 1) := by decide +kernel
theorem dX4_goal_17 : decode cX4_goal 17 = .ok (.aload_n 0, 1) := by decide +kernel
theorem dX4_goal_18 : decode cX4_goal 18 = .ok (.getfield 48, 3) := by decide +kernel
theorem dX4_goal_21 : decode cX4_goal 21 = .ok (.istore_n 2, 1) := by decide +kernel
theorem dX4_goal_22 : decode cX4_goal 22 = .ok (.aload_n 0, 1) := by decide +kernel
theorem dX4_goal_23 : decode cX4_goal 23 = .ok (.iload_n 1, 1) := by decide +kernel
theorem dX4_goal_24 : decode cX4_goal 24 = .ok (.putfield 48, 3) := by decide +kernel
theorem dX4_goal_27 : decode cX4_goal 27 = .ok (.aload_n 0, 1) := by decide +kernel
theorem dX4_goal_28 : decode cX4_goal 28 = .ok (.iconst 0, 1) := by decide +kernel
theorem dX4_goal_29 : decode cX4_goal 29 = .ok (.putfield 40, 3) := by decide +kernel
theorem dX4_goal_32 : decode cX4_goal 32 = .ok (.iload_n 2, 1) := by decide +kernel
theorem dX4_goal_33 : decode cX4_goal 33 = .ok (.ireturn, 1) := by decide +kernel
theorem dX4_reckon_0 : decode cX4_reckon 0 = .ok (.iconst 0, 1) := by decide +kernel
theorem dX4_reckon_1 : decode cX4_reckon 1 = .ok (.istore_n 2, 1) := by decide +kernel
theorem dX4_reckon_2 : decode cX4_reckon 2 = .ok (.iconst 0, 1) := by decide +kernel
theorem dX4_reckon_3 : decode cX4_reckon 3 = .ok (.istore_n 3, 1) := by decide +kernel
theorem dX4_reckon_4 : decode cX4_reckon 4 = .ok (.aload_n 0, 1) := by decide +kernel
theorem dX4_reckon_5 : decode cX4_reckon 5 = .ok (.iconst 0, 1) := by decide +kernel
theorem dX4_reckon_6 : decode cX4_reckon 6 = .ok (.putfield 51, 3) := by decide +kernel
theorem dX4_reckon_9 : decode cX4_reckon 9 = .ok (.iconst 1, 1) := by decide +kernel
theorem dX4_reckon_10 : decode cX4_reckon 10 = .ok (.istore 4, 2) := by decide +kernel
theorem dX4_reckon_12 : decode cX4_reckon 12 = .ok (.iload 4, 2) := by decide +kernel
theorem dX4_reckon_14 : decode cX4_reckon 14 = .ok (.ifCond .eq 113, 3) := by decide +kernel
theorem dX4_reckon_17 : decode cX4_reckon 17 = .ok (.iinc 3 1, 3) := by decide +kernel
theorem dX4_reckon_20 : decode cX4_reckon 20 = .ok (.iload_n 2, 1) := by decide +kernel
theorem dX4_reckon_21 : decode cX4_reckon 21 = .ok (.istore 5, 2) := by decide +kernel
theorem dX4_reckon_23 : decode cX4_reckon 23 = .ok (.iconst 0, 1) := by decide +kernel
theorem dX4_reckon_24 : decode cX4_reckon 24 = .ok (.istore 6, 2) := by decide +kernel
theorem dX4_reckon_26 : decode cX4_reckon 26 = .ok (.iload 6, 2) := by decide +kernel
theorem dX4_reckon_28 : decode cX4_reckon 28 = .ok (.aload_n 0, 1) := by decide +kernel
theorem dX4_reckon_29 : decode cX4_reckon 29 = .ok (.getfield 36, 3) := by decide +kernel
theorem dX4_reckon_32 : decode cX4_reckon 32 = .ok (.if_icmp .ge 52, 3) := by decide +kernel
theorem dX4_reckon_35 : decode cX4_reckon 35 = .ok (.iload_n 1, 1) := by decide +kernel
theorem dX4_reckon_36 : decode cX4_reckon 36 = .ok (.iload 6, 2) := by decide +kernel
theorem dX4_reckon_38 : decode cX4_reckon 38 = .ok (.ishr, 1) := by decide +kernel
theorem dX4_reckon_39 : decode cX4_reckon 39 = .ok (.iconst 1, 1) := by decide +kernel
theorem dX4_reckon_40 : decode cX4_reckon 40 = .ok (.iand, 1) := by decide +kernel
theorem dX4_reckon_41 : decode cX4_reckon 41 = .ok (.iconst 1, 1) := by decide +kernel
theorem dX4_reckon_42 : decode cX4_reckon 42 = .ok (.if_icmp .ne 36, 3) := by decide +kernel
theorem dX4_reckon_45 : decode cX4_reckon 45 = .ok (.aload_n 0, 1) := by decide +kernel
theorem dX4_reckon_46 : decode cX4_reckon 46 = .ok (.getfield 7, 3) := by decide +kernel
theorem dX4_reckon_49 : decode cX4_reckon 49 = .ok (.iload 6, 2) := by decide +kernel
theorem dX4_reckon_51 : decode cX4_reckon 51 = .ok (.iaload, 1) := by decide +kernel
theorem dX4_reckon_52 : decode cX4_reckon 52 = .ok (.iload_n 2, 1) := by decide +kernel
theorem dX4_reckon_53 : decode cX4_reckon 53 = .ok (.iand, 1) := by decide +kernel
theorem dX4_reckon_54 : decode cX4_reckon 54 = .ok (.aload_n 0, 1) := by decide +kernel
theorem dX4_reckon_55 : decode cX4_reckon 55 = .ok (.getfield 7, 3) := by decide +kernel
theorem dX4_reckon_58 : decode cX4_reckon 58 = .ok (.iload 6, 2) := by decide +kernel
theorem dX4_reckon_60 : decode cX4_reckon 60 = .ok (.iaload, 1) := by decide +kernel
theorem dX4_reckon_61 : decode cX4_reckon 61 = .ok (.if_icmp .ne 17, 3) := by decide +kernel
theorem dX4_reckon_64 : decode cX4_reckon 64 = .ok (.iload 5, 2) := by decide +kernel
theorem dX4_reckon_66 : decode cX4_reckon 66 = .ok (.iconst 1, 1) := by decide +kernel
theorem dX4_reckon_67 : decode cX4_reckon 67 = .ok (.aload_n 0, 1) := by decide +kernel
theorem dX4_reckon_68 : decode cX4_reckon 68 = .ok (.getfield 13, 3) := by decide +kernel
theorem dX4_reckon_71 : decode cX4_reckon 71 = .ok (.iload 6, 2) := by decide +kernel
theorem dX4_reckon_73 : decode cX4_reckon 73 = .ok (.iaload, 1) := by decide +kernel
theorem dX4_reckon_74 : decode cX4_reckon 74 = .ok (.ishl, 1) := by decide +kernel
theorem dX4_reckon_75 : decode cX4_reckon 75 = .ok (.ior, 1) := by decide +kernel
theorem dX4_reckon_76 : decode cX4_reckon 76 = .ok (.istore 5, 2) := by decide +kernel
theorem dX4_reckon_78 : decode cX4_reckon 78 = .ok (.iinc 6 1, 3) := by decide +kernel
theorem dX4_reckon_81 : decode cX4_reckon 81 = .ok (.goto (-55), 3) := by decide +kernel
theorem dX4_reckon_84 : decode cX4_reckon 84 = .ok (.iload 5, 2) := by decide +kernel
theorem dX4_reckon_86 : decode cX4_reckon 86 = .ok (.iload_n 2, 1) := by decide +kernel
theorem dX4_reckon_87 : decode cX4_reckon 87 = .ok (.if_icmp .eq 7, 3) := by decide +kernel
theorem dX4_reckon_90 : decode cX4_reckon 90 = .ok (.iconst 1, 1) := by decide +kernel
theorem dX4_reckon_91 : decode cX4_reckon 91 = .ok (.goto 4, 3) := by decide +kernel
theorem dX4_reckon_94 : decode cX4_reckon 94 = .ok (.iconst 0, 1) := by decide +kernel
theorem dX4_reckon_95 : decode cX4_reckon 95 = .ok (.istore 4, 2) := by decide +kernel
theorem dX4_reckon_97 : decode cX4_reckon 97 = .ok (.iload 5, 2) := by decide +kernel
theorem dX4_reckon_99 : decode cX4_reckon 99 = .ok (.istore_n 2, 1) := by decide +kernel
theorem dX4_reckon_100 : decode cX4_reckon 100 = .ok (.aload_n 0, 1) := by decide +kernel
theorem dX4_reckon_101 : decode cX4_reckon 101 = .ok (.getfield 51, 3) := by decide +kernel
theorem dX4_reckon_104 : decode cX4_reckon 104 = .ok (.ifCond .ne 20, 3) := by decide +kernel
theorem dX4_reckon_107 : decode cX4_reckon 107 = .ok (.iload_n 2, 1) := by decide +kernel
theorem dX4_reckon_108 : decode cX4_reckon 108 = .ok (.aload_n 0, 1) := by decide +kernel
theorem dX4_reckon_109 : decode cX4_reckon 109 = .ok (.getfield 48, 3) := by decide +kernel
theorem dX4_reckon_112 : decode cX4_reckon 112 = .ok (.ishr, 1) := by decide +kernel
theorem dX4_reckon_113 : decode cX4_reckon 113 = .ok (.iconst 1, 1) := by decide +kernel
theorem dX4_reckon_114 : decode cX4_reckon 114 = .ok (.iand, 1) := by decide +kernel
theorem dX4_reckon_115 : decode cX4_reckon 115 = .ok (.iconst 1, 1) := by decide +kernel
theorem dX4_reckon_116 : decode cX4_reckon 116 = .ok (.if_icmp .ne 8, 3) := by decide +kernel
theorem dX4_reckon_119 : decode cX4_reckon 119 = .ok (.aload_n 0, 1) := by decide +kernel
theorem dX4_reckon_120 : decode cX4_reckon 120 = .ok (.iload_n 3, 1) := by decide +kernel
theorem dX4_reckon_121 : decode cX4_reckon 121 = .ok (.putfield 51, 3) := by decide +kernel
theorem dX4_reckon_124 : decode cX4_reckon 124 = .ok (.goto (-112), 3) := by decide +kernel
theorem dX4_reckon_127 : decode cX4_reckon 127 = .ok (.iload_n 2, 1) := by decide +kernel
theorem dX4_reckon_128 : decode cX4_reckon 128 = .ok (.ireturn, 1) := by decide +kernel
set_option maxRecDepth 20000 in
theorem ggX4_follow_X4_reckon : GoodIn wsX4_follow wsX4_reckon := goodIn_r _ [6, 7, 8, 9, 10, 11, 12, 13, 14, 15, 16, 17, 18, 19, 20, 21, 22, 23, 24, 25] (by decide +kernel) (by decide +kernel)
set_option maxRecDepth 20000 in
theorem gX4_follow_X4_reckon : GoodIn wsX4_follow (wsV RX4 54 RX4 yX4_reckon wsX4_reckon) := goodIn_app (goodIn_of _ (by decide +kernel)) ggX4_follow_X4_reckon
theorem dX4_follow_0 : decode cX4_follow 0 = .ok (.aload_n 0, 1) := by decide +kernel
theorem dX4_follow_1 : decode cX4_follow 1 = .ok (.iconst 0, 1) := by decide +kernel
theorem dX4_follow_2 : decode cX4_follow 2 = .ok (.putfield 32, 3) := by decide +kernel
theorem dX4_follow_5 : decode cX4_follow 5 = .ok (.aload_n 0, 1) := by decide +kernel
theorem dX4_follow_6 : decode cX4_follow 6 = .ok (.iload_n 1, 1) := by decide +kernel
theorem dX4_follow_7 : decode cX4_follow 7 = .ok (.invokevirtual 54, 3) := by decide +kernel
theorem dX4_follow_10 : decode cX4_follow 10 = .ok (.ireturn, 1) := by decide +kernel
set_option maxRecDepth 20000 in
theorem ggX4_steps_X4_reckon : GoodIn wsX4_steps wsX4_reckon := goodIn_r _ [7, 2, 8, 9, 10, 11, 12, 13, 14, 15, 16, 17, 18, 19, 20, 21, 22, 23, 24, 25] (by decide +kernel) (by decide +kernel)
set_option maxRecDepth 20000 in
theorem gX4_steps_X4_reckon : GoodIn wsX4_steps (wsV RX4 54 RX4 yX4_reckon wsX4_reckon) := goodIn_app (goodIn_of _ (by decide +kernel)) ggX4_steps_X4_reckon
theorem dX4_steps_0 : decode cX4_steps 0 = .ok (.aload_n 0, 1) := by decide +kernel
theorem dX4_steps_1 : decode cX4_steps 1 = .ok (.iconst 0, 1) := by decide +kernel
theorem dX4_steps_2 : decode cX4_steps 2 = .ok (.putfield 32, 3) := by decide +kernel
theorem dX4_steps_5 : decode cX4_steps 5 = .ok (.aload_n 0, 1) := by decide +kernel
theorem dX4_steps_6 : decode cX4_steps 6 = .ok (.iload_n 1, 1) := by decide +kernel
theorem dX4_steps_7 : decode cX4_steps 7 = .ok (.invokevirtual 54, 3) := by decide +kernel
theorem dX4_steps_10 : decode cX4_steps 10 = .ok (.pop, 1) := by decide +kernel
theorem dX4_steps_11 : decode cX4_steps 11 = .ok (.aload_n 0, 1) := by decide +kernel
theorem dX4_steps_12 : decode cX4_steps 12 = .ok (.getfield 51, 3) := by decide +kernel
theorem dX4_steps_15 : decode cX4_steps 15 = .ok (.ireturn, 1) := by decide +kernel
set_option maxRecDepth 20000 in
theorem ggX4_fact_X4_reckon : GoodIn wsX4_fact wsX4_reckon := goodIn_r _ [6, 7, 8, 9, 10, 11, 12, 13, 14, 15, 16, 17, 18, 19, 20, 21, 22, 23, 24, 25] (by decide +kernel) (by decide +kernel)
set_option maxRecDepth 20000 in
theorem gX4_fact_X4_reckon : GoodIn wsX4_fact (wsV RX4 54 RX4 yX4_reckon wsX4_reckon) := goodIn_app (goodIn_of _ (by decide +kernel)) ggX4_fact_X4_reckon
theorem dX4_fact_0 : decode cX4_fact 0 = .ok (.aload_n 0, 1) := by decide +kernel
theorem dX4_fact_1 : decode cX4_fact 1 = .ok (.iconst (-1), 1) := by decide +kernel
theorem dX4_fact_2 : decode cX4_fact 2 = .ok (.invokevirtual 54, 3) := by decide +kernel
theorem dX4_fact_5 : decode cX4_fact 5 = .ok (.istore_n 2, 1) := by decide +kernel
theorem dX4_fact_6 : decode cX4_fact 6 = .ok (.iload_n 1, 1) := by decide +kernel
theorem dX4_fact_7 : decode cX4_fact 7 = .ok (.istore_n 3, 1) := by decide +kernel
theorem dX4_fact_8 : decode cX4_fact 8 = .ok (.iconst 0, 1) := by decide +kernel
theorem dX4_fact_9 : decode cX4_fact 9 = .ok (.istore 4, 2) := by decide +kernel
theorem dX4_fact_11 : decode cX4_fact 11 = .ok (.iload 4, 2) := by decide +kernel
theorem dX4_fact_13 : decode cX4_fact 13 = .ok (.bipush 24, 2) := by decide +kernel
theorem dX4_fact_15 : decode cX4_fact 15 = .ok (.if_icmp .ge 40, 3) := by decide +kernel
theorem dX4_fact_18 : decode cX4_fact 18 = .ok (.iload_n 1, 1) := by decide +kernel
theorem dX4_fact_19 : decode cX4_fact 19 = .ok (.ifCond .lt 36, 3) := by decide +kernel
theorem dX4_fact_22 : decode cX4_fact 22 = .ok (.iload_n 2, 1) := by decide +kernel
theorem dX4_fact_23 : decode cX4_fact 23 = .ok (.iload 4, 2) := by decide +kernel
theorem dX4_fact_25 : decode cX4_fact 25 = .ok (.ishr, 1) := by decide +kernel
theorem dX4_fact_26 : decode cX4_fact 26 = .ok (.iconst 1, 1) := by decide +kernel
theorem dX4_fact_27 : decode cX4_fact 27 = .ok (.iand, 1) := by decide +kernel
theorem dX4_fact_28 : decode cX4_fact 28 = .ok (.ifCond .ne 6, 3) := by decide +kernel
theorem dX4_fact_31 : decode cX4_fact 31 = .ok (.goto 18, 3) := by decide +kernel
theorem dX4_fact_34 : decode cX4_fact 34 = .ok (.iload_n 3, 1) := by decide +kernel
theorem dX4_fact_35 : decode cX4_fact 35 = .ok (.ifCond .ne 11, 3) := by decide +kernel
theorem dX4_fact_38 : decode cX4_fact 38 = .ok (.aload_n 0, 1) := by decide +kernel
theorem dX4_fact_39 : decode cX4_fact 39 = .ok (.iconst 0, 1) := by decide +kernel
theorem dX4_fact_40 : decode cX4_fact 40 = .ok (.putfield 32, 3) := by decide +kernel
theorem dX4_fact_43 : decode cX4_fact 43 = .ok (.iload 4, 2) := by decide +kernel
theorem dX4_fact_45 : decode cX4_fact 45 = .ok (.ireturn, 1) := by decide +kernel
theorem dX4_fact_46 : decode cX4_fact 46 = .ok (.iinc 3 (-1), 3) := by decide +kernel
theorem dX4_fact_49 : decode cX4_fact 49 = .ok (.iinc 4 1, 3) := by decide +kernel
theorem dX4_fact_52 : decode cX4_fact 52 = .ok (.goto (-41), 3) := by decide +kernel
theorem dX4_fact_55 : decode cX4_fact 55 = .ok (.aload_n 0, 1) := by decide +kernel
theorem dX4_fact_56 : decode cX4_fact 56 = .ok (.iconst 1, 1) := by decide +kernel
theorem dX4_fact_57 : decode cX4_fact 57 = .ok (.putfield 32, 3) := by decide +kernel
theorem dX4_fact_60 : decode cX4_fact 60 = .ok (.iconst 0, 1) := by decide +kernel
theorem dX4_fact_61 : decode cX4_fact 61 = .ok (.ireturn, 1) := by decide +kernel
theorem dX4_size_0 : decode cX4_size 0 = .ok (.iconst 0, 1) := by decide +kernel
theorem dX4_size_1 : decode cX4_size 1 = .ok (.istore_n 1, 1) := by decide +kernel
theorem dX4_size_2 : decode cX4_size 2 = .ok (.iload_n 0, 1) := by decide +kernel
theorem dX4_size_3 : decode cX4_size 3 = .ok (.istore_n 2, 1) := by decide +kernel
theorem dX4_size_4 : decode cX4_size 4 = .ok (.iload_n 2, 1) := by decide +kernel
theorem dX4_size_5 : decode cX4_size 5 = .ok (.ifCond .le 16, 3) := by decide +kernel
theorem dX4_size_8 : decode cX4_size 8 = .ok (.iload_n 1, 1) := by decide +kernel
theorem dX4_size_9 : decode cX4_size 9 = .ok (.iload_n 2, 1) := by decide +kernel
theorem dX4_size_10 : decode cX4_size 10 = .ok (.iconst 2, 1) := by decide +kernel
theorem dX4_size_11 : decode cX4_size 11 = .ok (.irem, 1) := by decide +kernel
theorem dX4_size_12 : decode cX4_size 12 = .ok (.iadd, 1) := by decide +kernel
theorem dX4_size_13 : decode cX4_size 13 = .ok (.istore_n 1, 1) := by decide +kernel
theorem dX4_size_14 : decode cX4_size 14 = .ok (.iload_n 2, 1) := by decide +kernel
theorem dX4_size_15 : decode cX4_size 15 = .ok (.iconst 2, 1) := by decide +kernel
theorem dX4_size_16 : decode cX4_size 16 = .ok (.idiv, 1) := by decide +kernel
theorem dX4_size_17 : decode cX4_size 17 = .ok (.istore_n 2, 1) := by decide +kernel
theorem dX4_size_18 : decode cX4_size 18 = .ok (.goto (-14), 3) := by decide +kernel
theorem dX4_size_21 : decode cX4_size 21 = .ok (.iload_n 1, 1) := by decide +kernel
theorem dX4_size_22 : decode cX4_size 22 = .ok (.ireturn, 1) := by decide +kernel
theorem dX4_isCause_0 : decode cX4_isCause 0 = .ok (.aload_n 0, 1) := by decide +kernel
theorem dX4_isCause_1 : decode cX4_isCause 1 = .ok (.getfield 23, 3) := by decide +kernel
theorem dX4_isCause_4 : decode cX4_isCause 4 = .ok (.iload_n 1, 1) := by decide +kernel
theorem dX4_isCause_5 : decode cX4_isCause 5 = .ok (.baload, 1) := by decide +kernel
theorem dX4_isCause_6 : decode cX4_isCause 6 = .ok (.istore_n 2, 1) := by decide +kernel
theorem dX4_isCause_7 : decode cX4_isCause 7 = .ok (.iconst 0, 1) := by decide +kernel
theorem dX4_isCause_8 : decode cX4_isCause 8 = .ok (.istore_n 3, 1) := by decide +kernel
theorem dX4_isCause_9 : decode cX4_isCause 9 = .ok (.iload_n 3, 1) := by decide +kernel
theorem dX4_isCause_10 : decode cX4_isCause 10 = .ok (.aload_n 0, 1) := by decide +kernel
theorem dX4_isCause_11 : decode cX4_isCause 11 = .ok (.getfield 36, 3) := by decide +kernel
theorem dX4_isCause_14 : decode cX4_isCause 14 = .ok (.if_icmp .ge 40, 3) := by decide +kernel
theorem dX4_isCause_17 : decode cX4_isCause 17 = .ok (.iload_n 2, 1) := by decide +kernel
theorem dX4_isCause_18 : decode cX4_isCause 18 = .ok (.ifCond .eq 36, 3) := by decide +kernel
theorem dX4_isCause_21 : decode cX4_isCause 21 = .ok (.iload_n 1, 1) := by decide +kernel
theorem dX4_isCause_22 : decode cX4_isCause 22 = .ok (.iload_n 3, 1) := by decide +kernel
theorem dX4_isCause_23 : decode cX4_isCause 23 = .ok (.ishr, 1) := by decide +kernel
theorem dX4_isCause_24 : decode cX4_isCause 24 = .ok (.iconst 1, 1) := by decide +kernel
theorem dX4_isCause_25 : decode cX4_isCause 25 = .ok (.iand, 1) := by decide +kernel
theorem dX4_isCause_26 : decode cX4_isCause 26 = .ok (.ifCond .eq 16, 3) := by decide +kernel
theorem dX4_isCause_29 : decode cX4_isCause 29 = .ok (.aload_n 0, 1) := by decide +kernel
theorem dX4_isCause_30 : decode cX4_isCause 30 = .ok (.getfield 23, 3) := by decide +kernel
theorem dX4_isCause_33 : decode cX4_isCause 33 = .ok (.iload_n 1, 1) := by decide +kernel
theorem dX4_isCause_34 : decode cX4_isCause 34 = .ok (.iconst 1, 1) := by decide +kernel
theorem dX4_isCause_35 : decode cX4_isCause 35 = .ok (.iload_n 3, 1) := by decide +kernel
theorem dX4_isCause_36 : decode cX4_isCause 36 = .ok (.ishl, 1) := by decide +kernel
theorem dX4_isCause_37 : decode cX4_isCause 37 = .ok (.ixor, 1) := by decide +kernel
theorem dX4_isCause_38 : decode cX4_isCause 38 = .ok (.baload, 1) := by decide +kernel
theorem dX4_isCause_39 : decode cX4_isCause 39 = .ok (.ifCond .ne 7, 3) := by decide +kernel
theorem dX4_isCause_42 : decode cX4_isCause 42 = .ok (.iconst 1, 1) := by decide +kernel
theorem dX4_isCause_43 : decode cX4_isCause 43 = .ok (.goto 4, 3) := by decide +kernel
theorem dX4_isCause_46 : decode cX4_isCause 46 = .ok (.iconst 0, 1) := by decide +kernel
theorem dX4_isCause_47 : decode cX4_isCause 47 = .ok (.istore_n 2, 1) := by decide +kernel
theorem dX4_isCause_48 : decode cX4_isCause 48 = .ok (.iinc 3 1, 3) := by decide +kernel
theorem dX4_isCause_51 : decode cX4_isCause 51 = .ok (.goto (-42), 3) := by decide +kernel
theorem dX4_isCause_54 : decode cX4_isCause 54 = .ok (.iload_n 2, 1) := by decide +kernel
theorem dX4_isCause_55 : decode cX4_isCause 55 = .ok (.ireturn, 1) := by decide +kernel
theorem dX4_isCure_0 : decode cX4_isCure 0 = .ok (.aload_n 0, 1) := by decide +kernel
theorem dX4_isCure_1 : decode cX4_isCure 1 = .ok (.getfield 23, 3) := by decide +kernel
theorem dX4_isCure_4 : decode cX4_isCure 4 = .ok (.iload_n 2, 1) := by decide +kernel
theorem dX4_isCure_5 : decode cX4_isCure 5 = .ok (.iload_n 1, 1) := by decide +kernel
theorem dX4_isCure_6 : decode cX4_isCure 6 = .ok (.ixor, 1) := by decide +kernel
theorem dX4_isCure_7 : decode cX4_isCure 7 = .ok (.baload, 1) := by decide +kernel
theorem dX4_isCure_8 : decode cX4_isCure 8 = .ok (.ifCond .ne 7, 3) := by decide +kernel
theorem dX4_isCure_11 : decode cX4_isCure 11 = .ok (.iconst 1, 1) := by decide +kernel
theorem dX4_isCure_12 : decode cX4_isCure 12 = .ok (.goto 4, 3) := by decide +kernel
theorem dX4_isCure_15 : decode cX4_isCure 15 = .ok (.iconst 0, 1) := by decide +kernel
theorem dX4_isCure_16 : decode cX4_isCure 16 = .ok (.istore_n 3, 1) := by decide +kernel
theorem dX4_isCure_17 : decode cX4_isCure 17 = .ok (.iconst 0, 1) := by decide +kernel
theorem dX4_isCure_18 : decode cX4_isCure 18 = .ok (.istore 4, 2) := by decide +kernel
theorem dX4_isCure_20 : decode cX4_isCure 20 = .ok (.iload 4, 2) := by decide +kernel
theorem dX4_isCure_22 : decode cX4_isCure 22 = .ok (.aload_n 0, 1) := by decide +kernel
theorem dX4_isCure_23 : decode cX4_isCure 23 = .ok (.getfield 36, 3) := by decide +kernel
theorem dX4_isCure_26 : decode cX4_isCure 26 = .ok (.if_icmp .ge 54, 3) := by decide +kernel
theorem dX4_isCure_29 : decode cX4_isCure 29 = .ok (.iload_n 3, 1) := by decide +kernel
theorem dX4_isCure_30 : decode cX4_isCure 30 = .ok (.ifCond .eq 50, 3) := by decide +kernel
theorem dX4_isCure_33 : decode cX4_isCure 33 = .ok (.iload_n 1, 1) := by decide +kernel
theorem dX4_isCure_34 : decode cX4_isCure 34 = .ok (.iload 4, 2) := by decide +kernel
theorem dX4_isCure_36 : decode cX4_isCure 36 = .ok (.ishr, 1) := by decide +kernel
theorem dX4_isCure_37 : decode cX4_isCure 37 = .ok (.iconst 1, 1) := by decide +kernel
theorem dX4_isCure_38 : decode cX4_isCure 38 = .ok (.iand, 1) := by decide +kernel
theorem dX4_isCure_39 : decode cX4_isCure 39 = .ok (.ifCond .eq 29, 3) := by decide +kernel
theorem dX4_isCure_42 : decode cX4_isCure 42 = .ok (.aload_n 0, 1) := by decide +kernel
theorem dX4_isCure_43 : decode cX4_isCure 43 = .ok (.getfield 19, 3) := by decide +kernel
theorem dX4_isCure_46 : decode cX4_isCure 46 = .ok (.iload 4, 2) := by decide +kernel
theorem dX4_isCure_48 : decode cX4_isCure 48 = .ok (.baload, 1) := by decide +kernel
theorem dX4_isCure_49 : decode cX4_isCure 49 = .ok (.ifCond .ne 23, 3) := by decide +kernel
theorem dX4_isCure_52 : decode cX4_isCure 52 = .ok (.aload_n 0, 1) := by decide +kernel
theorem dX4_isCure_53 : decode cX4_isCure 53 = .ok (.getfield 23, 3) := by decide +kernel
theorem dX4_isCure_56 : decode cX4_isCure 56 = .ok (.iload_n 2, 1) := by decide +kernel
theorem dX4_isCure_57 : decode cX4_isCure 57 = .ok (.iload_n 1, 1) := by decide +kernel
theorem dX4_isCure_58 : decode cX4_isCure 58 = .ok (.ixor, 1) := by decide +kernel
theorem dX4_isCure_59 : decode cX4_isCure 59 = .ok (.iconst 1, 1) := by decide +kernel
theorem dX4_isCure_60 : decode cX4_isCure 60 = .ok (.iload 4, 2) := by decide +kernel
theorem dX4_isCure_62 : decode cX4_isCure 62 = .ok (.ishl, 1) := by decide +kernel
theorem dX4_isCure_63 : decode cX4_isCure 63 = .ok (.ixor, 1) := by decide +kernel
theorem dX4_isCure_64 : decode cX4_isCure 64 = .ok (.baload, 1) := by decide +kernel
theorem dX4_isCure_65 : decode cX4_isCure 65 = .ok (.ifCond .eq 7, 3) := by decide +kernel
theorem dX4_isCure_68 : decode cX4_isCure 68 = .ok (.iconst 1, 1) := by decide +kernel
theorem dX4_isCure_69 : decode cX4_isCure 69 = .ok (.goto 4, 3) := by decide +kernel
theorem dX4_isCure_72 : decode cX4_isCure 72 = .ok (.iconst 0, 1) := by decide +kernel
theorem dX4_isCure_73 : decode cX4_isCure 73 = .ok (.istore_n 3, 1) := by decide +kernel
theorem dX4_isCure_74 : decode cX4_isCure 74 = .ok (.iinc 4 1, 3) := by decide +kernel
theorem dX4_isCure_77 : decode cX4_isCure 77 = .ok (.goto (-57), 3) := by decide +kernel
theorem dX4_isCure_80 : decode cX4_isCure 80 = .ok (.iload_n 3, 1) := by decide +kernel
theorem dX4_isCure_81 : decode cX4_isCure 81 = .ok (.ireturn, 1) := by decide +kernel
set_option maxRecDepth 20000 in
theorem ggX4_find_X4_reckon : GoodIn wsX4_find wsX4_reckon := goodIn_r _ [13, 14, 2, 15, 16, 4, 29, 30, 31, 32, 33, 34, 35, 36, 37, 38, 39, 40, 41, 42] (by decide +kernel) (by decide +kernel)
set_option maxRecDepth 20000 in
theorem gX4_find_X4_reckon : GoodIn wsX4_find (wsV RX4 54 RX4 yX4_reckon wsX4_reckon) := goodIn_app (goodIn_of _ (by decide +kernel)) ggX4_find_X4_reckon
set_option maxRecDepth 20000 in
theorem ggX4_find_X4_size : GoodIn wsX4_find wsX4_size := goodIn_r _ [19] (by decide +kernel) (by decide +kernel)
set_option maxRecDepth 20000 in
theorem gX4_find_X4_size : GoodIn wsX4_find (va_wsS RX4 64 yX4_size wsX4_size) := goodIn_app (goodIn_of _ (by decide +kernel)) ggX4_find_X4_size
set_option maxRecDepth 20000 in
theorem ggX4_find_X4_isCause : GoodIn wsX4_find wsX4_isCause := goodIn_r _ [23, 3, 2, 29, 30, 31, 32, 33, 34, 35, 36, 37, 38, 39, 40, 41, 42] (by decide +kernel) (by decide +kernel)
set_option maxRecDepth 20000 in
theorem gX4_find_X4_isCause : GoodIn wsX4_find (wsV RX4 67 RX4 yX4_isCause wsX4_isCause) := goodIn_app (goodIn_of _ (by decide +kernel)) ggX4_find_X4_isCause
set_option maxRecDepth 20000 in
theorem ggX4_find_X4_isCure : GoodIn wsX4_find wsX4_isCure := goodIn_r _ [27, 3, 2, 28, 29, 30, 31, 32, 33, 34, 35, 36, 37, 38, 39, 40, 41, 42] (by decide +kernel) (by decide +kernel)
set_option maxRecDepth 20000 in
theorem gX4_find_X4_isCure : GoodIn wsX4_find (wsV RX4 70 RX4 yX4_isCure wsX4_isCure) := goodIn_app (goodIn_of _ (by decide +kernel)) ggX4_find_X4_isCure
theorem dX4_find_0 : decode cX4_find 0 = .ok (.aload_n 0, 1) := by decide +kernel
theorem dX4_find_1 : decode cX4_find 1 = .ok (.getfield 40, 3) := by decide +kernel
theorem dX4_find_4 : decode cX4_find 4 = .ok (.ifCond .eq 4, 3) := by decide +kernel
theorem dX4_find_7 : decode cX4_find 7 = .ok (.return_, 1) := by decide +kernel
theorem dX4_find_8 : decode cX4_find 8 = .ok (.aload_n 0, 1) := by decide +kernel
theorem dX4_find_9 : decode cX4_find 9 = .ok (.iconst 1, 1) := by decide +kernel
theorem dX4_find_10 : decode cX4_find 10 = .ok (.putfield 40, 3) := by decide +kernel
theorem dX4_find_13 : decode cX4_find 13 = .ok (.iconst 1, 1) := by decide +kernel
theorem dX4_find_14 : decode cX4_find 14 = .ok (.aload_n 0, 1) := by decide +kernel
theorem dX4_find_15 : decode cX4_find 15 = .ok (.getfield 36, 3) := by decide +kernel
theorem dX4_find_18 : decode cX4_find 18 = .ok (.ishl, 1) := by decide +kernel
theorem dX4_find_19 : decode cX4_find 19 = .ok (.iconst 1, 1) := by decide +kernel
theorem dX4_find_20 : decode cX4_find 20 = .ok (.isub, 1) := by decide +kernel
theorem dX4_find_21 : decode cX4_find 21 = .ok (.istore_n 1, 1) := by decide +kernel
theorem dX4_find_22 : decode cX4_find 22 = .ok (.iconst 0, 1) := by decide +kernel
theorem dX4_find_23 : decode cX4_find 23 = .ok (.istore_n 2, 1) := by decide +kernel
theorem dX4_find_24 : decode cX4_find 24 = .ok (.iload_n 2, 1) := by decide +kernel
theorem dX4_find_25 : decode cX4_find 25 = .ok (.iload_n 1, 1) := by decide +kernel
theorem dX4_find_26 : decode cX4_find 26 = .ok (.if_icmp .gt 36, 3) := by decide +kernel
theorem dX4_find_29 : decode cX4_find 29 = .ok (.aload_n 0, 1) := by decide +kernel
theorem dX4_find_30 : decode cX4_find 30 = .ok (.getfield 23, 3) := by decide +kernel
theorem dX4_find_33 : decode cX4_find 33 = .ok (.iload_n 2, 1) := by decide +kernel
theorem dX4_find_34 : decode cX4_find 34 = .ok (.aload_n 0, 1) := by decide +kernel
theorem dX4_find_35 : decode cX4_find 35 = .ok (.iload_n 2, 1) := by decide +kernel
theorem dX4_find_36 : decode cX4_find 36 = .ok (.invokevirtual 54, 3) := by decide +kernel
theorem dX4_find_39 : decode cX4_find 39 = .ok (.aload_n 0, 1) := by decide +kernel
theorem dX4_find_40 : decode cX4_find 40 = .ok (.getfield 48, 3) := by decide +kernel
theorem dX4_find_43 : decode cX4_find 43 = .ok (.ishr, 1) := by decide +kernel
theorem dX4_find_44 : decode cX4_find 44 = .ok (.iconst 1, 1) := by decide +kernel
theorem dX4_find_45 : decode cX4_find 45 = .ok (.iand, 1) := by decide +kernel
theorem dX4_find_46 : decode cX4_find 46 = .ok (.iconst 1, 1) := by decide +kernel
theorem dX4_find_47 : decode cX4_find 47 = .ok (.if_icmp .ne 7, 3) := by decide +kernel
theorem dX4_find_50 : decode cX4_find 50 = .ok (.iconst 1, 1) := by decide +kernel
theorem dX4_find_51 : decode cX4_find 51 = .ok (.goto 4, 3) := by decide +kernel
theorem dX4_find_54 : decode cX4_find 54 = .ok (.iconst 0, 1) := by decide +kernel
theorem dX4_find_55 : decode cX4_find 55 = .ok (.bastore, 1) := by decide +kernel
theorem dX4_find_56 : decode cX4_find 56 = .ok (.iinc 2 1, 3) := by decide +kernel
theorem dX4_find_59 : decode cX4_find 59 = .ok (.goto (-35), 3) := by decide +kernel
theorem dX4_find_62 : decode cX4_find 62 = .ok (.aload_n 0, 1) := by decide +kernel
theorem dX4_find_63 : decode cX4_find 63 = .ok (.iconst 0, 1) := by decide +kernel
theorem dX4_find_64 : decode cX4_find 64 = .ok (.putfield 58, 3) := by decide +kernel
theorem dX4_find_67 : decode cX4_find 67 = .ok (.aload_n 0, 1) := by decide +kernel
theorem dX4_find_68 : decode cX4_find 68 = .ok (.iconst 0, 1) := by decide +kernel
theorem dX4_find_69 : decode cX4_find 69 = .ok (.putfield 61, 3) := by decide +kernel
theorem dX4_find_72 : decode cX4_find 72 = .ok (.iconst 0, 1) := by decide +kernel
theorem dX4_find_73 : decode cX4_find 73 = .ok (.istore_n 2, 1) := by decide +kernel
theorem dX4_find_74 : decode cX4_find 74 = .ok (.iload_n 2, 1) := by decide +kernel
theorem dX4_find_75 : decode cX4_find 75 = .ok (.aload_n 0, 1) := by decide +kernel
theorem dX4_find_76 : decode cX4_find 76 = .ok (.getfield 36, 3) := by decide +kernel
theorem dX4_find_79 : decode cX4_find 79 = .ok (.if_icmp .gt 90, 3) := by decide +kernel
theorem dX4_find_82 : decode cX4_find 82 = .ok (.iconst 0, 1) := by decide +kernel
theorem dX4_find_83 : decode cX4_find 83 = .ok (.istore_n 3, 1) := by decide +kernel
theorem dX4_find_84 : decode cX4_find 84 = .ok (.iload_n 3, 1) := by decide +kernel
theorem dX4_find_85 : decode cX4_find 85 = .ok (.iload_n 1, 1) := by decide +kernel
theorem dX4_find_86 : decode cX4_find 86 = .ok (.if_icmp .gt 77, 3) := by decide +kernel
theorem dX4_find_89 : decode cX4_find 89 = .ok (.iload_n 3, 1) := by decide +kernel
theorem dX4_find_90 : decode cX4_find 90 = .ok (.invokestatic 64, 3) := by decide +kernel
theorem dX4_find_93 : decode cX4_find 93 = .ok (.iload_n 2, 1) := by decide +kernel
theorem dX4_find_94 : decode cX4_find 94 = .ok (.if_icmp .eq 6, 3) := by decide +kernel
theorem dX4_find_97 : decode cX4_find 97 = .ok (.goto 60, 3) := by decide +kernel
theorem dX4_find_100 : decode cX4_find 100 = .ok (.aload_n 0, 1) := by decide +kernel
theorem dX4_find_101 : decode cX4_find 101 = .ok (.iload_n 3, 1) := by decide +kernel
theorem dX4_find_102 : decode cX4_find 102 = .ok (.invokevirtual 67, 3) := by decide +kernel
theorem dX4_find_105 : decode cX4_find 105 = .ok (.ifCond .eq 23, 3) := by decide +kernel
theorem dX4_find_108 : decode cX4_find 108 = .ok (.aload_n 0, 1) := by decide +kernel
theorem dX4_find_109 : decode cX4_find 109 = .ok (.getfield 26, 3) := by decide +kernel
theorem dX4_find_112 : decode cX4_find 112 = .ok (.aload_n 0, 1) := by decide +kernel
theorem dX4_find_113 : decode cX4_find 113 = .ok (.getfield 58, 3) := by decide +kernel
theorem dX4_find_116 : decode cX4_find 116 = .ok (.iload_n 3, 1) := by decide +kernel
theorem dX4_find_117 : decode cX4_find 117 = .ok (.iastore, 1) := by decide +kernel
theorem dX4_find_118 : decode cX4_find 118 = .ok (.aload_n 0, 1) := by decide +kernel
theorem dX4_find_119 : decode cX4_find 119 = .ok (.dup, 1) := by decide +kernel
theorem dX4_find_120 : decode cX4_find 120 = .ok (.getfield 58, 3) := by decide +kernel
theorem dX4_find_123 : decode cX4_find 123 = .ok (.iconst 1, 1) := by decide +kernel
theorem dX4_find_124 : decode cX4_find 124 = .ok (.iadd, 1) := by decide +kernel
theorem dX4_find_125 : decode cX4_find 125 = .ok (.putfield 58, 3) := by decide +kernel
theorem dX4_find_128 : decode cX4_find 128 = .ok (.aload_n 0, 1) := by decide +kernel
theorem dX4_find_129 : decode cX4_find 129 = .ok (.iload_n 3, 1) := by decide +kernel
theorem dX4_find_130 : decode cX4_find 130 = .ok (.iload_n 1, 1) := by decide +kernel
theorem dX4_find_131 : decode cX4_find 131 = .ok (.invokevirtual 70, 3) := by decide +kernel
theorem dX4_find_134 : decode cX4_find 134 = .ok (.ifCond .eq 23, 3) := by decide +kernel
theorem dX4_find_137 : decode cX4_find 137 = .ok (.aload_n 0, 1) := by decide +kernel
theorem dX4_find_138 : decode cX4_find 138 = .ok (.getfield 29, 3) := by decide +kernel
theorem dX4_find_141 : decode cX4_find 141 = .ok (.aload_n 0, 1) := by decide +kernel
theorem dX4_find_142 : decode cX4_find 142 = .ok (.getfield 61, 3) := by decide +kernel
theorem dX4_find_145 : decode cX4_find 145 = .ok (.iload_n 3, 1) := by decide +kernel
theorem dX4_find_146 : decode cX4_find 146 = .ok (.iastore, 1) := by decide +kernel
theorem dX4_find_147 : decode cX4_find 147 = .ok (.aload_n 0, 1) := by decide +kernel
theorem dX4_find_148 : decode cX4_find 148 = .ok (.dup, 1) := by decide +kernel
theorem dX4_find_149 : decode cX4_find 149 = .ok (.getfield 61, 3) := by decide +kernel
theorem dX4_find_152 : decode cX4_find 152 = .ok (.iconst 1, 1) := by decide +kernel
theorem dX4_find_153 : decode cX4_find 153 = .ok (.iadd, 1) := by decide +kernel
theorem dX4_find_154 : decode cX4_find 154 = .ok (.putfield 61, 3) := by decide +kernel
theorem dX4_find_157 : decode cX4_find 157 = .ok (.iinc 3 1, 3) := by decide +kernel
theorem dX4_find_160 : decode cX4_find 160 = .ok (.goto (-76), 3) := by decide +kernel
theorem dX4_find_163 : decode cX4_find 163 = .ok (.iinc 2 1, 3) := by decide +kernel
theorem dX4_find_166 : decode cX4_find 166 = .ok (.goto (-92), 3) := by decide +kernel
theorem dX4_find_169 : decode cX4_find 169 = .ok (.return_, 1) := by decide +kernel
set_option maxRecDepth 20000 in
theorem ggX4_causes_X4_find : GoodIn wsX4_causes wsX4_find := goodIn_r _ [7, 8, 9, 10, 11, 2, 12, 13, 14, 15, 16, 17, 6, 18, 19, 20, 21, 22, 23, 24, 25, 26, 27, 28, 29, 30, 31, 32, 33, 34, 35, 36, 37, 38, 39, 40, 41, 42, 43, 44, 45, 46, 47] (by decide +kernel) (by decide +kernel)
set_option maxRecDepth 20000 in
theorem gX4_causes_X4_find : GoodIn wsX4_causes (wsV RX4 74 RX4 yX4_find wsX4_find) := goodIn_app (goodIn_of _ (by decide +kernel)) ggX4_causes_X4_find
theorem dX4_causes_0 : decode cX4_causes 0 = .ok (.aload_n 0, 1) := by decide +kernel
theorem dX4_causes_1 : decode cX4_causes 1 = .ok (.iconst 0, 1) := by decide +kernel
theorem dX4_causes_2 : decode cX4_causes 2 = .ok (.putfield 32, 3) := by decide +kernel
theorem dX4_causes_5 : decode cX4_causes 5 = .ok (.aload_n 0, 1) := by decide +kernel
theorem dX4_causes_6 : decode cX4_causes 6 = .ok (.invokevirtual 74, 3) := by decide +kernel
theorem dX4_causes_9 : decode cX4_causes 9 = .ok (.aload_n 0, 1) := by decide +kernel
theorem dX4_causes_10 : decode cX4_causes 10 = .ok (.getfield 58, 3) := by decide +kernel
theorem dX4_causes_13 : decode cX4_causes 13 = .ok (.ireturn, 1) := by decide +kernel
set_option maxRecDepth 20000 in
theorem ggX4_cures_X4_find : GoodIn wsX4_cures wsX4_find := goodIn_r _ [7, 8, 9, 10, 11, 12, 2, 13, 14, 15, 16, 17, 6, 18, 19, 20, 21, 22, 23, 24, 25, 26, 27, 28, 29, 30, 31, 32, 33, 34, 35, 36, 37, 38, 39, 40, 41, 42, 43, 44, 45, 46, 47] (by decide +kernel) (by decide +kernel)
set_option maxRecDepth 20000 in
theorem gX4_cures_X4_find : GoodIn wsX4_cures (wsV RX4 74 RX4 yX4_find wsX4_find) := goodIn_app (goodIn_of _ (by decide +kernel)) ggX4_cures_X4_find
theorem dX4_cures_0 : decode cX4_cures 0 = .ok (.aload_n 0, 1) := by decide +kernel
theorem dX4_cures_1 : decode cX4_cures 1 = .ok (.iconst 0, 1) := by decide +kernel
theorem dX4_cures_2 : decode cX4_cures 2 = .ok (.putfield 32, 3) := by decide +kernel
theorem dX4_cures_5 : decode cX4_cures 5 = .ok (.aload_n 0, 1) := by decide +kernel
theorem dX4_cures_6 : decode cX4_cures 6 = .ok (.invokevirtual 74, 3) := by decide +kernel
theorem dX4_cures_9 : decode cX4_cures 9 = .ok (.aload_n 0, 1) := by decide +kernel
theorem dX4_cures_10 : decode cX4_cures 10 = .ok (.getfield 61, 3) := by decide +kernel
theorem dX4_cures_13 : decode cX4_cures 13 = .ok (.ireturn, 1) := by decide +kernel
set_option maxRecDepth 20000 in
theorem ggX4_cause_X4_find : GoodIn wsX4_cause wsX4_find := goodIn_r _ [8, 9, 10, 11, 12, 2, 13, 3, 14, 15, 16, 17, 7, 18, 19, 20, 21, 22, 23, 24, 25, 26, 27, 28, 29, 30, 31, 32, 33, 34, 35, 36, 37, 38, 39, 40, 41, 42, 43, 44, 45, 46, 47] (by decide +kernel) (by decide +kernel)
set_option maxRecDepth 20000 in
theorem gX4_cause_X4_find : GoodIn wsX4_cause (wsV RX4 74 RX4 yX4_find wsX4_find) := goodIn_app (goodIn_of _ (by decide +kernel)) ggX4_cause_X4_find
theorem dX4_cause_0 : decode cX4_cause 0 = .ok (.aload_n 0, 1) := by decide +kernel
theorem dX4_cause_1 : decode cX4_cause 1 = .ok (.iconst 0, 1) := by decide +kernel
theorem dX4_cause_2 : decode cX4_cause 2 = .ok (.putfield 32, 3) := by decide +kernel
theorem dX4_cause_5 : decode cX4_cause 5 = .ok (.aload_n 0, 1) := by decide +kernel
theorem dX4_cause_6 : decode cX4_cause 6 = .ok (.invokevirtual 74, 3) := by decide +kernel
theorem dX4_cause_9 : decode cX4_cause 9 = .ok (.iload_n 1, 1) := by decide +kernel
theorem dX4_cause_10 : decode cX4_cause 10 = .ok (.ifCond .lt 20, 3) := by decide +kernel
theorem dX4_cause_13 : decode cX4_cause 13 = .ok (.iload_n 1, 1) := by decide +kernel
theorem dX4_cause_14 : decode cX4_cause 14 = .ok (.aload_n 0, 1) := by decide +kernel
theorem dX4_cause_15 : decode cX4_cause 15 = .ok (.getfield 58, 3) := by decide +kernel
theorem dX4_cause_18 : decode cX4_cause 18 = .ok (.if_icmp .ge 12, 3) := by decide +kernel
theorem dX4_cause_21 : decode cX4_cause 21 = .ok (.aload_n 0, 1) := by decide +kernel
theorem dX4_cause_22 : decode cX4_cause 22 = .ok (.getfield 26, 3) := by decide +kernel
theorem dX4_cause_25 : decode cX4_cause 25 = .ok (.iload_n 1, 1) := by decide +kernel
theorem dX4_cause_26 : decode cX4_cause 26 = .ok (.iaload, 1) := by decide +kernel
theorem dX4_cause_27 : decode cX4_cause 27 = .ok (.goto 5, 3) := by decide +kernel
theorem dX4_cause_30 : decode cX4_cause 30 = .ok (.bipush (-2), 2) := by decide +kernel
theorem dX4_cause_32 : decode cX4_cause 32 = .ok (.ireturn, 1) := by decide +kernel
set_option maxRecDepth 20000 in
theorem ggX4_cure_X4_find : GoodIn wsX4_cure wsX4_find := goodIn_r _ [8, 9, 10, 11, 12, 13, 2, 14, 3, 15, 16, 17, 7, 18, 19, 20, 21, 22, 23, 24, 25, 26, 27, 28, 29, 30, 31, 32, 33, 34, 35, 36, 37, 38, 39, 40, 41, 42, 43, 44, 45, 46, 47] (by decide +kernel) (by decide +kernel)
set_option maxRecDepth 20000 in
theorem gX4_cure_X4_find : GoodIn wsX4_cure (wsV RX4 74 RX4 yX4_find wsX4_find) := goodIn_app (goodIn_of _ (by decide +kernel)) ggX4_cure_X4_find
theorem dX4_cure_0 : decode cX4_cure 0 = .ok (.aload_n 0, 1) := by decide +kernel
theorem dX4_cure_1 : decode cX4_cure 1 = .ok (.iconst 0, 1) := by decide +kernel
theorem dX4_cure_2 : decode cX4_cure 2 = .ok (.putfield 32, 3) := by decide +kernel
theorem dX4_cure_5 : decode cX4_cure 5 = .ok (.aload_n 0, 1) := by decide +kernel
theorem dX4_cure_6 : decode cX4_cure 6 = .ok (.invokevirtual 74, 3) := by decide +kernel
theorem dX4_cure_9 : decode cX4_cure 9 = .ok (.iload_n 1, 1) := by decide +kernel
theorem dX4_cure_10 : decode cX4_cure 10 = .ok (.ifCond .lt 20, 3) := by decide +kernel
theorem dX4_cure_13 : decode cX4_cure 13 = .ok (.iload_n 1, 1) := by decide +kernel
theorem dX4_cure_14 : decode cX4_cure 14 = .ok (.aload_n 0, 1) := by decide +kernel
theorem dX4_cure_15 : decode cX4_cure 15 = .ok (.getfield 61, 3) := by decide +kernel
theorem dX4_cure_18 : decode cX4_cure 18 = .ok (.if_icmp .ge 12, 3) := by decide +kernel
theorem dX4_cure_21 : decode cX4_cure 21 = .ok (.aload_n 0, 1) := by decide +kernel
theorem dX4_cure_22 : decode cX4_cure 22 = .ok (.getfield 29, 3) := by decide +kernel
theorem dX4_cure_25 : decode cX4_cure 25 = .ok (.iload_n 1, 1) := by decide +kernel
theorem dX4_cure_26 : decode cX4_cure 26 = .ok (.iaload, 1) := by decide +kernel
theorem dX4_cure_27 : decode cX4_cure 27 = .ok (.goto 5, 3) := by decide +kernel
theorem dX4_cure_30 : decode cX4_cure 30 = .ok (.bipush (-2), 2) := by decide +kernel
theorem dX4_cure_32 : decode cX4_cure 32 = .ok (.ireturn, 1) := by decide +kernel
set_option maxRecDepth 20000 in
theorem ggX4_lightest_X4_find : GoodIn wsX4_lightest wsX4_find := goodIn_r _ [10, 11, 3, 12, 13, 14, 2, 15, 4, 16, 17, 18, 9, 19, 20, 21, 22, 23, 24, 25, 26, 27, 28, 29, 30, 31, 32, 33, 34, 35, 36, 37, 38, 39, 40, 41, 42, 43, 44, 45, 46, 47, 48] (by decide +kernel) (by decide +kernel)
set_option maxRecDepth 20000 in
theorem gX4_lightest_X4_find : GoodIn wsX4_lightest (wsV RX4 74 RX4 yX4_find wsX4_find) := goodIn_app (goodIn_of _ (by decide +kernel)) ggX4_lightest_X4_find
theorem dX4_lightest_0 : decode cX4_lightest 0 = .ok (.aload_n 0, 1) := by decide +kernel
theorem dX4_lightest_1 : decode cX4_lightest 1 = .ok (.iconst 0, 1) := by decide +kernel
theorem dX4_lightest_2 : decode cX4_lightest 2 = .ok (.putfield 32, 3) := by decide +kernel
theorem dX4_lightest_5 : decode cX4_lightest 5 = .ok (.aload_n 0, 1) := by decide +kernel
theorem dX4_lightest_6 : decode cX4_lightest 6 = .ok (.invokevirtual 74, 3) := by decide +kernel
theorem dX4_lightest_9 : decode cX4_lightest 9 = .ok (.bipush (-2), 2) := by decide +kernel
theorem dX4_lightest_11 : decode cX4_lightest 11 = .ok (.istore_n 1, 1) := by decide +kernel
theorem dX4_lightest_12 : decode cX4_lightest 12 = .ok (.iconst 0, 1) := by decide +kernel
theorem dX4_lightest_13 : decode cX4_lightest 13 = .ok (.istore_n 2, 1) := by decide +kernel
theorem dX4_lightest_14 : decode cX4_lightest 14 = .ok (.iconst 0, 1) := by decide +kernel
theorem dX4_lightest_15 : decode cX4_lightest 15 = .ok (.istore_n 3, 1) := by decide +kernel
theorem dX4_lightest_16 : decode cX4_lightest 16 = .ok (.iload_n 3, 1) := by decide +kernel
theorem dX4_lightest_17 : decode cX4_lightest 17 = .ok (.aload_n 0, 1) := by decide +kernel
theorem dX4_lightest_18 : decode cX4_lightest 18 = .ok (.getfield 61, 3) := by decide +kernel
theorem dX4_lightest_21 : decode cX4_lightest 21 = .ok (.if_icmp .ge 72, 3) := by decide +kernel
theorem dX4_lightest_24 : decode cX4_lightest 24 = .ok (.iconst 0, 1) := by decide +kernel
theorem dX4_lightest_25 : decode cX4_lightest 25 = .ok (.istore 4, 2) := by decide +kernel
theorem dX4_lightest_27 : decode cX4_lightest 27 = .ok (.iconst 0, 1) := by decide +kernel
theorem dX4_lightest_28 : decode cX4_lightest 28 = .ok (.istore 5, 2) := by decide +kernel
theorem dX4_lightest_30 : decode cX4_lightest 30 = .ok (.iload 5, 2) := by decide +kernel
theorem dX4_lightest_32 : decode cX4_lightest 32 = .ok (.aload_n 0, 1) := by decide +kernel
theorem dX4_lightest_33 : decode cX4_lightest 33 = .ok (.getfield 36, 3) := by decide +kernel
theorem dX4_lightest_36 : decode cX4_lightest 36 = .ok (.if_icmp .ge 33, 3) := by decide +kernel
theorem dX4_lightest_39 : decode cX4_lightest 39 = .ok (.iload 4, 2) := by decide +kernel
theorem dX4_lightest_41 : decode cX4_lightest 41 = .ok (.aload_n 0, 1) := by decide +kernel
theorem dX4_lightest_42 : decode cX4_lightest 42 = .ok (.getfield 29, 3) := by decide +kernel
theorem dX4_lightest_45 : decode cX4_lightest 45 = .ok (.iload_n 3, 1) := by decide +kernel
theorem dX4_lightest_46 : decode cX4_lightest 46 = .ok (.iaload, 1) := by decide +kernel
theorem dX4_lightest_47 : decode cX4_lightest 47 = .ok (.iload 5, 2) := by decide +kernel
theorem dX4_lightest_49 : decode cX4_lightest 49 = .ok (.ishr, 1) := by decide +kernel
theorem dX4_lightest_50 : decode cX4_lightest 50 = .ok (.iconst 1, 1) := by decide +kernel
theorem dX4_lightest_51 : decode cX4_lightest 51 = .ok (.iand, 1) := by decide +kernel
theorem dX4_lightest_52 : decode cX4_lightest 52 = .ok (.aload_n 0, 1) := by decide +kernel
theorem dX4_lightest_53 : decode cX4_lightest 53 = .ok (.getfield 16, 3) := by decide +kernel
theorem dX4_lightest_56 : decode cX4_lightest 56 = .ok (.iload 5, 2) := by decide +kernel
theorem dX4_lightest_58 : decode cX4_lightest 58 = .ok (.iaload, 1) := by decide +kernel
theorem dX4_lightest_59 : decode cX4_lightest 59 = .ok (.imul, 1) := by decide +kernel
theorem dX4_lightest_60 : decode cX4_lightest 60 = .ok (.iadd, 1) := by decide +kernel
theorem dX4_lightest_61 : decode cX4_lightest 61 = .ok (.istore 4, 2) := by decide +kernel
theorem dX4_lightest_63 : decode cX4_lightest 63 = .ok (.iinc 5 1, 3) := by decide +kernel
theorem dX4_lightest_66 : decode cX4_lightest 66 = .ok (.goto (-36), 3) := by decide +kernel
theorem dX4_lightest_69 : decode cX4_lightest 69 = .ok (.iload_n 1, 1) := by decide +kernel
theorem dX4_lightest_70 : decode cX4_lightest 70 = .ok (.ifCond .lt 12, 3) := by decide +kernel
theorem dX4_lightest_73 : decode cX4_lightest 73 = .ok (.iload 4, 2) := by decide +kernel
theorem dX4_lightest_75 : decode cX4_lightest 75 = .ok (.iload_n 2, 1) := by decide +kernel
theorem dX4_lightest_76 : decode cX4_lightest 76 = .ok (.if_icmp .lt 6, 3) := by decide +kernel
theorem dX4_lightest_79 : decode cX4_lightest 79 = .ok (.goto 8, 3) := by decide +kernel
theorem dX4_lightest_82 : decode cX4_lightest 82 = .ok (.iload_n 3, 1) := by decide +kernel
theorem dX4_lightest_83 : decode cX4_lightest 83 = .ok (.istore_n 1, 1) := by decide +kernel
theorem dX4_lightest_84 : decode cX4_lightest 84 = .ok (.iload 4, 2) := by decide +kernel
theorem dX4_lightest_86 : decode cX4_lightest 86 = .ok (.istore_n 2, 1) := by decide +kernel
theorem dX4_lightest_87 : decode cX4_lightest 87 = .ok (.iinc 3 1, 3) := by decide +kernel
theorem dX4_lightest_90 : decode cX4_lightest 90 = .ok (.goto (-74), 3) := by decide +kernel
theorem dX4_lightest_93 : decode cX4_lightest 93 = .ok (.iload_n 1, 1) := by decide +kernel
theorem dX4_lightest_94 : decode cX4_lightest 94 = .ok (.ireturn, 1) := by decide +kernel
set_option maxRecDepth 20000 in
theorem ggX4_times_X4_isAxiom : GoodIn wsX4_times wsX4_isAxiom := goodIn_r _ [10, 11, 38, 39, 40, 41, 42, 43, 44, 45, 46, 47, 48, 49, 50, 51] (by decide +kernel) (by decide +kernel)
set_option maxRecDepth 20000 in
theorem gX4_times_X4_isAxiom : GoodIn wsX4_times (wsV RX4 44 RX4 yX4_isAxiom wsX4_isAxiom) := goodIn_app (goodIn_of _ (by decide +kernel)) ggX4_times_X4_isAxiom
set_option maxRecDepth 20000 in
theorem ggX4_times_X4_find : GoodIn wsX4_times wsX4_find := goodIn_r _ [15, 16, 11, 17, 18, 2, 3, 4, 5, 19, 20, 21, 9, 22, 23, 24, 25, 26, 27, 28, 29, 30, 31, 32, 33, 34, 35, 36, 37, 38, 39, 40, 41, 42, 43, 44, 45, 46, 47, 48, 49, 50, 51] (by decide +kernel) (by decide +kernel)
set_option maxRecDepth 20000 in
theorem gX4_times_X4_find : GoodIn wsX4_times (wsV RX4 74 RX4 yX4_find wsX4_find) := goodIn_app (goodIn_of _ (by decide +kernel)) ggX4_times_X4_find
theorem dX4_times_0 : decode cX4_times 0 = .ok (.aload_n 0, 1) := by decide +kernel
theorem dX4_times_1 : decode cX4_times 1 = .ok (.iconst 0, 1) := by decide +kernel
theorem dX4_times_2 : decode cX4_times 2 = .ok (.putfield 32, 3) := by decide +kernel
theorem dX4_times_5 : decode cX4_times 5 = .ok (.aload_n 0, 1) := by decide +kernel
theorem dX4_times_6 : decode cX4_times 6 = .ok (.iload_n 1, 1) := by decide +kernel
theorem dX4_times_7 : decode cX4_times 7 = .ok (.invokevirtual 44, 3) := by decide +kernel
theorem dX4_times_10 : decode cX4_times 10 = .ok (.ifCond .eq 12, 3) := by decide +kernel
theorem dX4_times_13 : decode cX4_times 13 = .ok (.iload_n 2, 1) := by decide +kernel
theorem dX4_times_14 : decode cX4_times 14 = .ok (.ifCond .lt 8, 3) := by decide +kernel
theorem dX4_times_17 : decode cX4_times 17 = .ok (.iload_n 2, 1) := by decide +kernel
theorem dX4_times_18 : decode cX4_times 18 = .ok (.iconst 1, 1) := by decide +kernel
theorem dX4_times_19 : decode cX4_times 19 = .ok (.if_icmp .le 5, 3) := by decide +kernel
theorem dX4_times_22 : decode cX4_times 22 = .ok (.iconst (-1), 1) := by decide +kernel
theorem dX4_times_23 : decode cX4_times 23 = .ok (.ireturn, 1) := by decide +kernel
theorem dX4_times_24 : decode cX4_times 24 = .ok (.aload_n 0, 1) := by decide +kernel
theorem dX4_times_25 : decode cX4_times 25 = .ok (.invokevirtual 74, 3) := by decide +kernel
theorem dX4_times_28 : decode cX4_times 28 = .ok (.iconst 0, 1) := by decide +kernel
theorem dX4_times_29 : decode cX4_times 29 = .ok (.istore_n 3, 1) := by decide +kernel
theorem dX4_times_30 : decode cX4_times 30 = .ok (.iconst 0, 1) := by decide +kernel
theorem dX4_times_31 : decode cX4_times 31 = .ok (.istore 4, 2) := by decide +kernel
theorem dX4_times_33 : decode cX4_times 33 = .ok (.iload 4, 2) := by decide +kernel
theorem dX4_times_35 : decode cX4_times 35 = .ok (.iload_n 2, 1) := by decide +kernel
theorem dX4_times_36 : decode cX4_times 36 = .ok (.ifCond .ne 10, 3) := by decide +kernel
theorem dX4_times_39 : decode cX4_times 39 = .ok (.aload_n 0, 1) := by decide +kernel
theorem dX4_times_40 : decode cX4_times 40 = .ok (.getfield 58, 3) := by decide +kernel
theorem dX4_times_43 : decode cX4_times 43 = .ok (.goto 7, 3) := by decide +kernel
theorem dX4_times_46 : decode cX4_times 46 = .ok (.aload_n 0, 1) := by decide +kernel
theorem dX4_times_47 : decode cX4_times 47 = .ok (.getfield 61, 3) := by decide +kernel
theorem dX4_times_50 : decode cX4_times 50 = .ok (.if_icmp .ge 37, 3) := by decide +kernel
theorem dX4_times_53 : decode cX4_times 53 = .ok (.iload_n 3, 1) := by decide +kernel
theorem dX4_times_54 : decode cX4_times 54 = .ok (.iload_n 2, 1) := by decide +kernel
theorem dX4_times_55 : decode cX4_times 55 = .ok (.ifCond .ne 13, 3) := by decide +kernel
theorem dX4_times_58 : decode cX4_times 58 = .ok (.aload_n 0, 1) := by decide +kernel
theorem dX4_times_59 : decode cX4_times 59 = .ok (.getfield 26, 3) := by decide +kernel
theorem dX4_times_62 : decode cX4_times 62 = .ok (.iload 4, 2) := by decide +kernel
theorem dX4_times_64 : decode cX4_times 64 = .ok (.iaload, 1) := by decide +kernel
theorem dX4_times_65 : decode cX4_times 65 = .ok (.goto 10, 3) := by decide +kernel
theorem dX4_times_68 : decode cX4_times 68 = .ok (.aload_n 0, 1) := by decide +kernel
theorem dX4_times_69 : decode cX4_times 69 = .ok (.getfield 29, 3) := by decide +kernel
theorem dX4_times_72 : decode cX4_times 72 = .ok (.iload 4, 2) := by decide +kernel
theorem dX4_times_74 : decode cX4_times 74 = .ok (.iaload, 1) := by decide +kernel
theorem dX4_times_75 : decode cX4_times 75 = .ok (.iload_n 1, 1) := by decide +kernel
theorem dX4_times_76 : decode cX4_times 76 = .ok (.ishr, 1) := by decide +kernel
theorem dX4_times_77 : decode cX4_times 77 = .ok (.iconst 1, 1) := by decide +kernel
theorem dX4_times_78 : decode cX4_times 78 = .ok (.iand, 1) := by decide +kernel
theorem dX4_times_79 : decode cX4_times 79 = .ok (.iadd, 1) := by decide +kernel
theorem dX4_times_80 : decode cX4_times 80 = .ok (.istore_n 3, 1) := by decide +kernel
theorem dX4_times_81 : decode cX4_times 81 = .ok (.iinc 4 1, 3) := by decide +kernel
theorem dX4_times_84 : decode cX4_times 84 = .ok (.goto (-51), 3) := by decide +kernel
theorem dX4_times_87 : decode cX4_times 87 = .ok (.iload_n 3, 1) := by decide +kernel
theorem dX4_times_88 : decode cX4_times 88 = .ok (.ireturn, 1) := by decide +kernel
set_option maxRecDepth 20000 in
theorem ggX4_within_X4_find : GoodIn wsX4_within wsX4_find := goodIn_r _ [8, 9, 10, 11, 12, 2, 13, 3, 14, 15, 16, 17, 7, 18, 19, 20, 21, 22, 23, 24, 25, 26, 27, 28, 29, 30, 31, 32, 33, 34, 35, 36, 37, 38, 39, 40, 41, 42, 43, 44, 45, 46, 47] (by decide +kernel) (by decide +kernel)
set_option maxRecDepth 20000 in
theorem gX4_within_X4_find : GoodIn wsX4_within (wsV RX4 74 RX4 yX4_find wsX4_find) := goodIn_app (goodIn_of _ (by decide +kernel)) ggX4_within_X4_find
theorem dX4_within_0 : decode cX4_within 0 = .ok (.aload_n 0, 1) := by decide +kernel
theorem dX4_within_1 : decode cX4_within 1 = .ok (.iconst 0, 1) := by decide +kernel
theorem dX4_within_2 : decode cX4_within 2 = .ok (.putfield 32, 3) := by decide +kernel
theorem dX4_within_5 : decode cX4_within 5 = .ok (.aload_n 0, 1) := by decide +kernel
theorem dX4_within_6 : decode cX4_within 6 = .ok (.invokevirtual 74, 3) := by decide +kernel
theorem dX4_within_9 : decode cX4_within 9 = .ok (.iconst 0, 1) := by decide +kernel
theorem dX4_within_10 : decode cX4_within 10 = .ok (.istore_n 2, 1) := by decide +kernel
theorem dX4_within_11 : decode cX4_within 11 = .ok (.iload_n 2, 1) := by decide +kernel
theorem dX4_within_12 : decode cX4_within 12 = .ok (.aload_n 0, 1) := by decide +kernel
theorem dX4_within_13 : decode cX4_within 13 = .ok (.getfield 58, 3) := by decide +kernel
theorem dX4_within_16 : decode cX4_within 16 = .ok (.if_icmp .ge 33, 3) := by decide +kernel
theorem dX4_within_19 : decode cX4_within 19 = .ok (.aload_n 0, 1) := by decide +kernel
theorem dX4_within_20 : decode cX4_within 20 = .ok (.getfield 26, 3) := by decide +kernel
theorem dX4_within_23 : decode cX4_within 23 = .ok (.iload_n 2, 1) := by decide +kernel
theorem dX4_within_24 : decode cX4_within 24 = .ok (.iaload, 1) := by decide +kernel
theorem dX4_within_25 : decode cX4_within 25 = .ok (.iload_n 1, 1) := by decide +kernel
theorem dX4_within_26 : decode cX4_within 26 = .ok (.iand, 1) := by decide +kernel
theorem dX4_within_27 : decode cX4_within 27 = .ok (.aload_n 0, 1) := by decide +kernel
theorem dX4_within_28 : decode cX4_within 28 = .ok (.getfield 26, 3) := by decide +kernel
theorem dX4_within_31 : decode cX4_within 31 = .ok (.iload_n 2, 1) := by decide +kernel
theorem dX4_within_32 : decode cX4_within 32 = .ok (.iaload, 1) := by decide +kernel
theorem dX4_within_33 : decode cX4_within 33 = .ok (.if_icmp .ne 10, 3) := by decide +kernel
theorem dX4_within_36 : decode cX4_within 36 = .ok (.aload_n 0, 1) := by decide +kernel
theorem dX4_within_37 : decode cX4_within 37 = .ok (.getfield 26, 3) := by decide +kernel
theorem dX4_within_40 : decode cX4_within 40 = .ok (.iload_n 2, 1) := by decide +kernel
theorem dX4_within_41 : decode cX4_within 41 = .ok (.iaload, 1) := by decide +kernel
theorem dX4_within_42 : decode cX4_within 42 = .ok (.ireturn, 1) := by decide +kernel
theorem dX4_within_43 : decode cX4_within 43 = .ok (.iinc 2 1, 3) := by decide +kernel
theorem dX4_within_46 : decode cX4_within 46 = .ok (.goto (-35), 3) := by decide +kernel
theorem dX4_within_49 : decode cX4_within 49 = .ok (.bipush (-2), 2) := by decide +kernel
theorem dX4_within_51 : decode cX4_within 51 = .ok (.ireturn, 1) := by decide +kernel
set_option maxRecDepth 20000 in
theorem ggX4_common_X4_find : GoodIn wsX4_common wsX4_find := goodIn_r _ [8, 9, 10, 11, 12, 2, 13, 3, 14, 15, 16, 17, 7, 18, 19, 20, 21, 22, 23, 24, 25, 26, 27, 28, 29, 30, 31, 32, 33, 34, 35, 36, 37, 38, 39, 40, 41, 42, 43, 44, 45, 46, 47] (by decide +kernel) (by decide +kernel)
set_option maxRecDepth 20000 in
theorem gX4_common_X4_find : GoodIn wsX4_common (wsV RX4 74 RX4 yX4_find wsX4_find) := goodIn_app (goodIn_of _ (by decide +kernel)) ggX4_common_X4_find
theorem dX4_common_0 : decode cX4_common 0 = .ok (.aload_n 0, 1) := by decide +kernel
theorem dX4_common_1 : decode cX4_common 1 = .ok (.iconst 0, 1) := by decide +kernel
theorem dX4_common_2 : decode cX4_common 2 = .ok (.putfield 32, 3) := by decide +kernel
theorem dX4_common_5 : decode cX4_common 5 = .ok (.aload_n 0, 1) := by decide +kernel
theorem dX4_common_6 : decode cX4_common 6 = .ok (.invokevirtual 74, 3) := by decide +kernel
theorem dX4_common_9 : decode cX4_common 9 = .ok (.aload_n 0, 1) := by decide +kernel
theorem dX4_common_10 : decode cX4_common 10 = .ok (.getfield 58, 3) := by decide +kernel
theorem dX4_common_13 : decode cX4_common 13 = .ok (.ifCond .ne 6, 3) := by decide +kernel
theorem dX4_common_16 : decode cX4_common 16 = .ok (.bipush (-2), 2) := by decide +kernel
theorem dX4_common_18 : decode cX4_common 18 = .ok (.ireturn, 1) := by decide +kernel
theorem dX4_common_19 : decode cX4_common 19 = .ok (.iconst (-1), 1) := by decide +kernel
theorem dX4_common_20 : decode cX4_common 20 = .ok (.istore_n 1, 1) := by decide +kernel
theorem dX4_common_21 : decode cX4_common 21 = .ok (.iconst 0, 1) := by decide +kernel
theorem dX4_common_22 : decode cX4_common 22 = .ok (.istore_n 2, 1) := by decide +kernel
theorem dX4_common_23 : decode cX4_common 23 = .ok (.iload_n 2, 1) := by decide +kernel
theorem dX4_common_24 : decode cX4_common 24 = .ok (.aload_n 0, 1) := by decide +kernel
theorem dX4_common_25 : decode cX4_common 25 = .ok (.getfield 58, 3) := by decide +kernel
theorem dX4_common_28 : decode cX4_common 28 = .ok (.if_icmp .ge 18, 3) := by decide +kernel
theorem dX4_common_31 : decode cX4_common 31 = .ok (.iload_n 1, 1) := by decide +kernel
theorem dX4_common_32 : decode cX4_common 32 = .ok (.aload_n 0, 1) := by decide +kernel
theorem dX4_common_33 : decode cX4_common 33 = .ok (.getfield 26, 3) := by decide +kernel
theorem dX4_common_36 : decode cX4_common 36 = .ok (.iload_n 2, 1) := by decide +kernel
theorem dX4_common_37 : decode cX4_common 37 = .ok (.iaload, 1) := by decide +kernel
theorem dX4_common_38 : decode cX4_common 38 = .ok (.iand, 1) := by decide +kernel
theorem dX4_common_39 : decode cX4_common 39 = .ok (.istore_n 1, 1) := by decide +kernel
theorem dX4_common_40 : decode cX4_common 40 = .ok (.iinc 2 1, 3) := by decide +kernel
theorem dX4_common_43 : decode cX4_common 43 = .ok (.goto (-20), 3) := by decide +kernel
theorem dX4_common_46 : decode cX4_common 46 = .ok (.iload_n 1, 1) := by decide +kernel
theorem dX4_common_47 : decode cX4_common 47 = .ok (.ireturn, 1) := by decide +kernel
theorem dX4_axioms_0 : decode cX4_axioms 0 = .ok (.aload_n 0, 1) := by decide +kernel
theorem dX4_axioms_1 : decode cX4_axioms 1 = .ok (.iconst 0, 1) := by decide +kernel
theorem dX4_axioms_2 : decode cX4_axioms 2 = .ok (.putfield 32, 3) := by decide +kernel
theorem dX4_axioms_5 : decode cX4_axioms 5 = .ok (.aload_n 0, 1) := by decide +kernel
theorem dX4_axioms_6 : decode cX4_axioms 6 = .ok (.getfield 36, 3) := by decide +kernel
theorem dX4_axioms_9 : decode cX4_axioms 9 = .ok (.ireturn, 1) := by decide +kernel
theorem dJx00060_init_a7421_0 : decode cJx00060_init_a7421 0 = .ok (.aload_n 0, 1) := by decide +kernel
theorem dJx00060_init_a7421_1 : decode cJx00060_init_a7421 1 = .ok (.aload_n 1, 1) := by decide +kernel
theorem dJx00060_init_a7421_2 : decode cJx00060_init_a7421 2 = .ok (.invokespecial 7, 3) := by decide +kernel
theorem dJx00060_init_a7421_5 : decode cJx00060_init_a7421 5 = .ok (.return_, 1) := by decide +kernel
theorem dJ6_bitCount_0f7a4_0 : decode cJ6_bitCount_0f7a4 0 = .ok (.iload_n 0, 1) := by decide +kernel
theorem dJ6_bitCount_0f7a4_1 : decode cJ6_bitCount_0f7a4 1 = .ok (.iload_n 0, 1) := by decide +kernel
theorem dJ6_bitCount_0f7a4_2 : decode cJ6_bitCount_0f7a4 2 = .ok (.iconst 1, 1) := by decide +kernel
theorem dJ6_bitCount_0f7a4_3 : decode cJ6_bitCount_0f7a4 3 = .ok (.iushr, 1) := by decide +kernel
theorem dJ6_bitCount_0f7a4_4 : decode cJ6_bitCount_0f7a4 4 = .ok (.ldc_w 265, 3) := by decide +kernel
theorem dJ6_bitCount_0f7a4_7 : decode cJ6_bitCount_0f7a4 7 = .ok (.iand, 1) := by decide +kernel
theorem dJ6_bitCount_0f7a4_8 : decode cJ6_bitCount_0f7a4 8 = .ok (.isub, 1) := by decide +kernel
theorem dJ6_bitCount_0f7a4_9 : decode cJ6_bitCount_0f7a4 9 = .ok (.istore_n 0, 1) := by decide +kernel
theorem dJ6_bitCount_0f7a4_10 : decode cJ6_bitCount_0f7a4 10 = .ok (.iload_n 0, 1) := by decide +kernel
theorem dJ6_bitCount_0f7a4_11 : decode cJ6_bitCount_0f7a4 11 = .ok (.ldc_w 266, 3) := by decide +kernel
theorem dJ6_bitCount_0f7a4_14 : decode cJ6_bitCount_0f7a4 14 = .ok (.iand, 1) := by decide +kernel
theorem dJ6_bitCount_0f7a4_15 : decode cJ6_bitCount_0f7a4 15 = .ok (.iload_n 0, 1) := by decide +kernel
theorem dJ6_bitCount_0f7a4_16 : decode cJ6_bitCount_0f7a4 16 = .ok (.iconst 2, 1) := by decide +kernel
theorem dJ6_bitCount_0f7a4_17 : decode cJ6_bitCount_0f7a4 17 = .ok (.iushr, 1) := by decide +kernel
theorem dJ6_bitCount_0f7a4_18 : decode cJ6_bitCount_0f7a4 18 = .ok (.ldc_w 266, 3) := by decide +kernel
theorem dJ6_bitCount_0f7a4_21 : decode cJ6_bitCount_0f7a4 21 = .ok (.iand, 1) := by decide +kernel
theorem dJ6_bitCount_0f7a4_22 : decode cJ6_bitCount_0f7a4 22 = .ok (.iadd, 1) := by decide +kernel
theorem dJ6_bitCount_0f7a4_23 : decode cJ6_bitCount_0f7a4 23 = .ok (.istore_n 0, 1) := by decide +kernel
theorem dJ6_bitCount_0f7a4_24 : decode cJ6_bitCount_0f7a4 24 = .ok (.iload_n 0, 1) := by decide +kernel
theorem dJ6_bitCount_0f7a4_25 : decode cJ6_bitCount_0f7a4 25 = .ok (.iload_n 0, 1) := by decide +kernel
theorem dJ6_bitCount_0f7a4_26 : decode cJ6_bitCount_0f7a4 26 = .ok (.iconst 4, 1) := by decide +kernel
theorem dJ6_bitCount_0f7a4_27 : decode cJ6_bitCount_0f7a4 27 = .ok (.iushr, 1) := by decide +kernel
theorem dJ6_bitCount_0f7a4_28 : decode cJ6_bitCount_0f7a4 28 = .ok (.iadd, 1) := by decide +kernel
theorem dJ6_bitCount_0f7a4_29 : decode cJ6_bitCount_0f7a4 29 = .ok (.ldc_w 267, 3) := by decide +kernel
theorem dJ6_bitCount_0f7a4_32 : decode cJ6_bitCount_0f7a4 32 = .ok (.iand, 1) := by decide +kernel
theorem dJ6_bitCount_0f7a4_33 : decode cJ6_bitCount_0f7a4 33 = .ok (.istore_n 0, 1) := by decide +kernel
theorem dJ6_bitCount_0f7a4_34 : decode cJ6_bitCount_0f7a4 34 = .ok (.iload_n 0, 1) := by decide +kernel
theorem dJ6_bitCount_0f7a4_35 : decode cJ6_bitCount_0f7a4 35 = .ok (.iload_n 0, 1) := by decide +kernel
theorem dJ6_bitCount_0f7a4_36 : decode cJ6_bitCount_0f7a4 36 = .ok (.bipush 8, 2) := by decide +kernel
theorem dJ6_bitCount_0f7a4_38 : decode cJ6_bitCount_0f7a4 38 = .ok (.iushr, 1) := by decide +kernel
theorem dJ6_bitCount_0f7a4_39 : decode cJ6_bitCount_0f7a4 39 = .ok (.iadd, 1) := by decide +kernel
theorem dJ6_bitCount_0f7a4_40 : decode cJ6_bitCount_0f7a4 40 = .ok (.istore_n 0, 1) := by decide +kernel
theorem dJ6_bitCount_0f7a4_41 : decode cJ6_bitCount_0f7a4 41 = .ok (.iload_n 0, 1) := by decide +kernel
theorem dJ6_bitCount_0f7a4_42 : decode cJ6_bitCount_0f7a4 42 = .ok (.iload_n 0, 1) := by decide +kernel
theorem dJ6_bitCount_0f7a4_43 : decode cJ6_bitCount_0f7a4 43 = .ok (.bipush 16, 2) := by decide +kernel
theorem dJ6_bitCount_0f7a4_45 : decode cJ6_bitCount_0f7a4 45 = .ok (.iushr, 1) := by decide +kernel
theorem dJ6_bitCount_0f7a4_46 : decode cJ6_bitCount_0f7a4 46 = .ok (.iadd, 1) := by decide +kernel
theorem dJ6_bitCount_0f7a4_47 : decode cJ6_bitCount_0f7a4 47 = .ok (.istore_n 0, 1) := by decide +kernel
theorem dJ6_bitCount_0f7a4_48 : decode cJ6_bitCount_0f7a4 48 = .ok (.iload_n 0, 1) := by decide +kernel
theorem dJ6_bitCount_0f7a4_49 : decode cJ6_bitCount_0f7a4 49 = .ok (.bipush 63, 2) := by decide +kernel
theorem dJ6_bitCount_0f7a4_51 : decode cJ6_bitCount_0f7a4 51 = .ok (.iand, 1) := by decide +kernel
theorem dJ6_bitCount_0f7a4_52 : decode cJ6_bitCount_0f7a4 52 = .ok (.ireturn, 1) := by decide +kernel
theorem dJ13_bitCount_95d88_0 : decode cJ13_bitCount_95d88 0 = .ok (.lload_n 0, 1) := by decide +kernel
theorem dJ13_bitCount_95d88_1 : decode cJ13_bitCount_95d88 1 = .ok (.lload_n 0, 1) := by decide +kernel
theorem dJ13_bitCount_95d88_2 : decode cJ13_bitCount_95d88 2 = .ok (.iconst 1, 1) := by decide +kernel
theorem dJ13_bitCount_95d88_3 : decode cJ13_bitCount_95d88 3 = .ok (.lushr, 1) := by decide +kernel
theorem dJ13_bitCount_95d88_4 : decode cJ13_bitCount_95d88 4 = .ok (.ldc2_w 314, 3) := by decide +kernel
theorem dJ13_bitCount_95d88_7 : decode cJ13_bitCount_95d88 7 = .ok (.land, 1) := by decide +kernel
theorem dJ13_bitCount_95d88_8 : decode cJ13_bitCount_95d88 8 = .ok (.lsub, 1) := by decide +kernel
theorem dJ13_bitCount_95d88_9 : decode cJ13_bitCount_95d88 9 = .ok (.lstore_n 0, 1) := by decide +kernel
theorem dJ13_bitCount_95d88_10 : decode cJ13_bitCount_95d88 10 = .ok (.lload_n 0, 1) := by decide +kernel
theorem dJ13_bitCount_95d88_11 : decode cJ13_bitCount_95d88 11 = .ok (.ldc2_w 316, 3) := by decide +kernel
theorem dJ13_bitCount_95d88_14 : decode cJ13_bitCount_95d88 14 = .ok (.land, 1) := by decide +kernel
theorem dJ13_bitCount_95d88_15 : decode cJ13_bitCount_95d88 15 = .ok (.lload_n 0, 1) := by decide +kernel
theorem dJ13_bitCount_95d88_16 : decode cJ13_bitCount_95d88 16 = .ok (.iconst 2, 1) := by decide +kernel
theorem dJ13_bitCount_95d88_17 : decode cJ13_bitCount_95d88 17 = .ok (.lushr, 1) := by decide +kernel
theorem dJ13_bitCount_95d88_18 : decode cJ13_bitCount_95d88 18 = .ok (.ldc2_w 316, 3) := by decide +kernel
theorem dJ13_bitCount_95d88_21 : decode cJ13_bitCount_95d88 21 = .ok (.land, 1) := by decide +kernel
theorem dJ13_bitCount_95d88_22 : decode cJ13_bitCount_95d88 22 = .ok (.ladd, 1) := by decide +kernel
theorem dJ13_bitCount_95d88_23 : decode cJ13_bitCount_95d88 23 = .ok (.lstore_n 0, 1) := by decide +kernel
theorem dJ13_bitCount_95d88_24 : decode cJ13_bitCount_95d88 24 = .ok (.lload_n 0, 1) := by decide +kernel
theorem dJ13_bitCount_95d88_25 : decode cJ13_bitCount_95d88 25 = .ok (.lload_n 0, 1) := by decide +kernel
theorem dJ13_bitCount_95d88_26 : decode cJ13_bitCount_95d88 26 = .ok (.iconst 4, 1) := by decide +kernel
theorem dJ13_bitCount_95d88_27 : decode cJ13_bitCount_95d88 27 = .ok (.lushr, 1) := by decide +kernel
theorem dJ13_bitCount_95d88_28 : decode cJ13_bitCount_95d88 28 = .ok (.ladd, 1) := by decide +kernel
theorem dJ13_bitCount_95d88_29 : decode cJ13_bitCount_95d88 29 = .ok (.ldc2_w 318, 3) := by decide +kernel
theorem dJ13_bitCount_95d88_32 : decode cJ13_bitCount_95d88 32 = .ok (.land, 1) := by decide +kernel
theorem dJ13_bitCount_95d88_33 : decode cJ13_bitCount_95d88 33 = .ok (.lstore_n 0, 1) := by decide +kernel
theorem dJ13_bitCount_95d88_34 : decode cJ13_bitCount_95d88 34 = .ok (.lload_n 0, 1) := by decide +kernel
theorem dJ13_bitCount_95d88_35 : decode cJ13_bitCount_95d88 35 = .ok (.lload_n 0, 1) := by decide +kernel
theorem dJ13_bitCount_95d88_36 : decode cJ13_bitCount_95d88 36 = .ok (.bipush 8, 2) := by decide +kernel
theorem dJ13_bitCount_95d88_38 : decode cJ13_bitCount_95d88 38 = .ok (.lushr, 1) := by decide +kernel
theorem dJ13_bitCount_95d88_39 : decode cJ13_bitCount_95d88 39 = .ok (.ladd, 1) := by decide +kernel
theorem dJ13_bitCount_95d88_40 : decode cJ13_bitCount_95d88 40 = .ok (.lstore_n 0, 1) := by decide +kernel
theorem dJ13_bitCount_95d88_41 : decode cJ13_bitCount_95d88 41 = .ok (.lload_n 0, 1) := by decide +kernel
theorem dJ13_bitCount_95d88_42 : decode cJ13_bitCount_95d88 42 = .ok (.lload_n 0, 1) := by decide +kernel
theorem dJ13_bitCount_95d88_43 : decode cJ13_bitCount_95d88 43 = .ok (.bipush 16, 2) := by decide +kernel
theorem dJ13_bitCount_95d88_45 : decode cJ13_bitCount_95d88 45 = .ok (.lushr, 1) := by decide +kernel
theorem dJ13_bitCount_95d88_46 : decode cJ13_bitCount_95d88 46 = .ok (.ladd, 1) := by decide +kernel
theorem dJ13_bitCount_95d88_47 : decode cJ13_bitCount_95d88 47 = .ok (.lstore_n 0, 1) := by decide +kernel
theorem dJ13_bitCount_95d88_48 : decode cJ13_bitCount_95d88 48 = .ok (.lload_n 0, 1) := by decide +kernel
theorem dJ13_bitCount_95d88_49 : decode cJ13_bitCount_95d88 49 = .ok (.lload_n 0, 1) := by decide +kernel
theorem dJ13_bitCount_95d88_50 : decode cJ13_bitCount_95d88 50 = .ok (.bipush 32, 2) := by decide +kernel
theorem dJ13_bitCount_95d88_52 : decode cJ13_bitCount_95d88 52 = .ok (.lushr, 1) := by decide +kernel
theorem dJ13_bitCount_95d88_53 : decode cJ13_bitCount_95d88 53 = .ok (.ladd, 1) := by decide +kernel
theorem dJ13_bitCount_95d88_54 : decode cJ13_bitCount_95d88 54 = .ok (.lstore_n 0, 1) := by decide +kernel
theorem dJ13_bitCount_95d88_55 : decode cJ13_bitCount_95d88 55 = .ok (.lload_n 0, 1) := by decide +kernel
theorem dJ13_bitCount_95d88_56 : decode cJ13_bitCount_95d88 56 = .ok (.l2i, 1) := by decide +kernel
theorem dJ13_bitCount_95d88_57 : decode cJ13_bitCount_95d88 57 = .ok (.bipush 127, 2) := by decide +kernel
theorem dJ13_bitCount_95d88_59 : decode cJ13_bitCount_95d88 59 = .ok (.iand, 1) := by decide +kernel
theorem dJ13_bitCount_95d88_60 : decode cJ13_bitCount_95d88 60 = .ok (.ireturn, 1) := by decide +kernel
theorem dJ7_fill_d0a16_0 : decode cJ7_fill_d0a16 0 = .ok (.iconst 0, 1) := by decide +kernel
theorem dJ7_fill_d0a16_1 : decode cJ7_fill_d0a16 1 = .ok (.istore_n 3, 1) := by decide +kernel
theorem dJ7_fill_d0a16_2 : decode cJ7_fill_d0a16 2 = .ok (.aload_n 0, 1) := by decide +kernel
theorem dJ7_fill_d0a16_3 : decode cJ7_fill_d0a16 3 = .ok (.arraylength, 1) := by decide +kernel
theorem dJ7_fill_d0a16_4 : decode cJ7_fill_d0a16 4 = .ok (.istore 4, 2) := by decide +kernel
theorem dJ7_fill_d0a16_6 : decode cJ7_fill_d0a16 6 = .ok (.iload_n 3, 1) := by decide +kernel
theorem dJ7_fill_d0a16_7 : decode cJ7_fill_d0a16 7 = .ok (.iload 4, 2) := by decide +kernel
theorem dJ7_fill_d0a16_9 : decode cJ7_fill_d0a16 9 = .ok (.if_icmp .ge 13, 3) := by decide +kernel
theorem dJ7_fill_d0a16_12 : decode cJ7_fill_d0a16 12 = .ok (.aload_n 0, 1) := by decide +kernel
theorem dJ7_fill_d0a16_13 : decode cJ7_fill_d0a16 13 = .ok (.iload_n 3, 1) := by decide +kernel
theorem dJ7_fill_d0a16_14 : decode cJ7_fill_d0a16 14 = .ok (.lload_n 1, 1) := by decide +kernel
theorem dJ7_fill_d0a16_15 : decode cJ7_fill_d0a16 15 = .ok (.lastore, 1) := by decide +kernel
theorem dJ7_fill_d0a16_16 : decode cJ7_fill_d0a16 16 = .ok (.iinc 3 1, 3) := by decide +kernel
theorem dJ7_fill_d0a16_19 : decode cJ7_fill_d0a16 19 = .ok (.goto (-13), 3) := by decide +kernel
theorem dJ7_fill_d0a16_22 : decode cJ7_fill_d0a16 22 = .ok (.return_, 1) := by decide +kernel
set_option maxRecDepth 20000 in
theorem ggL_fact_X3_fact : GoodIn wsL_fact wsX3_fact := goodIn_r _ [5, 6, 7, 8, 9, 10, 11, 12, 13, 14, 15, 16, 17, 18, 19, 20, 21, 22, 23, 24, 25, 26, 27, 28, 29, 30, 4, 31, 32, 33, 34, 35, 36, 37, 38, 39, 40, 41, 42, 43, 44, 45, 46, 47, 48, 49, 50, 51, 52, 53, 54, 55, 56, 57, 58] (by decide +kernel) (by decide +kernel)
set_option maxRecDepth 20000 in
theorem gL_fact_X3_fact : GoodIn wsL_fact (wsV RL 7 RX3 yX3_fact wsX3_fact) := goodIn_app (goodIn_of _ (by decide +kernel)) ggL_fact_X3_fact
theorem dL_fact_0 : decode cL_fact 0 = .ok (.aload_n 2, 1) := by decide +kernel
theorem dL_fact_1 : decode cL_fact 1 = .ok (.iconst 0, 1) := by decide +kernel
theorem dL_fact_2 : decode cL_fact 2 = .ok (.aload_n 0, 1) := by decide +kernel
theorem dL_fact_3 : decode cL_fact 3 = .ok (.iload_n 1, 1) := by decide +kernel
theorem dL_fact_4 : decode cL_fact 4 = .ok (.invokevirtual 7, 3) := by decide +kernel
theorem dL_fact_7 : decode cL_fact 7 = .ok (.i2l, 1) := by decide +kernel
theorem dL_fact_8 : decode cL_fact 8 = .ok (.lastore, 1) := by decide +kernel
theorem dL_fact_9 : decode cL_fact 9 = .ok (.goto 6, 3) := by decide +kernel
theorem dL_fact_12 : decode cL_fact 12 = .ok (.astore_n 3, 1) := by decide +kernel
theorem dL_fact_13 : decode cL_fact 13 = .ok (.iconst 1, 1) := by decide +kernel
theorem dL_fact_14 : decode cL_fact 14 = .ok (.ireturn, 1) := by decide +kernel
theorem dL_fact_15 : decode cL_fact 15 = .ok (.iconst 0, 1) := by decide +kernel
theorem dL_fact_16 : decode cL_fact 16 = .ok (.ireturn, 1) := by decide +kernel
set_option maxRecDepth 20000 in
theorem ggL_law_X3_init : GoodIn wsL_law wsX3_init := goodIn_r _ [9, 10, 11, 12, 13, 14, 15, 16, 17, 18, 19, 20, 21, 22, 23, 24, 25, 26, 27, 28, 29, 30, 31, 32, 33, 34, 35, 36, 37, 38, 6, 39, 40, 41, 42, 43, 44, 45, 46, 47, 48, 49, 50, 385, 386, 387, 388, 389, 390, 391, 364, 365, 366, 367, 368, 369, 370, 392, 393, 394, 395] (by decide +kernel) (by decide +kernel)
set_option maxRecDepth 20000 in
theorem gL_law_X3_init : GoodIn wsL_law (wsX3_init) := ggL_law_X3_init
set_option maxRecDepth 20000 in
theorem ggL_law_X4_init : GoodIn wsL_law wsX4_init := goodIn_r _ [53, 54, 11, 12, 32, 55, 56, 57, 36, 58, 59, 60, 61, 371, 372, 373, 374, 375, 376, 377, 378, 379, 380, 381, 382, 383, 384] (by decide +kernel) (by decide +kernel)
set_option maxRecDepth 20000 in
theorem gL_law_X4_init : GoodIn wsL_law (wsX4_init) := ggL_law_X4_init
set_option maxRecDepth 20000 in
theorem ggL_law_X3_axiom : GoodIn wsL_law wsX3_axiom := goodIn_r _ [65, 16, 66, 67, 2, 68, 69, 70, 71, 15, 72, 38, 33, 34, 35, 37, 73, 74, 75, 76, 27, 28, 364, 365, 366, 367, 368, 369, 370, 385, 386, 387, 388, 389, 390, 391] (by decide +kernel) (by decide +kernel)
set_option maxRecDepth 20000 in
theorem gL_law_X3_axiom : GoodIn wsL_law (wsV RL 19 RX3 yX3_axiom wsX3_axiom) := goodIn_app (goodIn_of _ (by decide +kernel)) ggL_law_X3_axiom
set_option maxRecDepth 20000 in
theorem ggL_law_X4_axiom : GoodIn wsL_law wsX4_axiom := goodIn_r _ [80, 81, 82, 83, 55, 56, 57, 58, 84, 371, 372, 373, 374, 375, 376, 377, 378, 379, 380, 381, 382, 383, 384] (by decide +kernel) (by decide +kernel)
set_option maxRecDepth 20000 in
theorem gL_law_X4_axiom : GoodIn wsL_law (wsV RL 23 RX4 yX4_axiom wsX4_axiom) := goodIn_app (goodIn_of _ (by decide +kernel)) ggL_law_X4_axiom
set_option maxRecDepth 20000 in
theorem ggL_law_X3_drop : GoodIn wsL_law wsX3_drop := goodIn_r _ [88, 16, 89, 90, 91, 15, 92, 38, 93, 94, 95, 96, 33, 34, 35, 37, 97, 73, 74, 75, 2, 76, 27, 28, 364, 365, 366, 367, 368, 369, 370, 385, 386, 387, 388, 389, 390, 391] (by decide +kernel) (by decide +kernel)
set_option maxRecDepth 20000 in
theorem gL_law_X3_drop : GoodIn wsL_law (wsV RL 24 RX3 yX3_drop wsX3_drop) := goodIn_app (goodIn_of _ (by decide +kernel)) ggL_law_X3_drop
set_option maxRecDepth 20000 in
theorem ggL_law_X4_drop : GoodIn wsL_law wsX4_drop := goodIn_r _ [101, 81, 83, 55, 56, 57, 58, 84, 102, 103, 104, 5, 105, 371, 372, 373, 374, 375, 376, 377, 378, 379, 380, 381, 382, 383, 384] (by decide +kernel) (by decide +kernel)
set_option maxRecDepth 20000 in
theorem gL_law_X4_drop : GoodIn wsL_law (wsV RL 27 RX4 yX4_drop wsX4_drop) := goodIn_app (goodIn_of _ (by decide +kernel)) ggL_law_X4_drop
set_option maxRecDepth 20000 in
theorem ggL_law_X3_fix : GoodIn wsL_law wsX3_fix := goodIn_r _ [109, 16, 28, 89, 90, 91, 15, 92, 38, 364, 365, 366, 367, 368, 369, 370, 385, 386, 387, 388, 389, 390, 391] (by decide +kernel) (by decide +kernel)
set_option maxRecDepth 20000 in
theorem gL_law_X3_fix : GoodIn wsL_law (wsV RL 28 RX3 yX3_fix wsX3_fix) := goodIn_app (goodIn_of _ (by decide +kernel)) ggL_law_X3_fix
set_option maxRecDepth 20000 in
theorem ggL_law_X4_fix : GoodIn wsL_law wsX4_fix := goodIn_r _ [113, 81, 58, 84, 102, 103, 104, 5, 105, 83, 371, 372, 373, 374, 375, 376, 377, 378, 379, 380, 381, 382, 383, 384] (by decide +kernel) (by decide +kernel)
set_option maxRecDepth 20000 in
theorem gL_law_X4_fix : GoodIn wsL_law (wsV RL 32 RX4 yX4_fix wsX4_fix) := goodIn_app (goodIn_of _ (by decide +kernel)) ggL_law_X4_fix
set_option maxRecDepth 20000 in
theorem ggL_law_X3_weight : GoodIn wsL_law wsX3_weight := goodIn_r _ [117, 16, 89, 90, 91, 15, 92, 38, 364, 365, 366, 367, 368, 369, 370, 385, 386, 387, 388, 389, 390, 391] (by decide +kernel) (by decide +kernel)
set_option maxRecDepth 20000 in
theorem gL_law_X3_weight : GoodIn wsL_law (wsV RL 33 RX3 yX3_weight wsX3_weight) := goodIn_app (goodIn_of _ (by decide +kernel)) ggL_law_X3_weight
set_option maxRecDepth 20000 in
theorem ggL_law_X4_weight : GoodIn wsL_law wsX4_weight := goodIn_r _ [121, 81, 57, 102, 103, 104, 5, 105, 83, 371, 372, 373, 374, 375, 376, 377, 378, 379, 380, 381, 382, 383, 384] (by decide +kernel) (by decide +kernel)
set_option maxRecDepth 20000 in
theorem gL_law_X4_weight : GoodIn wsL_law (wsV RL 36 RX4 yX4_weight wsX4_weight) := goodIn_app (goodIn_of _ (by decide +kernel)) ggL_law_X4_weight
set_option maxRecDepth 20000 in
theorem ggL_law_X3_goal : GoodIn wsL_law wsX3_goal := goodIn_r _ [125, 26, 66, 67, 2, 68, 73, 74, 75, 76, 27, 28, 364, 365, 366, 367, 368, 369, 370] (by decide +kernel) (by decide +kernel)
set_option maxRecDepth 20000 in
theorem gL_law_X3_goal : GoodIn wsL_law (wsV RL 37 RX3 yX3_goal wsX3_goal) := goodIn_app (goodIn_of _ (by decide +kernel)) ggL_law_X3_goal
set_option maxRecDepth 20000 in
theorem ggL_law_X4_goal : GoodIn wsL_law wsX4_goal := goodIn_r _ [129, 81, 130, 84, 371, 372, 373, 374, 375, 376, 377, 378, 379, 380, 381, 382, 383, 384] (by decide +kernel) (by decide +kernel)
set_option maxRecDepth 20000 in
theorem gL_law_X4_goal : GoodIn wsL_law (wsV RL 40 RX4 yX4_goal wsX4_goal) := goodIn_app (goodIn_of _ (by decide +kernel)) ggL_law_X4_goal
set_option maxRecDepth 20000 in
theorem ggL_law_X3_follow : GoodIn wsL_law wsX3_follow := goodIn_r _ [134, 16, 135, 136, 137, 15, 138, 38, 139, 140, 141, 142, 33, 34, 364, 365, 366, 367, 368, 369, 370, 385, 386, 387, 388, 389, 390, 391] (by decide +kernel) (by decide +kernel)
set_option maxRecDepth 20000 in
theorem gL_law_X3_follow : GoodIn wsL_law (wsV RL 41 RX3 yX3_follow wsX3_follow) := goodIn_app (goodIn_of _ (by decide +kernel)) ggL_law_X3_follow
set_option maxRecDepth 20000 in
theorem ggL_law_X4_follow : GoodIn wsL_law wsX4_follow := goodIn_r _ [146, 81, 147, 148, 149, 5, 150, 151, 83, 55, 56, 130, 371, 372, 373, 374, 375, 376, 377, 378, 379, 380, 381, 382, 383, 384] (by decide +kernel) (by decide +kernel)
set_option maxRecDepth 20000 in
theorem gL_law_X4_follow : GoodIn wsL_law (wsV RL 44 RX4 yX4_follow wsX4_follow) := goodIn_app (goodIn_of _ (by decide +kernel)) ggL_law_X4_follow
set_option maxRecDepth 20000 in
theorem ggL_law_X3_steps : GoodIn wsL_law wsX3_steps := goodIn_r _ [155, 16, 26, 156, 140, 141, 15, 142, 38, 33, 34, 364, 365, 366, 367, 368, 369, 370, 385, 386, 387, 388, 389, 390, 391] (by decide +kernel) (by decide +kernel)
set_option maxRecDepth 20000 in
theorem gL_law_X3_steps : GoodIn wsL_law (wsV RL 45 RX3 yX3_steps wsX3_steps) := goodIn_app (goodIn_of _ (by decide +kernel)) ggL_law_X3_steps
set_option maxRecDepth 20000 in
theorem ggL_law_X4_steps : GoodIn wsL_law wsX4_steps := goodIn_r _ [160, 81, 151, 147, 148, 149, 5, 150, 83, 55, 56, 130, 371, 372, 373, 374, 375, 376, 377, 378, 379, 380, 381, 382, 383, 384] (by decide +kernel) (by decide +kernel)
set_option maxRecDepth 20000 in
theorem gL_law_X4_steps : GoodIn wsL_law (wsV RL 48 RX4 yX4_steps wsX4_steps) := goodIn_app (goodIn_of _ (by decide +kernel)) ggL_law_X4_steps
set_option maxRecDepth 20000 in
theorem ggL_law_X3_causes : GoodIn wsL_law wsX3_causes := goodIn_r _ [164, 165, 166, 167, 2, 168, 27, 16, 20, 26, 24, 169, 170, 171, 15, 172, 38, 173, 174, 175, 176, 39, 177, 178, 179, 180, 181, 182, 183, 184, 185, 40, 33, 34, 186, 187, 188, 189, 190, 191, 192, 193, 194, 195, 196, 197, 198, 199, 200, 201, 202, 203, 204, 205, 206, 207, 208, 209, 210, 211, 212, 19, 213, 45, 214, 215, 216, 217, 44, 218, 219, 220, 221, 23, 222, 50, 223, 224, 225, 226, 227, 49, 228, 394, 395, 364, 365, 366, 367, 368, 369, 370, 392, 393, 385, 386, 387, 388, 389, 390, 391] (by decide +kernel) (by decide +kernel)
set_option maxRecDepth 20000 in
theorem gL_law_X3_causes : GoodIn wsL_law (wsV RL 49 RX3 yX3_causes wsX3_causes) := goodIn_app (goodIn_of _ (by decide +kernel)) ggL_law_X3_causes
set_option maxRecDepth 20000 in
theorem ggL_law_X4_causes : GoodIn wsL_law wsX4_causes := goodIn_r _ [232, 81, 233, 234, 235, 236, 5, 237, 84, 83, 59, 130, 238, 60, 61, 147, 148, 149, 150, 151, 55, 56, 239, 240, 241, 242, 243, 244, 245, 246, 247, 248, 249, 58, 371, 372, 373, 374, 375, 376, 377, 378, 379, 380, 381, 382, 383, 384] (by decide +kernel) (by decide +kernel)
set_option maxRecDepth 20000 in
theorem gL_law_X4_causes : GoodIn wsL_law (wsV RL 53 RX4 yX4_causes wsX4_causes) := goodIn_app (goodIn_of _ (by decide +kernel)) ggL_law_X4_causes
set_option maxRecDepth 20000 in
theorem ggL_law_X3_cures : GoodIn wsL_law wsX3_cures := goodIn_r _ [253, 254, 255, 256, 2, 257, 28, 16, 20, 26, 258, 25, 169, 170, 171, 15, 172, 38, 259, 260, 261, 262, 39, 37, 181, 177, 178, 179, 180, 182, 183, 184, 185, 40, 33, 34, 186, 187, 188, 189, 190, 191, 192, 193, 194, 195, 196, 197, 198, 199, 200, 201, 202, 203, 204, 205, 206, 207, 208, 209, 210, 211, 212, 19, 213, 45, 214, 215, 216, 217, 44, 218, 219, 220, 221, 23, 222, 50, 223, 224, 225, 226, 227, 49, 228, 394, 395, 364, 365, 366, 367, 368, 369, 370, 392, 393, 385, 386, 387, 388, 389, 390, 391] (by decide +kernel) (by decide +kernel)
set_option maxRecDepth 20000 in
theorem gL_law_X3_cures : GoodIn wsL_law (wsV RL 54 RX3 yX3_cures wsX3_cures) := goodIn_app (goodIn_of _ (by decide +kernel)) ggL_law_X3_cures
set_option maxRecDepth 20000 in
theorem ggL_law_X4_cures : GoodIn wsL_law wsX4_cures := goodIn_r _ [266, 81, 238, 234, 235, 236, 5, 237, 84, 83, 59, 130, 233, 60, 61, 147, 148, 149, 150, 151, 55, 56, 239, 240, 241, 242, 243, 244, 245, 246, 247, 248, 249, 58, 371, 372, 373, 374, 375, 376, 377, 378, 379, 380, 381, 382, 383, 384] (by decide +kernel) (by decide +kernel)
set_option maxRecDepth 20000 in
theorem gL_law_X4_cures : GoodIn wsL_law (wsV RL 57 RX4 yX4_cures wsX4_cures) := goodIn_app (goodIn_of _ (by decide +kernel)) ggL_law_X4_cures
set_option maxRecDepth 20000 in
theorem ggL_law_X3_cause : GoodIn wsL_law wsX3_cause := goodIn_r _ [270, 165, 166, 167, 2, 168, 27, 16, 20, 26, 24, 169, 170, 171, 15, 172, 38, 173, 174, 175, 176, 39, 177, 178, 179, 180, 181, 182, 183, 184, 185, 40, 33, 34, 186, 187, 188, 189, 190, 191, 192, 193, 194, 195, 196, 197, 198, 199, 200, 201, 202, 203, 204, 205, 206, 207, 208, 209, 210, 211, 212, 19, 213, 45, 214, 215, 216, 217, 44, 218, 219, 220, 221, 23, 222, 50, 223, 224, 225, 226, 227, 49, 228, 271, 272, 273, 274, 364, 365, 366, 367, 368, 369, 370, 392, 393, 385, 386, 387, 388, 389, 390, 391, 394, 395] (by decide +kernel) (by decide +kernel)
set_option maxRecDepth 20000 in
theorem gL_law_X3_cause : GoodIn wsL_law (wsV RL 58 RX3 yX3_cause wsX3_cause) := goodIn_app (goodIn_of _ (by decide +kernel)) ggL_law_X3_cause
set_option maxRecDepth 20000 in
theorem ggL_law_X4_cause : GoodIn wsL_law wsX4_cause := goodIn_r _ [278, 81, 233, 60, 234, 235, 236, 5, 237, 84, 83, 59, 130, 238, 61, 147, 148, 149, 150, 151, 55, 56, 239, 240, 241, 242, 243, 244, 245, 246, 247, 248, 249, 58, 371, 372, 373, 374, 375, 376, 377, 378, 379, 380, 381, 382, 383, 384] (by decide +kernel) (by decide +kernel)
set_option maxRecDepth 20000 in
theorem gL_law_X4_cause : GoodIn wsL_law (wsV RL 61 RX4 yX4_cause wsX4_cause) := goodIn_app (goodIn_of _ (by decide +kernel)) ggL_law_X4_cause
set_option maxRecDepth 20000 in
theorem ggL_law_X3_cure : GoodIn wsL_law wsX3_cure := goodIn_r _ [282, 254, 255, 256, 2, 257, 28, 16, 20, 26, 258, 25, 169, 170, 171, 15, 172, 38, 259, 260, 261, 262, 39, 37, 181, 177, 178, 179, 180, 182, 183, 184, 185, 40, 33, 34, 186, 187, 188, 189, 190, 191, 192, 193, 194, 195, 196, 197, 198, 199, 200, 201, 202, 203, 204, 205, 206, 207, 208, 209, 210, 211, 212, 19, 213, 45, 214, 215, 216, 217, 44, 218, 219, 220, 221, 23, 222, 50, 223, 224, 225, 226, 227, 49, 228, 271, 272, 273, 274, 364, 365, 366, 367, 368, 369, 370, 392, 393, 385, 386, 387, 388, 389, 390, 391, 394, 395] (by decide +kernel) (by decide +kernel)
set_option maxRecDepth 20000 in
theorem gL_law_X3_cure : GoodIn wsL_law (wsV RL 62 RX3 yX3_cure wsX3_cure) := goodIn_app (goodIn_of _ (by decide +kernel)) ggL_law_X3_cure
set_option maxRecDepth 20000 in
theorem ggL_law_X4_cure : GoodIn wsL_law wsX4_cure := goodIn_r _ [286, 81, 238, 61, 234, 235, 236, 5, 237, 84, 83, 59, 130, 233, 60, 147, 148, 149, 150, 151, 55, 56, 239, 240, 241, 242, 243, 244, 245, 246, 247, 248, 249, 58, 371, 372, 373, 374, 375, 376, 377, 378, 379, 380, 381, 382, 383, 384] (by decide +kernel) (by decide +kernel)
set_option maxRecDepth 20000 in
theorem gL_law_X4_cure : GoodIn wsL_law (wsV RL 65 RX4 yX4_cure wsX4_cure) := goodIn_app (goodIn_of _ (by decide +kernel)) ggL_law_X4_cure
set_option maxRecDepth 20000 in
theorem ggL_law_X3_lightest : GoodIn wsL_law wsX3_lightest := goodIn_r _ [290, 16, 254, 255, 256, 2, 257, 28, 20, 26, 258, 25, 169, 170, 171, 15, 172, 38, 259, 260, 261, 262, 39, 37, 181, 177, 178, 179, 180, 182, 183, 184, 185, 40, 33, 34, 186, 187, 188, 189, 190, 191, 192, 193, 194, 195, 196, 197, 198, 199, 200, 201, 202, 203, 204, 205, 206, 207, 208, 209, 210, 211, 212, 19, 213, 45, 214, 215, 216, 217, 44, 218, 219, 220, 221, 23, 222, 50, 223, 224, 225, 226, 227, 49, 228, 271, 272, 273, 274, 291, 292, 293, 294, 35, 394, 395, 364, 365, 366, 367, 368, 369, 370, 392, 393, 385, 386, 387, 388, 389, 390, 391] (by decide +kernel) (by decide +kernel)
set_option maxRecDepth 20000 in
theorem gL_law_X3_lightest : GoodIn wsL_law (wsV RL 66 RX3 yX3_lightest wsX3_lightest) := goodIn_app (goodIn_of _ (by decide +kernel)) ggL_law_X3_lightest
set_option maxRecDepth 20000 in
theorem ggL_law_X4_lightest : GoodIn wsL_law wsX4_lightest := goodIn_r _ [298, 81, 238, 83, 61, 57, 234, 235, 236, 5, 237, 84, 59, 130, 233, 60, 147, 148, 149, 150, 151, 55, 56, 239, 240, 241, 242, 243, 244, 245, 246, 247, 248, 249, 58, 371, 372, 373, 374, 375, 376, 377, 378, 379, 380, 381, 382, 383, 384] (by decide +kernel) (by decide +kernel)
set_option maxRecDepth 20000 in
theorem gL_law_X4_lightest : GoodIn wsL_law (wsV RL 69 RX4 yX4_lightest wsX4_lightest) := goodIn_app (goodIn_of _ (by decide +kernel)) ggL_law_X4_lightest
set_option maxRecDepth 20000 in
theorem ggL_law_X3_times : GoodIn wsL_law wsX3_times := goodIn_r _ [302, 16, 89, 90, 91, 15, 92, 38, 254, 255, 256, 2, 257, 28, 20, 26, 258, 25, 169, 170, 171, 172, 259, 260, 261, 262, 39, 37, 181, 177, 178, 179, 180, 182, 183, 184, 185, 40, 33, 34, 186, 187, 188, 189, 190, 191, 192, 193, 194, 195, 196, 197, 198, 199, 200, 201, 202, 203, 204, 205, 206, 207, 208, 209, 210, 211, 212, 19, 213, 45, 214, 215, 216, 217, 44, 218, 219, 220, 221, 23, 222, 50, 223, 224, 225, 226, 227, 49, 228, 165, 166, 167, 168, 27, 24, 173, 174, 175, 176, 303, 304, 305, 306, 364, 365, 366, 367, 368, 369, 370, 385, 386, 387, 388, 389, 390, 391, 392, 393, 394, 395] (by decide +kernel) (by decide +kernel)
set_option maxRecDepth 20000 in
theorem gL_law_X3_times : GoodIn wsL_law (wsV RL 70 RX3 yX3_times wsX3_times) := goodIn_app (goodIn_of _ (by decide +kernel)) ggL_law_X3_times
set_option maxRecDepth 20000 in
theorem ggL_law_X4_times : GoodIn wsL_law wsX4_times := goodIn_r _ [310, 81, 233, 238, 60, 61, 102, 103, 104, 5, 105, 83, 234, 235, 236, 237, 84, 59, 130, 147, 148, 149, 150, 151, 55, 56, 239, 240, 241, 242, 243, 244, 245, 246, 247, 248, 249, 58, 371, 372, 373, 374, 375, 376, 377, 378, 379, 380, 381, 382, 383, 384] (by decide +kernel) (by decide +kernel)
set_option maxRecDepth 20000 in
theorem gL_law_X4_times : GoodIn wsL_law (wsV RL 73 RX4 yX4_times wsX4_times) := goodIn_app (goodIn_of _ (by decide +kernel)) ggL_law_X4_times
set_option maxRecDepth 20000 in
theorem ggL_law_X3_within : GoodIn wsL_law wsX3_within := goodIn_r _ [314, 165, 166, 167, 2, 168, 27, 16, 20, 26, 24, 169, 170, 171, 15, 172, 38, 173, 174, 175, 176, 39, 177, 178, 179, 180, 181, 182, 183, 184, 185, 40, 33, 34, 186, 187, 188, 189, 190, 191, 192, 193, 194, 195, 196, 197, 198, 199, 200, 201, 202, 203, 204, 205, 206, 207, 208, 209, 210, 211, 212, 19, 213, 45, 214, 215, 216, 217, 44, 218, 219, 220, 221, 23, 222, 50, 223, 224, 225, 226, 227, 49, 228, 315, 316, 317, 318, 364, 365, 366, 367, 368, 369, 370, 392, 393, 385, 386, 387, 388, 389, 390, 391, 394, 395] (by decide +kernel) (by decide +kernel)
set_option maxRecDepth 20000 in
theorem gL_law_X3_within : GoodIn wsL_law (wsV RL 74 RX3 yX3_within wsX3_within) := goodIn_app (goodIn_of _ (by decide +kernel)) ggL_law_X3_within
set_option maxRecDepth 20000 in
theorem ggL_law_X4_within : GoodIn wsL_law wsX4_within := goodIn_r _ [322, 81, 233, 60, 234, 235, 236, 5, 237, 84, 83, 59, 130, 238, 61, 147, 148, 149, 150, 151, 55, 56, 239, 240, 241, 242, 243, 244, 245, 246, 247, 248, 249, 58, 371, 372, 373, 374, 375, 376, 377, 378, 379, 380, 381, 382, 383, 384] (by decide +kernel) (by decide +kernel)
set_option maxRecDepth 20000 in
theorem gL_law_X4_within : GoodIn wsL_law (wsV RL 77 RX4 yX4_within wsX4_within) := goodIn_app (goodIn_of _ (by decide +kernel)) ggL_law_X4_within
set_option maxRecDepth 20000 in
theorem ggL_law_X3_common : GoodIn wsL_law wsX3_common := goodIn_r _ [326, 165, 166, 167, 2, 168, 27, 16, 20, 26, 24, 169, 170, 171, 15, 172, 38, 173, 174, 175, 176, 39, 177, 178, 179, 180, 181, 182, 183, 184, 185, 40, 33, 34, 186, 187, 188, 189, 190, 191, 192, 193, 194, 195, 196, 197, 198, 199, 200, 201, 202, 203, 204, 205, 206, 207, 208, 209, 210, 211, 212, 19, 213, 45, 214, 215, 216, 217, 44, 218, 219, 220, 221, 23, 222, 50, 223, 224, 225, 226, 227, 49, 228, 327, 328, 329, 330, 364, 365, 366, 367, 368, 369, 370, 392, 393, 385, 386, 387, 388, 389, 390, 391, 394, 395] (by decide +kernel) (by decide +kernel)
set_option maxRecDepth 20000 in
theorem gL_law_X3_common : GoodIn wsL_law (wsV RL 78 RX3 yX3_common wsX3_common) := goodIn_app (goodIn_of _ (by decide +kernel)) ggL_law_X3_common
set_option maxRecDepth 20000 in
theorem ggL_law_X4_common : GoodIn wsL_law wsX4_common := goodIn_r _ [334, 81, 233, 60, 234, 235, 236, 5, 237, 84, 83, 59, 130, 238, 61, 147, 148, 149, 150, 151, 55, 56, 239, 240, 241, 242, 243, 244, 245, 246, 247, 248, 249, 58, 371, 372, 373, 374, 375, 376, 377, 378, 379, 380, 381, 382, 383, 384] (by decide +kernel) (by decide +kernel)
set_option maxRecDepth 20000 in
theorem gL_law_X4_common : GoodIn wsL_law (wsV RL 81 RX4 yX4_common wsX4_common) := goodIn_app (goodIn_of _ (by decide +kernel)) ggL_law_X4_common
set_option maxRecDepth 20000 in
theorem ggL_law_X3_axioms : GoodIn wsL_law wsX3_axioms := goodIn_r _ [338, 16, 364, 365, 366, 367, 368, 369, 370, 385, 386, 387, 388, 389, 390, 391] (by decide +kernel) (by decide +kernel)
set_option maxRecDepth 20000 in
theorem gL_law_X3_axioms : GoodIn wsL_law (wsV RL 82 RX3 yX3_axioms wsX3_axioms) := goodIn_app (goodIn_of _ (by decide +kernel)) ggL_law_X3_axioms
set_option maxRecDepth 20000 in
theorem ggL_law_X4_axioms : GoodIn wsL_law wsX4_axioms := goodIn_r _ [342, 81, 83, 371, 372, 373, 374, 375, 376, 377, 378, 379, 380, 381, 382, 383, 384] (by decide +kernel) (by decide +kernel)
set_option maxRecDepth 20000 in
theorem gL_law_X4_axioms : GoodIn wsL_law (wsV RL 85 RX4 yX4_axioms wsX4_axioms) := goodIn_app (goodIn_of _ (by decide +kernel)) ggL_law_X4_axioms
set_option maxRecDepth 20000 in
theorem ggL_law_L_fact : GoodIn wsL_law wsL_fact := goodIn_r _ [346, 347, 348, 349, 2, 350, 16, 351, 352, 353, 135, 136, 137, 15, 138, 38, 139, 140, 141, 142, 33, 34, 354, 195, 196, 197, 198, 199, 200, 355, 201, 202, 203, 204, 205, 206, 207, 208, 209, 364, 365, 366, 367, 368, 369, 370, 396, 397, 398, 399, 400, 401, 385, 386, 387, 388, 389, 390, 391] (by decide +kernel) (by decide +kernel)
set_option maxRecDepth 20000 in
theorem gL_law_L_fact : GoodIn wsL_law (va_wsS RL 86 yL_fact wsL_fact) := goodIn_app (goodIn_of _ (by decide +kernel)) ggL_law_L_fact
set_option maxRecDepth 20000 in
theorem ggL_law_X4_fact : GoodIn wsL_law wsX4_fact := goodIn_r _ [359, 81, 147, 148, 149, 5, 150, 151, 83, 55, 56, 130, 371, 372, 373, 374, 375, 376, 377, 378, 379, 380, 381, 382, 383, 384] (by decide +kernel) (by decide +kernel)
set_option maxRecDepth 20000 in
theorem gL_law_X4_fact : GoodIn wsL_law (wsV RL 91 RX4 yX4_fact wsX4_fact) := goodIn_app (goodIn_of _ (by decide +kernel)) ggL_law_X4_fact
set_option maxRecDepth 20000 in
theorem ggL_law_X4_thrown : GoodIn wsL_law wsX4_thrown := goodIn_r _ [363, 81, 371, 372, 373, 374, 375, 376, 377, 378, 379, 380, 381, 382, 383, 384] (by decide +kernel) (by decide +kernel)
set_option maxRecDepth 20000 in
theorem gL_law_X4_thrown : GoodIn wsL_law (wsV RL 92 RX4 yX4_thrown wsX4_thrown) := goodIn_app (goodIn_of _ (by decide +kernel)) ggL_law_X4_thrown
theorem dL_law_0 : decode cL_law 0 = .ok (.new 8, 3) := by decide +kernel
theorem dL_law_3 : decode cL_law 3 = .ok (.dup, 1) := by decide +kernel
theorem dL_law_4 : decode cL_law 4 = .ok (.invokespecial 15, 3) := by decide +kernel
theorem dL_law_7 : decode cL_law 7 = .ok (.astore_n 1, 1) := by decide +kernel
theorem dL_law_8 : decode cL_law 8 = .ok (.new 16, 3) := by decide +kernel
theorem dL_law_11 : decode cL_law 11 = .ok (.dup, 1) := by decide +kernel
theorem dL_law_12 : decode cL_law 12 = .ok (.invokespecial 18, 3) := by decide +kernel
theorem dL_law_15 : decode cL_law 15 = .ok (.astore_n 2, 1) := by decide +kernel
theorem dL_law_16 : decode cL_law 16 = .ok (.iconst 1, 1) := by decide +kernel
theorem dL_law_17 : decode cL_law 17 = .ok (.newarray .long, 2) := by decide +kernel
theorem dL_law_19 : decode cL_law 19 = .ok (.astore_n 3, 1) := by decide +kernel
theorem dL_law_20 : decode cL_law 20 = .ok (.iconst 0, 1) := by decide +kernel
theorem dL_law_21 : decode cL_law 21 = .ok (.istore 4, 2) := by decide +kernel
theorem dL_law_23 : decode cL_law 23 = .ok (.iload 4, 2) := by decide +kernel
theorem dL_law_25 : decode cL_law 25 = .ok (.aload_n 0, 1) := by decide +kernel
theorem dL_law_26 : decode cL_law 26 = .ok (.arraylength, 1) := by decide +kernel
theorem dL_law_27 : decode cL_law 27 = .ok (.iconst 3, 1) := by decide +kernel
theorem dL_law_28 : decode cL_law 28 = .ok (.isub, 1) := by decide +kernel
theorem dL_law_29 : decode cL_law 29 = .ok (.if_icmp .gt 557, 3) := by decide +kernel
theorem dL_law_32 : decode cL_law 32 = .ok (.aload_n 0, 1) := by decide +kernel
theorem dL_law_33 : decode cL_law 33 = .ok (.iload 4, 2) := by decide +kernel
theorem dL_law_35 : decode cL_law 35 = .ok (.iaload, 1) := by decide +kernel
theorem dL_law_36 : decode cL_law 36 = .ok (.bipush 31, 2) := by decide +kernel
theorem dL_law_38 : decode cL_law 38 = .ok (.iand, 1) := by decide +kernel
theorem dL_law_39 : decode cL_law 39 = .ok (.tableswitch 541 0 16 #[81, 118, 143, 196, 233, 258, 283, 308, 321, 334, 359, 384, 397, 434, 459, 472, 485], 81) := by decide +kernel
theorem dL_law_120 : decode cL_law 120 = .ok (.aload_n 1, 1) := by decide +kernel
theorem dL_law_121 : decode cL_law 121 = .ok (.aload_n 0, 1) := by decide +kernel
theorem dL_law_122 : decode cL_law 122 = .ok (.iload 4, 2) := by decide +kernel
theorem dL_law_124 : decode cL_law 124 = .ok (.iconst 1, 1) := by decide +kernel
theorem dL_law_125 : decode cL_law 125 = .ok (.iadd, 1) := by decide +kernel
theorem dL_law_126 : decode cL_law 126 = .ok (.iaload, 1) := by decide +kernel
theorem dL_law_127 : decode cL_law 127 = .ok (.aload_n 0, 1) := by decide +kernel
theorem dL_law_128 : decode cL_law 128 = .ok (.iload 4, 2) := by decide +kernel
theorem dL_law_130 : decode cL_law 130 = .ok (.iconst 2, 1) := by decide +kernel
theorem dL_law_131 : decode cL_law 131 = .ok (.iadd, 1) := by decide +kernel
theorem dL_law_132 : decode cL_law 132 = .ok (.iaload, 1) := by decide +kernel
theorem dL_law_133 : decode cL_law 133 = .ok (.invokevirtual 19, 3) := by decide +kernel
theorem dL_law_136 : decode cL_law 136 = .ok (.aload_n 2, 1) := by decide +kernel
theorem dL_law_137 : decode cL_law 137 = .ok (.aload_n 0, 1) := by decide +kernel
theorem dL_law_138 : decode cL_law 138 = .ok (.iload 4, 2) := by decide +kernel
theorem dL_law_140 : decode cL_law 140 = .ok (.iconst 1, 1) := by decide +kernel
theorem dL_law_141 : decode cL_law 141 = .ok (.iadd, 1) := by decide +kernel
theorem dL_law_142 : decode cL_law 142 = .ok (.iaload, 1) := by decide +kernel
theorem dL_law_143 : decode cL_law 143 = .ok (.aload_n 0, 1) := by decide +kernel
theorem dL_law_144 : decode cL_law 144 = .ok (.iload 4, 2) := by decide +kernel
theorem dL_law_146 : decode cL_law 146 = .ok (.iconst 2, 1) := by decide +kernel
theorem dL_law_147 : decode cL_law 147 = .ok (.iadd, 1) := by decide +kernel
theorem dL_law_148 : decode cL_law 148 = .ok (.iaload, 1) := by decide +kernel
theorem dL_law_149 : decode cL_law 149 = .ok (.invokevirtual 23, 3) := by decide +kernel
theorem dL_law_152 : decode cL_law 152 = .ok (.if_icmp .eq 428, 3) := by decide +kernel
theorem dL_law_155 : decode cL_law 155 = .ok (.iconst 0, 1) := by decide +kernel
theorem dL_law_156 : decode cL_law 156 = .ok (.ireturn, 1) := by decide +kernel
theorem dL_law_157 : decode cL_law 157 = .ok (.aload_n 1, 1) := by decide +kernel
theorem dL_law_158 : decode cL_law 158 = .ok (.aload_n 0, 1) := by decide +kernel
theorem dL_law_159 : decode cL_law 159 = .ok (.iload 4, 2) := by decide +kernel
theorem dL_law_161 : decode cL_law 161 = .ok (.iconst 1, 1) := by decide +kernel
theorem dL_law_162 : decode cL_law 162 = .ok (.iadd, 1) := by decide +kernel
theorem dL_law_163 : decode cL_law 163 = .ok (.iaload, 1) := by decide +kernel
theorem dL_law_164 : decode cL_law 164 = .ok (.invokevirtual 24, 3) := by decide +kernel
theorem dL_law_167 : decode cL_law 167 = .ok (.aload_n 2, 1) := by decide +kernel
theorem dL_law_168 : decode cL_law 168 = .ok (.aload_n 0, 1) := by decide +kernel
theorem dL_law_169 : decode cL_law 169 = .ok (.iload 4, 2) := by decide +kernel
theorem dL_law_171 : decode cL_law 171 = .ok (.iconst 1, 1) := by decide +kernel
theorem dL_law_172 : decode cL_law 172 = .ok (.iadd, 1) := by decide +kernel
theorem dL_law_173 : decode cL_law 173 = .ok (.iaload, 1) := by decide +kernel
theorem dL_law_174 : decode cL_law 174 = .ok (.invokevirtual 27, 3) := by decide +kernel
theorem dL_law_177 : decode cL_law 177 = .ok (.if_icmp .eq 403, 3) := by decide +kernel
theorem dL_law_180 : decode cL_law 180 = .ok (.iconst 0, 1) := by decide +kernel
theorem dL_law_181 : decode cL_law 181 = .ok (.ireturn, 1) := by decide +kernel
theorem dL_law_182 : decode cL_law 182 = .ok (.aload_n 1, 1) := by decide +kernel
theorem dL_law_183 : decode cL_law 183 = .ok (.aload_n 0, 1) := by decide +kernel
theorem dL_law_184 : decode cL_law 184 = .ok (.iload 4, 2) := by decide +kernel
theorem dL_law_186 : decode cL_law 186 = .ok (.iconst 1, 1) := by decide +kernel
theorem dL_law_187 : decode cL_law 187 = .ok (.iadd, 1) := by decide +kernel
theorem dL_law_188 : decode cL_law 188 = .ok (.iaload, 1) := by decide +kernel
theorem dL_law_189 : decode cL_law 189 = .ok (.aload_n 0, 1) := by decide +kernel
theorem dL_law_190 : decode cL_law 190 = .ok (.iload 4, 2) := by decide +kernel
theorem dL_law_192 : decode cL_law 192 = .ok (.iconst 2, 1) := by decide +kernel
theorem dL_law_193 : decode cL_law 193 = .ok (.iadd, 1) := by decide +kernel
theorem dL_law_194 : decode cL_law 194 = .ok (.iaload, 1) := by decide +kernel
theorem dL_law_195 : decode cL_law 195 = .ok (.ifCond .eq 7, 3) := by decide +kernel
theorem dL_law_198 : decode cL_law 198 = .ok (.iconst 1, 1) := by decide +kernel
theorem dL_law_199 : decode cL_law 199 = .ok (.goto 4, 3) := by decide +kernel
theorem dL_law_202 : decode cL_law 202 = .ok (.iconst 0, 1) := by decide +kernel
theorem dL_law_203 : decode cL_law 203 = .ok (.invokevirtual 28, 3) := by decide +kernel
theorem dL_law_206 : decode cL_law 206 = .ok (.aload_n 2, 1) := by decide +kernel
theorem dL_law_207 : decode cL_law 207 = .ok (.aload_n 0, 1) := by decide +kernel
theorem dL_law_208 : decode cL_law 208 = .ok (.iload 4, 2) := by decide +kernel
theorem dL_law_210 : decode cL_law 210 = .ok (.iconst 1, 1) := by decide +kernel
theorem dL_law_211 : decode cL_law 211 = .ok (.iadd, 1) := by decide +kernel
theorem dL_law_212 : decode cL_law 212 = .ok (.iaload, 1) := by decide +kernel
theorem dL_law_213 : decode cL_law 213 = .ok (.aload_n 0, 1) := by decide +kernel
theorem dL_law_214 : decode cL_law 214 = .ok (.iload 4, 2) := by decide +kernel
theorem dL_law_216 : decode cL_law 216 = .ok (.iconst 2, 1) := by decide +kernel
theorem dL_law_217 : decode cL_law 217 = .ok (.iadd, 1) := by decide +kernel
theorem dL_law_218 : decode cL_law 218 = .ok (.iaload, 1) := by decide +kernel
theorem dL_law_219 : decode cL_law 219 = .ok (.ifCond .eq 7, 3) := by decide +kernel
theorem dL_law_222 : decode cL_law 222 = .ok (.iconst 1, 1) := by decide +kernel
theorem dL_law_223 : decode cL_law 223 = .ok (.goto 4, 3) := by decide +kernel
theorem dL_law_226 : decode cL_law 226 = .ok (.iconst 0, 1) := by decide +kernel
theorem dL_law_227 : decode cL_law 227 = .ok (.invokevirtual 32, 3) := by decide +kernel
theorem dL_law_230 : decode cL_law 230 = .ok (.if_icmp .eq 350, 3) := by decide +kernel
theorem dL_law_233 : decode cL_law 233 = .ok (.iconst 0, 1) := by decide +kernel
theorem dL_law_234 : decode cL_law 234 = .ok (.ireturn, 1) := by decide +kernel
theorem dL_law_235 : decode cL_law 235 = .ok (.aload_n 1, 1) := by decide +kernel
theorem dL_law_236 : decode cL_law 236 = .ok (.aload_n 0, 1) := by decide +kernel
theorem dL_law_237 : decode cL_law 237 = .ok (.iload 4, 2) := by decide +kernel
theorem dL_law_239 : decode cL_law 239 = .ok (.iconst 1, 1) := by decide +kernel
theorem dL_law_240 : decode cL_law 240 = .ok (.iadd, 1) := by decide +kernel
theorem dL_law_241 : decode cL_law 241 = .ok (.iaload, 1) := by decide +kernel
theorem dL_law_242 : decode cL_law 242 = .ok (.aload_n 0, 1) := by decide +kernel
theorem dL_law_243 : decode cL_law 243 = .ok (.iload 4, 2) := by decide +kernel
theorem dL_law_245 : decode cL_law 245 = .ok (.iconst 2, 1) := by decide +kernel
theorem dL_law_246 : decode cL_law 246 = .ok (.iadd, 1) := by decide +kernel
theorem dL_law_247 : decode cL_law 247 = .ok (.iaload, 1) := by decide +kernel
theorem dL_law_248 : decode cL_law 248 = .ok (.invokevirtual 33, 3) := by decide +kernel
theorem dL_law_251 : decode cL_law 251 = .ok (.aload_n 2, 1) := by decide +kernel
theorem dL_law_252 : decode cL_law 252 = .ok (.aload_n 0, 1) := by decide +kernel
theorem dL_law_253 : decode cL_law 253 = .ok (.iload 4, 2) := by decide +kernel
theorem dL_law_255 : decode cL_law 255 = .ok (.iconst 1, 1) := by decide +kernel
theorem dL_law_256 : decode cL_law 256 = .ok (.iadd, 1) := by decide +kernel
theorem dL_law_257 : decode cL_law 257 = .ok (.iaload, 1) := by decide +kernel
theorem dL_law_258 : decode cL_law 258 = .ok (.aload_n 0, 1) := by decide +kernel
theorem dL_law_259 : decode cL_law 259 = .ok (.iload 4, 2) := by decide +kernel
theorem dL_law_261 : decode cL_law 261 = .ok (.iconst 2, 1) := by decide +kernel
theorem dL_law_262 : decode cL_law 262 = .ok (.iadd, 1) := by decide +kernel
theorem dL_law_263 : decode cL_law 263 = .ok (.iaload, 1) := by decide +kernel
theorem dL_law_264 : decode cL_law 264 = .ok (.invokevirtual 36, 3) := by decide +kernel
theorem dL_law_267 : decode cL_law 267 = .ok (.if_icmp .eq 313, 3) := by decide +kernel
theorem dL_law_270 : decode cL_law 270 = .ok (.iconst 0, 1) := by decide +kernel
theorem dL_law_271 : decode cL_law 271 = .ok (.ireturn, 1) := by decide +kernel
theorem dL_law_272 : decode cL_law 272 = .ok (.aload_n 1, 1) := by decide +kernel
theorem dL_law_273 : decode cL_law 273 = .ok (.aload_n 0, 1) := by decide +kernel
theorem dL_law_274 : decode cL_law 274 = .ok (.iload 4, 2) := by decide +kernel
theorem dL_law_276 : decode cL_law 276 = .ok (.iconst 1, 1) := by decide +kernel
theorem dL_law_277 : decode cL_law 277 = .ok (.iadd, 1) := by decide +kernel
theorem dL_law_278 : decode cL_law 278 = .ok (.iaload, 1) := by decide +kernel
theorem dL_law_279 : decode cL_law 279 = .ok (.invokevirtual 37, 3) := by decide +kernel
theorem dL_law_282 : decode cL_law 282 = .ok (.aload_n 2, 1) := by decide +kernel
theorem dL_law_283 : decode cL_law 283 = .ok (.aload_n 0, 1) := by decide +kernel
theorem dL_law_284 : decode cL_law 284 = .ok (.iload 4, 2) := by decide +kernel
theorem dL_law_286 : decode cL_law 286 = .ok (.iconst 1, 1) := by decide +kernel
theorem dL_law_287 : decode cL_law 287 = .ok (.iadd, 1) := by decide +kernel
theorem dL_law_288 : decode cL_law 288 = .ok (.iaload, 1) := by decide +kernel
theorem dL_law_289 : decode cL_law 289 = .ok (.invokevirtual 40, 3) := by decide +kernel
theorem dL_law_292 : decode cL_law 292 = .ok (.if_icmp .eq 288, 3) := by decide +kernel
theorem dL_law_295 : decode cL_law 295 = .ok (.iconst 0, 1) := by decide +kernel
theorem dL_law_296 : decode cL_law 296 = .ok (.ireturn, 1) := by decide +kernel
theorem dL_law_297 : decode cL_law 297 = .ok (.aload_n 1, 1) := by decide +kernel
theorem dL_law_298 : decode cL_law 298 = .ok (.aload_n 0, 1) := by decide +kernel
theorem dL_law_299 : decode cL_law 299 = .ok (.iload 4, 2) := by decide +kernel
theorem dL_law_301 : decode cL_law 301 = .ok (.iconst 1, 1) := by decide +kernel
theorem dL_law_302 : decode cL_law 302 = .ok (.iadd, 1) := by decide +kernel
theorem dL_law_303 : decode cL_law 303 = .ok (.iaload, 1) := by decide +kernel
theorem dL_law_304 : decode cL_law 304 = .ok (.invokevirtual 41, 3) := by decide +kernel
theorem dL_law_307 : decode cL_law 307 = .ok (.aload_n 2, 1) := by decide +kernel
theorem dL_law_308 : decode cL_law 308 = .ok (.aload_n 0, 1) := by decide +kernel
theorem dL_law_309 : decode cL_law 309 = .ok (.iload 4, 2) := by decide +kernel
theorem dL_law_311 : decode cL_law 311 = .ok (.iconst 1, 1) := by decide +kernel
theorem dL_law_312 : decode cL_law 312 = .ok (.iadd, 1) := by decide +kernel
theorem dL_law_313 : decode cL_law 313 = .ok (.iaload, 1) := by decide +kernel
theorem dL_law_314 : decode cL_law 314 = .ok (.invokevirtual 44, 3) := by decide +kernel
theorem dL_law_317 : decode cL_law 317 = .ok (.if_icmp .eq 263, 3) := by decide +kernel
theorem dL_law_320 : decode cL_law 320 = .ok (.iconst 0, 1) := by decide +kernel
theorem dL_law_321 : decode cL_law 321 = .ok (.ireturn, 1) := by decide +kernel
theorem dL_law_322 : decode cL_law 322 = .ok (.aload_n 1, 1) := by decide +kernel
theorem dL_law_323 : decode cL_law 323 = .ok (.aload_n 0, 1) := by decide +kernel
theorem dL_law_324 : decode cL_law 324 = .ok (.iload 4, 2) := by decide +kernel
theorem dL_law_326 : decode cL_law 326 = .ok (.iconst 1, 1) := by decide +kernel
theorem dL_law_327 : decode cL_law 327 = .ok (.iadd, 1) := by decide +kernel
theorem dL_law_328 : decode cL_law 328 = .ok (.iaload, 1) := by decide +kernel
theorem dL_law_329 : decode cL_law 329 = .ok (.invokevirtual 45, 3) := by decide +kernel
theorem dL_law_332 : decode cL_law 332 = .ok (.aload_n 2, 1) := by decide +kernel
theorem dL_law_333 : decode cL_law 333 = .ok (.aload_n 0, 1) := by decide +kernel
theorem dL_law_334 : decode cL_law 334 = .ok (.iload 4, 2) := by decide +kernel
theorem dL_law_336 : decode cL_law 336 = .ok (.iconst 1, 1) := by decide +kernel
theorem dL_law_337 : decode cL_law 337 = .ok (.iadd, 1) := by decide +kernel
theorem dL_law_338 : decode cL_law 338 = .ok (.iaload, 1) := by decide +kernel
theorem dL_law_339 : decode cL_law 339 = .ok (.invokevirtual 48, 3) := by decide +kernel
theorem dL_law_342 : decode cL_law 342 = .ok (.if_icmp .eq 238, 3) := by decide +kernel
theorem dL_law_345 : decode cL_law 345 = .ok (.iconst 0, 1) := by decide +kernel
theorem dL_law_346 : decode cL_law 346 = .ok (.ireturn, 1) := by decide +kernel
theorem dL_law_347 : decode cL_law 347 = .ok (.aload_n 1, 1) := by decide +kernel
theorem dL_law_348 : decode cL_law 348 = .ok (.invokevirtual 49, 3) := by decide +kernel
theorem dL_law_351 : decode cL_law 351 = .ok (.aload_n 2, 1) := by decide +kernel
theorem dL_law_352 : decode cL_law 352 = .ok (.invokevirtual 53, 3) := by decide +kernel
theorem dL_law_355 : decode cL_law 355 = .ok (.if_icmp .eq 225, 3) := by decide +kernel
theorem dL_law_358 : decode cL_law 358 = .ok (.iconst 0, 1) := by decide +kernel
theorem dL_law_359 : decode cL_law 359 = .ok (.ireturn, 1) := by decide +kernel
theorem dL_law_360 : decode cL_law 360 = .ok (.aload_n 1, 1) := by decide +kernel
theorem dL_law_361 : decode cL_law 361 = .ok (.invokevirtual 54, 3) := by decide +kernel
theorem dL_law_364 : decode cL_law 364 = .ok (.aload_n 2, 1) := by decide +kernel
theorem dL_law_365 : decode cL_law 365 = .ok (.invokevirtual 57, 3) := by decide +kernel
theorem dL_law_368 : decode cL_law 368 = .ok (.if_icmp .eq 212, 3) := by decide +kernel
theorem dL_law_371 : decode cL_law 371 = .ok (.iconst 0, 1) := by decide +kernel
theorem dL_law_372 : decode cL_law 372 = .ok (.ireturn, 1) := by decide +kernel
theorem dL_law_373 : decode cL_law 373 = .ok (.aload_n 1, 1) := by decide +kernel
theorem dL_law_374 : decode cL_law 374 = .ok (.aload_n 0, 1) := by decide +kernel
theorem dL_law_375 : decode cL_law 375 = .ok (.iload 4, 2) := by decide +kernel
theorem dL_law_377 : decode cL_law 377 = .ok (.iconst 1, 1) := by decide +kernel
theorem dL_law_378 : decode cL_law 378 = .ok (.iadd, 1) := by decide +kernel
theorem dL_law_379 : decode cL_law 379 = .ok (.iaload, 1) := by decide +kernel
theorem dL_law_380 : decode cL_law 380 = .ok (.invokevirtual 58, 3) := by decide +kernel
theorem dL_law_383 : decode cL_law 383 = .ok (.aload_n 2, 1) := by decide +kernel
theorem dL_law_384 : decode cL_law 384 = .ok (.aload_n 0, 1) := by decide +kernel
theorem dL_law_385 : decode cL_law 385 = .ok (.iload 4, 2) := by decide +kernel
theorem dL_law_387 : decode cL_law 387 = .ok (.iconst 1, 1) := by decide +kernel
theorem dL_law_388 : decode cL_law 388 = .ok (.iadd, 1) := by decide +kernel
theorem dL_law_389 : decode cL_law 389 = .ok (.iaload, 1) := by decide +kernel
theorem dL_law_390 : decode cL_law 390 = .ok (.invokevirtual 61, 3) := by decide +kernel
theorem dL_law_393 : decode cL_law 393 = .ok (.if_icmp .eq 187, 3) := by decide +kernel
theorem dL_law_396 : decode cL_law 396 = .ok (.iconst 0, 1) := by decide +kernel
theorem dL_law_397 : decode cL_law 397 = .ok (.ireturn, 1) := by decide +kernel
theorem dL_law_398 : decode cL_law 398 = .ok (.aload_n 1, 1) := by decide +kernel
theorem dL_law_399 : decode cL_law 399 = .ok (.aload_n 0, 1) := by decide +kernel
theorem dL_law_400 : decode cL_law 400 = .ok (.iload 4, 2) := by decide +kernel
theorem dL_law_402 : decode cL_law 402 = .ok (.iconst 1, 1) := by decide +kernel
theorem dL_law_403 : decode cL_law 403 = .ok (.iadd, 1) := by decide +kernel
theorem dL_law_404 : decode cL_law 404 = .ok (.iaload, 1) := by decide +kernel
theorem dL_law_405 : decode cL_law 405 = .ok (.invokevirtual 62, 3) := by decide +kernel
theorem dL_law_408 : decode cL_law 408 = .ok (.aload_n 2, 1) := by decide +kernel
theorem dL_law_409 : decode cL_law 409 = .ok (.aload_n 0, 1) := by decide +kernel
theorem dL_law_410 : decode cL_law 410 = .ok (.iload 4, 2) := by decide +kernel
theorem dL_law_412 : decode cL_law 412 = .ok (.iconst 1, 1) := by decide +kernel
theorem dL_law_413 : decode cL_law 413 = .ok (.iadd, 1) := by decide +kernel
theorem dL_law_414 : decode cL_law 414 = .ok (.iaload, 1) := by decide +kernel
theorem dL_law_415 : decode cL_law 415 = .ok (.invokevirtual 65, 3) := by decide +kernel
theorem dL_law_418 : decode cL_law 418 = .ok (.if_icmp .eq 162, 3) := by decide +kernel
theorem dL_law_421 : decode cL_law 421 = .ok (.iconst 0, 1) := by decide +kernel
theorem dL_law_422 : decode cL_law 422 = .ok (.ireturn, 1) := by decide +kernel
theorem dL_law_423 : decode cL_law 423 = .ok (.aload_n 1, 1) := by decide +kernel
theorem dL_law_424 : decode cL_law 424 = .ok (.invokevirtual 66, 3) := by decide +kernel
theorem dL_law_427 : decode cL_law 427 = .ok (.aload_n 2, 1) := by decide +kernel
theorem dL_law_428 : decode cL_law 428 = .ok (.invokevirtual 69, 3) := by decide +kernel
theorem dL_law_431 : decode cL_law 431 = .ok (.if_icmp .eq 149, 3) := by decide +kernel
theorem dL_law_434 : decode cL_law 434 = .ok (.iconst 0, 1) := by decide +kernel
theorem dL_law_435 : decode cL_law 435 = .ok (.ireturn, 1) := by decide +kernel
theorem dL_law_436 : decode cL_law 436 = .ok (.aload_n 1, 1) := by decide +kernel
theorem dL_law_437 : decode cL_law 437 = .ok (.aload_n 0, 1) := by decide +kernel
theorem dL_law_438 : decode cL_law 438 = .ok (.iload 4, 2) := by decide +kernel
theorem dL_law_440 : decode cL_law 440 = .ok (.iconst 1, 1) := by decide +kernel
theorem dL_law_441 : decode cL_law 441 = .ok (.iadd, 1) := by decide +kernel
theorem dL_law_442 : decode cL_law 442 = .ok (.iaload, 1) := by decide +kernel
theorem dL_law_443 : decode cL_law 443 = .ok (.aload_n 0, 1) := by decide +kernel
theorem dL_law_444 : decode cL_law 444 = .ok (.iload 4, 2) := by decide +kernel
theorem dL_law_446 : decode cL_law 446 = .ok (.iconst 2, 1) := by decide +kernel
theorem dL_law_447 : decode cL_law 447 = .ok (.iadd, 1) := by decide +kernel
theorem dL_law_448 : decode cL_law 448 = .ok (.iaload, 1) := by decide +kernel
theorem dL_law_449 : decode cL_law 449 = .ok (.invokevirtual 70, 3) := by decide +kernel
theorem dL_law_452 : decode cL_law 452 = .ok (.aload_n 2, 1) := by decide +kernel
theorem dL_law_453 : decode cL_law 453 = .ok (.aload_n 0, 1) := by decide +kernel
theorem dL_law_454 : decode cL_law 454 = .ok (.iload 4, 2) := by decide +kernel
theorem dL_law_456 : decode cL_law 456 = .ok (.iconst 1, 1) := by decide +kernel
theorem dL_law_457 : decode cL_law 457 = .ok (.iadd, 1) := by decide +kernel
theorem dL_law_458 : decode cL_law 458 = .ok (.iaload, 1) := by decide +kernel
theorem dL_law_459 : decode cL_law 459 = .ok (.aload_n 0, 1) := by decide +kernel
theorem dL_law_460 : decode cL_law 460 = .ok (.iload 4, 2) := by decide +kernel
theorem dL_law_462 : decode cL_law 462 = .ok (.iconst 2, 1) := by decide +kernel
theorem dL_law_463 : decode cL_law 463 = .ok (.iadd, 1) := by decide +kernel
theorem dL_law_464 : decode cL_law 464 = .ok (.iaload, 1) := by decide +kernel
theorem dL_law_465 : decode cL_law 465 = .ok (.invokevirtual 73, 3) := by decide +kernel
theorem dL_law_468 : decode cL_law 468 = .ok (.if_icmp .eq 112, 3) := by decide +kernel
theorem dL_law_471 : decode cL_law 471 = .ok (.iconst 0, 1) := by decide +kernel
theorem dL_law_472 : decode cL_law 472 = .ok (.ireturn, 1) := by decide +kernel
theorem dL_law_473 : decode cL_law 473 = .ok (.aload_n 1, 1) := by decide +kernel
theorem dL_law_474 : decode cL_law 474 = .ok (.aload_n 0, 1) := by decide +kernel
theorem dL_law_475 : decode cL_law 475 = .ok (.iload 4, 2) := by decide +kernel
theorem dL_law_477 : decode cL_law 477 = .ok (.iconst 1, 1) := by decide +kernel
theorem dL_law_478 : decode cL_law 478 = .ok (.iadd, 1) := by decide +kernel
theorem dL_law_479 : decode cL_law 479 = .ok (.iaload, 1) := by decide +kernel
theorem dL_law_480 : decode cL_law 480 = .ok (.invokevirtual 74, 3) := by decide +kernel
theorem dL_law_483 : decode cL_law 483 = .ok (.aload_n 2, 1) := by decide +kernel
theorem dL_law_484 : decode cL_law 484 = .ok (.aload_n 0, 1) := by decide +kernel
theorem dL_law_485 : decode cL_law 485 = .ok (.iload 4, 2) := by decide +kernel
theorem dL_law_487 : decode cL_law 487 = .ok (.iconst 1, 1) := by decide +kernel
theorem dL_law_488 : decode cL_law 488 = .ok (.iadd, 1) := by decide +kernel
theorem dL_law_489 : decode cL_law 489 = .ok (.iaload, 1) := by decide +kernel
theorem dL_law_490 : decode cL_law 490 = .ok (.invokevirtual 77, 3) := by decide +kernel
theorem dL_law_493 : decode cL_law 493 = .ok (.if_icmp .eq 87, 3) := by decide +kernel
theorem dL_law_496 : decode cL_law 496 = .ok (.iconst 0, 1) := by decide +kernel
theorem dL_law_497 : decode cL_law 497 = .ok (.ireturn, 1) := by decide +kernel
theorem dL_law_498 : decode cL_law 498 = .ok (.aload_n 1, 1) := by decide +kernel
theorem dL_law_499 : decode cL_law 499 = .ok (.invokevirtual 78, 3) := by decide +kernel
theorem dL_law_502 : decode cL_law 502 = .ok (.aload_n 2, 1) := by decide +kernel
theorem dL_law_503 : decode cL_law 503 = .ok (.invokevirtual 81, 3) := by decide +kernel
theorem dL_law_506 : decode cL_law 506 = .ok (.if_icmp .eq 74, 3) := by decide +kernel
theorem dL_law_509 : decode cL_law 509 = .ok (.iconst 0, 1) := by decide +kernel
theorem dL_law_510 : decode cL_law 510 = .ok (.ireturn, 1) := by decide +kernel
theorem dL_law_511 : decode cL_law 511 = .ok (.aload_n 1, 1) := by decide +kernel
theorem dL_law_512 : decode cL_law 512 = .ok (.invokevirtual 82, 3) := by decide +kernel
theorem dL_law_515 : decode cL_law 515 = .ok (.aload_n 2, 1) := by decide +kernel
theorem dL_law_516 : decode cL_law 516 = .ok (.invokevirtual 85, 3) := by decide +kernel
theorem dL_law_519 : decode cL_law 519 = .ok (.if_icmp .eq 61, 3) := by decide +kernel
theorem dL_law_522 : decode cL_law 522 = .ok (.iconst 0, 1) := by decide +kernel
theorem dL_law_523 : decode cL_law 523 = .ok (.ireturn, 1) := by decide +kernel
theorem dL_law_524 : decode cL_law 524 = .ok (.aload_n 1, 1) := by decide +kernel
theorem dL_law_525 : decode cL_law 525 = .ok (.aload_n 0, 1) := by decide +kernel
theorem dL_law_526 : decode cL_law 526 = .ok (.iload 4, 2) := by decide +kernel
theorem dL_law_528 : decode cL_law 528 = .ok (.iconst 1, 1) := by decide +kernel
theorem dL_law_529 : decode cL_law 529 = .ok (.iadd, 1) := by decide +kernel
theorem dL_law_530 : decode cL_law 530 = .ok (.iaload, 1) := by decide +kernel
theorem dL_law_531 : decode cL_law 531 = .ok (.aload_n 3, 1) := by decide +kernel
theorem dL_law_532 : decode cL_law 532 = .ok (.invokestatic 86, 3) := by decide +kernel
theorem dL_law_535 : decode cL_law 535 = .ok (.istore 5, 2) := by decide +kernel
theorem dL_law_537 : decode cL_law 537 = .ok (.aload_n 2, 1) := by decide +kernel
theorem dL_law_538 : decode cL_law 538 = .ok (.aload_n 0, 1) := by decide +kernel
theorem dL_law_539 : decode cL_law 539 = .ok (.iload 4, 2) := by decide +kernel
theorem dL_law_541 : decode cL_law 541 = .ok (.iconst 1, 1) := by decide +kernel
theorem dL_law_542 : decode cL_law 542 = .ok (.iadd, 1) := by decide +kernel
theorem dL_law_543 : decode cL_law 543 = .ok (.iaload, 1) := by decide +kernel
theorem dL_law_544 : decode cL_law 544 = .ok (.invokevirtual 91, 3) := by decide +kernel
theorem dL_law_547 : decode cL_law 547 = .ok (.istore 6, 2) := by decide +kernel
theorem dL_law_549 : decode cL_law 549 = .ok (.aload_n 2, 1) := by decide +kernel
theorem dL_law_550 : decode cL_law 550 = .ok (.invokevirtual 92, 3) := by decide +kernel
theorem dL_law_553 : decode cL_law 553 = .ok (.iload 5, 2) := by decide +kernel
theorem dL_law_555 : decode cL_law 555 = .ok (.if_icmp .eq 5, 3) := by decide +kernel
theorem dL_law_558 : decode cL_law 558 = .ok (.iconst 0, 1) := by decide +kernel
theorem dL_law_559 : decode cL_law 559 = .ok (.ireturn, 1) := by decide +kernel
theorem dL_law_560 : decode cL_law 560 = .ok (.iload 5, 2) := by decide +kernel
theorem dL_law_562 : decode cL_law 562 = .ok (.ifCond .ne 15, 3) := by decide +kernel
theorem dL_law_565 : decode cL_law 565 = .ok (.aload_n 3, 1) := by decide +kernel
theorem dL_law_566 : decode cL_law 566 = .ok (.iconst 0, 1) := by decide +kernel
theorem dL_law_567 : decode cL_law 567 = .ok (.laload, 1) := by decide +kernel
theorem dL_law_568 : decode cL_law 568 = .ok (.iload 6, 2) := by decide +kernel
theorem dL_law_570 : decode cL_law 570 = .ok (.i2l, 1) := by decide +kernel
theorem dL_law_571 : decode cL_law 571 = .ok (.lcmp, 1) := by decide +kernel
theorem dL_law_572 : decode cL_law 572 = .ok (.ifCond .eq 5, 3) := by decide +kernel
theorem dL_law_575 : decode cL_law 575 = .ok (.iconst 0, 1) := by decide +kernel
theorem dL_law_576 : decode cL_law 576 = .ok (.ireturn, 1) := by decide +kernel
theorem dL_law_577 : decode cL_law 577 = .ok (.goto 3, 3) := by decide +kernel
theorem dL_law_580 : decode cL_law 580 = .ok (.iinc 4 3, 3) := by decide +kernel
theorem dL_law_583 : decode cL_law 583 = .ok (.goto (-560), 3) := by decide +kernel
theorem dL_law_586 : decode cL_law 586 = .ok (.iconst 1, 1) := by decide +kernel
theorem dL_law_587 : decode cL_law 587 = .ok (.ireturn, 1) := by decide +kernel
abbrev vwCl : List vw_C := [(RJx00060, TJx00060, 6), (RX0, TX0, 7), (RX1, TX1, 2), (RX2, TX2, 2), (RX3, TX3, 7), (RX4, TX4, 14)]
end
section
/-! ===== Int32 by its bits (begun from kit/laws/BITS.to-paste) ===== -/
def bt (x : Int32) (i : Nat) : Bool := x.toBitVec.getLsbD i
theorem b_ext {x y : Int32} (h : ∀ i, i < 32 → bt x i = bt y i) : x = y := Int32.toBitVec_inj.mp (BitVec.eq_of_getLsbD_eq (fun i hi => h i hi))
theorem b_or (x y : Int32) (i : Nat) : bt (x ||| y) i = (bt x i || bt y i) := by unfold bt; rw [Int32.toBitVec_or, BitVec.getLsbD_or]
theorem b_and (x y : Int32) (i : Nat) : bt (x &&& y) i = (bt x i && bt y i) := by unfold bt; rw [Int32.toBitVec_and, BitVec.getLsbD_and]
theorem b_xor (x y : Int32) (i : Nat) : bt (x ^^^ y) i = (bt x i ^^ bt y i) := by unfold bt; rw [Int32.toBitVec_xor, BitVec.getLsbD_xor]
theorem b_big {x : Int32} {i : Nat} (h : 32 ≤ i) : bt x i = false := BitVec.getLsbD_of_ge _ _ h
theorem b_m1 : ∀ i, i < 32 → bt (-1) i = true := by decide +kernel
theorem b_0 (i : Nat) : bt 0 i = false := BitVec.getLsbD_zero
theorem s_l : ∀ n, n < 32 → ((nI n &&& 31).toBitVec.smod 32).toNat = n := by decide +kernel
theorem b_shl (n : Nat) (hn : n < 32) (x : Int32) {i : Nat} (hi : i < 32) : bt (x <<< (nI n &&& 31)) i = (decide (n ≤ i) && bt x (i - n)) := by
  unfold bt
  rw [Int32.toBitVec_shiftLeft]
  show (x.toBitVec <<< ((nI n &&& 31).toBitVec.smod 32).toNat).getLsbD i = _
  rw [s_l n hn, BitVec.getLsbD_shiftLeft]
  rcases Nat.lt_or_ge i n with h | h
  · simp [h, Nat.not_le.mpr h]
  · simp [hi, h, Nat.not_lt.mpr h]
theorem b_sshr (n : Nat) (hn : n < 32) (x : Int32) {i : Nat} (hi : i < 32) : bt (x >>> (nI n &&& 31)) i = if n + i < 32 then bt x (n + i) else bt x 31 := by
  unfold bt
  rw [Int32.toBitVec_shiftRight]
  show (x.toBitVec.sshiftRight ((nI n &&& 31).toBitVec.smod 32).toNat).getLsbD i = _
  rw [s_l n hn, BitVec.getLsbD_sshiftRight, BitVec.msb_eq_getLsbD_last]
  simp [hi]
theorem b_1 : ∀ i, i < 32 → bt 1 i = decide (i = 0) := by decide +kernel
theorem b_nI {n i : Nat} (hi : i < 32) : bt (nI n) i = n.testBit i := by
  unfold bt
  show (BitVec.ofNat 32 n).getLsbD i = _
  rw [BitVec.getLsbD_ofNat]
  simp [hi]
/-- bit n of x is asked for: x >> n & 1 -/
theorem b_ask {n : Nat} (hn : n < 32) (x : Int32) : (x >>> (nI n &&& 31)) &&& 1 = if bt x n then 1 else 0 := by
  apply b_ext
  intro i hi
  rw [b_and, b_sshr n hn x hi, b_1 i hi]
  by_cases h0 : i = 0
  · subst h0
    rw [if_pos (by omega), Nat.add_zero]
    cases bt x n <;> simp [b_0, b_1 0 (by omega)]
  · simp [h0]
    cases bt x n <;> simp [b_0, b_1 i hi, h0]
theorem b_ask0 {n : Nat} (hn : n < 32) (x : Int32) : (x >>> (nI n &&& 31)) &&& 1 = 0 ↔ bt x n = false := by
  rw [b_ask hn]
  cases bt x n <;> decide
theorem b_ask1 {n : Nat} (hn : n < 32) (x : Int32) : (x >>> (nI n &&& 31)) &&& 1 = 1 ↔ bt x n = true := by
  rw [b_ask hn]
  cases bt x n <;> decide
theorem b_1shl {n : Nat} (hn : n < 32) {i : Nat} (hi : i < 32) : bt ((1 : Int32) <<< (nI n &&& 31)) i = decide (i = n) := by
  rw [b_shl n hn 1 hi, b_1 (i - n) (by omega)]
  by_cases h : i = n
  · subst h; simp
  · simp [h]; omega
theorem b_not (x : Int32) {i : Nat} (hi : i < 32) : bt (x ^^^ (-1)) i = !bt x i := by
  rw [b_xor, b_m1 i hi]; simp
/-- one mask within another, as the class asks it, and as the reference does -/
theorem b_sub0 (x y : Int32) : x &&& (y ^^^ (-1)) = 0 ↔ ∀ i, i < 32 → bt x i = true → bt y i = true := by
  constructor
  · intro h i hi hx
    have h1 : bt (x &&& (y ^^^ (-1))) i = bt 0 i := by rw [h]
    rw [b_and, b_not y hi, b_0, hx] at h1
    simpa using h1
  · intro h
    apply b_ext
    intro i hi
    rw [b_and, b_not y hi, b_0]
    cases hx : bt x i
    · simp
    · simp [h i hi hx]
theorem b_subE (x y : Int32) : x &&& y = x ↔ ∀ i, i < 32 → bt x i = true → bt y i = true := by
  constructor
  · intro h i hi hx
    have h1 : bt (x &&& y) i = bt x i := by rw [h]
    rw [b_and, hx] at h1
    simpa using h1
  · intro h
    apply b_ext
    intro i hi
    rw [b_and]
    cases hx : bt x i
    · simp
    · simp [h i hi hx]
/-! ===== Int64 by its bits ===== -/
def bl (x : Int64) (i : Nat) : Bool := x.toBitVec.getLsbD i
theorem l_ext {x y : Int64} (h : ∀ i, i < 64 → bl x i = bl y i) : x = y := Int64.toBitVec_inj.mp (BitVec.eq_of_getLsbD_eq (fun i hi => h i hi))
theorem l_or (x y : Int64) (i : Nat) : bl (x ||| y) i = (bl x i || bl y i) := by unfold bl; rw [Int64.toBitVec_or, BitVec.getLsbD_or]
theorem l_and (x y : Int64) (i : Nat) : bl (x &&& y) i = (bl x i && bl y i) := by unfold bl; rw [Int64.toBitVec_and, BitVec.getLsbD_and]
theorem l_xor (x y : Int64) (i : Nat) : bl (x ^^^ y) i = (bl x i ^^ bl y i) := by unfold bl; rw [Int64.toBitVec_xor, BitVec.getLsbD_xor]
theorem l_big {x : Int64} {i : Nat} (h : 64 ≤ i) : bl x i = false := BitVec.getLsbD_of_ge _ _ h
theorem l_m1 : ∀ i, i < 64 → bl (-1) i = true := by decide +kernel
theorem l_0 (i : Nat) : bl 0 i = false := BitVec.getLsbD_zero
theorem l_not (x : Int64) {i : Nat} (hi : i < 64) : bl (x ^^^ (-1)) i = !bl x i := by
  rw [l_xor, l_m1 i hi]; simp
theorem l_eq0 (x : Int64) : x = 0 ↔ ∀ i, i < 64 → bl x i = false := by
  constructor
  · intro h i _
    rw [h, l_0]
  · intro h
    exact l_ext fun i hi => by rw [h i hi, l_0]
theorem l_ne0 {x : Int64} (h : x ≠ 0) : ∃ i, i < 64 ∧ bl x i = true := by
  refine Classical.byContradiction fun q => h ((l_eq0 x).mpr fun i hi => ?_)
  cases hb : bl x i
  · rfl
  · exact absurd ⟨i, hi, hb⟩ q
end
section
/-! ===== how many of the first n have a property ===== -/
noncomputable def ct_ (P : Nat → Prop) : Nat → Nat
  | 0 => 0
  | n + 1 => ct_ P n + @ite Nat (P n) (Classical.propDecidable _) 1 0
theorem ct_le (P : Nat → Prop) (n : Nat) : ct_ P n ≤ n := by
  induction n with
  | zero => exact Nat.le_refl 0
  | succ n ih =>
    unfold ct_
    split <;> omega
theorem ct_mono {P Q : Nat → Prop} {n : Nat} (h : ∀ a, a < n → P a → Q a) : ct_ P n ≤ ct_ Q n := by
  induction n with
  | zero => exact Nat.le_refl 0
  | succ n ih =>
    have h1 := ih (fun a ha => h a (by omega))
    unfold ct_
    by_cases hp : P n
    · have hq := h n (by omega) hp
      simp [hp, hq]
      exact h1
    · simp [hp]
      split <;> omega
theorem ct_lt {P Q : Nat → Prop} {n : Nat} (h : ∀ a, a < n → P a → Q a) (hx : ∃ a, a < n ∧ Q a ∧ ¬ P a) : ct_ P n + 1 ≤ ct_ Q n := by
  induction n with
  | zero =>
    obtain ⟨a, ha, -⟩ := hx
    omega
  | succ n ih =>
    obtain ⟨a, ha, hq, hp⟩ := hx
    by_cases e : a = n
    · subst e
      have h1 := ct_mono (P := P) (Q := Q) (n := a) (fun b hb => h b (by omega))
      unfold ct_
      simp [hp, hq]
      exact h1
    · have h1 := ih (fun b hb => h b (by omega)) ⟨a, by omega, hq, hp⟩
      unfold ct_
      by_cases hp2 : P n
      · have hq2 := h n (by omega) hp2
        simp [hp2, hq2]
        omega
      · simp [hp2]
        split <;> omega
/-! ===== what follows, step by step: n axioms with bodies bd and heads hd, those of S used ===== -/
def en_ (n : Nat) (bd : Nat → Nat → Prop) (hd : Nat → Nat) (S : Nat → Prop) : Nat → Nat → Prop
  | 0, _ => False
  | k + 1, a => S a ∧ ∀ g, bd a g → ∃ b, b < n ∧ en_ n bd hd S k b ∧ hd b = g
def dr_ (n : Nat) (bd : Nat → Nat → Prop) (hd : Nat → Nat) (S : Nat → Prop) (k f : Nat) : Prop := ∃ b, b < n ∧ en_ n bd hd S k b ∧ hd b = f
theorem en_mono {n : Nat} {bd : Nat → Nat → Prop} {hd : Nat → Nat} {S : Nat → Prop} : ∀ (k a : Nat), en_ n bd hd S k a → en_ n bd hd S (k + 1) a := by
  intro k
  induction k with
  | zero => intro a h; exact h.elim
  | succ k ih =>
    intro a h
    obtain ⟨h1, h2⟩ := h
    refine ⟨h1, fun g hg => ?_⟩
    obtain ⟨b, hb, he, hf⟩ := h2 g hg
    exact ⟨b, hb, ih b he, hf⟩
theorem dr_mono {n : Nat} {bd : Nat → Nat → Prop} {hd : Nat → Nat} {S : Nat → Prop} (k f : Nat) (h : dr_ n bd hd S k f) : dr_ n bd hd S (k + 1) f := by
  obtain ⟨b, hb, he, hf⟩ := h
  exact ⟨b, hb, en_mono k b he, hf⟩
theorem dr_le {n : Nat} {bd : Nat → Nat → Prop} {hd : Nat → Nat} {S : Nat → Prop} {k j f : Nat} (h : k ≤ j) (hd1 : dr_ n bd hd S k f) : dr_ n bd hd S j f := by
  induction h with
  | refl => exact hd1
  | step _ ih => exact dr_mono _ _ ih
/-- one step more -/
theorem dr_step {n : Nat} {bd : Nat → Nat → Prop} {hd : Nat → Nat} {S : Nat → Prop} (k f : Nat) : dr_ n bd hd S (k + 1) f ↔ ∃ a, a < n ∧ S a ∧ hd a = f ∧ ∀ g, bd a g → dr_ n bd hd S k g := by
  constructor
  · rintro ⟨b, hb, ⟨h1, h2⟩, hf⟩
    exact ⟨b, hb, h1, hf, h2⟩
  · rintro ⟨a, ha, h1, hf, h2⟩
    exact ⟨a, ha, ⟨h1, h2⟩, hf⟩
theorem en_stab {n : Nat} {bd : Nat → Nat → Prop} {hd : Nat → Nat} {S : Nat → Prop} (k : Nat) (h : ∀ a, a < n → en_ n bd hd S (k + 1) a → en_ n bd hd S k a) : ∀ a, a < n → en_ n bd hd S (k + 2) a → en_ n bd hd S (k + 1) a := by
  intro a ha h2
  obtain ⟨h3, h4⟩ := h2
  refine ⟨h3, fun g hg => ?_⟩
  obtain ⟨b, hb, he, hf⟩ := h4 g hg
  exact ⟨b, hb, h b hb he, hf⟩
theorem en_count {n : Nat} {bd : Nat → Nat → Prop} {hd : Nat → Nat} {S : Nat → Prop} : ∀ k, (∀ a, a < n → en_ n bd hd S (k + 1) a → en_ n bd hd S k a) ∨ k + 1 ≤ ct_ (en_ n bd hd S (k + 1)) n := by
  intro k
  induction k with
  | zero =>
    by_cases h : ∀ a, a < n → en_ n bd hd S (0 + 1) a → en_ n bd hd S 0 a
    · exact Or.inl h
    · right
      have hx : ∃ a, a < n ∧ en_ n bd hd S (0 + 1) a ∧ ¬ en_ n bd hd S 0 a := by
        refine Classical.byContradiction fun q => h fun a ha h1 => Classical.byContradiction fun h2 => q ⟨a, ha, h1, h2⟩
      have := ct_lt (P := en_ n bd hd S 0) (Q := en_ n bd hd S (0 + 1)) (fun a _ => en_mono (n := n) (bd := bd) (hd := hd) (S := S) 0 a) hx
      omega
  | succ k ih =>
    rcases ih with h | h
    · exact Or.inl (en_stab k h)
    · by_cases h0 : ∀ a, a < n → en_ n bd hd S (k + 1 + 1) a → en_ n bd hd S (k + 1) a
      · exact Or.inl h0
      · right
        have hx : ∃ a, a < n ∧ en_ n bd hd S (k + 1 + 1) a ∧ ¬ en_ n bd hd S (k + 1) a := by
          refine Classical.byContradiction fun q => h0 fun a ha h1 => Classical.byContradiction fun h2 => q ⟨a, ha, h1, h2⟩
        have := ct_lt (P := en_ n bd hd S (k + 1)) (Q := en_ n bd hd S (k + 1 + 1)) (fun a _ => en_mono (n := n) (bd := bd) (hd := hd) (S := S) (k + 1) a) hx
        omega
theorem en_fix {n : Nat} {bd : Nat → Nat → Prop} {hd : Nat → Nat} {S : Nat → Prop} : ∀ a, a < n → en_ n bd hd S (n + 1) a → en_ n bd hd S n a := by
  rcases en_count (n := n) (bd := bd) (hd := hd) (S := S) n with h | h
  · exact h
  · have := ct_le (en_ n bd hd S (n + 1)) n
    omega
/-- behind as many steps as there are axioms nothing more follows -/
theorem dr_fix {n : Nat} {bd : Nat → Nat → Prop} {hd : Nat → Nat} {S : Nat → Prop} (f : Nat) (h : dr_ n bd hd S (n + 1) f) : dr_ n bd hd S n f := by
  obtain ⟨b, hb, he, hf⟩ := h
  exact ⟨b, hb, en_fix b hb he, hf⟩
theorem dr_closed {n : Nat} {bd : Nat → Nat → Prop} {hd : Nat → Nat} {S : Nat → Prop} {a : Nat} (ha : a < n) (hS : S a) (h : ∀ g, bd a g → dr_ n bd hd S n g) : dr_ n bd hd S n (hd a) := dr_fix _ ((dr_step n (hd a)).mpr ⟨a, ha, hS, rfl, h⟩)
/-- what is closed holds all that follows -/
theorem dr_least {n : Nat} {bd : Nat → Nat → Prop} {hd : Nat → Nat} {S G : Nat → Prop} (hG : ∀ a, a < n → S a → (∀ g, bd a g → G g) → G (hd a)) : ∀ k f, dr_ n bd hd S k f → G f := by
  intro k
  induction k with
  | zero =>
    rintro f ⟨b, -, he, -⟩
    exact he.elim
  | succ k ih =>
    intro f h
    obtain ⟨a, ha, hS, hf, hb⟩ := (dr_step k f).mp h
    subst hf
    exact hG a ha hS (fun g hg => ih g (hb g hg))
theorem dr_all {n : Nat} {bd : Nat → Nat → Prop} {hd : Nat → Nat} {S : Nat → Prop} (k f : Nat) (h : dr_ n bd hd S k f) : dr_ n bd hd S n f := dr_least (fun _ ha hS hb => dr_closed ha hS hb) k f h
/-- a step that gives nothing new is the last -/
theorem dr_last {n : Nat} {bd : Nat → Nat → Prop} {hd : Nat → Nat} {S : Nat → Prop} {k : Nat} (h : ∀ f, dr_ n bd hd S (k + 1) f → dr_ n bd hd S k f) (f : Nat) (hf : dr_ n bd hd S n f) : dr_ n bd hd S k f := dr_least (G := dr_ n bd hd S k) (fun a ha hS hb => h _ ((dr_step k (hd a)).mpr ⟨a, ha, hS, rfl, hb⟩)) n f hf
theorem dr_congr {n : Nat} {bd : Nat → Nat → Prop} {hd : Nat → Nat} {S S' : Nat → Prop} (h : ∀ a, a < n → S a → S' a) : ∀ k f, dr_ n bd hd S k f → dr_ n bd hd S' k f := by
  intro k
  induction k with
  | zero =>
    rintro f ⟨b, -, he, -⟩
    exact he.elim
  | succ k ih =>
    intro f hf
    obtain ⟨a, ha, hS, e, hb⟩ := (dr_step k f).mp hf
    exact (dr_step k f).mpr ⟨a, ha, h a ha hS, e, fun g hg => ih g (hb g hg)⟩
end
section
/-! ===== sets as bits of a Nat ===== -/
def ss_ (s t : Nat) : Prop := ∀ i, s.testBit i = true → t.testBit i = true
theorem ss_eq {s t : Nat} (h : ss_ s t) (h2 : ss_ t s) : s = t := by
  apply Nat.eq_of_testBit_eq
  intro i
  cases hs : s.testBit i
  · cases ht : t.testBit i
    · rfl
    · exact absurd (h2 i ht) (by rw [hs]; decide)
  · rw [h i hs]
theorem tb_add {n t : Nat} (ht : t < 2 ^ n) (i : Nat) : (t + 2 ^ n).testBit i = (t.testBit i || decide (i = n)) := by
  have e : t + 2 ^ n = 2 ^ n * 1 + t := by omega
  rw [e, Nat.testBit_two_pow_mul_add 1 ht i]
  by_cases h : i < n
  · have h2 : ¬ i = n := by omega
    simp [h, h2]
  · have h3 : t.testBit i = false := Nat.testBit_lt_two_pow (Nat.lt_of_lt_of_le ht (Nat.pow_le_pow_right (by omega) (by omega)))
    rw [if_neg h, h3]
    by_cases h4 : i = n
    · subst h4; simp
    · have : i - n ≠ 0 := by omega
      have h5 : Nat.testBit 1 (i - n) = false := Nat.testBit_lt_two_pow (Nat.one_lt_two_pow this)
      rw [h5]
      simp [h4]
/-! ===== symmetric chains: the top first ===== -/
def ch_ : Nat → List (List Nat)
  | 0 => [[0]]
  | n + 1 => (ch_ n).flatMap (fun c => match c with
    | [] => []
    | t :: r => ((t + 2 ^ n) :: t :: r) :: (match r with
      | [] => []
      | a :: r => [(a :: r).map (fun x => x + 2 ^ n)]))
def cho_ (n : Nat) (c : List Nat) : Prop := c.Pairwise (fun t s => ss_ s t) ∧ ∀ s ∈ c, s < 2 ^ n
theorem cho_add {n : Nat} {c : List Nat} (h : cho_ n c) : cho_ (n + 1) (c.map (fun x => x + 2 ^ n)) := by
  refine ⟨List.pairwise_map.mpr (h.1.imp_of_mem ?_), ?_⟩
  · intro a b ha hb hab i
    rw [tb_add (h.2 a ha), tb_add (h.2 b hb)]
    intro hi
    rcases Bool.or_eq_true _ _ ▸ hi with h1 | h1
    · simp [hab i h1]
    · simp [h1]
  · intro s hs
    obtain ⟨x, hx, rfl⟩ := List.mem_map.mp hs
    have := h.2 x hx
    show x + 2 ^ n < 2 ^ (n + 1)
    rw [Nat.pow_succ]
    omega
theorem ch_ok : ∀ (n : Nat) (c : List Nat), c ∈ ch_ n → cho_ n c := by
  intro n
  induction n with
  | zero =>
    intro c hc
    rw [ch_, List.mem_singleton] at hc
    subst hc
    exact ⟨List.pairwise_singleton _ _, fun s hs => by rw [List.mem_singleton.mp hs]; decide⟩
  | succ n ih =>
    intro c hc
    rw [ch_] at hc
    obtain ⟨c0, hc0, h1⟩ := List.mem_flatMap.mp hc
    have h0 := ih c0 hc0
    match c0, h0, h1 with
    | [], _, h1 => cases h1
    | t :: r, h0, h1 =>
      have ht : t < 2 ^ n := h0.2 t List.mem_cons_self
      have hp : 2 ^ (n + 1) = 2 ^ n + 2 ^ n := by rw [Nat.pow_succ]; omega
      rcases List.mem_cons.mp h1 with h2 | h2
      · subst h2
        refine ⟨List.pairwise_cons.mpr ⟨fun s hs i hi => ?_, h0.1⟩, fun s hs => ?_⟩
        · rw [tb_add ht]
          rcases List.mem_cons.mp hs with h3 | h3
          · rw [← h3, hi]; rfl
          · rw [(List.pairwise_cons.mp h0.1).1 s h3 i hi]; rfl
        · rcases List.mem_cons.mp hs with h3 | h3
          · omega
          · have := h0.2 s h3
            omega
      · match r, h0, h2 with
        | [], _, h2 => cases h2
        | a :: r, h0, h2 =>
          rw [List.mem_singleton.mp h2]
          exact cho_add ⟨(List.pairwise_cons.mp h0.1).2, fun s hs => h0.2 s (List.mem_cons_of_mem _ hs)⟩
theorem ch_all : ∀ (n s : Nat), s < 2 ^ n → ∃ c ∈ ch_ n, s ∈ c := by
  intro n
  induction n with
  | zero =>
    intro s hs
    have : s = 0 := by
      have : 2 ^ 0 = 1 := rfl
      omega
    subst this
    exact ⟨[0], by rw [ch_]; exact List.mem_singleton.mpr rfl, List.mem_singleton.mpr rfl⟩
  | succ n ih =>
    intro s hs
    have hp : 2 ^ (n + 1) = 2 ^ n + 2 ^ n := by rw [Nat.pow_succ]; omega
    rcases Nat.lt_or_ge s (2 ^ n) with h | h
    · obtain ⟨c, hc, hm⟩ := ih s h
      match c, hc, hm with
      | t :: r, hc, hm =>
        refine ⟨(t + 2 ^ n) :: t :: r, ?_, List.mem_cons_of_mem _ hm⟩
        rw [ch_]
        exact List.mem_flatMap.mpr ⟨t :: r, hc, List.mem_cons_self⟩
    · obtain ⟨c, hc, hm⟩ := ih (s - 2 ^ n) (by omega)
      match c, hc, hm with
      | t :: r, hc, hm =>
        rcases List.mem_cons.mp hm with h1 | h1
        · refine ⟨(t + 2 ^ n) :: t :: r, ?_, ?_⟩
          · rw [ch_]
            exact List.mem_flatMap.mpr ⟨t :: r, hc, List.mem_cons_self⟩
          · rw [show s = t + 2 ^ n by omega]
            exact List.mem_cons_self
        · match r, hc, h1 with
          | a :: r, hc, h1 =>
            refine ⟨(a :: r).map (fun x => x + 2 ^ n), ?_, ?_⟩
            · rw [ch_]
              exact List.mem_flatMap.mpr ⟨t :: a :: r, hc, List.mem_cons_of_mem _ (List.mem_singleton.mpr rfl)⟩
            · exact List.mem_map.mpr ⟨s - 2 ^ n, h1, by omega⟩
set_option maxRecDepth 100000 in
theorem ch_14 : (ch_ 14).length = 3432 := by decide +kernel
/-! ===== no more sets, of which none holds another, than chains ===== -/
def sm_ (f : List Nat → Nat) : List (List Nat) → Nat
  | [] => 0
  | c :: cs => f c + sm_ f cs
theorem sm_add (f g : List Nat → Nat) (cs : List (List Nat)) : sm_ (fun c => f c + g c) cs = sm_ f cs + sm_ g cs := by
  induction cs with
  | nil => rfl
  | cons c cs ih =>
    show f c + g c + sm_ _ cs = f c + sm_ f cs + (g c + sm_ g cs)
    rw [ih]; omega
theorem sm_le {f : List Nat → Nat} {cs : List (List Nat)} (h : ∀ c ∈ cs, f c ≤ 1) : sm_ f cs ≤ cs.length := by
  induction cs with
  | nil => exact Nat.le_refl 0
  | cons c cs ih =>
    have h1 := h c List.mem_cons_self
    have h2 := ih (fun c hc => h c (List.mem_cons_of_mem _ hc))
    show f c + sm_ f cs ≤ cs.length + 1
    omega
theorem sm_one {f : List Nat → Nat} {cs : List (List Nat)} {c : List Nat} (hc : c ∈ cs) (h : 1 ≤ f c) : 1 ≤ sm_ f cs := by
  induction cs with
  | nil => cases hc
  | cons c0 cs ih =>
    show 1 ≤ f c0 + sm_ f cs
    rcases List.mem_cons.mp hc with h1 | h1
    · subst h1; omega
    · have := ih h1; omega
def nin_ (l : List Nat) (c : List Nat) : Nat := (l.filter (fun s => decide (s ∈ c))).length
theorem nin_cons (a : Nat) (l c : List Nat) : nin_ (a :: l) c = nin_ [a] c + nin_ l c := by
  unfold nin_
  by_cases h : a ∈ c
  · simp [h]; omega
  · simp [h]
theorem sm_all {cs : List (List Nat)} : ∀ (l : List Nat), (∀ s ∈ l, ∃ c ∈ cs, s ∈ c) → l.length ≤ sm_ (nin_ l) cs := by
  intro l
  induction l with
  | nil => intro _; exact Nat.zero_le _
  | cons a l ih =>
    intro h
    have h1 := ih (fun s hs => h s (List.mem_cons_of_mem _ hs))
    obtain ⟨c, hc, ha⟩ := h a List.mem_cons_self
    have h2 : sm_ (nin_ (a :: l)) cs = sm_ (nin_ [a]) cs + sm_ (nin_ l) cs := by
      rw [← sm_add]
      congr 1
      funext c
      exact nin_cons a l c
    have h3 : 1 ≤ sm_ (nin_ [a]) cs := sm_one hc (by unfold nin_; simp [ha])
    rw [h2, List.length_cons]
    omega
/-- at most one of a list of sets, of which none holds another, is in a chain -/
theorem nin_le {n : Nat} {c : List Nat} (hc : cho_ n c) : ∀ (l : List Nat), l.Pairwise (fun s t => ¬ ss_ s t ∧ ¬ ss_ t s) → nin_ l c ≤ 1 := by
  have cmp : ∀ (c : List Nat), c.Pairwise (fun t s => ss_ s t) → ∀ s t, s ∈ c → t ∈ c → ss_ s t ∨ ss_ t s := by
    intro c
    induction c with
    | nil => intro _ s t hs; cases hs
    | cons a c ih =>
      intro h s t hs ht
      obtain ⟨h1, h2⟩ := List.pairwise_cons.mp h
      rcases List.mem_cons.mp hs with es | hs2
      · rcases List.mem_cons.mp ht with et | ht2
        · rw [es, et]; exact Or.inl fun i h => h
        · rw [es]; exact Or.inr (h1 t ht2)
      · rcases List.mem_cons.mp ht with et | ht2
        · rw [et]; exact Or.inl (h1 s hs2)
        · exact ih h2 s t hs2 ht2
  intro l
  induction l with
  | nil => intro _; exact Nat.zero_le _
  | cons a l ih =>
    intro h
    obtain ⟨h1, h2⟩ := List.pairwise_cons.mp h
    rw [nin_cons]
    by_cases ha : a ∈ c
    · have h3 : nin_ l c = 0 := by
        unfold nin_
        rw [List.length_eq_zero_iff, List.filter_eq_nil_iff]
        intro t ht
        simp only [decide_eq_true_eq]
        intro htc
        rcases cmp c hc.1 a t ha htc with q | q
        · exact (h1 t ht).1 q
        · exact (h1 t ht).2 q
      have h4 : nin_ [a] c ≤ 1 := by
        unfold nin_
        exact Nat.le_trans (List.length_filter_le _ _) (by simp)
      omega
    · have h3 : nin_ [a] c = 0 := by unfold nin_; simp [ha]
      have h4 := ih h2
      omega
theorem sperner14 {l : List Nat} (h : l.Pairwise (fun s t => ¬ ss_ s t ∧ ¬ ss_ t s)) (hl : ∀ s ∈ l, s < 16384) : l.length ≤ 3432 := by
  have h1 := sm_all (cs := ch_ 14) l (fun s hs => ch_all 14 s (hl s hs))
  have h2 := sm_le (cs := ch_ 14) (f := nin_ l) (fun c hc => nin_le (ch_ok 14 c hc) l h)
  rw [ch_14] at h2
  omega
end
section
/-! ===== the numbers from i on, k of them, that have a property, in order ===== -/
def on_ (f : Nat → Bool) : Nat → Nat → List Nat
  | _, 0 => []
  | i, k + 1 => if f i = true then i :: on_ f (i + 1) k else on_ f (i + 1) k
theorem on_app (f : Nat → Bool) : ∀ (k1 i k2 : Nat), on_ f i (k1 + k2) = on_ f i k1 ++ on_ f (i + k1) k2 := by
  intro k1
  induction k1 with
  | zero =>
    intro i k2
    rw [Nat.zero_add, Nat.add_zero]
    rfl
  | succ k1 ih =>
    intro i k2
    rw [show k1 + 1 + k2 = (k1 + k2) + 1 by omega]
    show (if f i = true then i :: on_ f (i + 1) (k1 + k2) else on_ f (i + 1) (k1 + k2)) = (if f i = true then i :: on_ f (i + 1) k1 else on_ f (i + 1) k1) ++ _
    rw [ih (i + 1) k2, show i + 1 + k1 = i + (k1 + 1) by omega]
    split <;> rfl
theorem on_succ (f : Nat → Bool) (i k : Nat) : on_ f i (k + 1) = on_ f i k ++ (if f (i + k) = true then [i + k] else []) := by
  rw [on_app f k i 1]
  rfl
theorem on_congr {f g : Nat → Bool} : ∀ (k i : Nat), (∀ j, i ≤ j → j < i + k → f j = g j) → on_ f i k = on_ g i k := by
  intro k
  induction k with
  | zero => intro i _; rfl
  | succ k ih =>
    intro i h
    show (if f i = true then i :: on_ f (i + 1) k else on_ f (i + 1) k) = (if g i = true then i :: on_ g (i + 1) k else on_ g (i + 1) k)
    rw [h i (by omega) (by omega), ih (i + 1) (fun j h1 h2 => h j (by omega) (by omega))]
theorem on_nil {f : Nat → Bool} : ∀ (k i : Nat), (∀ j, i ≤ j → j < i + k → f j = false) → on_ f i k = [] := by
  intro k
  induction k with
  | zero => intro i _; rfl
  | succ k ih =>
    intro i h
    show (if f i = true then i :: on_ f (i + 1) k else on_ f (i + 1) k) = []
    rw [h i (by omega) (by omega), ih (i + 1) (fun j h1 h2 => h j (by omega) (by omega))]
    rfl
theorem on_mem {f : Nat → Bool} {j : Nat} : ∀ (k i : Nat), j ∈ on_ f i k ↔ i ≤ j ∧ j < i + k ∧ f j = true := by
  intro k
  induction k with
  | zero =>
    intro i
    constructor
    · intro h; cases h
    · rintro ⟨h1, h2, -⟩; omega
  | succ k ih =>
    intro i
    show j ∈ (if f i = true then i :: on_ f (i + 1) k else on_ f (i + 1) k) ↔ _
    by_cases hf : f i = true
    · rw [if_pos hf, List.mem_cons, ih]
      constructor
      · rintro (rfl | ⟨h1, h2, h3⟩)
        · exact ⟨Nat.le_refl _, by omega, hf⟩
        · exact ⟨by omega, by omega, h3⟩
      · rintro ⟨h1, h2, h3⟩
        by_cases e : j = i
        · exact Or.inl e
        · exact Or.inr ⟨by omega, by omega, h3⟩
    · rw [if_neg hf, ih]
      constructor
      · rintro ⟨h1, h2, h3⟩
        exact ⟨by omega, by omega, h3⟩
      · rintro ⟨h1, h2, h3⟩
        have : j ≠ i := by
          intro e
          subst e
          exact hf h3
        exact ⟨by omega, by omega, h3⟩
theorem on_len (f : Nat → Bool) : ∀ (k i : Nat), (on_ f i k).length ≤ k := by
  intro k
  induction k with
  | zero => intro i; exact Nat.le_refl 0
  | succ k ih =>
    intro i
    have := ih (i + 1)
    show (if f i = true then i :: on_ f (i + 1) k else on_ f (i + 1) k).length ≤ k + 1
    split
    · rw [List.length_cons]; omega
    · omega
/-- the numbers move along -/
theorem on_shift (f : Nat → Bool) (d : Nat) : ∀ (k i : Nat), on_ f (d + i) k = (on_ (fun j => f (d + j)) i k).map (fun j => d + j) := by
  intro k
  induction k with
  | zero => intro i; rfl
  | succ k ih =>
    intro i
    show (if f (d + i) = true then (d + i) :: on_ f (d + i + 1) k else on_ f (d + i + 1) k) = ((if f (d + i) = true then i :: on_ (fun j => f (d + j)) (i + 1) k else on_ (fun j => f (d + j)) (i + 1) k)).map _
    rw [show d + i + 1 = d + (i + 1) by omega, ih (i + 1)]
    split <;> simp
/-- the first of them is taken away -/
theorem on_first {f g : Nat → Bool} {p : Nat} : ∀ (k i : Nat), i ≤ p → p < i + k → f p = true → (∀ j, i ≤ j → j < p → f j = false) → (∀ j, i ≤ j → j < i + k → g j = (f j && decide (j ≠ p))) → on_ f i k = p :: on_ g i k := by
  intro k
  induction k with
  | zero => intro i h1 h2; omega
  | succ k ih =>
    intro i h1 h2 hp hlo hg
    show (if f i = true then i :: on_ f (i + 1) k else on_ f (i + 1) k) = p :: (if g i = true then i :: on_ g (i + 1) k else on_ g (i + 1) k)
    by_cases e : i = p
    · subst e
      have hgi : g i = false := by rw [hg i (by omega) (by omega)]; simp
      rw [if_pos hp, hgi, if_neg (by decide)]
      have e2 : on_ f (i + 1) k = on_ g (i + 1) k := on_congr k (i + 1) (fun j h3 h4 => by
        rw [hg j (by omega) (by omega)]
        have hne : j ≠ i := by omega
        simp [hne])
      rw [e2]
    · have hfi : f i = false := hlo i (by omega) (by omega)
      have hgi : g i = false := by rw [hg i (by omega) (by omega), hfi]; rfl
      rw [hfi, hgi, if_neg (by decide), if_neg (by decide)]
      exact ih (i + 1) (by omega) (by omega) hp (fun j h3 h4 => hlo j (by omega) h4) (fun j h3 h4 => hg j (by omega) (by omega))
/-- the list of a table of lists -/
def cc_ (g : Nat → List Nat) : Nat → List Nat
  | 0 => []
  | n + 1 => cc_ g n ++ g n
theorem cc_congr {g h : Nat → List Nat} : ∀ n, (∀ k, k < n → g k = h k) → cc_ g n = cc_ h n := by
  intro n
  induction n with
  | zero => intro _; rfl
  | succ n ih =>
    intro e
    show cc_ g n ++ g n = cc_ h n ++ h n
    rw [ih (fun k hk => e k (by omega)), e n (by omega)]
theorem cc_more {g : Nat → List Nat} {n : Nat} : ∀ m, n ≤ m → (∀ k, n ≤ k → k < m → g k = []) → cc_ g m = cc_ g n := by
  intro m
  induction m with
  | zero =>
    intro h _
    rw [show n = 0 by omega]
  | succ m ih =>
    intro h e
    by_cases q : n = m + 1
    · rw [q]
    · show cc_ g m ++ g m = _
      rw [ih (by omega) (fun k h1 h2 => e k h1 (by omega)), e m (by omega) (by omega), List.append_nil]
theorem cc_mem {g : Nat → List Nat} {x : Nat} : ∀ n, x ∈ cc_ g n ↔ ∃ k, k < n ∧ x ∈ g k := by
  intro n
  induction n with
  | zero =>
    constructor
    · intro h; cases h
    · rintro ⟨k, hk, -⟩; omega
  | succ n ih =>
    show x ∈ cc_ g n ++ g n ↔ _
    rw [List.mem_append, ih]
    constructor
    · rintro (⟨k, hk, h⟩ | h)
      · exact ⟨k, by omega, h⟩
      · exact ⟨n, by omega, h⟩
    · rintro ⟨k, hk, h⟩
      by_cases e : k = n
      · subst e; exact Or.inr h
      · exact Or.inl ⟨k, by omega, h⟩
end
section
theorem on_pair {f : Nat → Bool} {R : Nat → Nat → Prop} (h : ∀ s t, s < t → f s = true → f t = true → R s t) : ∀ (k i : Nat), (on_ f i k).Pairwise R := by
  intro k
  induction k with
  | zero => intro i; exact List.Pairwise.nil
  | succ k ih =>
    intro i
    show List.Pairwise R (if f i = true then i :: on_ f (i + 1) k else on_ f (i + 1) k)
    by_cases hf : f i = true
    · rw [if_pos hf]
      refine List.pairwise_cons.mpr ⟨fun t ht => ?_, ih (i + 1)⟩
      obtain ⟨h1, h2, h3⟩ := (on_mem k (i + 1)).mp ht
      exact h i t (by omega) hf h3
    · rw [if_neg hf]
      exact ih (i + 1)
theorem cc_pair {g : Nat → List Nat} {R : Nat → Nat → Prop} (h1 : ∀ k, (g k).Pairwise R) (h2 : ∀ j k x y, j < k → x ∈ g j → y ∈ g k → R x y) : ∀ n, (cc_ g n).Pairwise R := by
  intro n
  induction n with
  | zero => exact List.Pairwise.nil
  | succ n ih =>
    show List.Pairwise R (cc_ g n ++ g n)
    refine List.pairwise_append.mpr ⟨ih, h1 n, fun x hx y hy => ?_⟩
    obtain ⟨k, hk, hxk⟩ := (cc_mem n).mp hx
    exact h2 k n x y hk hxk hy
/-! ===== how many bits a number has, of its first k ===== -/
def pcF : Nat → Nat → Nat
  | 0, _ => 0
  | k + 1, s => s % 2 + pcF k (s / 2)
theorem pcF_0 : ∀ k, pcF k 0 = 0 := by
  intro k
  induction k with
  | zero => rfl
  | succ k ih =>
    show 0 % 2 + pcF k (0 / 2) = 0
    rw [Nat.zero_div, ih]
theorem pcF_le : ∀ k s, pcF k s ≤ k := by
  intro k
  induction k with
  | zero => intro s; exact Nat.le_refl 0
  | succ k ih =>
    intro s
    have h1 := ih (s / 2)
    have h2 : s % 2 < 2 := Nat.mod_lt _ (by omega)
    show s % 2 + pcF k (s / 2) ≤ k + 1
    omega
theorem pcF_add : ∀ (i k s : Nat), pcF (i + k) s = pcF i s + pcF k (s / 2 ^ i) := by
  intro i
  induction i with
  | zero =>
    intro k s
    rw [Nat.zero_add, Nat.pow_zero, Nat.div_one]
    show _ = 0 + _
    omega
  | succ i ih =>
    intro k s
    rw [show i + 1 + k = (i + k) + 1 by omega]
    show s % 2 + pcF (i + k) (s / 2) = s % 2 + pcF i (s / 2) + _
    rw [ih k (s / 2), Nat.div_div_eq_div_mul, ← Nat.pow_succ', Nat.add_assoc]
theorem pcF_on : ∀ (k s : Nat), (on_ s.testBit 0 k).length = pcF k s := by
  intro k
  induction k with
  | zero => intro s; rfl
  | succ k ih =>
    intro s
    have e : on_ s.testBit (1 + 0) k = (on_ (fun j => s.testBit (1 + j)) 0 k).map (fun j => 1 + j) := on_shift s.testBit 1 k 0
    have e2 : on_ (fun j => s.testBit (1 + j)) 0 k = on_ (s / 2).testBit 0 k := on_congr k 0 (fun j _ _ => by rw [Nat.add_comm, Nat.testBit_succ])
    show (if s.testBit 0 = true then 0 :: on_ s.testBit (0 + 1) k else on_ s.testBit (0 + 1) k).length = s % 2 + pcF k (s / 2)
    rw [show (0 + 1 : Nat) = 1 + 0 from rfl, e, e2]
    have h2 : s % 2 < 2 := Nat.mod_lt _ (by omega)
    by_cases h : s.testBit 0 = true
    · have h3 : s % 2 = 1 := by
        rw [Nat.testBit_zero] at h
        exact of_decide_eq_true h
      rw [if_pos h, List.length_cons, List.length_map, ih, h3]; omega
    · have h3 : s % 2 = 0 := by
        rw [Nat.testBit_zero] at h
        have : ¬ s % 2 = 1 := fun q => h (decide_eq_true q)
        omega
      rw [if_neg h, List.length_map, ih, h3]; omega
/-! ===== the least of a family: none with one axiom less is in it ===== -/
def lst_ (M : Nat → Prop) (s : Nat) : Prop := M s ∧ ∀ a, a < 14 → s.testBit a = true → ¬ M (s ^^^ 2 ^ a)
theorem tb_flip (s a i : Nat) : (s ^^^ 2 ^ a).testBit i = (s.testBit i ^^ decide (a = i)) := by
  rw [Nat.testBit_xor, Nat.testBit_two_pow]
theorem tb_lt {s i : Nat} (hs : s < 16384) (h : s.testBit i = true) : i < 14 := by
  refine Classical.byContradiction fun q => ?_
  have : s.testBit i = false := Nat.testBit_lt_two_pow (Nat.lt_of_lt_of_le hs (show 16384 ≤ 2 ^ i from Nat.pow_le_pow_right (n := 2) (i := 14) (j := i) (by omega) (by omega)))
  rw [this] at h
  cases h
theorem lst_anti {M : Nat → Prop} (up : ∀ s t, ss_ s t → M s → M t) {s t : Nat} (ht : t < 16384) (h1 : lst_ M s) (h2 : lst_ M t) (h : ss_ s t) : s = t := by
  refine Classical.byContradiction fun q => ?_
  have hx : ∃ a, t.testBit a = true ∧ s.testBit a = false := by
    refine Classical.byContradiction fun z => q (ss_eq h fun i hi => ?_)
    cases hs : s.testBit i
    · exact absurd ⟨i, hi, hs⟩ z
    · rfl
  obtain ⟨a, ha, hs⟩ := hx
  refine h2.2 a (tb_lt ht ha) ha (up s _ (fun i hi => ?_) h1.1)
  rw [tb_flip, h i hi]
  have : ¬ a = i := by
    intro e
    subst e
    rw [hs] at hi
    cases hi
  simp [this]
/-- the sets in the ORDER: of k axioms, k below n, and smaller than N -/
def ls_ (P : Nat → Bool) (n N : Nat) : List Nat := cc_ (fun k => on_ (fun s => decide (pcF 14 s = k) && P s) 0 N) n
theorem ls_mem {P : Nat → Bool} {n N s : Nat} : s ∈ ls_ P n N ↔ pcF 14 s < n ∧ s < N ∧ P s = true := by
  unfold ls_
  rw [cc_mem]
  constructor
  · rintro ⟨k, hk, h⟩
    obtain ⟨-, h2, h3⟩ := (on_mem N 0).mp h
    simp only [Bool.and_eq_true, decide_eq_true_eq] at h3
    exact ⟨by omega, by omega, h3.2⟩
  · rintro ⟨h1, h2, h3⟩
    exact ⟨_, h1, (on_mem N 0).mpr ⟨Nat.zero_le _, by omega, by simp [h3]⟩⟩
theorem ls_len {M : Nat → Prop} {P : Nat → Bool} (hP : ∀ s, P s = true → lst_ M s) (up : ∀ s t, ss_ s t → M s → M t) {n N : Nat} (hN : N ≤ 16384) : (ls_ P n N).length ≤ 3432 := by
  have key : ∀ s t, s ≠ t → s < 16384 → t < 16384 → P s = true → P t = true → ¬ ss_ s t ∧ ¬ ss_ t s := fun s t hne hs ht ps pt =>
    ⟨fun h => hne (lst_anti up ht (hP s ps) (hP t pt) h), fun h => hne (lst_anti up hs (hP t pt) (hP s ps) h).symm⟩
  have pw : (ls_ P n N).Pairwise (fun s t => s < 16384 → t < 16384 → ¬ ss_ s t ∧ ¬ ss_ t s) := by
    refine cc_pair (fun k => on_pair (fun s t hst hs ht h1 h2 => ?_) N 0) (fun j k x y hjk hx hy h1 h2 => ?_) n
    · simp only [Bool.and_eq_true, decide_eq_true_eq] at hs ht
      exact key s t (by omega) h1 h2 hs.2 ht.2
    · obtain ⟨-, -, h3⟩ := (on_mem N 0).mp hx
      obtain ⟨-, -, h4⟩ := (on_mem N 0).mp hy
      simp only [Bool.and_eq_true, decide_eq_true_eq] at h3 h4
      exact key x y (fun e => by subst e; omega) h1 h2 h3.2 h4.2
  have hl : ∀ s ∈ ls_ P n N, s < 16384 := fun s hs => by
    have := (ls_mem.mp hs).2.1
    omega
  exact sperner14 (pw.imp_of_mem (fun ha hb h => h (hl _ ha) (hl _ hb))) hl
/-- the same list over fewer sizes and fewer sets, where beyond them there is none -/
theorem ls_cut {P : Nat → Bool} {n n' N N' : Nat} (hn : n' ≤ n) (hN : N' ≤ N) (h : ∀ s, s < N → P s = true → pcF 14 s < n' ∧ s < N') : ls_ P n N = ls_ P n' N' := by
  unfold ls_
  rw [cc_more (n := n') n hn (fun k h1 h2 => on_nil N 0 (fun s h3 h4 => ?_))]
  · refine cc_congr n' (fun k hk => ?_)
    show on_ _ 0 N = on_ _ 0 N'
    rw [show N = N' + (N - N') by omega, on_app]
    rw [on_nil (N - N') (0 + N') (fun s h3 h4 => ?_), List.append_nil]
    cases hp : P s
    · simp
    · have := (h s (by omega) hp).2
      omega
  · cases hp : P s
    · simp
    · have := (h s (by omega) hp).1
      have : ¬ pcF 14 s = k := by omega
      simp [this]
end
section
/-! ===== counting bits as the JDK does it, over Nat, byte by byte ===== -/
theorem and_split {a b c d : Nat} (hb : b < 256) (hd : d < 256) : (256 * a + b) &&& (256 * c + d) = 256 * (a &&& c) + (b &&& d) := by
  have hbd : b &&& d < 2 ^ 8 := Nat.and_lt_two_pow b hd
  apply Nat.eq_of_testBit_eq
  intro i
  rw [Nat.testBit_and]
  rw [show 256 * a + b = 2 ^ 8 * a + b from rfl, show 256 * c + d = 2 ^ 8 * c + d from rfl, show 256 * (a &&& c) + (b &&& d) = 2 ^ 8 * (a &&& c) + (b &&& d) from rfl]
  rw [Nat.testBit_two_pow_mul_add a (show b < 2 ^ 8 from hb) i, Nat.testBit_two_pow_mul_add c (show d < 2 ^ 8 from hd) i, Nat.testBit_two_pow_mul_add (a &&& c) hbd i]
  split
  · rw [Nat.testBit_and]
  · rw [Nat.testBit_and]
def m55 : Nat → Nat
  | 0 => 0
  | k + 1 => 256 * m55 k + 0x55
def m33 : Nat → Nat
  | 0 => 0
  | k + 1 => 256 * m33 k + 0x33
def m0f : Nat → Nat
  | 0 => 0
  | k + 1 => 256 * m0f k + 0x0f
def p1_ (m x : Nat) : Nat := x - ((x / 2) &&& m)
def p2_ (m x : Nat) : Nat := (x &&& m) + ((x / 4) &&& m)
def p3_ (m x : Nat) : Nat := (x + x / 16) &&& m
theorem pd_1 : ∀ b, b < 256 → ∀ r, r < 2 → (128 * r + b / 2) &&& 0x55 = (b / 2) &&& 0x55 ∧ (b / 2) &&& 0x55 ≤ b ∧ p1_ 0x55 b < 256 := by decide +kernel
theorem pd_2 : ∀ b, b < 256 → ∀ r, r < 4 → (64 * r + b / 4) &&& 0x33 = (b / 4) &&& 0x33 := by decide +kernel
theorem pd_2b : ∀ b, b < 256 → p2_ 0x33 (p1_ 0x55 b) < 69 ∧ p2_ 0x33 (p1_ 0x55 b) / 16 ≤ 4 ∧ p2_ 0x33 (p1_ 0x55 b) % 16 ≤ 4 ∧ p3_ 0x0f (p2_ 0x33 (p1_ 0x55 b)) = pcF 8 b := by decide +kernel
theorem pd_3 : ∀ q, q < 69 → q / 16 ≤ 4 → ∀ r, r < 5 → (q + q / 16 + 16 * r) &&& 0x0f = (q + q / 16) &&& 0x0f ∧ q + q / 16 + 16 * r < 256 := by decide +kernel
theorem p1_split (k y b : Nat) (hb : b < 256) : p1_ (m55 (k + 1)) (256 * y + b) = 256 * p1_ (m55 k) y + p1_ 0x55 b := by
  unfold p1_
  have e1 : (256 * y + b) / 2 = 256 * (y / 2) + (128 * (y % 2) + b / 2) := by omega
  have h2 : y % 2 < 2 := Nat.mod_lt _ (by omega)
  obtain ⟨g1, g2, g3⟩ := pd_1 b hb (y % 2) h2
  rw [e1]
  show _ - ((256 * (y / 2) + (128 * (y % 2) + b / 2)) &&& (256 * m55 k + 0x55)) = _
  rw [and_split (by omega) (by omega), g1]
  have h3 : (y / 2) &&& m55 k ≤ y / 2 := Nat.and_le_left
  omega
theorem p2_split (k y b : Nat) (hb : b < 256) : p2_ (m33 (k + 1)) (256 * y + b) = 256 * p2_ (m33 k) y + p2_ 0x33 b := by
  unfold p2_
  have e1 : (256 * y + b) / 4 = 256 * (y / 4) + (64 * (y % 4) + b / 4) := by omega
  have h2 : y % 4 < 4 := Nat.mod_lt _ (by omega)
  have g1 := pd_2 b hb (y % 4) h2
  rw [e1]
  show ((256 * y + b) &&& (256 * m33 k + 0x33)) + ((256 * (y / 4) + (64 * (y % 4) + b / 4)) &&& (256 * m33 k + 0x33)) = _
  rw [and_split hb (by omega), and_split (by omega) (by omega), g1]
  omega
theorem p3_split (k y q : Nat) (hq : q < 69) (hq2 : q / 16 ≤ 4) (hy : y % 16 ≤ 4) : p3_ (m0f (k + 1)) (256 * y + q) = 256 * p3_ (m0f k) y + p3_ 0x0f q := by
  unfold p3_
  have e1 : 256 * y + q + (256 * y + q) / 16 = 256 * (y + y / 16) + (q + q / 16 + 16 * (y % 16)) := by omega
  obtain ⟨g1, g2⟩ := pd_3 q hq hq2 (y % 16) (by omega)
  rw [e1]
  show (256 * (y + y / 16) + (q + q / 16 + 16 * (y % 16))) &&& (256 * m0f k + 0x0f) = _
  rw [and_split g2 (by omega), g1]
def pb_ (k x : Nat) : Nat := p3_ (m0f k) (p2_ (m33 k) (p1_ (m55 k) x))
theorem pb_low (k x : Nat) (h : x < 256 ^ k) : p2_ (m33 k) (p1_ (m55 k) x) % 16 ≤ 4 := by
  match k with
  | 0 =>
    have : x = 0 := by
      have : 256 ^ 0 = 1 := rfl
      omega
    subst this
    decide
  | k + 1 =>
    have hb : x % 256 < 256 := Nat.mod_lt _ (by omega)
    have e : x = 256 * (x / 256) + x % 256 := by omega
    rw [e, p1_split k _ _ hb, p2_split k _ _ (pd_1 _ hb 0 (by omega)).2.2]
    have := (pd_2b _ hb).2.2.1
    omega
theorem pb_split (k x : Nat) (h : x < 256 ^ (k + 1)) : pb_ (k + 1) x = 256 * pb_ k (x / 256) + pcF 8 (x % 256) := by
  have hb : x % 256 < 256 := Nat.mod_lt _ (by omega)
  have e : x = 256 * (x / 256) + x % 256 := by omega
  have hy : x / 256 < 256 ^ k := by
    rw [Nat.pow_succ] at h
    exact Nat.div_lt_of_lt_mul (by rw [Nat.mul_comm]; exact h)
  obtain ⟨g1, g2, g3, g4⟩ := pd_2b _ hb
  unfold pb_
  conv => lhs; rw [e]
  rw [p1_split k _ _ hb, p2_split k _ _ (pd_1 _ hb 0 (by omega)).2.2, p3_split k _ _ g1 g2 (pb_low k _ hy), g4]
theorem pcF_mod (k s : Nat) : pcF k (s % 2 ^ k) = pcF k s := by
  rw [← pcF_on, ← pcF_on]
  congr 1
  exact on_congr k 0 (fun j _ h => by rw [Nat.testBit_mod_two_pow]; simp [show j < k by omega])
theorem pcF_8 (k s : Nat) : pcF (8 + k) s = pcF 8 (s % 256) + pcF k (s / 256) := by
  rw [pcF_add, show (256 : Nat) = 2 ^ 8 from rfl, pcF_mod]
end
section
def uI_ (x : Int32) : Nat := x.toBitVec.toNat
def uL_ (x : Int64) : Nat := x.toBitVec.toNat
theorem uI_lt (x : Int32) : uI_ x < 4294967296 := x.toBitVec.isLt
theorem uL_lt (x : Int64) : uL_ x < 18446744073709551616 := x.toBitVec.isLt
theorem uI_and (x y : Int32) : uI_ (x &&& y) = uI_ x &&& uI_ y := by unfold uI_; rw [Int32.toBitVec_and, BitVec.toNat_and]
theorem uL_and (x y : Int64) : uL_ (x &&& y) = uL_ x &&& uL_ y := by unfold uL_; rw [Int64.toBitVec_and, BitVec.toNat_and]
theorem uI_add (x y : Int32) : uI_ (x + y) = (uI_ x + uI_ y) % 4294967296 := by unfold uI_; rw [Int32.toBitVec_add, BitVec.toNat_add]
theorem uL_add (x y : Int64) : uL_ (x + y) = (uL_ x + uL_ y) % 18446744073709551616 := by unfold uL_; rw [Int64.toBitVec_add, BitVec.toNat_add]
theorem uI_sub {x y : Int32} (h : uI_ y ≤ uI_ x) : uI_ (x - y) = uI_ x - uI_ y := by
  have h1 := uI_lt x
  have h2 := uI_lt y
  unfold uI_ at *
  rw [Int32.toBitVec_sub, BitVec.toNat_sub]
  omega
theorem uL_sub {x y : Int64} (h : uL_ y ≤ uL_ x) : uL_ (x - y) = uL_ x - uL_ y := by
  have h1 := uL_lt x
  have h2 := uL_lt y
  unfold uL_ at *
  rw [Int64.toBitVec_sub, BitVec.toNat_sub]
  omega
theorem uI_nI {n : Nat} (h : n < 4294967296) : uI_ (nI n) = n := Nat.mod_eq_of_lt h
theorem uI_nIm (n : Nat) : uI_ (nI n) = n % 4294967296 := rfl
theorem uL_lN {n : Nat} (h : n < 18446744073709551616) : uL_ (lN n) = n := Nat.mod_eq_of_lt h
theorem uI_inj {x y : Int32} (h : uI_ x = uI_ y) : x = y := Int32.toBitVec_inj.mp (BitVec.eq_of_toNat_eq h)
theorem uL_inj {x y : Int64} (h : uL_ x = uL_ y) : x = y := Int64.toBitVec_inj.mp (BitVec.eq_of_toNat_eq h)
theorem uI_bt (x : Int32) (i : Nat) : bt x i = (uI_ x).testBit i := rfl
theorem uL_bl (x : Int64) (i : Nat) : bl x i = (uL_ x).testBit i := rfl
/-- x >>> k, k a number from 0 to 31 -/
abbrev us_ (x k : Int32) : Int32 := (x.toUInt32 >>> (k.toUInt32 &&& Int32.toUInt32 31)).toInt32
abbrev uls_ (x : Int64) (k : Int32) : Int64 := (x.toUInt64 >>> (k.toInt64.toUInt64 &&& Int64.toUInt64 63)).toInt64
theorem uI_shr (x s : Int32) (k : Nat) (hs : ((s.toUInt32 &&& Int32.toUInt32 31).toBitVec % 32).toNat = k) : uI_ (us_ x s) = uI_ x / 2 ^ k := pk_ushr x s k hs
theorem uL_shr (x : Int64) (s : Int32) (k : Nat) (hs : (s.toInt64.toUInt64 &&& Int64.toUInt64 63).toNat % 64 = k) : uL_ (uls_ x s) = uL_ x / 2 ^ k := by
  unfold uL_ uls_
  show (x.toUInt64 >>> (s.toInt64.toUInt64 &&& Int64.toUInt64 63)).toNat = _
  rw [UInt64.toNat_shiftRight, hs, Nat.shiftRight_eq_div_pow]
  rfl
theorem st_8 {a R : Nat} (h : a < 256) : (a + 256 * R) / 256 = R := by omega
theorem st_16 {a R : Nat} (h : a < 65536) : (a + 65536 * R) / 65536 = R := by omega
theorem st_32 {a R : Nat} (h : a < 4294967296) : (a + 4294967296 * R) / 4294967296 = R := by omega
theorem sum_4 {c0 c1 c2 c3 y y4 y5 : Nat} (g0 : c0 ≤ 8) (g1 : c1 ≤ 8) (g2 : c2 ≤ 8) (g3 : c3 ≤ 8) (h3 : y = c0 + 256 * (c1 + 256 * (c2 + 256 * c3))) (h4 : y4 = y + y / 256) (h5 : y5 = y4 + y4 / 65536) : y + y / 256 < 4294967296 ∧ y4 + y4 / 65536 < 4294967296 ∧ y5 % 64 = c0 + (c1 + (c2 + (c3 + 0))) := by
  have e1 : y / 256 = c1 + 256 * (c2 + 256 * c3) := by rw [h3]; exact st_8 (by omega)
  have e4 : y4 = (c0 + c1 + 256 * (c1 + c2)) + 65536 * (c2 + c3 + 256 * c3) := by rw [h4, e1, h3]; omega
  have e2 : y4 / 65536 = c2 + c3 + 256 * c3 := by rw [e4]; exact st_16 (by omega)
  have e5 : y5 = (c0 + c1 + (c2 + c3)) + 64 * (4 * (c1 + c2) + 1024 * (c2 + c3 + 256 * c3) + 4 * c3) := by rw [h5, e2, e4]; omega
  refine ⟨by rw [e1, h3]; omega, by rw [e2, e4]; omega, ?_⟩
  rw [e5, Nat.add_mul_mod_self_left, Nat.mod_eq_of_lt (by omega)]
  omega
theorem sum_8 {c0 c1 c2 c3 c4 c5 c6 c7 y y4 y5 y6 : Nat} (g0 : c0 ≤ 8) (g1 : c1 ≤ 8) (g2 : c2 ≤ 8) (g3 : c3 ≤ 8) (g4 : c4 ≤ 8) (g5 : c5 ≤ 8) (g6 : c6 ≤ 8) (g7 : c7 ≤ 8) (h3 : y = c0 + 256 * (c1 + 256 * (c2 + 256 * (c3 + 256 * (c4 + 256 * (c5 + 256 * (c6 + 256 * c7))))))) (h4 : y4 = y + y / 256) (h5 : y5 = y4 + y4 / 65536) (h6 : y6 = y5 + y5 / 4294967296) : y + y / 256 < 18446744073709551616 ∧ y4 + y4 / 65536 < 18446744073709551616 ∧ y5 + y5 / 4294967296 < 18446744073709551616 ∧ y6 % 128 = c0 + (c1 + (c2 + (c3 + (c4 + (c5 + (c6 + (c7 + 0))))))) := by
  have e1 : y / 256 = c1 + 256 * (c2 + 256 * (c3 + 256 * (c4 + 256 * (c5 + 256 * (c6 + 256 * c7))))) := by rw [h3]; exact st_8 (Nat.lt_of_le_of_lt g0 (by decide))
  have e4 : y4 = (c0 + c1 + 256 * (c1 + c2)) + 65536 * (c2 + c3 + 256 * (c3 + c4) + 65536 * (c4 + c5 + 256 * (c5 + c6) + 65536 * (c6 + c7 + 256 * c7))) := by
    rw [h4, e1, h3]
    clear h3 h4 h5 h6 e1 g0 g1 g2 g3 g4 g5 g6 g7
    omega
  have e2 : y4 / 65536 = c2 + c3 + 256 * (c3 + c4) + 65536 * (c4 + c5 + 256 * (c5 + c6) + 65536 * (c6 + c7 + 256 * c7)) := by
    rw [e4]
    refine st_16 ?_
    clear h3 h4 h5 h6 e1 e4
    omega
  have e5 : y5 = (c0 + c1 + c2 + c3 + 256 * (c1 + c2 + c3 + c4) + 65536 * (c2 + c3 + c4 + c5) + 16777216 * (c3 + c4 + c5 + c6)) + 4294967296 * (c4 + c5 + c6 + c7 + 256 * (c5 + c6 + c7) + 65536 * (c6 + c7) + 16777216 * c7) := by
    rw [h5, e2, e4]
    clear h3 h4 h5 h6 e1 e4 e2 g0 g1 g2 g3 g4 g5 g6 g7
    omega
  have e3 : y5 / 4294967296 = c4 + c5 + c6 + c7 + 256 * (c5 + c6 + c7) + 65536 * (c6 + c7) + 16777216 * c7 := by
    rw [e5]
    refine st_32 ?_
    clear h3 h4 h5 h6 e1 e4 e2 e5
    omega
  have e6 : y6 = (c0 + c1 + c2 + c3 + (c4 + c5 + c6 + c7)) + 128 * (2 * (c1 + c2 + c3 + c4) + 512 * (c2 + c3 + c4 + c5) + 131072 * (c3 + c4 + c5 + c6) + 33554432 * (c4 + c5 + c6 + c7 + 256 * (c5 + c6 + c7) + 65536 * (c6 + c7) + 16777216 * c7) + 2 * (c5 + c6 + c7) + 512 * (c6 + c7) + 131072 * c7) := by
    rw [h6, e3, e5]
    clear h3 h4 h5 h6 e1 e4 e2 e5 e3 g0 g1 g2 g3 g4 g5 g6 g7
    omega
  refine ⟨?_, ?_, ?_, ?_⟩
  · rw [e1, h3]
    clear h3 h4 h5 h6 e1 e4 e2 e5 e3 e6
    omega
  · rw [e2, e4]
    clear h3 h4 h5 h6 e1 e4 e2 e5 e3 e6
    omega
  · rw [e3, e5]
    clear h3 h4 h5 h6 e1 e4 e2 e5 e3 e6
    omega
  · have hlt : c0 + c1 + c2 + c3 + (c4 + c5 + c6 + c7) < 128 := by
      clear h3 h4 h5 h6 e1 e4 e2 e5 e3 e6
      omega
    rw [e6, Nat.add_mul_mod_self_left, Nat.mod_eq_of_lt hlt]
    clear h3 h4 h5 h6 e1 e4 e2 e5 e3 e6 g0 g1 g2 g3 g4 g5 g6 g7 hlt
    omega
def q8_ (x k : Nat) : Nat := x / 256 ^ k % 256
theorem q8_s (x k : Nat) : q8_ (x / 256) k = q8_ x (k + 1) := by
  unfold q8_
  rw [Nat.div_div_eq_div_mul, Nat.pow_succ, Nat.mul_comm]
theorem q8_0 (x : Nat) : x % 256 = q8_ x 0 := by
  unfold q8_
  rw [Nat.pow_zero, Nat.div_one]
theorem pcF_8q (k s : Nat) : pcF (8 + k) s = pcF 8 (q8_ s 0) + pcF k (s / 256) := by rw [pcF_8, q8_0]
theorem pcF_64 (s : Nat) : pcF 64 s = pcF 8 (q8_ s 0) + (pcF 8 (q8_ s 1) + (pcF 8 (q8_ s 2) + (pcF 8 (q8_ s 3) + (pcF 8 (q8_ s 4) + (pcF 8 (q8_ s 5) + (pcF 8 (q8_ s 6) + (pcF 8 (q8_ s 7) + 0))))))) := by
  rw [show (64 : Nat) = 8 + (8 + (8 + (8 + (8 + (8 + (8 + (8 + 0))))))) from rfl, pcF_8q, pcF_8q, pcF_8q, pcF_8q, pcF_8q, pcF_8q, pcF_8q, pcF_8q]
  simp only [q8_s, Nat.reduceAdd]
  rfl
theorem pb_s {k x : Nat} (h : x < 256 ^ (k + 1)) : pb_ (k + 1) x = pcF 8 (q8_ x 0) + 256 * pb_ k (x / 256) := by
  rw [pb_split k x h, q8_0, Nat.add_comm]
theorem pb_lt {k x : Nat} (h : x < 256 ^ (k + 1)) : x / 256 < 256 ^ k := by
  rw [Nat.pow_succ] at h
  exact Nat.div_lt_of_lt_mul (by rw [Nat.mul_comm]; exact h)
/-! Integer.bitCount -/
def bc1_ (x : Int32) : Int32 := x - (us_ x 1 &&& 1431655765)
def bc2_ (x : Int32) : Int32 := (x &&& 858993459) + (us_ x 2 &&& 858993459)
def bc3_ (x : Int32) : Int32 := (x + us_ x 4) &&& 252645135
def bc4_ (x : Int32) : Int32 := x + us_ x 8
def bc5_ (x : Int32) : Int32 := x + us_ x 16
def bc_ (x : Int32) : Int32 := bc5_ (bc4_ (bc3_ (bc2_ (bc1_ x)))) &&& 63
theorem m55_4 : m55 4 = uI_ 1431655765 := by decide +kernel
theorem m33_4 : m33 4 = uI_ 858993459 := by decide +kernel
theorem m0f_4 : m0f 4 = uI_ 252645135 := by decide +kernel
theorem bc1_u (x : Int32) : uI_ (bc1_ x) = p1_ (m55 4) (uI_ x) := by
  have e : uI_ (us_ x 1 &&& 1431655765) = (uI_ x / 2) &&& m55 4 := by
    rw [uI_and, uI_shr x 1 1 (by decide +kernel), m55_4]
  have h : (uI_ x / 2) &&& m55 4 ≤ uI_ x / 2 := Nat.and_le_left
  unfold bc1_ p1_
  rw [uI_sub (by rw [e]; omega), e]
theorem p2_lt4 (x : Nat) : p2_ (m33 4) x < 4294967296 := by
  have h1 : x &&& m33 4 ≤ m33 4 := Nat.and_le_right
  have h2 : (x / 4) &&& m33 4 ≤ m33 4 := Nat.and_le_right
  have h3 : m33 4 < 2147483648 := by decide +kernel
  unfold p2_
  omega
theorem bc2_u (x : Int32) : uI_ (bc2_ x) = p2_ (m33 4) (uI_ x) := by
  have e1 : uI_ (x &&& 858993459) = uI_ x &&& m33 4 := by rw [uI_and, m33_4]
  have e2 : uI_ (us_ x 2 &&& 858993459) = (uI_ x / 4) &&& m33 4 := by rw [uI_and, uI_shr x 2 2 (by decide +kernel), m33_4]
  have h := p2_lt4 (uI_ x)
  unfold bc2_
  rw [uI_add, e1, e2]
  exact Nat.mod_eq_of_lt h
theorem p2_top4 (x : Nat) : p2_ (m33 4) x ≤ 1717986918 := by
  have h1 : x &&& m33 4 ≤ m33 4 := Nat.and_le_right
  have h2 : (x / 4) &&& m33 4 ≤ m33 4 := Nat.and_le_right
  have h3 : m33 4 = 858993459 := by decide +kernel
  unfold p2_
  omega
theorem bc3_u (x : Int32) (h : uI_ x ≤ 1717986918) : uI_ (bc3_ x) = p3_ (m0f 4) (uI_ x) := by
  unfold bc3_ p3_
  rw [uI_and, uI_add, uI_shr x 4 4 (by decide +kernel), m0f_4]
  rw [Nat.mod_eq_of_lt (by omega)]
theorem pcF_32 (s : Nat) : pcF 32 s = pcF 8 (q8_ s 0) + (pcF 8 (q8_ s 1) + (pcF 8 (q8_ s 2) + (pcF 8 (q8_ s 3) + 0))) := by
  rw [show (32 : Nat) = 8 + (8 + (8 + (8 + 0))) from rfl, pcF_8q, pcF_8q, pcF_8q, pcF_8q]
  simp only [q8_s, Nat.reduceAdd]
  rfl
theorem pb_4 (x : Nat) (h : x < 4294967296) : pb_ 4 x = pcF 8 (q8_ x 0) + 256 * (pcF 8 (q8_ x 1) + 256 * (pcF 8 (q8_ x 2) + 256 * pcF 8 (q8_ x 3))) := by
  have h4 : x < 256 ^ (3 + 1) := by
    rw [show (256 : Nat) ^ (3 + 1) = 4294967296 by decide +kernel]
    exact h
  have h3 := pb_lt h4
  have h2 := pb_lt (k := 2) h3
  have h1 := pb_lt (k := 1) h2
  have h0 := pb_lt (k := 0) h1
  have e : pb_ 0 (x / 256 / 256 / 256 / 256) = 0 := by
    rw [Nat.pow_zero] at h0
    rw [show x / 256 / 256 / 256 / 256 = 0 from Nat.lt_one_iff.mp h0]
    decide
  rw [pb_s h4, pb_s (k := 2) h3, pb_s (k := 1) h2, pb_s (k := 0) h1, e]
  simp only [q8_s, Nat.reduceAdd, Nat.mul_zero, Nat.add_zero]
theorem bc_u (x : Int32) : bc_ x = nI (pcF 32 (uI_ x)) := by
  have hx := uI_lt x
  have h3 : uI_ (bc3_ (bc2_ (bc1_ x))) = pb_ 4 (uI_ x) := by
    rw [bc3_u _ (by rw [bc2_u]; exact p2_top4 _), bc2_u, bc1_u]
    rfl
  rw [pb_4 _ hx] at h3
  have hp := pcF_32 (uI_ x)
  have g0 := pcF_le 8 (q8_ (uI_ x) 0)
  have g1 := pcF_le 8 (q8_ (uI_ x) 1)
  have g2 := pcF_le 8 (q8_ (uI_ x) 2)
  have g3 := pcF_le 8 (q8_ (uI_ x) 3)
  generalize pcF 8 (q8_ (uI_ x) 0) = c0 at *
  generalize pcF 8 (q8_ (uI_ x) 1) = c1 at *
  generalize pcF 8 (q8_ (uI_ x) 2) = c2 at *
  generalize pcF 8 (q8_ (uI_ x) 3) = c3 at *
  have hy : bc_ x = bc5_ (bc4_ (bc3_ (bc2_ (bc1_ x)))) &&& 63 := rfl
  rw [hy]
  generalize bc3_ (bc2_ (bc1_ x)) = y at *
  obtain ⟨k1, k2, k3⟩ := sum_4 g0 g1 g2 g3 h3 rfl rfl
  have h4 : uI_ (bc4_ y) = uI_ y + uI_ y / 256 := by
    unfold bc4_
    rw [uI_add, uI_shr y 8 8 (by decide +kernel)]
    exact Nat.mod_eq_of_lt k1
  have h5 : uI_ (bc5_ (bc4_ y)) = uI_ (bc4_ y) + uI_ (bc4_ y) / 65536 := by
    unfold bc5_
    rw [uI_add, uI_shr (bc4_ y) 16 16 (by decide +kernel)]
    rw [h4]
    exact Nat.mod_eq_of_lt k2
  apply uI_inj
  rw [uI_nI (by omega), uI_and, show uI_ 63 = 2 ^ 6 - 1 by decide +kernel, Nat.and_two_pow_sub_one_eq_mod, h5, h4, hp]
  exact k3
/-! Long.bitCount -/
def lc1_ (x : Int64) : Int64 := x - (uls_ x 1 &&& 6148914691236517205)
def lc2_ (x : Int64) : Int64 := (x &&& 3689348814741910323) + (uls_ x 2 &&& 3689348814741910323)
def lc3_ (x : Int64) : Int64 := (x + uls_ x 4) &&& 1085102592571150095
def lc4_ (x : Int64) : Int64 := x + uls_ x 8
def lc5_ (x : Int64) : Int64 := x + uls_ x 16
def lc6_ (x : Int64) : Int64 := x + uls_ x 32
def lc_ (x : Int64) : Int32 := (lc6_ (lc5_ (lc4_ (lc3_ (lc2_ (lc1_ x)))))).toInt32 &&& 127
theorem m55_8 : m55 8 = uL_ 6148914691236517205 := by decide +kernel
theorem m33_8 : m33 8 = uL_ 3689348814741910323 := by decide +kernel
theorem m0f_8 : m0f 8 = uL_ 1085102592571150095 := by decide +kernel
theorem lc1_u (x : Int64) : uL_ (lc1_ x) = p1_ (m55 8) (uL_ x) := by
  have e : uL_ (uls_ x 1 &&& 6148914691236517205) = (uL_ x / 2) &&& m55 8 := by
    rw [uL_and, uL_shr x 1 1 (by decide +kernel), m55_8]
  have h : (uL_ x / 2) &&& m55 8 ≤ uL_ x / 2 := Nat.and_le_left
  unfold lc1_ p1_
  rw [uL_sub (by rw [e]; omega), e]
theorem p2_top8 (x : Nat) : p2_ (m33 8) x ≤ 7378697629483820646 := by
  have h1 : x &&& m33 8 ≤ m33 8 := Nat.and_le_right
  have h2 : (x / 4) &&& m33 8 ≤ m33 8 := Nat.and_le_right
  have h3 : m33 8 = 3689348814741910323 := by decide +kernel
  unfold p2_
  omega
theorem lc2_u (x : Int64) : uL_ (lc2_ x) = p2_ (m33 8) (uL_ x) := by
  have e1 : uL_ (x &&& 3689348814741910323) = uL_ x &&& m33 8 := by rw [uL_and, m33_8]
  have e2 : uL_ (uls_ x 2 &&& 3689348814741910323) = (uL_ x / 4) &&& m33 8 := by rw [uL_and, uL_shr x 2 2 (by decide +kernel), m33_8]
  have h := p2_top8 (uL_ x)
  unfold lc2_
  rw [uL_add, e1, e2]
  exact Nat.mod_eq_of_lt (show p2_ (m33 8) (uL_ x) < _ by omega)
theorem lc3_u (x : Int64) (h : uL_ x ≤ 7378697629483820646) : uL_ (lc3_ x) = p3_ (m0f 8) (uL_ x) := by
  unfold lc3_ p3_
  rw [uL_and, uL_add, uL_shr x 4 4 (by decide +kernel), m0f_8]
  rw [Nat.mod_eq_of_lt (by omega)]
theorem pb_8 (x : Nat) (h : x < 18446744073709551616) : pb_ 8 x = pcF 8 (q8_ x 0) + 256 * (pcF 8 (q8_ x 1) + 256 * (pcF 8 (q8_ x 2) + 256 * (pcF 8 (q8_ x 3) + 256 * (pcF 8 (q8_ x 4) + 256 * (pcF 8 (q8_ x 5) + 256 * (pcF 8 (q8_ x 6) + 256 * pcF 8 (q8_ x 7))))))) := by
  have h8 : x < 256 ^ (7 + 1) := by
    rw [show (256 : Nat) ^ (7 + 1) = 18446744073709551616 by decide +kernel]
    exact h
  have h7 := pb_lt h8
  have h6 := pb_lt (k := 6) h7
  have h5 := pb_lt (k := 5) h6
  have h4 := pb_lt (k := 4) h5
  have h3 := pb_lt (k := 3) h4
  have h2 := pb_lt (k := 2) h3
  have h1 := pb_lt (k := 1) h2
  have h0 := pb_lt (k := 0) h1
  have e : pb_ 0 (x / 256 / 256 / 256 / 256 / 256 / 256 / 256 / 256) = 0 := by
    rw [Nat.pow_zero] at h0
    rw [show x / 256 / 256 / 256 / 256 / 256 / 256 / 256 / 256 = 0 from Nat.lt_one_iff.mp h0]
    decide
  rw [pb_s h8, pb_s (k := 6) h7, pb_s (k := 5) h6, pb_s (k := 4) h5, pb_s (k := 3) h4, pb_s (k := 2) h3, pb_s (k := 1) h2, pb_s (k := 0) h1, e]
  simp only [q8_s, Nat.reduceAdd, Nat.mul_zero, Nat.add_zero]
theorem lN_i32 {x : Int64} (h : uL_ x < 4294967296) : x.toInt32 = nI (uL_ x) := by
  have e : x = lN (uL_ x) := uL_inj (by rw [uL_lN (uL_lt x)])
  conv => lhs; rw [e]
  rw [lN_i]
theorem lc_u (x : Int64) : lc_ x = nI (pcF 64 (uL_ x)) := by
  have hx := uL_lt x
  have h3 : uL_ (lc3_ (lc2_ (lc1_ x))) = pb_ 8 (uL_ x) := by
    rw [lc3_u _ (by rw [lc2_u]; exact p2_top8 _), lc2_u, lc1_u]
    rfl
  rw [pb_8 _ hx] at h3
  have hp := pcF_64 (uL_ x)
  have g0 := pcF_le 8 (q8_ (uL_ x) 0)
  have g1 := pcF_le 8 (q8_ (uL_ x) 1)
  have g2 := pcF_le 8 (q8_ (uL_ x) 2)
  have g3 := pcF_le 8 (q8_ (uL_ x) 3)
  have g4 := pcF_le 8 (q8_ (uL_ x) 4)
  have g5 := pcF_le 8 (q8_ (uL_ x) 5)
  have g6 := pcF_le 8 (q8_ (uL_ x) 6)
  have g7 := pcF_le 8 (q8_ (uL_ x) 7)
  generalize pcF 8 (q8_ (uL_ x) 0) = c0 at *
  generalize pcF 8 (q8_ (uL_ x) 1) = c1 at *
  generalize pcF 8 (q8_ (uL_ x) 2) = c2 at *
  generalize pcF 8 (q8_ (uL_ x) 3) = c3 at *
  generalize pcF 8 (q8_ (uL_ x) 4) = c4 at *
  generalize pcF 8 (q8_ (uL_ x) 5) = c5 at *
  generalize pcF 8 (q8_ (uL_ x) 6) = c6 at *
  generalize pcF 8 (q8_ (uL_ x) 7) = c7 at *
  have hy : lc_ x = (lc6_ (lc5_ (lc4_ (lc3_ (lc2_ (lc1_ x)))))).toInt32 &&& 127 := rfl
  rw [hy]
  generalize lc3_ (lc2_ (lc1_ x)) = y at *
  obtain ⟨k1, k2, k3, k4⟩ := sum_8 g0 g1 g2 g3 g4 g5 g6 g7 h3 rfl rfl rfl
  have h4 : uL_ (lc4_ y) = uL_ y + uL_ y / 256 := by
    unfold lc4_
    rw [uL_add, uL_shr y 8 8 (by decide +kernel)]
    exact Nat.mod_eq_of_lt k1
  have h5 : uL_ (lc5_ (lc4_ y)) = uL_ (lc4_ y) + uL_ (lc4_ y) / 65536 := by
    unfold lc5_
    rw [uL_add, uL_shr (lc4_ y) 16 16 (by decide +kernel), h4]
    exact Nat.mod_eq_of_lt k2
  have h6 : uL_ (lc6_ (lc5_ (lc4_ y))) = uL_ (lc5_ (lc4_ y)) + uL_ (lc5_ (lc4_ y)) / 4294967296 := by
    unfold lc6_
    rw [uL_add, uL_shr (lc5_ (lc4_ y)) 32 32 (by decide +kernel), h5, h4]
    exact Nat.mod_eq_of_lt k3
  rw [← h4, ← h5, ← h6, ← hp] at k4
  have hle := pcF_le 64 (uL_ x)
  generalize pcF 64 (uL_ x) = w at *
  have e7 : lc6_ (lc5_ (lc4_ y)) = lN (uL_ (lc6_ (lc5_ (lc4_ y)))) := uL_inj (by rw [uL_lN (uL_lt _)])
  rw [e7, lN_i]
  clear h6 h5 h4 e7 k1 k2 k3
  generalize uL_ (lc6_ (lc5_ (lc4_ y))) = z at *
  apply uI_inj
  rw [uI_and, show uI_ 127 = 2 ^ 7 - 1 by decide +kernel, Nat.and_two_pow_sub_one_eq_mod, uI_nIm z, uI_nI (n := w) (Nat.lt_of_le_of_lt hle (by decide))]
  show z % 4294967296 % 128 = _
  rw [show (4294967296 : Nat) = 128 * 33554432 from rfl, Nat.mod_mul_right_mod]
  exact k4
end
section
/-! ===== the lowest bit of a number, and the number without it ===== -/
theorem low_dec {n p : Nat} (hp : n.testBit p = true) (hl : ∀ i, i < p → n.testBit i = false) (i : Nat) : (n - 1).testBit i = (decide (i < p) || (decide (p < i) && n.testBit i)) := by
  have hm : n % 2 ^ p = 0 := by
    apply Nat.eq_of_testBit_eq
    intro j
    rw [Nat.testBit_mod_two_pow, Nat.zero_testBit]
    by_cases h : j < p
    · rw [hl j h]; simp
    · simp [h]
  have hq : n / 2 ^ p % 2 = 1 := by
    rw [Nat.testBit_eq_decide_div_mod_eq] at hp
    exact of_decide_eq_true hp
  have hd := Nat.div_add_mod n (2 ^ p)
  generalize hk : n / 2 ^ p = k at *
  have hpos : 0 < 2 ^ p := Nat.two_pow_pos p
  have hk2 : k = (k - 1) + 1 := by omega
  have e : n - 1 = 2 ^ p * (k - 1) + (2 ^ p - 1) := by
    have e2 : 2 ^ p * k = 2 ^ p * (k - 1) + 2 ^ p := by
      conv => lhs; rw [hk2]
      rw [Nat.mul_add, Nat.mul_one]
    omega
  have e3 : n = 2 ^ p * k + 0 := by omega
  rw [e, Nat.testBit_two_pow_mul_add (k - 1) (by omega) i]
  by_cases h1 : i < p
  · rw [if_pos h1, Nat.testBit_two_pow_sub_one]
    simp [h1]
  · rw [if_neg h1]
    by_cases h2 : i = p
    · subst h2
      rw [Nat.sub_self, Nat.testBit_zero]
      have : ¬ (k - 1) % 2 = 1 := by omega
      simp [this]
    · have h3 : p < i := by omega
      conv => rhs; rw [e3]
      rw [Nat.testBit_two_pow_mul_add k hpos i, if_neg h1]
      have h4 : i - p = (i - p - 1) + 1 := by omega
      rw [h4, Nat.testBit_succ, Nat.testBit_succ]
      have h5 : (k - 1) / 2 = k / 2 := by omega
      rw [h5]
      simp [h1, h3]
theorem uL_1 : uL_ 1 = 1 := by decide +kernel
theorem uI_1 : uI_ 1 = 1 := by decide +kernel
theorem tb_pos {n p : Nat} (hp : n.testBit p = true) : 1 ≤ n := by
  rcases Nat.eq_zero_or_pos n with h | h
  · subst h
    rw [Nat.zero_testBit] at hp
    cases hp
  · exact h
theorem l_dec {x : Int64} {p : Nat} (hp : bl x p = true) (hl : ∀ i, i < p → bl x i = false) (i : Nat) : bl (x - 1) i = (decide (i < p) || (decide (p < i) && bl x i)) := by
  rw [uL_bl, uL_sub (by rw [uL_1]; exact tb_pos hp), uL_1]
  exact low_dec hp hl i
theorem b_dec {x : Int32} {p : Nat} (hp : bt x p = true) (hl : ∀ i, i < p → bt x i = false) (i : Nat) : bt (x - 1) i = (decide (i < p) || (decide (p < i) && bt x i)) := by
  rw [uI_bt, uI_sub (by rw [uI_1]; exact tb_pos hp), uI_1]
  exact low_dec hp hl i
theorem l_neg {x : Int64} (hx : 1 ≤ uL_ x) {i : Nat} (hi : i < 64) : bl (-x) i = !bl (x - 1) i := by
  rw [uL_bl, uL_bl, uL_sub (by rw [uL_1]; exact hx), uL_1]
  have hlt := uL_lt x
  have e : uL_ (-x) = 2 ^ 64 - ((uL_ x - 1) + 1) := by
    unfold uL_ at *
    rw [Int64.toBitVec_neg, BitVec.toNat_neg]
    omega
  rw [e, Nat.testBit_two_pow_sub_succ (by omega) i]
  simp [hi]
theorem l_low {x : Int64} {p : Nat} (hp64 : p < 64) (hp : bl x p = true) (hl : ∀ i, i < p → bl x i = false) : x &&& (-x) = lN (2 ^ p) := by
  apply l_ext
  intro i hi
  rw [l_and, l_neg (tb_pos hp) hi, l_dec hp hl i]
  have hlt : 2 ^ p < 18446744073709551616 := Nat.pow_lt_pow_right (by omega) hp64
  rw [uL_bl (lN (2 ^ p)), uL_lN hlt, Nat.testBit_two_pow]
  by_cases h1 : i < p
  · rw [hl i h1]
    have : ¬ p = i := by omega
    simp [this]
  · by_cases h2 : p = i
    · subst h2
      rw [hp]
      simp
    · have h3 : p < i := by omega
      simp [h1, h2, h3]
theorem lc_low : ∀ p, p < 64 → lc_ (lN (2 ^ p) - 1) = nI p := by decide +kernel
theorem low_on {x : Int64} {p : Nat} {t : List Nat} (h : on_ (bl x) 0 64 = p :: t) : p < 64 ∧ bl x p = true ∧ lc_ ((x &&& (-x)) - 1) = nI p ∧ on_ (bl (x &&& (x - 1))) 0 64 = t := by
  have hm : p ∈ on_ (bl x) 0 64 := by rw [h]; exact List.mem_cons_self
  obtain ⟨-, h1, h2⟩ := (on_mem 64 0).mp hm
  obtain ⟨q, hq, hq2⟩ := pk_least (fun i => bl x i = true) ⟨p, h2⟩
  have hq3 : ∀ i, i < q → bl x i = false := fun i hi => by
    cases hb : bl x i
    · rfl
    · exact absurd hb (hq2 i hi)
  have hq4 : q < 64 := by
    refine Classical.byContradiction fun z => ?_
    rw [l_big (by omega)] at hq
    cases hq
  have hf := on_first (f := bl x) (g := bl (x &&& (x - 1))) (p := q) 64 0 (Nat.zero_le _) (by omega) hq (fun j _ hj => hq3 j hj) (fun j _ hj => by
    rw [l_and, l_dec hq hq3 j]
    by_cases a : j < q
    · have : j ≠ q := by omega
      rw [hq3 j a]; simp
    · by_cases b : j = q
      · subst b; simp
      · have c : q < j := by omega
        cases bl x j <;> simp [a, b, c])
  rw [h] at hf
  injection hf with e1 e2
  subst e1
  refine ⟨by omega, h2, ?_, e2.symm⟩
  rw [l_low (by omega) hq hq3, lc_low p (by omega)]
theorem i2l_bits {x : Int32} (hx : uI_ x < 2147483648) : x.toInt64 = lN (uI_ x) := by
  have e : x = nI (uI_ x) := uI_inj (by rw [uI_nI (uI_lt x)])
  conv => lhs; rw [e]
  exact nI_l hx
theorem low_onI {x : Int32} {p : Nat} {t : List Nat} (hx : uI_ x < 2147483648) (h : on_ (bt x) 0 32 = p :: t) : p < 32 ∧ bt x p = true ∧ lc_ ((x.toInt64 &&& (-x.toInt64)) - 1) = nI p ∧ on_ (bt (x &&& (x - 1))) 0 32 = t ∧ uI_ (x &&& (x - 1)) < 2147483648 := by
  have hm : p ∈ on_ (bt x) 0 32 := by rw [h]; exact List.mem_cons_self
  obtain ⟨-, h1, h2⟩ := (on_mem 32 0).mp hm
  obtain ⟨q, hq, hq2⟩ := pk_least (fun i => bt x i = true) ⟨p, h2⟩
  have hq3 : ∀ i, i < q → bt x i = false := fun i hi => by
    cases hb : bt x i
    · rfl
    · exact absurd hb (hq2 i hi)
  have hq4 : q < 32 := by
    refine Classical.byContradiction fun z => ?_
    rw [b_big (by omega)] at hq
    cases hq
  have hf := on_first (f := bt x) (g := bt (x &&& (x - 1))) (p := q) 32 0 (Nat.zero_le _) (by omega) hq (fun j _ hj => hq3 j hj) (fun j _ hj => by
    rw [b_and, b_dec hq hq3 j]
    by_cases a : j < q
    · have : j ≠ q := by omega
      rw [hq3 j a]; simp
    · by_cases b : j = q
      · subst b; simp
      · have c : q < j := by omega
        cases bt x j <;> simp [a, b, c])
  rw [h] at hf
  injection hf with e1 e2
  subst e1
  refine ⟨by omega, h2, ?_, e2.symm, ?_⟩
  · rw [i2l_bits hx]
    have hb : ∀ i, bl (lN (uI_ x)) i = bt x i := fun i => by rw [uL_bl, uL_lN (by omega), uI_bt]
    rw [l_low (p := p) (by omega) (by rw [hb]; exact hq) (fun i hi => by rw [hb]; exact hq3 i hi), lc_low p (by omega)]
  · rw [uI_and]
    exact Nat.lt_of_le_of_lt Nat.and_le_left hx
end
section
/-! ===== what follows, as masks ===== -/
/-- one step: the first a axioms have been looked at -/
def cs_ (B Hd : Nat → Int32) (set facts : Int32) : Nat → Int32
  | 0 => facts
  | a + 1 => if bt set a = true ∧ B a &&& (facts ^^^ (-1)) = 0 then cs_ B Hd set facts a ||| ((1 : Int32) <<< (Hd a &&& 31)) else cs_ B Hd set facts a
/-- k steps of n axioms -/
def cf_ (n : Nat) (B Hd : Nat → Int32) (set : Int32) : Nat → Int32
  | 0 => 0
  | k + 1 => cs_ B Hd set (cf_ n B Hd set k) n
/-- n axioms are as they may be -/
def ax_ok (n : Nat) (B Hd : Nat → Int32) : Prop := n ≤ 14 ∧ ∀ a, a < n → uI_ (B a) < 16777216 ∧ uI_ (Hd a) < 24
abbrev bd_ (B : Nat → Int32) (a g : Nat) : Prop := bt (B a) g = true
abbrev hd_ (Hd : Nat → Int32) (a : Nat) : Nat := uI_ (Hd a)
theorem nI_uI (x : Int32) : nI (uI_ x) = x := uI_inj (by rw [uI_nI (uI_lt x)])
theorem cs_bit {n : Nat} {B Hd : Nat → Int32} (hok : ∀ a, a < n → uI_ (Hd a) < 24) (set facts : Int32) : ∀ k, k ≤ n → ∀ f, f < 32 → (bt (cs_ B Hd set facts k) f = true ↔ bt facts f = true ∨ ∃ a, a < k ∧ bt set a = true ∧ hd_ Hd a = f ∧ ∀ g, bd_ B a g → bt facts g = true) := by
  intro k
  induction k with
  | zero =>
    intro _ f _
    constructor
    · intro h; exact Or.inl h
    · rintro (h | ⟨a, ha, -⟩)
      · exact h
      · omega
  | succ k ih =>
    intro hk f hf
    have ih := ih (by omega) f hf
    have hh := hok k (by omega)
    have e1 : ((1 : Int32) <<< (Hd k &&& 31)) = ((1 : Int32) <<< (nI (uI_ (Hd k)) &&& 31)) := by rw [nI_uI]
    have hsub : B k &&& (facts ^^^ (-1)) = 0 ↔ ∀ g, bd_ B k g → bt facts g = true := by
      rw [b_sub0]
      constructor
      · intro h g hg
        refine h g (Classical.byContradiction fun z => ?_) hg
        unfold bd_ at hg
        rw [b_big (by omega)] at hg
        cases hg
      · intro h i _ hi
        exact h i hi
    show bt (if bt set k = true ∧ B k &&& (facts ^^^ (-1)) = 0 then cs_ B Hd set facts k ||| ((1 : Int32) <<< (Hd k &&& 31)) else cs_ B Hd set facts k) f = true ↔ _
    by_cases hc : bt set k = true ∧ B k &&& (facts ^^^ (-1)) = 0
    · rw [if_pos hc, b_or, e1, b_1shl (by omega) hf, Bool.or_eq_true, ih, decide_eq_true_eq]
      constructor
      · rintro ((h | ⟨a, ha, h⟩) | h)
        · exact Or.inl h
        · exact Or.inr ⟨a, by omega, h⟩
        · exact Or.inr ⟨k, by omega, hc.1, h.symm, hsub.mp hc.2⟩
      · rintro (h | ⟨a, ha, h1, h2, h3⟩)
        · exact Or.inl (Or.inl h)
        · by_cases e : a = k
          · subst e
            exact Or.inr h2.symm
          · exact Or.inl (Or.inr ⟨a, by omega, h1, h2, h3⟩)
    · rw [if_neg hc, ih]
      constructor
      · rintro (h | ⟨a, ha, h⟩)
        · exact Or.inl h
        · exact Or.inr ⟨a, by omega, h⟩
      · rintro (h | ⟨a, ha, h1, h2, h3⟩)
        · exact Or.inl h
        · by_cases e : a = k
          · subst e
            exact absurd ⟨h1, hsub.mpr h3⟩ hc
          · exact Or.inr ⟨a, by omega, h1, h2, h3⟩
theorem dr_lt24 {n : Nat} {B Hd : Nat → Int32} (hok : ∀ a, a < n → uI_ (Hd a) < 24) {S : Nat → Prop} {k f : Nat} (h : dr_ n (bd_ B) (hd_ Hd) S k f) : f < 24 := by
  obtain ⟨b, hb, -, e⟩ := h
  rw [← e]
  exact hok b hb
theorem cf_dr {n : Nat} {B Hd : Nat → Int32} (hok : ∀ a, a < n → uI_ (Hd a) < 24) (set : Int32) : ∀ k f, bt (cf_ n B Hd set k) f = true ↔ dr_ n (bd_ B) (hd_ Hd) (fun a => bt set a = true) k f := by
  intro k
  induction k with
  | zero =>
    intro f
    constructor
    · intro h
      rw [show cf_ n B Hd set 0 = 0 from rfl, b_0] at h
      cases h
    · rintro ⟨b, -, he, -⟩
      exact he.elim
  | succ k ih =>
    intro f
    by_cases hf : f < 32
    · show bt (cs_ B Hd set (cf_ n B Hd set k) n) f = true ↔ _
      rw [cs_bit hok set (cf_ n B Hd set k) n (Nat.le_refl _) f hf, ih f, dr_step]
      constructor
      · rintro (h | ⟨a, ha, h1, h2, h3⟩)
        · exact (dr_step k f).mp (dr_mono k f h)
        · exact ⟨a, ha, h1, h2, fun g hg => (ih g).mp (h3 g hg)⟩
      · rintro ⟨a, ha, h1, h2, h3⟩
        exact Or.inr ⟨a, ha, h1, h2, fun g hg => (ih g).mpr (h3 g hg)⟩
    · constructor
      · intro h
        rw [b_big (by omega)] at h
        cases h
      · intro h
        have := dr_lt24 hok h
        omega
/-- the masks stand still from step n on -/
theorem cf_fix {n : Nat} {B Hd : Nat → Int32} (hok : ∀ a, a < n → uI_ (Hd a) < 24) (set : Int32) {k : Nat} (hk : n ≤ k) : cf_ n B Hd set k = cf_ n B Hd set n := by
  apply b_ext
  intro i _
  have h1 := cf_dr (B := B) hok set k i
  have h2 := cf_dr (B := B) hok set n i
  have h3 : dr_ n (bd_ B) (hd_ Hd) (fun a => bt set a = true) k i ↔ dr_ n (bd_ B) (hd_ Hd) (fun a => bt set a = true) n i := ⟨dr_all k i, dr_le hk⟩
  rw [Bool.eq_iff_iff, h1, h2, h3]
/-- where a step gives nothing new, that is all -/
theorem cf_last {n : Nat} {B Hd : Nat → Int32} (hok : ∀ a, a < n → uI_ (Hd a) < 24) (set : Int32) {k : Nat} (h : cf_ n B Hd set (k + 1) = cf_ n B Hd set k) : cf_ n B Hd set k = cf_ n B Hd set n := by
  apply b_ext
  intro i _
  have h1 := cf_dr (B := B) hok set k i
  have h2 := cf_dr (B := B) hok set n i
  have h3 : dr_ n (bd_ B) (hd_ Hd) (fun a => bt set a = true) k i ↔ dr_ n (bd_ B) (hd_ Hd) (fun a => bt set a = true) n i := by
    constructor
    · exact dr_all k i
    · refine dr_last (fun f hf => ?_) i
      rw [← cf_dr hok set k f, ← h, cf_dr hok set (k + 1) f]
      exact hf
  rw [Bool.eq_iff_iff, h1, h2, h3]
theorem cf_lt {n : Nat} {B Hd : Nat → Int32} (hok : ∀ a, a < n → uI_ (Hd a) < 24) (set : Int32) (k : Nat) : uI_ (cf_ n B Hd set k) < 16777216 := by
  refine Nat.lt_pow_two_of_testBit (n := 24) _ fun i hi => ?_
  cases hb : (uI_ (cf_ n B Hd set k)).testBit i
  · rfl
  · have := dr_lt24 hok ((cf_dr (B := B) hok set k i).mp hb)
    omega
/-- in which step the goal follows: r -/
def st_is (F : Nat → Int32) (g : Nat) (r : Int32) : Prop := (r = 0 ∧ ∀ k, bt (F k) g = false) ∨ ∃ k, 1 ≤ k ∧ k < 2147483648 ∧ r = nI k ∧ bt (F k) g = true ∧ ∀ j, j < k → bt (F j) g = false
theorem st_one {F : Nat → Int32} {g : Nat} {r r' : Int32} (h : st_is F g r) (h' : st_is F g r') : r = r' := by
  rcases h with ⟨h1, h2⟩ | ⟨k, -, -, h1, h2, h3⟩
  · rcases h' with ⟨g1, g2⟩ | ⟨k', -, -, g1, g2, g3⟩
    · rw [h1, g1]
    · rw [h2 k'] at g2; cases g2
  · rcases h' with ⟨g1, g2⟩ | ⟨k', -, -, g1, g2, g3⟩
    · rw [g2 k] at h2; cases h2
    · rcases Nat.lt_trichotomy k k' with q | q | q
      · rw [g3 k q] at h2; cases h2
      · rw [h1, g1, q]
      · rw [h3 k' q] at g2; cases g2
end
section
/-! ===== 64 sets at once: G f: those from which fact f is known to follow; U a: those that have axiom a ===== -/
abbrev dj_ (n : Nat) (B Hd : Nat → Int32) (U : Nat → Int64) (j k f : Nat) : Prop := dr_ n (bd_ B) (hd_ Hd) (fun a => bl (U a) j = true) k f
def g_snd (n : Nat) (B Hd : Nat → Int32) (U G : Nat → Int64) : Prop := ∀ j, j < 64 → ∀ f, bl (G f) j = true → dj_ n B Hd U j n f
def g_prg (n : Nat) (B Hd : Nat → Int32) (U G : Nat → Int64) (r : Nat) : Prop := ∀ j, j < 64 → ∀ f, dj_ n B Hd U j r f → bl (G f) j = true
def g_cls (B Hd : Nat → Int32) (U G : Nat → Int64) (a : Nat) : Prop := ∀ j, j < 64 → ∀ b, b < a → bl (U b) j = true → (∀ g, bd_ B b g → bl (G g) j = true) → bl (G (hd_ Hd b)) j = true
def g_in (n : Nat) (B Hd : Nat → Int32) (U : Nat → Int64) (r a : Nat) (G : Nat → Int64) (gr : Int32) : Prop :=
  g_snd n B Hd U G ∧ g_prg n B Hd U G r ∧ (∀ j, j < 64 → ∀ b, b < a → bl (U b) j = true → (∀ g, bd_ B b g → dj_ n B Hd U j r g) → bl (G (hd_ Hd b)) j = true) ∧ (gr = 0 → g_cls B Hd U G a)
/-- those of 'among' from which all facts of a mask follow -/
def ga_is (G : Nat → Int64) (facts : Int32) (among r : Int64) : Prop := ∀ j, j < 64 → (bl r j = true ↔ bl among j = true ∧ ∀ g, bt facts g = true → bl (G g) j = true)
theorem g_start {n : Nat} {B Hd : Nat → Int32} {U : Nat → Int64} : g_snd n B Hd U (fun _ => 0) ∧ g_prg n B Hd U (fun _ => 0) 0 := by
  refine ⟨fun j _ f h => ?_, fun j _ f h => ?_⟩
  · rw [l_0] at h; cases h
  · obtain ⟨b, -, he, -⟩ := h
    exact he.elim
theorem g_open {n : Nat} {B Hd : Nat → Int32} {U G : Nat → Int64} {r : Nat} (h1 : g_snd n B Hd U G) (h2 : g_prg n B Hd U G r) (gr : Int32) : g_in n B Hd U r 0 G gr :=
  ⟨h1, h2, fun _ _ b hb => absurd hb (Nat.not_lt_zero b), fun _ _ _ b hb => absurd hb (Nat.not_lt_zero b)⟩
theorem g_step {n : Nat} {B Hd : Nat → Int32} {U G : Nat → Int64} {r a : Nat} {gr gr' : Int32} {fresh : Int64} (ha : a < n) (h : g_in n B Hd U r a G gr) (hf : ga_is G (B a) (U a &&& (G (hd_ Hd a) ^^^ (-1))) fresh) (hg : gr' = 0 → gr = 0 ∧ fresh = 0) : g_in n B Hd U r (a + 1) (vp_updL G (hd_ Hd a) (G (hd_ Hd a) ||| fresh)) gr' := by
  obtain ⟨h1, h2, h3, h4⟩ := h
  have up : ∀ f j, bl (G f) j = true → bl (vp_updL G (hd_ Hd a) (G (hd_ Hd a) ||| fresh) f) j = true := by
    intro f j hb
    unfold vp_updL
    by_cases e : f = hd_ Hd a
    · rw [if_pos e, l_or, ← e, hb]; rfl
    · rw [if_neg e]; exact hb
  have fr : ∀ j, j < 64 → bl (U a) j = true → (∀ g, bd_ B a g → bl (G g) j = true) → bl (vp_updL G (hd_ Hd a) (G (hd_ Hd a) ||| fresh) (hd_ Hd a)) j = true := by
    intro j hj hu hb
    unfold vp_updL
    rw [if_pos rfl, l_or]
    cases hc : bl (G (hd_ Hd a)) j
    · have : bl fresh j = true := (hf j hj).mpr ⟨by rw [l_and, l_not _ hj, hu, hc]; rfl, hb⟩
      rw [this]; rfl
    · rfl
  refine ⟨fun j hj f hb => ?_, fun j hj f hd => up f j (h2 j hj f hd), fun j hj b hb hu hd => ?_, fun e0 => ?_⟩
  · unfold vp_updL at hb
    by_cases e : f = hd_ Hd a
    · rw [if_pos e, l_or, Bool.or_eq_true] at hb
      rcases hb with hb | hb
      · rw [e]; exact h1 j hj _ hb
      · obtain ⟨g1, g2⟩ := (hf j hj).mp hb
        rw [l_and, Bool.and_eq_true] at g1
        rw [e]
        exact dr_closed ha g1.1 (fun g hg => h1 j hj g (g2 g hg))
    · rw [if_neg e] at hb
      exact h1 j hj f hb
  · by_cases e : b = a
    · subst e
      exact fr j hj hu (fun g hg => h2 j hj g (hd g hg))
    · exact up _ j (h3 j hj b (by omega) hu hd)
  · obtain ⟨e1, e2⟩ := hg e0
    have same : ∀ f j, bl (vp_updL G (hd_ Hd a) (G (hd_ Hd a) ||| fresh) f) j = bl (G f) j := by
      intro f j
      unfold vp_updL
      by_cases e : f = hd_ Hd a
      · rw [if_pos e, l_or, e2, l_0, e]; simp
      · rw [if_neg e]
    intro j hj b hb hu hd
    by_cases e : b = a
    · subst e
      exact fr j hj hu (fun g hg => by rw [← same]; exact hd g hg)
    · rw [same]
      exact h4 e1 j hj b (by omega) hu (fun g hg => by rw [← same]; exact hd g hg)
theorem g_round {n : Nat} {B Hd : Nat → Int32} {U G : Nat → Int64} {r : Nat} {gr : Int32} (h : g_in n B Hd U r n G gr) : g_snd n B Hd U G ∧ g_prg n B Hd U G (r + 1) := by
  obtain ⟨h1, h2, h3, -⟩ := h
  refine ⟨h1, fun j hj f hd => ?_⟩
  obtain ⟨a, ha, hS, e, hb⟩ := (dr_step r f).mp hd
  rw [← e]
  exact h3 j hj a ha hS hb
/-- what is known at last -/
def g_all (n : Nat) (B Hd : Nat → Int32) (U G : Nat → Int64) : Prop := ∀ j, j < 64 → ∀ f, (bl (G f) j = true ↔ dj_ n B Hd U j n f)
theorem g_end0 {n : Nat} {B Hd : Nat → Int32} {U G : Nat → Int64} {r : Nat} (h : g_in n B Hd U r n G 0) : g_all n B Hd U G :=
  fun j hj f => ⟨h.1 j hj f, fun hd => dr_least (G := fun f => bl (G f) j = true) (fun a ha hS hb => h.2.2.2 rfl j hj a ha hS hb) n f hd⟩
theorem g_endn {n : Nat} {B Hd : Nat → Int32} {U G : Nat → Int64} (h1 : g_snd n B Hd U G) (h2 : g_prg n B Hd U G n) : g_all n B Hd U G :=
  fun j hj f => ⟨h1 j hj f, h2 j hj f⟩
end
section
/-! ===== set s is bit s % 64 of word s / 64 ===== -/
theorem tb_wj {w j : Nat} (hj : j < 64) (i : Nat) : (w * 64 + j).testBit i = if i < 6 then j.testBit i else w.testBit (i - 6) := by
  rw [show w * 64 + j = 2 ^ 6 * w + j by omega]
  exact Nat.testBit_two_pow_mul_add w (show j < 2 ^ 6 from hj) i
theorem flip_lo {w j a : Nat} (hj : j < 64) (ha : a < 6) : (w * 64 + j) ^^^ 2 ^ a = w * 64 + (j ^^^ 2 ^ a) := by
  have h2 : j ^^^ 2 ^ a < 64 := Nat.xor_lt_two_pow (n := 6) hj (Nat.pow_lt_pow_right (by omega) ha)
  apply Nat.eq_of_testBit_eq
  intro i
  rw [tb_flip, tb_wj hj, tb_wj h2, tb_flip]
  by_cases h : i < 6
  · simp [h]
  · have : ¬ a = i := by omega
    simp [h, this]
theorem flip_hi {w j a : Nat} (hj : j < 64) : (w * 64 + j) ^^^ 2 ^ (a + 6) = (w ^^^ 2 ^ a) * 64 + j := by
  apply Nat.eq_of_testBit_eq
  intro i
  rw [tb_flip, tb_wj hj, tb_wj hj, tb_flip]
  by_cases h : i < 6
  · have : ¬ a + 6 = i := by omega
    simp [h, this]
  · have : (a + 6 = i) ↔ (a = i - 6) := by omega
    simp [h, this]
theorem wj_lt {w j W : Nat} (hj : j < 64) (hw : w < W) : w * 64 + j < W * 64 := by omega
/-- the members, a bit each -/
def mb_ (M : Nat → Prop) (words : Nat) (f : Nat → Int64) : Prop := ∀ w, w < words → ∀ j, j < 64 → (bl (f w) j = true ↔ M (w * 64 + j))
theorem lst_split {M : Nat → Prop} {w j : Nat} (hj : j < 64) : lst_ M (w * 64 + j) ↔ M (w * 64 + j) ∧ (∀ a, a < 6 → j.testBit a = true → ¬ M (w * 64 + (j ^^^ 2 ^ a))) ∧ (∀ a, a < 8 → w.testBit a = true → ¬ M ((w ^^^ 2 ^ a) * 64 + j)) := by
  constructor
  · rintro ⟨h1, h2⟩
    refine ⟨h1, fun a ha hb => ?_, fun a ha hb => ?_⟩
    · rw [← flip_lo hj ha]
      exact h2 a (by omega) (by rw [tb_wj hj, if_pos ha]; exact hb)
    · rw [← flip_hi hj]
      exact h2 (a + 6) (by omega) (by rw [tb_wj hj, if_neg (by omega), Nat.add_sub_cancel]; exact hb)
  · rintro ⟨h1, h2, h3⟩
    refine ⟨h1, fun a ha hb => ?_⟩
    rw [tb_wj hj] at hb
    by_cases h : a < 6
    · rw [if_pos h] at hb
      rw [flip_lo hj h]
      exact h2 a h hb
    · rw [if_neg h] at hb
      have e : a = (a - 6) + 6 := by omega
      rw [e, flip_hi hj]
      exact h3 (a - 6) (by omega) hb
/-- a bit of a word moved up by 2^a -/
theorem l_shl (x : Int64) (k : Int32) (d : Nat) (hk : ((k.toInt64 &&& 63).toBitVec.smod 64).toNat = d) {j : Nat} (hj : j < 64) : bl (x <<< (k.toInt64 &&& 63)) j = (decide (d ≤ j) && bl x (j - d)) := by
  unfold bl
  rw [Int64.toBitVec_shiftLeft]
  show (x.toBitVec <<< ((k.toInt64 &&& 63).toBitVec.smod 64).toNat).getLsbD j = _
  rw [hk, BitVec.getLsbD_shiftLeft]
  rcases Nat.lt_or_ge j d with h | h
  · simp [h, Nat.not_le.mpr h]
  · simp [hj, h, Nat.not_lt.mpr h]
theorem dn_bit : ∀ a, a < 6 → ∀ j, j < 64 → j.testBit a = true → 2 ^ a ≤ j ∧ j - 2 ^ a = j ^^^ 2 ^ a := by decide +kernel
/-- the sets of a word that have axiom a, one of the first six -/
def pw_ (a : Nat) : Int64 := [-6148914691236517206, -3689348814741910324, -1085102592571150096, -71777214294589696, -281470681808896, -4294967296].getD a 0
theorem pw_bit : ∀ a, a < 6 → ∀ j, j < 64 → bl (pw_ a) j = j.testBit a := by decide +kernel
/-- those that have k of the first six -/
def ps_ (k : Nat) : Int64 := [1, 4295033110, 282668995843688, 78274679833913472, 1614655367130677248, 7530159316599308288, -9223372036854775808].getD k 0
theorem ps_bit : ∀ k, k < 7 → ∀ j, j < 64 → bl (ps_ k) j = decide (pcF 6 j = k) := by decide +kernel
theorem pc_wj : ∀ w, w < 256 → ∀ j, j < 64 → pcF 14 (w * 64 + j) = pcF 6 j + pcF 8 w := by
  intro w _ j hj
  rw [show (14 : Nat) = 6 + 8 from rfl, pcF_add, show (w * 64 + j) / 2 ^ 6 = w by show (w * 64 + j) / 64 = w; omega]
  rw [← pcF_mod 6, show (w * 64 + j) % 2 ^ 6 = j by show (w * 64 + j) % 64 = j; omega]
/-- a part of a word's members, with one axiom taken from them -/
theorem one_more {M : Nat → Prop} {words w a j : Nat} {f : Nat → Int64} {k : Int32} (hm : mb_ M words f) (hw : w < words) (ha : a < 6) (hk : ((k.toInt64 &&& 63).toBitVec.smod 64).toNat = 2 ^ a) (hj : j < 64) : bl ((f w <<< (k.toInt64 &&& 63)) &&& pw_ a) j = true ↔ j.testBit a = true ∧ M (w * 64 + (j ^^^ 2 ^ a)) := by
  rw [l_and, l_shl _ k (2 ^ a) hk hj, pw_bit a ha j hj]
  cases hb : j.testBit a
  · simp
  · obtain ⟨h1, h2⟩ := dn_bit a ha j hj hb
    have h3 : j ^^^ 2 ^ a < 64 := Nat.xor_lt_two_pow (n := 6) hj (Nat.pow_lt_pow_right (by omega) ha)
    rw [← hm w hw (j ^^^ 2 ^ a) h3, h2]
    simp [h1]
end
section
/-! ===== causes and cures ===== -/
/-- the goal g follows from set s -/
def mc_ (n : Nat) (B Hd : Nat → Int32) (g : Nat) (s : Nat) : Prop := dr_ n (bd_ B) (hd_ Hd) (fun a => s.testBit a = true) n g
/-- without s (but with what is fixed) it does not -/
def mq_ (n : Nat) (B Hd Fx : Nat → Int32) (g : Nat) (s : Nat) : Prop := ¬ dr_ n (bd_ B) (hd_ Hd) (fun a => ¬ Fx a = 0 ∨ s.testBit a = false) n g
theorem mc_up {n : Nat} {B Hd : Nat → Int32} {g : Nat} (s t : Nat) (h : ss_ s t) (hm : mc_ n B Hd g s) : mc_ n B Hd g t := dr_congr (fun a _ ha => h a ha) n g hm
theorem mq_up {n : Nat} {B Hd Fx : Nat → Int32} {g : Nat} (s t : Nat) (h : ss_ s t) (hm : mq_ n B Hd Fx g s) : mq_ n B Hd Fx g t := fun hd => hm (dr_congr (fun a _ ha => by
  rcases ha with ha | ha
  · exact Or.inl ha
  · refine Or.inr ?_
    cases hs : s.testBit a
    · rfl
    · rw [h a hs] at ha; cases ha) n g hd)
theorem mc_same {n : Nat} {B Hd : Nat → Int32} {g s t : Nat} (h : ∀ a, a < n → s.testBit a = t.testBit a) : mc_ n B Hd g s ↔ mc_ n B Hd g t :=
  ⟨dr_congr (fun a ha q => by rw [← h a ha]; exact q) n g, dr_congr (fun a ha q => by rw [h a ha]; exact q) n g⟩
theorem mq_same {n : Nat} {B Hd Fx : Nat → Int32} {g s t : Nat} (h : ∀ a, a < n → Fx a = 0 → s.testBit a = t.testBit a) : mq_ n B Hd Fx g s ↔ mq_ n B Hd Fx g t := by
  have key : ∀ s t : Nat, (∀ a, a < n → Fx a = 0 → s.testBit a = t.testBit a) → mq_ n B Hd Fx g s → mq_ n B Hd Fx g t := by
    intro s t h hm hd
    refine hm (dr_congr (fun a ha q => ?_) n g hd)
    by_cases e : Fx a = 0
    · rcases q with q | q
      · exact Or.inl q
      · exact Or.inr (by rw [h a ha e]; exact q)
    · exact Or.inl e
  exact ⟨key s t h, key t s (fun a ha e => (h a ha e).symm)⟩
noncomputable def cp_ (n : Nat) (B Hd : Nat → Int32) (g : Nat) (s : Nat) : Bool := @decide (lst_ (mc_ n B Hd g) s) (Classical.propDecidable _)
noncomputable def qp_ (n : Nat) (B Hd Fx : Nat → Int32) (g : Nat) (s : Nat) : Bool := @decide (lst_ (mq_ n B Hd Fx g) s) (Classical.propDecidable _)
theorem cp_iff {n : Nat} {B Hd : Nat → Int32} {g s : Nat} : cp_ n B Hd g s = true ↔ lst_ (mc_ n B Hd g) s := by
  unfold cp_
  exact @decide_eq_true_iff _ (Classical.propDecidable _)
theorem qp_iff {n : Nat} {B Hd Fx : Nat → Int32} {g s : Nat} : qp_ n B Hd Fx g s = true ↔ lst_ (mq_ n B Hd Fx g) s := by
  unfold qp_
  exact @decide_eq_true_iff _ (Classical.propDecidable _)
/-- a least set has axioms alone that there are -/
theorem lst_low {M : Nat → Prop} {n s : Nat} (hs : s < 16384) (hM : ∀ s a, n ≤ a → M s → M (s ^^^ 2 ^ a)) (h : lst_ M s) : s < 2 ^ n := by
  refine Nat.lt_pow_two_of_testBit _ fun i hi => ?_
  cases hb : s.testBit i
  · rfl
  · exact absurd (hM s i hi h.1) (h.2 i (tb_lt hs hb) hb)
theorem mc_hi {n : Nat} {B Hd : Nat → Int32} {g : Nat} (s a : Nat) (ha : n ≤ a) (h : mc_ n B Hd g s) : mc_ n B Hd g (s ^^^ 2 ^ a) := (mc_same (fun b hb => by
  rw [tb_flip]
  have : ¬ a = b := by omega
  simp [this])).mp h
theorem mq_hi {n : Nat} {B Hd Fx : Nat → Int32} {g : Nat} (s a : Nat) (ha : n ≤ a) (h : mq_ n B Hd Fx g s) : mq_ n B Hd Fx g (s ^^^ 2 ^ a) := (mq_same (fun b hb _ => by
  rw [tb_flip]
  have : ¬ a = b := by omega
  simp [this])).mp h
theorem pc_low {n s : Nat} (hn : n ≤ 14) (hs : s < 2 ^ n) : pcF 14 s < n + 1 := by
  have e : 14 = n + (14 - n) := by omega
  rw [e, pcF_add, Nat.div_eq_of_lt hs, pcF_0]
  have := pcF_le n s
  omega
theorem pow_le14 {n : Nat} (hn : n ≤ 14) : 2 ^ n ≤ 16384 := Nat.pow_le_pow_right (n := 2) (i := n) (j := 14) (by omega) hn
/-- the class's list and the reference's -/
theorem ls_both {P : Nat → Bool} {M : Nat → Prop} {n N : Nat} (hn : n ≤ 14) (hP : ∀ s, P s = true → lst_ M s) (hM : ∀ s a, n ≤ a → M s → M (s ^^^ 2 ^ a)) (hN : 2 ^ n ≤ N) (hN2 : N ≤ 16384) : ls_ P 15 N = ls_ P (n + 1) (2 ^ n) :=
  ls_cut (by omega) hN (fun s hs hp => by
    have h := lst_low (by omega) hM (hP s hp)
    exact ⟨pc_low hn h, h⟩)
/-- a set taken from all n axioms -/
theorem tb_all {n s a : Nat} (hs : s < 2 ^ n) (ha : a < n) : ((2 ^ n - 1) ^^^ s).testBit a = !s.testBit a := by
  rw [Nat.testBit_xor, Nat.testBit_two_pow_sub_one]
  simp [ha]
/-- a cure, as the reference asks for it -/
theorem cure_iff {n : Nat} {B Hd Fx : Nat → Int32} {g s : Nat} (hn : n ≤ 14) (hs : s < 2 ^ n) : lst_ (mq_ n B Hd Fx g) s ↔ ¬ mc_ n B Hd g ((2 ^ n - 1) ^^^ s) ∧ ∀ a, a < n → s.testBit a = true → Fx a = 0 ∧ mc_ n B Hd g ((2 ^ n - 1) ^^^ s ^^^ 2 ^ a) := by
  have plain : ∀ t : Nat, (∀ a, a < n → t.testBit a = true → Fx a = 0) → ∀ r : Nat, (∀ a, a < n → r.testBit a = !t.testBit a) → (mq_ n B Hd Fx g t ↔ ¬ mc_ n B Hd g r) := by
    intro t ht r hr
    have e : dr_ n (bd_ B) (hd_ Hd) (fun a => ¬ Fx a = 0 ∨ t.testBit a = false) n g ↔ mc_ n B Hd g r := by
      constructor
      · refine dr_congr (fun a ha q => ?_) n g
        rw [hr a ha]
        cases hb : t.testBit a
        · rfl
        · rcases q with q | q
          · exact absurd (ht a ha hb) q
          · rw [hb] at q; cases q
      · refine dr_congr (fun a ha q => ?_) n g
        rw [hr a ha] at q
        exact Or.inr (by simpa using q)
    unfold mq_
    rw [e]
  have sub : ∀ a, a < n → s.testBit a = true → (∀ b, b < n → s.testBit b = true → Fx b = 0) → (mq_ n B Hd Fx g (s ^^^ 2 ^ a) ↔ ¬ mc_ n B Hd g ((2 ^ n - 1) ^^^ s ^^^ 2 ^ a)) := by
    intro a ha hb hF
    refine plain _ (fun b hbn q => hF b hbn ?_) _ (fun b hbn => ?_)
    · rw [tb_flip] at q
      by_cases e : a = b
      · subst e; exact hb
      · simpa [e] using q
    · rw [tb_flip, tb_all hs hbn, tb_flip]
      cases s.testBit b <;> cases decide (a = b) <;> rfl
  constructor
  · rintro ⟨h1, h2⟩
    have hF : ∀ b, b < n → s.testBit b = true → Fx b = 0 := by
      intro b hbn hb
      refine Classical.byContradiction fun e => h2 b (by omega) hb ((mq_same (fun c hc e2 => ?_)).mp h1)
      rw [tb_flip]
      have : ¬ b = c := by
        intro q
        subst q
        exact e e2
      simp [this]
    refine ⟨(plain s hF _ (fun a ha => tb_all hs ha)).mp h1, fun a ha hb => ⟨hF a ha hb, ?_⟩⟩
    have h3 := h2 a (by omega) hb
    rw [sub a ha hb hF] at h3
    exact Classical.byContradiction h3
  · rintro ⟨h1, h2⟩
    have hF : ∀ b, b < n → s.testBit b = true → Fx b = 0 := fun b hbn hb => (h2 b hbn hb).1
    refine ⟨(plain s hF _ (fun a ha => tb_all hs ha)).mpr h1, fun a ha hb => ?_⟩
    have han : a < n := by
      refine Classical.byContradiction fun q => ?_
      have : s.testBit a = false := Nat.testBit_lt_two_pow (Nat.lt_of_lt_of_le hs (Nat.pow_le_pow_right (by omega) (by omega)))
      rw [this] at hb
      cases hb
    rw [sub a han hb hF]
    exact fun q => q (h2 a han hb).2
theorem cause_iff {n : Nat} {B Hd : Nat → Int32} {g s : Nat} (hn : n ≤ 14) (hs : s < 2 ^ n) : lst_ (mc_ n B Hd g) s ↔ mc_ n B Hd g s ∧ ∀ a, a < n → s.testBit a = true → ¬ mc_ n B Hd g (s ^^^ 2 ^ a) := by
  constructor
  · rintro ⟨h1, h2⟩
    exact ⟨h1, fun a ha => h2 a (by omega)⟩
  · rintro ⟨h1, h2⟩
    refine ⟨h1, fun a _ hb => h2 a (Classical.byContradiction fun q => ?_) hb⟩
    have : s.testBit a = false := Nat.testBit_lt_two_pow (Nat.lt_of_lt_of_le hs (Nat.pow_le_pow_right (by omega) (by omega)))
    rw [this] at hb
    cases hb
end
section
/-! ===== rows of our own: numbers by Nat ===== -/
theorem nI_inc (a : Nat) : nI a + Int32.ofInt 1 = nI (a + 1) := nI_1 a
section RW
variable {p : Program} {l : Launch} {e : Env} {R : Room} {s : State} {m : MethodId} {args : Array Value} {below : List Frame} {meth : Method} {c : Code} {H : Heap} {locs : List Loc} {cells slots : Nat} {Q : State → Prop}
variable {cc : ByteArray} {pc : Nat} {ls : Array Slot} {rest : List Value} {D : va_G} {cl : List vw_C} {A : Nat → Prop} {q : Nat} {tys : List (ClassId × FieldType)} {ws : va_W} {H0 : Heap}
theorem r_iald (hexec : p.tables.exec = Jvm.exec) (hb : c.code = cc) (hK : va_K D cl tys s) (hP : va_P D cl ws H) (q0 t0 : Nat) {cA : ClassId} {n : Nat} {f : Nat → Int32} (ha : ws[q0]? = some (q, .inl (cA, n, .inl f))) (ht : tys[t0]? = some (cA, .int)) (k : Nat) (hk : k < n) (hn : n < 2 ^ 31) (hdg : decode cc pc = .ok (.iaload, 1))
    (kk : W p l e R s m args below meth c H locs cells slots Q (F0 m (pc + 1) ls (.int (f k) :: rest))) : W p l e R s m args below meth c H locs cells slots Q (F0 m pc ls (.int (nI k) :: .ref q :: rest)) :=
  va_iald hexec hb hK hP q0 t0 ha ht (vp_in_nI hk hn) hdg (by rw [nI_clamp (by omega)]; exact kk)
theorem r_zald (hexec : p.tables.exec = Jvm.exec) (hb : c.code = cc) (hK : va_K D cl tys s) (hP : va_P D cl ws H) (q0 t0 : Nat) {cA : ClassId} {n : Nat} {f : Nat → Int32} (ha : ws[q0]? = some (q, .inl (cA, n, .inl f))) (ht : tys[t0]? = some (cA, .boolean)) (k : Nat) (hk : k < n) (hn : n < 2 ^ 31) (hdg : decode cc pc = .ok (.baload, 1))
    (kk : W p l e R s m args below meth c H locs cells slots Q (F0 m (pc + 1) ls (.int (f k) :: rest))) : W p l e R s m args below meth c H locs cells slots Q (F0 m pc ls (.int (nI k) :: .ref q :: rest)) :=
  va_zald hexec hb hK hP q0 t0 ha ht (vp_in_nI hk hn) hdg (by rw [nI_clamp (by omega)]; exact kk)
theorem r_lald (hexec : p.tables.exec = Jvm.exec) (hb : c.code = cc) (hK : va_K D cl tys s) (hP : va_P D cl ws H) (q0 t0 : Nat) {cA : ClassId} {n : Nat} {f : Nat → Int64} (ha : ws[q0]? = some (q, .inl (cA, n, .inr (.inl f)))) (ht : tys[t0]? = some (cA, .long)) (k : Nat) (hk : k < n) (hn : n < 2 ^ 31) (hdg : decode cc pc = .ok (.laload, 1))
    (kk : W p l e R s m args below meth c H locs cells slots Q (F0 m (pc + 1) ls (.long (f k) :: rest))) : W p l e R s m args below meth c H locs cells slots Q (F0 m pc ls (.int (nI k) :: .ref q :: rest)) :=
  va_lald hexec hb hK hP q0 t0 ha ht (vp_in_nI hk hn) hdg (by rw [nI_clamp (by omega)]; exact kk)
theorem r_iast (hexec : p.tables.exec = Jvm.exec) (hb : c.code = cc) (hK : va_K D cl tys s) (hP : va_P D cl ws H) (hD : va_D A ws) (hS : va_S A H0 H locs) (q0 t0 : Nat) {cA : ClassId} {n : Nat} {f : Nat → Int32} (ha : ws[q0]? = some (q, .inl (cA, n, .inl f))) (ht : tys[t0]? = some (cA, .int)) (k : Nat) {x : Int32} (hk : k < n) (hn : n < 2 ^ 31) (hdg : decode cc pc = .ok (.iastore, 1))
    (kk : ∀ (H1 : Heap) (locs1 : List Loc), va_P D cl (ws.set q0 (q, .inl (cA, n, .inl (upd f k x)))) H1 → va_D A (ws.set q0 (q, .inl (cA, n, .inl (upd f k x)))) → va_S A H0 H1 locs1 → W p l e R s m args below meth c H1 locs1 cells slots Q (F0 m (pc + 1) ls rest)) : W p l e R s m args below meth c H locs cells slots Q (F0 m pc ls (.int x :: .int (nI k) :: .ref q :: rest)) :=
  va_iast hexec hb hK hP hD hS q0 t0 ha ht (vp_in_nI hk hn) hdg (by rw [nI_clamp (by omega)]; exact kk)
theorem r_nar01 {x : Int32} (h : x = 0 ∨ x = 1) : vp_nar .boolean x = x := by
  rcases h with rfl | rfl <;> decide +kernel
theorem r_zast (hexec : p.tables.exec = Jvm.exec) (hb : c.code = cc) (hK : va_K D cl tys s) (hP : va_P D cl ws H) (hD : va_D A ws) (hS : va_S A H0 H locs) (q0 t0 : Nat) {cA : ClassId} {n : Nat} {f : Nat → Int32} (ha : ws[q0]? = some (q, .inl (cA, n, .inl f))) (ht : tys[t0]? = some (cA, .boolean)) (k : Nat) {x : Int32} (hx01 : x = 0 ∨ x = 1) (hk : k < n) (hn : n < 2 ^ 31) (hdg : decode cc pc = .ok (.bastore, 1))
    (kk : ∀ (H1 : Heap) (locs1 : List Loc), va_P D cl (ws.set q0 (q, .inl (cA, n, .inl (upd f k x)))) H1 → va_D A (ws.set q0 (q, .inl (cA, n, .inl (upd f k x)))) → va_S A H0 H1 locs1 → W p l e R s m args below meth c H1 locs1 cells slots Q (F0 m (pc + 1) ls rest)) : W p l e R s m args below meth c H locs cells slots Q (F0 m pc ls (.int x :: .int (nI k) :: .ref q :: rest)) :=
  va_zast hexec hb hK hP hD hS q0 t0 ha ht (vp_in_nI hk hn) hdg (by rw [nI_clamp (by omega), r_nar01 hx01]; exact kk)
theorem r_last (hexec : p.tables.exec = Jvm.exec) (hb : c.code = cc) (hK : va_K D cl tys s) (hP : va_P D cl ws H) (hD : va_D A ws) (hS : va_S A H0 H locs) (q0 t0 : Nat) {cA : ClassId} {n : Nat} {f : Nat → Int64} (ha : ws[q0]? = some (q, .inl (cA, n, .inr (.inl f)))) (ht : tys[t0]? = some (cA, .long)) (k : Nat) {x : Int64} (hk : k < n) (hn : n < 2 ^ 31) (hdg : decode cc pc = .ok (.lastore, 1))
    (kk : ∀ (H1 : Heap) (locs1 : List Loc), va_P D cl (ws.set q0 (q, .inl (cA, n, .inr (.inl (vp_updL f k x))))) H1 → va_D A (ws.set q0 (q, .inl (cA, n, .inr (.inl (vp_updL f k x))))) → va_S A H0 H1 locs1 → W p l e R s m args below meth c H1 locs1 cells slots Q (F0 m (pc + 1) ls rest)) : W p l e R s m args below meth c H locs cells slots Q (F0 m pc ls (.long x :: .int (nI k) :: .ref q :: rest)) :=
  va_last hexec hb hK hP hD hS q0 t0 ha ht (vp_in_nI hk hn) hdg (by rw [nI_clamp (by omega)]; exact kk)
theorem r_ige (hexec : p.tables.exec = Jvm.exec) (hb : c.code = cc) {a b : Nat} {off : Int} {tgt : Nat} (ha : a < 2 ^ 31) (hb2 : b < 2 ^ 31) (hdg : decode cc pc = .ok (.if_icmp .ge off, 3)) (ht : (pc : Int) + off = (tgt : Int))
    (kt : b ≤ a → W p l e R s m args below meth c H locs cells slots Q (F0 m tgt ls rest)) (kf : a < b → W p l e R s m args below meth c H locs cells slots Q (F0 m (pc + 3) ls rest)) : W p l e R s m args below meth c H locs cells slots Q (F0 m pc ls (.int (nI b) :: .int (nI a) :: rest)) :=
  lv_icmp_ge hexec hb hdg ht (fun h => kt ((nI_leI hb2 ha).mp h)) (fun h => kf (Nat.lt_of_not_le fun q => h ((nI_leI hb2 ha).mpr q)))
theorem r_igt (hexec : p.tables.exec = Jvm.exec) (hb : c.code = cc) {a b : Nat} {off : Int} {tgt : Nat} (ha : a < 2 ^ 31) (hb2 : b < 2 ^ 31) (hdg : decode cc pc = .ok (.if_icmp .gt off, 3)) (ht : (pc : Int) + off = (tgt : Int))
    (kt : b < a → W p l e R s m args below meth c H locs cells slots Q (F0 m tgt ls rest)) (kf : a ≤ b → W p l e R s m args below meth c H locs cells slots Q (F0 m (pc + 3) ls rest)) : W p l e R s m args below meth c H locs cells slots Q (F0 m pc ls (.int (nI b) :: .int (nI a) :: rest)) :=
  lv_icmp_gt hexec hb hdg ht (fun h => kt ((nI_ltI hb2 ha).mp h)) (fun h => kf (Nat.le_of_not_lt fun q => h ((nI_ltI hb2 ha).mpr q)))
theorem r_ilt (hexec : p.tables.exec = Jvm.exec) (hb : c.code = cc) {a b : Nat} {off : Int} {tgt : Nat} (ha : a < 2 ^ 31) (hb2 : b < 2 ^ 31) (hdg : decode cc pc = .ok (.if_icmp .lt off, 3)) (ht : (pc : Int) + off = (tgt : Int))
    (kt : a < b → W p l e R s m args below meth c H locs cells slots Q (F0 m tgt ls rest)) (kf : b ≤ a → W p l e R s m args below meth c H locs cells slots Q (F0 m (pc + 3) ls rest)) : W p l e R s m args below meth c H locs cells slots Q (F0 m pc ls (.int (nI b) :: .int (nI a) :: rest)) :=
  lv_icmp_lt hexec hb hdg ht (fun h => kt ((nI_ltI ha hb2).mp h)) (fun h => kf (Nat.le_of_not_lt fun q => h ((nI_ltI ha hb2).mpr q)))
theorem r_ile (hexec : p.tables.exec = Jvm.exec) (hb : c.code = cc) {a b : Nat} {off : Int} {tgt : Nat} (ha : a < 2 ^ 31) (hb2 : b < 2 ^ 31) (hdg : decode cc pc = .ok (.if_icmp .le off, 3)) (ht : (pc : Int) + off = (tgt : Int))
    (kt : a ≤ b → W p l e R s m args below meth c H locs cells slots Q (F0 m tgt ls rest)) (kf : b < a → W p l e R s m args below meth c H locs cells slots Q (F0 m (pc + 3) ls rest)) : W p l e R s m args below meth c H locs cells slots Q (F0 m pc ls (.int (nI b) :: .int (nI a) :: rest)) :=
  lv_icmp_le hexec hb hdg ht (fun h => kt ((nI_leI ha hb2).mp h)) (fun h => kf (Nat.lt_of_not_le fun q => h ((nI_leI ha hb2).mpr q)))
theorem r_iadd (hexec : p.tables.exec = Jvm.exec) (hb : c.code = cc) {a b : Nat} (hdg : decode cc pc = .ok (.iadd, 1)) (k : W p l e R s m args below meth c H locs cells slots Q (F0 m (pc + 1) ls (.int (nI (a + b)) :: rest))) : W p l e R s m args below meth c H locs cells slots Q (F0 m pc ls (.int (nI b) :: .int (nI a) :: rest)) :=
  lv_iadd hexec hb hdg (by rw [nI_add]; exact k)
theorem r_isub (hexec : p.tables.exec = Jvm.exec) (hb : c.code = cc) {a b : Nat} (h : b ≤ a) (hdg : decode cc pc = .ok (.isub, 1)) (k : W p l e R s m args below meth c H locs cells slots Q (F0 m (pc + 1) ls (.int (nI (a - b)) :: rest))) : W p l e R s m args below meth c H locs cells slots Q (F0 m pc ls (.int (nI b) :: .int (nI a) :: rest)) :=
  lv_isub hexec hb hdg (by rw [pk_sub h]; exact k)
theorem r_top {x y : Int32} (h : x = y) (k : W p l e R s m args below meth c H locs cells slots Q (F0 m pc ls (.int y :: rest))) : W p l e R s m args below meth c H locs cells slots Q (F0 m pc ls (.int x :: rest)) := h ▸ k
end RW
/-! ===== what stays as it is: nest links, the two tables ===== -/
def nl_ : List Cond := [.fieldLinkNest "LeastSets" 69 "LeastSets$Axioms" "weight" "[I" "LeastSets", .fieldLinkNest "LeastSets" 65 "LeastSets$Axioms" "fixed" "[Z" "LeastSets", .fieldLinkNest "LeastSets" 48 "LeastSets$Axioms" "count" "I" "LeastSets", .fieldLinkNest "LeastSets" 130 "LeastSets$Family" "members" "[J" "LeastSets", .fieldLinkNest "LeastSets" 85 "LeastSets$SetList" "size" "I" "LeastSets", .fieldLinkNest "LeastSets$Axioms" 54 "LeastSets" "PLACES_WITH" "[J" "LeastSets", .fieldLinkNest "LeastSets$Family" 40 "LeastSets" "PLACES_WITH" "[J" "LeastSets", .fieldLinkNest "LeastSets$Family" 33 "LeastSets" "PLACES_OF_SIZE" "[J" "LeastSets",
  .methodLinkNest "LeastSets" 11 yX0_init "LeastSets", .methodLinkNest "LeastSets" 18 yX1_init "LeastSets", .methodLinkNest "LeastSets" 25 yX2_init "LeastSets", .methodLinkNest "LeastSets$Axioms" 73 yX3_lowestPlace "LeastSets", .methodLinkNest "LeastSets$SetList" 25 yX3_lowestPlace "LeastSets"]
theorem nl_warm {s U : State} (hW : s.WarmedH U.vm) (h : ∀ w ∈ nl_, va_Nw w s) : ∀ w ∈ nl_, va_Nw w U := by
  simp only [nl_, List.forall_mem_cons, List.forall_mem_nil] at h ⊢
  obtain ⟨h1, h2, h3, h4, h5, h6, h7, h8, h9, h10, h11, h12, h13, -⟩ := h
  exact ⟨va_Nw.warmF hW h1, va_Nw.warmF hW h2, va_Nw.warmF hW h3, va_Nw.warmF hW h4, va_Nw.warmF hW h5, va_Nw.warmF hW h6, va_Nw.warmF hW h7, va_Nw.warmF hW h8, va_Nw.warmM hW h9, va_Nw.warmM hW h10, va_Nw.warmM hW h11, va_Nw.warmM hW h12, va_Nw.warmM hW h13, fun _ h => by cases h⟩
theorem nl_same {u U : State} (hv : u.vm = U.vm) (h : ∀ w ∈ nl_, va_Nw w u) : ∀ w ∈ nl_, va_Nw w U := by
  have ok : ∀ w ∈ nl_, w.onTables = true := by
    simp only [nl_, List.forall_mem_cons, List.forall_mem_nil]
    exact ⟨rfl, rfl, rfl, rfl, rfl, rfl, rfl, rfl, rfl, rfl, rfl, rfl, rfl, fun _ h => by cases h⟩
  exact fun w hw => va_Nw.same (ok w hw) hv (h w hw)
/-- the nest's links, the two tables at t1 and t2: nothing of them in A -/
def EN_ (t1 t2 : Nat) (A : Nat → Prop) (U : State) : Prop := (∀ w ∈ nl_, va_Nw w U) ∧ va_Z "LeastSets" "PLACES_WITH" "[J" (.ref t1) A U U.heap ∧ va_T .long t1 6 (fun k => .long (pw_ k)) A U U.heap ∧ va_Z "LeastSets" "PLACES_OF_SIZE" "[J" (.ref t2) A U U.heap ∧ va_T .long t2 7 (fun k => .long (ps_ k)) A U U.heap
theorem EN_.go {t1 t2 : Nat} {A B : Nat → Prop} {s U : State} {H : Heap} {locs : List Loc} (h : EN_ t1 t2 A s) (hS : va_S A s.heap H locs) (hAB : ∀ q, B q → A q) (hU : U.heap = H) (hW : s.WarmedH U.vm) : EN_ t1 t2 B U := by
  obtain ⟨h1, h2, h3, h4, h5⟩ := h
  have k : ∀ a : Nat, a < s.heap.size → ¬ A a → U.heap[a]? = s.heap[a]? := fun a ha hn => by rw [hU]; exact hS.2.1 a ha hn
  exact ⟨nl_warm hW h1, ((h2.kept k).moved hW.alike).narrow hAB, ((h3.kept k).moved hW.alike).narrow hAB, ((h4.kept k).moved hW.alike).narrow hAB, ((h5.kept k).moved hW.alike).narrow hAB⟩
theorem EN_.calling {t1 t2 : Nat} {A : Nat → Prop} {U : State} {a : Array Value} {g : JFrame} {mk : MethodId} (h : EN_ t1 t2 A U) : EN_ t1 t2 A (U.calling g mk a) := by
  obtain ⟨h1, h2, h3, h4, h5⟩ := h
  exact ⟨nl_same (u := U) (U := U.calling g mk a) rfl h1, va_Z.moved (u := U) (U := U.calling g mk a) (Vm.Alike.refl U.vm) h2, va_T.moved (u := U) (U := U.calling g mk a) (Vm.Alike.refl U.vm) h3, va_Z.moved (u := U) (U := U.calling g mk a) (Vm.Alike.refl U.vm) h4, va_T.moved (u := U) (U := U.calling g mk a) (Vm.Alike.refl U.vm) h5⟩
/-! ===== starts of contracts ===== -/
/-- a method that only reads the cells ws -/
def ro_ (D : va_G) (tys : List (ClassId × FieldType)) (ws : va_W) (U : State) : Prop := va_P D vwCl ws U.heap ∧ va_K D vwCl tys U
/-- .. and the tables -/
def re_ (D : va_G) (tys : List (ClassId × FieldType)) (ws : va_W) (t1 t2 : Nat) (U : State) : Prop := va_P D vwCl ws U.heap ∧ va_K D vwCl tys U ∧ EN_ t1 t2 (fun _ => False) U
/-- a method that writes the cells ws -/
def wr_ (D : va_G) (tys : List (ClassId × FieldType)) (ws : va_W) (t1 t2 sz : Nat) (U : State) : Prop := U.heap.size = sz ∧ va_P D vwCl ws U.heap ∧ va_K D vwCl tys U ∧ va_D (fun _ => True) ws ∧ EN_ t1 t2 (va_A ws sz) U
/-- its end: the cells are now as in ws -/
def wd_ (D : va_G) (tys : List (ClassId × FieldType)) (A : Nat → Prop) (ws : va_W) (t : State) : Prop := va_P D vwCl ws t.heap ∧ va_K D vwCl tys t ∧ va_D A ws
theorem no_blind {av : List Value} {B : Prop} : FrameBlind (va_Pc av (fun _ => B)) := fun _ _ _ _ q => q
theorem ro_blind {av : List Value} {D : va_G} {tys : List (ClassId × FieldType)} {ws : va_W} : FrameBlind (va_Pc av (ro_ D tys ws)) := fun a U g mk q => ⟨q.1, q.2.1, va_K.moved (u := U) (U := U.calling g mk a) (Vm.Alike.refl U.vm) q.2.2⟩
theorem re_blind {av : List Value} {D : va_G} {tys : List (ClassId × FieldType)} {ws : va_W} {t1 t2 : Nat} : FrameBlind (va_Pc av (re_ D tys ws t1 t2)) := fun a U g mk q => ⟨q.1, q.2.1, va_K.moved (u := U) (U := U.calling g mk a) (Vm.Alike.refl U.vm) q.2.2.1, q.2.2.2.calling⟩
theorem wr_blind {av : List Value} {D : va_G} {tys : List (ClassId × FieldType)} {ws : va_W} {t1 t2 sz : Nat} : FrameBlind (va_Pc av (wr_ D tys ws t1 t2 sz)) := fun a U g mk q => ⟨q.1, q.2.1, q.2.2.1, va_K.moved (u := U) (U := U.calling g mk a) (Vm.Alike.refl U.vm) q.2.2.2.1, q.2.2.2.2.1, q.2.2.2.2.2.calling⟩
theorem no_pre {s : State} {H : Heap} {av : List Value} {B : Prop} (h : B) : ∀ U : State, U.heap = H → s.WarmedH U.vm → va_Pc av (fun _ => B) av.toArray U := fun _ _ _ => ⟨rfl, h⟩
theorem ro_pre {s : State} {H : Heap} {av : List Value} {D : va_G} {tys tys0 : List (ClassId × FieldType)} {ws : va_W} (hP : va_P D vwCl ws H) (hK : va_K D vwCl tys0 s) (is : List Nat) (hs : is.filterMap (fun i => tys0[i]?) = tys) : ∀ U : State, U.heap = H → s.WarmedH U.vm → va_Pc av (ro_ D tys ws) av.toArray U := fun U hU hW => ⟨rfl, by rw [hU]; exact hP, va_K.moved hW.alike (hK.sub is hs)⟩
theorem re_pre {s : State} {H : Heap} {locs : List Loc} {A : Nat → Prop} {av : List Value} {D : va_G} {tys tys0 : List (ClassId × FieldType)} {ws : va_W} {t1 t2 : Nat} (hP : va_P D vwCl ws H) (hK : va_K D vwCl tys0 s) (hE : EN_ t1 t2 A s) (hS : va_S A s.heap H locs) (is : List Nat) (hs : is.filterMap (fun i => tys0[i]?) = tys) : ∀ U : State, U.heap = H → s.WarmedH U.vm → va_Pc av (re_ D tys ws t1 t2) av.toArray U := fun U hU hW => ⟨rfl, by rw [hU]; exact hP, va_K.moved hW.alike (hK.sub is hs), hE.go hS (fun _ h => h.elim) hU hW⟩
theorem wr_pre {s : State} {H : Heap} {locs : List Loc} {A : Nat → Prop} {av : List Value} {D : va_G} {tys tys0 : List (ClassId × FieldType)} {ws : va_W} {t1 t2 : Nat} (hP : va_P D vwCl ws H) (hD : va_D A ws) (hK : va_K D vwCl tys0 s) (hE : EN_ t1 t2 A s) (hS : va_S A s.heap H locs) (hF : ∀ q, va_A ws H.size q → A q) (is : List Nat) (hs : is.filterMap (fun i => tys0[i]?) = tys) : ∀ U : State, U.heap = H → s.WarmedH U.vm → va_Pc av (wr_ D tys ws t1 t2 H.size) av.toArray U := fun U hU hW => ⟨rfl, by rw [hU], by rw [hU]; exact hP, va_K.moved hW.alike (hK.sub is hs), hD.weaken (fun _ _ _ _ => trivial), hE.go hS hF hU hW⟩
end
section
/-! ===== what small methods answer ===== -/
def has_is (n : Nat) (x r : Int32) : Prop := (r = 1 ∧ ∃ j, j < n ∧ x = nI j) ∨ (r = 0 ∧ ∀ j, j < n → x ≠ nI j)
theorem has_neg {n : Nat} {x : Int32} (hn : n ≤ 14) (h : x < 0) : has_is n x 0 := Or.inr ⟨rfl, fun j hj e => nI_pos (n := j) (by omega) (e ▸ h)⟩
theorem has_big {n : Nat} {x : Int32} (hn : n ≤ 14) (h : nI n ≤ x) : has_is n x 0 := Or.inr ⟨rfl, fun j hj e => nI_ge (a := j) (b := n) hj (by omega) (e ▸ h)⟩
theorem has_in {n : Nat} {x : Int32} (hn : n ≤ 14) (h1 : ¬ x < 0) (h2 : ¬ nI n ≤ x) : has_is n x 1 := by
  obtain ⟨j, hj, e, -⟩ := pk_mu h1 h2 (by omega)
  exact Or.inl ⟨rfl, j, hj, e⟩
/-- the weight of a set's axioms below a -/
def wo_ (Wt : Nat → Int32) (set : Int32) : Nat → Int32
  | 0 => 0
  | a + 1 => if bt set a = true then wo_ Wt set a + Wt a else wo_ Wt set a
theorem wo_no {Wt : Nat → Int32} {set : Int32} {a : Nat} (ha : a < 32) (h : (set >>> (nI a &&& 31)) &&& 1 = 0) : wo_ Wt set (a + 1) = wo_ Wt set a := by
  show (if bt set a = true then _ else _) = _
  rw [if_neg (by rw [(b_ask0 ha set).mp h]; decide)]
theorem wo_yes {Wt : Nat → Int32} {set : Int32} {a : Nat} (ha : a < 32) (h : ¬ (set >>> (nI a &&& 31)) &&& 1 = 0) : wo_ Wt set (a + 1) = wo_ Wt set a + Wt a := by
  show (if bt set a = true then _ else _) = _
  rw [if_pos (Classical.byContradiction fun q => h ((b_ask0 ha set).mpr (by simpa using q)))]
theorem cs_no1 {B Hd : Nat → Int32} {set facts : Int32} {a : Nat} (ha : a < 32) (h : (set >>> (nI a &&& 31)) &&& 1 = 0) : cs_ B Hd set facts (a + 1) = cs_ B Hd set facts a := by
  show (if bt set a = true ∧ B a &&& (facts ^^^ (-1)) = 0 then _ else _) = _
  rw [if_neg (fun q => by rw [(b_ask0 ha set).mp h] at q; exact absurd q.1 (by decide))]
theorem cs_no2 {B Hd : Nat → Int32} {set facts : Int32} {a : Nat} (h : ¬ B a &&& (facts ^^^ (-1)) = 0) : cs_ B Hd set facts (a + 1) = cs_ B Hd set facts a := by
  show (if bt set a = true ∧ B a &&& (facts ^^^ (-1)) = 0 then _ else _) = _
  rw [if_neg (fun q => h q.2)]
theorem cs_yes {B Hd : Nat → Int32} {set facts : Int32} {a : Nat} (ha : a < 32) (h : ¬ (set >>> (nI a &&& 31)) &&& 1 = 0) (h2 : B a &&& (facts ^^^ (-1)) = 0) : cs_ B Hd set facts (a + 1) = cs_ B Hd set facts a ||| ((1 : Int32) <<< (Hd a &&& 31)) := by
  show (if bt set a = true ∧ B a &&& (facts ^^^ (-1)) = 0 then _ else _) = _
  rw [if_pos ⟨Classical.byContradiction fun q => h ((b_ask0 ha set).mpr (by simpa using q)), h2⟩]
/-- how many words the sets of n axioms fill -/
def nwd_ (n : Nat) : Nat := if n ≤ 6 then 1 else 2 ^ (n - 6)
theorem nwd_lt : ∀ n, n ≤ 14 → nwd_ n ≤ 256 ∧ 1 ≤ nwd_ n ∧ 2 ^ n ≤ nwd_ n * 64 := by decide +kernel
theorem nwd_lo {n : Nat} (h : n ≤ 6) : nI 1 = nI (nwd_ n) := by unfold nwd_; rw [if_pos h]
theorem nwd_hi' : ∀ n, n ≤ 14 → 6 < n → (1 : Int32) <<< ((nI n - 6) &&& 31) = nI (nwd_ n) := by decide +kernel
/-- axiom a of set w * 64 + j, j from 0 to 63, as a word -/
def sw_is (a w : Nat) (r : Int64) : Prop := ∀ j, j < 64 → bl r j = (w * 64 + j).testBit a
theorem sw_lo {a w : Nat} (ha : a < 6) : sw_is a w (pw_ a) := fun j hj => by rw [pw_bit a ha j hj, tb_wj hj, if_pos ha]
theorem sw_ask {a w : Nat} (ha : ¬ a < 6) (ha2 : a < 14) : nI w >>> (nI (a - 6) &&& 31) &&& 1 = if w.testBit (a - 6) then 1 else 0 := by
  rw [b_ask (by omega), b_nI (by omega)]
theorem sw_hi0 {a w : Nat} (ha : ¬ a < 6) (ha2 : a < 14) (h : nI w >>> (nI (a - 6) &&& 31) &&& 1 = 0) : sw_is a w 0 := fun j hj => by
  rw [l_0, tb_wj hj, if_neg ha]
  rw [sw_ask ha ha2] at h
  cases hb : w.testBit (a - 6)
  · rfl
  · rw [hb] at h; exact absurd h (by decide)
theorem sw_hi1 {a w : Nat} (ha : ¬ a < 6) (ha2 : a < 14) (h : ¬ nI w >>> (nI (a - 6) &&& 31) &&& 1 = 0) : sw_is a w (-1) := fun j hj => by
  rw [l_m1 j hj, tb_wj hj, if_neg ha]
  rw [sw_ask ha ha2] at h
  cases hb : w.testBit (a - 6)
  · rw [hb] at h; exact absurd rfl h
  · rfl
theorem isF_neg {x : Int32} (h : x < 0) : has_is 24 x 0 := Or.inr ⟨rfl, fun j hj e => nI_pos (n := j) (by omega) (e ▸ h)⟩
theorem isF_big {x : Int32} (h : nI 24 ≤ x) : has_is 24 x 0 := Or.inr ⟨rfl, fun j hj e => nI_ge (a := j) (b := 24) hj (by omega) (e ▸ h)⟩
theorem isF_in {x : Int32} (h1 : ¬ x < 0) (h2 : ¬ nI 24 ≤ x) : has_is 24 x 1 := by
  obtain ⟨j, hj, e, -⟩ := pk_mu h1 h2 (by omega)
  exact Or.inl ⟨rfl, j, hj, e⟩
/-! setsGivingAll: k of the facts have been looked at -/
def gp_is (G : Nat → Int64) (f : Int32) (among : Int64) (k : Nat) (s6 : Int32) (s4 : Int64) : Prop := uI_ s6 < 2147483648 ∧ on_ (bt s6) 0 32 = (on_ (bt f) 0 32).drop k ∧ ∀ j, j < 64 → (bl s4 j = true ↔ bl among j = true ∧ ∀ g ∈ (on_ (bt f) 0 32).take k, bl (G g) j = true)
theorem gp_0 {G : Nat → Int64} {f : Int32} {among : Int64} (hf : uI_ f < 16777216) : gp_is G f among 0 f among := ⟨by omega, rfl, fun j _ => ⟨fun h => ⟨h, fun g hg => by cases hg⟩, fun h => h.1⟩⟩
theorem gp_len (f : Int32) : bc_ f = nI (on_ (bt f) 0 32).length := by
  rw [bc_u, ← pcF_on]
  rfl
theorem gp_32 (f : Int32) : (on_ (bt f) 0 32).length ≤ 32 := on_len _ 32 0
theorem gp_step {G : Nat → Int64} {f : Int32} {among : Int64} {k : Nat} {s6 : Int32} {s4 : Int64} (hf : uI_ f < 16777216) (h : gp_is G f among k s6 s4) (hk : k < (on_ (bt f) 0 32).length) : ∃ p, p < 24 ∧ lc_ ((Int32.toInt64 s6 &&& (-Int32.toInt64 s6)) - 1) = nI p ∧ gp_is G f among (k + 1) (s6 &&& (s6 - 1)) (s4 &&& G p) := by
  obtain ⟨h1, h2, h3⟩ := h
  have hd := List.drop_eq_getElem_cons hk
  rw [hd] at h2
  obtain ⟨g1, g2, g3, g4, g5⟩ := low_onI h1 h2
  generalize hp : (on_ (bt f) 0 32)[k] = p at *
  have hm : p ∈ on_ (bt f) 0 32 := by rw [← hp]; exact List.getElem_mem hk
  obtain ⟨-, -, hb⟩ := (on_mem 32 0).mp hm
  have hp24 : p < 24 := by
    refine Classical.byContradiction fun q => ?_
    have : bt f p = false := by
      rw [uI_bt]
      exact Nat.testBit_lt_two_pow (Nat.lt_of_lt_of_le hf (show 16777216 ≤ 2 ^ p from Nat.pow_le_pow_right (n := 2) (i := 24) (j := p) (by omega) (by omega)))
    rw [this] at hb
    cases hb
  refine ⟨p, hp24, g3, g5, g4, fun j hj => ?_⟩
  rw [l_and, Bool.and_eq_true, h3 j hj, List.take_succ_eq_append_getElem hk, hp]
  constructor
  · rintro ⟨⟨a1, a2⟩, a3⟩
    refine ⟨a1, fun g hg => ?_⟩
    rcases List.mem_append.mp hg with q | q
    · exact a2 g q
    · rw [List.mem_singleton.mp q]; exact a3
  · rintro ⟨a1, a2⟩
    exact ⟨⟨a1, fun g hg => a2 g (List.mem_append_left _ hg)⟩, a2 p (List.mem_append_right _ (List.mem_singleton.mpr rfl))⟩
theorem gp_all {f : Int32} {Q : Nat → Prop} : (∀ g ∈ on_ (bt f) 0 32, Q g) ↔ ∀ g, bt f g = true → Q g := by
  constructor
  · intro h g hg
    refine h g ((on_mem 32 0).mpr ⟨Nat.zero_le _, Classical.byContradiction fun q => ?_, hg⟩)
    rw [b_big (by omega)] at hg
    cases hg
  · intro h g hg
    exact h g ((on_mem 32 0).mp hg).2.2
theorem gp_end {G : Nat → Int64} {f : Int32} {among : Int64} {k : Nat} {s6 : Int32} {s4 : Int64} (h : gp_is G f among k s6 s4) (hk : (on_ (bt f) 0 32).length ≤ k) : ga_is G f among s4 := by
  obtain ⟨-, -, h3⟩ := h
  intro j hj
  rw [h3 j hj, List.take_of_length_le hk, gp_all]
theorem gp_zero {G : Nat → Int64} {f : Int32} {among : Int64} {k : Nat} {s6 : Int32} {s4 : Int64} (h : gp_is G f among k s6 s4) (h0 : s4 = 0) : ga_is G f among s4 := by
  obtain ⟨-, -, h3⟩ := h
  intro j hj
  constructor
  · intro hb
    rw [h0, l_0] at hb
    cases hb
  · rintro ⟨a1, a2⟩
    rw [h3 j hj]
    exact ⟨a1, fun g hg => a2 g ((on_mem 32 0).mp (List.mem_of_mem_take hg)).2.2⟩
/-! ===== arrays count only as far as they go ===== -/
theorem cell_eqL {cA : ClassId} {N : Nat} {f f' : Nat → Int64} (h : ∀ j, j < N → f j = f' j) : vp_cell cA (N, .inr (.inl f)) = vp_cell cA (N, .inr (.inl f')) := by
  rw [vp_cell_l, vp_cell_l]
  unfold arrV
  congr 1
  congr 1
  funext j
  show Value.long (f j.val) = Value.long (f' j.val)
  rw [h j.val j.isLt]
theorem cell_eqI {cA : ClassId} {N : Nat} {f f' : Nat → Int32} (h : ∀ j, j < N → f j = f' j) : vp_cell cA (N, .inl f) = vp_cell cA (N, .inl f') := by
  rw [vp_cell_i, vp_cell_i]
  unfold arrV
  congr 1
  congr 1
  funext j
  show Value.int (f j.val) = Value.int (f' j.val)
  rw [h j.val j.isLt]
theorem P_eqL {D : va_G} {cl : List vw_C} {ws : va_W} {H : Heap} {q N : Nat} {cA : ClassId} {f f' : Nat → Int64} (k : Nat) (hP : va_P D cl ws H) (hk : ws[k]? = some (q, .inl (cA, N, .inr (.inl f)))) (h : ∀ j, j < N → f j = f' j) : va_P D cl (ws.set k (q, .inl (cA, N, .inr (.inl f')))) H := by
  intro i x hx
  by_cases e : i = k
  · subst e
    have hl : i < ws.length := (List.getElem?_eq_some_iff.mp hk).1
    rw [List.getElem?_set_self hl] at hx
    cases hx
    show H[q]? = some (vp_cell _ _)
    rw [← cell_eqL h]
    exact hP i _ hk
  · rw [List.getElem?_set_ne (fun z => e z.symm)] at hx
    exact hP i x hx
theorem P_eqI {D : va_G} {cl : List vw_C} {ws : va_W} {H : Heap} {q N : Nat} {cA : ClassId} {f f' : Nat → Int32} (k : Nat) (hP : va_P D cl ws H) (hk : ws[k]? = some (q, .inl (cA, N, .inl f))) (h : ∀ j, j < N → f j = f' j) : va_P D cl (ws.set k (q, .inl (cA, N, .inl f'))) H := by
  intro i x hx
  by_cases e : i = k
  · subst e
    have hl : i < ws.length := (List.getElem?_eq_some_iff.mp hk).1
    rw [List.getElem?_set_self hl] at hx
    cases hx
    show H[q]? = some (vp_cell _ _)
    rw [← cell_eqI h]
    exact hP i _ hk
  · rw [List.getElem?_set_ne (fun z => e z.symm)] at hx
    exact hP i x hx
theorem mc_of {n : Nat} {B Hd : Nat → Int32} {U : Nat → Int64} {g v j : Nat} (hU : ∀ b, b < n → sw_is b v (U b)) (hj : j < 64) : dj_ n B Hd U j n g ↔ mc_ n B Hd g (v * 64 + j) :=
  ⟨dr_congr (fun a ha h => by rw [← hU a ha j hj]; exact h) n g, dr_congr (fun a ha h => by rw [hU a ha j hj]; exact h) n g⟩
/-- the sets of word v that leave axiom a -/
def sv_is (Fx : Nat → Int32) (a v : Nat) (r : Int64) : Prop := ∀ j, j < 64 → (bl r j = true ↔ ¬ Fx a = 0 ∨ (v * 64 + j).testBit a = false)
theorem sv_fix {Fx : Nat → Int32} {a v : Nat} (h : ¬ Fx a = 0) : sv_is Fx a v (-1) := fun j hj => ⟨fun _ => Or.inl h, fun _ => l_m1 j hj⟩
theorem sv_not {Fx : Nat → Int32} {a v : Nat} {r : Int64} (h : Fx a = 0) (hr : sw_is a v r) : sv_is Fx a v (r ^^^ (-1)) := fun j hj => by
  rw [l_not r hj, hr j hj]
  cases (v * 64 + j).testBit a <;> simp [h]
theorem mq_of {n : Nat} {B Hd Fx : Nat → Int32} {U : Nat → Int64} {g v j : Nat} (hU : ∀ b, b < n → sv_is Fx b v (U b)) (hj : j < 64) : dj_ n B Hd U j n g ↔ ¬ mq_ n B Hd Fx g (v * 64 + j) := by
  unfold mq_
  rw [Classical.not_not]
  exact ⟨dr_congr (fun a ha h => (hU a ha j hj).mp h) n g, dr_congr (fun a ha h => (hU a ha j hj).mpr h) n g⟩
theorem up_lt {α : Type} {P : Nat → α → Prop} {f : Nat → α} {a : Nat} {x : α} {g : Nat → α} (hg : g = fun j => if j = a then x else f j) (h : ∀ b, b < a → P b (f b)) (hx : P a x) : ∀ b, b < a + 1 → P b (g b) := by
  intro b hb
  rw [hg]
  by_cases e : b = a
  · subst e; simp only [if_true]; exact hx
  · simp only [if_neg e]; exact h b (by omega)
/-- the arrays without place j -/
def sh_ (f : Nat → Int32) (j n : Nat) : Nat → Int32 := fun a => if j ≤ a ∧ a + 1 < n then f (a + 1) else f a
theorem sh_0 (f : Nat → Int32) (j : Nat) : sh_ f j (j + 1) = f := by
  funext a
  unfold sh_
  rw [if_neg (by omega)]
theorem sh_at (f : Nat → Int32) {j a : Nat} (h : j ≤ a) : sh_ f j (a + 1) (a + 1) = f (a + 1) := by
  unfold sh_
  rw [if_neg (by omega)]
theorem sh_next {f : Nat → Int32} {j a : Nat} (h : j ≤ a) : upd (sh_ f j (a + 1)) a (sh_ f j (a + 1) (a + 1)) = sh_ f j (a + 1 + 1) := by
  funext b
  rw [sh_at f h]
  unfold upd sh_
  by_cases e : b = a
  · subst e
    rw [if_pos rfl, if_pos (by omega)]
  · rw [if_neg e]
    by_cases q : j ≤ b ∧ b + 1 < a + 1
    · rw [if_pos q, if_pos (by omega)]
    · rw [if_neg q, if_neg (by omega)]
theorem has_yes {n j : Nat} {r : Int32} (hj : j < n) (hn : n < 2147483648) (h : has_is n (nI j) r) : r = 1 := by
  rcases h with ⟨h, -⟩ | ⟨-, h⟩
  · exact h
  · exact absurd rfl (h j hj)
end
section
set_option maxHeartbeats 4000000 in
set_option maxRecDepth 100000 in
/-- has(x) -/
theorem c_X0_has (l : Launch) (D : va_G) (cI cZ cJ : ClassId) (qa qb qh qw qf qu qg : Nat) (n : Nat) (hn : n ≤ 14) (x : Int32) : Met l yX0_has wsX0_has ({ frames := 0, cells := 0, slots := 0, locals := 0 } : Room) (va_Pc [.ref qa, .int x] (ro_ D [(cI, .int), (cZ, .boolean), (cJ, .long)] [(qa, .inr (1, [.ref qb, .ref qh, .ref qw, .ref qf, .int (nI n), .ref qu, .ref qg]))])) (vp_Si (fun r => has_is n x r)) 0 0 (fun _ => False) := by
  refine Met.ofW (cc := cX0_has) (maxL := 2) (ret := (some .boolean)) (by decide) rfl ?_
  intro p e s m args below meth c s₁ B hml hv
  obtain ⟨rfl, hP, hK⟩ := hv
  have hx := B.exec
  have hb := B.bytes
  have hr := B.returns
  have hts := atoms_spec (ws := wsX0_has) B.pre
  have hown : s.vm.findClass RX0 = some m.cls := findClass_of_methodNamed B.named
  have hlocks := B.notSynchronized
  have iX0 : ∀ w ∈ u_ws RX0 TX0 7, w ∈ wsX0_has := by decide +kernel
  have hl := lv_entry ([.ref qa, .int x]) (n := 2) (Nat.le_of_ble_eq_true rfl)
  rw [lg_entry_eq]
  generalize (lg_sl ([.ref qa, .int x]) ++ List.replicate (2 - (lg_sl ([.ref qa, .int x])).length) Slot.unset).toArray = ls at hl ⊢
  have hl : lv_has ls 2 [(0, .ref qa), (1, .int x)] := hl
  refine lv_iload_n hx hb dX0_has_0 rfl (lv_at hl 1 rfl) ?_
  refine lv_if_lt (tgt := 16) hx hb dX0_has_1 (by decide) (fun c_1 => ?_) (fun c_1 => ?_)
  · refine lv_iconst (v := 0) hx hb dX0_has_16 (by decide +kernel) ?_
    exact W.zret (v := 0) hx hb hr (by rfl) (fun t ht hW => ⟨0, rfl, by first | exact has_in hn c_1 c_9 | exact has_neg hn c_1 | exact has_big hn c_9, ht⟩) (fun q h => by cases h) dX0_has_17
  · refine lv_iload_n hx hb dX0_has_4 rfl (lv_at hl 1 rfl) ?_
    refine lv_aload_n hx hb dX0_has_5 rfl (lv_at hl 0 rfl) ?_
    refine va_get (D := D) (ci := 1) (v := .int (nI n)) (C := RX0) (T := TX0) (N := 7) hx hb hts iX0 hown hK hP 0 rfl rfl 4 (by decide) (hts (.fieldLink RX0 25 "LeastSets$Axioms" "count" "I") (by decide +kernel)) (fun _ h9 => h9) rfl dX0_has_6 ?_
    refine lv_icmp_ge (tgt := 16) hx hb dX0_has_9 (by decide) (fun c_9 => ?_) (fun c_9 => ?_)
    · refine lv_iconst (v := 0) hx hb dX0_has_16 (by decide +kernel) ?_
      exact W.zret (v := 0) hx hb hr (by rfl) (fun t ht hW => ⟨0, rfl, by first | exact has_in hn c_1 c_9 | exact has_neg hn c_1 | exact has_big hn c_9, ht⟩) (fun q h => by cases h) dX0_has_17
    · refine lv_iconst (v := 1) hx hb dX0_has_12 (by decide +kernel) ?_
      refine lv_goto (tgt := 17) hx hb dX0_has_13 (by decide) ?_
      exact W.zret (v := 1) hx hb hr (by rfl) (fun t ht hW => ⟨1, rfl, by first | exact has_in hn c_1 c_9 | exact has_neg hn c_1 | exact has_big hn c_9, ht⟩) (fun q h => by cases h) dX0_has_17
set_option maxHeartbeats 4000000 in
set_option maxRecDepth 100000 in
/-- weightOf(x) -/
theorem c_X0_weightOf (l : Launch) (D : va_G) (cI cZ cJ : ClassId) (qa qb qh qw qf qu qg : Nat) (n : Nat) (hn : n ≤ 14) (Wt : Nat → Int32) (x : Int32) : Met l yX0_weightOf wsX0_weightOf ({ frames := 0, cells := 0, slots := 0, locals := 0 } : Room) (va_Pc [.ref qa, .int x] (ro_ D [(cI, .int), (cZ, .boolean), (cJ, .long)] [(qa, .inr (1, [.ref qb, .ref qh, .ref qw, .ref qf, .int (nI n), .ref qu, .ref qg])), (qw, .inl (cI, 14, .inl Wt))])) (vp_Si (fun r => r = wo_ Wt x n)) 0 0 (fun _ => False) := by
  refine Met.ofW (cc := cX0_weightOf) (maxL := 4) (ret := (some .int)) (by decide) rfl ?_
  intro p e s m args below meth c s₁ B hml hv
  obtain ⟨rfl, hP, hK⟩ := hv
  have hx := B.exec
  have hb := B.bytes
  have hr := B.returns
  have hts := atoms_spec (ws := wsX0_weightOf) B.pre
  have hown : s.vm.findClass RX0 = some m.cls := findClass_of_methodNamed B.named
  have hlocks := B.notSynchronized
  have iX0 : ∀ w ∈ u_ws RX0 TX0 7, w ∈ wsX0_weightOf := by decide +kernel
  have hl := lv_entry ([.ref qa, .int x]) (n := 4) (Nat.le_of_ble_eq_true rfl)
  rw [lg_entry_eq]
  generalize (lg_sl ([.ref qa, .int x]) ++ List.replicate (4 - (lg_sl ([.ref qa, .int x])).length) Slot.unset).toArray = ls at hl ⊢
  have hl : lv_has ls 4 [(0, .ref qa), (1, .int x)] := hl
  have loop : ∀ (k a : Nat) (y : Int32) (ls : Array Slot), n < a + k → a ≤ n → y = wo_ Wt x a → lv_has ls 4 [(3, .int (nI a)), (2, .int y), (0, .ref qa), (1, .int x)] → W p l e (headSpec wsX0_weightOf ({ frames := 0, cells := 0, slots := 0, locals := 0 } : Room)).room s m ([.ref qa, .int x] : List Value).toArray below meth c s.heap [] 0 0 (MQ below (vp_Si (fun r => r = wo_ Wt x n)) ([.ref qa, .int x] : List Value).toArray s 0 0 (fun _ => False)) (F0 m 4 ls []) := by
    intro k
    induction k with
    | zero => intro a y ls h1 h2; omega
    | succ k ih =>
      intro a y ls h1 h2 hy hl
      refine lv_iload_n hx hb dX0_weightOf_4 rfl (lv_at hl 0 rfl) ?_
      refine lv_aload_n hx hb dX0_weightOf_5 rfl (lv_at hl 2 rfl) ?_
      refine va_get (D := D) (ci := 1) (v := .int (nI n)) (C := RX0) (T := TX0) (N := 7) hx hb hts iX0 hown hK hP 0 rfl rfl 4 (by decide) (hts (.fieldLink RX0 25 "LeastSets$Axioms" "count" "I") (by decide +kernel)) (fun _ h9 => h9) rfl dX0_weightOf_6 ?_
      refine r_ige hx hb (tgt := 35) (by omega) (by omega) dX0_weightOf_9 (by decide) (fun c_9 => ?_) (fun c_9 => ?_)
      · refine lv_iload_n hx hb dX0_weightOf_35 rfl (lv_at hl 1 rfl) ?_
        exact W.iret (v := y) hx hb hr (fun t ht hW => ⟨y, rfl, (by rw [hy, show a = n by omega]), ht⟩) (fun q h => by cases h) dX0_weightOf_36
      · refine lv_iload_n hx hb dX0_weightOf_12 rfl (lv_at hl 3 rfl) ?_
        refine lv_iload_n hx hb dX0_weightOf_13 rfl (lv_at hl 0 rfl) ?_
        refine lv_ishr hx hb dX0_weightOf_14 ?_
        refine lv_iconst (v := 1) hx hb dX0_weightOf_15 (by decide +kernel) ?_
        refine lv_iand hx hb dX0_weightOf_16 ?_
        refine lv_if_eq (tgt := 29) hx hb dX0_weightOf_17 (by decide) (fun c_17 => ?_) (fun c_17 => ?_)
        · refine lv_iinc (v := (nI (a + 1))) (lv' := [(3, .int (nI (a + 1))), (2, .int y), (0, .ref qa), (1, .int x)]) hx hb dX0_weightOf_29 hl (k := 0) rfl (nI_inc _) (by decide) rfl (fun ls hl => ?_)
          refine lv_goto (tgt := 4) hx hb dX0_weightOf_32 (by decide) ?_
          exact ih (a + 1) _ ls (by omega) (by omega) (by first | rw [wo_no (by omega) c_17, hy] | rw [wo_yes (by omega) c_17, hy]) (lv_sub hl [0, 1, 2, 3] rfl)
        · refine lv_iload_n hx hb dX0_weightOf_20 rfl (lv_at hl 1 rfl) ?_
          refine lv_aload_n hx hb dX0_weightOf_21 rfl (lv_at hl 2 rfl) ?_
          refine va_get (D := D) (ci := 1) (v := .ref qw) (C := RX0) (T := TX0) (N := 7) hx hb hts iX0 hown hK hP 0 rfl rfl 2 (by decide) (hts (.fieldLink RX0 18 "LeastSets$Axioms" "weight" "[I") (by decide +kernel)) (fun _ h9 => h9) rfl dX0_weightOf_22 ?_
          refine lv_iload_n hx hb dX0_weightOf_25 rfl (lv_at hl 0 rfl) ?_
          refine r_iald hx hb hK hP 1 0 rfl rfl a (by omega) (by omega) dX0_weightOf_26 ?_
          refine lv_iadd hx hb dX0_weightOf_27 ?_
          refine lv_istore_n (lv' := [(2, .int (y + (Wt a))), (3, .int (nI a)), (0, .ref qa), (1, .int x)]) hx hb dX0_weightOf_28 rfl hl (by decide) rfl (fun ls hl => ?_)
          refine lv_iinc (v := (nI (a + 1))) (lv' := [(3, .int (nI (a + 1))), (2, .int (y + (Wt a))), (0, .ref qa), (1, .int x)]) hx hb dX0_weightOf_29 hl (k := 1) rfl (nI_inc _) (by decide) rfl (fun ls hl => ?_)
          refine lv_goto (tgt := 4) hx hb dX0_weightOf_32 (by decide) ?_
          exact ih (a + 1) _ ls (by omega) (by omega) (by first | rw [wo_no (by omega) c_17, hy] | rw [wo_yes (by omega) c_17, hy]) (lv_sub hl [0, 1, 2, 3] rfl)
  refine lv_iconst (v := 0) hx hb dX0_weightOf_0 (by decide +kernel) ?_
  refine lv_istore_n (lv' := [(2, .int 0), (0, .ref qa), (1, .int x)]) hx hb dX0_weightOf_1 rfl hl (by decide) rfl (fun ls hl => ?_)
  refine lv_iconst (v := (nI 0)) hx hb dX0_weightOf_2 (by decide +kernel) ?_
  refine lv_istore_n (lv' := [(3, .int (nI 0)), (2, .int 0), (0, .ref qa), (1, .int x)]) hx hb dX0_weightOf_3 rfl hl (by decide) rfl (fun ls hl => ?_)
  exact loop (n + 1) 0 _ ls (by omega) (Nat.zero_le _) (by rfl) (lv_sub hl [0, 1, 2, 3] rfl)
set_option maxHeartbeats 4000000 in
set_option maxRecDepth 100000 in
/-- oneStepMore(x, f) -/
theorem c_X0_oneStepMore (l : Launch) (D : va_G) (cI cZ cJ : ClassId) (qa qb qh qw qf qu qg : Nat) (n : Nat) (hn : n ≤ 14) (Bd Hd : Nat → Int32) (x f : Int32) : Met l yX0_oneStepMore wsX0_oneStepMore ({ frames := 0, cells := 0, slots := 0, locals := 0 } : Room) (va_Pc [.ref qa, .int x, .int f] (ro_ D [(cI, .int), (cZ, .boolean), (cJ, .long)] [(qa, .inr (1, [.ref qb, .ref qh, .ref qw, .ref qf, .int (nI n), .ref qu, .ref qg])), (qb, .inl (cI, 14, .inl Bd)), (qh, .inl (cI, 14, .inl Hd))])) (vp_Si (fun r => r = cs_ Bd Hd x f n)) 0 0 (fun _ => False) := by
  refine Met.ofW (cc := cX0_oneStepMore) (maxL := 5) (ret := (some .int)) (by decide) rfl ?_
  intro p e s m args below meth c s₁ B hml hv
  obtain ⟨rfl, hP, hK⟩ := hv
  have hx := B.exec
  have hb := B.bytes
  have hr := B.returns
  have hts := atoms_spec (ws := wsX0_oneStepMore) B.pre
  have hown : s.vm.findClass RX0 = some m.cls := findClass_of_methodNamed B.named
  have hlocks := B.notSynchronized
  have iX0 : ∀ w ∈ u_ws RX0 TX0 7, w ∈ wsX0_oneStepMore := by decide +kernel
  have hl := lv_entry ([.ref qa, .int x, .int f]) (n := 5) (Nat.le_of_ble_eq_true rfl)
  rw [lg_entry_eq]
  generalize (lg_sl ([.ref qa, .int x, .int f]) ++ List.replicate (5 - (lg_sl ([.ref qa, .int x, .int f])).length) Slot.unset).toArray = ls at hl ⊢
  have hl : lv_has ls 5 [(0, .ref qa), (1, .int x), (2, .int f)] := hl
  have loop : ∀ (k a : Nat) (y : Int32) (ls : Array Slot), n < a + k → a ≤ n → y = cs_ Bd Hd x f a → lv_has ls 5 [(4, .int (nI a)), (3, .int y), (0, .ref qa), (1, .int x), (2, .int f)] → W p l e (headSpec wsX0_oneStepMore ({ frames := 0, cells := 0, slots := 0, locals := 0 } : Room)).room s m ([.ref qa, .int x, .int f] : List Value).toArray below meth c s.heap [] 0 0 (MQ below (vp_Si (fun r => r = cs_ Bd Hd x f n)) ([.ref qa, .int x, .int f] : List Value).toArray s 0 0 (fun _ => False)) (F0 m 5 ls []) := by
    intro k
    induction k with
    | zero => intro a y ls h1 h2; omega
    | succ k ih =>
      intro a y ls h1 h2 hy hl
      refine lv_iload hx hb dX0_oneStepMore_5 (lv_at hl 0 rfl) ?_
      refine lv_aload_n hx hb dX0_oneStepMore_7 rfl (lv_at hl 2 rfl) ?_
      refine va_get (D := D) (ci := 1) (v := .int (nI n)) (C := RX0) (T := TX0) (N := 7) hx hb hts iX0 hown hK hP 0 rfl rfl 4 (by decide) (hts (.fieldLink RX0 25 "LeastSets$Axioms" "count" "I") (by decide +kernel)) (fun _ h9 => h9) rfl dX0_oneStepMore_8 ?_
      refine r_ige hx hb (tgt := 55) (by omega) (by omega) dX0_oneStepMore_11 (by decide) (fun c_11 => ?_) (fun c_11 => ?_)
      · refine lv_iload_n hx hb dX0_oneStepMore_55 rfl (lv_at hl 1 rfl) ?_
        exact W.iret (v := y) hx hb hr (fun t ht hW => ⟨y, rfl, (by rw [hy, show a = n by omega]), ht⟩) (fun q h => by cases h) dX0_oneStepMore_56
      · refine lv_iload_n hx hb dX0_oneStepMore_14 rfl (lv_at hl 3 rfl) ?_
        refine lv_iload hx hb dX0_oneStepMore_15 (lv_at hl 0 rfl) ?_
        refine lv_ishr hx hb dX0_oneStepMore_17 ?_
        refine lv_iconst (v := 1) hx hb dX0_oneStepMore_18 (by decide +kernel) ?_
        refine lv_iand hx hb dX0_oneStepMore_19 ?_
        refine lv_if_eq (tgt := 49) hx hb dX0_oneStepMore_20 (by decide) (fun c_20 => ?_) (fun c_20 => ?_)
        · refine lv_iinc (v := (nI (a + 1))) (lv' := [(4, .int (nI (a + 1))), (3, .int y), (0, .ref qa), (1, .int x), (2, .int f)]) hx hb dX0_oneStepMore_49 hl (k := 0) rfl (nI_inc _) (by decide) rfl (fun ls hl => ?_)
          refine lv_goto (tgt := 5) hx hb dX0_oneStepMore_52 (by decide) ?_
          exact ih (a + 1) _ ls (by omega) (by omega) (by first | rw [cs_no1 (by omega) c_20, hy] | rw [cs_no2 c_34, hy] | rw [cs_yes (by omega) c_20 c_34, hy]) (lv_sub hl [0, 1, 2, 3, 4] rfl)
        · refine lv_aload_n hx hb dX0_oneStepMore_23 rfl (lv_at hl 2 rfl) ?_
          refine va_get (D := D) (ci := 1) (v := .ref qb) (C := RX0) (T := TX0) (N := 7) hx hb hts iX0 hown hK hP 0 rfl rfl 0 (by decide) (hts (.fieldLink RX0 9 "LeastSets$Axioms" "body" "[I") (by decide +kernel)) (fun _ h9 => h9) rfl dX0_oneStepMore_24 ?_
          refine lv_iload hx hb dX0_oneStepMore_27 (lv_at hl 0 rfl) ?_
          refine r_iald hx hb hK hP 1 0 rfl rfl a (by omega) (by omega) dX0_oneStepMore_29 ?_
          refine lv_iload_n hx hb dX0_oneStepMore_30 rfl (lv_at hl 4 rfl) ?_
          refine lv_iconst (v := (-1)) hx hb dX0_oneStepMore_31 (by decide +kernel) ?_
          refine lv_ixor hx hb dX0_oneStepMore_32 ?_
          refine lv_iand hx hb dX0_oneStepMore_33 ?_
          refine lv_if_ne (tgt := 49) hx hb dX0_oneStepMore_34 (by decide) (fun c_34 => ?_) (fun c_34 => ?_)
          · refine lv_iinc (v := (nI (a + 1))) (lv' := [(4, .int (nI (a + 1))), (3, .int y), (0, .ref qa), (1, .int x), (2, .int f)]) hx hb dX0_oneStepMore_49 hl (k := 0) rfl (nI_inc _) (by decide) rfl (fun ls hl => ?_)
            refine lv_goto (tgt := 5) hx hb dX0_oneStepMore_52 (by decide) ?_
            exact ih (a + 1) _ ls (by omega) (by omega) (by first | rw [cs_no1 (by omega) c_20, hy] | rw [cs_no2 c_34, hy] | rw [cs_yes (by omega) c_20 c_34, hy]) (lv_sub hl [0, 1, 2, 3, 4] rfl)
          · refine lv_iload_n hx hb dX0_oneStepMore_37 rfl (lv_at hl 1 rfl) ?_
            refine lv_iconst (v := 1) hx hb dX0_oneStepMore_38 (by decide +kernel) ?_
            refine lv_aload_n hx hb dX0_oneStepMore_39 rfl (lv_at hl 2 rfl) ?_
            refine va_get (D := D) (ci := 1) (v := .ref qh) (C := RX0) (T := TX0) (N := 7) hx hb hts iX0 hown hK hP 0 rfl rfl 1 (by decide) (hts (.fieldLink RX0 15 "LeastSets$Axioms" "head" "[I") (by decide +kernel)) (fun _ h9 => h9) rfl dX0_oneStepMore_40 ?_
            refine lv_iload hx hb dX0_oneStepMore_43 (lv_at hl 0 rfl) ?_
            refine r_iald hx hb hK hP 2 0 rfl rfl a (by omega) (by omega) dX0_oneStepMore_45 ?_
            refine lv_ishl hx hb dX0_oneStepMore_46 ?_
            refine lv_ior hx hb dX0_oneStepMore_47 ?_
            refine lv_istore_n (lv' := [(3, .int (y ||| (1 <<< ((Hd a) &&& 31)))), (4, .int (nI a)), (0, .ref qa), (1, .int x), (2, .int f)]) hx hb dX0_oneStepMore_48 rfl hl (by decide) rfl (fun ls hl => ?_)
            refine lv_iinc (v := (nI (a + 1))) (lv' := [(4, .int (nI (a + 1))), (3, .int (y ||| (1 <<< ((Hd a) &&& 31)))), (0, .ref qa), (1, .int x), (2, .int f)]) hx hb dX0_oneStepMore_49 hl (k := 1) rfl (nI_inc _) (by decide) rfl (fun ls hl => ?_)
            refine lv_goto (tgt := 5) hx hb dX0_oneStepMore_52 (by decide) ?_
            exact ih (a + 1) _ ls (by omega) (by omega) (by first | rw [cs_no1 (by omega) c_20, hy] | rw [cs_no2 c_34, hy] | rw [cs_yes (by omega) c_20 c_34, hy]) (lv_sub hl [0, 1, 2, 3, 4] rfl)
  refine lv_iload_n hx hb dX0_oneStepMore_0 rfl (lv_at hl 2 rfl) ?_
  refine lv_istore_n (lv' := [(3, .int f), (0, .ref qa), (1, .int x), (2, .int f)]) hx hb dX0_oneStepMore_1 rfl hl (by decide) rfl (fun ls hl => ?_)
  refine lv_iconst (v := (nI 0)) hx hb dX0_oneStepMore_2 (by decide +kernel) ?_
  refine lv_istore (lv' := [(4, .int (nI 0)), (3, .int f), (0, .ref qa), (1, .int x), (2, .int f)]) hx hb dX0_oneStepMore_3 hl (by decide) rfl (fun ls hl => ?_)
  exact loop (n + 1) 0 _ ls (by omega) (Nat.zero_le _) (by rfl) (lv_sub hl [0, 1, 2, 3, 4] rfl)
end
section
set_option maxHeartbeats 4000000 in
set_option maxRecDepth 100000 in
/-- Integer.bitCount(x) -/
theorem c_J6_bitCount_0f7a4 (l : Launch) (x : Int32) : Met l yJ6_bitCount_0f7a4 wsJ6_bitCount_0f7a4 ({ frames := 0, cells := 0, slots := 0, locals := 0 } : Room) (va_Pc [.int x] (fun _ => True)) (vp_Si (fun r => r = bc_ x)) 0 0 (fun _ => False) := by
  refine Met.ofW (cc := cJ6_bitCount_0f7a4) (maxL := 1) (ret := (some .int)) (by decide) rfl ?_
  intro p e s m args below meth c s₁ B hml hv
  obtain ⟨rfl, -⟩ := hv
  have hx := B.exec
  have hb := B.bytes
  have hr := B.returns
  have hts := atoms_spec (ws := wsJ6_bitCount_0f7a4) B.pre
  have hown : s.vm.findClass RJ6 = some m.cls := findClass_of_methodNamed B.named
  have hlocks := B.notSynchronized
  have hl := lv_entry ([.int x]) (n := 1) (Nat.le_of_ble_eq_true rfl)
  rw [lg_entry_eq]
  generalize (lg_sl ([.int x]) ++ List.replicate (1 - (lg_sl ([.int x])).length) Slot.unset).toArray = ls at hl ⊢
  have hl : lv_has ls 1 [(0, .int x)] := hl
  refine lv_iload_n hx hb dJ6_bitCount_0f7a4_0 rfl (lv_at hl 0 rfl) ?_
  refine lv_iload_n hx hb dJ6_bitCount_0f7a4_1 rfl (lv_at hl 0 rfl) ?_
  refine lv_iconst (v := 1) hx hb dJ6_bitCount_0f7a4_2 (by decide +kernel) ?_
  refine lv_iushr (v := (us_ x 1)) hx hb dJ6_bitCount_0f7a4_3 rfl ?_
  refine lv_ldcw (v := 1431655765) hx hb hown (hts (.constant RJ6 265 (1431655765)) (by decide +kernel)) dJ6_bitCount_0f7a4_4 ?_
  refine lv_iand hx hb dJ6_bitCount_0f7a4_7 ?_
  refine lv_isub hx hb dJ6_bitCount_0f7a4_8 ?_
  refine lv_istore_n (lv' := [(0, .int (x - ((us_ x 1) &&& 1431655765)))]) hx hb dJ6_bitCount_0f7a4_9 rfl hl (by decide) rfl (fun ls hl => ?_)
  refine lv_iload_n hx hb dJ6_bitCount_0f7a4_10 rfl (lv_at hl 0 rfl) ?_
  refine lv_ldcw (v := 858993459) hx hb hown (hts (.constant RJ6 266 (858993459)) (by decide +kernel)) dJ6_bitCount_0f7a4_11 ?_
  refine lv_iand hx hb dJ6_bitCount_0f7a4_14 ?_
  refine lv_iload_n hx hb dJ6_bitCount_0f7a4_15 rfl (lv_at hl 0 rfl) ?_
  refine lv_iconst (v := 2) hx hb dJ6_bitCount_0f7a4_16 (by decide +kernel) ?_
  refine lv_iushr (v := (us_ (x - ((us_ x 1) &&& 1431655765)) 2)) hx hb dJ6_bitCount_0f7a4_17 rfl ?_
  refine lv_ldcw (v := 858993459) hx hb hown (hts (.constant RJ6 266 (858993459)) (by decide +kernel)) dJ6_bitCount_0f7a4_18 ?_
  refine lv_iand hx hb dJ6_bitCount_0f7a4_21 ?_
  refine lv_iadd hx hb dJ6_bitCount_0f7a4_22 ?_
  refine lv_istore_n (lv' := [(0, .int (((x - ((us_ x 1) &&& 1431655765)) &&& 858993459) + ((us_ (x - ((us_ x 1) &&& 1431655765)) 2) &&& 858993459)))]) hx hb dJ6_bitCount_0f7a4_23 rfl hl (by decide) rfl (fun ls hl => ?_)
  refine lv_iload_n hx hb dJ6_bitCount_0f7a4_24 rfl (lv_at hl 0 rfl) ?_
  refine lv_iload_n hx hb dJ6_bitCount_0f7a4_25 rfl (lv_at hl 0 rfl) ?_
  refine lv_iconst (v := 4) hx hb dJ6_bitCount_0f7a4_26 (by decide +kernel) ?_
  refine lv_iushr (v := (us_ (((x - ((us_ x 1) &&& 1431655765)) &&& 858993459) + ((us_ (x - ((us_ x 1) &&& 1431655765)) 2) &&& 858993459)) 4)) hx hb dJ6_bitCount_0f7a4_27 rfl ?_
  refine lv_iadd hx hb dJ6_bitCount_0f7a4_28 ?_
  refine lv_ldcw (v := 252645135) hx hb hown (hts (.constant RJ6 267 (252645135)) (by decide +kernel)) dJ6_bitCount_0f7a4_29 ?_
  refine lv_iand hx hb dJ6_bitCount_0f7a4_32 ?_
  refine lv_istore_n (lv' := [(0, .int (((((x - ((us_ x 1) &&& 1431655765)) &&& 858993459) + ((us_ (x - ((us_ x 1) &&& 1431655765)) 2) &&& 858993459)) + (us_ (((x - ((us_ x 1) &&& 1431655765)) &&& 858993459) + ((us_ (x - ((us_ x 1) &&& 1431655765)) 2) &&& 858993459)) 4)) &&& 252645135))]) hx hb dJ6_bitCount_0f7a4_33 rfl hl (by decide) rfl (fun ls hl => ?_)
  refine lv_iload_n hx hb dJ6_bitCount_0f7a4_34 rfl (lv_at hl 0 rfl) ?_
  refine lv_iload_n hx hb dJ6_bitCount_0f7a4_35 rfl (lv_at hl 0 rfl) ?_
  refine lv_bipush (v := 8) hx hb dJ6_bitCount_0f7a4_36 (by decide +kernel) ?_
  refine lv_iushr (v := (us_ (((((x - ((us_ x 1) &&& 1431655765)) &&& 858993459) + ((us_ (x - ((us_ x 1) &&& 1431655765)) 2) &&& 858993459)) + (us_ (((x - ((us_ x 1) &&& 1431655765)) &&& 858993459) + ((us_ (x - ((us_ x 1) &&& 1431655765)) 2) &&& 858993459)) 4)) &&& 252645135) 8)) hx hb dJ6_bitCount_0f7a4_38 rfl ?_
  refine lv_iadd hx hb dJ6_bitCount_0f7a4_39 ?_
  refine lv_istore_n (lv' := [(0, .int ((((((x - ((us_ x 1) &&& 1431655765)) &&& 858993459) + ((us_ (x - ((us_ x 1) &&& 1431655765)) 2) &&& 858993459)) + (us_ (((x - ((us_ x 1) &&& 1431655765)) &&& 858993459) + ((us_ (x - ((us_ x 1) &&& 1431655765)) 2) &&& 858993459)) 4)) &&& 252645135) + (us_ (((((x - ((us_ x 1) &&& 1431655765)) &&& 858993459) + ((us_ (x - ((us_ x 1) &&& 1431655765)) 2) &&& 858993459)) + (us_ (((x - ((us_ x 1) &&& 1431655765)) &&& 858993459) + ((us_ (x - ((us_ x 1) &&& 1431655765)) 2) &&& 858993459)) 4)) &&& 252645135) 8)))]) hx hb dJ6_bitCount_0f7a4_40 rfl hl (by decide) rfl (fun ls hl => ?_)
  refine lv_iload_n hx hb dJ6_bitCount_0f7a4_41 rfl (lv_at hl 0 rfl) ?_
  refine lv_iload_n hx hb dJ6_bitCount_0f7a4_42 rfl (lv_at hl 0 rfl) ?_
  refine lv_bipush (v := 16) hx hb dJ6_bitCount_0f7a4_43 (by decide +kernel) ?_
  refine lv_iushr (v := (us_ ((((((x - ((us_ x 1) &&& 1431655765)) &&& 858993459) + ((us_ (x - ((us_ x 1) &&& 1431655765)) 2) &&& 858993459)) + (us_ (((x - ((us_ x 1) &&& 1431655765)) &&& 858993459) + ((us_ (x - ((us_ x 1) &&& 1431655765)) 2) &&& 858993459)) 4)) &&& 252645135) + (us_ (((((x - ((us_ x 1) &&& 1431655765)) &&& 858993459) + ((us_ (x - ((us_ x 1) &&& 1431655765)) 2) &&& 858993459)) + (us_ (((x - ((us_ x 1) &&& 1431655765)) &&& 858993459) + ((us_ (x - ((us_ x 1) &&& 1431655765)) 2) &&& 858993459)) 4)) &&& 252645135) 8)) 16)) hx hb dJ6_bitCount_0f7a4_45 rfl ?_
  refine lv_iadd hx hb dJ6_bitCount_0f7a4_46 ?_
  refine lv_istore_n (lv' := [(0, .int (((((((x - ((us_ x 1) &&& 1431655765)) &&& 858993459) + ((us_ (x - ((us_ x 1) &&& 1431655765)) 2) &&& 858993459)) + (us_ (((x - ((us_ x 1) &&& 1431655765)) &&& 858993459) + ((us_ (x - ((us_ x 1) &&& 1431655765)) 2) &&& 858993459)) 4)) &&& 252645135) + (us_ (((((x - ((us_ x 1) &&& 1431655765)) &&& 858993459) + ((us_ (x - ((us_ x 1) &&& 1431655765)) 2) &&& 858993459)) + (us_ (((x - ((us_ x 1) &&& 1431655765)) &&& 858993459) + ((us_ (x - ((us_ x 1) &&& 1431655765)) 2) &&& 858993459)) 4)) &&& 252645135) 8)) + (us_ ((((((x - ((us_ x 1) &&& 1431655765)) &&& 858993459) + ((us_ (x - ((us_ x 1) &&& 1431655765)) 2) &&& 858993459)) + (us_ (((x - ((us_ x 1) &&& 1431655765)) &&& 858993459) + ((us_ (x - ((us_ x 1) &&& 1431655765)) 2) &&& 858993459)) 4)) &&& 252645135) + (us_ (((((x - ((us_ x 1) &&& 1431655765)) &&& 858993459) + ((us_ (x - ((us_ x 1) &&& 1431655765)) 2) &&& 858993459)) + (us_ (((x - ((us_ x 1) &&& 1431655765)) &&& 858993459) + ((us_ (x - ((us_ x 1) &&& 1431655765)) 2) &&& 858993459)) 4)) &&& 252645135) 8)) 16)))]) hx hb dJ6_bitCount_0f7a4_47 rfl hl (by decide) rfl (fun ls hl => ?_)
  refine lv_iload_n hx hb dJ6_bitCount_0f7a4_48 rfl (lv_at hl 0 rfl) ?_
  refine lv_bipush (v := 63) hx hb dJ6_bitCount_0f7a4_49 (by decide +kernel) ?_
  refine lv_iand hx hb dJ6_bitCount_0f7a4_51 ?_
  exact W.iret (v := ((((((((x - ((us_ x 1) &&& 1431655765)) &&& 858993459) + ((us_ (x - ((us_ x 1) &&& 1431655765)) 2) &&& 858993459)) + (us_ (((x - ((us_ x 1) &&& 1431655765)) &&& 858993459) + ((us_ (x - ((us_ x 1) &&& 1431655765)) 2) &&& 858993459)) 4)) &&& 252645135) + (us_ (((((x - ((us_ x 1) &&& 1431655765)) &&& 858993459) + ((us_ (x - ((us_ x 1) &&& 1431655765)) 2) &&& 858993459)) + (us_ (((x - ((us_ x 1) &&& 1431655765)) &&& 858993459) + ((us_ (x - ((us_ x 1) &&& 1431655765)) 2) &&& 858993459)) 4)) &&& 252645135) 8)) + (us_ ((((((x - ((us_ x 1) &&& 1431655765)) &&& 858993459) + ((us_ (x - ((us_ x 1) &&& 1431655765)) 2) &&& 858993459)) + (us_ (((x - ((us_ x 1) &&& 1431655765)) &&& 858993459) + ((us_ (x - ((us_ x 1) &&& 1431655765)) 2) &&& 858993459)) 4)) &&& 252645135) + (us_ (((((x - ((us_ x 1) &&& 1431655765)) &&& 858993459) + ((us_ (x - ((us_ x 1) &&& 1431655765)) 2) &&& 858993459)) + (us_ (((x - ((us_ x 1) &&& 1431655765)) &&& 858993459) + ((us_ (x - ((us_ x 1) &&& 1431655765)) 2) &&& 858993459)) 4)) &&& 252645135) 8)) 16)) &&& 63)) hx hb hr (fun t ht hW => ⟨((((((((x - ((us_ x 1) &&& 1431655765)) &&& 858993459) + ((us_ (x - ((us_ x 1) &&& 1431655765)) 2) &&& 858993459)) + (us_ (((x - ((us_ x 1) &&& 1431655765)) &&& 858993459) + ((us_ (x - ((us_ x 1) &&& 1431655765)) 2) &&& 858993459)) 4)) &&& 252645135) + (us_ (((((x - ((us_ x 1) &&& 1431655765)) &&& 858993459) + ((us_ (x - ((us_ x 1) &&& 1431655765)) 2) &&& 858993459)) + (us_ (((x - ((us_ x 1) &&& 1431655765)) &&& 858993459) + ((us_ (x - ((us_ x 1) &&& 1431655765)) 2) &&& 858993459)) 4)) &&& 252645135) 8)) + (us_ ((((((x - ((us_ x 1) &&& 1431655765)) &&& 858993459) + ((us_ (x - ((us_ x 1) &&& 1431655765)) 2) &&& 858993459)) + (us_ (((x - ((us_ x 1) &&& 1431655765)) &&& 858993459) + ((us_ (x - ((us_ x 1) &&& 1431655765)) 2) &&& 858993459)) 4)) &&& 252645135) + (us_ (((((x - ((us_ x 1) &&& 1431655765)) &&& 858993459) + ((us_ (x - ((us_ x 1) &&& 1431655765)) 2) &&& 858993459)) + (us_ (((x - ((us_ x 1) &&& 1431655765)) &&& 858993459) + ((us_ (x - ((us_ x 1) &&& 1431655765)) 2) &&& 858993459)) 4)) &&& 252645135) 8)) 16)) &&& 63), rfl, rfl, ht⟩) (fun q h => by cases h) dJ6_bitCount_0f7a4_52
set_option maxHeartbeats 4000000 in
set_option maxRecDepth 100000 in
/-- Long.bitCount(x) -/
theorem c_J13_bitCount_95d88 (l : Launch) (x : Int64) : Met l yJ13_bitCount_95d88 wsJ13_bitCount_95d88 ({ frames := 0, cells := 0, slots := 0, locals := 0 } : Room) (va_Pc [.long x] (fun _ => True)) (vp_Si (fun r => r = lc_ x)) 0 0 (fun _ => False) := by
  refine Met.ofW (cc := cJ13_bitCount_95d88) (maxL := 2) (ret := (some .int)) (by decide) rfl ?_
  intro p e s m args below meth c s₁ B hml hv
  obtain ⟨rfl, -⟩ := hv
  have hx := B.exec
  have hb := B.bytes
  have hr := B.returns
  have hts := atoms_spec (ws := wsJ13_bitCount_95d88) B.pre
  have hown : s.vm.findClass RJ13 = some m.cls := findClass_of_methodNamed B.named
  have hlocks := B.notSynchronized
  have hl := lv_entry ([.long x]) (n := 2) (Nat.le_of_ble_eq_true rfl)
  rw [lg_entry_eq]
  generalize (lg_sl ([.long x]) ++ List.replicate (2 - (lg_sl ([.long x])).length) Slot.unset).toArray = ls at hl ⊢
  have hl : lv_has ls 2 [(0, .long x)] := hl
  refine lv_lload_n hx hb dJ13_bitCount_95d88_0 rfl (lv_at hl 0 rfl) ?_
  refine lv_lload_n hx hb dJ13_bitCount_95d88_1 rfl (lv_at hl 0 rfl) ?_
  refine lv_iconst (v := 1) hx hb dJ13_bitCount_95d88_2 (by decide +kernel) ?_
  refine lv_lushr (v := (uls_ x 1)) hx hb dJ13_bitCount_95d88_3 rfl ?_
  refine lv_ldc2 (v := (6148914691236517205)) hx hb hown (hts (.constantLong RJ13 314 (6148914691236517205)) (by decide +kernel)) dJ13_bitCount_95d88_4 ?_
  refine lv_land hx hb dJ13_bitCount_95d88_7 ?_
  refine lv_lsub hx hb dJ13_bitCount_95d88_8 ?_
  refine lv_lstore_n (lv' := [(0, .long (x - ((uls_ x 1) &&& (6148914691236517205))))]) hx hb dJ13_bitCount_95d88_9 rfl hl (by decide) rfl (fun ls hl => ?_)
  refine lv_lload_n hx hb dJ13_bitCount_95d88_10 rfl (lv_at hl 0 rfl) ?_
  refine lv_ldc2 (v := (3689348814741910323)) hx hb hown (hts (.constantLong RJ13 316 (3689348814741910323)) (by decide +kernel)) dJ13_bitCount_95d88_11 ?_
  refine lv_land hx hb dJ13_bitCount_95d88_14 ?_
  refine lv_lload_n hx hb dJ13_bitCount_95d88_15 rfl (lv_at hl 0 rfl) ?_
  refine lv_iconst (v := 2) hx hb dJ13_bitCount_95d88_16 (by decide +kernel) ?_
  refine lv_lushr (v := (uls_ (x - ((uls_ x 1) &&& (6148914691236517205))) 2)) hx hb dJ13_bitCount_95d88_17 rfl ?_
  refine lv_ldc2 (v := (3689348814741910323)) hx hb hown (hts (.constantLong RJ13 316 (3689348814741910323)) (by decide +kernel)) dJ13_bitCount_95d88_18 ?_
  refine lv_land hx hb dJ13_bitCount_95d88_21 ?_
  refine lv_ladd hx hb dJ13_bitCount_95d88_22 ?_
  refine lv_lstore_n (lv' := [(0, .long (((x - ((uls_ x 1) &&& (6148914691236517205))) &&& (3689348814741910323)) + ((uls_ (x - ((uls_ x 1) &&& (6148914691236517205))) 2) &&& (3689348814741910323))))]) hx hb dJ13_bitCount_95d88_23 rfl hl (by decide) rfl (fun ls hl => ?_)
  refine lv_lload_n hx hb dJ13_bitCount_95d88_24 rfl (lv_at hl 0 rfl) ?_
  refine lv_lload_n hx hb dJ13_bitCount_95d88_25 rfl (lv_at hl 0 rfl) ?_
  refine lv_iconst (v := 4) hx hb dJ13_bitCount_95d88_26 (by decide +kernel) ?_
  refine lv_lushr (v := (uls_ (((x - ((uls_ x 1) &&& (6148914691236517205))) &&& (3689348814741910323)) + ((uls_ (x - ((uls_ x 1) &&& (6148914691236517205))) 2) &&& (3689348814741910323))) 4)) hx hb dJ13_bitCount_95d88_27 rfl ?_
  refine lv_ladd hx hb dJ13_bitCount_95d88_28 ?_
  refine lv_ldc2 (v := (1085102592571150095)) hx hb hown (hts (.constantLong RJ13 318 (1085102592571150095)) (by decide +kernel)) dJ13_bitCount_95d88_29 ?_
  refine lv_land hx hb dJ13_bitCount_95d88_32 ?_
  refine lv_lstore_n (lv' := [(0, .long (((((x - ((uls_ x 1) &&& (6148914691236517205))) &&& (3689348814741910323)) + ((uls_ (x - ((uls_ x 1) &&& (6148914691236517205))) 2) &&& (3689348814741910323))) + (uls_ (((x - ((uls_ x 1) &&& (6148914691236517205))) &&& (3689348814741910323)) + ((uls_ (x - ((uls_ x 1) &&& (6148914691236517205))) 2) &&& (3689348814741910323))) 4)) &&& (1085102592571150095)))]) hx hb dJ13_bitCount_95d88_33 rfl hl (by decide) rfl (fun ls hl => ?_)
  refine lv_lload_n hx hb dJ13_bitCount_95d88_34 rfl (lv_at hl 0 rfl) ?_
  refine lv_lload_n hx hb dJ13_bitCount_95d88_35 rfl (lv_at hl 0 rfl) ?_
  refine lv_bipush (v := 8) hx hb dJ13_bitCount_95d88_36 (by decide +kernel) ?_
  refine lv_lushr (v := (uls_ (((((x - ((uls_ x 1) &&& (6148914691236517205))) &&& (3689348814741910323)) + ((uls_ (x - ((uls_ x 1) &&& (6148914691236517205))) 2) &&& (3689348814741910323))) + (uls_ (((x - ((uls_ x 1) &&& (6148914691236517205))) &&& (3689348814741910323)) + ((uls_ (x - ((uls_ x 1) &&& (6148914691236517205))) 2) &&& (3689348814741910323))) 4)) &&& (1085102592571150095)) 8)) hx hb dJ13_bitCount_95d88_38 rfl ?_
  refine lv_ladd hx hb dJ13_bitCount_95d88_39 ?_
  refine lv_lstore_n (lv' := [(0, .long ((((((x - ((uls_ x 1) &&& (6148914691236517205))) &&& (3689348814741910323)) + ((uls_ (x - ((uls_ x 1) &&& (6148914691236517205))) 2) &&& (3689348814741910323))) + (uls_ (((x - ((uls_ x 1) &&& (6148914691236517205))) &&& (3689348814741910323)) + ((uls_ (x - ((uls_ x 1) &&& (6148914691236517205))) 2) &&& (3689348814741910323))) 4)) &&& (1085102592571150095)) + (uls_ (((((x - ((uls_ x 1) &&& (6148914691236517205))) &&& (3689348814741910323)) + ((uls_ (x - ((uls_ x 1) &&& (6148914691236517205))) 2) &&& (3689348814741910323))) + (uls_ (((x - ((uls_ x 1) &&& (6148914691236517205))) &&& (3689348814741910323)) + ((uls_ (x - ((uls_ x 1) &&& (6148914691236517205))) 2) &&& (3689348814741910323))) 4)) &&& (1085102592571150095)) 8)))]) hx hb dJ13_bitCount_95d88_40 rfl hl (by decide) rfl (fun ls hl => ?_)
  refine lv_lload_n hx hb dJ13_bitCount_95d88_41 rfl (lv_at hl 0 rfl) ?_
  refine lv_lload_n hx hb dJ13_bitCount_95d88_42 rfl (lv_at hl 0 rfl) ?_
  refine lv_bipush (v := 16) hx hb dJ13_bitCount_95d88_43 (by decide +kernel) ?_
  refine lv_lushr (v := (uls_ ((((((x - ((uls_ x 1) &&& (6148914691236517205))) &&& (3689348814741910323)) + ((uls_ (x - ((uls_ x 1) &&& (6148914691236517205))) 2) &&& (3689348814741910323))) + (uls_ (((x - ((uls_ x 1) &&& (6148914691236517205))) &&& (3689348814741910323)) + ((uls_ (x - ((uls_ x 1) &&& (6148914691236517205))) 2) &&& (3689348814741910323))) 4)) &&& (1085102592571150095)) + (uls_ (((((x - ((uls_ x 1) &&& (6148914691236517205))) &&& (3689348814741910323)) + ((uls_ (x - ((uls_ x 1) &&& (6148914691236517205))) 2) &&& (3689348814741910323))) + (uls_ (((x - ((uls_ x 1) &&& (6148914691236517205))) &&& (3689348814741910323)) + ((uls_ (x - ((uls_ x 1) &&& (6148914691236517205))) 2) &&& (3689348814741910323))) 4)) &&& (1085102592571150095)) 8)) 16)) hx hb dJ13_bitCount_95d88_45 rfl ?_
  refine lv_ladd hx hb dJ13_bitCount_95d88_46 ?_
  refine lv_lstore_n (lv' := [(0, .long (((((((x - ((uls_ x 1) &&& (6148914691236517205))) &&& (3689348814741910323)) + ((uls_ (x - ((uls_ x 1) &&& (6148914691236517205))) 2) &&& (3689348814741910323))) + (uls_ (((x - ((uls_ x 1) &&& (6148914691236517205))) &&& (3689348814741910323)) + ((uls_ (x - ((uls_ x 1) &&& (6148914691236517205))) 2) &&& (3689348814741910323))) 4)) &&& (1085102592571150095)) + (uls_ (((((x - ((uls_ x 1) &&& (6148914691236517205))) &&& (3689348814741910323)) + ((uls_ (x - ((uls_ x 1) &&& (6148914691236517205))) 2) &&& (3689348814741910323))) + (uls_ (((x - ((uls_ x 1) &&& (6148914691236517205))) &&& (3689348814741910323)) + ((uls_ (x - ((uls_ x 1) &&& (6148914691236517205))) 2) &&& (3689348814741910323))) 4)) &&& (1085102592571150095)) 8)) + (uls_ ((((((x - ((uls_ x 1) &&& (6148914691236517205))) &&& (3689348814741910323)) + ((uls_ (x - ((uls_ x 1) &&& (6148914691236517205))) 2) &&& (3689348814741910323))) + (uls_ (((x - ((uls_ x 1) &&& (6148914691236517205))) &&& (3689348814741910323)) + ((uls_ (x - ((uls_ x 1) &&& (6148914691236517205))) 2) &&& (3689348814741910323))) 4)) &&& (1085102592571150095)) + (uls_ (((((x - ((uls_ x 1) &&& (6148914691236517205))) &&& (3689348814741910323)) + ((uls_ (x - ((uls_ x 1) &&& (6148914691236517205))) 2) &&& (3689348814741910323))) + (uls_ (((x - ((uls_ x 1) &&& (6148914691236517205))) &&& (3689348814741910323)) + ((uls_ (x - ((uls_ x 1) &&& (6148914691236517205))) 2) &&& (3689348814741910323))) 4)) &&& (1085102592571150095)) 8)) 16)))]) hx hb dJ13_bitCount_95d88_47 rfl hl (by decide) rfl (fun ls hl => ?_)
  refine lv_lload_n hx hb dJ13_bitCount_95d88_48 rfl (lv_at hl 0 rfl) ?_
  refine lv_lload_n hx hb dJ13_bitCount_95d88_49 rfl (lv_at hl 0 rfl) ?_
  refine lv_bipush (v := 32) hx hb dJ13_bitCount_95d88_50 (by decide +kernel) ?_
  refine lv_lushr (v := (uls_ (((((((x - ((uls_ x 1) &&& (6148914691236517205))) &&& (3689348814741910323)) + ((uls_ (x - ((uls_ x 1) &&& (6148914691236517205))) 2) &&& (3689348814741910323))) + (uls_ (((x - ((uls_ x 1) &&& (6148914691236517205))) &&& (3689348814741910323)) + ((uls_ (x - ((uls_ x 1) &&& (6148914691236517205))) 2) &&& (3689348814741910323))) 4)) &&& (1085102592571150095)) + (uls_ (((((x - ((uls_ x 1) &&& (6148914691236517205))) &&& (3689348814741910323)) + ((uls_ (x - ((uls_ x 1) &&& (6148914691236517205))) 2) &&& (3689348814741910323))) + (uls_ (((x - ((uls_ x 1) &&& (6148914691236517205))) &&& (3689348814741910323)) + ((uls_ (x - ((uls_ x 1) &&& (6148914691236517205))) 2) &&& (3689348814741910323))) 4)) &&& (1085102592571150095)) 8)) + (uls_ ((((((x - ((uls_ x 1) &&& (6148914691236517205))) &&& (3689348814741910323)) + ((uls_ (x - ((uls_ x 1) &&& (6148914691236517205))) 2) &&& (3689348814741910323))) + (uls_ (((x - ((uls_ x 1) &&& (6148914691236517205))) &&& (3689348814741910323)) + ((uls_ (x - ((uls_ x 1) &&& (6148914691236517205))) 2) &&& (3689348814741910323))) 4)) &&& (1085102592571150095)) + (uls_ (((((x - ((uls_ x 1) &&& (6148914691236517205))) &&& (3689348814741910323)) + ((uls_ (x - ((uls_ x 1) &&& (6148914691236517205))) 2) &&& (3689348814741910323))) + (uls_ (((x - ((uls_ x 1) &&& (6148914691236517205))) &&& (3689348814741910323)) + ((uls_ (x - ((uls_ x 1) &&& (6148914691236517205))) 2) &&& (3689348814741910323))) 4)) &&& (1085102592571150095)) 8)) 16)) 32)) hx hb dJ13_bitCount_95d88_52 rfl ?_
  refine lv_ladd hx hb dJ13_bitCount_95d88_53 ?_
  refine lv_lstore_n (lv' := [(0, .long ((((((((x - ((uls_ x 1) &&& (6148914691236517205))) &&& (3689348814741910323)) + ((uls_ (x - ((uls_ x 1) &&& (6148914691236517205))) 2) &&& (3689348814741910323))) + (uls_ (((x - ((uls_ x 1) &&& (6148914691236517205))) &&& (3689348814741910323)) + ((uls_ (x - ((uls_ x 1) &&& (6148914691236517205))) 2) &&& (3689348814741910323))) 4)) &&& (1085102592571150095)) + (uls_ (((((x - ((uls_ x 1) &&& (6148914691236517205))) &&& (3689348814741910323)) + ((uls_ (x - ((uls_ x 1) &&& (6148914691236517205))) 2) &&& (3689348814741910323))) + (uls_ (((x - ((uls_ x 1) &&& (6148914691236517205))) &&& (3689348814741910323)) + ((uls_ (x - ((uls_ x 1) &&& (6148914691236517205))) 2) &&& (3689348814741910323))) 4)) &&& (1085102592571150095)) 8)) + (uls_ ((((((x - ((uls_ x 1) &&& (6148914691236517205))) &&& (3689348814741910323)) + ((uls_ (x - ((uls_ x 1) &&& (6148914691236517205))) 2) &&& (3689348814741910323))) + (uls_ (((x - ((uls_ x 1) &&& (6148914691236517205))) &&& (3689348814741910323)) + ((uls_ (x - ((uls_ x 1) &&& (6148914691236517205))) 2) &&& (3689348814741910323))) 4)) &&& (1085102592571150095)) + (uls_ (((((x - ((uls_ x 1) &&& (6148914691236517205))) &&& (3689348814741910323)) + ((uls_ (x - ((uls_ x 1) &&& (6148914691236517205))) 2) &&& (3689348814741910323))) + (uls_ (((x - ((uls_ x 1) &&& (6148914691236517205))) &&& (3689348814741910323)) + ((uls_ (x - ((uls_ x 1) &&& (6148914691236517205))) 2) &&& (3689348814741910323))) 4)) &&& (1085102592571150095)) 8)) 16)) + (uls_ (((((((x - ((uls_ x 1) &&& (6148914691236517205))) &&& (3689348814741910323)) + ((uls_ (x - ((uls_ x 1) &&& (6148914691236517205))) 2) &&& (3689348814741910323))) + (uls_ (((x - ((uls_ x 1) &&& (6148914691236517205))) &&& (3689348814741910323)) + ((uls_ (x - ((uls_ x 1) &&& (6148914691236517205))) 2) &&& (3689348814741910323))) 4)) &&& (1085102592571150095)) + (uls_ (((((x - ((uls_ x 1) &&& (6148914691236517205))) &&& (3689348814741910323)) + ((uls_ (x - ((uls_ x 1) &&& (6148914691236517205))) 2) &&& (3689348814741910323))) + (uls_ (((x - ((uls_ x 1) &&& (6148914691236517205))) &&& (3689348814741910323)) + ((uls_ (x - ((uls_ x 1) &&& (6148914691236517205))) 2) &&& (3689348814741910323))) 4)) &&& (1085102592571150095)) 8)) + (uls_ ((((((x - ((uls_ x 1) &&& (6148914691236517205))) &&& (3689348814741910323)) + ((uls_ (x - ((uls_ x 1) &&& (6148914691236517205))) 2) &&& (3689348814741910323))) + (uls_ (((x - ((uls_ x 1) &&& (6148914691236517205))) &&& (3689348814741910323)) + ((uls_ (x - ((uls_ x 1) &&& (6148914691236517205))) 2) &&& (3689348814741910323))) 4)) &&& (1085102592571150095)) + (uls_ (((((x - ((uls_ x 1) &&& (6148914691236517205))) &&& (3689348814741910323)) + ((uls_ (x - ((uls_ x 1) &&& (6148914691236517205))) 2) &&& (3689348814741910323))) + (uls_ (((x - ((uls_ x 1) &&& (6148914691236517205))) &&& (3689348814741910323)) + ((uls_ (x - ((uls_ x 1) &&& (6148914691236517205))) 2) &&& (3689348814741910323))) 4)) &&& (1085102592571150095)) 8)) 16)) 32)))]) hx hb dJ13_bitCount_95d88_54 rfl hl (by decide) rfl (fun ls hl => ?_)
  refine lv_lload_n hx hb dJ13_bitCount_95d88_55 rfl (lv_at hl 0 rfl) ?_
  refine lv_l2i (v := (Int64.toInt32 ((((((((x - ((uls_ x 1) &&& (6148914691236517205))) &&& (3689348814741910323)) + ((uls_ (x - ((uls_ x 1) &&& (6148914691236517205))) 2) &&& (3689348814741910323))) + (uls_ (((x - ((uls_ x 1) &&& (6148914691236517205))) &&& (3689348814741910323)) + ((uls_ (x - ((uls_ x 1) &&& (6148914691236517205))) 2) &&& (3689348814741910323))) 4)) &&& (1085102592571150095)) + (uls_ (((((x - ((uls_ x 1) &&& (6148914691236517205))) &&& (3689348814741910323)) + ((uls_ (x - ((uls_ x 1) &&& (6148914691236517205))) 2) &&& (3689348814741910323))) + (uls_ (((x - ((uls_ x 1) &&& (6148914691236517205))) &&& (3689348814741910323)) + ((uls_ (x - ((uls_ x 1) &&& (6148914691236517205))) 2) &&& (3689348814741910323))) 4)) &&& (1085102592571150095)) 8)) + (uls_ ((((((x - ((uls_ x 1) &&& (6148914691236517205))) &&& (3689348814741910323)) + ((uls_ (x - ((uls_ x 1) &&& (6148914691236517205))) 2) &&& (3689348814741910323))) + (uls_ (((x - ((uls_ x 1) &&& (6148914691236517205))) &&& (3689348814741910323)) + ((uls_ (x - ((uls_ x 1) &&& (6148914691236517205))) 2) &&& (3689348814741910323))) 4)) &&& (1085102592571150095)) + (uls_ (((((x - ((uls_ x 1) &&& (6148914691236517205))) &&& (3689348814741910323)) + ((uls_ (x - ((uls_ x 1) &&& (6148914691236517205))) 2) &&& (3689348814741910323))) + (uls_ (((x - ((uls_ x 1) &&& (6148914691236517205))) &&& (3689348814741910323)) + ((uls_ (x - ((uls_ x 1) &&& (6148914691236517205))) 2) &&& (3689348814741910323))) 4)) &&& (1085102592571150095)) 8)) 16)) + (uls_ (((((((x - ((uls_ x 1) &&& (6148914691236517205))) &&& (3689348814741910323)) + ((uls_ (x - ((uls_ x 1) &&& (6148914691236517205))) 2) &&& (3689348814741910323))) + (uls_ (((x - ((uls_ x 1) &&& (6148914691236517205))) &&& (3689348814741910323)) + ((uls_ (x - ((uls_ x 1) &&& (6148914691236517205))) 2) &&& (3689348814741910323))) 4)) &&& (1085102592571150095)) + (uls_ (((((x - ((uls_ x 1) &&& (6148914691236517205))) &&& (3689348814741910323)) + ((uls_ (x - ((uls_ x 1) &&& (6148914691236517205))) 2) &&& (3689348814741910323))) + (uls_ (((x - ((uls_ x 1) &&& (6148914691236517205))) &&& (3689348814741910323)) + ((uls_ (x - ((uls_ x 1) &&& (6148914691236517205))) 2) &&& (3689348814741910323))) 4)) &&& (1085102592571150095)) 8)) + (uls_ ((((((x - ((uls_ x 1) &&& (6148914691236517205))) &&& (3689348814741910323)) + ((uls_ (x - ((uls_ x 1) &&& (6148914691236517205))) 2) &&& (3689348814741910323))) + (uls_ (((x - ((uls_ x 1) &&& (6148914691236517205))) &&& (3689348814741910323)) + ((uls_ (x - ((uls_ x 1) &&& (6148914691236517205))) 2) &&& (3689348814741910323))) 4)) &&& (1085102592571150095)) + (uls_ (((((x - ((uls_ x 1) &&& (6148914691236517205))) &&& (3689348814741910323)) + ((uls_ (x - ((uls_ x 1) &&& (6148914691236517205))) 2) &&& (3689348814741910323))) + (uls_ (((x - ((uls_ x 1) &&& (6148914691236517205))) &&& (3689348814741910323)) + ((uls_ (x - ((uls_ x 1) &&& (6148914691236517205))) 2) &&& (3689348814741910323))) 4)) &&& (1085102592571150095)) 8)) 16)) 32)))) hx hb dJ13_bitCount_95d88_56 rfl ?_
  refine lv_bipush (v := 127) hx hb dJ13_bitCount_95d88_57 (by decide +kernel) ?_
  refine lv_iand hx hb dJ13_bitCount_95d88_59 ?_
  exact W.iret (v := ((Int64.toInt32 ((((((((x - ((uls_ x 1) &&& (6148914691236517205))) &&& (3689348814741910323)) + ((uls_ (x - ((uls_ x 1) &&& (6148914691236517205))) 2) &&& (3689348814741910323))) + (uls_ (((x - ((uls_ x 1) &&& (6148914691236517205))) &&& (3689348814741910323)) + ((uls_ (x - ((uls_ x 1) &&& (6148914691236517205))) 2) &&& (3689348814741910323))) 4)) &&& (1085102592571150095)) + (uls_ (((((x - ((uls_ x 1) &&& (6148914691236517205))) &&& (3689348814741910323)) + ((uls_ (x - ((uls_ x 1) &&& (6148914691236517205))) 2) &&& (3689348814741910323))) + (uls_ (((x - ((uls_ x 1) &&& (6148914691236517205))) &&& (3689348814741910323)) + ((uls_ (x - ((uls_ x 1) &&& (6148914691236517205))) 2) &&& (3689348814741910323))) 4)) &&& (1085102592571150095)) 8)) + (uls_ ((((((x - ((uls_ x 1) &&& (6148914691236517205))) &&& (3689348814741910323)) + ((uls_ (x - ((uls_ x 1) &&& (6148914691236517205))) 2) &&& (3689348814741910323))) + (uls_ (((x - ((uls_ x 1) &&& (6148914691236517205))) &&& (3689348814741910323)) + ((uls_ (x - ((uls_ x 1) &&& (6148914691236517205))) 2) &&& (3689348814741910323))) 4)) &&& (1085102592571150095)) + (uls_ (((((x - ((uls_ x 1) &&& (6148914691236517205))) &&& (3689348814741910323)) + ((uls_ (x - ((uls_ x 1) &&& (6148914691236517205))) 2) &&& (3689348814741910323))) + (uls_ (((x - ((uls_ x 1) &&& (6148914691236517205))) &&& (3689348814741910323)) + ((uls_ (x - ((uls_ x 1) &&& (6148914691236517205))) 2) &&& (3689348814741910323))) 4)) &&& (1085102592571150095)) 8)) 16)) + (uls_ (((((((x - ((uls_ x 1) &&& (6148914691236517205))) &&& (3689348814741910323)) + ((uls_ (x - ((uls_ x 1) &&& (6148914691236517205))) 2) &&& (3689348814741910323))) + (uls_ (((x - ((uls_ x 1) &&& (6148914691236517205))) &&& (3689348814741910323)) + ((uls_ (x - ((uls_ x 1) &&& (6148914691236517205))) 2) &&& (3689348814741910323))) 4)) &&& (1085102592571150095)) + (uls_ (((((x - ((uls_ x 1) &&& (6148914691236517205))) &&& (3689348814741910323)) + ((uls_ (x - ((uls_ x 1) &&& (6148914691236517205))) 2) &&& (3689348814741910323))) + (uls_ (((x - ((uls_ x 1) &&& (6148914691236517205))) &&& (3689348814741910323)) + ((uls_ (x - ((uls_ x 1) &&& (6148914691236517205))) 2) &&& (3689348814741910323))) 4)) &&& (1085102592571150095)) 8)) + (uls_ ((((((x - ((uls_ x 1) &&& (6148914691236517205))) &&& (3689348814741910323)) + ((uls_ (x - ((uls_ x 1) &&& (6148914691236517205))) 2) &&& (3689348814741910323))) + (uls_ (((x - ((uls_ x 1) &&& (6148914691236517205))) &&& (3689348814741910323)) + ((uls_ (x - ((uls_ x 1) &&& (6148914691236517205))) 2) &&& (3689348814741910323))) 4)) &&& (1085102592571150095)) + (uls_ (((((x - ((uls_ x 1) &&& (6148914691236517205))) &&& (3689348814741910323)) + ((uls_ (x - ((uls_ x 1) &&& (6148914691236517205))) 2) &&& (3689348814741910323))) + (uls_ (((x - ((uls_ x 1) &&& (6148914691236517205))) &&& (3689348814741910323)) + ((uls_ (x - ((uls_ x 1) &&& (6148914691236517205))) 2) &&& (3689348814741910323))) 4)) &&& (1085102592571150095)) 8)) 16)) 32))) &&& 127)) hx hb hr (fun t ht hW => ⟨((Int64.toInt32 ((((((((x - ((uls_ x 1) &&& (6148914691236517205))) &&& (3689348814741910323)) + ((uls_ (x - ((uls_ x 1) &&& (6148914691236517205))) 2) &&& (3689348814741910323))) + (uls_ (((x - ((uls_ x 1) &&& (6148914691236517205))) &&& (3689348814741910323)) + ((uls_ (x - ((uls_ x 1) &&& (6148914691236517205))) 2) &&& (3689348814741910323))) 4)) &&& (1085102592571150095)) + (uls_ (((((x - ((uls_ x 1) &&& (6148914691236517205))) &&& (3689348814741910323)) + ((uls_ (x - ((uls_ x 1) &&& (6148914691236517205))) 2) &&& (3689348814741910323))) + (uls_ (((x - ((uls_ x 1) &&& (6148914691236517205))) &&& (3689348814741910323)) + ((uls_ (x - ((uls_ x 1) &&& (6148914691236517205))) 2) &&& (3689348814741910323))) 4)) &&& (1085102592571150095)) 8)) + (uls_ ((((((x - ((uls_ x 1) &&& (6148914691236517205))) &&& (3689348814741910323)) + ((uls_ (x - ((uls_ x 1) &&& (6148914691236517205))) 2) &&& (3689348814741910323))) + (uls_ (((x - ((uls_ x 1) &&& (6148914691236517205))) &&& (3689348814741910323)) + ((uls_ (x - ((uls_ x 1) &&& (6148914691236517205))) 2) &&& (3689348814741910323))) 4)) &&& (1085102592571150095)) + (uls_ (((((x - ((uls_ x 1) &&& (6148914691236517205))) &&& (3689348814741910323)) + ((uls_ (x - ((uls_ x 1) &&& (6148914691236517205))) 2) &&& (3689348814741910323))) + (uls_ (((x - ((uls_ x 1) &&& (6148914691236517205))) &&& (3689348814741910323)) + ((uls_ (x - ((uls_ x 1) &&& (6148914691236517205))) 2) &&& (3689348814741910323))) 4)) &&& (1085102592571150095)) 8)) 16)) + (uls_ (((((((x - ((uls_ x 1) &&& (6148914691236517205))) &&& (3689348814741910323)) + ((uls_ (x - ((uls_ x 1) &&& (6148914691236517205))) 2) &&& (3689348814741910323))) + (uls_ (((x - ((uls_ x 1) &&& (6148914691236517205))) &&& (3689348814741910323)) + ((uls_ (x - ((uls_ x 1) &&& (6148914691236517205))) 2) &&& (3689348814741910323))) 4)) &&& (1085102592571150095)) + (uls_ (((((x - ((uls_ x 1) &&& (6148914691236517205))) &&& (3689348814741910323)) + ((uls_ (x - ((uls_ x 1) &&& (6148914691236517205))) 2) &&& (3689348814741910323))) + (uls_ (((x - ((uls_ x 1) &&& (6148914691236517205))) &&& (3689348814741910323)) + ((uls_ (x - ((uls_ x 1) &&& (6148914691236517205))) 2) &&& (3689348814741910323))) 4)) &&& (1085102592571150095)) 8)) + (uls_ ((((((x - ((uls_ x 1) &&& (6148914691236517205))) &&& (3689348814741910323)) + ((uls_ (x - ((uls_ x 1) &&& (6148914691236517205))) 2) &&& (3689348814741910323))) + (uls_ (((x - ((uls_ x 1) &&& (6148914691236517205))) &&& (3689348814741910323)) + ((uls_ (x - ((uls_ x 1) &&& (6148914691236517205))) 2) &&& (3689348814741910323))) 4)) &&& (1085102592571150095)) + (uls_ (((((x - ((uls_ x 1) &&& (6148914691236517205))) &&& (3689348814741910323)) + ((uls_ (x - ((uls_ x 1) &&& (6148914691236517205))) 2) &&& (3689348814741910323))) + (uls_ (((x - ((uls_ x 1) &&& (6148914691236517205))) &&& (3689348814741910323)) + ((uls_ (x - ((uls_ x 1) &&& (6148914691236517205))) 2) &&& (3689348814741910323))) 4)) &&& (1085102592571150095)) 8)) 16)) 32))) &&& 127), rfl, rfl, ht⟩) (fun q h => by cases h) dJ13_bitCount_95d88_60
set_option maxHeartbeats 4000000 in
set_option maxRecDepth 100000 in
/-- lowestPlace(x) -/
theorem c_X3_lowestPlace (l : Launch) (x : Int64) : Met l yX3_lowestPlace wsX3_lowestPlace ({ frames := 1, cells := 0, slots := 0, locals := 21 } : Room) (va_Pc [.long x] (fun _ => True)) (vp_Si (fun r => r = lc_ ((x &&& (-x)) - 1))) 0 0 (fun _ => False) := by
  refine Met.ofW (cc := cX3_lowestPlace) (maxL := 2) (ret := (some .int)) (by decide) rfl ?_
  intro p e s m args below meth c s₁ B hml hv
  obtain ⟨rfl, -⟩ := hv
  have hx := B.exec
  have hb := B.bytes
  have hr := B.returns
  have hts := atoms_spec (ws := wsX3_lowestPlace) B.pre
  have hown : s.vm.findClass RX3 = some m.cls := findClass_of_methodNamed B.named
  have hlocks := B.notSynchronized
  have hl := lv_entry ([.long x]) (n := 2) (Nat.le_of_ble_eq_true rfl)
  rw [lg_entry_eq]
  generalize (lg_sl ([.long x]) ++ List.replicate (2 - (lg_sl ([.long x])).length) Slot.unset).toArray = ls at hl ⊢
  have hl : lv_has ls 2 [(0, .long x)] := hl
  refine lv_lload_n hx hb dX3_lowestPlace_0 rfl (lv_at hl 0 rfl) ?_
  refine lv_lload_n hx hb dX3_lowestPlace_1 rfl (lv_at hl 0 rfl) ?_
  refine lv_lneg hx hb dX3_lowestPlace_2 ?_
  refine lv_land hx hb dX3_lowestPlace_3 ?_
  refine lv_lconst (v := 1) hx hb dX3_lowestPlace_4 (by decide +kernel) ?_
  refine lv_lsub hx hb dX3_lowestPlace_5 ?_
  refine vp_callSi (va_runS (As := [.long ((x &&& (-x)) - 1)]) (rest := []) ⟨hx, hb, hml, hown, hts⟩ (c_J13_bitCount_95d88 l ((x &&& (-x)) - 1)) (va_cwS 1 hts gX3_lowestPlace_J13_bitCount_95d88 rfl rfl rfl (by decide +kernel) ⟨Nat.le_of_ble_eq_true rfl, Nat.le_of_ble_eq_true rfl⟩) ⟨no_blind, no_pre trivial⟩ rfl rfl hl.1 rfl (lv_room (Nat.le_of_ble_eq_true rfl)) dX3_lowestPlace_6 ⟨Nat.le_of_ble_eq_true rfl, Nat.le_of_ble_eq_true rfl⟩).run (fun r_6 hr_6 => ?_)
  exact W.iret (v := r_6) hx hb hr (fun t ht hW => ⟨r_6, rfl, hr_6, ht⟩) (fun q h => by cases h) dX3_lowestPlace_9
set_option maxHeartbeats 4000000 in
set_option maxRecDepth 100000 in
/-- isFact(x) -/
theorem c_X3_isFact (l : Launch) (x : Int32) : Met l yX3_isFact wsX3_isFact ({ frames := 0, cells := 0, slots := 0, locals := 0 } : Room) (va_Pc [.int x] (fun _ => True)) (vp_Si (fun r => has_is 24 x r)) 0 0 (fun _ => False) := by
  refine Met.ofW (cc := cX3_isFact) (maxL := 1) (ret := (some .boolean)) (by decide) rfl ?_
  intro p e s m args below meth c s₁ B hml hv
  obtain ⟨rfl, -⟩ := hv
  have hx := B.exec
  have hb := B.bytes
  have hr := B.returns
  have hts := atoms_spec (ws := wsX3_isFact) B.pre
  have hown : s.vm.findClass RX3 = some m.cls := findClass_of_methodNamed B.named
  have hlocks := B.notSynchronized
  have hl := lv_entry ([.int x]) (n := 1) (Nat.le_of_ble_eq_true rfl)
  rw [lg_entry_eq]
  generalize (lg_sl ([.int x]) ++ List.replicate (1 - (lg_sl ([.int x])).length) Slot.unset).toArray = ls at hl ⊢
  have hl : lv_has ls 1 [(0, .int x)] := hl
  refine lv_iload_n hx hb dX3_isFact_0 rfl (lv_at hl 0 rfl) ?_
  refine lv_if_lt (tgt := 14) hx hb dX3_isFact_1 (by decide) (fun c_1 => ?_) (fun c_1 => ?_)
  · refine lv_iconst (v := 0) hx hb dX3_isFact_14 (by decide +kernel) ?_
    exact W.zret (v := 0) hx hb hr (by rfl) (fun t ht hW => ⟨0, rfl, by first | exact isF_in c_1 c_7 | exact isF_neg c_1 | exact isF_big c_7, ht⟩) (fun q h => by cases h) dX3_isFact_15
  · refine lv_iload_n hx hb dX3_isFact_4 rfl (lv_at hl 0 rfl) ?_
    refine lv_bipush (v := (nI 24)) hx hb dX3_isFact_5 (by decide +kernel) ?_
    refine lv_icmp_ge (tgt := 14) hx hb dX3_isFact_7 (by decide) (fun c_7 => ?_) (fun c_7 => ?_)
    · refine lv_iconst (v := 0) hx hb dX3_isFact_14 (by decide +kernel) ?_
      exact W.zret (v := 0) hx hb hr (by rfl) (fun t ht hW => ⟨0, rfl, by first | exact isF_in c_1 c_7 | exact isF_neg c_1 | exact isF_big c_7, ht⟩) (fun q h => by cases h) dX3_isFact_15
    · refine lv_iconst (v := 1) hx hb dX3_isFact_10 (by decide +kernel) ?_
      refine lv_goto (tgt := 15) hx hb dX3_isFact_11 (by decide) ?_
      exact W.zret (v := 1) hx hb hr (by rfl) (fun t ht hW => ⟨1, rfl, by first | exact isF_in c_1 c_7 | exact isF_neg c_1 | exact isF_big c_7, ht⟩) (fun q h => by cases h) dX3_isFact_15
set_option maxHeartbeats 4000000 in
set_option maxRecDepth 100000 in
/-- factsFrom(x) -/
theorem c_X0_factsFrom (l : Launch) (D : va_G) (cI cZ cJ : ClassId) (qa qb qh qw qf qu qg : Nat) (n : Nat) (hn : n ≤ 14) (Bd Hd : Nat → Int32) (x : Int32) : Met l yX0_factsFrom wsX0_factsFrom ({ frames := 1, cells := 0, slots := 0, locals := 24 } : Room) (va_Pc [.ref qa, .int x] (ro_ D [(cI, .int), (cZ, .boolean), (cJ, .long)] [(qa, .inr (1, [.ref qb, .ref qh, .ref qw, .ref qf, .int (nI n), .ref qu, .ref qg])), (qb, .inl (cI, 14, .inl Bd)), (qh, .inl (cI, 14, .inl Hd))])) (vp_Si (fun r => r = cf_ n Bd Hd x n)) 0 0 (fun _ => False) := by
  refine Met.ofW (cc := cX0_factsFrom) (maxL := 4) (ret := (some .int)) (by decide) rfl ?_
  intro p e s m args below meth c s₁ B hml hv
  obtain ⟨rfl, hP, hK⟩ := hv
  have hx := B.exec
  have hb := B.bytes
  have hr := B.returns
  have hts := atoms_spec (ws := wsX0_factsFrom) B.pre
  have hown : s.vm.findClass RX0 = some m.cls := findClass_of_methodNamed B.named
  have hlocks := B.notSynchronized
  have iX0 : ∀ w ∈ u_ws RX0 TX0 7, w ∈ wsX0_factsFrom := by decide +kernel
  have hl := lv_entry ([.ref qa, .int x]) (n := 4) (Nat.le_of_ble_eq_true rfl)
  rw [lg_entry_eq]
  generalize (lg_sl ([.ref qa, .int x]) ++ List.replicate (4 - (lg_sl ([.ref qa, .int x])).length) Slot.unset).toArray = ls at hl ⊢
  have hl : lv_has ls 4 [(0, .ref qa), (1, .int x)] := hl
  have loop : ∀ (k a : Nat) (y : Int32) (ls : Array Slot), n < a + k → a ≤ n → y = cf_ n Bd Hd x a → lv_has ls 4 [(3, .int (nI a)), (2, .int y), (0, .ref qa), (1, .int x)] → W p l e (headSpec wsX0_factsFrom ({ frames := 1, cells := 0, slots := 0, locals := 24 } : Room)).room s m ([.ref qa, .int x] : List Value).toArray below meth c s.heap [] 0 0 (MQ below (vp_Si (fun r => r = cf_ n Bd Hd x n)) ([.ref qa, .int x] : List Value).toArray s 0 0 (fun _ => False)) (F0 m 4 ls []) := by
    intro k
    induction k with
    | zero => intro a y ls h1 h2; omega
    | succ k ih =>
      intro a y ls h1 h2 hy hl
      refine lv_iload_n hx hb dX0_factsFrom_4 rfl (lv_at hl 0 rfl) ?_
      refine lv_aload_n hx hb dX0_factsFrom_5 rfl (lv_at hl 2 rfl) ?_
      refine va_get (D := D) (ci := 1) (v := .int (nI n)) (C := RX0) (T := TX0) (N := 7) hx hb hts iX0 hown hK hP 0 rfl rfl 4 (by decide) (hts (.fieldLink RX0 25 "LeastSets$Axioms" "count" "I") (by decide +kernel)) (fun _ h9 => h9) rfl dX0_factsFrom_6 ?_
      refine r_ige hx hb (tgt := 25) (by omega) (by omega) dX0_factsFrom_9 (by decide) (fun c_9 => ?_) (fun c_9 => ?_)
      · refine lv_iload_n hx hb dX0_factsFrom_25 rfl (lv_at hl 1 rfl) ?_
        exact W.iret (v := y) hx hb hr (fun t ht hW => ⟨y, rfl, (by rw [hy, show a = n by omega]), ht⟩) (fun q h => by cases h) dX0_factsFrom_26
      · refine lv_aload_n hx hb dX0_factsFrom_12 rfl (lv_at hl 2 rfl) ?_
        refine lv_iload_n hx hb dX0_factsFrom_13 rfl (lv_at hl 3 rfl) ?_
        refine lv_iload_n hx hb dX0_factsFrom_14 rfl (lv_at hl 1 rfl) ?_
        refine vp_callSi (va_runV (As := [.int x, .int y]) (rest := []) ⟨hx, hb, hml, hown, hts⟩ (c_X0_oneStepMore l D cI cZ cJ qa qb qh qw qf qu qg n hn Bd Hd x y) (cwV 2 hts gX0_factsFrom_X0_oneStepMore rfl rfl rfl (by decide +kernel) ⟨Nat.le_of_ble_eq_true rfl, Nat.le_of_ble_eq_true rfl⟩) ⟨ro_blind, va_recv hK hP (ci := 1) (q0 := 0) rfl rfl, ro_pre (hP.sub (ws' := [(qa, .inr (1, [.ref qb, .ref qh, .ref qw, .ref qf, .int (nI n), .ref qu, .ref qg])), (qb, .inl (cI, 14, .inl Bd)), (qh, .inl (cI, 14, .inl Hd))]) [0, 1, 2] rfl) hK [0, 1, 2] rfl⟩ rfl rfl hl.1 rfl (lv_room (Nat.le_of_ble_eq_true rfl)) dX0_factsFrom_15 ⟨Nat.le_of_ble_eq_true rfl, Nat.le_of_ble_eq_true rfl⟩).run (fun r_15 hr_15 => ?_)
        refine lv_istore_n (lv' := [(2, .int r_15), (3, .int (nI a)), (0, .ref qa), (1, .int x)]) hx hb dX0_factsFrom_18 rfl hl (by decide) rfl (fun ls hl => ?_)
        refine lv_iinc (v := (nI (a + 1))) (lv' := [(3, .int (nI (a + 1))), (2, .int r_15), (0, .ref qa), (1, .int x)]) hx hb dX0_factsFrom_19 hl (k := 1) rfl (nI_inc _) (by decide) rfl (fun ls hl => ?_)
        refine lv_goto (tgt := 4) hx hb dX0_factsFrom_22 (by decide) ?_
        exact ih (a + 1) _ ls (by omega) (by omega) (by rw [hr_15, hy]; rfl) (lv_sub hl [0, 1, 2, 3] rfl)
  refine lv_iconst (v := 0) hx hb dX0_factsFrom_0 (by decide +kernel) ?_
  refine lv_istore_n (lv' := [(2, .int 0), (0, .ref qa), (1, .int x)]) hx hb dX0_factsFrom_1 rfl hl (by decide) rfl (fun ls hl => ?_)
  refine lv_iconst (v := (nI 0)) hx hb dX0_factsFrom_2 (by decide +kernel) ?_
  refine lv_istore_n (lv' := [(3, .int (nI 0)), (2, .int 0), (0, .ref qa), (1, .int x)]) hx hb dX0_factsFrom_3 rfl hl (by decide) rfl (fun ls hl => ?_)
  exact loop (n + 1) 0 _ ls (by omega) (Nat.zero_le _) (by rfl) (lv_sub hl [0, 1, 2, 3] rfl)
set_option maxHeartbeats 4000000 in
set_option maxRecDepth 100000 in
/-- words() -/
theorem c_X0_words (l : Launch) (D : va_G) (cI cZ cJ : ClassId) (qa qb qh qw qf qu qg : Nat) (n : Nat) (hn : n ≤ 14) : Met l yX0_words wsX0_words ({ frames := 0, cells := 0, slots := 0, locals := 0 } : Room) (va_Pc [.ref qa] (ro_ D [(cI, .int), (cZ, .boolean), (cJ, .long)] [(qa, .inr (1, [.ref qb, .ref qh, .ref qw, .ref qf, .int (nI n), .ref qu, .ref qg]))])) (vp_Si (fun r => r = nI (nwd_ n))) 0 0 (fun _ => False) := by
  refine Met.ofW (cc := cX0_words) (maxL := 1) (ret := (some .int)) (by decide) rfl ?_
  intro p e s m args below meth c s₁ B hml hv
  obtain ⟨rfl, hP, hK⟩ := hv
  have hx := B.exec
  have hb := B.bytes
  have hr := B.returns
  have hts := atoms_spec (ws := wsX0_words) B.pre
  have hown : s.vm.findClass RX0 = some m.cls := findClass_of_methodNamed B.named
  have hlocks := B.notSynchronized
  have iX0 : ∀ w ∈ u_ws RX0 TX0 7, w ∈ wsX0_words := by decide +kernel
  have hl := lv_entry ([.ref qa]) (n := 1) (Nat.le_of_ble_eq_true rfl)
  rw [lg_entry_eq]
  generalize (lg_sl ([.ref qa]) ++ List.replicate (1 - (lg_sl ([.ref qa])).length) Slot.unset).toArray = ls at hl ⊢
  have hl : lv_has ls 1 [(0, .ref qa)] := hl
  refine lv_aload_n hx hb dX0_words_0 rfl (lv_at hl 0 rfl) ?_
  refine va_get (D := D) (ci := 1) (v := .int (nI n)) (C := RX0) (T := TX0) (N := 7) hx hb hts iX0 hown hK hP 0 rfl rfl 4 (by decide) (hts (.fieldLink RX0 25 "LeastSets$Axioms" "count" "I") (by decide +kernel)) (fun _ h9 => h9) rfl dX0_words_1 ?_
  refine lv_bipush (v := (nI 6)) hx hb dX0_words_4 (by decide +kernel) ?_
  refine r_igt hx hb (tgt := 13) (by omega) (by omega) dX0_words_6 (by decide) (fun c_6 => ?_) (fun c_6 => ?_)
  · refine lv_iconst (v := 1) hx hb dX0_words_13 (by decide +kernel) ?_
    refine lv_aload_n hx hb dX0_words_14 rfl (lv_at hl 0 rfl) ?_
    refine va_get (D := D) (ci := 1) (v := .int (nI n)) (C := RX0) (T := TX0) (N := 7) hx hb hts iX0 hown hK hP 0 rfl rfl 4 (by decide) (hts (.fieldLink RX0 25 "LeastSets$Axioms" "count" "I") (by decide +kernel)) (fun _ h9 => h9) rfl dX0_words_15 ?_
    refine lv_bipush (v := 6) hx hb dX0_words_18 (by decide +kernel) ?_
    refine lv_isub hx hb dX0_words_20 ?_
    refine lv_ishl hx hb dX0_words_21 ?_
    exact W.iret (v := (1 <<< (((nI n) - 6) &&& 31))) hx hb hr (fun t ht hW => ⟨(1 <<< (((nI n) - 6) &&& 31)), rfl, by first | exact nwd_lo c_6 | exact nwd_hi' n hn c_6, ht⟩) (fun q h => by cases h) dX0_words_22
  · refine lv_iconst (v := (nI 1)) hx hb dX0_words_9 (by decide +kernel) ?_
    refine lv_goto (tgt := 22) hx hb dX0_words_10 (by decide) ?_
    exact W.iret (v := (nI 1)) hx hb hr (fun t ht hW => ⟨(nI 1), rfl, by first | exact nwd_lo c_6 | exact nwd_hi' n hn c_6, ht⟩) (fun q h => by cases h) dX0_words_22
set_option maxHeartbeats 4000000 in
set_option maxRecDepth 100000 in
/-- setsWith(a, v) -/
theorem c_X0_setsWith (l : Launch) (D : va_G) (cI cZ cJ : ClassId) (qa qb qh qw qf qu qg : Nat) (n : Nat) (hn : n ≤ 14) (t1 t2 : Nat) (a v : Nat) (ha : a < 14) (hv : v < 256) : Met l yX0_setsWith wsX0_setsWith ({ frames := 0, cells := 0, slots := 0, locals := 0 } : Room) (va_Pc [.ref qa, .int (nI a), .int (nI v)] (re_ D [] [] t1 t2)) (vp_Sl (fun r => sw_is a v r)) 0 0 (fun _ => False) := by
  refine Met.ofW (cc := cX0_setsWith) (maxL := 3) (ret := (some .long)) (by decide) rfl ?_
  intro p e s m args below meth c s₁ B hml hv
  obtain ⟨rfl, hP, hK, hE⟩ := hv
  have hx := B.exec
  have hb := B.bytes
  have hr := B.returns
  have hts := atoms_spec (ws := wsX0_setsWith) B.pre
  have hown : s.vm.findClass RX0 = some m.cls := findClass_of_methodNamed B.named
  have hlocks := B.notSynchronized
  have hS : va_S (fun _ => False) s.heap s.heap [] := va_S.rf
  have hl := lv_entry ([.ref qa, .int (nI a), .int (nI v)]) (n := 3) (Nat.le_of_ble_eq_true rfl)
  rw [lg_entry_eq]
  generalize (lg_sl ([.ref qa, .int (nI a), .int (nI v)]) ++ List.replicate (3 - (lg_sl ([.ref qa, .int (nI a), .int (nI v)])).length) Slot.unset).toArray = ls at hl ⊢
  have hl : lv_has ls 3 [(0, .ref qa), (1, .int (nI a)), (2, .int (nI v))] := hl
  refine lv_iload_n hx hb dX0_setsWith_0 rfl (lv_at hl 1 rfl) ?_
  refine lv_bipush (v := (nI 6)) hx hb dX0_setsWith_1 (by decide +kernel) ?_
  refine r_ige hx hb (tgt := 12) (by omega) (by omega) dX0_setsWith_3 (by decide) (fun c_3 => ?_) (fun c_3 => ?_)
  · refine lv_iload_n hx hb dX0_setsWith_12 rfl (lv_at hl 2 rfl) ?_
    refine lv_iload_n hx hb dX0_setsWith_13 rfl (lv_at hl 1 rfl) ?_
    refine lv_bipush (v := (nI 6)) hx hb dX0_setsWith_14 (by decide +kernel) ?_
    refine r_isub hx hb (by omega) dX0_setsWith_16 ?_
    refine lv_ishr hx hb dX0_setsWith_17 ?_
    refine lv_iconst (v := 1) hx hb dX0_setsWith_18 (by decide +kernel) ?_
    refine lv_iand hx hb dX0_setsWith_19 ?_
    refine lv_if_eq (tgt := 29) hx hb dX0_setsWith_20 (by decide) (fun c_20 => ?_) (fun c_20 => ?_)
    · refine lv_lconst (v := 0) hx hb dX0_setsWith_29 (by decide +kernel) ?_
      exact W.lret (v := 0) hx hb hr (fun t ht hW => ⟨0, rfl, by first | exact sw_lo c_3 | exact sw_hi0 (by omega) ha c_20 | exact sw_hi1 (by omega) ha c_20, ht⟩) (fun q h => by cases h) dX0_setsWith_30
    · refine lv_ldc2 (v := (-1)) hx hb hown (hts (.constantLong RX0 52 (-1)) (by decide +kernel)) dX0_setsWith_23 ?_
      refine lv_goto (tgt := 30) hx hb dX0_setsWith_26 (by decide) ?_
      exact W.lret (v := (-1)) hx hb hr (fun t ht hW => ⟨(-1), rfl, by first | exact sw_lo c_3 | exact sw_hi0 (by omega) ha c_20 | exact sw_hi1 (by omega) ha c_20, ht⟩) (fun q h => by cases h) dX0_setsWith_30
  · refine va_getsN (host := "LeastSets") hx hb hE.2.1 hS hown (va_Nw.use rfl (hE.1 _ (List.mem_of_getElem? (i := 5) rfl))) (fun _ h9 => h9) dX0_setsWith_6 ?_
    refine lv_iload_n hx hb dX0_setsWith_9 rfl (lv_at hl 1 rfl) ?_
    refine va_tl (v := .long (pw_ a)) hx hb hE.2.2.1 hS (vp_in_nI c_3 (by omega)) (by rw [nI_clamp (by omega)]) dX0_setsWith_10 ?_
    exact W.lret (v := (pw_ a)) hx hb hr (fun t ht hW => ⟨(pw_ a), rfl, by first | exact sw_lo c_3 | exact sw_hi0 (by omega) ha c_20 | exact sw_hi1 (by omega) ha c_20, ht⟩) (fun q h => by cases h) dX0_setsWith_11
end
section
set_option maxHeartbeats 4000000 in
set_option maxRecDepth 100000 in
/-- setsGivingAll(f, x) -/
theorem c_X0_setsGivingAll (l : Launch) (D : va_G) (cI cZ cJ : ClassId) (qa qb qh qw qf qu qg : Nat) (n : Nat) (hn : n ≤ 14) (t1 t2 : Nat) (G : Nat → Int64) (f : Int32) (x : Int64) (hf : uI_ f < 16777216) : Met l yX0_setsGivingAll wsX0_setsGivingAll ({ frames := 2, cells := 0, slots := 0, locals := 42 } : Room) (va_Pc [.ref qa, .int f, .long x] (re_ D [(cI, .int), (cZ, .boolean), (cJ, .long)] [(qa, .inr (1, [.ref qb, .ref qh, .ref qw, .ref qf, .int (nI n), .ref qu, .ref qg])), (qg, .inl (cJ, 24, .inr (.inl G)))] t1 t2)) (vp_Sl (fun r => ga_is G f x r)) 0 0 (fun _ => False) := by
  refine Met.ofW (cc := cX0_setsGivingAll) (maxL := 9) (ret := (some .long)) (by decide) rfl ?_
  intro p e s m args below meth c s₁ B hml hv
  obtain ⟨rfl, hP, hK, hE⟩ := hv
  have hx := B.exec
  have hb := B.bytes
  have hr := B.returns
  have hts := atoms_spec (ws := wsX0_setsGivingAll) B.pre
  have hown : s.vm.findClass RX0 = some m.cls := findClass_of_methodNamed B.named
  have hlocks := B.notSynchronized
  have iX0 : ∀ w ∈ u_ws RX0 TX0 7, w ∈ wsX0_setsGivingAll := by decide +kernel
  have hS : va_S (fun _ => False) s.heap s.heap [] := va_S.rf
  have h32 := gp_32 f
  have hl := lv_entry ([.ref qa, .int f, .long x]) (n := 9) (Nat.le_of_ble_eq_true rfl)
  rw [lg_entry_eq]
  generalize (lg_sl ([.ref qa, .int f, .long x]) ++ List.replicate (9 - (lg_sl ([.ref qa, .int f, .long x])).length) Slot.unset).toArray = ls at hl ⊢
  have hl : lv_has ls 9 [(0, .ref qa), (1, .int f), (2, .long x)] := hl
  have loop : ∀ (d k : Nat) (s6 : Int32) (s4 : Int64) (ls : Array Slot), (on_ (bt f) 0 32).length < k + d → k ≤ (on_ (bt f) 0 32).length → gp_is G f x k s6 s4 → lv_has ls 9 [(8, .int (nI k)), (6, .int s6), (4, .long s4), (7, .int (nI (on_ (bt f) 0 32).length)), (0, .ref qa), (1, .int f), (2, .long x)] → W p l e (headSpec wsX0_setsGivingAll ({ frames := 2, cells := 0, slots := 0, locals := 42 } : Room)).room s m ([.ref qa, .int f, .long x] : List Value).toArray below meth c s.heap [] 0 0 (MQ below (vp_Sl (fun r => ga_is G f x r)) ([.ref qa, .int f, .long x] : List Value).toArray s 0 0 (fun _ => False)) (F0 m 15 ls []) := by
    intro d
    induction d with
    | zero => intro k s6 s4 ls h1 h2; omega
    | succ d ih =>
      intro k s6 s4 ls h1 h2 hg hl
      refine lv_iload hx hb dX0_setsGivingAll_15 (lv_at hl 0 rfl) ?_
      refine lv_iload hx hb dX0_setsGivingAll_17 (lv_at hl 3 rfl) ?_
      refine r_ige hx hb (tgt := 60) (by omega) (by omega) dX0_setsGivingAll_19 (by decide) (fun c_19 => ?_) (fun c_19 => ?_)
      · refine lv_lload hx hb dX0_setsGivingAll_60 (lv_at hl 2 rfl) ?_
        exact W.lret (v := s4) hx hb hr (fun t ht hW => ⟨s4, rfl, by first | exact gp_end hg c_19 | exact gp_zero hg ((lg_cmp_eq _ _).mp c_26), ht⟩) (fun q h => by cases h) dX0_setsGivingAll_62
      · refine lv_lload hx hb dX0_setsGivingAll_22 (lv_at hl 2 rfl) ?_
        refine lv_lconst (v := 0) hx hb dX0_setsGivingAll_24 (by decide +kernel) ?_
        refine W.lcmp hx hb dX0_setsGivingAll_25 ?_
        refine lv_if_eq (tgt := 60) hx hb dX0_setsGivingAll_26 (by decide) (fun c_26 => ?_) (fun c_26 => ?_)
        · refine lv_lload hx hb dX0_setsGivingAll_60 (lv_at hl 2 rfl) ?_
          exact W.lret (v := s4) hx hb hr (fun t ht hW => ⟨s4, rfl, by first | exact gp_end hg c_19 | exact gp_zero hg ((lg_cmp_eq _ _).mp c_26), ht⟩) (fun q h => by cases h) dX0_setsGivingAll_62
        · refine lv_lload hx hb dX0_setsGivingAll_29 (lv_at hl 2 rfl) ?_
          refine lv_aload_n hx hb dX0_setsGivingAll_31 rfl (lv_at hl 4 rfl) ?_
          refine va_get (D := D) (ci := 1) (v := .ref qg) (C := RX0) (T := TX0) (N := 7) hx hb hts iX0 hown hK hP 0 rfl rfl 6 (by decide) (hts (.fieldLink RX0 33 "LeastSets$Axioms" "givenBy" "[J") (by decide +kernel)) (fun _ h9 => h9) rfl dX0_setsGivingAll_32 ?_
          refine lv_iload hx hb dX0_setsGivingAll_35 (lv_at hl 1 rfl) ?_
          refine lv_i2l (v := (Int32.toInt64 s6)) hx hb dX0_setsGivingAll_37 rfl ?_
          obtain ⟨p0, hp0, ep0, hg2⟩ := gp_step hf hg c_19
          refine vp_callSi (va_runSN (As := [.long (Int32.toInt64 s6)]) (rest := [.ref qg, .long s4]) ⟨hx, hb, hml, hown, hts⟩ (c_X3_lowestPlace l (Int32.toInt64 s6)) ⟨va_cnB (host := "LeastSets") 1 hts gX0_setsGivingAll_X3_lowestPlace_n73 rfl rfl rfl (hE.1 _ (List.mem_of_getElem? (i := 11) rfl)) (hts (.initialized RX3) (by decide +kernel)) (by decide +kernel) ⟨Nat.le_of_ble_eq_true rfl, Nat.le_of_ble_eq_true rfl⟩, hts (.static yX3_lowestPlace) (by decide +kernel), trivial⟩ ⟨no_blind, no_pre trivial⟩ rfl rfl hl.1 rfl (lv_room (Nat.le_of_ble_eq_true rfl)) dX0_setsGivingAll_38 ⟨Nat.le_of_ble_eq_true rfl, Nat.le_of_ble_eq_true rfl⟩).run (fun r_38 hr_38 => ?_)
          rw [ep0] at hr_38
          subst hr_38
          refine r_lald hx hb hK hP 1 2 rfl rfl p0 (by omega) (by omega) dX0_setsGivingAll_41 ?_
          refine lv_land hx hb dX0_setsGivingAll_42 ?_
          refine lv_lstore (lv' := [(4, .long (s4 &&& (G p0))), (8, .int (nI k)), (6, .int s6), (7, .int (nI (on_ (bt f) 0 32).length)), (0, .ref qa), (1, .int f), (2, .long x)]) hx hb dX0_setsGivingAll_43 hl (by decide) rfl (fun ls hl => ?_)
          refine lv_iload hx hb dX0_setsGivingAll_45 (lv_at hl 2 rfl) ?_
          refine lv_iload hx hb dX0_setsGivingAll_47 (lv_at hl 2 rfl) ?_
          refine lv_iconst (v := 1) hx hb dX0_setsGivingAll_49 (by decide +kernel) ?_
          refine lv_isub hx hb dX0_setsGivingAll_50 ?_
          refine lv_iand hx hb dX0_setsGivingAll_51 ?_
          refine lv_istore (lv' := [(6, .int (s6 &&& (s6 - 1))), (4, .long (s4 &&& (G p0))), (8, .int (nI k)), (7, .int (nI (on_ (bt f) 0 32).length)), (0, .ref qa), (1, .int f), (2, .long x)]) hx hb dX0_setsGivingAll_52 hl (by decide) rfl (fun ls hl => ?_)
          refine lv_iinc (v := (nI (k + 1))) (lv' := [(8, .int (nI (k + 1))), (6, .int (s6 &&& (s6 - 1))), (4, .long (s4 &&& (G p0))), (7, .int (nI (on_ (bt f) 0 32).length)), (0, .ref qa), (1, .int f), (2, .long x)]) hx hb dX0_setsGivingAll_54 hl (k := 2) rfl (nI_inc _) (by decide) rfl (fun ls hl => ?_)
          refine lv_goto (tgt := 15) hx hb dX0_setsGivingAll_57 (by decide) ?_
          exact ih (k + 1) _ _ ls (by omega) (by omega) hg2 (lv_sub hl [0, 1, 2, 3, 4, 5, 6] rfl)
  refine lv_lload_n hx hb dX0_setsGivingAll_0 rfl (lv_at hl 2 rfl) ?_
  refine lv_lstore (lv' := [(4, .long x), (0, .ref qa), (1, .int f), (2, .long x)]) hx hb dX0_setsGivingAll_1 hl (by decide) rfl (fun ls hl => ?_)
  refine lv_iload_n hx hb dX0_setsGivingAll_3 rfl (lv_at hl 2 rfl) ?_
  refine lv_istore (lv' := [(6, .int f), (4, .long x), (0, .ref qa), (1, .int f), (2, .long x)]) hx hb dX0_setsGivingAll_4 hl (by decide) rfl (fun ls hl => ?_)
  refine lv_iload_n hx hb dX0_setsGivingAll_6 rfl (lv_at hl 3 rfl) ?_
  refine vp_callSi (va_runS (As := [.int f]) (rest := []) ⟨hx, hb, hml, hown, hts⟩ (c_J6_bitCount_0f7a4 l f) (va_cwS 1 hts gX0_setsGivingAll_J6_bitCount_0f7a4 rfl rfl rfl (by decide +kernel) ⟨Nat.le_of_ble_eq_true rfl, Nat.le_of_ble_eq_true rfl⟩) ⟨no_blind, no_pre trivial⟩ rfl rfl hl.1 rfl (lv_room (Nat.le_of_ble_eq_true rfl)) dX0_setsGivingAll_7 ⟨Nat.le_of_ble_eq_true rfl, Nat.le_of_ble_eq_true rfl⟩).run (fun r_7 hr_7 => ?_)
  rw [gp_len] at hr_7
  subst hr_7
  refine lv_istore (lv' := [(7, .int (nI (on_ (bt f) 0 32).length)), (6, .int f), (4, .long x), (0, .ref qa), (1, .int f), (2, .long x)]) hx hb dX0_setsGivingAll_10 hl (by decide) rfl (fun ls hl => ?_)
  refine lv_iconst (v := (nI 0)) hx hb dX0_setsGivingAll_12 (by decide +kernel) ?_
  refine lv_istore (lv' := [(8, .int (nI 0)), (7, .int (nI (on_ (bt f) 0 32).length)), (6, .int f), (4, .long x), (0, .ref qa), (1, .int f), (2, .long x)]) hx hb dX0_setsGivingAll_13 hl (by decide) rfl (fun ls hl => ?_)
  exact loop ((on_ (bt f) 0 32).length + 1) 0 _ _ ls (by omega) (Nat.zero_le _) (gp_0 hf) (lv_sub hl [0, 2, 3, 1, 4, 5, 6] rfl)
end
section
set_option maxHeartbeats 4000000 in
set_option maxRecDepth 100000 in
/-- Arrays.fill -/
theorem c_J7_fill_d0a16 (l : Launch) (D : va_G) (cJ : ClassId) (t1 t2 sz : Nat) (q N : Nat) (hN : N < 2147483647) (G : Nat → Int64) (x : Int64) : Met l yJ7_fill_d0a16 wsJ7_fill_d0a16 ({ frames := 0, cells := 0, slots := 0, locals := 0 } : Room) (va_Pc [.ref q, .long x] (wr_ D [(cJ, .long)] [(q, .inl (cJ, N, .inr (.inl G)))] t1 t2 sz)) (va_Qv (S := Unit) (fun _ => True) (fun _ => wd_ D [(cJ, .long)] (va_A [(q, .inl (cJ, N, .inr (.inl G)))] sz) [(q, .inl (cJ, N, .inr (.inl (fun _ => x))))]) (va_A [(q, .inl (cJ, N, .inr (.inl G)))] sz)) 0 0 (va_A [(q, .inl (cJ, N, .inr (.inl G)))] sz) := by
  refine Met.ofW (cc := cJ7_fill_d0a16) (maxL := 5) (ret := none) (by decide) rfl ?_
  intro p e s m args below meth c s₁ B hml hv
  obtain ⟨rfl, hsz, hP, hK, hD0, hE⟩ := hv
  have hx := B.exec
  have hb := B.bytes
  have hr := B.returns
  have hts := atoms_spec (ws := wsJ7_fill_d0a16) B.pre
  have hown : s.vm.findClass RJ7 = some m.cls := findClass_of_methodNamed B.named
  have hlocks := B.notSynchronized
  subst hsz
  have hD := hD0.self (sz := s.heap.size)
  generalize hAe : va_A [(q, .inl (cJ, N, .inr (.inl G)))] s.heap.size = A at hD hE ⊢
  have hA : ∀ q : Nat, s.heap.size ≤ q → A q := fun q h => by rw [← hAe]; exact Or.inr h
  have hS : va_S A s.heap s.heap [] := va_S.rf
  have hl := lv_entry ([.ref q, .long x]) (n := 5) (Nat.le_of_ble_eq_true rfl)
  rw [lg_entry_eq]
  generalize (lg_sl ([.ref q, .long x]) ++ List.replicate (5 - (lg_sl ([.ref q, .long x])).length) Slot.unset).toArray = ls at hl ⊢
  have hl : lv_has ls 5 [(0, .ref q), (1, .long x)] := hl
  have loop : ∀ (d i : Nat) (Gc : Nat → Int64) (H : Heap) (locs : List Loc) (ls : Array Slot), N < i + d → i ≤ N → (∀ j, j < i → Gc j = x) → va_P D vwCl [(q, .inl (cJ, N, .inr (.inl Gc)))] H → va_D A [(q, .inl (cJ, N, .inr (.inl Gc)))] → va_S A s.heap H locs → lv_has ls 5 [(3, .int (nI i)), (4, .int (nI N)), (0, .ref q), (1, .long x)] → W p l e (headSpec wsJ7_fill_d0a16 ({ frames := 0, cells := 0, slots := 0, locals := 0 } : Room)).room s m ([.ref q, .long x] : List Value).toArray below meth c H locs 0 0 (MQ below (va_Qv (S := Unit) (fun _ => True) (fun _ => wd_ D [(cJ, .long)] A [(q, .inl (cJ, N, .inr (.inl (fun _ => x))))]) A) ([.ref q, .long x] : List Value).toArray s 0 0 A) (F0 m 6 ls []) := by
    intro d
    induction d with
    | zero => intro i Gc H locs ls h1 h2; omega
    | succ d ih =>
      intro i Gc H locs ls h1 h2 hG hP hD hS hl
      refine lv_iload_n hx hb dJ7_fill_d0a16_6 rfl (lv_at hl 0 rfl) ?_
      refine lv_iload hx hb dJ7_fill_d0a16_7 (lv_at hl 1 rfl) ?_
      refine r_ige hx hb (tgt := 22) (by omega) (by omega) dJ7_fill_d0a16_9 (by decide) (fun c_9 => ?_) (fun c_9 => ?_)
      · have hP : va_P D vwCl [(q, .inl (cJ, N, .inr (.inl (fun _ => x))))] H := P_eqL 0 hP rfl (fun j hj => hG j (by omega))
        have hD : va_D A [(q, .inl (cJ, N, .inr (.inl (fun _ => x))))] := hD.set (p := 0) rfl
        exact W.vret hx hb hr (fun t ht hW => ⟨⟨(), rfl, trivial, by rw [ht]; exact hP, va_K.moved hW.alike hK, hD⟩, hS.F ht⟩) hS.2.2 dJ7_fill_d0a16_22
      · refine lv_aload_n hx hb dJ7_fill_d0a16_12 rfl (lv_at hl 2 rfl) ?_
        refine lv_iload_n hx hb dJ7_fill_d0a16_13 rfl (lv_at hl 0 rfl) ?_
        refine lv_lload_n hx hb dJ7_fill_d0a16_14 rfl (lv_at hl 3 rfl) ?_
        refine r_last hx hb hK hP hD hS 0 0 rfl rfl i (by omega) (by omega) dJ7_fill_d0a16_15 (fun H locs hP hD hS => ?_)
        have hP : va_P D vwCl [(q, .inl (cJ, N, .inr (.inl (vp_updL Gc i x))))] H := hP
        have hD : va_D A [(q, .inl (cJ, N, .inr (.inl (vp_updL Gc i x))))] := hD
        refine lv_iinc (v := (nI (i + 1))) (lv' := [(3, .int (nI (i + 1))), (4, .int (nI N)), (0, .ref q), (1, .long x)]) hx hb dJ7_fill_d0a16_16 hl (k := 0) rfl (nI_inc _) (by decide) rfl (fun ls hl => ?_)
        refine lv_goto (tgt := 6) hx hb dJ7_fill_d0a16_19 (by decide) ?_
        exact ih (i + 1) _ H locs ls (by omega) (by omega) (fun j hj => by
          by_cases e : j = i
          · subst e; exact pk_uLs
          · rw [pk_uLn e]; exact hG j (by omega)) hP hD hS (lv_sub hl [0, 1, 2, 3] rfl)
  refine lv_iconst (v := (nI 0)) hx hb dJ7_fill_d0a16_0 (by decide +kernel) ?_
  refine lv_istore_n (lv' := [(3, .int (nI 0)), (0, .ref q), (1, .long x)]) hx hb dJ7_fill_d0a16_1 rfl hl (by decide) rfl (fun ls hl => ?_)
  refine lv_aload_n hx hb dJ7_fill_d0a16_2 rfl (lv_at hl 1 rfl) ?_
  refine va_alen hx hb hK hP 0 0 rfl rfl (v := nI N) rfl dJ7_fill_d0a16_3 ?_
  refine lv_istore (lv' := [(4, .int (nI N)), (3, .int (nI 0)), (0, .ref q), (1, .long x)]) hx hb dJ7_fill_d0a16_4 hl (by decide) rfl (fun ls hl => ?_)
  exact loop (N + 1) 0 G s.heap [] ls (by omega) (Nat.zero_le _) (fun j hj => absurd hj (Nat.not_lt_zero j)) hP hD hS (lv_sub hl [1, 0, 2, 3] rfl)
end
section
set_option maxHeartbeats 4000000 in
set_option maxRecDepth 100000 in
/-- setsGiving(g) -/
theorem c_X0_setsGiving (l : Launch) (D : va_G) (cI cZ cJ : ClassId) (t1 t2 sz : Nat) (qa qb qh qw qf qu qg : Nat) (n : Nat) (hn : n ≤ 14) (Bd Hd : Nat → Int32) (U G : Nat → Int64) (g : Nat) (hg : g < 24) (hok : ∀ a, a < n → uI_ (Bd a) < 16777216 ∧ uI_ (Hd a) < 24) : Met l yX0_setsGiving wsX0_setsGiving ({ frames := 3, cells := 0, slots := 0, locals := 70 } : Room) (va_Pc [.ref qa, .int (nI g)] (wr_ D [(cI, .int), (cZ, .boolean), (cJ, .long)] [(qa, .inr (1, [.ref qb, .ref qh, .ref qw, .ref qf, .int (nI n), .ref qu, .ref qg])), (qb, .inl (cI, 14, .inl Bd)), (qh, .inl (cI, 14, .inl Hd)), (qu, .inl (cJ, 14, .inr (.inl U))), (qg, .inl (cJ, 24, .inr (.inl G)))] t1 t2 sz)) (va_Ql (S := Nat → Int64) (fun r _ => ∀ j, j < 64 → (bl r j = true ↔ dj_ n Bd Hd U j n g)) (fun G2 => wd_ D [(cI, .int), (cZ, .boolean), (cJ, .long)] (va_A [(qa, .inr (1, [.ref qb, .ref qh, .ref qw, .ref qf, .int (nI n), .ref qu, .ref qg])), (qb, .inl (cI, 14, .inl Bd)), (qh, .inl (cI, 14, .inl Hd)), (qu, .inl (cJ, 14, .inr (.inl U))), (qg, .inl (cJ, 24, .inr (.inl G)))] sz) [(qa, .inr (1, [.ref qb, .ref qh, .ref qw, .ref qf, .int (nI n), .ref qu, .ref qg])), (qb, .inl (cI, 14, .inl Bd)), (qh, .inl (cI, 14, .inl Hd)), (qu, .inl (cJ, 14, .inr (.inl U))), (qg, .inl (cJ, 24, .inr (.inl G2)))]) (va_A [(qa, .inr (1, [.ref qb, .ref qh, .ref qw, .ref qf, .int (nI n), .ref qu, .ref qg])), (qb, .inl (cI, 14, .inl Bd)), (qh, .inl (cI, 14, .inl Hd)), (qu, .inl (cJ, 14, .inr (.inl U))), (qg, .inl (cJ, 24, .inr (.inl G)))] sz)) 0 0 (va_A [(qa, .inr (1, [.ref qb, .ref qh, .ref qw, .ref qf, .int (nI n), .ref qu, .ref qg])), (qb, .inl (cI, 14, .inl Bd)), (qh, .inl (cI, 14, .inl Hd)), (qu, .inl (cJ, 14, .inr (.inl U))), (qg, .inl (cJ, 24, .inr (.inl G)))] sz) := by
  refine Met.ofW (cc := cX0_setsGiving) (maxL := 7) (ret := (some .long)) (by decide) rfl ?_
  intro p e s m args below meth c s₁ B hml hv
  obtain ⟨rfl, hsz, hP, hK, hD0, hE⟩ := hv
  have hx := B.exec
  have hb := B.bytes
  have hr := B.returns
  have hts := atoms_spec (ws := wsX0_setsGiving) B.pre
  have hown : s.vm.findClass RX0 = some m.cls := findClass_of_methodNamed B.named
  have hlocks := B.notSynchronized
  have iX0 : ∀ w ∈ u_ws RX0 TX0 7, w ∈ wsX0_setsGiving := by decide +kernel
  subst hsz
  have hD := hD0.self (sz := s.heap.size)
  generalize hAe : va_A [(qa, .inr (1, [.ref qb, .ref qh, .ref qw, .ref qf, .int (nI n), .ref qu, .ref qg])), (qb, .inl (cI, 14, .inl Bd)), (qh, .inl (cI, 14, .inl Hd)), (qu, .inl (cJ, 14, .inr (.inl U))), (qg, .inl (cJ, 24, .inr (.inl G)))] s.heap.size = A at hD hE ⊢
  have hA : ∀ q : Nat, s.heap.size ≤ q → A q := fun q h => by rw [← hAe]; exact Or.inr h
  have hS : va_S A s.heap s.heap [] := va_S.rf
  have hl := lv_entry ([.ref qa, .int (nI g)]) (n := 7) (Nat.le_of_ble_eq_true rfl)
  rw [lg_entry_eq]
  generalize (lg_sl ([.ref qa, .int (nI g)]) ++ List.replicate (7 - (lg_sl ([.ref qa, .int (nI g)])).length) Slot.unset).toArray = ls at hl ⊢
  have hl : lv_has ls 7 [(0, .ref qa), (1, .int (nI g))] := hl
  have outer : ∀ (d r : Nat) (gr : Int32) (G : Nat → Int64) (H : Heap) (locs : List Loc) (ls : Array Slot), n < r + d → r ≤ n → g_snd n Bd Hd U G → g_prg n Bd Hd U G r → (gr = 0 → g_all n Bd Hd U G) → va_P D vwCl [(qa, .inr (1, [.ref qb, .ref qh, .ref qw, .ref qf, .int (nI n), .ref qu, .ref qg])), (qb, .inl (cI, 14, .inl Bd)), (qh, .inl (cI, 14, .inl Hd)), (qu, .inl (cJ, 14, .inr (.inl U))), (qg, .inl (cJ, 24, .inr (.inl G)))] H → va_D A [(qa, .inr (1, [.ref qb, .ref qh, .ref qw, .ref qf, .int (nI n), .ref qu, .ref qg])), (qb, .inl (cI, 14, .inl Bd)), (qh, .inl (cI, 14, .inl Hd)), (qu, .inl (cJ, 14, .inr (.inl U))), (qg, .inl (cJ, 24, .inr (.inl G)))] → va_S A s.heap H locs → lv_has ls 7 [(3, .int (nI r)), (2, .int gr), (0, .ref qa), (1, .int (nI g))] → W p l e (headSpec wsX0_setsGiving ({ frames := 3, cells := 0, slots := 0, locals := 70 } : Room)).room s m ([.ref qa, .int (nI g)] : List Value).toArray below meth c H locs 0 0 (MQ below (va_Ql (S := Nat → Int64) (fun r _ => ∀ j, j < 64 → (bl r j = true ↔ dj_ n Bd Hd U j n g)) (fun G2 => wd_ D [(cI, .int), (cZ, .boolean), (cJ, .long)] A [(qa, .inr (1, [.ref qb, .ref qh, .ref qw, .ref qf, .int (nI n), .ref qu, .ref qg])), (qb, .inl (cI, 14, .inl Bd)), (qh, .inl (cI, 14, .inl Hd)), (qu, .inl (cJ, 14, .inr (.inl U))), (qg, .inl (cJ, 24, .inr (.inl G2)))]) A) ([.ref qa, .int (nI g)] : List Value).toArray s 0 0 A) (F0 m 12 ls []) := by
    intro d
    induction d with
    | zero => intro r gr G H locs ls h1 h2; omega
    | succ d ih =>
      intro r gr G H locs ls h1 h2 hs1 hs2 hs3 hP hD hS hl
      refine lv_iload_n hx hb dX0_setsGiving_12 rfl (lv_at hl 0 rfl) ?_
      refine lv_aload_n hx hb dX0_setsGiving_13 rfl (lv_at hl 2 rfl) ?_
      refine va_get (D := D) (ci := 1) (v := .int (nI n)) (C := RX0) (T := TX0) (N := 7) hx hb hts iX0 hown hK hP 0 rfl rfl 4 (by decide) (hts (.fieldLink RX0 25 "LeastSets$Axioms" "count" "I") (by decide +kernel)) (fun _ h9 => h9) rfl dX0_setsGiving_14 ?_
      refine r_ige hx hb (tgt := 121) (by omega) (by omega) dX0_setsGiving_17 (by decide) (fun c_17 => ?_) (fun c_17 => ?_)
      · refine lv_aload_n hx hb dX0_setsGiving_121 rfl (lv_at hl 2 rfl) ?_
        refine va_get (D := D) (ci := 1) (v := .ref qg) (C := RX0) (T := TX0) (N := 7) hx hb hts iX0 hown hK hP 0 rfl rfl 6 (by decide) (hts (.fieldLink RX0 33 "LeastSets$Axioms" "givenBy" "[J") (by decide +kernel)) (fun _ h9 => h9) rfl dX0_setsGiving_122 ?_
        refine lv_iload_n hx hb dX0_setsGiving_125 rfl (lv_at hl 3 rfl) ?_
        refine r_lald hx hb hK hP 4 2 rfl rfl g (by omega) (by omega) dX0_setsGiving_126 ?_
        exact W.lret (v := (G g)) hx hb hr (fun t ht hW => ⟨⟨(G g), _, rfl, by first | exact fun j hj => g_endn hs1 (by rw [show r = n by omega] at hs2; exact hs2) j hj g | exact fun j hj => hs3 c_21 j hj g, by rw [ht]; exact hP, va_K.moved hW.alike hK, hD⟩, hS.F ht⟩) hS.2.2 dX0_setsGiving_127
      · refine lv_iload_n hx hb dX0_setsGiving_20 rfl (lv_at hl 1 rfl) ?_
        refine lv_if_eq (tgt := 121) hx hb dX0_setsGiving_21 (by decide) (fun c_21 => ?_) (fun c_21 => ?_)
        · refine lv_aload_n hx hb dX0_setsGiving_121 rfl (lv_at hl 2 rfl) ?_
          refine va_get (D := D) (ci := 1) (v := .ref qg) (C := RX0) (T := TX0) (N := 7) hx hb hts iX0 hown hK hP 0 rfl rfl 6 (by decide) (hts (.fieldLink RX0 33 "LeastSets$Axioms" "givenBy" "[J") (by decide +kernel)) (fun _ h9 => h9) rfl dX0_setsGiving_122 ?_
          refine lv_iload_n hx hb dX0_setsGiving_125 rfl (lv_at hl 3 rfl) ?_
          refine r_lald hx hb hK hP 4 2 rfl rfl g (by omega) (by omega) dX0_setsGiving_126 ?_
          exact W.lret (v := (G g)) hx hb hr (fun t ht hW => ⟨⟨(G g), _, rfl, by first | exact fun j hj => g_endn hs1 (by rw [show r = n by omega] at hs2; exact hs2) j hj g | exact fun j hj => hs3 c_21 j hj g, by rw [ht]; exact hP, va_K.moved hW.alike hK, hD⟩, hS.F ht⟩) hS.2.2 dX0_setsGiving_127
        · refine lv_iconst (v := 0) hx hb dX0_setsGiving_24 (by decide +kernel) ?_
          refine lv_istore_n (lv' := [(2, .int 0), (3, .int (nI r)), (0, .ref qa), (1, .int (nI g))]) hx hb dX0_setsGiving_25 rfl hl (by decide) rfl (fun ls hl => ?_)
          refine lv_iconst (v := (nI 0)) hx hb dX0_setsGiving_26 (by decide +kernel) ?_
          refine lv_istore (lv' := [(4, .int (nI 0)), (2, .int 0), (3, .int (nI r)), (0, .ref qa), (1, .int (nI g))]) hx hb dX0_setsGiving_27 hl (by decide) rfl (fun ls hl => ?_)
          clear hs3
          have inner : ∀ (d2 a : Nat) (gr : Int32) (G : Nat → Int64) (H : Heap) (locs : List Loc) (ls : Array Slot), n < a + d2 → a ≤ n → g_in n Bd Hd U r a G gr → va_P D vwCl [(qa, .inr (1, [.ref qb, .ref qh, .ref qw, .ref qf, .int (nI n), .ref qu, .ref qg])), (qb, .inl (cI, 14, .inl Bd)), (qh, .inl (cI, 14, .inl Hd)), (qu, .inl (cJ, 14, .inr (.inl U))), (qg, .inl (cJ, 24, .inr (.inl G)))] H → va_D A [(qa, .inr (1, [.ref qb, .ref qh, .ref qw, .ref qf, .int (nI n), .ref qu, .ref qg])), (qb, .inl (cI, 14, .inl Bd)), (qh, .inl (cI, 14, .inl Hd)), (qu, .inl (cJ, 14, .inr (.inl U))), (qg, .inl (cJ, 24, .inr (.inl G)))] → va_S A s.heap H locs → lv_has ls 7 [(4, .int (nI a)), (2, .int gr), (3, .int (nI r)), (0, .ref qa), (1, .int (nI g))] → W p l e (headSpec wsX0_setsGiving ({ frames := 3, cells := 0, slots := 0, locals := 70 } : Room)).room s m ([.ref qa, .int (nI g)] : List Value).toArray below meth c H locs 0 0 (MQ below (va_Ql (S := Nat → Int64) (fun r _ => ∀ j, j < 64 → (bl r j = true ↔ dj_ n Bd Hd U j n g)) (fun G2 => wd_ D [(cI, .int), (cZ, .boolean), (cJ, .long)] A [(qa, .inr (1, [.ref qb, .ref qh, .ref qw, .ref qf, .int (nI n), .ref qu, .ref qg])), (qb, .inl (cI, 14, .inl Bd)), (qh, .inl (cI, 14, .inl Hd)), (qu, .inl (cJ, 14, .inr (.inl U))), (qg, .inl (cJ, 24, .inr (.inl G2)))]) A) ([.ref qa, .int (nI g)] : List Value).toArray s 0 0 A) (F0 m 29 ls []) := by
            intro d2
            induction d2 with
            | zero => intro a gr G H locs ls h1 h2; omega
            | succ d2 ih2 =>
              intro a gr G H locs ls h3 h4 hgi hP hD hS hl
              refine lv_iload hx hb dX0_setsGiving_29 (lv_at hl 0 rfl) ?_
              refine lv_aload_n hx hb dX0_setsGiving_31 rfl (lv_at hl 3 rfl) ?_
              refine va_get (D := D) (ci := 1) (v := .int (nI n)) (C := RX0) (T := TX0) (N := 7) hx hb hts iX0 hown hK hP 0 rfl rfl 4 (by decide) (hts (.fieldLink RX0 25 "LeastSets$Axioms" "count" "I") (by decide +kernel)) (fun _ h9 => h9) rfl dX0_setsGiving_32 ?_
              refine r_ige hx hb (tgt := 115) (by omega) (by omega) dX0_setsGiving_35 (by decide) (fun c_35 => ?_) (fun c_35 => ?_)
              · have ea : a = n := by omega
                subst ea
                refine lv_iinc (v := (nI (r + 1))) (lv' := [(3, .int (nI (r + 1))), (4, .int (nI a)), (2, .int gr), (0, .ref qa), (1, .int (nI g))]) hx hb dX0_setsGiving_115 hl (k := 2) rfl (nI_inc _) (by decide) rfl (fun ls hl => ?_)
                refine lv_goto (tgt := 12) hx hb dX0_setsGiving_118 (by decide) ?_
                exact ih (r + 1) _ _ H locs ls (by omega) (by omega) (g_round hgi).1 (g_round hgi).2 (fun e0 => by subst e0; exact g_end0 hgi) hP hD hS (lv_sub hl [0, 2, 3, 4] rfl)
              · refine lv_aload_n hx hb dX0_setsGiving_38 rfl (lv_at hl 3 rfl) ?_
                refine lv_aload_n hx hb dX0_setsGiving_39 rfl (lv_at hl 3 rfl) ?_
                refine va_get (D := D) (ci := 1) (v := .ref qb) (C := RX0) (T := TX0) (N := 7) hx hb hts iX0 hown hK hP 0 rfl rfl 0 (by decide) (hts (.fieldLink RX0 9 "LeastSets$Axioms" "body" "[I") (by decide +kernel)) (fun _ h9 => h9) rfl dX0_setsGiving_40 ?_
                refine lv_iload hx hb dX0_setsGiving_43 (lv_at hl 0 rfl) ?_
                refine r_iald hx hb hK hP 1 0 rfl rfl a (by omega) (by omega) dX0_setsGiving_45 ?_
                refine lv_aload_n hx hb dX0_setsGiving_46 rfl (lv_at hl 3 rfl) ?_
                refine va_get (D := D) (ci := 1) (v := .ref qu) (C := RX0) (T := TX0) (N := 7) hx hb hts iX0 hown hK hP 0 rfl rfl 5 (by decide) (hts (.fieldLink RX0 29 "LeastSets$Axioms" "usedBy" "[J") (by decide +kernel)) (fun _ h9 => h9) rfl dX0_setsGiving_47 ?_
                refine lv_iload hx hb dX0_setsGiving_50 (lv_at hl 0 rfl) ?_
                refine r_lald hx hb hK hP 3 2 rfl rfl a (by omega) (by omega) dX0_setsGiving_52 ?_
                refine lv_aload_n hx hb dX0_setsGiving_53 rfl (lv_at hl 3 rfl) ?_
                refine va_get (D := D) (ci := 1) (v := .ref qg) (C := RX0) (T := TX0) (N := 7) hx hb hts iX0 hown hK hP 0 rfl rfl 6 (by decide) (hts (.fieldLink RX0 33 "LeastSets$Axioms" "givenBy" "[J") (by decide +kernel)) (fun _ h9 => h9) rfl dX0_setsGiving_54 ?_
                refine lv_aload_n hx hb dX0_setsGiving_57 rfl (lv_at hl 3 rfl) ?_
                refine va_get (D := D) (ci := 1) (v := .ref qh) (C := RX0) (T := TX0) (N := 7) hx hb hts iX0 hown hK hP 0 rfl rfl 1 (by decide) (hts (.fieldLink RX0 15 "LeastSets$Axioms" "head" "[I") (by decide +kernel)) (fun _ h9 => h9) rfl dX0_setsGiving_58 ?_
                refine lv_iload hx hb dX0_setsGiving_61 (lv_at hl 0 rfl) ?_
                refine r_iald hx hb hK hP 2 0 rfl rfl a (by omega) (by omega) dX0_setsGiving_63 ?_
                refine r_top (y := nI (hd_ Hd a)) (nI_uI _).symm ?_
                refine r_lald hx hb hK hP 4 2 rfl rfl (hd_ Hd a) (hok a c_35).2 (by omega) dX0_setsGiving_64 ?_
                refine lv_ldc2 (v := (-1)) hx hb hown (hts (.constantLong RX0 52 (-1)) (by decide +kernel)) dX0_setsGiving_65 ?_
                refine lv_lxor hx hb dX0_setsGiving_68 ?_
                refine lv_land hx hb dX0_setsGiving_69 ?_
                refine vp_callSl (va_runV (As := [.int (Bd a), .long ((U a) &&& ((G (hd_ Hd a)) ^^^ (-1)))]) (rest := []) ⟨hx, hb, hml, hown, hts⟩ (c_X0_setsGivingAll l D cI cZ cJ qa qb qh qw qf qu qg n hn t1 t2 G (Bd a) ((U a) &&& ((G (hd_ Hd a)) ^^^ (-1))) (hok a c_35).1) (cwV 2 hts gX0_setsGiving_X0_setsGivingAll rfl rfl rfl (by decide +kernel) ⟨Nat.le_of_ble_eq_true rfl, Nat.le_of_ble_eq_true rfl⟩) ⟨re_blind, va_recv hK hP (ci := 1) (q0 := 0) rfl rfl, re_pre (hP.sub (ws' := [(qa, .inr (1, [.ref qb, .ref qh, .ref qw, .ref qf, .int (nI n), .ref qu, .ref qg])), (qg, .inl (cJ, 24, .inr (.inl G)))]) [0, 4] rfl) hK hE hS [0, 1, 2] rfl⟩ rfl rfl hl.1 rfl (lv_room (Nat.le_of_ble_eq_true rfl)) dX0_setsGiving_70 ⟨Nat.le_of_ble_eq_true rfl, Nat.le_of_ble_eq_true rfl⟩).run (fun r_70 hr_70 => ?_)
                refine lv_lstore (lv' := [(5, .long r_70), (4, .int (nI a)), (2, .int gr), (3, .int (nI r)), (0, .ref qa), (1, .int (nI g))]) hx hb dX0_setsGiving_73 hl (by decide) rfl (fun ls hl => ?_)
                refine lv_aload_n hx hb dX0_setsGiving_75 rfl (lv_at hl 4 rfl) ?_
                refine va_get (D := D) (ci := 1) (v := .ref qg) (C := RX0) (T := TX0) (N := 7) hx hb hts iX0 hown hK hP 0 rfl rfl 6 (by decide) (hts (.fieldLink RX0 33 "LeastSets$Axioms" "givenBy" "[J") (by decide +kernel)) (fun _ h9 => h9) rfl dX0_setsGiving_76 ?_
                refine lv_aload_n hx hb dX0_setsGiving_79 rfl (lv_at hl 4 rfl) ?_
                refine va_get (D := D) (ci := 1) (v := .ref qh) (C := RX0) (T := TX0) (N := 7) hx hb hts iX0 hown hK hP 0 rfl rfl 1 (by decide) (hts (.fieldLink RX0 15 "LeastSets$Axioms" "head" "[I") (by decide +kernel)) (fun _ h9 => h9) rfl dX0_setsGiving_80 ?_
                refine lv_iload hx hb dX0_setsGiving_83 (lv_at hl 1 rfl) ?_
                refine r_iald hx hb hK hP 2 0 rfl rfl a (by omega) (by omega) dX0_setsGiving_85 ?_
                refine r_top (y := nI (hd_ Hd a)) (nI_uI _).symm ?_
                refine lv_dup2_11 hx hb dX0_setsGiving_86 rfl rfl ?_
                refine r_lald hx hb hK hP 4 2 rfl rfl (hd_ Hd a) (hok a c_35).2 (by omega) dX0_setsGiving_87 ?_
                refine lv_lload hx hb dX0_setsGiving_88 (lv_at hl 0 rfl) ?_
                refine lv_lor hx hb dX0_setsGiving_90 ?_
                refine r_last hx hb hK hP hD hS 4 2 rfl rfl (hd_ Hd a) (hok a c_35).2 (by omega) dX0_setsGiving_91 (fun H locs hP hD hS => ?_)
                have hP : va_P D vwCl [(qa, .inr (1, [.ref qb, .ref qh, .ref qw, .ref qf, .int (nI n), .ref qu, .ref qg])), (qb, .inl (cI, 14, .inl Bd)), (qh, .inl (cI, 14, .inl Hd)), (qu, .inl (cJ, 14, .inr (.inl U))), (qg, .inl (cJ, 24, .inr (.inl (vp_updL G (hd_ Hd a) ((G (hd_ Hd a)) ||| r_70)))))] H := hP
                have hD : va_D A [(qa, .inr (1, [.ref qb, .ref qh, .ref qw, .ref qf, .int (nI n), .ref qu, .ref qg])), (qb, .inl (cI, 14, .inl Bd)), (qh, .inl (cI, 14, .inl Hd)), (qu, .inl (cJ, 14, .inr (.inl U))), (qg, .inl (cJ, 24, .inr (.inl (vp_updL G (hd_ Hd a) ((G (hd_ Hd a)) ||| r_70)))))] := hD
                refine lv_iload_n hx hb dX0_setsGiving_92 rfl (lv_at hl 2 rfl) ?_
                refine lv_if_ne (tgt := 103) hx hb dX0_setsGiving_93 (by decide) (fun c_93 => ?_) (fun c_93 => ?_)
                · refine lv_iconst (v := 1) hx hb dX0_setsGiving_103 (by decide +kernel) ?_
                  refine lv_goto (tgt := 108) hx hb dX0_setsGiving_104 (by decide) ?_
                  refine lv_istore_n (lv' := [(2, .int 1), (5, .long r_70), (4, .int (nI a)), (3, .int (nI r)), (0, .ref qa), (1, .int (nI g))]) hx hb dX0_setsGiving_108 rfl hl (by decide) rfl (fun ls hl => ?_)
                  refine lv_iinc (v := (nI (a + 1))) (lv' := [(4, .int (nI (a + 1))), (2, .int 1), (5, .long r_70), (3, .int (nI r)), (0, .ref qa), (1, .int (nI g))]) hx hb dX0_setsGiving_109 hl (k := 2) rfl (nI_inc _) (by decide) rfl (fun ls hl => ?_)
                  refine lv_goto (tgt := 29) hx hb dX0_setsGiving_112 (by decide) ?_
                  exact ih2 (a + 1) _ _ H locs ls (by omega) (by omega) (g_step c_35 hgi hr_70 (by first | exact fun h => absurd h (by decide) | exact fun _ => ⟨c_93, (lg_cmp_eq _ _).mp c_100⟩)) hP hD hS (lv_sub hl [0, 1, 3, 4, 5] rfl)
                · refine lv_lload hx hb dX0_setsGiving_96 (lv_at hl 0 rfl) ?_
                  refine lv_lconst (v := 0) hx hb dX0_setsGiving_98 (by decide +kernel) ?_
                  refine W.lcmp hx hb dX0_setsGiving_99 ?_
                  refine lv_if_eq (tgt := 107) hx hb dX0_setsGiving_100 (by decide) (fun c_100 => ?_) (fun c_100 => ?_)
                  · refine lv_iconst (v := 0) hx hb dX0_setsGiving_107 (by decide +kernel) ?_
                    refine lv_istore_n (lv' := [(2, .int 0), (5, .long r_70), (4, .int (nI a)), (3, .int (nI r)), (0, .ref qa), (1, .int (nI g))]) hx hb dX0_setsGiving_108 rfl hl (by decide) rfl (fun ls hl => ?_)
                    refine lv_iinc (v := (nI (a + 1))) (lv' := [(4, .int (nI (a + 1))), (2, .int 0), (5, .long r_70), (3, .int (nI r)), (0, .ref qa), (1, .int (nI g))]) hx hb dX0_setsGiving_109 hl (k := 2) rfl (nI_inc _) (by decide) rfl (fun ls hl => ?_)
                    refine lv_goto (tgt := 29) hx hb dX0_setsGiving_112 (by decide) ?_
                    exact ih2 (a + 1) _ _ H locs ls (by omega) (by omega) (g_step c_35 hgi hr_70 (by first | exact fun h => absurd h (by decide) | exact fun _ => ⟨c_93, (lg_cmp_eq _ _).mp c_100⟩)) hP hD hS (lv_sub hl [0, 1, 3, 4, 5] rfl)
                  · refine lv_iconst (v := 1) hx hb dX0_setsGiving_103 (by decide +kernel) ?_
                    refine lv_goto (tgt := 108) hx hb dX0_setsGiving_104 (by decide) ?_
                    refine lv_istore_n (lv' := [(2, .int 1), (5, .long r_70), (4, .int (nI a)), (3, .int (nI r)), (0, .ref qa), (1, .int (nI g))]) hx hb dX0_setsGiving_108 rfl hl (by decide) rfl (fun ls hl => ?_)
                    refine lv_iinc (v := (nI (a + 1))) (lv' := [(4, .int (nI (a + 1))), (2, .int 1), (5, .long r_70), (3, .int (nI r)), (0, .ref qa), (1, .int (nI g))]) hx hb dX0_setsGiving_109 hl (k := 2) rfl (nI_inc _) (by decide) rfl (fun ls hl => ?_)
                    refine lv_goto (tgt := 29) hx hb dX0_setsGiving_112 (by decide) ?_
                    exact ih2 (a + 1) _ _ H locs ls (by omega) (by omega) (g_step c_35 hgi hr_70 (by first | exact fun h => absurd h (by decide) | exact fun _ => ⟨c_93, (lg_cmp_eq _ _).mp c_100⟩)) hP hD hS (lv_sub hl [0, 1, 3, 4, 5] rfl)
          exact inner (n + 1) 0 _ _ H locs ls (by omega) (Nat.zero_le _) (g_open hs1 hs2 _) hP hD hS (lv_sub hl [0, 1, 2, 3, 4] rfl)
  refine lv_aload_n hx hb dX0_setsGiving_0 rfl (lv_at hl 0 rfl) ?_
  refine va_get (D := D) (ci := 1) (v := .ref qg) (C := RX0) (T := TX0) (N := 7) hx hb hts iX0 hown hK hP 0 rfl rfl 6 (by decide) (hts (.fieldLink RX0 33 "LeastSets$Axioms" "givenBy" "[J") (by decide +kernel)) (fun _ h9 => h9) rfl dX0_setsGiving_1 ?_
  refine lv_lconst (v := 0) hx hb dX0_setsGiving_4 (by decide +kernel) ?_
  have hPc := hP.sub (ws' := [(qg, .inl (cJ, 24, .inr (.inl G)))]) [4] rfl
  have hDc := hD.sub (ws' := [(qg, .inl (cJ, 24, .inr (.inl G)))]) [4] (by decide) rfl
  have hFc := va_free (wc := [(qg, .inl (cJ, 24, .inr (.inl G)))]) hD hS hA [4] rfl
  refine va_callv (va_runS (As := [.ref qg, .long 0]) (rest := []) ⟨hx, hb, hml, hown, hts⟩ (c_J7_fill_d0a16 l D cJ t1 t2 _ qg 24 (by omega) G 0) (va_cwS 2 hts gX0_setsGiving_J7_fill_d0a16 rfl rfl rfl (by decide +kernel) ⟨Nat.le_of_ble_eq_true rfl, Nat.le_of_ble_eq_true rfl⟩) ⟨wr_blind, wr_pre hPc hDc hK hE hS hFc [2] rfl⟩ rfl rfl hl.1 rfl (lv_room (Nat.le_of_ble_eq_true rfl)) dX0_setsGiving_5 ⟨Nat.le_of_ble_eq_true rfl, Nat.le_of_ble_eq_true rfl⟩) hS (fun q _ h => hFc q h) hFc (fun u_5 t H locs ht hvm hw_5 hB hz1 hk1 hS => ?_)
  obtain ⟨hP1, hK1, hD1⟩ := hB
  rw [ht] at hP1
  obtain ⟨hP, hD⟩ := va_join (wr := [(qa, .inr (1, [.ref qb, .ref qh, .ref qw, .ref qf, .int (nI n), .ref qu, .ref qg])), (qb, .inl (cI, 14, .inl Bd)), (qh, .inl (cI, 14, .inl Hd)), (qu, .inl (cJ, 14, .inr (.inl U)))]) (w1 := [(qg, .inl (cJ, 24, .inr (.inl (fun _ => 0))))]) hP hD [4] [0, 1, 2, 3] rfl rfl (by decide) (by decide) hk1 hFc hP1 hD1
  have hP : va_P D vwCl [(qa, .inr (1, [.ref qb, .ref qh, .ref qw, .ref qf, .int (nI n), .ref qu, .ref qg])), (qb, .inl (cI, 14, .inl Bd)), (qh, .inl (cI, 14, .inl Hd)), (qu, .inl (cJ, 14, .inr (.inl U))), (qg, .inl (cJ, 24, .inr (.inl (fun _ => 0))))] H := hP.sub [0, 1, 2, 3, 4] rfl
  have hD : va_D A [(qa, .inr (1, [.ref qb, .ref qh, .ref qw, .ref qf, .int (nI n), .ref qu, .ref qg])), (qb, .inl (cI, 14, .inl Bd)), (qh, .inl (cI, 14, .inl Hd)), (qu, .inl (cJ, 14, .inr (.inl U))), (qg, .inl (cJ, 24, .inr (.inl (fun _ => 0))))] := hD.sub [0, 1, 2, 3, 4] (by decide) rfl
  clear hPc hDc hFc hP1 hK1 hD1 hk1 hz1
  refine lv_iconst (v := 1) hx hb dX0_setsGiving_8 (by decide +kernel) ?_
  refine lv_istore_n (lv' := [(2, .int 1), (0, .ref qa), (1, .int (nI g))]) hx hb dX0_setsGiving_9 rfl hl (by decide) rfl (fun ls hl => ?_)
  refine lv_iconst (v := (nI 0)) hx hb dX0_setsGiving_10 (by decide +kernel) ?_
  refine lv_istore_n (lv' := [(3, .int (nI 0)), (2, .int 1), (0, .ref qa), (1, .int (nI g))]) hx hb dX0_setsGiving_11 rfl hl (by decide) rfl (fun ls hl => ?_)
  exact outer (n + 1) 0 _ _ H locs ls (by omega) (Nat.zero_le _) g_start.1 g_start.2 (fun h => absurd h (by decide)) hP hD hS (lv_sub hl [0, 1, 2, 3] rfl)
end
section
set_option maxHeartbeats 4000000 in
set_option maxRecDepth 100000 in
/-- setsThatGive(g, v) -/
theorem c_X0_setsThatGive (l : Launch) (D : va_G) (cI cZ cJ : ClassId) (t1 t2 sz : Nat) (qa qb qh qw qf qu qg : Nat) (n : Nat) (hn : n ≤ 14) (Bd Hd : Nat → Int32) (U G : Nat → Int64) (g v : Nat) (hg : g < 24) (hv : v < 256) (hok : ∀ a, a < n → uI_ (Bd a) < 16777216 ∧ uI_ (Hd a) < 24) : Met l yX0_setsThatGive wsX0_setsThatGive ({ frames := 4, cells := 0, slots := 0, locals := 96 } : Room) (va_Pc [.ref qa, .int (nI g), .int (nI v)] (wr_ D [(cI, .int), (cZ, .boolean), (cJ, .long)] [(qa, .inr (1, [.ref qb, .ref qh, .ref qw, .ref qf, .int (nI n), .ref qu, .ref qg])), (qb, .inl (cI, 14, .inl Bd)), (qh, .inl (cI, 14, .inl Hd)), (qu, .inl (cJ, 14, .inr (.inl U))), (qg, .inl (cJ, 24, .inr (.inl G)))] t1 t2 sz)) (va_Ql (S := (Nat → Int64) × (Nat → Int64)) (fun r _ => ∀ j, j < 64 → (bl r j = true ↔ mc_ n Bd Hd g (v * 64 + j))) (fun u => wd_ D [(cI, .int), (cZ, .boolean), (cJ, .long)] (va_A [(qa, .inr (1, [.ref qb, .ref qh, .ref qw, .ref qf, .int (nI n), .ref qu, .ref qg])), (qb, .inl (cI, 14, .inl Bd)), (qh, .inl (cI, 14, .inl Hd)), (qu, .inl (cJ, 14, .inr (.inl U))), (qg, .inl (cJ, 24, .inr (.inl G)))] sz) [(qa, .inr (1, [.ref qb, .ref qh, .ref qw, .ref qf, .int (nI n), .ref qu, .ref qg])), (qb, .inl (cI, 14, .inl Bd)), (qh, .inl (cI, 14, .inl Hd)), (qu, .inl (cJ, 14, .inr (.inl u.1))), (qg, .inl (cJ, 24, .inr (.inl u.2)))]) (va_A [(qa, .inr (1, [.ref qb, .ref qh, .ref qw, .ref qf, .int (nI n), .ref qu, .ref qg])), (qb, .inl (cI, 14, .inl Bd)), (qh, .inl (cI, 14, .inl Hd)), (qu, .inl (cJ, 14, .inr (.inl U))), (qg, .inl (cJ, 24, .inr (.inl G)))] sz)) 0 0 (va_A [(qa, .inr (1, [.ref qb, .ref qh, .ref qw, .ref qf, .int (nI n), .ref qu, .ref qg])), (qb, .inl (cI, 14, .inl Bd)), (qh, .inl (cI, 14, .inl Hd)), (qu, .inl (cJ, 14, .inr (.inl U))), (qg, .inl (cJ, 24, .inr (.inl G)))] sz) := by
  refine Met.ofW (cc := cX0_setsThatGive) (maxL := 4) (ret := (some .long)) (by decide) rfl ?_
  intro p e s m args below meth c s₁ B hml hv
  obtain ⟨rfl, hsz, hP, hK, hD0, hE⟩ := hv
  have hx := B.exec
  have hb := B.bytes
  have hr := B.returns
  have hts := atoms_spec (ws := wsX0_setsThatGive) B.pre
  have hown : s.vm.findClass RX0 = some m.cls := findClass_of_methodNamed B.named
  have hlocks := B.notSynchronized
  have iX0 : ∀ w ∈ u_ws RX0 TX0 7, w ∈ wsX0_setsThatGive := by decide +kernel
  subst hsz
  have hD := hD0.self (sz := s.heap.size)
  generalize hAe : va_A [(qa, .inr (1, [.ref qb, .ref qh, .ref qw, .ref qf, .int (nI n), .ref qu, .ref qg])), (qb, .inl (cI, 14, .inl Bd)), (qh, .inl (cI, 14, .inl Hd)), (qu, .inl (cJ, 14, .inr (.inl U))), (qg, .inl (cJ, 24, .inr (.inl G)))] s.heap.size = A at hD hE ⊢
  have hA : ∀ q : Nat, s.heap.size ≤ q → A q := fun q h => by rw [← hAe]; exact Or.inr h
  have hS : va_S A s.heap s.heap [] := va_S.rf
  have hl := lv_entry ([.ref qa, .int (nI g), .int (nI v)]) (n := 4) (Nat.le_of_ble_eq_true rfl)
  rw [lg_entry_eq]
  generalize (lg_sl ([.ref qa, .int (nI g), .int (nI v)]) ++ List.replicate (4 - (lg_sl ([.ref qa, .int (nI g), .int (nI v)])).length) Slot.unset).toArray = ls at hl ⊢
  have hl : lv_has ls 4 [(0, .ref qa), (1, .int (nI g)), (2, .int (nI v))] := hl
  have loop : ∀ (d : Nat) (a : Nat) (U : Nat → Int64) (H : Heap) (locs : List Loc) (ls : Array Slot), n < a + d → a ≤ n → (∀ b, b < a → sw_is b v (U b)) → va_P D vwCl [(qa, .inr (1, [.ref qb, .ref qh, .ref qw, .ref qf, .int (nI n), .ref qu, .ref qg])), (qb, .inl (cI, 14, .inl Bd)), (qh, .inl (cI, 14, .inl Hd)), (qu, .inl (cJ, 14, .inr (.inl U))), (qg, .inl (cJ, 24, .inr (.inl G)))] H → va_D A [(qa, .inr (1, [.ref qb, .ref qh, .ref qw, .ref qf, .int (nI n), .ref qu, .ref qg])), (qb, .inl (cI, 14, .inl Bd)), (qh, .inl (cI, 14, .inl Hd)), (qu, .inl (cJ, 14, .inr (.inl U))), (qg, .inl (cJ, 24, .inr (.inl G)))] → va_S A s.heap H locs → lv_has ls 4 [(3, .int (nI a)), (0, .ref qa), (1, .int (nI g)), (2, .int (nI v))] → W p l e (headSpec wsX0_setsThatGive ({ frames := 4, cells := 0, slots := 0, locals := 96 } : Room)).room s m ([.ref qa, .int (nI g), .int (nI v)] : List Value).toArray below meth c H locs 0 0 (MQ below (va_Ql (S := (Nat → Int64) × (Nat → Int64)) (fun r _ => ∀ j, j < 64 → (bl r j = true ↔ mc_ n Bd Hd g (v * 64 + j))) (fun u => wd_ D [(cI, .int), (cZ, .boolean), (cJ, .long)] A [(qa, .inr (1, [.ref qb, .ref qh, .ref qw, .ref qf, .int (nI n), .ref qu, .ref qg])), (qb, .inl (cI, 14, .inl Bd)), (qh, .inl (cI, 14, .inl Hd)), (qu, .inl (cJ, 14, .inr (.inl u.1))), (qg, .inl (cJ, 24, .inr (.inl u.2)))]) A) ([.ref qa, .int (nI g), .int (nI v)] : List Value).toArray s 0 0 A) (F0 m 2 ls []) := by
    intro d
    induction d with
    | zero => intro a U H locs ls h1 h2; omega
    | succ d ih =>
      intro a U H locs ls h1 h2 hU hP hD hS hl
      refine lv_iload_n hx hb dX0_setsThatGive_2 rfl (lv_at hl 0 rfl) ?_
      refine lv_aload_n hx hb dX0_setsThatGive_3 rfl (lv_at hl 1 rfl) ?_
      refine va_get (D := D) (ci := 1) (v := .int (nI n)) (C := RX0) (T := TX0) (N := 7) hx hb hts iX0 hown hK hP 0 rfl rfl 4 (by decide) (hts (.fieldLink RX0 25 "LeastSets$Axioms" "count" "I") (by decide +kernel)) (fun _ h9 => h9) rfl dX0_setsThatGive_4 ?_
      refine r_ige hx hb (tgt := 28) (by omega) (by omega) dX0_setsThatGive_7 (by decide) (fun c_7 => ?_) (fun c_7 => ?_)
      · refine lv_aload_n hx hb dX0_setsThatGive_28 rfl (lv_at hl 1 rfl) ?_
        refine lv_iload_n hx hb dX0_setsThatGive_29 rfl (lv_at hl 2 rfl) ?_
        have hPc := hP.sub (ws' := [(qa, .inr (1, [.ref qb, .ref qh, .ref qw, .ref qf, .int (nI n), .ref qu, .ref qg])), (qb, .inl (cI, 14, .inl Bd)), (qh, .inl (cI, 14, .inl Hd)), (qu, .inl (cJ, 14, .inr (.inl U))), (qg, .inl (cJ, 24, .inr (.inl G)))]) [0, 1, 2, 3, 4] rfl
        have hDc := hD.sub (ws' := [(qa, .inr (1, [.ref qb, .ref qh, .ref qw, .ref qf, .int (nI n), .ref qu, .ref qg])), (qb, .inl (cI, 14, .inl Bd)), (qh, .inl (cI, 14, .inl Hd)), (qu, .inl (cJ, 14, .inr (.inl U))), (qg, .inl (cJ, 24, .inr (.inl G)))]) [0, 1, 2, 3, 4] (by decide) rfl
        have hFc := va_free (wc := [(qa, .inr (1, [.ref qb, .ref qh, .ref qw, .ref qf, .int (nI n), .ref qu, .ref qg])), (qb, .inl (cI, 14, .inl Bd)), (qh, .inl (cI, 14, .inl Hd)), (qu, .inl (cJ, 14, .inr (.inl U))), (qg, .inl (cJ, 24, .inr (.inl G)))]) hD hS hA [0, 1, 2, 3, 4] rfl
        refine va_calll (va_runV (As := [.int (nI g)]) (rest := []) ⟨hx, hb, hml, hown, hts⟩ (c_X0_setsGiving l D cI cZ cJ t1 t2 _ qa qb qh qw qf qu qg n hn Bd Hd U G g hg hok) (cwV 1 hts gX0_setsThatGive_X0_setsGiving rfl rfl rfl (by decide +kernel) ⟨Nat.le_of_ble_eq_true rfl, Nat.le_of_ble_eq_true rfl⟩) ⟨wr_blind, va_recv hK hP (ci := 1) (q0 := 0) rfl rfl, wr_pre hPc hDc hK hE hS hFc [0, 1, 2] rfl⟩ rfl rfl hl.1 rfl (lv_room (Nat.le_of_ble_eq_true rfl)) dX0_setsThatGive_30 ⟨Nat.le_of_ble_eq_true rfl, Nat.le_of_ble_eq_true rfl⟩) hS (fun q _ h => hFc q h) hFc (fun r_30 u_30 t H locs ht hvm hw_30 hB hz1 hk1 hS => ?_)
        obtain ⟨hP1, hK1, hD1⟩ := hB
        rw [ht] at hP1
        obtain ⟨hP, hD⟩ := va_join (wr := []) (w1 := [(qa, .inr (1, [.ref qb, .ref qh, .ref qw, .ref qf, .int (nI n), .ref qu, .ref qg])), (qb, .inl (cI, 14, .inl Bd)), (qh, .inl (cI, 14, .inl Hd)), (qu, .inl (cJ, 14, .inr (.inl U))), (qg, .inl (cJ, 24, .inr (.inl u_30)))]) hP hD [0, 1, 2, 3, 4] [] rfl rfl (by decide) (by decide) hk1 hFc hP1 hD1
        have hP : va_P D vwCl [(qa, .inr (1, [.ref qb, .ref qh, .ref qw, .ref qf, .int (nI n), .ref qu, .ref qg])), (qb, .inl (cI, 14, .inl Bd)), (qh, .inl (cI, 14, .inl Hd)), (qu, .inl (cJ, 14, .inr (.inl U))), (qg, .inl (cJ, 24, .inr (.inl u_30)))] H := hP.sub [0, 1, 2, 3, 4] rfl
        have hD : va_D A [(qa, .inr (1, [.ref qb, .ref qh, .ref qw, .ref qf, .int (nI n), .ref qu, .ref qg])), (qb, .inl (cI, 14, .inl Bd)), (qh, .inl (cI, 14, .inl Hd)), (qu, .inl (cJ, 14, .inr (.inl U))), (qg, .inl (cJ, 24, .inr (.inl u_30)))] := hD.sub [0, 1, 2, 3, 4] (by decide) rfl
        clear hPc hDc hFc hP1 hK1 hD1 hk1 hz1
        exact W.lret (v := r_30) hx hb hr (fun t ht hW => ⟨⟨r_30, (U, u_30), rfl, fun j hj => (hw_30 j hj).trans (mc_of (fun b hb => hU b (by omega)) hj), by rw [ht]; exact hP, va_K.moved hW.alike hK, hD⟩, hS.F ht⟩) hS.2.2 dX0_setsThatGive_33
      · refine lv_aload_n hx hb dX0_setsThatGive_10 rfl (lv_at hl 1 rfl) ?_
        refine va_get (D := D) (ci := 1) (v := .ref qu) (C := RX0) (T := TX0) (N := 7) hx hb hts iX0 hown hK hP 0 rfl rfl 5 (by decide) (hts (.fieldLink RX0 29 "LeastSets$Axioms" "usedBy" "[J") (by decide +kernel)) (fun _ h9 => h9) rfl dX0_setsThatGive_11 ?_
        refine lv_iload_n hx hb dX0_setsThatGive_14 rfl (lv_at hl 0 rfl) ?_
        refine lv_aload_n hx hb dX0_setsThatGive_15 rfl (lv_at hl 1 rfl) ?_
        refine lv_iload_n hx hb dX0_setsThatGive_16 rfl (lv_at hl 0 rfl) ?_
        refine lv_iload_n hx hb dX0_setsThatGive_17 rfl (lv_at hl 3 rfl) ?_
        refine vp_callSl (va_runV (As := [.int (nI a), .int (nI v)]) (rest := [.int (nI a), .ref qu]) ⟨hx, hb, hml, hown, hts⟩ (c_X0_setsWith l D cI cZ cJ qa qb qh qw qf qu qg n hn t1 t2 a v (by omega) hv) (cwV 2 hts gX0_setsThatGive_X0_setsWith rfl rfl rfl (by decide +kernel) ⟨Nat.le_of_ble_eq_true rfl, Nat.le_of_ble_eq_true rfl⟩) ⟨re_blind, va_recv hK hP (ci := 1) (q0 := 0) rfl rfl, re_pre (hP.sub (ws' := []) [] rfl) hK hE hS [] rfl⟩ rfl rfl hl.1 rfl (lv_room (Nat.le_of_ble_eq_true rfl)) dX0_setsThatGive_18 ⟨Nat.le_of_ble_eq_true rfl, Nat.le_of_ble_eq_true rfl⟩).run (fun r_18 hr_18 => ?_)
        refine r_last hx hb hK hP hD hS 3 2 rfl rfl a (by omega) (by omega) dX0_setsThatGive_21 (fun H locs hP hD hS => ?_)
        have hP : va_P D vwCl [(qa, .inr (1, [.ref qb, .ref qh, .ref qw, .ref qf, .int (nI n), .ref qu, .ref qg])), (qb, .inl (cI, 14, .inl Bd)), (qh, .inl (cI, 14, .inl Hd)), (qu, .inl (cJ, 14, .inr (.inl (vp_updL U a r_18)))), (qg, .inl (cJ, 24, .inr (.inl G)))] H := hP
        have hD : va_D A [(qa, .inr (1, [.ref qb, .ref qh, .ref qw, .ref qf, .int (nI n), .ref qu, .ref qg])), (qb, .inl (cI, 14, .inl Bd)), (qh, .inl (cI, 14, .inl Hd)), (qu, .inl (cJ, 14, .inr (.inl (vp_updL U a r_18)))), (qg, .inl (cJ, 24, .inr (.inl G)))] := hD
        refine lv_iinc (v := (nI (a + 1))) (lv' := [(3, .int (nI (a + 1))), (0, .ref qa), (1, .int (nI g)), (2, .int (nI v))]) hx hb dX0_setsThatGive_22 hl (k := 0) rfl (nI_inc _) (by decide) rfl (fun ls hl => ?_)
        refine lv_goto (tgt := 2) hx hb dX0_setsThatGive_25 (by decide) ?_
        exact ih (a + 1) _ H locs ls (by omega) (by omega) (up_lt (P := fun b x => sw_is b v x) rfl hU hr_18) hP hD hS (lv_sub hl [0, 1, 2, 3] rfl)
  refine lv_iconst (v := (nI 0)) hx hb dX0_setsThatGive_0 (by decide +kernel) ?_
  refine lv_istore_n (lv' := [(3, .int (nI 0)), (0, .ref qa), (1, .int (nI g)), (2, .int (nI v))]) hx hb dX0_setsThatGive_1 rfl hl (by decide) rfl (fun ls hl => ?_)
  exact loop (n + 1) 0 U s.heap [] ls (by omega) (Nat.zero_le _) (fun b hb => absurd hb (Nat.not_lt_zero b)) hP hD hS (lv_sub hl [0, 1, 2, 3] rfl)
set_option maxHeartbeats 4000000 in
set_option maxRecDepth 100000 in
/-- setsThatLeave(g, v) -/
theorem c_X0_setsThatLeave (l : Launch) (D : va_G) (cI cZ cJ : ClassId) (t1 t2 sz : Nat) (qa qb qh qw qf qu qg : Nat) (n : Nat) (hn : n ≤ 14) (Bd Hd Fx : Nat → Int32) (U G : Nat → Int64) (g v : Nat) (hg : g < 24) (hv : v < 256) (hok : ∀ a, a < n → uI_ (Bd a) < 16777216 ∧ uI_ (Hd a) < 24) : Met l yX0_setsThatLeave wsX0_setsThatLeave ({ frames := 4, cells := 0, slots := 0, locals := 96 } : Room) (va_Pc [.ref qa, .int (nI g), .int (nI v)] (wr_ D [(cI, .int), (cZ, .boolean), (cJ, .long)] [(qa, .inr (1, [.ref qb, .ref qh, .ref qw, .ref qf, .int (nI n), .ref qu, .ref qg])), (qb, .inl (cI, 14, .inl Bd)), (qh, .inl (cI, 14, .inl Hd)), (qf, .inl (cZ, 14, .inl Fx)), (qu, .inl (cJ, 14, .inr (.inl U))), (qg, .inl (cJ, 24, .inr (.inl G)))] t1 t2 sz)) (va_Ql (S := (Nat → Int64) × (Nat → Int64)) (fun r _ => ∀ j, j < 64 → (bl r j = true ↔ ¬ mq_ n Bd Hd Fx g (v * 64 + j))) (fun u => wd_ D [(cI, .int), (cZ, .boolean), (cJ, .long)] (va_A [(qa, .inr (1, [.ref qb, .ref qh, .ref qw, .ref qf, .int (nI n), .ref qu, .ref qg])), (qb, .inl (cI, 14, .inl Bd)), (qh, .inl (cI, 14, .inl Hd)), (qf, .inl (cZ, 14, .inl Fx)), (qu, .inl (cJ, 14, .inr (.inl U))), (qg, .inl (cJ, 24, .inr (.inl G)))] sz) [(qa, .inr (1, [.ref qb, .ref qh, .ref qw, .ref qf, .int (nI n), .ref qu, .ref qg])), (qb, .inl (cI, 14, .inl Bd)), (qh, .inl (cI, 14, .inl Hd)), (qf, .inl (cZ, 14, .inl Fx)), (qu, .inl (cJ, 14, .inr (.inl u.1))), (qg, .inl (cJ, 24, .inr (.inl u.2)))]) (va_A [(qa, .inr (1, [.ref qb, .ref qh, .ref qw, .ref qf, .int (nI n), .ref qu, .ref qg])), (qb, .inl (cI, 14, .inl Bd)), (qh, .inl (cI, 14, .inl Hd)), (qf, .inl (cZ, 14, .inl Fx)), (qu, .inl (cJ, 14, .inr (.inl U))), (qg, .inl (cJ, 24, .inr (.inl G)))] sz)) 0 0 (va_A [(qa, .inr (1, [.ref qb, .ref qh, .ref qw, .ref qf, .int (nI n), .ref qu, .ref qg])), (qb, .inl (cI, 14, .inl Bd)), (qh, .inl (cI, 14, .inl Hd)), (qf, .inl (cZ, 14, .inl Fx)), (qu, .inl (cJ, 14, .inr (.inl U))), (qg, .inl (cJ, 24, .inr (.inl G)))] sz) := by
  refine Met.ofW (cc := cX0_setsThatLeave) (maxL := 4) (ret := (some .long)) (by decide) rfl ?_
  intro p e s m args below meth c s₁ B hml hv
  obtain ⟨rfl, hsz, hP, hK, hD0, hE⟩ := hv
  have hx := B.exec
  have hb := B.bytes
  have hr := B.returns
  have hts := atoms_spec (ws := wsX0_setsThatLeave) B.pre
  have hown : s.vm.findClass RX0 = some m.cls := findClass_of_methodNamed B.named
  have hlocks := B.notSynchronized
  have iX0 : ∀ w ∈ u_ws RX0 TX0 7, w ∈ wsX0_setsThatLeave := by decide +kernel
  subst hsz
  have hD := hD0.self (sz := s.heap.size)
  generalize hAe : va_A [(qa, .inr (1, [.ref qb, .ref qh, .ref qw, .ref qf, .int (nI n), .ref qu, .ref qg])), (qb, .inl (cI, 14, .inl Bd)), (qh, .inl (cI, 14, .inl Hd)), (qf, .inl (cZ, 14, .inl Fx)), (qu, .inl (cJ, 14, .inr (.inl U))), (qg, .inl (cJ, 24, .inr (.inl G)))] s.heap.size = A at hD hE ⊢
  have hA : ∀ q : Nat, s.heap.size ≤ q → A q := fun q h => by rw [← hAe]; exact Or.inr h
  have hS : va_S A s.heap s.heap [] := va_S.rf
  have hl := lv_entry ([.ref qa, .int (nI g), .int (nI v)]) (n := 4) (Nat.le_of_ble_eq_true rfl)
  rw [lg_entry_eq]
  generalize (lg_sl ([.ref qa, .int (nI g), .int (nI v)]) ++ List.replicate (4 - (lg_sl ([.ref qa, .int (nI g), .int (nI v)])).length) Slot.unset).toArray = ls at hl ⊢
  have hl : lv_has ls 4 [(0, .ref qa), (1, .int (nI g)), (2, .int (nI v))] := hl
  have loop : ∀ (d : Nat) (a : Nat) (U : Nat → Int64) (H : Heap) (locs : List Loc) (ls : Array Slot), n < a + d → a ≤ n → (∀ b, b < a → sv_is Fx b v (U b)) → va_P D vwCl [(qa, .inr (1, [.ref qb, .ref qh, .ref qw, .ref qf, .int (nI n), .ref qu, .ref qg])), (qb, .inl (cI, 14, .inl Bd)), (qh, .inl (cI, 14, .inl Hd)), (qf, .inl (cZ, 14, .inl Fx)), (qu, .inl (cJ, 14, .inr (.inl U))), (qg, .inl (cJ, 24, .inr (.inl G)))] H → va_D A [(qa, .inr (1, [.ref qb, .ref qh, .ref qw, .ref qf, .int (nI n), .ref qu, .ref qg])), (qb, .inl (cI, 14, .inl Bd)), (qh, .inl (cI, 14, .inl Hd)), (qf, .inl (cZ, 14, .inl Fx)), (qu, .inl (cJ, 14, .inr (.inl U))), (qg, .inl (cJ, 24, .inr (.inl G)))] → va_S A s.heap H locs → lv_has ls 4 [(3, .int (nI a)), (0, .ref qa), (1, .int (nI g)), (2, .int (nI v))] → W p l e (headSpec wsX0_setsThatLeave ({ frames := 4, cells := 0, slots := 0, locals := 96 } : Room)).room s m ([.ref qa, .int (nI g), .int (nI v)] : List Value).toArray below meth c H locs 0 0 (MQ below (va_Ql (S := (Nat → Int64) × (Nat → Int64)) (fun r _ => ∀ j, j < 64 → (bl r j = true ↔ ¬ mq_ n Bd Hd Fx g (v * 64 + j))) (fun u => wd_ D [(cI, .int), (cZ, .boolean), (cJ, .long)] A [(qa, .inr (1, [.ref qb, .ref qh, .ref qw, .ref qf, .int (nI n), .ref qu, .ref qg])), (qb, .inl (cI, 14, .inl Bd)), (qh, .inl (cI, 14, .inl Hd)), (qf, .inl (cZ, 14, .inl Fx)), (qu, .inl (cJ, 14, .inr (.inl u.1))), (qg, .inl (cJ, 24, .inr (.inl u.2)))]) A) ([.ref qa, .int (nI g), .int (nI v)] : List Value).toArray s 0 0 A) (F0 m 2 ls []) := by
    intro d
    induction d with
    | zero => intro a U H locs ls h1 h2; omega
    | succ d ih =>
      intro a U H locs ls h1 h2 hU hP hD hS hl
      refine lv_iload_n hx hb dX0_setsThatLeave_2 rfl (lv_at hl 0 rfl) ?_
      refine lv_aload_n hx hb dX0_setsThatLeave_3 rfl (lv_at hl 1 rfl) ?_
      refine va_get (D := D) (ci := 1) (v := .int (nI n)) (C := RX0) (T := TX0) (N := 7) hx hb hts iX0 hown hK hP 0 rfl rfl 4 (by decide) (hts (.fieldLink RX0 25 "LeastSets$Axioms" "count" "I") (by decide +kernel)) (fun _ h9 => h9) rfl dX0_setsThatLeave_4 ?_
      refine r_ige hx hb (tgt := 47) (by omega) (by omega) dX0_setsThatLeave_7 (by decide) (fun c_7 => ?_) (fun c_7 => ?_)
      · refine lv_aload_n hx hb dX0_setsThatLeave_47 rfl (lv_at hl 1 rfl) ?_
        refine lv_iload_n hx hb dX0_setsThatLeave_48 rfl (lv_at hl 2 rfl) ?_
        have hPc := hP.sub (ws' := [(qa, .inr (1, [.ref qb, .ref qh, .ref qw, .ref qf, .int (nI n), .ref qu, .ref qg])), (qb, .inl (cI, 14, .inl Bd)), (qh, .inl (cI, 14, .inl Hd)), (qu, .inl (cJ, 14, .inr (.inl U))), (qg, .inl (cJ, 24, .inr (.inl G)))]) [0, 1, 2, 4, 5] rfl
        have hDc := hD.sub (ws' := [(qa, .inr (1, [.ref qb, .ref qh, .ref qw, .ref qf, .int (nI n), .ref qu, .ref qg])), (qb, .inl (cI, 14, .inl Bd)), (qh, .inl (cI, 14, .inl Hd)), (qu, .inl (cJ, 14, .inr (.inl U))), (qg, .inl (cJ, 24, .inr (.inl G)))]) [0, 1, 2, 4, 5] (by decide) rfl
        have hFc := va_free (wc := [(qa, .inr (1, [.ref qb, .ref qh, .ref qw, .ref qf, .int (nI n), .ref qu, .ref qg])), (qb, .inl (cI, 14, .inl Bd)), (qh, .inl (cI, 14, .inl Hd)), (qu, .inl (cJ, 14, .inr (.inl U))), (qg, .inl (cJ, 24, .inr (.inl G)))]) hD hS hA [0, 1, 2, 4, 5] rfl
        refine va_calll (va_runV (As := [.int (nI g)]) (rest := []) ⟨hx, hb, hml, hown, hts⟩ (c_X0_setsGiving l D cI cZ cJ t1 t2 _ qa qb qh qw qf qu qg n hn Bd Hd U G g hg hok) (cwV 1 hts gX0_setsThatLeave_X0_setsGiving rfl rfl rfl (by decide +kernel) ⟨Nat.le_of_ble_eq_true rfl, Nat.le_of_ble_eq_true rfl⟩) ⟨wr_blind, va_recv hK hP (ci := 1) (q0 := 0) rfl rfl, wr_pre hPc hDc hK hE hS hFc [0, 1, 2] rfl⟩ rfl rfl hl.1 rfl (lv_room (Nat.le_of_ble_eq_true rfl)) dX0_setsThatLeave_49 ⟨Nat.le_of_ble_eq_true rfl, Nat.le_of_ble_eq_true rfl⟩) hS (fun q _ h => hFc q h) hFc (fun r_49 u_49 t H locs ht hvm hw_49 hB hz1 hk1 hS => ?_)
        obtain ⟨hP1, hK1, hD1⟩ := hB
        rw [ht] at hP1
        obtain ⟨hP, hD⟩ := va_join (wr := [(qf, .inl (cZ, 14, .inl Fx))]) (w1 := [(qa, .inr (1, [.ref qb, .ref qh, .ref qw, .ref qf, .int (nI n), .ref qu, .ref qg])), (qb, .inl (cI, 14, .inl Bd)), (qh, .inl (cI, 14, .inl Hd)), (qu, .inl (cJ, 14, .inr (.inl U))), (qg, .inl (cJ, 24, .inr (.inl u_49)))]) hP hD [0, 1, 2, 4, 5] [3] rfl rfl (by decide) (by decide) hk1 hFc hP1 hD1
        have hP : va_P D vwCl [(qa, .inr (1, [.ref qb, .ref qh, .ref qw, .ref qf, .int (nI n), .ref qu, .ref qg])), (qb, .inl (cI, 14, .inl Bd)), (qh, .inl (cI, 14, .inl Hd)), (qf, .inl (cZ, 14, .inl Fx)), (qu, .inl (cJ, 14, .inr (.inl U))), (qg, .inl (cJ, 24, .inr (.inl u_49)))] H := hP.sub [1, 2, 3, 0, 4, 5] rfl
        have hD : va_D A [(qa, .inr (1, [.ref qb, .ref qh, .ref qw, .ref qf, .int (nI n), .ref qu, .ref qg])), (qb, .inl (cI, 14, .inl Bd)), (qh, .inl (cI, 14, .inl Hd)), (qf, .inl (cZ, 14, .inl Fx)), (qu, .inl (cJ, 14, .inr (.inl U))), (qg, .inl (cJ, 24, .inr (.inl u_49)))] := hD.sub [1, 2, 3, 0, 4, 5] (by decide) rfl
        clear hPc hDc hFc hP1 hK1 hD1 hk1 hz1
        exact W.lret (v := r_49) hx hb hr (fun t ht hW => ⟨⟨r_49, (U, u_49), rfl, fun j hj => (hw_49 j hj).trans (mq_of (fun b hb => hU b (by omega)) hj), by rw [ht]; exact hP, va_K.moved hW.alike hK, hD⟩, hS.F ht⟩) hS.2.2 dX0_setsThatLeave_52
      · refine lv_aload_n hx hb dX0_setsThatLeave_10 rfl (lv_at hl 1 rfl) ?_
        refine va_get (D := D) (ci := 1) (v := .ref qu) (C := RX0) (T := TX0) (N := 7) hx hb hts iX0 hown hK hP 0 rfl rfl 5 (by decide) (hts (.fieldLink RX0 29 "LeastSets$Axioms" "usedBy" "[J") (by decide +kernel)) (fun _ h9 => h9) rfl dX0_setsThatLeave_11 ?_
        refine lv_iload_n hx hb dX0_setsThatLeave_14 rfl (lv_at hl 0 rfl) ?_
        refine lv_aload_n hx hb dX0_setsThatLeave_15 rfl (lv_at hl 1 rfl) ?_
        refine va_get (D := D) (ci := 1) (v := .ref qf) (C := RX0) (T := TX0) (N := 7) hx hb hts iX0 hown hK hP 0 rfl rfl 3 (by decide) (hts (.fieldLink RX0 21 "LeastSets$Axioms" "fixed" "[Z") (by decide +kernel)) (fun _ h9 => h9) rfl dX0_setsThatLeave_16 ?_
        refine lv_iload_n hx hb dX0_setsThatLeave_19 rfl (lv_at hl 0 rfl) ?_
        refine r_zald hx hb hK hP 3 1 rfl rfl a (by omega) (by omega) dX0_setsThatLeave_20 ?_
        refine lv_if_eq (tgt := 30) hx hb dX0_setsThatLeave_21 (by decide) (fun c_21 => ?_) (fun c_21 => ?_)
        · refine lv_aload_n hx hb dX0_setsThatLeave_30 rfl (lv_at hl 1 rfl) ?_
          refine lv_iload_n hx hb dX0_setsThatLeave_31 rfl (lv_at hl 0 rfl) ?_
          refine lv_iload_n hx hb dX0_setsThatLeave_32 rfl (lv_at hl 3 rfl) ?_
          refine vp_callSl (va_runV (As := [.int (nI a), .int (nI v)]) (rest := [.int (nI a), .ref qu]) ⟨hx, hb, hml, hown, hts⟩ (c_X0_setsWith l D cI cZ cJ qa qb qh qw qf qu qg n hn t1 t2 a v (by omega) hv) (cwV 2 hts gX0_setsThatLeave_X0_setsWith rfl rfl rfl (by decide +kernel) ⟨Nat.le_of_ble_eq_true rfl, Nat.le_of_ble_eq_true rfl⟩) ⟨re_blind, va_recv hK hP (ci := 1) (q0 := 0) rfl rfl, re_pre (hP.sub (ws' := []) [] rfl) hK hE hS [] rfl⟩ rfl rfl hl.1 rfl (lv_room (Nat.le_of_ble_eq_true rfl)) dX0_setsThatLeave_33 ⟨Nat.le_of_ble_eq_true rfl, Nat.le_of_ble_eq_true rfl⟩).run (fun r_33 hr_33 => ?_)
          refine lv_ldc2 (v := (-1)) hx hb hown (hts (.constantLong RX0 52 (-1)) (by decide +kernel)) dX0_setsThatLeave_36 ?_
          refine lv_lxor hx hb dX0_setsThatLeave_39 ?_
          refine r_last hx hb hK hP hD hS 4 2 rfl rfl a (by omega) (by omega) dX0_setsThatLeave_40 (fun H locs hP hD hS => ?_)
          have hP : va_P D vwCl [(qa, .inr (1, [.ref qb, .ref qh, .ref qw, .ref qf, .int (nI n), .ref qu, .ref qg])), (qb, .inl (cI, 14, .inl Bd)), (qh, .inl (cI, 14, .inl Hd)), (qf, .inl (cZ, 14, .inl Fx)), (qu, .inl (cJ, 14, .inr (.inl (vp_updL U a (r_33 ^^^ (-1)))))), (qg, .inl (cJ, 24, .inr (.inl G)))] H := hP
          have hD : va_D A [(qa, .inr (1, [.ref qb, .ref qh, .ref qw, .ref qf, .int (nI n), .ref qu, .ref qg])), (qb, .inl (cI, 14, .inl Bd)), (qh, .inl (cI, 14, .inl Hd)), (qf, .inl (cZ, 14, .inl Fx)), (qu, .inl (cJ, 14, .inr (.inl (vp_updL U a (r_33 ^^^ (-1)))))), (qg, .inl (cJ, 24, .inr (.inl G)))] := hD
          refine lv_iinc (v := (nI (a + 1))) (lv' := [(3, .int (nI (a + 1))), (0, .ref qa), (1, .int (nI g)), (2, .int (nI v))]) hx hb dX0_setsThatLeave_41 hl (k := 0) rfl (nI_inc _) (by decide) rfl (fun ls hl => ?_)
          refine lv_goto (tgt := 2) hx hb dX0_setsThatLeave_44 (by decide) ?_
          exact ih (a + 1) _ H locs ls (by omega) (by omega) (up_lt (P := fun b x => sv_is Fx b v x) rfl hU (by first | exact sv_fix c_21 | exact sv_not c_21 hr_33)) hP hD hS (lv_sub hl [0, 1, 2, 3] rfl)
        · refine lv_ldc2 (v := (-1)) hx hb hown (hts (.constantLong RX0 52 (-1)) (by decide +kernel)) dX0_setsThatLeave_24 ?_
          refine lv_goto (tgt := 40) hx hb dX0_setsThatLeave_27 (by decide) ?_
          refine r_last hx hb hK hP hD hS 4 2 rfl rfl a (by omega) (by omega) dX0_setsThatLeave_40 (fun H locs hP hD hS => ?_)
          have hP : va_P D vwCl [(qa, .inr (1, [.ref qb, .ref qh, .ref qw, .ref qf, .int (nI n), .ref qu, .ref qg])), (qb, .inl (cI, 14, .inl Bd)), (qh, .inl (cI, 14, .inl Hd)), (qf, .inl (cZ, 14, .inl Fx)), (qu, .inl (cJ, 14, .inr (.inl (vp_updL U a (-1))))), (qg, .inl (cJ, 24, .inr (.inl G)))] H := hP
          have hD : va_D A [(qa, .inr (1, [.ref qb, .ref qh, .ref qw, .ref qf, .int (nI n), .ref qu, .ref qg])), (qb, .inl (cI, 14, .inl Bd)), (qh, .inl (cI, 14, .inl Hd)), (qf, .inl (cZ, 14, .inl Fx)), (qu, .inl (cJ, 14, .inr (.inl (vp_updL U a (-1))))), (qg, .inl (cJ, 24, .inr (.inl G)))] := hD
          refine lv_iinc (v := (nI (a + 1))) (lv' := [(3, .int (nI (a + 1))), (0, .ref qa), (1, .int (nI g)), (2, .int (nI v))]) hx hb dX0_setsThatLeave_41 hl (k := 0) rfl (nI_inc _) (by decide) rfl (fun ls hl => ?_)
          refine lv_goto (tgt := 2) hx hb dX0_setsThatLeave_44 (by decide) ?_
          exact ih (a + 1) _ H locs ls (by omega) (by omega) (up_lt (P := fun b x => sv_is Fx b v x) rfl hU (by first | exact sv_fix c_21 | exact sv_not c_21 hr_33)) hP hD hS (lv_sub hl [0, 1, 2, 3] rfl)
  refine lv_iconst (v := (nI 0)) hx hb dX0_setsThatLeave_0 (by decide +kernel) ?_
  refine lv_istore_n (lv' := [(3, .int (nI 0)), (0, .ref qa), (1, .int (nI g)), (2, .int (nI v))]) hx hb dX0_setsThatLeave_1 rfl hl (by decide) rfl (fun ls hl => ?_)
  exact loop (n + 1) 0 U s.heap [] ls (by omega) (Nat.zero_le _) (fun b hb => absurd hb (Nat.not_lt_zero b)) hP hD hS (lv_sub hl [0, 1, 2, 3] rfl)
set_option maxHeartbeats 4000000 in
set_option maxRecDepth 100000 in
/-- append(x, y) -/
theorem c_X0_append (l : Launch) (D : va_G) (cI cZ cJ : ClassId) (t1 t2 sz : Nat) (qa qb qh qw qf qu qg : Nat) (n : Nat) (hn : n ≤ 14) (hn2 : n < 14) (Bd Hd Wt Fx : Nat → Int32) (x y : Int32) : Met l yX0_append wsX0_append ({ frames := 0, cells := 0, slots := 0, locals := 0 } : Room) (va_Pc [.ref qa, .int x, .int y] (wr_ D [(cI, .int), (cZ, .boolean), (cJ, .long)] [(qa, .inr (1, [.ref qb, .ref qh, .ref qw, .ref qf, .int (nI n), .ref qu, .ref qg])), (qb, .inl (cI, 14, .inl Bd)), (qh, .inl (cI, 14, .inl Hd)), (qw, .inl (cI, 14, .inl Wt)), (qf, .inl (cZ, 14, .inl Fx))] t1 t2 sz)) (va_Qv (S := Unit) (fun _ => True) (fun _ => wd_ D [(cI, .int), (cZ, .boolean), (cJ, .long)] (va_A [(qa, .inr (1, [.ref qb, .ref qh, .ref qw, .ref qf, .int (nI n), .ref qu, .ref qg])), (qb, .inl (cI, 14, .inl Bd)), (qh, .inl (cI, 14, .inl Hd)), (qw, .inl (cI, 14, .inl Wt)), (qf, .inl (cZ, 14, .inl Fx))] sz) [(qa, .inr (1, [.ref qb, .ref qh, .ref qw, .ref qf, .int (nI (n + 1)), .ref qu, .ref qg])), (qb, .inl (cI, 14, .inl (upd Bd n x))), (qh, .inl (cI, 14, .inl (upd Hd n y))), (qw, .inl (cI, 14, .inl (upd Wt n 1))), (qf, .inl (cZ, 14, .inl (upd Fx n 0)))]) (va_A [(qa, .inr (1, [.ref qb, .ref qh, .ref qw, .ref qf, .int (nI n), .ref qu, .ref qg])), (qb, .inl (cI, 14, .inl Bd)), (qh, .inl (cI, 14, .inl Hd)), (qw, .inl (cI, 14, .inl Wt)), (qf, .inl (cZ, 14, .inl Fx))] sz)) 0 0 (va_A [(qa, .inr (1, [.ref qb, .ref qh, .ref qw, .ref qf, .int (nI n), .ref qu, .ref qg])), (qb, .inl (cI, 14, .inl Bd)), (qh, .inl (cI, 14, .inl Hd)), (qw, .inl (cI, 14, .inl Wt)), (qf, .inl (cZ, 14, .inl Fx))] sz) := by
  refine Met.ofW (cc := cX0_append) (maxL := 3) (ret := none) (by decide) rfl ?_
  intro p e s m args below meth c s₁ B hml hv
  obtain ⟨rfl, hsz, hP, hK, hD0, hE⟩ := hv
  have hx := B.exec
  have hb := B.bytes
  have hr := B.returns
  have hts := atoms_spec (ws := wsX0_append) B.pre
  have hown : s.vm.findClass RX0 = some m.cls := findClass_of_methodNamed B.named
  have hlocks := B.notSynchronized
  have iX0 : ∀ w ∈ u_ws RX0 TX0 7, w ∈ wsX0_append := by decide +kernel
  subst hsz
  have hD := hD0.self (sz := s.heap.size)
  generalize hAe : va_A [(qa, .inr (1, [.ref qb, .ref qh, .ref qw, .ref qf, .int (nI n), .ref qu, .ref qg])), (qb, .inl (cI, 14, .inl Bd)), (qh, .inl (cI, 14, .inl Hd)), (qw, .inl (cI, 14, .inl Wt)), (qf, .inl (cZ, 14, .inl Fx))] s.heap.size = A at hD hE ⊢
  have hA : ∀ q : Nat, s.heap.size ≤ q → A q := fun q h => by rw [← hAe]; exact Or.inr h
  have hS : va_S A s.heap s.heap [] := va_S.rf
  have hl := lv_entry ([.ref qa, .int x, .int y]) (n := 3) (Nat.le_of_ble_eq_true rfl)
  rw [lg_entry_eq]
  generalize (lg_sl ([.ref qa, .int x, .int y]) ++ List.replicate (3 - (lg_sl ([.ref qa, .int x, .int y])).length) Slot.unset).toArray = ls at hl ⊢
  have hl : lv_has ls 3 [(0, .ref qa), (1, .int x), (2, .int y)] := hl
  refine lv_aload_n hx hb dX0_append_0 rfl (lv_at hl 0 rfl) ?_
  refine va_get (D := D) (ci := 1) (v := .int (nI n)) (C := RX0) (T := TX0) (N := 7) hx hb hts iX0 hown hK hP 0 rfl rfl 4 (by decide) (hts (.fieldLink RX0 25 "LeastSets$Axioms" "count" "I") (by decide +kernel)) (fun _ h9 => h9) rfl dX0_append_1 ?_
  refine lv_bipush (v := (nI 14)) hx hb dX0_append_4 (by decide +kernel) ?_
  refine r_ige hx hb (tgt := 59) (by omega) (by omega) dX0_append_6 (by decide) (fun c_6 => ?_) (fun c_6 => ?_)
  · exact absurd c_6 (by omega)
  · refine lv_aload_n hx hb dX0_append_9 rfl (lv_at hl 0 rfl) ?_
    refine va_get (D := D) (ci := 1) (v := .ref qb) (C := RX0) (T := TX0) (N := 7) hx hb hts iX0 hown hK hP 0 rfl rfl 0 (by decide) (hts (.fieldLink RX0 9 "LeastSets$Axioms" "body" "[I") (by decide +kernel)) (fun _ h9 => h9) rfl dX0_append_10 ?_
    refine lv_aload_n hx hb dX0_append_13 rfl (lv_at hl 0 rfl) ?_
    refine va_get (D := D) (ci := 1) (v := .int (nI n)) (C := RX0) (T := TX0) (N := 7) hx hb hts iX0 hown hK hP 0 rfl rfl 4 (by decide) (hts (.fieldLink RX0 25 "LeastSets$Axioms" "count" "I") (by decide +kernel)) (fun _ h9 => h9) rfl dX0_append_14 ?_
    refine lv_iload_n hx hb dX0_append_17 rfl (lv_at hl 1 rfl) ?_
    refine r_iast hx hb hK hP hD hS 1 0 rfl rfl n (by omega) (by omega) dX0_append_18 (fun H locs hP hD hS => ?_)
    have hP : va_P D vwCl [(qa, .inr (1, [.ref qb, .ref qh, .ref qw, .ref qf, .int (nI n), .ref qu, .ref qg])), (qb, .inl (cI, 14, .inl (upd Bd n x))), (qh, .inl (cI, 14, .inl Hd)), (qw, .inl (cI, 14, .inl Wt)), (qf, .inl (cZ, 14, .inl Fx))] H := hP
    have hD : va_D A [(qa, .inr (1, [.ref qb, .ref qh, .ref qw, .ref qf, .int (nI n), .ref qu, .ref qg])), (qb, .inl (cI, 14, .inl (upd Bd n x))), (qh, .inl (cI, 14, .inl Hd)), (qw, .inl (cI, 14, .inl Wt)), (qf, .inl (cZ, 14, .inl Fx))] := hD
    refine lv_aload_n hx hb dX0_append_19 rfl (lv_at hl 0 rfl) ?_
    refine va_get (D := D) (ci := 1) (v := .ref qh) (C := RX0) (T := TX0) (N := 7) hx hb hts iX0 hown hK hP 0 rfl rfl 1 (by decide) (hts (.fieldLink RX0 15 "LeastSets$Axioms" "head" "[I") (by decide +kernel)) (fun _ h9 => h9) rfl dX0_append_20 ?_
    refine lv_aload_n hx hb dX0_append_23 rfl (lv_at hl 0 rfl) ?_
    refine va_get (D := D) (ci := 1) (v := .int (nI n)) (C := RX0) (T := TX0) (N := 7) hx hb hts iX0 hown hK hP 0 rfl rfl 4 (by decide) (hts (.fieldLink RX0 25 "LeastSets$Axioms" "count" "I") (by decide +kernel)) (fun _ h9 => h9) rfl dX0_append_24 ?_
    refine lv_iload_n hx hb dX0_append_27 rfl (lv_at hl 2 rfl) ?_
    refine r_iast hx hb hK hP hD hS 2 0 rfl rfl n (by omega) (by omega) dX0_append_28 (fun H locs hP hD hS => ?_)
    have hP : va_P D vwCl [(qa, .inr (1, [.ref qb, .ref qh, .ref qw, .ref qf, .int (nI n), .ref qu, .ref qg])), (qb, .inl (cI, 14, .inl (upd Bd n x))), (qh, .inl (cI, 14, .inl (upd Hd n y))), (qw, .inl (cI, 14, .inl Wt)), (qf, .inl (cZ, 14, .inl Fx))] H := hP
    have hD : va_D A [(qa, .inr (1, [.ref qb, .ref qh, .ref qw, .ref qf, .int (nI n), .ref qu, .ref qg])), (qb, .inl (cI, 14, .inl (upd Bd n x))), (qh, .inl (cI, 14, .inl (upd Hd n y))), (qw, .inl (cI, 14, .inl Wt)), (qf, .inl (cZ, 14, .inl Fx))] := hD
    refine lv_aload_n hx hb dX0_append_29 rfl (lv_at hl 0 rfl) ?_
    refine va_get (D := D) (ci := 1) (v := .ref qw) (C := RX0) (T := TX0) (N := 7) hx hb hts iX0 hown hK hP 0 rfl rfl 2 (by decide) (hts (.fieldLink RX0 18 "LeastSets$Axioms" "weight" "[I") (by decide +kernel)) (fun _ h9 => h9) rfl dX0_append_30 ?_
    refine lv_aload_n hx hb dX0_append_33 rfl (lv_at hl 0 rfl) ?_
    refine va_get (D := D) (ci := 1) (v := .int (nI n)) (C := RX0) (T := TX0) (N := 7) hx hb hts iX0 hown hK hP 0 rfl rfl 4 (by decide) (hts (.fieldLink RX0 25 "LeastSets$Axioms" "count" "I") (by decide +kernel)) (fun _ h9 => h9) rfl dX0_append_34 ?_
    refine lv_iconst (v := 1) hx hb dX0_append_37 (by decide +kernel) ?_
    refine r_iast hx hb hK hP hD hS 3 0 rfl rfl n (by omega) (by omega) dX0_append_38 (fun H locs hP hD hS => ?_)
    have hP : va_P D vwCl [(qa, .inr (1, [.ref qb, .ref qh, .ref qw, .ref qf, .int (nI n), .ref qu, .ref qg])), (qb, .inl (cI, 14, .inl (upd Bd n x))), (qh, .inl (cI, 14, .inl (upd Hd n y))), (qw, .inl (cI, 14, .inl (upd Wt n 1))), (qf, .inl (cZ, 14, .inl Fx))] H := hP
    have hD : va_D A [(qa, .inr (1, [.ref qb, .ref qh, .ref qw, .ref qf, .int (nI n), .ref qu, .ref qg])), (qb, .inl (cI, 14, .inl (upd Bd n x))), (qh, .inl (cI, 14, .inl (upd Hd n y))), (qw, .inl (cI, 14, .inl (upd Wt n 1))), (qf, .inl (cZ, 14, .inl Fx))] := hD
    refine lv_aload_n hx hb dX0_append_39 rfl (lv_at hl 0 rfl) ?_
    refine va_get (D := D) (ci := 1) (v := .ref qf) (C := RX0) (T := TX0) (N := 7) hx hb hts iX0 hown hK hP 0 rfl rfl 3 (by decide) (hts (.fieldLink RX0 21 "LeastSets$Axioms" "fixed" "[Z") (by decide +kernel)) (fun _ h9 => h9) rfl dX0_append_40 ?_
    refine lv_aload_n hx hb dX0_append_43 rfl (lv_at hl 0 rfl) ?_
    refine va_get (D := D) (ci := 1) (v := .int (nI n)) (C := RX0) (T := TX0) (N := 7) hx hb hts iX0 hown hK hP 0 rfl rfl 4 (by decide) (hts (.fieldLink RX0 25 "LeastSets$Axioms" "count" "I") (by decide +kernel)) (fun _ h9 => h9) rfl dX0_append_44 ?_
    refine lv_iconst (v := 0) hx hb dX0_append_47 (by decide +kernel) ?_
    refine r_zast hx hb hK hP hD hS 4 1 rfl rfl n (by decide) (by omega) (by omega) dX0_append_48 (fun H locs hP hD hS => ?_)
    have hP : va_P D vwCl [(qa, .inr (1, [.ref qb, .ref qh, .ref qw, .ref qf, .int (nI n), .ref qu, .ref qg])), (qb, .inl (cI, 14, .inl (upd Bd n x))), (qh, .inl (cI, 14, .inl (upd Hd n y))), (qw, .inl (cI, 14, .inl (upd Wt n 1))), (qf, .inl (cZ, 14, .inl (upd Fx n 0)))] H := hP
    have hD : va_D A [(qa, .inr (1, [.ref qb, .ref qh, .ref qw, .ref qf, .int (nI n), .ref qu, .ref qg])), (qb, .inl (cI, 14, .inl (upd Bd n x))), (qh, .inl (cI, 14, .inl (upd Hd n y))), (qw, .inl (cI, 14, .inl (upd Wt n 1))), (qf, .inl (cZ, 14, .inl (upd Fx n 0)))] := hD
    refine lv_aload_n hx hb dX0_append_49 rfl (lv_at hl 0 rfl) ?_
    refine lv_dup hx hb dX0_append_50 rfl ?_
    refine va_get (D := D) (ci := 1) (v := .int (nI n)) (C := RX0) (T := TX0) (N := 7) hx hb hts iX0 hown hK hP 0 rfl rfl 4 (by decide) (hts (.fieldLink RX0 25 "LeastSets$Axioms" "count" "I") (by decide +kernel)) (fun _ h9 => h9) rfl dX0_append_51 ?_
    refine lv_iconst (v := (nI 1)) hx hb dX0_append_54 (by decide +kernel) ?_
    refine r_iadd hx hb dX0_append_55 ?_
    refine va_put (D := D) (ci := 1) (v := .int (nI (n + 1))) (ty := .int) (C := RX0) (T := TX0) (N := 7) hx hb hts iX0 tyX0 tyX0_ok nmX0 hown hK hP hD hS 0 rfl rfl 4 (by decide) (hts (.fieldLink RX0 25 "LeastSets$Axioms" "count" "I") (by decide +kernel)) (fun _ h9 => h9) rfl (by decide +kernel) rfl rfl (Nat.le_of_ble_eq_true rfl) dX0_append_56 (fun H locs hP hD hS => ?_)
    have hP : va_P D vwCl [(qa, .inr (1, [.ref qb, .ref qh, .ref qw, .ref qf, .int (nI (n + 1)), .ref qu, .ref qg])), (qb, .inl (cI, 14, .inl (upd Bd n x))), (qh, .inl (cI, 14, .inl (upd Hd n y))), (qw, .inl (cI, 14, .inl (upd Wt n 1))), (qf, .inl (cZ, 14, .inl (upd Fx n 0)))] H := hP
    have hD : va_D A [(qa, .inr (1, [.ref qb, .ref qh, .ref qw, .ref qf, .int (nI (n + 1)), .ref qu, .ref qg])), (qb, .inl (cI, 14, .inl (upd Bd n x))), (qh, .inl (cI, 14, .inl (upd Hd n y))), (qw, .inl (cI, 14, .inl (upd Wt n 1))), (qf, .inl (cZ, 14, .inl (upd Fx n 0)))] := hD
    exact W.vret hx hb hr (fun t ht hW => ⟨⟨(), rfl, trivial, by rw [ht]; exact hP, va_K.moved hW.alike hK, hD⟩, hS.F ht⟩) hS.2.2 dX0_append_59
set_option maxHeartbeats 4000000 in
set_option maxRecDepth 100000 in
/-- remove(j) -/
theorem c_X0_remove (l : Launch) (D : va_G) (cI cZ cJ : ClassId) (t1 t2 sz : Nat) (qa qb qh qw qf qu qg : Nat) (n : Nat) (hn : n ≤ 14) (j : Nat) (hj : j < n) (Bd Hd Wt Fx : Nat → Int32) (hF : ∀ a, a < n → Fx a = 0 ∨ Fx a = 1) : Met l yX0_remove wsX0_remove ({ frames := 1, cells := 0, slots := 0, locals := 21 } : Room) (va_Pc [.ref qa, .int (nI j)] (wr_ D [(cI, .int), (cZ, .boolean), (cJ, .long)] [(qa, .inr (1, [.ref qb, .ref qh, .ref qw, .ref qf, .int (nI n), .ref qu, .ref qg])), (qb, .inl (cI, 14, .inl Bd)), (qh, .inl (cI, 14, .inl Hd)), (qw, .inl (cI, 14, .inl Wt)), (qf, .inl (cZ, 14, .inl Fx))] t1 t2 sz)) (va_Qv (S := Unit) (fun _ => True) (fun _ => wd_ D [(cI, .int), (cZ, .boolean), (cJ, .long)] (va_A [(qa, .inr (1, [.ref qb, .ref qh, .ref qw, .ref qf, .int (nI n), .ref qu, .ref qg])), (qb, .inl (cI, 14, .inl Bd)), (qh, .inl (cI, 14, .inl Hd)), (qw, .inl (cI, 14, .inl Wt)), (qf, .inl (cZ, 14, .inl Fx))] sz) [(qa, .inr (1, [.ref qb, .ref qh, .ref qw, .ref qf, .int (nI (n - 1)), .ref qu, .ref qg])), (qb, .inl (cI, 14, .inl (sh_ Bd j n))), (qh, .inl (cI, 14, .inl (sh_ Hd j n))), (qw, .inl (cI, 14, .inl (sh_ Wt j n))), (qf, .inl (cZ, 14, .inl (sh_ Fx j n)))]) (va_A [(qa, .inr (1, [.ref qb, .ref qh, .ref qw, .ref qf, .int (nI n), .ref qu, .ref qg])), (qb, .inl (cI, 14, .inl Bd)), (qh, .inl (cI, 14, .inl Hd)), (qw, .inl (cI, 14, .inl Wt)), (qf, .inl (cZ, 14, .inl Fx))] sz)) 0 0 (va_A [(qa, .inr (1, [.ref qb, .ref qh, .ref qw, .ref qf, .int (nI n), .ref qu, .ref qg])), (qb, .inl (cI, 14, .inl Bd)), (qh, .inl (cI, 14, .inl Hd)), (qw, .inl (cI, 14, .inl Wt)), (qf, .inl (cZ, 14, .inl Fx))] sz) := by
  refine Met.ofW (cc := cX0_remove) (maxL := 3) (ret := none) (by decide) rfl ?_
  intro p e s m args below meth c s₁ B hml hv
  obtain ⟨rfl, hsz, hP, hK, hD0, hE⟩ := hv
  have hx := B.exec
  have hb := B.bytes
  have hr := B.returns
  have hts := atoms_spec (ws := wsX0_remove) B.pre
  have hown : s.vm.findClass RX0 = some m.cls := findClass_of_methodNamed B.named
  have hlocks := B.notSynchronized
  have iX0 : ∀ w ∈ u_ws RX0 TX0 7, w ∈ wsX0_remove := by decide +kernel
  subst hsz
  have hD := hD0.self (sz := s.heap.size)
  generalize hAe : va_A [(qa, .inr (1, [.ref qb, .ref qh, .ref qw, .ref qf, .int (nI n), .ref qu, .ref qg])), (qb, .inl (cI, 14, .inl Bd)), (qh, .inl (cI, 14, .inl Hd)), (qw, .inl (cI, 14, .inl Wt)), (qf, .inl (cZ, 14, .inl Fx))] s.heap.size = A at hD hE ⊢
  have hA : ∀ q : Nat, s.heap.size ≤ q → A q := fun q h => by rw [← hAe]; exact Or.inr h
  have hS : va_S A s.heap s.heap [] := va_S.rf
  have hl := lv_entry ([.ref qa, .int (nI j)]) (n := 3) (Nat.le_of_ble_eq_true rfl)
  rw [lg_entry_eq]
  generalize (lg_sl ([.ref qa, .int (nI j)]) ++ List.replicate (3 - (lg_sl ([.ref qa, .int (nI j)])).length) Slot.unset).toArray = ls at hl ⊢
  have hl : lv_has ls 3 [(0, .ref qa), (1, .int (nI j))] := hl
  have loop : ∀ (d : Nat) (a : Nat) (H : Heap) (locs : List Loc) (ls : Array Slot), n < a + d + 1 → j ≤ a → a < n → va_P D vwCl [(qa, .inr (1, [.ref qb, .ref qh, .ref qw, .ref qf, .int (nI n), .ref qu, .ref qg])), (qb, .inl (cI, 14, .inl (sh_ Bd j (a + 1)))), (qh, .inl (cI, 14, .inl (sh_ Hd j (a + 1)))), (qw, .inl (cI, 14, .inl (sh_ Wt j (a + 1)))), (qf, .inl (cZ, 14, .inl (sh_ Fx j (a + 1))))] H → va_D A [(qa, .inr (1, [.ref qb, .ref qh, .ref qw, .ref qf, .int (nI n), .ref qu, .ref qg])), (qb, .inl (cI, 14, .inl (sh_ Bd j (a + 1)))), (qh, .inl (cI, 14, .inl (sh_ Hd j (a + 1)))), (qw, .inl (cI, 14, .inl (sh_ Wt j (a + 1)))), (qf, .inl (cZ, 14, .inl (sh_ Fx j (a + 1))))] → va_S A s.heap H locs → lv_has ls 3 [(2, .int (nI a)), (0, .ref qa), (1, .int (nI j))] → W p l e (headSpec wsX0_remove ({ frames := 1, cells := 0, slots := 0, locals := 21 } : Room)).room s m ([.ref qa, .int (nI j)] : List Value).toArray below meth c H locs 0 0 (MQ below (va_Qv (S := Unit) (fun _ => True) (fun _ => wd_ D [(cI, .int), (cZ, .boolean), (cJ, .long)] A [(qa, .inr (1, [.ref qb, .ref qh, .ref qw, .ref qf, .int (nI (n - 1)), .ref qu, .ref qg])), (qb, .inl (cI, 14, .inl (sh_ Bd j n))), (qh, .inl (cI, 14, .inl (sh_ Hd j n))), (qw, .inl (cI, 14, .inl (sh_ Wt j n))), (qf, .inl (cZ, 14, .inl (sh_ Fx j n)))]) A) ([.ref qa, .int (nI j)] : List Value).toArray s 0 0 A) (F0 m 10 ls []) := by
    intro d
    induction d with
    | zero => intro a H locs ls h1 h2; omega
    | succ d ih =>
      intro a H locs ls h1 h2 h3 hP hD hS hl
      refine lv_iload_n hx hb dX0_remove_10 rfl (lv_at hl 0 rfl) ?_
      refine lv_iconst (v := (nI 1)) hx hb dX0_remove_11 (by decide +kernel) ?_
      refine r_iadd hx hb dX0_remove_12 ?_
      refine lv_aload_n hx hb dX0_remove_13 rfl (lv_at hl 1 rfl) ?_
      refine va_get (D := D) (ci := 1) (v := .int (nI n)) (C := RX0) (T := TX0) (N := 7) hx hb hts iX0 hown hK hP 0 rfl rfl 4 (by decide) (hts (.fieldLink RX0 25 "LeastSets$Axioms" "count" "I") (by decide +kernel)) (fun _ h9 => h9) rfl dX0_remove_14 ?_
      refine r_ige hx hb (tgt := 82) (by omega) (by omega) dX0_remove_17 (by decide) (fun c_17 => ?_) (fun c_17 => ?_)
      · refine lv_aload_n hx hb dX0_remove_82 rfl (lv_at hl 1 rfl) ?_
        refine lv_dup hx hb dX0_remove_83 rfl ?_
        refine va_get (D := D) (ci := 1) (v := .int (nI n)) (C := RX0) (T := TX0) (N := 7) hx hb hts iX0 hown hK hP 0 rfl rfl 4 (by decide) (hts (.fieldLink RX0 25 "LeastSets$Axioms" "count" "I") (by decide +kernel)) (fun _ h9 => h9) rfl dX0_remove_84 ?_
        refine lv_iconst (v := (nI 1)) hx hb dX0_remove_87 (by decide +kernel) ?_
        refine r_isub hx hb (by omega) dX0_remove_88 ?_
        refine va_put (D := D) (ci := 1) (v := .int (nI (n - 1))) (ty := .int) (C := RX0) (T := TX0) (N := 7) hx hb hts iX0 tyX0 tyX0_ok nmX0 hown hK hP hD hS 0 rfl rfl 4 (by decide) (hts (.fieldLink RX0 25 "LeastSets$Axioms" "count" "I") (by decide +kernel)) (fun _ h9 => h9) rfl (by decide +kernel) rfl rfl (Nat.le_of_ble_eq_true rfl) dX0_remove_89 (fun H locs hP hD hS => ?_)
        have hP : va_P D vwCl [(qa, .inr (1, [.ref qb, .ref qh, .ref qw, .ref qf, .int (nI (n - 1)), .ref qu, .ref qg])), (qb, .inl (cI, 14, .inl (sh_ Bd j (a + 1)))), (qh, .inl (cI, 14, .inl (sh_ Hd j (a + 1)))), (qw, .inl (cI, 14, .inl (sh_ Wt j (a + 1)))), (qf, .inl (cZ, 14, .inl (sh_ Fx j (a + 1))))] H := hP
        have hD : va_D A [(qa, .inr (1, [.ref qb, .ref qh, .ref qw, .ref qf, .int (nI (n - 1)), .ref qu, .ref qg])), (qb, .inl (cI, 14, .inl (sh_ Bd j (a + 1)))), (qh, .inl (cI, 14, .inl (sh_ Hd j (a + 1)))), (qw, .inl (cI, 14, .inl (sh_ Wt j (a + 1)))), (qf, .inl (cZ, 14, .inl (sh_ Fx j (a + 1))))] := hD
        have ea : a + 1 = n := by omega
        subst ea
        exact W.vret hx hb hr (fun t ht hW => ⟨⟨(), rfl, trivial, by rw [ht]; exact hP, va_K.moved hW.alike hK, hD⟩, hS.F ht⟩) hS.2.2 dX0_remove_92
      · refine lv_aload_n hx hb dX0_remove_20 rfl (lv_at hl 1 rfl) ?_
        refine va_get (D := D) (ci := 1) (v := .ref qb) (C := RX0) (T := TX0) (N := 7) hx hb hts iX0 hown hK hP 0 rfl rfl 0 (by decide) (hts (.fieldLink RX0 9 "LeastSets$Axioms" "body" "[I") (by decide +kernel)) (fun _ h9 => h9) rfl dX0_remove_21 ?_
        refine lv_iload_n hx hb dX0_remove_24 rfl (lv_at hl 0 rfl) ?_
        refine lv_aload_n hx hb dX0_remove_25 rfl (lv_at hl 1 rfl) ?_
        refine va_get (D := D) (ci := 1) (v := .ref qb) (C := RX0) (T := TX0) (N := 7) hx hb hts iX0 hown hK hP 0 rfl rfl 0 (by decide) (hts (.fieldLink RX0 9 "LeastSets$Axioms" "body" "[I") (by decide +kernel)) (fun _ h9 => h9) rfl dX0_remove_26 ?_
        refine lv_iload_n hx hb dX0_remove_29 rfl (lv_at hl 0 rfl) ?_
        refine lv_iconst (v := (nI 1)) hx hb dX0_remove_30 (by decide +kernel) ?_
        refine r_iadd hx hb dX0_remove_31 ?_
        refine r_iald hx hb hK hP 1 0 rfl rfl (a + 1) (by omega) (by omega) dX0_remove_32 ?_
        refine r_iast hx hb hK hP hD hS 1 0 rfl rfl a (by omega) (by omega) dX0_remove_33 (fun H locs hP hD hS => ?_)
        have hP : va_P D vwCl [(qa, .inr (1, [.ref qb, .ref qh, .ref qw, .ref qf, .int (nI n), .ref qu, .ref qg])), (qb, .inl (cI, 14, .inl (upd (sh_ Bd j (a + 1)) a ((sh_ Bd j (a + 1)) (a + 1))))), (qh, .inl (cI, 14, .inl (sh_ Hd j (a + 1)))), (qw, .inl (cI, 14, .inl (sh_ Wt j (a + 1)))), (qf, .inl (cZ, 14, .inl (sh_ Fx j (a + 1))))] H := hP
        have hD : va_D A [(qa, .inr (1, [.ref qb, .ref qh, .ref qw, .ref qf, .int (nI n), .ref qu, .ref qg])), (qb, .inl (cI, 14, .inl (upd (sh_ Bd j (a + 1)) a ((sh_ Bd j (a + 1)) (a + 1))))), (qh, .inl (cI, 14, .inl (sh_ Hd j (a + 1)))), (qw, .inl (cI, 14, .inl (sh_ Wt j (a + 1)))), (qf, .inl (cZ, 14, .inl (sh_ Fx j (a + 1))))] := hD
        refine lv_aload_n hx hb dX0_remove_34 rfl (lv_at hl 1 rfl) ?_
        refine va_get (D := D) (ci := 1) (v := .ref qh) (C := RX0) (T := TX0) (N := 7) hx hb hts iX0 hown hK hP 0 rfl rfl 1 (by decide) (hts (.fieldLink RX0 15 "LeastSets$Axioms" "head" "[I") (by decide +kernel)) (fun _ h9 => h9) rfl dX0_remove_35 ?_
        refine lv_iload_n hx hb dX0_remove_38 rfl (lv_at hl 0 rfl) ?_
        refine lv_aload_n hx hb dX0_remove_39 rfl (lv_at hl 1 rfl) ?_
        refine va_get (D := D) (ci := 1) (v := .ref qh) (C := RX0) (T := TX0) (N := 7) hx hb hts iX0 hown hK hP 0 rfl rfl 1 (by decide) (hts (.fieldLink RX0 15 "LeastSets$Axioms" "head" "[I") (by decide +kernel)) (fun _ h9 => h9) rfl dX0_remove_40 ?_
        refine lv_iload_n hx hb dX0_remove_43 rfl (lv_at hl 0 rfl) ?_
        refine lv_iconst (v := (nI 1)) hx hb dX0_remove_44 (by decide +kernel) ?_
        refine r_iadd hx hb dX0_remove_45 ?_
        refine r_iald hx hb hK hP 2 0 rfl rfl (a + 1) (by omega) (by omega) dX0_remove_46 ?_
        refine r_iast hx hb hK hP hD hS 2 0 rfl rfl a (by omega) (by omega) dX0_remove_47 (fun H locs hP hD hS => ?_)
        have hP : va_P D vwCl [(qa, .inr (1, [.ref qb, .ref qh, .ref qw, .ref qf, .int (nI n), .ref qu, .ref qg])), (qb, .inl (cI, 14, .inl (upd (sh_ Bd j (a + 1)) a ((sh_ Bd j (a + 1)) (a + 1))))), (qh, .inl (cI, 14, .inl (upd (sh_ Hd j (a + 1)) a ((sh_ Hd j (a + 1)) (a + 1))))), (qw, .inl (cI, 14, .inl (sh_ Wt j (a + 1)))), (qf, .inl (cZ, 14, .inl (sh_ Fx j (a + 1))))] H := hP
        have hD : va_D A [(qa, .inr (1, [.ref qb, .ref qh, .ref qw, .ref qf, .int (nI n), .ref qu, .ref qg])), (qb, .inl (cI, 14, .inl (upd (sh_ Bd j (a + 1)) a ((sh_ Bd j (a + 1)) (a + 1))))), (qh, .inl (cI, 14, .inl (upd (sh_ Hd j (a + 1)) a ((sh_ Hd j (a + 1)) (a + 1))))), (qw, .inl (cI, 14, .inl (sh_ Wt j (a + 1)))), (qf, .inl (cZ, 14, .inl (sh_ Fx j (a + 1))))] := hD
        refine lv_aload_n hx hb dX0_remove_48 rfl (lv_at hl 1 rfl) ?_
        refine va_get (D := D) (ci := 1) (v := .ref qw) (C := RX0) (T := TX0) (N := 7) hx hb hts iX0 hown hK hP 0 rfl rfl 2 (by decide) (hts (.fieldLink RX0 18 "LeastSets$Axioms" "weight" "[I") (by decide +kernel)) (fun _ h9 => h9) rfl dX0_remove_49 ?_
        refine lv_iload_n hx hb dX0_remove_52 rfl (lv_at hl 0 rfl) ?_
        refine lv_aload_n hx hb dX0_remove_53 rfl (lv_at hl 1 rfl) ?_
        refine va_get (D := D) (ci := 1) (v := .ref qw) (C := RX0) (T := TX0) (N := 7) hx hb hts iX0 hown hK hP 0 rfl rfl 2 (by decide) (hts (.fieldLink RX0 18 "LeastSets$Axioms" "weight" "[I") (by decide +kernel)) (fun _ h9 => h9) rfl dX0_remove_54 ?_
        refine lv_iload_n hx hb dX0_remove_57 rfl (lv_at hl 0 rfl) ?_
        refine lv_iconst (v := (nI 1)) hx hb dX0_remove_58 (by decide +kernel) ?_
        refine r_iadd hx hb dX0_remove_59 ?_
        refine r_iald hx hb hK hP 3 0 rfl rfl (a + 1) (by omega) (by omega) dX0_remove_60 ?_
        refine r_iast hx hb hK hP hD hS 3 0 rfl rfl a (by omega) (by omega) dX0_remove_61 (fun H locs hP hD hS => ?_)
        have hP : va_P D vwCl [(qa, .inr (1, [.ref qb, .ref qh, .ref qw, .ref qf, .int (nI n), .ref qu, .ref qg])), (qb, .inl (cI, 14, .inl (upd (sh_ Bd j (a + 1)) a ((sh_ Bd j (a + 1)) (a + 1))))), (qh, .inl (cI, 14, .inl (upd (sh_ Hd j (a + 1)) a ((sh_ Hd j (a + 1)) (a + 1))))), (qw, .inl (cI, 14, .inl (upd (sh_ Wt j (a + 1)) a ((sh_ Wt j (a + 1)) (a + 1))))), (qf, .inl (cZ, 14, .inl (sh_ Fx j (a + 1))))] H := hP
        have hD : va_D A [(qa, .inr (1, [.ref qb, .ref qh, .ref qw, .ref qf, .int (nI n), .ref qu, .ref qg])), (qb, .inl (cI, 14, .inl (upd (sh_ Bd j (a + 1)) a ((sh_ Bd j (a + 1)) (a + 1))))), (qh, .inl (cI, 14, .inl (upd (sh_ Hd j (a + 1)) a ((sh_ Hd j (a + 1)) (a + 1))))), (qw, .inl (cI, 14, .inl (upd (sh_ Wt j (a + 1)) a ((sh_ Wt j (a + 1)) (a + 1))))), (qf, .inl (cZ, 14, .inl (sh_ Fx j (a + 1))))] := hD
        refine lv_aload_n hx hb dX0_remove_62 rfl (lv_at hl 1 rfl) ?_
        refine va_get (D := D) (ci := 1) (v := .ref qf) (C := RX0) (T := TX0) (N := 7) hx hb hts iX0 hown hK hP 0 rfl rfl 3 (by decide) (hts (.fieldLink RX0 21 "LeastSets$Axioms" "fixed" "[Z") (by decide +kernel)) (fun _ h9 => h9) rfl dX0_remove_63 ?_
        refine lv_iload_n hx hb dX0_remove_66 rfl (lv_at hl 0 rfl) ?_
        refine lv_aload_n hx hb dX0_remove_67 rfl (lv_at hl 1 rfl) ?_
        refine va_get (D := D) (ci := 1) (v := .ref qf) (C := RX0) (T := TX0) (N := 7) hx hb hts iX0 hown hK hP 0 rfl rfl 3 (by decide) (hts (.fieldLink RX0 21 "LeastSets$Axioms" "fixed" "[Z") (by decide +kernel)) (fun _ h9 => h9) rfl dX0_remove_68 ?_
        refine lv_iload_n hx hb dX0_remove_71 rfl (lv_at hl 0 rfl) ?_
        refine lv_iconst (v := (nI 1)) hx hb dX0_remove_72 (by decide +kernel) ?_
        refine r_iadd hx hb dX0_remove_73 ?_
        refine r_zald hx hb hK hP 4 1 rfl rfl (a + 1) (by omega) (by omega) dX0_remove_74 ?_
        refine r_zast hx hb hK hP hD hS 4 1 rfl rfl a (by rw [sh_at Fx h2]; exact hF (a + 1) c_17) (by omega) (by omega) dX0_remove_75 (fun H locs hP hD hS => ?_)
        have hP : va_P D vwCl [(qa, .inr (1, [.ref qb, .ref qh, .ref qw, .ref qf, .int (nI n), .ref qu, .ref qg])), (qb, .inl (cI, 14, .inl (upd (sh_ Bd j (a + 1)) a ((sh_ Bd j (a + 1)) (a + 1))))), (qh, .inl (cI, 14, .inl (upd (sh_ Hd j (a + 1)) a ((sh_ Hd j (a + 1)) (a + 1))))), (qw, .inl (cI, 14, .inl (upd (sh_ Wt j (a + 1)) a ((sh_ Wt j (a + 1)) (a + 1))))), (qf, .inl (cZ, 14, .inl (upd (sh_ Fx j (a + 1)) a ((sh_ Fx j (a + 1)) (a + 1)))))] H := hP
        have hD : va_D A [(qa, .inr (1, [.ref qb, .ref qh, .ref qw, .ref qf, .int (nI n), .ref qu, .ref qg])), (qb, .inl (cI, 14, .inl (upd (sh_ Bd j (a + 1)) a ((sh_ Bd j (a + 1)) (a + 1))))), (qh, .inl (cI, 14, .inl (upd (sh_ Hd j (a + 1)) a ((sh_ Hd j (a + 1)) (a + 1))))), (qw, .inl (cI, 14, .inl (upd (sh_ Wt j (a + 1)) a ((sh_ Wt j (a + 1)) (a + 1))))), (qf, .inl (cZ, 14, .inl (upd (sh_ Fx j (a + 1)) a ((sh_ Fx j (a + 1)) (a + 1)))))] := hD
        refine lv_iinc (v := (nI (a + 1))) (lv' := [(2, .int (nI (a + 1))), (0, .ref qa), (1, .int (nI j))]) hx hb dX0_remove_76 hl (k := 0) rfl (nI_inc _) (by decide) rfl (fun ls hl => ?_)
        refine lv_goto (tgt := 10) hx hb dX0_remove_79 (by decide) ?_
        rw [sh_next h2, sh_next h2, sh_next h2, sh_next h2] at hP hD
        exact ih (a + 1) H locs ls (by omega) (by omega) (by omega) hP hD hS (lv_sub hl [0, 1, 2] rfl)
  refine lv_aload_n hx hb dX0_remove_0 rfl (lv_at hl 0 rfl) ?_
  refine lv_iload_n hx hb dX0_remove_1 rfl (lv_at hl 1 rfl) ?_
  refine vp_callSi (va_runV (As := [.int (nI j)]) (rest := []) ⟨hx, hb, hml, hown, hts⟩ (c_X0_has l D cI cZ cJ qa qb qh qw qf qu qg n hn (nI j)) (cwV 1 hts gX0_remove_X0_has rfl rfl rfl (by decide +kernel) ⟨Nat.le_of_ble_eq_true rfl, Nat.le_of_ble_eq_true rfl⟩) ⟨ro_blind, va_recv hK hP (ci := 1) (q0 := 0) rfl rfl, ro_pre (hP.sub (ws' := [(qa, .inr (1, [.ref qb, .ref qh, .ref qw, .ref qf, .int (nI n), .ref qu, .ref qg]))]) [0] rfl) hK [0, 1, 2] rfl⟩ rfl rfl hl.1 rfl (lv_room (Nat.le_of_ble_eq_true rfl)) dX0_remove_2 ⟨Nat.le_of_ble_eq_true rfl, Nat.le_of_ble_eq_true rfl⟩).run (fun r_2 hr_2 => ?_)
  have e2 : r_2 = 1 := has_yes hj (by omega) hr_2
  subst e2
  refine lv_if_eq (tgt := 92) hx hb dX0_remove_5 (by decide) (fun c_5 => ?_) (fun c_5 => ?_)
  · exact absurd c_5 (by decide)
  · refine lv_iload_n hx hb dX0_remove_8 rfl (lv_at hl 1 rfl) ?_
    refine lv_istore_n (lv' := [(2, .int (nI j)), (0, .ref qa), (1, .int (nI j))]) hx hb dX0_remove_9 rfl hl (by decide) rfl (fun ls hl => ?_)
    rw [← sh_0 Bd j, ← sh_0 Hd j, ← sh_0 Wt j, ← sh_0 Fx j] at hP hD
    exact loop n j s.heap [] ls (by omega) (Nat.le_refl _) hj hP hD hS (lv_sub hl [0, 1, 2] rfl)
end
section
/-! ===== lists of sets, held in an array ===== -/
def sx_ (Sx : Nat → Int32) (L : List Nat) : Prop := ∀ (j : Nat) (h : j < L.length), Sx j = nI L[j]
theorem sx_0 (Sx : Nat → Int32) : sx_ Sx [] := fun j h => absurd h (Nat.not_lt_zero j)
theorem sx_push {Sx : Nat → Int32} {L : List Nat} (h : sx_ Sx L) (x : Nat) : sx_ (upd Sx L.length (nI x)) (L ++ [x]) := by
  intro j hj
  rw [List.length_append, List.length_singleton] at hj
  by_cases e : j = L.length
  · subst e
    rw [pk_us, List.getElem_append_right (Nat.le_refl _)]
    simp
  · rw [pk_un e, List.getElem_append_left (by omega)]
    exact h j (by omega)
/-- which axioms of small numbers stand in how many -/
def hm_ (Sx : Nat → Int32) (x : Int32) : Nat → Int32
  | 0 => 0
  | k + 1 => hm_ Sx x k + ((Sx k >>> (x &&& 31)) &&& 1)
def sa_ (Sx : Nat → Int32) : Nat → Int32
  | 0 => -1
  | k + 1 => sa_ Sx k &&& Sx k
def at_is (Sx : Nat → Int32) (z : Nat) (x r : Int32) : Prop := (∃ j, j < z ∧ x = nI j ∧ r = Sx j) ∨ (r = -2 ∧ ∀ j, j < z → x ≠ nI j)
theorem at_neg {Sx : Nat → Int32} {z : Nat} {x : Int32} (hz : z < 2147483648) (h : x < 0) : at_is Sx z x (-2) := Or.inr ⟨rfl, fun j hj e => nI_pos (n := j) (by omega) (e ▸ h)⟩
theorem at_big {Sx : Nat → Int32} {z : Nat} {x : Int32} (hz : z < 2147483648) (h : nI z ≤ x) : at_is Sx z x (-2) := Or.inr ⟨rfl, fun j hj e => nI_ge (a := j) (b := z) hj hz (e ▸ h)⟩
theorem at_get {z : Nat} {x : Int32} (hz : z < 2147483648) (h1 : ¬ x < 0) (h2 : ¬ nI z ≤ x) : ∃ j, j < z ∧ x = nI j := by
  obtain ⟨j, hj, e, -⟩ := pk_mu h1 h2 hz
  exact ⟨j, hj, e⟩
theorem at_one {Sx Sy : Nat → Int32} {z : Nat} {x r r' : Int32} (hz : z < 2147483648) (hS : ∀ j, j < z → Sx j = Sy j) (h : at_is Sx z x r) (h' : at_is Sy z x r') : r = r' := by
  rcases h with ⟨j, hj, e, er⟩ | ⟨er, h⟩
  · rcases h' with ⟨j', hj', e', er'⟩ | ⟨er', h'⟩
    · have : j = j' := (nI_eq (by omega) (by omega)).mp (e.symm.trans e')
      subst this
      rw [er, er', hS j hj]
    · exact absurd e (h' j hj)
  · rcases h' with ⟨j', hj', e', er'⟩ | ⟨er', h'⟩
    · exact absurd e' (h j' hj')
    · rw [er, er']
def fi_is (Sx : Nat → Int32) (z : Nat) (x r : Int32) : Prop := (∃ k, k < z ∧ r = Sx k ∧ Sx k &&& (x ^^^ (-1)) = 0 ∧ ∀ j, j < k → ¬ Sx j &&& (x ^^^ (-1)) = 0) ∨ (r = -2 ∧ ∀ j, j < z → ¬ Sx j &&& (x ^^^ (-1)) = 0)
theorem fi_one {Sx Sy : Nat → Int32} {z : Nat} {x r r' : Int32} (hS : ∀ j, j < z → Sx j = Sy j) (h : fi_is Sx z x r) (h' : fi_is Sy z x r') : r = r' := by
  rcases h with ⟨k, hk, er, h1, h2⟩ | ⟨er, h⟩
  · rcases h' with ⟨k', hk', er', h1', h2'⟩ | ⟨er', h'⟩
    · rcases Nat.lt_trichotomy k k' with q | q | q
      · exact absurd (hS k hk ▸ h1) (h2' k q)
      · subst q
        rw [er, er', hS k hk]
      · exact absurd ((hS k' hk').symm ▸ h1') (h2 k' q)
    · exact absurd (hS k hk ▸ h1) (h' k hk)
  · rcases h' with ⟨k', hk', er', h1', h2'⟩ | ⟨er', h'⟩
    · exact absurd ((hS k' hk').symm ▸ h1') (h k' hk')
    · rw [er, er']
/-! addAll: k of the places have been added -/
abbrev ml_ (v : Nat) (x : Int64) : List Nat := (on_ (bl x) 0 64).map (fun p => v * 64 + p)
theorem lc_len (x : Int64) : lc_ x = nI (on_ (bl x) 0 64).length := by
  rw [lc_u, ← pcF_on]
  rfl
theorem ol_64 (x : Int64) : (on_ (bl x) 0 64).length ≤ 64 := on_len _ 64 0
theorem shl6 : ∀ v, v < 256 → nI v <<< (nI 6 &&& 31) = nI (v * 64) := by decide +kernel
def ad_is (x : Int64) (k : Nat) (s4 : Int64) : Prop := on_ (bl s4) 0 64 = (on_ (bl x) 0 64).drop k
theorem ad_step {x s4 : Int64} {k : Nat} (h : ad_is x k s4) (hk : k < (on_ (bl x) 0 64).length) : ∃ p, p < 64 ∧ lc_ ((s4 &&& (-s4)) - 1) = nI p ∧ ad_is x (k + 1) (s4 &&& (s4 - 1)) ∧ ∀ v : Nat, (ml_ v x).take (k + 1) = (ml_ v x).take k ++ [v * 64 + p] := by
  unfold ad_is at h
  rw [List.drop_eq_getElem_cons hk] at h
  obtain ⟨g1, g2, g3, g4⟩ := low_on h
  refine ⟨_, g1, g3, g4, fun v => ?_⟩
  have hl : k < (ml_ v x).length := by rw [List.length_map]; exact hk
  rw [List.take_succ_eq_append_getElem hl, List.getElem_map]
/-! leastOf -/
def lo_is (M : Nat → Prop) (v a : Nat) (x : Int64) : Prop := ∀ j, j < 64 → (bl x j = true ↔ M (v * 64 + j) ∧ ∀ b, b < a → j.testBit b = true → ¬ M (v * 64 + (j ^^^ 2 ^ b)))
def hi_is (M : Nat → Prop) (v a : Nat) (x : Int64) : Prop := ∀ j, j < 64 → (bl x j = true ↔ (M (v * 64 + j) ∧ ∀ b, b < 6 → j.testBit b = true → ¬ M (v * 64 + (j ^^^ 2 ^ b))) ∧ ∀ b, b < a → v.testBit b = true → ¬ M ((v ^^^ 2 ^ b) * 64 + j))
theorem lo_0 {M : Nat → Prop} {words v : Nat} {Mb : Nat → Int64} (hm : mb_ M words Mb) (hv : v < words) : lo_is M v 0 (Mb v) := fun j hj => by
  rw [hm v hv j hj]
  exact ⟨fun h => ⟨h, fun b hb => absurd hb (Nat.not_lt_zero b)⟩, fun h => h.1⟩
theorem sh_amt : ∀ a, a < 6 → (((((1 : Int32) <<< (nI a &&& 31)).toInt64) &&& 63).toBitVec.smod 64).toNat = 2 ^ a := by decide +kernel
theorem lo_step {M : Nat → Prop} {words v a : Nat} {Mb : Nat → Int64} {x : Int64} (hm : mb_ M words Mb) (hv : v < words) (ha : a < 6) (h : lo_is M v a x) : lo_is M v (a + 1) (x &&& ((Mb v <<< (Int32.toInt64 ((1 : Int32) <<< (nI a &&& 31)) &&& 63) &&& pw_ a) ^^^ (-1))) := fun j hj => by
  have e := one_more (k := (1 : Int32) <<< (nI a &&& 31)) hm hv ha (sh_amt a ha) hj
  rw [l_and, l_not _ hj, Bool.and_eq_true, h j hj, Bool.not_eq_true', ← Bool.not_eq_true, e]
  constructor
  · rintro ⟨⟨h1, h2⟩, h3⟩
    refine ⟨h1, fun b hb ht hM => ?_⟩
    by_cases q : b = a
    · subst q; exact h3 ⟨ht, hM⟩
    · exact h2 b (by omega) ht hM
  · rintro ⟨h1, h2⟩
    exact ⟨⟨h1, fun b hb => h2 b (by omega)⟩, fun q => h2 a (by omega) q.1 q.2⟩
theorem hi_0 {M : Nat → Prop} {v : Nat} {x : Int64} (h : lo_is M v 6 x) : hi_is M v 0 x := fun j hj => by
  rw [h j hj]
  exact ⟨fun h => ⟨h, fun b hb => absurd hb (Nat.not_lt_zero b)⟩, fun h => h.1⟩
theorem hi_no {M : Nat → Prop} {v a : Nat} {x : Int64} (ha : a < 8) (hb : (nI v >>> (nI a &&& 31)) &&& 1 = 0) (h : hi_is M v a x) : hi_is M v (a + 1) x := fun j hj => by
  rw [b_ask0 (by omega), b_nI (by omega)] at hb
  rw [h j hj]
  constructor
  · rintro ⟨h1, h2⟩
    refine ⟨h1, fun b hb2 ht => ?_⟩
    by_cases q : b = a
    · subst q; rw [hb] at ht; cases ht
    · exact h2 b (by omega) ht
  · rintro ⟨h1, h2⟩
    exact ⟨h1, fun b hb2 => h2 b (by omega)⟩
theorem flip_nI : ∀ v, v < 256 → ∀ a, a < 8 → nI v ^^^ ((1 : Int32) <<< (nI a &&& 31)) = nI (v ^^^ 2 ^ a) := by decide +kernel
theorem flip_dn : ∀ v, v < 256 → ∀ a, a < 8 → v.testBit a = true → v ^^^ 2 ^ a < v := by decide +kernel
theorem hi_bit {v a : Nat} (ha : a < 8) (hb : ¬ (nI v >>> (nI a &&& 31)) &&& 1 = 0) : v.testBit a = true := by
  rw [b_ask0 (by omega), b_nI (by omega)] at hb
  simpa using hb
theorem hi_yes {M : Nat → Prop} {words v a : Nat} {Mb : Nat → Int64} {x : Int64} (hm : mb_ M words Mb) (hv : v < words) (hw : words ≤ 256) (ha : a < 8) (hb : v.testBit a = true) (h : hi_is M v a x) : hi_is M v (a + 1) (x &&& (Mb (v ^^^ 2 ^ a) ^^^ (-1))) := fun j hj => by
  have hlt := flip_dn v (by omega) a ha hb
  rw [l_and, l_not _ hj, Bool.and_eq_true, h j hj, Bool.not_eq_true', ← Bool.not_eq_true, hm (v ^^^ 2 ^ a) (by omega) j hj]
  constructor
  · rintro ⟨⟨h1, h2⟩, h3⟩
    refine ⟨h1, fun b hb2 ht => ?_⟩
    by_cases q : b = a
    · subst q; exact h3
    · exact h2 b (by omega) ht
  · rintro ⟨h1, h2⟩
    exact ⟨⟨h1, fun b hb2 => h2 b (by omega)⟩, h2 a (by omega) hb⟩
theorem hi_end {M : Nat → Prop} {v : Nat} {x : Int64} (h : hi_is M v 8 x) : ∀ j, j < 64 → (bl x j = true ↔ lst_ M (v * 64 + j)) := fun j hj => by
  rw [h j hj, lst_split hj]
  exact ⟨fun q => ⟨q.1.1, q.1.2, q.2⟩, fun q => ⟨⟨q.1, q.2.1⟩, q.2.2⟩⟩
/-! listLeast -/
theorem bc_8 : ∀ w, w < 256 → bc_ (nI w) = nI (pcF 8 w) := by
  intro w hw
  rw [bc_u, uI_nI (by omega), show (32 : Nat) = 8 + 24 from rfl, pcF_add, Nat.div_eq_of_lt (show w < 2 ^ 8 from hw), pcF_0, Nat.add_zero]
abbrev fz_ (P : Nat → Bool) (z : Nat) : Nat → Bool := fun s => decide (pcF 14 s = z) && P s
theorem word_no {P : Nat → Bool} {z w : Nat} (hw : w < 256) (h : z < pcF 8 w ∨ pcF 8 w + 6 < z) : on_ (fz_ P z) 0 ((w + 1) * 64) = on_ (fz_ P z) 0 (w * 64) := by
  rw [show (w + 1) * 64 = w * 64 + 64 by omega, on_app, on_nil 64 (0 + w * 64) (fun s h1 h2 => ?_), List.append_nil]
  have e : s = w * 64 + (s - w * 64) := by omega
  have hl := pcF_le 6 (s - w * 64)
  have : ¬ pcF 14 s = z := by
    rw [e, pc_wj w hw _ (by omega)]
    omega
  simp [fz_, this]
theorem word_yes {P : Nat → Bool} {M : Nat → Prop} {z w : Nat} {x : Int64} (hP : ∀ s, P s = true ↔ lst_ M s) (hw : w < 256) (h1 : pcF 8 w ≤ z) (h2 : z ≤ pcF 8 w + 6) (hx : ∀ j, j < 64 → (bl x j = true ↔ lst_ M (w * 64 + j))) : on_ (fz_ P z) 0 ((w + 1) * 64) = on_ (fz_ P z) 0 (w * 64) ++ ml_ w (x &&& ps_ (z - pcF 8 w)) := by
  rw [show (w + 1) * 64 = w * 64 + 64 by omega, on_app]
  congr 1
  rw [show 0 + w * 64 = w * 64 + 0 by omega, on_shift]
  congr 1
  refine on_congr 64 0 (fun j _ hj => ?_)
  rw [l_and, ps_bit _ (by omega) j (by omega)]
  show (decide (pcF 14 (w * 64 + j) = z) && P (w * 64 + j)) = _
  rw [pc_wj w hw j (by omega), Bool.and_comm]
  have e : (pcF 6 j + pcF 8 w = z) ↔ (pcF 6 j = z - pcF 8 w) := by omega
  congr 1
  · rw [Bool.eq_iff_iff, hP, hx j (by omega)]
  · exact decide_eq_decide.mpr e
theorem cc_len {g : Nat → List Nat} {n : Nat} : ∀ m, n ≤ m → (cc_ g n).length ≤ (cc_ g m).length := by
  intro m
  induction m with
  | zero => intro h; rw [show n = 0 by omega]; exact Nat.le_refl _
  | succ m ih =>
    intro h
    by_cases q : n = m + 1
    · rw [q]; exact Nat.le_refl _
    · have := ih (by omega)
      show _ ≤ (cc_ g m ++ g m).length
      rw [List.length_append]
      omega
theorem ls_room {P : Nat → Bool} {z w W : Nat} (hz : z < 15) (hw : w ≤ W) : (ls_ P z (W * 64) ++ on_ (fz_ P z) 0 (w * 64)).length ≤ (ls_ P 15 (W * 64)).length := by
  have h1 : (ls_ P (z + 1) (W * 64)).length ≤ (ls_ P 15 (W * 64)).length := cc_len 15 (by omega)
  have h2 : ls_ P (z + 1) (W * 64) = ls_ P z (W * 64) ++ on_ (fz_ P z) 0 (W * 64) := rfl
  have h3 : on_ (fz_ P z) 0 (W * 64) = on_ (fz_ P z) 0 (w * 64) ++ on_ (fz_ P z) (0 + w * 64) ((W - w) * 64) := by
    rw [← on_app]
    congr 1
    have : W * 64 = (w + (W - w)) * 64 := by rw [Nat.add_sub_cancel' hw]
    omega
  rw [h2, h3] at h1
  rw [List.length_append] at h1 ⊢
  rw [List.length_append] at h1
  omega
end
section
set_option maxHeartbeats 4000000 in
set_option maxRecDepth 100000 in
/-- at(x) -/
theorem c_X2_at (l : Launch) (D : va_G) (cI cZ cJ : ClassId) (ql qs : Nat) (z : Nat) (hz : z ≤ 3432) (Sx : Nat → Int32) (x : Int32) : Met l yX2_at wsX2_at ({ frames := 0, cells := 0, slots := 0, locals := 0 } : Room) (va_Pc [.ref ql, .int x] (ro_ D [(cI, .int), (cZ, .boolean), (cJ, .long)] [(ql, .inr (3, [.ref qs, .int (nI z)])), (qs, .inl (cI, 3432, .inl Sx))])) (vp_Si (fun r => at_is Sx z x r)) 0 0 (fun _ => False) := by
  refine Met.ofW (cc := cX2_at) (maxL := 2) (ret := (some .int)) (by decide) rfl ?_
  intro p e s m args below meth c s₁ B hml hv
  obtain ⟨rfl, hP, hK⟩ := hv
  have hx := B.exec
  have hb := B.bytes
  have hr := B.returns
  have hts := atoms_spec (ws := wsX2_at) B.pre
  have hown : s.vm.findClass RX2 = some m.cls := findClass_of_methodNamed B.named
  have hlocks := B.notSynchronized
  have iX2 : ∀ w ∈ u_ws RX2 TX2 2, w ∈ wsX2_at := by decide +kernel
  have hl := lv_entry ([.ref ql, .int x]) (n := 2) (Nat.le_of_ble_eq_true rfl)
  rw [lg_entry_eq]
  generalize (lg_sl ([.ref ql, .int x]) ++ List.replicate (2 - (lg_sl ([.ref ql, .int x])).length) Slot.unset).toArray = ls at hl ⊢
  have hl : lv_has ls 2 [(0, .ref ql), (1, .int x)] := hl
  refine lv_iload_n hx hb dX2_at_0 rfl (lv_at hl 1 rfl) ?_
  refine lv_if_lt (tgt := 21) hx hb dX2_at_1 (by decide) (fun c_1 => ?_) (fun c_1 => ?_)
  · refine lv_bipush (v := (-2)) hx hb dX2_at_21 (by decide +kernel) ?_
    exact W.iret (v := (-2)) hx hb hr (fun t ht hW => ⟨(-2), rfl, by first | exact Or.inl ⟨j, hj, rfl, rfl⟩ | exact at_neg (by omega) c_1 | exact at_big (by omega) c_9, ht⟩) (fun q h => by cases h) dX2_at_23
  · refine lv_iload_n hx hb dX2_at_4 rfl (lv_at hl 1 rfl) ?_
    refine lv_aload_n hx hb dX2_at_5 rfl (lv_at hl 0 rfl) ?_
    refine va_get (D := D) (ci := 3) (v := .int (nI z)) (C := RX2) (T := TX2) (N := 2) hx hb hts iX2 hown hK hP 0 rfl rfl 1 (by decide) (hts (.fieldLink RX2 15 "LeastSets$SetList" "size" "I") (by decide +kernel)) (fun _ h9 => h9) rfl dX2_at_6 ?_
    refine lv_icmp_ge (tgt := 21) hx hb dX2_at_9 (by decide) (fun c_9 => ?_) (fun c_9 => ?_)
    · refine lv_bipush (v := (-2)) hx hb dX2_at_21 (by decide +kernel) ?_
      exact W.iret (v := (-2)) hx hb hr (fun t ht hW => ⟨(-2), rfl, by first | exact Or.inl ⟨j, hj, rfl, rfl⟩ | exact at_neg (by omega) c_1 | exact at_big (by omega) c_9, ht⟩) (fun q h => by cases h) dX2_at_23
    · obtain ⟨j, hj, ej⟩ := at_get (by omega) c_1 c_9
      subst ej
      refine lv_aload_n hx hb dX2_at_12 rfl (lv_at hl 0 rfl) ?_
      refine va_get (D := D) (ci := 3) (v := .ref qs) (C := RX2) (T := TX2) (N := 2) hx hb hts iX2 hown hK hP 0 rfl rfl 0 (by decide) (hts (.fieldLink RX2 9 "LeastSets$SetList" "sets" "[I") (by decide +kernel)) (fun _ h9 => h9) rfl dX2_at_13 ?_
      refine lv_iload_n hx hb dX2_at_16 rfl (lv_at hl 1 rfl) ?_
      refine r_iald hx hb hK hP 1 0 rfl rfl j (by omega) (by omega) dX2_at_17 ?_
      refine lv_goto (tgt := 23) hx hb dX2_at_18 (by decide) ?_
      exact W.iret (v := (Sx j)) hx hb hr (fun t ht hW => ⟨(Sx j), rfl, by first | exact Or.inl ⟨j, hj, rfl, rfl⟩ | exact at_neg (by omega) c_1 | exact at_big (by omega) c_9, ht⟩) (fun q h => by cases h) dX2_at_23
set_option maxHeartbeats 4000000 in
set_option maxRecDepth 100000 in
/-- howManyWith(x) -/
theorem c_X2_howManyWith (l : Launch) (D : va_G) (cI cZ cJ : ClassId) (ql qs : Nat) (z : Nat) (hz : z ≤ 3432) (Sx : Nat → Int32) (x : Int32) : Met l yX2_howManyWith wsX2_howManyWith ({ frames := 0, cells := 0, slots := 0, locals := 0 } : Room) (va_Pc [.ref ql, .int x] (ro_ D [(cI, .int), (cZ, .boolean), (cJ, .long)] [(ql, .inr (3, [.ref qs, .int (nI z)])), (qs, .inl (cI, 3432, .inl Sx))])) (vp_Si (fun r => r = hm_ Sx x z)) 0 0 (fun _ => False) := by
  refine Met.ofW (cc := cX2_howManyWith) (maxL := 4) (ret := (some .int)) (by decide) rfl ?_
  intro p e s m args below meth c s₁ B hml hv
  obtain ⟨rfl, hP, hK⟩ := hv
  have hx := B.exec
  have hb := B.bytes
  have hr := B.returns
  have hts := atoms_spec (ws := wsX2_howManyWith) B.pre
  have hown : s.vm.findClass RX2 = some m.cls := findClass_of_methodNamed B.named
  have hlocks := B.notSynchronized
  have iX2 : ∀ w ∈ u_ws RX2 TX2 2, w ∈ wsX2_howManyWith := by decide +kernel
  have hl := lv_entry ([.ref ql, .int x]) (n := 4) (Nat.le_of_ble_eq_true rfl)
  rw [lg_entry_eq]
  generalize (lg_sl ([.ref ql, .int x]) ++ List.replicate (4 - (lg_sl ([.ref ql, .int x])).length) Slot.unset).toArray = ls at hl ⊢
  have hl : lv_has ls 4 [(0, .ref ql), (1, .int x)] := hl
  have loop : ∀ (d : Nat) (k : Nat) (y : Int32) (ls : Array Slot), z < k + d → k ≤ z → y = hm_ Sx x k → lv_has ls 4 [(3, .int (nI k)), (2, .int y), (0, .ref ql), (1, .int x)] → W p l e (headSpec wsX2_howManyWith ({ frames := 0, cells := 0, slots := 0, locals := 0 } : Room)).room s m ([.ref ql, .int x] : List Value).toArray below meth c s.heap [] 0 0 (MQ below (vp_Si (fun r => r = hm_ Sx x z)) ([.ref ql, .int x] : List Value).toArray s 0 0 (fun _ => False)) (F0 m 4 ls []) := by
    intro d
    induction d with
    | zero => intro k y ls h1 h2; omega
    | succ d ih =>
      intro k y ls h1 h2 hy hl
      refine lv_iload_n hx hb dX2_howManyWith_4 rfl (lv_at hl 0 rfl) ?_
      refine lv_aload_n hx hb dX2_howManyWith_5 rfl (lv_at hl 2 rfl) ?_
      refine va_get (D := D) (ci := 3) (v := .int (nI z)) (C := RX2) (T := TX2) (N := 2) hx hb hts iX2 hown hK hP 0 rfl rfl 1 (by decide) (hts (.fieldLink RX2 15 "LeastSets$SetList" "size" "I") (by decide +kernel)) (fun _ h9 => h9) rfl dX2_howManyWith_6 ?_
      refine r_ige hx hb (tgt := 31) (by omega) (by omega) dX2_howManyWith_9 (by decide) (fun c_9 => ?_) (fun c_9 => ?_)
      · refine lv_iload_n hx hb dX2_howManyWith_31 rfl (lv_at hl 1 rfl) ?_
        exact W.iret (v := y) hx hb hr (fun t ht hW => ⟨y, rfl, (by rw [hy, show k = z by omega]), ht⟩) (fun q h => by cases h) dX2_howManyWith_32
      · refine lv_iload_n hx hb dX2_howManyWith_12 rfl (lv_at hl 1 rfl) ?_
        refine lv_aload_n hx hb dX2_howManyWith_13 rfl (lv_at hl 2 rfl) ?_
        refine va_get (D := D) (ci := 3) (v := .ref qs) (C := RX2) (T := TX2) (N := 2) hx hb hts iX2 hown hK hP 0 rfl rfl 0 (by decide) (hts (.fieldLink RX2 9 "LeastSets$SetList" "sets" "[I") (by decide +kernel)) (fun _ h9 => h9) rfl dX2_howManyWith_14 ?_
        refine lv_iload_n hx hb dX2_howManyWith_17 rfl (lv_at hl 0 rfl) ?_
        refine r_iald hx hb hK hP 1 0 rfl rfl k (by omega) (by omega) dX2_howManyWith_18 ?_
        refine lv_iload_n hx hb dX2_howManyWith_19 rfl (lv_at hl 3 rfl) ?_
        refine lv_ishr hx hb dX2_howManyWith_20 ?_
        refine lv_iconst (v := 1) hx hb dX2_howManyWith_21 (by decide +kernel) ?_
        refine lv_iand hx hb dX2_howManyWith_22 ?_
        refine lv_iadd hx hb dX2_howManyWith_23 ?_
        refine lv_istore_n (lv' := [(2, .int (y + (((Sx k) >>> (x &&& 31)) &&& 1))), (3, .int (nI k)), (0, .ref ql), (1, .int x)]) hx hb dX2_howManyWith_24 rfl hl (by decide) rfl (fun ls hl => ?_)
        refine lv_iinc (v := (nI (k + 1))) (lv' := [(3, .int (nI (k + 1))), (2, .int (y + (((Sx k) >>> (x &&& 31)) &&& 1))), (0, .ref ql), (1, .int x)]) hx hb dX2_howManyWith_25 hl (k := 1) rfl (nI_inc _) (by decide) rfl (fun ls hl => ?_)
        refine lv_goto (tgt := 4) hx hb dX2_howManyWith_28 (by decide) ?_
        exact ih (k + 1) _ ls (by omega) (by omega) (by rw [hy]; rfl) (lv_sub hl [0, 1, 2, 3] rfl)
  refine lv_iconst (v := 0) hx hb dX2_howManyWith_0 (by decide +kernel) ?_
  refine lv_istore_n (lv' := [(2, .int 0), (0, .ref ql), (1, .int x)]) hx hb dX2_howManyWith_1 rfl hl (by decide) rfl (fun ls hl => ?_)
  refine lv_iconst (v := (nI 0)) hx hb dX2_howManyWith_2 (by decide +kernel) ?_
  refine lv_istore_n (lv' := [(3, .int (nI 0)), (2, .int 0), (0, .ref ql), (1, .int x)]) hx hb dX2_howManyWith_3 rfl hl (by decide) rfl (fun ls hl => ?_)
  exact loop (z + 1) 0 _ ls (by omega) (Nat.zero_le _) rfl (lv_sub hl [0, 1, 2, 3] rfl)
set_option maxHeartbeats 4000000 in
set_option maxRecDepth 100000 in
/-- firstInside(x) -/
theorem c_X2_firstInside (l : Launch) (D : va_G) (cI cZ cJ : ClassId) (ql qs : Nat) (z : Nat) (hz : z ≤ 3432) (Sx : Nat → Int32) (x : Int32) : Met l yX2_firstInside wsX2_firstInside ({ frames := 0, cells := 0, slots := 0, locals := 0 } : Room) (va_Pc [.ref ql, .int x] (ro_ D [(cI, .int), (cZ, .boolean), (cJ, .long)] [(ql, .inr (3, [.ref qs, .int (nI z)])), (qs, .inl (cI, 3432, .inl Sx))])) (vp_Si (fun r => fi_is Sx z x r)) 0 0 (fun _ => False) := by
  refine Met.ofW (cc := cX2_firstInside) (maxL := 3) (ret := (some .int)) (by decide) rfl ?_
  intro p e s m args below meth c s₁ B hml hv
  obtain ⟨rfl, hP, hK⟩ := hv
  have hx := B.exec
  have hb := B.bytes
  have hr := B.returns
  have hts := atoms_spec (ws := wsX2_firstInside) B.pre
  have hown : s.vm.findClass RX2 = some m.cls := findClass_of_methodNamed B.named
  have hlocks := B.notSynchronized
  have iX2 : ∀ w ∈ u_ws RX2 TX2 2, w ∈ wsX2_firstInside := by decide +kernel
  have hl := lv_entry ([.ref ql, .int x]) (n := 3) (Nat.le_of_ble_eq_true rfl)
  rw [lg_entry_eq]
  generalize (lg_sl ([.ref ql, .int x]) ++ List.replicate (3 - (lg_sl ([.ref ql, .int x])).length) Slot.unset).toArray = ls at hl ⊢
  have hl : lv_has ls 3 [(0, .ref ql), (1, .int x)] := hl
  have loop : ∀ (d : Nat) (k : Nat) (ls : Array Slot), z < k + d → k ≤ z → (∀ j, j < k → ¬ Sx j &&& (x ^^^ (-1)) = 0) → lv_has ls 3 [(2, .int (nI k)), (0, .ref ql), (1, .int x)] → W p l e (headSpec wsX2_firstInside ({ frames := 0, cells := 0, slots := 0, locals := 0 } : Room)).room s m ([.ref ql, .int x] : List Value).toArray below meth c s.heap [] 0 0 (MQ below (vp_Si (fun r => fi_is Sx z x r)) ([.ref ql, .int x] : List Value).toArray s 0 0 (fun _ => False)) (F0 m 2 ls []) := by
    intro d
    induction d with
    | zero => intro k ls h1 h2; omega
    | succ d ih =>
      intro k ls h1 h2 hy hl
      refine lv_iload_n hx hb dX2_firstInside_2 rfl (lv_at hl 0 rfl) ?_
      refine lv_aload_n hx hb dX2_firstInside_3 rfl (lv_at hl 1 rfl) ?_
      refine va_get (D := D) (ci := 3) (v := .int (nI z)) (C := RX2) (T := TX2) (N := 2) hx hb hts iX2 hown hK hP 0 rfl rfl 1 (by decide) (hts (.fieldLink RX2 15 "LeastSets$SetList" "size" "I") (by decide +kernel)) (fun _ h9 => h9) rfl dX2_firstInside_4 ?_
      refine r_ige hx hb (tgt := 36) (by omega) (by omega) dX2_firstInside_7 (by decide) (fun c_7 => ?_) (fun c_7 => ?_)
      · refine lv_bipush (v := (-2)) hx hb dX2_firstInside_36 (by decide +kernel) ?_
        exact W.iret (v := (-2)) hx hb hr (fun t ht hW => ⟨(-2), rfl, by first | exact Or.inl ⟨k, c_7, rfl, c_20, hy⟩ | exact Or.inr ⟨rfl, fun j hj => hy j (by omega)⟩, ht⟩) (fun q h => by cases h) dX2_firstInside_38
      · refine lv_aload_n hx hb dX2_firstInside_10 rfl (lv_at hl 1 rfl) ?_
        refine va_get (D := D) (ci := 3) (v := .ref qs) (C := RX2) (T := TX2) (N := 2) hx hb hts iX2 hown hK hP 0 rfl rfl 0 (by decide) (hts (.fieldLink RX2 9 "LeastSets$SetList" "sets" "[I") (by decide +kernel)) (fun _ h9 => h9) rfl dX2_firstInside_11 ?_
        refine lv_iload_n hx hb dX2_firstInside_14 rfl (lv_at hl 0 rfl) ?_
        refine r_iald hx hb hK hP 1 0 rfl rfl k (by omega) (by omega) dX2_firstInside_15 ?_
        refine lv_iload_n hx hb dX2_firstInside_16 rfl (lv_at hl 2 rfl) ?_
        refine lv_iconst (v := (-1)) hx hb dX2_firstInside_17 (by decide +kernel) ?_
        refine lv_ixor hx hb dX2_firstInside_18 ?_
        refine lv_iand hx hb dX2_firstInside_19 ?_
        refine lv_if_ne (tgt := 30) hx hb dX2_firstInside_20 (by decide) (fun c_20 => ?_) (fun c_20 => ?_)
        · refine lv_iinc (v := (nI (k + 1))) (lv' := [(2, .int (nI (k + 1))), (0, .ref ql), (1, .int x)]) hx hb dX2_firstInside_30 hl (k := 0) rfl (nI_inc _) (by decide) rfl (fun ls hl => ?_)
          refine lv_goto (tgt := 2) hx hb dX2_firstInside_33 (by decide) ?_
          exact ih (k + 1) ls (by omega) (by omega) (lt_s hy c_20) (lv_sub hl [0, 1, 2] rfl)
        · refine lv_aload_n hx hb dX2_firstInside_23 rfl (lv_at hl 1 rfl) ?_
          refine va_get (D := D) (ci := 3) (v := .ref qs) (C := RX2) (T := TX2) (N := 2) hx hb hts iX2 hown hK hP 0 rfl rfl 0 (by decide) (hts (.fieldLink RX2 9 "LeastSets$SetList" "sets" "[I") (by decide +kernel)) (fun _ h9 => h9) rfl dX2_firstInside_24 ?_
          refine lv_iload_n hx hb dX2_firstInside_27 rfl (lv_at hl 0 rfl) ?_
          refine r_iald hx hb hK hP 1 0 rfl rfl k (by omega) (by omega) dX2_firstInside_28 ?_
          exact W.iret (v := (Sx k)) hx hb hr (fun t ht hW => ⟨(Sx k), rfl, by first | exact Or.inl ⟨k, c_7, rfl, c_20, hy⟩ | exact Or.inr ⟨rfl, fun j hj => hy j (by omega)⟩, ht⟩) (fun q h => by cases h) dX2_firstInside_29
  refine lv_iconst (v := (nI 0)) hx hb dX2_firstInside_0 (by decide +kernel) ?_
  refine lv_istore_n (lv' := [(2, .int (nI 0)), (0, .ref ql), (1, .int x)]) hx hb dX2_firstInside_1 rfl hl (by decide) rfl (fun ls hl => ?_)
  exact loop (z + 1) 0 ls (by omega) (Nat.zero_le _) lt_0 (lv_sub hl [0, 1, 2] rfl)
set_option maxHeartbeats 4000000 in
set_option maxRecDepth 100000 in
/-- sharedByAll() -/
theorem c_X2_sharedByAll (l : Launch) (D : va_G) (cI cZ cJ : ClassId) (ql qs : Nat) (z : Nat) (hz : z ≤ 3432) (Sx : Nat → Int32) : Met l yX2_sharedByAll wsX2_sharedByAll ({ frames := 0, cells := 0, slots := 0, locals := 0 } : Room) (va_Pc [.ref ql] (ro_ D [(cI, .int), (cZ, .boolean), (cJ, .long)] [(ql, .inr (3, [.ref qs, .int (nI z)])), (qs, .inl (cI, 3432, .inl Sx))])) (vp_Si (fun r => r = if z = 0 then -2 else sa_ Sx z)) 0 0 (fun _ => False) := by
  refine Met.ofW (cc := cX2_sharedByAll) (maxL := 3) (ret := (some .int)) (by decide) rfl ?_
  intro p e s m args below meth c s₁ B hml hv
  obtain ⟨rfl, hP, hK⟩ := hv
  have hx := B.exec
  have hb := B.bytes
  have hr := B.returns
  have hts := atoms_spec (ws := wsX2_sharedByAll) B.pre
  have hown : s.vm.findClass RX2 = some m.cls := findClass_of_methodNamed B.named
  have hlocks := B.notSynchronized
  have iX2 : ∀ w ∈ u_ws RX2 TX2 2, w ∈ wsX2_sharedByAll := by decide +kernel
  have hl := lv_entry ([.ref ql]) (n := 3) (Nat.le_of_ble_eq_true rfl)
  rw [lg_entry_eq]
  generalize (lg_sl ([.ref ql]) ++ List.replicate (3 - (lg_sl ([.ref ql])).length) Slot.unset).toArray = ls at hl ⊢
  have hl : lv_has ls 3 [(0, .ref ql)] := hl
  have loop : ∀ (d : Nat) (k : Nat) (y : Int32) (ls : Array Slot), z < k + d → k ≤ z → y = sa_ Sx k → z ≠ 0 → lv_has ls 3 [(2, .int (nI k)), (1, .int y), (0, .ref ql)] → W p l e (headSpec wsX2_sharedByAll ({ frames := 0, cells := 0, slots := 0, locals := 0 } : Room)).room s m ([.ref ql] : List Value).toArray below meth c s.heap [] 0 0 (MQ below (vp_Si (fun r => r = if z = 0 then -2 else sa_ Sx z)) ([.ref ql] : List Value).toArray s 0 0 (fun _ => False)) (F0 m 14 ls []) := by
    intro d
    induction d with
    | zero => intro k y ls h1 h2; omega
    | succ d ih =>
      intro k y ls h1 h2 hy hz0 hl
      refine lv_iload_n hx hb dX2_sharedByAll_14 rfl (lv_at hl 0 rfl) ?_
      refine lv_aload_n hx hb dX2_sharedByAll_15 rfl (lv_at hl 2 rfl) ?_
      refine va_get (D := D) (ci := 3) (v := .int (nI z)) (C := RX2) (T := TX2) (N := 2) hx hb hts iX2 hown hK hP 0 rfl rfl 1 (by decide) (hts (.fieldLink RX2 15 "LeastSets$SetList" "size" "I") (by decide +kernel)) (fun _ h9 => h9) rfl dX2_sharedByAll_16 ?_
      refine r_ige hx hb (tgt := 37) (by omega) (by omega) dX2_sharedByAll_19 (by decide) (fun c_19 => ?_) (fun c_19 => ?_)
      · refine lv_iload_n hx hb dX2_sharedByAll_37 rfl (lv_at hl 1 rfl) ?_
        exact W.iret (v := y) hx hb hr (fun t ht hW => ⟨y, rfl, (by rw [if_neg hz0, hy, show k = z by omega]), ht⟩) (fun q h => by cases h) dX2_sharedByAll_38
      · refine lv_iload_n hx hb dX2_sharedByAll_22 rfl (lv_at hl 1 rfl) ?_
        refine lv_aload_n hx hb dX2_sharedByAll_23 rfl (lv_at hl 2 rfl) ?_
        refine va_get (D := D) (ci := 3) (v := .ref qs) (C := RX2) (T := TX2) (N := 2) hx hb hts iX2 hown hK hP 0 rfl rfl 0 (by decide) (hts (.fieldLink RX2 9 "LeastSets$SetList" "sets" "[I") (by decide +kernel)) (fun _ h9 => h9) rfl dX2_sharedByAll_24 ?_
        refine lv_iload_n hx hb dX2_sharedByAll_27 rfl (lv_at hl 0 rfl) ?_
        refine r_iald hx hb hK hP 1 0 rfl rfl k (by omega) (by omega) dX2_sharedByAll_28 ?_
        refine lv_iand hx hb dX2_sharedByAll_29 ?_
        refine lv_istore_n (lv' := [(1, .int (y &&& (Sx k))), (2, .int (nI k)), (0, .ref ql)]) hx hb dX2_sharedByAll_30 rfl hl (by decide) rfl (fun ls hl => ?_)
        refine lv_iinc (v := (nI (k + 1))) (lv' := [(2, .int (nI (k + 1))), (1, .int (y &&& (Sx k))), (0, .ref ql)]) hx hb dX2_sharedByAll_31 hl (k := 1) rfl (nI_inc _) (by decide) rfl (fun ls hl => ?_)
        refine lv_goto (tgt := 14) hx hb dX2_sharedByAll_34 (by decide) ?_
        exact ih (k + 1) _ ls (by omega) (by omega) (by rw [hy]; rfl) hz0 (lv_sub hl [0, 1, 2] rfl)
  refine lv_aload_n hx hb dX2_sharedByAll_0 rfl (lv_at hl 0 rfl) ?_
  refine va_get (D := D) (ci := 3) (v := .int (nI z)) (C := RX2) (T := TX2) (N := 2) hx hb hts iX2 hown hK hP 0 rfl rfl 1 (by decide) (hts (.fieldLink RX2 15 "LeastSets$SetList" "size" "I") (by decide +kernel)) (fun _ h9 => h9) rfl dX2_sharedByAll_1 ?_
  refine lv_if_ne (tgt := 10) hx hb dX2_sharedByAll_4 (by decide) (fun c_4 => ?_) (fun c_4 => ?_)
  · refine lv_iconst (v := (-1)) hx hb dX2_sharedByAll_10 (by decide +kernel) ?_
    refine lv_istore_n (lv' := [(1, .int (-1)), (0, .ref ql)]) hx hb dX2_sharedByAll_11 rfl hl (by decide) rfl (fun ls hl => ?_)
    refine lv_iconst (v := (nI 0)) hx hb dX2_sharedByAll_12 (by decide +kernel) ?_
    refine lv_istore_n (lv' := [(2, .int (nI 0)), (1, .int (-1)), (0, .ref ql)]) hx hb dX2_sharedByAll_13 rfl hl (by decide) rfl (fun ls hl => ?_)
    exact loop (z + 1) 0 _ ls (by omega) (Nat.zero_le _) rfl (fun q => c_4 (by rw [q]; rfl)) (lv_sub hl [0, 1, 2] rfl)
  · refine lv_bipush (v := (-2)) hx hb dX2_sharedByAll_7 (by decide +kernel) ?_
    exact W.iret (v := (-2)) hx hb hr (fun t ht hW => ⟨(-2), rfl, (by rw [if_pos ((nI_eq (b := 0) (by omega) (by omega)).mp c_4)]), ht⟩) (fun q h => by cases h) dX2_sharedByAll_9
set_option maxHeartbeats 4000000 in
set_option maxRecDepth 100000 in
/-- clear() -/
theorem c_X2_clear (l : Launch) (D : va_G) (cI cZ cJ : ClassId) (t1 t2 sz : Nat) (ql qs : Nat) (z : Nat) : Met l yX2_clear wsX2_clear ({ frames := 0, cells := 0, slots := 0, locals := 0 } : Room) (va_Pc [.ref ql] (wr_ D [(cI, .int), (cZ, .boolean), (cJ, .long)] [(ql, .inr (3, [.ref qs, .int (nI z)]))] t1 t2 sz)) (va_Qv (S := Unit) (fun _ => True) (fun _ => wd_ D [(cI, .int), (cZ, .boolean), (cJ, .long)] (va_A [(ql, .inr (3, [.ref qs, .int (nI z)]))] sz) [(ql, .inr (3, [.ref qs, .int (nI 0)]))]) (va_A [(ql, .inr (3, [.ref qs, .int (nI z)]))] sz)) 0 0 (va_A [(ql, .inr (3, [.ref qs, .int (nI z)]))] sz) := by
  refine Met.ofW (cc := cX2_clear) (maxL := 1) (ret := none) (by decide) rfl ?_
  intro p e s m args below meth c s₁ B hml hv
  obtain ⟨rfl, hsz, hP, hK, hD0, hE⟩ := hv
  have hx := B.exec
  have hb := B.bytes
  have hr := B.returns
  have hts := atoms_spec (ws := wsX2_clear) B.pre
  have hown : s.vm.findClass RX2 = some m.cls := findClass_of_methodNamed B.named
  have hlocks := B.notSynchronized
  have iX2 : ∀ w ∈ u_ws RX2 TX2 2, w ∈ wsX2_clear := by decide +kernel
  subst hsz
  have hD := hD0.self (sz := s.heap.size)
  generalize hAe : va_A [(ql, .inr (3, [.ref qs, .int (nI z)]))] s.heap.size = A at hD hE ⊢
  have hA : ∀ q : Nat, s.heap.size ≤ q → A q := fun q h => by rw [← hAe]; exact Or.inr h
  have hS : va_S A s.heap s.heap [] := va_S.rf
  have hl := lv_entry ([.ref ql]) (n := 1) (Nat.le_of_ble_eq_true rfl)
  rw [lg_entry_eq]
  generalize (lg_sl ([.ref ql]) ++ List.replicate (1 - (lg_sl ([.ref ql])).length) Slot.unset).toArray = ls at hl ⊢
  have hl : lv_has ls 1 [(0, .ref ql)] := hl
  refine lv_aload_n hx hb dX2_clear_0 rfl (lv_at hl 0 rfl) ?_
  refine lv_iconst (v := (nI 0)) hx hb dX2_clear_1 (by decide +kernel) ?_
  refine va_put (D := D) (ci := 3) (v := .int (nI 0)) (ty := .int) (C := RX2) (T := TX2) (N := 2) hx hb hts iX2 tyX2 tyX2_ok nmX2 hown hK hP hD hS 0 rfl rfl 1 (by decide) (hts (.fieldLink RX2 15 "LeastSets$SetList" "size" "I") (by decide +kernel)) (fun _ h9 => h9) rfl (by decide +kernel) rfl rfl (Nat.le_of_ble_eq_true rfl) dX2_clear_2 (fun H locs hP hD hS => ?_)
  have hP : va_P D vwCl [(ql, .inr (3, [.ref qs, .int (nI 0)]))] H := hP
  have hD : va_D A [(ql, .inr (3, [.ref qs, .int (nI 0)]))] := hD
  exact W.vret hx hb hr (fun t ht hW => ⟨⟨(), rfl, trivial, by rw [ht]; exact hP, va_K.moved hW.alike hK, hD⟩, hS.F ht⟩) hS.2.2 dX2_clear_5
set_option maxHeartbeats 4000000 in
set_option maxRecDepth 100000 in
/-- addAll(v, x) -/
theorem c_X2_addAll (l : Launch) (D : va_G) (cI cZ cJ : ClassId) (t1 t2 sz : Nat) (ql qs : Nat) (L : List Nat) (Sx : Nat → Int32) (hS0 : sx_ Sx L) (v : Nat) (hv : v < 256) (x : Int64) (hroom : (L ++ ml_ v x).length ≤ 3432) : Met l yX2_addAll wsX2_addAll ({ frames := 2, cells := 0, slots := 0, locals := 42 } : Room) (va_Pc [.ref ql, .int (nI v), .long x] (wr_ D [(cI, .int), (cZ, .boolean), (cJ, .long)] [(ql, .inr (3, [.ref qs, .int (nI (L).length)])), (qs, .inl (cI, 3432, .inl Sx))] t1 t2 sz)) (va_Qv (S := Nat → Int32) (fun u => sx_ u (L ++ ml_ v x)) (fun u => wd_ D [(cI, .int), (cZ, .boolean), (cJ, .long)] (va_A [(ql, .inr (3, [.ref qs, .int (nI (L).length)])), (qs, .inl (cI, 3432, .inl Sx))] sz) [(ql, .inr (3, [.ref qs, .int (nI (L ++ ml_ v x).length)])), (qs, .inl (cI, 3432, .inl u))]) (va_A [(ql, .inr (3, [.ref qs, .int (nI (L).length)])), (qs, .inl (cI, 3432, .inl Sx))] sz)) 0 0 (va_A [(ql, .inr (3, [.ref qs, .int (nI (L).length)])), (qs, .inl (cI, 3432, .inl Sx))] sz) := by
  refine Met.ofW (cc := cX2_addAll) (maxL := 8) (ret := none) (by decide) rfl ?_
  intro p e s m args below meth c s₁ B hml hv
  obtain ⟨rfl, hsz, hP, hK, hD0, hE⟩ := hv
  have hx := B.exec
  have hb := B.bytes
  have hr := B.returns
  have hts := atoms_spec (ws := wsX2_addAll) B.pre
  have hown : s.vm.findClass RX2 = some m.cls := findClass_of_methodNamed B.named
  have hlocks := B.notSynchronized
  have iX2 : ∀ w ∈ u_ws RX2 TX2 2, w ∈ wsX2_addAll := by decide +kernel
  subst hsz
  have hD := hD0.self (sz := s.heap.size)
  generalize hAe : va_A [(ql, .inr (3, [.ref qs, .int (nI (L).length)])), (qs, .inl (cI, 3432, .inl Sx))] s.heap.size = A at hD hE ⊢
  have hA : ∀ q : Nat, s.heap.size ≤ q → A q := fun q h => by rw [← hAe]; exact Or.inr h
  have hS : va_S A s.heap s.heap [] := va_S.rf
  have h64 := ol_64 x
  have hl := lv_entry ([.ref ql, .int (nI v), .long x]) (n := 8) (Nat.le_of_ble_eq_true rfl)
  rw [lg_entry_eq]
  generalize (lg_sl ([.ref ql, .int (nI v), .long x]) ++ List.replicate (8 - (lg_sl ([.ref ql, .int (nI v), .long x])).length) Slot.unset).toArray = ls at hl ⊢
  have hl : lv_has ls 8 [(0, .ref ql), (1, .int (nI v)), (2, .long x)] := hl
  have loop : ∀ (d : Nat) (k : Nat) (s4 : Int64) (Lk : List Nat) (Sx : Nat → Int32) (H : Heap) (locs : List Loc) (ls : Array Slot), (on_ (bl x) 0 64).length < k + d → k ≤ (on_ (bl x) 0 64).length → ad_is x k s4 → Lk = L ++ (ml_ v x).take k → sx_ Sx Lk → va_P D vwCl [(ql, .inr (3, [.ref qs, .int (nI (Lk).length)])), (qs, .inl (cI, 3432, .inl Sx))] H → va_D A [(ql, .inr (3, [.ref qs, .int (nI (Lk).length)])), (qs, .inl (cI, 3432, .inl Sx))] → va_S A s.heap H locs → lv_has ls 8 [(7, .int (nI k)), (4, .long s4), (6, .int (nI (on_ (bl x) 0 64).length)), (0, .ref ql), (1, .int (nI v)), (2, .long x)] → W p l e (headSpec wsX2_addAll ({ frames := 2, cells := 0, slots := 0, locals := 42 } : Room)).room s m ([.ref ql, .int (nI v), .long x] : List Value).toArray below meth c H locs 0 0 (MQ below (va_Qv (S := Nat → Int32) (fun u => sx_ u (L ++ ml_ v x)) (fun u => wd_ D [(cI, .int), (cZ, .boolean), (cJ, .long)] A [(ql, .inr (3, [.ref qs, .int (nI (L ++ ml_ v x).length)])), (qs, .inl (cI, 3432, .inl u))]) A) ([.ref ql, .int (nI v), .long x] : List Value).toArray s 0 0 A) (F0 m 12 ls []) := by
    intro d
    induction d with
    | zero => intro k s4 Lk Sx H locs ls h1 h2; omega
    | succ d ih =>
      intro k s4 Lk Sx H locs ls h1 h2 ha eL hX hP hD hS hl
      have hlen : Lk.length + ((on_ (bl x) 0 64).length - k) ≤ 3432 := by
        rw [eL, List.length_append, List.length_take, List.length_map]
        rw [List.length_append, List.length_map] at hroom
        omega
      refine lv_iload hx hb dX2_addAll_12 (lv_at hl 0 rfl) ?_
      refine lv_iload hx hb dX2_addAll_14 (lv_at hl 2 rfl) ?_
      refine r_ige hx hb (tgt := 73) (by omega) (by omega) dX2_addAll_16 (by decide) (fun c_16 => ?_) (fun c_16 => ?_)
      · have ek : Lk = L ++ ml_ v x := by rw [eL, List.take_of_length_le (by rw [List.length_map]; omega)]
        subst ek
        exact W.vret hx hb hr (fun t ht hW => ⟨⟨Sx, rfl, hX, by rw [ht]; exact hP, va_K.moved hW.alike hK, hD⟩, hS.F ht⟩) hS.2.2 dX2_addAll_73
      · refine lv_aload_n hx hb dX2_addAll_19 rfl (lv_at hl 3 rfl) ?_
        refine va_get (D := D) (ci := 3) (v := .int (nI (Lk).length)) (C := RX2) (T := TX2) (N := 2) hx hb hts iX2 hown hK hP 0 rfl rfl 1 (by decide) (hts (.fieldLink RX2 15 "LeastSets$SetList" "size" "I") (by decide +kernel)) (fun _ h9 => h9) rfl dX2_addAll_20 ?_
        refine lv_sipush (v := (nI 3432)) hx hb dX2_addAll_23 (by decide +kernel) ?_
        refine r_ige hx hb (tgt := 73) (by omega) (by omega) dX2_addAll_26 (by decide) (fun c_26 => ?_) (fun c_26 => ?_)
        · exact absurd c_26 (by omega)
        · refine lv_aload_n hx hb dX2_addAll_29 rfl (lv_at hl 3 rfl) ?_
          refine va_get (D := D) (ci := 3) (v := .ref qs) (C := RX2) (T := TX2) (N := 2) hx hb hts iX2 hown hK hP 0 rfl rfl 0 (by decide) (hts (.fieldLink RX2 9 "LeastSets$SetList" "sets" "[I") (by decide +kernel)) (fun _ h9 => h9) rfl dX2_addAll_30 ?_
          refine lv_aload_n hx hb dX2_addAll_33 rfl (lv_at hl 3 rfl) ?_
          refine va_get (D := D) (ci := 3) (v := .int (nI (Lk).length)) (C := RX2) (T := TX2) (N := 2) hx hb hts iX2 hown hK hP 0 rfl rfl 1 (by decide) (hts (.fieldLink RX2 15 "LeastSets$SetList" "size" "I") (by decide +kernel)) (fun _ h9 => h9) rfl dX2_addAll_34 ?_
          refine lv_iload_n hx hb dX2_addAll_37 rfl (lv_at hl 4 rfl) ?_
          refine lv_bipush (v := (nI 6)) hx hb dX2_addAll_38 (by decide +kernel) ?_
          refine lv_ishl hx hb dX2_addAll_40 ?_
          refine lv_lload hx hb dX2_addAll_41 (lv_at hl 1 rfl) ?_
          obtain ⟨p0, hp0, ep0, ha2, et⟩ := ad_step ha c_16
          refine vp_callSi (va_runSN (As := [.long s4]) (rest := [.int ((nI v) <<< ((nI 6) &&& 31)), .int (nI (Lk).length), .ref qs]) ⟨hx, hb, hml, hown, hts⟩ (c_X3_lowestPlace l s4) ⟨va_cnB (host := "LeastSets") 1 hts gX2_addAll_X3_lowestPlace_n25 rfl rfl rfl (hE.1 _ (List.mem_of_getElem? (i := 12) rfl)) (hts (.initialized RX3) (by decide +kernel)) (by decide +kernel) ⟨Nat.le_of_ble_eq_true rfl, Nat.le_of_ble_eq_true rfl⟩, hts (.static yX3_lowestPlace) (by decide +kernel), trivial⟩ ⟨no_blind, no_pre trivial⟩ rfl rfl hl.1 rfl (lv_room (Nat.le_of_ble_eq_true rfl)) dX2_addAll_43 ⟨Nat.le_of_ble_eq_true rfl, Nat.le_of_ble_eq_true rfl⟩).run (fun r_43 hr_43 => ?_)
          rw [ep0] at hr_43
          subst hr_43
          refine lv_iadd hx hb dX2_addAll_46 ?_
          refine r_top (y := nI (v * 64 + p0)) (by rw [shl6 v hv, nI_add]) ?_
          refine r_iast hx hb hK hP hD hS 1 0 rfl rfl ((Lk).length) (by omega) (by omega) dX2_addAll_47 (fun H locs hP hD hS => ?_)
          have hP : va_P D vwCl [(ql, .inr (3, [.ref qs, .int (nI (Lk).length)])), (qs, .inl (cI, 3432, .inl (upd Sx ((Lk).length) (nI (v * 64 + p0)))))] H := hP
          have hD : va_D A [(ql, .inr (3, [.ref qs, .int (nI (Lk).length)])), (qs, .inl (cI, 3432, .inl (upd Sx ((Lk).length) (nI (v * 64 + p0)))))] := hD
          refine lv_aload_n hx hb dX2_addAll_48 rfl (lv_at hl 3 rfl) ?_
          refine lv_dup hx hb dX2_addAll_49 rfl ?_
          refine va_get (D := D) (ci := 3) (v := .int (nI (Lk).length)) (C := RX2) (T := TX2) (N := 2) hx hb hts iX2 hown hK hP 0 rfl rfl 1 (by decide) (hts (.fieldLink RX2 15 "LeastSets$SetList" "size" "I") (by decide +kernel)) (fun _ h9 => h9) rfl dX2_addAll_50 ?_
          refine lv_iconst (v := (nI 1)) hx hb dX2_addAll_53 (by decide +kernel) ?_
          refine r_iadd hx hb dX2_addAll_54 ?_
          refine va_put (D := D) (ci := 3) (v := .int (nI ((Lk).length + 1))) (ty := .int) (C := RX2) (T := TX2) (N := 2) hx hb hts iX2 tyX2 tyX2_ok nmX2 hown hK hP hD hS 0 rfl rfl 1 (by decide) (hts (.fieldLink RX2 15 "LeastSets$SetList" "size" "I") (by decide +kernel)) (fun _ h9 => h9) rfl (by decide +kernel) rfl rfl (Nat.le_of_ble_eq_true rfl) dX2_addAll_55 (fun H locs hP hD hS => ?_)
          have hP : va_P D vwCl [(ql, .inr (3, [.ref qs, .int (nI ((Lk).length + 1))])), (qs, .inl (cI, 3432, .inl (upd Sx ((Lk).length) (nI (v * 64 + p0)))))] H := hP
          have hD : va_D A [(ql, .inr (3, [.ref qs, .int (nI ((Lk).length + 1))])), (qs, .inl (cI, 3432, .inl (upd Sx ((Lk).length) (nI (v * 64 + p0)))))] := hD
          refine lv_lload hx hb dX2_addAll_58 (lv_at hl 1 rfl) ?_
          refine lv_lload hx hb dX2_addAll_60 (lv_at hl 1 rfl) ?_
          refine lv_lconst (v := 1) hx hb dX2_addAll_62 (by decide +kernel) ?_
          refine lv_lsub hx hb dX2_addAll_63 ?_
          refine lv_land hx hb dX2_addAll_64 ?_
          refine lv_lstore (lv' := [(4, .long (s4 &&& (s4 - 1))), (7, .int (nI k)), (6, .int (nI (on_ (bl x) 0 64).length)), (0, .ref ql), (1, .int (nI v)), (2, .long x)]) hx hb dX2_addAll_65 hl (by decide) rfl (fun ls hl => ?_)
          refine lv_iinc (v := (nI (k + 1))) (lv' := [(7, .int (nI (k + 1))), (4, .long (s4 &&& (s4 - 1))), (6, .int (nI (on_ (bl x) 0 64).length)), (0, .ref ql), (1, .int (nI v)), (2, .long x)]) hx hb dX2_addAll_67 hl (k := 1) rfl (nI_inc _) (by decide) rfl (fun ls hl => ?_)
          refine lv_goto (tgt := 12) hx hb dX2_addAll_70 (by decide) ?_
          rw [show Lk.length + 1 = (Lk ++ [v * 64 + p0]).length by rw [List.length_append]; rfl] at hP hD
          exact ih (k + 1) _ (Lk ++ [v * 64 + p0]) _ H locs ls (by omega) (by omega) ha2 (by rw [et v, eL, List.append_assoc]) (sx_push hX _) hP hD hS (lv_sub hl [0, 1, 2, 3, 4, 5] rfl)
  refine lv_lload_n hx hb dX2_addAll_0 rfl (lv_at hl 2 rfl) ?_
  refine lv_lstore (lv' := [(4, .long x), (0, .ref ql), (1, .int (nI v)), (2, .long x)]) hx hb dX2_addAll_1 hl (by decide) rfl (fun ls hl => ?_)
  refine lv_lload_n hx hb dX2_addAll_3 rfl (lv_at hl 3 rfl) ?_
  refine vp_callSi (va_runS (As := [.long x]) (rest := []) ⟨hx, hb, hml, hown, hts⟩ (c_J13_bitCount_95d88 l x) (va_cwS 1 hts gX2_addAll_J13_bitCount_95d88 rfl rfl rfl (by decide +kernel) ⟨Nat.le_of_ble_eq_true rfl, Nat.le_of_ble_eq_true rfl⟩) ⟨no_blind, no_pre trivial⟩ rfl rfl hl.1 rfl (lv_room (Nat.le_of_ble_eq_true rfl)) dX2_addAll_4 ⟨Nat.le_of_ble_eq_true rfl, Nat.le_of_ble_eq_true rfl⟩).run (fun r_4 hr_4 => ?_)
  rw [lc_len] at hr_4
  subst hr_4
  refine lv_istore (lv' := [(6, .int (nI (on_ (bl x) 0 64).length)), (4, .long x), (0, .ref ql), (1, .int (nI v)), (2, .long x)]) hx hb dX2_addAll_7 hl (by decide) rfl (fun ls hl => ?_)
  refine lv_iconst (v := (nI 0)) hx hb dX2_addAll_9 (by decide +kernel) ?_
  refine lv_istore (lv' := [(7, .int (nI 0)), (6, .int (nI (on_ (bl x) 0 64).length)), (4, .long x), (0, .ref ql), (1, .int (nI v)), (2, .long x)]) hx hb dX2_addAll_10 hl (by decide) rfl (fun ls hl => ?_)
  exact loop ((on_ (bl x) 0 64).length + 1) 0 x L Sx s.heap [] ls (by omega) (Nat.zero_le _) rfl (by rw [List.take_zero, List.append_nil]) hS0 hP hD hS (lv_sub hl [0, 2, 1, 3, 4, 5] rfl)
end
section
set_option maxHeartbeats 4000000 in
set_option maxRecDepth 100000 in
/-- leastOf(v) -/
theorem c_X1_leastOf (l : Launch) (D : va_G) (cI cZ cJ : ClassId) (qm qn qo : Nat) (t1 t2 : Nat) (Mb : Nat → Int64) (M : Nat → Prop) (words v : Nat) (hw : words ≤ 256) (hv : v < words) (hm : mb_ M words Mb) : Met l yX1_leastOf wsX1_leastOf ({ frames := 0, cells := 0, slots := 0, locals := 0 } : Room) (va_Pc [.ref qm, .int (nI v)] (re_ D [(cI, .int), (cZ, .boolean), (cJ, .long)] [(qm, .inr (2, [.ref qn, .ref qo])), (qn, .inl (cJ, 256, .inr (.inl Mb)))] t1 t2)) (vp_Sl (fun r => ∀ j, j < 64 → (bl r j = true ↔ lst_ M (v * 64 + j)))) 0 0 (fun _ => False) := by
  refine Met.ofW (cc := cX1_leastOf) (maxL := 7) (ret := (some .long)) (by decide) rfl ?_
  intro p e s m args below meth c s₁ B hml hv
  obtain ⟨rfl, hP, hK, hE⟩ := hv
  have hx := B.exec
  have hb := B.bytes
  have hr := B.returns
  have hts := atoms_spec (ws := wsX1_leastOf) B.pre
  have hown : s.vm.findClass RX1 = some m.cls := findClass_of_methodNamed B.named
  have hlocks := B.notSynchronized
  have iX1 : ∀ w ∈ u_ws RX1 TX1 2, w ∈ wsX1_leastOf := by decide +kernel
  have hS : va_S (fun _ => False) s.heap s.heap [] := va_S.rf
  have hl := lv_entry ([.ref qm, .int (nI v)]) (n := 7) (Nat.le_of_ble_eq_true rfl)
  rw [lg_entry_eq]
  generalize (lg_sl ([.ref qm, .int (nI v)]) ++ List.replicate (7 - (lg_sl ([.ref qm, .int (nI v)])).length) Slot.unset).toArray = ls at hl ⊢
  have hl : lv_has ls 7 [(0, .ref qm), (1, .int (nI v))] := hl
  have two : ∀ (d : Nat) (a : Nat) (y : Int64) (ls : Array Slot), 8 < a + d → a ≤ 8 → hi_is M v a y → lv_has ls 7 [(4, .int (nI a)), (2, .long y), (0, .ref qm), (1, .int (nI v))] → W p l e (headSpec wsX1_leastOf ({ frames := 0, cells := 0, slots := 0, locals := 0 } : Room)).room s m ([.ref qm, .int (nI v)] : List Value).toArray below meth c s.heap [] 0 0 (MQ below (vp_Sl (fun r => ∀ j, j < 64 → (bl r j = true ↔ lst_ M (v * 64 + j)))) ([.ref qm, .int (nI v)] : List Value).toArray s 0 0 (fun _ => False)) (F0 m 55 ls []) := by
    intro d
    induction d with
    | zero => intro a y ls h1 h2; omega
    | succ d ih =>
      intro a y ls h1 h2 hy hl
      refine lv_iload hx hb dX1_leastOf_55 (lv_at hl 0 rfl) ?_
      refine lv_bipush (v := (nI 8)) hx hb dX1_leastOf_57 (by decide +kernel) ?_
      refine r_ige hx hb (tgt := 95) (by omega) (by omega) dX1_leastOf_59 (by decide) (fun c_59 => ?_) (fun c_59 => ?_)
      · refine lv_lload_n hx hb dX1_leastOf_95 rfl (lv_at hl 1 rfl) ?_
        exact W.lret (v := y) hx hb hr (fun t ht hW => ⟨y, rfl, hi_end (by rw [show a = 8 by omega] at hy; exact hy), ht⟩) (fun q h => by cases h) dX1_leastOf_96
      · refine lv_iload_n hx hb dX1_leastOf_62 rfl (lv_at hl 3 rfl) ?_
        refine lv_iload hx hb dX1_leastOf_63 (lv_at hl 0 rfl) ?_
        refine lv_ishr hx hb dX1_leastOf_65 ?_
        refine lv_iconst (v := 1) hx hb dX1_leastOf_66 (by decide +kernel) ?_
        refine lv_iand hx hb dX1_leastOf_67 ?_
        refine lv_if_eq (tgt := 89) hx hb dX1_leastOf_68 (by decide) (fun c_68 => ?_) (fun c_68 => ?_)
        · refine lv_iinc (v := (nI (a + 1))) (lv' := [(4, .int (nI (a + 1))), (2, .long y), (0, .ref qm), (1, .int (nI v))]) hx hb dX1_leastOf_89 hl (k := 0) rfl (nI_inc _) (by decide) rfl (fun ls hl => ?_)
          refine lv_goto (tgt := 55) hx hb dX1_leastOf_92 (by decide) ?_
          exact ih (a + 1) _ ls (by omega) (by omega) (by first | exact hi_no c_59 c_68 hy | exact hi_yes hm hv hw c_59 hbit hy) (lv_sub hl [0, 1, 2, 3] rfl)
        · refine lv_lload_n hx hb dX1_leastOf_71 rfl (lv_at hl 1 rfl) ?_
          refine lv_aload_n hx hb dX1_leastOf_72 rfl (lv_at hl 2 rfl) ?_
          refine va_get (D := D) (ci := 2) (v := .ref qn) (C := RX1) (T := TX1) (N := 2) hx hb hts iX1 hown hK hP 0 rfl rfl 0 (by decide) (hts (.fieldLink RX1 9 "LeastSets$Family" "members" "[J") (by decide +kernel)) (fun _ h9 => h9) rfl dX1_leastOf_73 ?_
          refine lv_iload_n hx hb dX1_leastOf_76 rfl (lv_at hl 3 rfl) ?_
          refine lv_iconst (v := 1) hx hb dX1_leastOf_77 (by decide +kernel) ?_
          refine lv_iload hx hb dX1_leastOf_78 (lv_at hl 0 rfl) ?_
          refine lv_ishl hx hb dX1_leastOf_80 ?_
          refine lv_ixor hx hb dX1_leastOf_81 ?_
          have hbit := hi_bit c_59 c_68
          have hdn := flip_dn v (by omega) a c_59 hbit
          refine r_top (y := nI (v ^^^ 2 ^ a)) (flip_nI v (by omega) a c_59) ?_
          refine r_lald hx hb hK hP 1 2 rfl rfl (v ^^^ 2 ^ a) (by omega) (by omega) dX1_leastOf_82 ?_
          refine lv_ldc2 (v := (-1)) hx hb hown (hts (.constantLong RX1 43 (-1)) (by decide +kernel)) dX1_leastOf_83 ?_
          refine lv_lxor hx hb dX1_leastOf_86 ?_
          refine lv_land hx hb dX1_leastOf_87 ?_
          refine lv_lstore_n (lv' := [(2, .long (y &&& ((Mb (v ^^^ 2 ^ a)) ^^^ (-1)))), (4, .int (nI a)), (0, .ref qm), (1, .int (nI v))]) hx hb dX1_leastOf_88 rfl hl (by decide) rfl (fun ls hl => ?_)
          refine lv_iinc (v := (nI (a + 1))) (lv' := [(4, .int (nI (a + 1))), (2, .long (y &&& ((Mb (v ^^^ 2 ^ a)) ^^^ (-1)))), (0, .ref qm), (1, .int (nI v))]) hx hb dX1_leastOf_89 hl (k := 1) rfl (nI_inc _) (by decide) rfl (fun ls hl => ?_)
          refine lv_goto (tgt := 55) hx hb dX1_leastOf_92 (by decide) ?_
          exact ih (a + 1) _ ls (by omega) (by omega) (by first | exact hi_no c_59 c_68 hy | exact hi_yes hm hv hw c_59 hbit hy) (lv_sub hl [0, 1, 2, 3] rfl)
  have one : ∀ (d : Nat) (a : Nat) (y : Int64) (ls : Array Slot), 6 < a + d → a ≤ 6 → lo_is M v a y → lv_has ls 7 [(4, .int (nI a)), (2, .long y), (0, .ref qm), (1, .int (nI v))] → W p l e (headSpec wsX1_leastOf ({ frames := 0, cells := 0, slots := 0, locals := 0 } : Room)).room s m ([.ref qm, .int (nI v)] : List Value).toArray below meth c s.heap [] 0 0 (MQ below (vp_Sl (fun r => ∀ j, j < 64 → (bl r j = true ↔ lst_ M (v * 64 + j)))) ([.ref qm, .int (nI v)] : List Value).toArray s 0 0 (fun _ => False)) (F0 m 10 ls []) := by
    intro d
    induction d with
    | zero => intro a y ls h1 h2; omega
    | succ d ih =>
      intro a y ls h1 h2 hy hl
      refine lv_iload hx hb dX1_leastOf_10 (lv_at hl 0 rfl) ?_
      refine lv_bipush (v := (nI 6)) hx hb dX1_leastOf_12 (by decide +kernel) ?_
      refine r_ige hx hb (tgt := 52) (by omega) (by omega) dX1_leastOf_14 (by decide) (fun c_14 => ?_) (fun c_14 => ?_)
      · refine lv_iconst (v := (nI 0)) hx hb dX1_leastOf_52 (by decide +kernel) ?_
        refine lv_istore (lv' := [(4, .int (nI 0)), (2, .long y), (0, .ref qm), (1, .int (nI v))]) hx hb dX1_leastOf_53 hl (by decide) rfl (fun ls hl => ?_)
        exact two 9 0 _ ls (by omega) (by omega) (hi_0 (by rw [show a = 6 by omega] at hy; exact hy)) (lv_sub hl [0, 1, 2, 3] rfl)
      · refine lv_aload_n hx hb dX1_leastOf_17 rfl (lv_at hl 2 rfl) ?_
        refine va_get (D := D) (ci := 2) (v := .ref qn) (C := RX1) (T := TX1) (N := 2) hx hb hts iX1 hown hK hP 0 rfl rfl 0 (by decide) (hts (.fieldLink RX1 9 "LeastSets$Family" "members" "[J") (by decide +kernel)) (fun _ h9 => h9) rfl dX1_leastOf_18 ?_
        refine lv_iload_n hx hb dX1_leastOf_21 rfl (lv_at hl 3 rfl) ?_
        refine r_lald hx hb hK hP 1 2 rfl rfl v (by omega) (by omega) dX1_leastOf_22 ?_
        refine lv_iconst (v := 1) hx hb dX1_leastOf_23 (by decide +kernel) ?_
        refine lv_iload hx hb dX1_leastOf_24 (lv_at hl 0 rfl) ?_
        refine lv_ishl hx hb dX1_leastOf_26 ?_
        refine lv_lshl (v := ((Mb v) <<< (Int32.toInt64 (1 <<< ((nI a) &&& 31)) &&& 63))) hx hb dX1_leastOf_27 rfl ?_
        refine va_getsN (host := "LeastSets") hx hb hE.2.1 hS hown (va_Nw.use rfl (hE.1 _ (List.mem_of_getElem? (i := 6) rfl))) (fun _ h9 => h9) dX1_leastOf_28 ?_
        refine lv_iload hx hb dX1_leastOf_31 (lv_at hl 0 rfl) ?_
        refine va_tl (v := .long (pw_ a)) hx hb hE.2.2.1 hS (vp_in_nI c_14 (by omega)) (by rw [nI_clamp (by omega)]) dX1_leastOf_33 ?_
        refine lv_land hx hb dX1_leastOf_34 ?_
        refine lv_lstore (lv' := [(5, .long (((Mb v) <<< (Int32.toInt64 (1 <<< ((nI a) &&& 31)) &&& 63)) &&& (pw_ a))), (4, .int (nI a)), (2, .long y), (0, .ref qm), (1, .int (nI v))]) hx hb dX1_leastOf_35 hl (by decide) rfl (fun ls hl => ?_)
        refine lv_lload_n hx hb dX1_leastOf_37 rfl (lv_at hl 2 rfl) ?_
        refine lv_lload hx hb dX1_leastOf_38 (lv_at hl 0 rfl) ?_
        refine lv_ldc2 (v := (-1)) hx hb hown (hts (.constantLong RX1 43 (-1)) (by decide +kernel)) dX1_leastOf_40 ?_
        refine lv_lxor hx hb dX1_leastOf_43 ?_
        refine lv_land hx hb dX1_leastOf_44 ?_
        refine lv_lstore_n (lv' := [(2, .long (y &&& ((((Mb v) <<< (Int32.toInt64 (1 <<< ((nI a) &&& 31)) &&& 63)) &&& (pw_ a)) ^^^ (-1)))), (5, .long (((Mb v) <<< (Int32.toInt64 (1 <<< ((nI a) &&& 31)) &&& 63)) &&& (pw_ a))), (4, .int (nI a)), (0, .ref qm), (1, .int (nI v))]) hx hb dX1_leastOf_45 rfl hl (by decide) rfl (fun ls hl => ?_)
        refine lv_iinc (v := (nI (a + 1))) (lv' := [(4, .int (nI (a + 1))), (2, .long (y &&& ((((Mb v) <<< (Int32.toInt64 (1 <<< ((nI a) &&& 31)) &&& 63)) &&& (pw_ a)) ^^^ (-1)))), (5, .long (((Mb v) <<< (Int32.toInt64 (1 <<< ((nI a) &&& 31)) &&& 63)) &&& (pw_ a))), (0, .ref qm), (1, .int (nI v))]) hx hb dX1_leastOf_46 hl (k := 2) rfl (nI_inc _) (by decide) rfl (fun ls hl => ?_)
        refine lv_goto (tgt := 10) hx hb dX1_leastOf_49 (by decide) ?_
        exact ih (a + 1) _ ls (by omega) (by omega) (lo_step hm hv c_14 hy) (lv_sub hl [0, 1, 3, 4] rfl)
  refine lv_aload_n hx hb dX1_leastOf_0 rfl (lv_at hl 0 rfl) ?_
  refine va_get (D := D) (ci := 2) (v := .ref qn) (C := RX1) (T := TX1) (N := 2) hx hb hts iX1 hown hK hP 0 rfl rfl 0 (by decide) (hts (.fieldLink RX1 9 "LeastSets$Family" "members" "[J") (by decide +kernel)) (fun _ h9 => h9) rfl dX1_leastOf_1 ?_
  refine lv_iload_n hx hb dX1_leastOf_4 rfl (lv_at hl 1 rfl) ?_
  refine r_lald hx hb hK hP 1 2 rfl rfl v (by omega) (by omega) dX1_leastOf_5 ?_
  refine lv_lstore_n (lv' := [(2, .long (Mb v)), (0, .ref qm), (1, .int (nI v))]) hx hb dX1_leastOf_6 rfl hl (by decide) rfl (fun ls hl => ?_)
  refine lv_iconst (v := (nI 0)) hx hb dX1_leastOf_7 (by decide +kernel) ?_
  refine lv_istore (lv' := [(4, .int (nI 0)), (2, .long (Mb v)), (0, .ref qm), (1, .int (nI v))]) hx hb dX1_leastOf_8 hl (by decide) rfl (fun ls hl => ?_)
  exact one 7 0 _ ls (by omega) (by omega) (lo_0 hm hv) (lv_sub hl [0, 1, 2, 3] rfl)
set_option maxHeartbeats 4000000 in
set_option maxRecDepth 100000 in
/-- listLeast(words, list) -/
theorem c_X1_listLeast (l : Launch) (D : va_G) (cI cZ cJ : ClassId) (t1 t2 sz : Nat) (qm qn qo ql qs : Nat) (Mb Le : Nat → Int64) (z : Nat) (Sx : Nat → Int32) (M : Nat → Prop) (P : Nat → Bool) (hP0 : ∀ s, P s = true ↔ lst_ M s) (up : ∀ s t, ss_ s t → M s → M t) (words : Nat) (hw : words ≤ 256) (hm : mb_ M words Mb) : Met l yX1_listLeast wsX1_listLeast ({ frames := 3, cells := 0, slots := 0, locals := 69 } : Room) (va_Pc [.ref qm, .int (nI words), .ref ql] (wr_ D [(cI, .int), (cZ, .boolean), (cJ, .long)] [(qm, .inr (2, [.ref qn, .ref qo])), (qn, .inl (cJ, 256, .inr (.inl Mb))), (qo, .inl (cJ, 256, .inr (.inl Le))), (ql, .inr (3, [.ref qs, .int (nI z)])), (qs, .inl (cI, 3432, .inl Sx))] t1 t2 sz)) (va_Qv (S := (Nat → Int64) × (Nat → Int32)) (fun u => sx_ u.2 (ls_ P 15 (words * 64))) (fun u => wd_ D [(cI, .int), (cZ, .boolean), (cJ, .long)] (va_A [(qm, .inr (2, [.ref qn, .ref qo])), (qn, .inl (cJ, 256, .inr (.inl Mb))), (qo, .inl (cJ, 256, .inr (.inl Le))), (ql, .inr (3, [.ref qs, .int (nI z)])), (qs, .inl (cI, 3432, .inl Sx))] sz) [(qm, .inr (2, [.ref qn, .ref qo])), (qn, .inl (cJ, 256, .inr (.inl Mb))), (qo, .inl (cJ, 256, .inr (.inl u.1))), (ql, .inr (3, [.ref qs, .int (nI ((ls_ P 15 (words * 64))).length)])), (qs, .inl (cI, 3432, .inl u.2))]) (va_A [(qm, .inr (2, [.ref qn, .ref qo])), (qn, .inl (cJ, 256, .inr (.inl Mb))), (qo, .inl (cJ, 256, .inr (.inl Le))), (ql, .inr (3, [.ref qs, .int (nI z)])), (qs, .inl (cI, 3432, .inl Sx))] sz)) 0 0 (va_A [(qm, .inr (2, [.ref qn, .ref qo])), (qn, .inl (cJ, 256, .inr (.inl Mb))), (qo, .inl (cJ, 256, .inr (.inl Le))), (ql, .inr (3, [.ref qs, .int (nI z)])), (qs, .inl (cI, 3432, .inl Sx))] sz) := by
  refine Met.ofW (cc := cX1_listLeast) (maxL := 6) (ret := none) (by decide) rfl ?_
  intro p e s m args below meth c s₁ B hml hv
  obtain ⟨rfl, hsz, hP, hK, hD0, hE⟩ := hv
  have hx := B.exec
  have hb := B.bytes
  have hr := B.returns
  have hts := atoms_spec (ws := wsX1_listLeast) B.pre
  have hown : s.vm.findClass RX1 = some m.cls := findClass_of_methodNamed B.named
  have hlocks := B.notSynchronized
  have iX1 : ∀ w ∈ u_ws RX1 TX1 2, w ∈ wsX1_listLeast := by decide +kernel
  subst hsz
  have hD := hD0.self (sz := s.heap.size)
  generalize hAe : va_A [(qm, .inr (2, [.ref qn, .ref qo])), (qn, .inl (cJ, 256, .inr (.inl Mb))), (qo, .inl (cJ, 256, .inr (.inl Le))), (ql, .inr (3, [.ref qs, .int (nI z)])), (qs, .inl (cI, 3432, .inl Sx))] s.heap.size = A at hD hE ⊢
  have hA : ∀ q : Nat, s.heap.size ≤ q → A q := fun q h => by rw [← hAe]; exact Or.inr h
  have hS : va_S A s.heap s.heap [] := va_S.rf
  have hroom : (ls_ P 15 (words * 64)).length ≤ 3432 := ls_len (fun s h => (hP0 s).mp h) up (by omega)
  have hl := lv_entry ([.ref qm, .int (nI words), .ref ql]) (n := 6) (Nat.le_of_ble_eq_true rfl)
  rw [lg_entry_eq]
  generalize (lg_sl ([.ref qm, .int (nI words), .ref ql]) ++ List.replicate (6 - (lg_sl ([.ref qm, .int (nI words), .ref ql])).length) Slot.unset).toArray = ls at hl ⊢
  have hl : lv_has ls 6 [(0, .ref qm), (1, .int (nI words)), (2, .ref ql)] := hl
  have two : ∀ (d : Nat) (z : Nat) (Le : Nat → Int64) (L : List Nat) (Sx : Nat → Int32) (H : Heap) (locs : List Loc) (ls : Array Slot), 15 < z + d → z ≤ 15 → (∀ b, b < words → ∀ j, j < 64 → (bl (Le b) j = true ↔ lst_ M (b * 64 + j))) → L = ls_ P z (words * 64) → sx_ Sx L → va_P D vwCl [(qm, .inr (2, [.ref qn, .ref qo])), (qn, .inl (cJ, 256, .inr (.inl Mb))), (qo, .inl (cJ, 256, .inr (.inl Le))), (ql, .inr (3, [.ref qs, .int (nI (L).length)])), (qs, .inl (cI, 3432, .inl Sx))] H → va_D A [(qm, .inr (2, [.ref qn, .ref qo])), (qn, .inl (cJ, 256, .inr (.inl Mb))), (qo, .inl (cJ, 256, .inr (.inl Le))), (ql, .inr (3, [.ref qs, .int (nI (L).length)])), (qs, .inl (cI, 3432, .inl Sx))] → va_S A s.heap H locs → lv_has ls 6 [(3, .int (nI z)), (0, .ref qm), (1, .int (nI words)), (2, .ref ql)] → W p l e (headSpec wsX1_listLeast ({ frames := 3, cells := 0, slots := 0, locals := 69 } : Room)).room s m ([.ref qm, .int (nI words), .ref ql] : List Value).toArray below meth c H locs 0 0 (MQ below (va_Qv (S := (Nat → Int64) × (Nat → Int32)) (fun u => sx_ u.2 (ls_ P 15 (words * 64))) (fun u => wd_ D [(cI, .int), (cZ, .boolean), (cJ, .long)] A [(qm, .inr (2, [.ref qn, .ref qo])), (qn, .inl (cJ, 256, .inr (.inl Mb))), (qo, .inl (cJ, 256, .inr (.inl u.1))), (ql, .inr (3, [.ref qs, .int (nI ((ls_ P 15 (words * 64))).length)])), (qs, .inl (cI, 3432, .inl u.2))]) A) ([.ref qm, .int (nI words), .ref ql] : List Value).toArray s 0 0 A) (F0 m 30 ls []) := by
    intro d
    induction d with
    | zero => intro z Le L Sx H locs ls h1 h2; omega
    | succ d ih =>
      intro z Le L Sx H locs ls h1 h2 hLe eL hX hP hD hS hl
      refine lv_iload_n hx hb dX1_listLeast_30 rfl (lv_at hl 0 rfl) ?_
      refine lv_bipush (v := (nI 14)) hx hb dX1_listLeast_31 (by decide +kernel) ?_
      refine r_igt hx hb (tgt := 98) (by omega) (by omega) dX1_listLeast_33 (by decide) (fun c_33 => ?_) (fun c_33 => ?_)
      · have ez : z = 15 := by omega
        subst ez
        subst eL
        exact W.vret hx hb hr (fun t ht hW => ⟨⟨(Le, Sx), rfl, hX, by rw [ht]; exact hP, va_K.moved hW.alike hK, hD⟩, hS.F ht⟩) hS.2.2 dX1_listLeast_98
      · refine lv_iconst (v := (nI 0)) hx hb dX1_listLeast_36 (by decide +kernel) ?_
        refine lv_istore (lv' := [(4, .int (nI 0)), (3, .int (nI z)), (0, .ref qm), (1, .int (nI words)), (2, .ref ql)]) hx hb dX1_listLeast_37 hl (by decide) rfl (fun ls hl => ?_)
        have three : ∀ (d2 : Nat) (v : Nat) (L : List Nat) (Sx : Nat → Int32) (H : Heap) (locs : List Loc) (ls : Array Slot), words < v + d2 → v ≤ words → L = ls_ P z (words * 64) ++ on_ (fz_ P z) 0 (v * 64) → sx_ Sx L → va_P D vwCl [(qm, .inr (2, [.ref qn, .ref qo])), (qn, .inl (cJ, 256, .inr (.inl Mb))), (qo, .inl (cJ, 256, .inr (.inl Le))), (ql, .inr (3, [.ref qs, .int (nI (L).length)])), (qs, .inl (cI, 3432, .inl Sx))] H → va_D A [(qm, .inr (2, [.ref qn, .ref qo])), (qn, .inl (cJ, 256, .inr (.inl Mb))), (qo, .inl (cJ, 256, .inr (.inl Le))), (ql, .inr (3, [.ref qs, .int (nI (L).length)])), (qs, .inl (cI, 3432, .inl Sx))] → va_S A s.heap H locs → lv_has ls 6 [(4, .int (nI v)), (3, .int (nI z)), (0, .ref qm), (1, .int (nI words)), (2, .ref ql)] → W p l e (headSpec wsX1_listLeast ({ frames := 3, cells := 0, slots := 0, locals := 69 } : Room)).room s m ([.ref qm, .int (nI words), .ref ql] : List Value).toArray below meth c H locs 0 0 (MQ below (va_Qv (S := (Nat → Int64) × (Nat → Int32)) (fun u => sx_ u.2 (ls_ P 15 (words * 64))) (fun u => wd_ D [(cI, .int), (cZ, .boolean), (cJ, .long)] A [(qm, .inr (2, [.ref qn, .ref qo])), (qn, .inl (cJ, 256, .inr (.inl Mb))), (qo, .inl (cJ, 256, .inr (.inl u.1))), (ql, .inr (3, [.ref qs, .int (nI ((ls_ P 15 (words * 64))).length)])), (qs, .inl (cI, 3432, .inl u.2))]) A) ([.ref qm, .int (nI words), .ref ql] : List Value).toArray s 0 0 A) (F0 m 39 ls []) := by
          intro d2
          induction d2 with
          | zero => intro v L Sx H locs ls h1 h2; omega
          | succ d2 ih2 =>
            intro v L Sx H locs ls h3 h4 eL hX hP hD hS hl
            refine lv_iload hx hb dX1_listLeast_39 (lv_at hl 0 rfl) ?_
            refine lv_iload_n hx hb dX1_listLeast_41 rfl (lv_at hl 3 rfl) ?_
            refine r_ige hx hb (tgt := 92) (by omega) (by omega) dX1_listLeast_42 (by decide) (fun c_42 => ?_) (fun c_42 => ?_)
            · refine lv_iinc (v := (nI (z + 1))) (lv' := [(3, .int (nI (z + 1))), (4, .int (nI v)), (0, .ref qm), (1, .int (nI words)), (2, .ref ql)]) hx hb dX1_listLeast_92 hl (k := 1) rfl (nI_inc _) (by decide) rfl (fun ls hl => ?_)
              refine lv_goto (tgt := 30) hx hb dX1_listLeast_95 (by decide) ?_
              exact ih (z + 1) Le L Sx H locs ls (by omega) (by omega) hLe (by rw [eL, show v = words by omega]; rfl) hX hP hD hS (lv_sub hl [0, 2, 3, 4] rfl)
            · refine lv_iload_n hx hb dX1_listLeast_45 rfl (lv_at hl 1 rfl) ?_
              refine lv_iload hx hb dX1_listLeast_46 (lv_at hl 0 rfl) ?_
              refine vp_callSi (va_runS (As := [.int (nI v)]) (rest := [.int (nI z)]) ⟨hx, hb, hml, hown, hts⟩ (c_J6_bitCount_0f7a4 l (nI v)) (va_cwS 1 hts gX1_listLeast_J6_bitCount_0f7a4 rfl rfl rfl (by decide +kernel) ⟨Nat.le_of_ble_eq_true rfl, Nat.le_of_ble_eq_true rfl⟩) ⟨no_blind, no_pre trivial⟩ rfl rfl hl.1 rfl (lv_room (Nat.le_of_ble_eq_true rfl)) dX1_listLeast_48 ⟨Nat.le_of_ble_eq_true rfl, Nat.le_of_ble_eq_true rfl⟩).run (fun r_48 hr_48 => ?_)
              rw [bc_8 v (by omega)] at hr_48
              subst hr_48
              have hp8 := pcF_le 8 v
              refine lv_isub hx hb dX1_listLeast_51 ?_
              refine lv_istore (lv' := [(5, .int ((nI z) - (nI (pcF 8 v)))), (4, .int (nI v)), (3, .int (nI z)), (0, .ref qm), (1, .int (nI words)), (2, .ref ql)]) hx hb dX1_listLeast_52 hl (by decide) rfl (fun ls hl => ?_)
              refine lv_iload hx hb dX1_listLeast_54 (lv_at hl 0 rfl) ?_
              refine lv_if_lt (tgt := 86) hx hb dX1_listLeast_56 (by decide) (fun c_56 => ?_) (fun c_56 => ?_)
              · have hno : z < pcF 8 v ∨ pcF 8 v + 6 < z := Or.inl (Classical.byContradiction fun q => by rw [pk_sub (by omega)] at c_56; exact nI_pos (by omega) c_56)
                refine lv_iinc (v := (nI (v + 1))) (lv' := [(4, .int (nI (v + 1))), (5, .int ((nI z) - (nI (pcF 8 v)))), (3, .int (nI z)), (0, .ref qm), (1, .int (nI words)), (2, .ref ql)]) hx hb dX1_listLeast_86 hl (k := 1) rfl (nI_inc _) (by decide) rfl (fun ls hl => ?_)
                refine lv_goto (tgt := 39) hx hb dX1_listLeast_89 (by decide) ?_
                exact ih2 (v + 1) L Sx H locs ls (by omega) (by omega) (by rw [word_no (by omega) hno]; exact eL) hX hP hD hS (lv_sub hl [0, 2, 3, 4, 5] rfl)
              · have hge : pcF 8 v ≤ z := Classical.byContradiction fun q => c_56 (pk_sneg (by omega) (by omega))
                rw [pk_sub hge] at hl
                refine lv_iload hx hb dX1_listLeast_59 (lv_at hl 0 rfl) ?_
                refine lv_bipush (v := (nI 6)) hx hb dX1_listLeast_61 (by decide +kernel) ?_
                refine lv_icmp_gt (tgt := 86) hx hb dX1_listLeast_63 (by decide) (fun c_63 => ?_) (fun c_63 => ?_)
                · have hno : z < pcF 8 v ∨ pcF 8 v + 6 < z := Or.inr (by have := (nI_ltI (a := 6) (b := z - pcF 8 v) (by omega) (by omega)).mp c_63; omega)
                  refine lv_iinc (v := (nI (v + 1))) (lv' := [(4, .int (nI (v + 1))), (5, .int (nI (z - pcF 8 v))), (3, .int (nI z)), (0, .ref qm), (1, .int (nI words)), (2, .ref ql)]) hx hb dX1_listLeast_86 hl (k := 1) rfl (nI_inc _) (by decide) rfl (fun ls hl => ?_)
                  refine lv_goto (tgt := 39) hx hb dX1_listLeast_89 (by decide) ?_
                  exact ih2 (v + 1) L Sx H locs ls (by omega) (by omega) (by rw [word_no (by omega) hno]; exact eL) hX hP hD hS (lv_sub hl [0, 2, 3, 4, 5] rfl)
                · have hle6 : z - pcF 8 v ≤ 6 := Classical.byContradiction fun q => c_63 ((nI_ltI (a := 6) (b := z - pcF 8 v) (by omega) (by omega)).mpr (by omega))
                  refine lv_aload_n hx hb dX1_listLeast_66 rfl (lv_at hl 5 rfl) ?_
                  refine lv_iload hx hb dX1_listLeast_67 (lv_at hl 1 rfl) ?_
                  refine lv_aload_n hx hb dX1_listLeast_69 rfl (lv_at hl 3 rfl) ?_
                  refine va_get (D := D) (ci := 2) (v := .ref qo) (C := RX1) (T := TX1) (N := 2) hx hb hts iX1 hown hK hP 0 rfl rfl 1 (by decide) (hts (.fieldLink RX1 15 "LeastSets$Family" "least" "[J") (by decide +kernel)) (fun _ h9 => h9) rfl dX1_listLeast_70 ?_
                  refine lv_iload hx hb dX1_listLeast_73 (lv_at hl 1 rfl) ?_
                  refine r_lald hx hb hK hP 2 2 rfl rfl v (by omega) (by omega) dX1_listLeast_75 ?_
                  refine va_getsN (host := "LeastSets") hx hb hE.2.2.2.1 hS hown (va_Nw.use rfl (hE.1 _ (List.mem_of_getElem? (i := 7) rfl))) (fun _ h9 => h9) dX1_listLeast_76 ?_
                  refine lv_iload hx hb dX1_listLeast_79 (lv_at hl 0 rfl) ?_
                  refine va_tl (v := .long (ps_ (z - pcF 8 v))) hx hb hE.2.2.2.2 hS (vp_in_nI (by omega) (by omega)) (by rw [nI_clamp (by omega)]) dX1_listLeast_81 ?_
                  refine lv_land hx hb dX1_listLeast_82 ?_
                  have hPc := hP.sub (ws' := [(ql, .inr (3, [.ref qs, .int (nI (L).length)])), (qs, .inl (cI, 3432, .inl Sx))]) [3, 4] rfl
                  have hDc := hD.sub (ws' := [(ql, .inr (3, [.ref qs, .int (nI (L).length)])), (qs, .inl (cI, 3432, .inl Sx))]) [3, 4] (by decide) rfl
                  have hFc := va_free (wc := [(ql, .inr (3, [.ref qs, .int (nI (L).length)])), (qs, .inl (cI, 3432, .inl Sx))]) hD hS hA [3, 4] rfl
                  refine va_callv (va_runV (As := [.int (nI v), .long ((Le v) &&& (ps_ (z - pcF 8 v)))]) (rest := []) ⟨hx, hb, hml, hown, hts⟩ (c_X2_addAll l D cI cZ cJ t1 t2 _ ql qs L Sx hX v (by omega) ((Le v) &&& (ps_ (z - pcF 8 v))) (by rw [eL, List.append_assoc, ← word_yes hP0 (by omega) hge (by omega) (hLe v c_42)]; exact Nat.le_trans (ls_room (by omega) (by omega)) hroom)) (cwV 2 hts gX1_listLeast_X2_addAll rfl rfl rfl (by decide +kernel) ⟨Nat.le_of_ble_eq_true rfl, Nat.le_of_ble_eq_true rfl⟩) ⟨wr_blind, va_recv hK hP (ci := 3) (q0 := 3) rfl rfl, wr_pre hPc hDc hK hE hS hFc [0, 1, 2] rfl⟩ rfl rfl hl.1 rfl (lv_room (Nat.le_of_ble_eq_true rfl)) dX1_listLeast_83 ⟨Nat.le_of_ble_eq_true rfl, Nat.le_of_ble_eq_true rfl⟩) hS (fun q _ h => hFc q h) hFc (fun u_83 t H locs ht hvm hw_83 hB hz1 hk1 hS => ?_)
                  obtain ⟨hP1, hK1, hD1⟩ := hB
                  rw [ht] at hP1
                  obtain ⟨hP, hD⟩ := va_join (wr := [(qm, .inr (2, [.ref qn, .ref qo])), (qn, .inl (cJ, 256, .inr (.inl Mb))), (qo, .inl (cJ, 256, .inr (.inl Le)))]) (w1 := [(ql, .inr (3, [.ref qs, .int (nI (L ++ ml_ v (Le v &&& ps_ (z - pcF 8 v))).length)])), (qs, .inl (cI, 3432, .inl u_83))]) hP hD [3, 4] [0, 1, 2] rfl rfl (by decide) (by decide) hk1 hFc hP1 hD1
                  have hP : va_P D vwCl [(qm, .inr (2, [.ref qn, .ref qo])), (qn, .inl (cJ, 256, .inr (.inl Mb))), (qo, .inl (cJ, 256, .inr (.inl Le))), (ql, .inr (3, [.ref qs, .int (nI (L ++ ml_ v (Le v &&& ps_ (z - pcF 8 v))).length)])), (qs, .inl (cI, 3432, .inl u_83))] H := hP.sub [0, 1, 2, 3, 4] rfl
                  have hD : va_D A [(qm, .inr (2, [.ref qn, .ref qo])), (qn, .inl (cJ, 256, .inr (.inl Mb))), (qo, .inl (cJ, 256, .inr (.inl Le))), (ql, .inr (3, [.ref qs, .int (nI (L ++ ml_ v (Le v &&& ps_ (z - pcF 8 v))).length)])), (qs, .inl (cI, 3432, .inl u_83))] := hD.sub [0, 1, 2, 3, 4] (by decide) rfl
                  clear hPc hDc hFc hP1 hK1 hD1 hk1 hz1
                  refine lv_iinc (v := (nI (v + 1))) (lv' := [(4, .int (nI (v + 1))), (5, .int (nI (z - pcF 8 v))), (3, .int (nI z)), (0, .ref qm), (1, .int (nI words)), (2, .ref ql)]) hx hb dX1_listLeast_86 hl (k := 1) rfl (nI_inc _) (by decide) rfl (fun ls hl => ?_)
                  refine lv_goto (tgt := 39) hx hb dX1_listLeast_89 (by decide) ?_
                  exact ih2 (v + 1) _ _ H locs ls (by omega) (by omega) (by rw [word_yes hP0 (by omega) hge (by omega) (hLe v c_42), eL, List.append_assoc]) hw_83 hP hD hS (lv_sub hl [0, 2, 3, 4, 5] rfl)
        exact three (words + 1) 0 L Sx H locs ls (by omega) (Nat.zero_le _) (by rw [eL]; exact (List.append_nil _).symm) hX hP hD hS (lv_sub hl [0, 1, 2, 3, 4] rfl)
  have one : ∀ (d : Nat) (v : Nat) (Le : Nat → Int64) (H : Heap) (locs : List Loc) (ls : Array Slot), words < v + d → v ≤ words → (∀ b, b < v → ∀ j, j < 64 → (bl (Le b) j = true ↔ lst_ M (b * 64 + j))) → va_P D vwCl [(qm, .inr (2, [.ref qn, .ref qo])), (qn, .inl (cJ, 256, .inr (.inl Mb))), (qo, .inl (cJ, 256, .inr (.inl Le))), (ql, .inr (3, [.ref qs, .int (nI z)])), (qs, .inl (cI, 3432, .inl Sx))] H → va_D A [(qm, .inr (2, [.ref qn, .ref qo])), (qn, .inl (cJ, 256, .inr (.inl Mb))), (qo, .inl (cJ, 256, .inr (.inl Le))), (ql, .inr (3, [.ref qs, .int (nI z)])), (qs, .inl (cI, 3432, .inl Sx))] → va_S A s.heap H locs → lv_has ls 6 [(3, .int (nI v)), (0, .ref qm), (1, .int (nI words)), (2, .ref ql)] → W p l e (headSpec wsX1_listLeast ({ frames := 3, cells := 0, slots := 0, locals := 69 } : Room)).room s m ([.ref qm, .int (nI words), .ref ql] : List Value).toArray below meth c H locs 0 0 (MQ below (va_Qv (S := (Nat → Int64) × (Nat → Int32)) (fun u => sx_ u.2 (ls_ P 15 (words * 64))) (fun u => wd_ D [(cI, .int), (cZ, .boolean), (cJ, .long)] A [(qm, .inr (2, [.ref qn, .ref qo])), (qn, .inl (cJ, 256, .inr (.inl Mb))), (qo, .inl (cJ, 256, .inr (.inl u.1))), (ql, .inr (3, [.ref qs, .int (nI ((ls_ P 15 (words * 64))).length)])), (qs, .inl (cI, 3432, .inl u.2))]) A) ([.ref qm, .int (nI words), .ref ql] : List Value).toArray s 0 0 A) (F0 m 2 ls []) := by
    intro d
    induction d with
    | zero => intro v Le H locs ls h1 h2; omega
    | succ d ih =>
      intro v Le H locs ls h1 h2 hLe hP hD hS hl
      refine lv_iload_n hx hb dX1_listLeast_2 rfl (lv_at hl 0 rfl) ?_
      refine lv_iload_n hx hb dX1_listLeast_3 rfl (lv_at hl 2 rfl) ?_
      refine r_ige hx hb (tgt := 24) (by omega) (by omega) dX1_listLeast_4 (by decide) (fun c_4 => ?_) (fun c_4 => ?_)
      · refine lv_aload_n hx hb dX1_listLeast_24 rfl (lv_at hl 3 rfl) ?_
        have hPc := hP.sub (ws' := [(ql, .inr (3, [.ref qs, .int (nI z)]))]) [3] rfl
        have hDc := hD.sub (ws' := [(ql, .inr (3, [.ref qs, .int (nI z)]))]) [3] (by decide) rfl
        have hFc := va_free (wc := [(ql, .inr (3, [.ref qs, .int (nI z)]))]) hD hS hA [3] rfl
        refine va_callv (va_runV (As := []) (rest := []) ⟨hx, hb, hml, hown, hts⟩ (c_X2_clear l D cI cZ cJ t1 t2 _ ql qs z) (cwV 0 hts gX1_listLeast_X2_clear rfl rfl rfl (by decide +kernel) ⟨Nat.le_of_ble_eq_true rfl, Nat.le_of_ble_eq_true rfl⟩) ⟨wr_blind, va_recv hK hP (ci := 3) (q0 := 3) rfl rfl, wr_pre hPc hDc hK hE hS hFc [0, 1, 2] rfl⟩ rfl rfl hl.1 rfl (lv_room (Nat.le_of_ble_eq_true rfl)) dX1_listLeast_25 ⟨Nat.le_of_ble_eq_true rfl, Nat.le_of_ble_eq_true rfl⟩) hS (fun q _ h => hFc q h) hFc (fun u_25 t H locs ht hvm hw_25 hB hz1 hk1 hS => ?_)
        obtain ⟨hP1, hK1, hD1⟩ := hB
        rw [ht] at hP1
        obtain ⟨hP, hD⟩ := va_join (wr := [(qm, .inr (2, [.ref qn, .ref qo])), (qn, .inl (cJ, 256, .inr (.inl Mb))), (qo, .inl (cJ, 256, .inr (.inl Le))), (qs, .inl (cI, 3432, .inl Sx))]) (w1 := [(ql, .inr (3, [.ref qs, .int (nI 0)]))]) hP hD [3] [0, 1, 2, 4] rfl rfl (by decide) (by decide) hk1 hFc hP1 hD1
        have hP : va_P D vwCl [(qm, .inr (2, [.ref qn, .ref qo])), (qn, .inl (cJ, 256, .inr (.inl Mb))), (qo, .inl (cJ, 256, .inr (.inl Le))), (ql, .inr (3, [.ref qs, .int (nI 0)])), (qs, .inl (cI, 3432, .inl Sx))] H := hP.sub [0, 1, 2, 4, 3] rfl
        have hD : va_D A [(qm, .inr (2, [.ref qn, .ref qo])), (qn, .inl (cJ, 256, .inr (.inl Mb))), (qo, .inl (cJ, 256, .inr (.inl Le))), (ql, .inr (3, [.ref qs, .int (nI 0)])), (qs, .inl (cI, 3432, .inl Sx))] := hD.sub [0, 1, 2, 4, 3] (by decide) rfl
        clear hPc hDc hFc hP1 hK1 hD1 hk1 hz1
        refine lv_iconst (v := (nI 0)) hx hb dX1_listLeast_28 (by decide +kernel) ?_
        refine lv_istore_n (lv' := [(3, .int (nI 0)), (0, .ref qm), (1, .int (nI words)), (2, .ref ql)]) hx hb dX1_listLeast_29 rfl hl (by decide) rfl (fun ls hl => ?_)
        exact two 16 0 Le [] Sx H locs ls (by omega) (by omega) (fun b hb => hLe b (by omega)) rfl (sx_0 _) hP hD hS (lv_sub hl [0, 1, 2, 3] rfl)
      · refine lv_aload_n hx hb dX1_listLeast_7 rfl (lv_at hl 1 rfl) ?_
        refine va_get (D := D) (ci := 2) (v := .ref qo) (C := RX1) (T := TX1) (N := 2) hx hb hts iX1 hown hK hP 0 rfl rfl 1 (by decide) (hts (.fieldLink RX1 15 "LeastSets$Family" "least" "[J") (by decide +kernel)) (fun _ h9 => h9) rfl dX1_listLeast_8 ?_
        refine lv_iload_n hx hb dX1_listLeast_11 rfl (lv_at hl 0 rfl) ?_
        refine lv_aload_n hx hb dX1_listLeast_12 rfl (lv_at hl 1 rfl) ?_
        refine lv_iload_n hx hb dX1_listLeast_13 rfl (lv_at hl 0 rfl) ?_
        refine vp_callSl (va_runV (As := [.int (nI v)]) (rest := [.int (nI v), .ref qo]) ⟨hx, hb, hml, hown, hts⟩ (c_X1_leastOf l D cI cZ cJ qm qn qo t1 t2 Mb M words v hw c_4 hm) (cwV 1 hts gX1_listLeast_X1_leastOf rfl rfl rfl (by decide +kernel) ⟨Nat.le_of_ble_eq_true rfl, Nat.le_of_ble_eq_true rfl⟩) ⟨re_blind, va_recv hK hP (ci := 2) (q0 := 0) rfl rfl, re_pre (hP.sub (ws' := [(qm, .inr (2, [.ref qn, .ref qo])), (qn, .inl (cJ, 256, .inr (.inl Mb)))]) [0, 1] rfl) hK hE hS [0, 1, 2] rfl⟩ rfl rfl hl.1 rfl (lv_room (Nat.le_of_ble_eq_true rfl)) dX1_listLeast_14 ⟨Nat.le_of_ble_eq_true rfl, Nat.le_of_ble_eq_true rfl⟩).run (fun r_14 hr_14 => ?_)
        refine r_last hx hb hK hP hD hS 2 2 rfl rfl v (by omega) (by omega) dX1_listLeast_17 (fun H locs hP hD hS => ?_)
        have hP : va_P D vwCl [(qm, .inr (2, [.ref qn, .ref qo])), (qn, .inl (cJ, 256, .inr (.inl Mb))), (qo, .inl (cJ, 256, .inr (.inl (vp_updL Le v r_14)))), (ql, .inr (3, [.ref qs, .int (nI z)])), (qs, .inl (cI, 3432, .inl Sx))] H := hP
        have hD : va_D A [(qm, .inr (2, [.ref qn, .ref qo])), (qn, .inl (cJ, 256, .inr (.inl Mb))), (qo, .inl (cJ, 256, .inr (.inl (vp_updL Le v r_14)))), (ql, .inr (3, [.ref qs, .int (nI z)])), (qs, .inl (cI, 3432, .inl Sx))] := hD
        refine lv_iinc (v := (nI (v + 1))) (lv' := [(3, .int (nI (v + 1))), (0, .ref qm), (1, .int (nI words)), (2, .ref ql)]) hx hb dX1_listLeast_18 hl (k := 0) rfl (nI_inc _) (by decide) rfl (fun ls hl => ?_)
        refine lv_goto (tgt := 2) hx hb dX1_listLeast_21 (by decide) ?_
        exact ih (v + 1) _ H locs ls (by omega) (by omega) (up_lt (P := fun b x => ∀ j, j < 64 → (bl x j = true ↔ lst_ M (b * 64 + j))) rfl hLe hr_14) hP hD hS (lv_sub hl [0, 1, 2, 3] rfl)
  refine lv_iconst (v := (nI 0)) hx hb dX1_listLeast_0 (by decide +kernel) ?_
  refine lv_istore_n (lv' := [(3, .int (nI 0)), (0, .ref qm), (1, .int (nI words)), (2, .ref ql)]) hx hb dX1_listLeast_1 rfl hl (by decide) rfl (fun ls hl => ?_)
  exact one (words + 1) 0 Le s.heap [] ls (by omega) (Nat.zero_le _) (fun b hb => absurd hb (Nat.not_lt_zero b)) hP hD hS (lv_sub hl [0, 1, 2, 3] rfl)
end
section
/-! ===== the lists of causes and cures ===== -/
noncomputable def CL_ (n : Nat) (B Hd : Nat → Int32) (g : Nat) : List Nat := ls_ (cp_ n B Hd g) (n + 1) (2 ^ n)
noncomputable def QL_ (n : Nat) (B Hd Fx : Nat → Int32) (g : Nat) : List Nat := ls_ (qp_ n B Hd Fx g) (n + 1) (2 ^ n)
theorem CL_cls {n : Nat} (hn : n ≤ 14) (B Hd : Nat → Int32) (g : Nat) : ls_ (cp_ n B Hd g) 15 (nwd_ n * 64) = CL_ n B Hd g := by
  have h := nwd_lt n hn
  exact ls_both hn (fun s h => cp_iff.mp h) mc_hi h.2.2 (by omega)
theorem QL_cls {n : Nat} (hn : n ≤ 14) (B Hd Fx : Nat → Int32) (g : Nat) : ls_ (qp_ n B Hd Fx g) 15 (nwd_ n * 64) = QL_ n B Hd Fx g := by
  have h := nwd_lt n hn
  exact ls_both hn (fun s h => qp_iff.mp h) mq_hi h.2.2 (by omega)
theorem CL_len {n : Nat} (hn : n ≤ 14) (B Hd : Nat → Int32) (g : Nat) : (CL_ n B Hd g).length ≤ 3432 := ls_len (fun s h => cp_iff.mp h) mc_up (pow_le14 hn)
theorem QL_len {n : Nat} (hn : n ≤ 14) (B Hd Fx : Nat → Int32) (g : Nat) : (QL_ n B Hd Fx g).length ≤ 3432 := ls_len (fun s h => qp_iff.mp h) mq_up (pow_le14 hn)
/-- the n axioms and the goal are as they may be -/
def CO_ (n : Nat) (B Hd Fx : Nat → Int32) (g : Nat) : Prop := n ≤ 14 ∧ g < 24 ∧ (∀ a, a < n → uI_ (B a) < 16777216 ∧ uI_ (Hd a) < 24) ∧ ∀ a, a < n → Fx a = 0 ∨ Fx a = 1
/-- where a list is known, it is the list -/
def IV_ (n : Nat) (B Hd Fx : Nat → Int32) (g z1 : Nat) (S1 : Nat → Int32) (z2 : Nat) (S2 : Nat → Int32) (ck qk : Int32) : Prop :=
  (ck = 0 ∨ ck = 1) ∧ (qk = 0 ∨ qk = 1) ∧ (ck = 1 → z1 = (CL_ n B Hd g).length ∧ sx_ S1 (CL_ n B Hd g)) ∧ (qk = 1 → z2 = (QL_ n B Hd Fx g).length ∧ sx_ S2 (QL_ n B Hd Fx g))
abbrev Jk_ : Type := (Nat → Int64) × (Nat → Int64) × (Nat → Int64) × (Nat → Int64) × Nat × (Nat → Int32) × Nat × (Nat → Int32) × Int32 × Int32
theorem IV_0 {n : Nat} {B Hd Fx : Nat → Int32} {g z1 : Nat} {S1 : Nat → Int32} {z2 : Nat} {S2 : Nat → Int32} : IV_ n B Hd Fx g z1 S1 z2 S2 0 0 := ⟨Or.inl rfl, Or.inl rfl, fun h => absurd h (by decide), fun h => absurd h (by decide)⟩
theorem mb_next {M : Nat → Prop} {f : Nat → Int64} {v : Nat} {x : Int64} (h : ∀ w, w < v → ∀ j, j < 64 → (bl (f w) j = true ↔ M (w * 64 + j))) (hx : ∀ j, j < 64 → (bl x j = true ↔ M (v * 64 + j))) : ∀ w, w < v + 1 → ∀ j, j < 64 → (bl (vp_updL f v x w) j = true ↔ M (w * 64 + j)) :=
  up_lt (P := fun w y => ∀ j, j < 64 → (bl y j = true ↔ M (w * 64 + j))) rfl h hx
theorem not_word {M : Nat → Prop} {v : Nat} {x : Int64} (h : ∀ j, j < 64 → (bl x j = true ↔ ¬ M (v * 64 + j))) : ∀ j, j < 64 → (bl (x ^^^ (-1)) j = true ↔ M (v * 64 + j)) := fun j hj => by
  rw [l_not x hj, Bool.not_eq_true', ← Bool.not_eq_true, h j hj, Classical.not_not]
end
section
set_option maxHeartbeats 4000000 in
set_option maxRecDepth 100000 in
/-- forgetLists() -/
theorem c_X3_forgetLists (l : Launch) (D : va_G) (cI cZ cJ : ClassId) (t1 t2 sz : Nat) (qx qa qb qh qw qf qu qg qm qn qo ql qs qp qr : Nat) (n : Nat) (Bd Hd Wt Fx : Nat → Int32) (g : Nat) (U G Mb Le : Nat → Int64) (z1 : Nat) (S1 : Nat → Int32) (z2 : Nat) (S2 : Nat → Int32) (ck qk : Int32) : Met l yX3_forgetLists wsX3_forgetLists ({ frames := 0, cells := 0, slots := 0, locals := 0 } : Room) (va_Pc [.ref qx] (wr_ D [(cI, .int), (cZ, .boolean), (cJ, .long)] [(qx, .inr (4, [.ref qa, .ref qm, .ref ql, .ref qp, .int (nI g), .int ck, .int qk]))] t1 t2 sz)) (va_Qv (S := Unit) (fun _ => True) (fun _ => wd_ D [(cI, .int), (cZ, .boolean), (cJ, .long)] (va_A [(qx, .inr (4, [.ref qa, .ref qm, .ref ql, .ref qp, .int (nI g), .int ck, .int qk]))] sz) [(qx, .inr (4, [.ref qa, .ref qm, .ref ql, .ref qp, .int (nI g), .int 0, .int 0]))]) (va_A [(qx, .inr (4, [.ref qa, .ref qm, .ref ql, .ref qp, .int (nI g), .int ck, .int qk]))] sz)) 0 0 (va_A [(qx, .inr (4, [.ref qa, .ref qm, .ref ql, .ref qp, .int (nI g), .int ck, .int qk]))] sz) := by
  refine Met.ofW (cc := cX3_forgetLists) (maxL := 1) (ret := none) (by decide) rfl ?_
  intro p e s m args below meth c s₁ B hml hv
  obtain ⟨rfl, hsz, hP, hK, hD0, hE⟩ := hv
  have hx := B.exec
  have hb := B.bytes
  have hr := B.returns
  have hts := atoms_spec (ws := wsX3_forgetLists) B.pre
  have hown : s.vm.findClass RX3 = some m.cls := findClass_of_methodNamed B.named
  have hlocks := B.notSynchronized
  have iX3 : ∀ w ∈ u_ws RX3 TX3 7, w ∈ wsX3_forgetLists := by decide +kernel
  subst hsz
  have hD := hD0.self (sz := s.heap.size)
  generalize hAe : va_A [(qx, .inr (4, [.ref qa, .ref qm, .ref ql, .ref qp, .int (nI g), .int ck, .int qk]))] s.heap.size = A at hD hE ⊢
  have hA : ∀ q : Nat, s.heap.size ≤ q → A q := fun q h => by rw [← hAe]; exact Or.inr h
  have hS : va_S A s.heap s.heap [] := va_S.rf
  have hl := lv_entry ([.ref qx]) (n := 1) (Nat.le_of_ble_eq_true rfl)
  rw [lg_entry_eq]
  generalize (lg_sl ([.ref qx]) ++ List.replicate (1 - (lg_sl ([.ref qx])).length) Slot.unset).toArray = ls at hl ⊢
  have hl : lv_has ls 1 [(0, .ref qx)] := hl
  refine lv_aload_n hx hb dX3_forgetLists_0 rfl (lv_at hl 0 rfl) ?_
  refine lv_iconst (v := 0) hx hb dX3_forgetLists_1 (by decide +kernel) ?_
  refine va_put (D := D) (ci := 4) (v := .int 0) (ty := .boolean) (C := RX3) (T := TX3) (N := 7) hx hb hts iX3 tyX3 tyX3_ok nmX3 hown hK hP hD hS 0 rfl rfl 5 (by decide) (hts (.fieldLink RX3 37 "LeastSets" "causesKnown" "Z") (by decide +kernel)) (fun _ h9 => h9) rfl (by decide +kernel) rfl rfl (Nat.le_of_ble_eq_true rfl) dX3_forgetLists_2 (fun H locs hP hD hS => ?_)
  have hP : va_P D vwCl [(qx, .inr (4, [.ref qa, .ref qm, .ref ql, .ref qp, .int (nI g), .int 0, .int qk]))] H := hP
  have hD : va_D A [(qx, .inr (4, [.ref qa, .ref qm, .ref ql, .ref qp, .int (nI g), .int 0, .int qk]))] := hD
  refine lv_aload_n hx hb dX3_forgetLists_5 rfl (lv_at hl 0 rfl) ?_
  refine lv_iconst (v := 0) hx hb dX3_forgetLists_6 (by decide +kernel) ?_
  refine va_put (D := D) (ci := 4) (v := .int 0) (ty := .boolean) (C := RX3) (T := TX3) (N := 7) hx hb hts iX3 tyX3 tyX3_ok nmX3 hown hK hP hD hS 0 rfl rfl 6 (by decide) (hts (.fieldLink RX3 41 "LeastSets" "curesKnown" "Z") (by decide +kernel)) (fun _ h9 => h9) rfl (by decide +kernel) rfl rfl (Nat.le_of_ble_eq_true rfl) dX3_forgetLists_7 (fun H locs hP hD hS => ?_)
  have hP : va_P D vwCl [(qx, .inr (4, [.ref qa, .ref qm, .ref ql, .ref qp, .int (nI g), .int 0, .int 0]))] H := hP
  have hD : va_D A [(qx, .inr (4, [.ref qa, .ref qm, .ref ql, .ref qp, .int (nI g), .int 0, .int 0]))] := hD
  exact W.vret hx hb hr (fun t ht hW => ⟨⟨(), rfl, trivial, by rw [ht]; exact hP, va_K.moved hW.alike hK, hD⟩, hS.F ht⟩) hS.2.2 dX3_forgetLists_10
set_option maxHeartbeats 4000000 in
set_option maxRecDepth 100000 in
/-- X3_knownCauses -/
theorem c_X3_knownCauses (l : Launch) (D : va_G) (cI cZ cJ : ClassId) (t1 t2 sz : Nat) (qx qa qb qh qw qf qu qg qm qn qo ql qs qp qr : Nat) (n : Nat) (Bd Hd Wt Fx : Nat → Int32) (g : Nat) (U G Mb Le : Nat → Int64) (z1 : Nat) (S1 : Nat → Int32) (z2 : Nat) (S2 : Nat → Int32) (ck qk : Int32) (hn : n ≤ 14) (hg : g < 24) (hok : ∀ a, a < n → uI_ (Bd a) < 16777216 ∧ uI_ (Hd a) < 24) (hf : ck = 0 ∨ ck = 1) (hc : ck = 1 → z1 = (CL_ n Bd Hd g).length ∧ sx_ S1 (CL_ n Bd Hd g)) : Met l yX3_knownCauses wsX3_knownCauses ({ frames := 5, cells := 0, slots := 0, locals := 119 } : Room) (va_Pc [.ref qx] (wr_ D [(cI, .int), (cZ, .boolean), (cJ, .long)] [(qx, .inr (4, [.ref qa, .ref qm, .ref ql, .ref qp, .int (nI g), .int ck, .int qk])), (qa, .inr (1, [.ref qb, .ref qh, .ref qw, .ref qf, .int (nI n), .ref qu, .ref qg])), (qb, .inl (cI, 14, .inl Bd)), (qh, .inl (cI, 14, .inl Hd)), (qu, .inl (cJ, 14, .inr (.inl U))), (qg, .inl (cJ, 24, .inr (.inl G))), (qm, .inr (2, [.ref qn, .ref qo])), (qn, .inl (cJ, 256, .inr (.inl Mb))), (qo, .inl (cJ, 256, .inr (.inl Le))), (ql, .inr (3, [.ref qs, .int (nI z1)])), (qs, .inl (cI, 3432, .inl S1))] t1 t2 sz)) (va_Qr (S := (Nat → Int64) × (Nat → Int64) × (Nat → Int64) × (Nat → Int64) × (Nat → Int32)) (fun u => sx_ u.2.2.2.2 (CL_ n Bd Hd g)) (fun u a t => a = ql ∧ wd_ D [(cI, .int), (cZ, .boolean), (cJ, .long)] (va_A [(qx, .inr (4, [.ref qa, .ref qm, .ref ql, .ref qp, .int (nI g), .int ck, .int qk])), (qa, .inr (1, [.ref qb, .ref qh, .ref qw, .ref qf, .int (nI n), .ref qu, .ref qg])), (qb, .inl (cI, 14, .inl Bd)), (qh, .inl (cI, 14, .inl Hd)), (qu, .inl (cJ, 14, .inr (.inl U))), (qg, .inl (cJ, 24, .inr (.inl G))), (qm, .inr (2, [.ref qn, .ref qo])), (qn, .inl (cJ, 256, .inr (.inl Mb))), (qo, .inl (cJ, 256, .inr (.inl Le))), (ql, .inr (3, [.ref qs, .int (nI z1)])), (qs, .inl (cI, 3432, .inl S1))] sz) [(qx, .inr (4, [.ref qa, .ref qm, .ref ql, .ref qp, .int (nI g), .int 1, .int qk])), (qa, .inr (1, [.ref qb, .ref qh, .ref qw, .ref qf, .int (nI n), .ref qu, .ref qg])), (qb, .inl (cI, 14, .inl Bd)), (qh, .inl (cI, 14, .inl Hd)), (qu, .inl (cJ, 14, .inr (.inl u.1))), (qg, .inl (cJ, 24, .inr (.inl u.2.1))), (qm, .inr (2, [.ref qn, .ref qo])), (qn, .inl (cJ, 256, .inr (.inl u.2.2.1))), (qo, .inl (cJ, 256, .inr (.inl u.2.2.2.1))), (ql, .inr (3, [.ref qs, .int (nI ((CL_ n Bd Hd g).length))])), (qs, .inl (cI, 3432, .inl u.2.2.2.2))] t) (va_A [(qx, .inr (4, [.ref qa, .ref qm, .ref ql, .ref qp, .int (nI g), .int ck, .int qk])), (qa, .inr (1, [.ref qb, .ref qh, .ref qw, .ref qf, .int (nI n), .ref qu, .ref qg])), (qb, .inl (cI, 14, .inl Bd)), (qh, .inl (cI, 14, .inl Hd)), (qu, .inl (cJ, 14, .inr (.inl U))), (qg, .inl (cJ, 24, .inr (.inl G))), (qm, .inr (2, [.ref qn, .ref qo])), (qn, .inl (cJ, 256, .inr (.inl Mb))), (qo, .inl (cJ, 256, .inr (.inl Le))), (ql, .inr (3, [.ref qs, .int (nI z1)])), (qs, .inl (cI, 3432, .inl S1))] sz)) 0 0 (va_A [(qx, .inr (4, [.ref qa, .ref qm, .ref ql, .ref qp, .int (nI g), .int ck, .int qk])), (qa, .inr (1, [.ref qb, .ref qh, .ref qw, .ref qf, .int (nI n), .ref qu, .ref qg])), (qb, .inl (cI, 14, .inl Bd)), (qh, .inl (cI, 14, .inl Hd)), (qu, .inl (cJ, 14, .inr (.inl U))), (qg, .inl (cJ, 24, .inr (.inl G))), (qm, .inr (2, [.ref qn, .ref qo])), (qn, .inl (cJ, 256, .inr (.inl Mb))), (qo, .inl (cJ, 256, .inr (.inl Le))), (ql, .inr (3, [.ref qs, .int (nI z1)])), (qs, .inl (cI, 3432, .inl S1))] sz) := by
  refine Met.ofW (cc := cX3_knownCauses) (maxL := 3) (ret := (some (.object "LeastSets$SetList"))) (by decide) rfl ?_
  intro p e s m args below meth c s₁ B hml hv
  obtain ⟨rfl, hsz, hP, hK, hD0, hE⟩ := hv
  have hx := B.exec
  have hb := B.bytes
  have hr := B.returns
  have hts := atoms_spec (ws := wsX3_knownCauses) B.pre
  have hown : s.vm.findClass RX3 = some m.cls := findClass_of_methodNamed B.named
  have hlocks := B.notSynchronized
  have iX3 : ∀ w ∈ u_ws RX3 TX3 7, w ∈ wsX3_knownCauses := by decide +kernel
  have iX0 : ∀ w ∈ u_ws RX0 TX0 7, w ∈ wsX3_knownCauses := by decide +kernel
  have iX1 : ∀ w ∈ u_ws RX1 TX1 2, w ∈ wsX3_knownCauses := by decide +kernel
  have iX2 : ∀ w ∈ u_ws RX2 TX2 2, w ∈ wsX3_knownCauses := by decide +kernel
  subst hsz
  have hD := hD0.self (sz := s.heap.size)
  generalize hAe : va_A [(qx, .inr (4, [.ref qa, .ref qm, .ref ql, .ref qp, .int (nI g), .int ck, .int qk])), (qa, .inr (1, [.ref qb, .ref qh, .ref qw, .ref qf, .int (nI n), .ref qu, .ref qg])), (qb, .inl (cI, 14, .inl Bd)), (qh, .inl (cI, 14, .inl Hd)), (qu, .inl (cJ, 14, .inr (.inl U))), (qg, .inl (cJ, 24, .inr (.inl G))), (qm, .inr (2, [.ref qn, .ref qo])), (qn, .inl (cJ, 256, .inr (.inl Mb))), (qo, .inl (cJ, 256, .inr (.inl Le))), (ql, .inr (3, [.ref qs, .int (nI z1)])), (qs, .inl (cI, 3432, .inl S1))] s.heap.size = A at hD hE ⊢
  have hA : ∀ q : Nat, s.heap.size ≤ q → A q := fun q h => by rw [← hAe]; exact Or.inr h
  have hS : va_S A s.heap s.heap [] := va_S.rf
  have hwd := nwd_lt n hn
  have hl := lv_entry ([.ref qx]) (n := 3) (Nat.le_of_ble_eq_true rfl)
  rw [lg_entry_eq]
  generalize (lg_sl ([.ref qx]) ++ List.replicate (3 - (lg_sl ([.ref qx])).length) Slot.unset).toArray = ls at hl ⊢
  have hl : lv_has ls 3 [(0, .ref qx)] := hl
  have loop : ∀ (d : Nat) (v : Nat) (U G Mb : Nat → Int64) (H : Heap) (locs : List Loc) (ls : Array Slot), nwd_ n < v + d → v ≤ nwd_ n → (∀ w, w < v → ∀ j, j < 64 → (bl (Mb w) j = true ↔ mc_ n Bd Hd g (w * 64 + j))) → va_P D vwCl [(qx, .inr (4, [.ref qa, .ref qm, .ref ql, .ref qp, .int (nI g), .int ck, .int qk])), (qa, .inr (1, [.ref qb, .ref qh, .ref qw, .ref qf, .int (nI n), .ref qu, .ref qg])), (qb, .inl (cI, 14, .inl Bd)), (qh, .inl (cI, 14, .inl Hd)), (qu, .inl (cJ, 14, .inr (.inl U))), (qg, .inl (cJ, 24, .inr (.inl G))), (qm, .inr (2, [.ref qn, .ref qo])), (qn, .inl (cJ, 256, .inr (.inl Mb))), (qo, .inl (cJ, 256, .inr (.inl Le))), (ql, .inr (3, [.ref qs, .int (nI z1)])), (qs, .inl (cI, 3432, .inl S1))] H → va_D A [(qx, .inr (4, [.ref qa, .ref qm, .ref ql, .ref qp, .int (nI g), .int ck, .int qk])), (qa, .inr (1, [.ref qb, .ref qh, .ref qw, .ref qf, .int (nI n), .ref qu, .ref qg])), (qb, .inl (cI, 14, .inl Bd)), (qh, .inl (cI, 14, .inl Hd)), (qu, .inl (cJ, 14, .inr (.inl U))), (qg, .inl (cJ, 24, .inr (.inl G))), (qm, .inr (2, [.ref qn, .ref qo])), (qn, .inl (cJ, 256, .inr (.inl Mb))), (qo, .inl (cJ, 256, .inr (.inl Le))), (ql, .inr (3, [.ref qs, .int (nI z1)])), (qs, .inl (cI, 3432, .inl S1))] → va_S A s.heap H locs → lv_has ls 3 [(2, .int (nI v)), (1, .int (nI (nwd_ n))), (0, .ref qx)] → W p l e (headSpec wsX3_knownCauses ({ frames := 5, cells := 0, slots := 0, locals := 119 } : Room)).room s m ([.ref qx] : List Value).toArray below meth c H locs 0 0 (MQ below (va_Qr (S := (Nat → Int64) × (Nat → Int64) × (Nat → Int64) × (Nat → Int64) × (Nat → Int32)) (fun u => sx_ u.2.2.2.2 (CL_ n Bd Hd g)) (fun u a t => a = ql ∧ wd_ D [(cI, .int), (cZ, .boolean), (cJ, .long)] A [(qx, .inr (4, [.ref qa, .ref qm, .ref ql, .ref qp, .int (nI g), .int 1, .int qk])), (qa, .inr (1, [.ref qb, .ref qh, .ref qw, .ref qf, .int (nI n), .ref qu, .ref qg])), (qb, .inl (cI, 14, .inl Bd)), (qh, .inl (cI, 14, .inl Hd)), (qu, .inl (cJ, 14, .inr (.inl u.1))), (qg, .inl (cJ, 24, .inr (.inl u.2.1))), (qm, .inr (2, [.ref qn, .ref qo])), (qn, .inl (cJ, 256, .inr (.inl u.2.2.1))), (qo, .inl (cJ, 256, .inr (.inl u.2.2.2.1))), (ql, .inr (3, [.ref qs, .int (nI ((CL_ n Bd Hd g).length))])), (qs, .inl (cI, 3432, .inl u.2.2.2.2))] t) A) ([.ref qx] : List Value).toArray s 0 0 A) (F0 m 17 ls []) := by
    intro d
    induction d with
    | zero => intro v U G Mb H locs ls h1 h2; omega
    | succ d ih =>
      intro v U G Mb H locs ls h1 h2 hM hP hD hS hl
      refine lv_iload_n hx hb dX3_knownCauses_17 rfl (lv_at hl 0 rfl) ?_
      refine lv_iload_n hx hb dX3_knownCauses_18 rfl (lv_at hl 1 rfl) ?_
      refine r_ige hx hb (tgt := 49) (by omega) (by omega) dX3_knownCauses_19 (by decide) (fun c_19 => ?_) (fun c_19 => ?_)
      · refine lv_aload_n hx hb dX3_knownCauses_49 rfl (lv_at hl 2 rfl) ?_
        refine va_get (D := D) (ci := 4) (v := .ref qm) (C := RX3) (T := TX3) (N := 7) hx hb hts iX3 hown hK hP 0 rfl rfl 1 (by decide) (hts (.fieldLink RX3 19 "LeastSets" "family" "LLeastSets$Family;") (by decide +kernel)) (fun _ h9 => h9) rfl dX3_knownCauses_50 ?_
        refine lv_iload_n hx hb dX3_knownCauses_53 rfl (lv_at hl 1 rfl) ?_
        refine lv_aload_n hx hb dX3_knownCauses_54 rfl (lv_at hl 2 rfl) ?_
        refine va_get (D := D) (ci := 4) (v := .ref ql) (C := RX3) (T := TX3) (N := 7) hx hb hts iX3 hown hK hP 0 rfl rfl 2 (by decide) (hts (.fieldLink RX3 26 "LeastSets" "causeList" "LLeastSets$SetList;") (by decide +kernel)) (fun _ h9 => h9) rfl dX3_knownCauses_55 ?_
        have hPc := hP.sub (ws' := [(qm, .inr (2, [.ref qn, .ref qo])), (qn, .inl (cJ, 256, .inr (.inl Mb))), (qo, .inl (cJ, 256, .inr (.inl Le))), (ql, .inr (3, [.ref qs, .int (nI z1)])), (qs, .inl (cI, 3432, .inl S1))]) [6, 7, 8, 9, 10] rfl
        have hDc := hD.sub (ws' := [(qm, .inr (2, [.ref qn, .ref qo])), (qn, .inl (cJ, 256, .inr (.inl Mb))), (qo, .inl (cJ, 256, .inr (.inl Le))), (ql, .inr (3, [.ref qs, .int (nI z1)])), (qs, .inl (cI, 3432, .inl S1))]) [6, 7, 8, 9, 10] (by decide) rfl
        have hFc := va_free (wc := [(qm, .inr (2, [.ref qn, .ref qo])), (qn, .inl (cJ, 256, .inr (.inl Mb))), (qo, .inl (cJ, 256, .inr (.inl Le))), (ql, .inr (3, [.ref qs, .int (nI z1)])), (qs, .inl (cI, 3432, .inl S1))]) hD hS hA [6, 7, 8, 9, 10] rfl
        refine va_callv (va_runV (As := [.int (nI (nwd_ n)), .ref ql]) (rest := []) ⟨hx, hb, hml, hown, hts⟩ (c_X1_listLeast l D cI cZ cJ t1 t2 _ qm qn qo ql qs Mb Le z1 S1 (mc_ n Bd Hd g) (cp_ n Bd Hd g) (fun s => cp_iff) mc_up (nwd_ n) hwd.1 (fun w hw => hM w (by omega))) (cwV 2 hts gX3_knownCauses_X1_listLeast rfl rfl rfl (by decide +kernel) ⟨Nat.le_of_ble_eq_true rfl, Nat.le_of_ble_eq_true rfl⟩) ⟨wr_blind, va_recv hK hP (ci := 2) (q0 := 6) rfl rfl, wr_pre hPc hDc hK hE hS hFc [0, 1, 2] rfl⟩ rfl rfl hl.1 rfl (lv_room (Nat.le_of_ble_eq_true rfl)) dX3_knownCauses_58 ⟨Nat.le_of_ble_eq_true rfl, Nat.le_of_ble_eq_true rfl⟩) hS (fun q _ h => hFc q h) hFc (fun u_58 t H locs ht hvm hw_58 hB hz1 hk1 hS => ?_)
        obtain ⟨hP1, hK1, hD1⟩ := hB
        rw [ht] at hP1
        obtain ⟨hP, hD⟩ := va_join (wr := [(qx, .inr (4, [.ref qa, .ref qm, .ref ql, .ref qp, .int (nI g), .int ck, .int qk])), (qa, .inr (1, [.ref qb, .ref qh, .ref qw, .ref qf, .int (nI n), .ref qu, .ref qg])), (qb, .inl (cI, 14, .inl Bd)), (qh, .inl (cI, 14, .inl Hd)), (qu, .inl (cJ, 14, .inr (.inl U))), (qg, .inl (cJ, 24, .inr (.inl G)))]) (w1 := [(qm, .inr (2, [.ref qn, .ref qo])), (qn, .inl (cJ, 256, .inr (.inl Mb))), (qo, .inl (cJ, 256, .inr (.inl u_58.1))), (ql, .inr (3, [.ref qs, .int (nI (ls_ (cp_ n Bd Hd g) 15 (nwd_ n * 64)).length)])), (qs, .inl (cI, 3432, .inl u_58.2))]) hP hD [6, 7, 8, 9, 10] [0, 1, 2, 3, 4, 5] rfl rfl (by decide) (by decide) hk1 hFc hP1 hD1
        have hP : va_P D vwCl [(qx, .inr (4, [.ref qa, .ref qm, .ref ql, .ref qp, .int (nI g), .int ck, .int qk])), (qa, .inr (1, [.ref qb, .ref qh, .ref qw, .ref qf, .int (nI n), .ref qu, .ref qg])), (qb, .inl (cI, 14, .inl Bd)), (qh, .inl (cI, 14, .inl Hd)), (qu, .inl (cJ, 14, .inr (.inl U))), (qg, .inl (cJ, 24, .inr (.inl G))), (qm, .inr (2, [.ref qn, .ref qo])), (qn, .inl (cJ, 256, .inr (.inl Mb))), (qo, .inl (cJ, 256, .inr (.inl u_58.1))), (ql, .inr (3, [.ref qs, .int (nI (ls_ (cp_ n Bd Hd g) 15 (nwd_ n * 64)).length)])), (qs, .inl (cI, 3432, .inl u_58.2))] H := hP.sub [0, 1, 2, 3, 4, 5, 6, 7, 8, 9, 10] rfl
        have hD : va_D A [(qx, .inr (4, [.ref qa, .ref qm, .ref ql, .ref qp, .int (nI g), .int ck, .int qk])), (qa, .inr (1, [.ref qb, .ref qh, .ref qw, .ref qf, .int (nI n), .ref qu, .ref qg])), (qb, .inl (cI, 14, .inl Bd)), (qh, .inl (cI, 14, .inl Hd)), (qu, .inl (cJ, 14, .inr (.inl U))), (qg, .inl (cJ, 24, .inr (.inl G))), (qm, .inr (2, [.ref qn, .ref qo])), (qn, .inl (cJ, 256, .inr (.inl Mb))), (qo, .inl (cJ, 256, .inr (.inl u_58.1))), (ql, .inr (3, [.ref qs, .int (nI (ls_ (cp_ n Bd Hd g) 15 (nwd_ n * 64)).length)])), (qs, .inl (cI, 3432, .inl u_58.2))] := hD.sub [0, 1, 2, 3, 4, 5, 6, 7, 8, 9, 10] (by decide) rfl
        clear hPc hDc hFc hP1 hK1 hD1 hk1 hz1
        have hX := hw_58
        rw [CL_cls hn] at hX hP hD
        refine lv_aload_n hx hb dX3_knownCauses_61 rfl (lv_at hl 2 rfl) ?_
        refine lv_iconst (v := 1) hx hb dX3_knownCauses_62 (by decide +kernel) ?_
        refine va_put (D := D) (ci := 4) (v := .int 1) (ty := .boolean) (C := RX3) (T := TX3) (N := 7) hx hb hts iX3 tyX3 tyX3_ok nmX3 hown hK hP hD hS 0 rfl rfl 5 (by decide) (hts (.fieldLink RX3 37 "LeastSets" "causesKnown" "Z") (by decide +kernel)) (fun _ h9 => h9) rfl (by decide +kernel) rfl rfl (Nat.le_of_ble_eq_true rfl) dX3_knownCauses_63 (fun H locs hP hD hS => ?_)
        have hP : va_P D vwCl [(qx, .inr (4, [.ref qa, .ref qm, .ref ql, .ref qp, .int (nI g), .int 1, .int qk])), (qa, .inr (1, [.ref qb, .ref qh, .ref qw, .ref qf, .int (nI n), .ref qu, .ref qg])), (qb, .inl (cI, 14, .inl Bd)), (qh, .inl (cI, 14, .inl Hd)), (qu, .inl (cJ, 14, .inr (.inl U))), (qg, .inl (cJ, 24, .inr (.inl G))), (qm, .inr (2, [.ref qn, .ref qo])), (qn, .inl (cJ, 256, .inr (.inl Mb))), (qo, .inl (cJ, 256, .inr (.inl u_58.1))), (ql, .inr (3, [.ref qs, .int (nI (CL_ n Bd Hd g).length)])), (qs, .inl (cI, 3432, .inl u_58.2))] H := hP
        have hD : va_D A [(qx, .inr (4, [.ref qa, .ref qm, .ref ql, .ref qp, .int (nI g), .int 1, .int qk])), (qa, .inr (1, [.ref qb, .ref qh, .ref qw, .ref qf, .int (nI n), .ref qu, .ref qg])), (qb, .inl (cI, 14, .inl Bd)), (qh, .inl (cI, 14, .inl Hd)), (qu, .inl (cJ, 14, .inr (.inl U))), (qg, .inl (cJ, 24, .inr (.inl G))), (qm, .inr (2, [.ref qn, .ref qo])), (qn, .inl (cJ, 256, .inr (.inl Mb))), (qo, .inl (cJ, 256, .inr (.inl u_58.1))), (ql, .inr (3, [.ref qs, .int (nI (CL_ n Bd Hd g).length)])), (qs, .inl (cI, 3432, .inl u_58.2))] := hD
        refine lv_aload_n hx hb dX3_knownCauses_66 rfl (lv_at hl 2 rfl) ?_
        refine va_get (D := D) (ci := 4) (v := .ref ql) (C := RX3) (T := TX3) (N := 7) hx hb hts iX3 hown hK hP 0 rfl rfl 2 (by decide) (hts (.fieldLink RX3 26 "LeastSets" "causeList" "LLeastSets$SetList;") (by decide +kernel)) (fun _ h9 => h9) rfl dX3_knownCauses_67 ?_
        exact W.aret (v := .ref ql) hx hb hr (Or.inl ⟨_, rfl⟩) (Or.inr ⟨_, rfl⟩) (fun t ht hW => ⟨⟨(U, G, Mb, u_58.1, u_58.2), _, rfl, hX, rfl, by rw [ht]; exact hP, va_K.moved hW.alike hK, hD⟩, hS.F ht⟩) hS.2.2 dX3_knownCauses_70
      · refine lv_aload_n hx hb dX3_knownCauses_22 rfl (lv_at hl 2 rfl) ?_
        refine va_get (D := D) (ci := 4) (v := .ref qm) (C := RX3) (T := TX3) (N := 7) hx hb hts iX3 hown hK hP 0 rfl rfl 1 (by decide) (hts (.fieldLink RX3 19 "LeastSets" "family" "LLeastSets$Family;") (by decide +kernel)) (fun _ h9 => h9) rfl dX3_knownCauses_23 ?_
        refine va_getN (D := D) (ci := 2) (v := .ref qn) (C := RX1) (T := TX1) (N := 2) (host := "LeastSets") hx hb hts iX1 hown hK hP 6 rfl rfl 0 (by decide) (va_Nw.use rfl (hE.1 _ (List.mem_of_getElem? (i := 3) rfl))) (fun _ h9 => h9) rfl dX3_knownCauses_26 ?_
        refine lv_iload_n hx hb dX3_knownCauses_29 rfl (lv_at hl 0 rfl) ?_
        refine lv_aload_n hx hb dX3_knownCauses_30 rfl (lv_at hl 2 rfl) ?_
        refine va_get (D := D) (ci := 4) (v := .ref qa) (C := RX3) (T := TX3) (N := 7) hx hb hts iX3 hown hK hP 0 rfl rfl 0 (by decide) (hts (.fieldLink RX3 12 "LeastSets" "rows" "LLeastSets$Axioms;") (by decide +kernel)) (fun _ h9 => h9) rfl dX3_knownCauses_31 ?_
        refine lv_aload_n hx hb dX3_knownCauses_34 rfl (lv_at hl 2 rfl) ?_
        refine va_get (D := D) (ci := 4) (v := .int (nI g)) (C := RX3) (T := TX3) (N := 7) hx hb hts iX3 hown hK hP 0 rfl rfl 4 (by decide) (hts (.fieldLink RX3 33 "LeastSets" "goalFact" "I") (by decide +kernel)) (fun _ h9 => h9) rfl dX3_knownCauses_35 ?_
        refine lv_iload_n hx hb dX3_knownCauses_38 rfl (lv_at hl 0 rfl) ?_
        have hPc := hP.sub (ws' := [(qa, .inr (1, [.ref qb, .ref qh, .ref qw, .ref qf, .int (nI n), .ref qu, .ref qg])), (qb, .inl (cI, 14, .inl Bd)), (qh, .inl (cI, 14, .inl Hd)), (qu, .inl (cJ, 14, .inr (.inl U))), (qg, .inl (cJ, 24, .inr (.inl G)))]) [1, 2, 3, 4, 5] rfl
        have hDc := hD.sub (ws' := [(qa, .inr (1, [.ref qb, .ref qh, .ref qw, .ref qf, .int (nI n), .ref qu, .ref qg])), (qb, .inl (cI, 14, .inl Bd)), (qh, .inl (cI, 14, .inl Hd)), (qu, .inl (cJ, 14, .inr (.inl U))), (qg, .inl (cJ, 24, .inr (.inl G)))]) [1, 2, 3, 4, 5] (by decide) rfl
        have hFc := va_free (wc := [(qa, .inr (1, [.ref qb, .ref qh, .ref qw, .ref qf, .int (nI n), .ref qu, .ref qg])), (qb, .inl (cI, 14, .inl Bd)), (qh, .inl (cI, 14, .inl Hd)), (qu, .inl (cJ, 14, .inr (.inl U))), (qg, .inl (cJ, 24, .inr (.inl G)))]) hD hS hA [1, 2, 3, 4, 5] rfl
        refine va_calll (va_runV (As := [.int (nI g), .int (nI v)]) (rest := [.int (nI v), .ref qn]) ⟨hx, hb, hml, hown, hts⟩ (c_X0_setsThatGive l D cI cZ cJ t1 t2 _ qa qb qh qw qf qu qg n hn Bd Hd U G g v hg (by omega) hok) (cwV 2 hts gX3_knownCauses_X0_setsThatGive rfl rfl rfl (by decide +kernel) ⟨Nat.le_of_ble_eq_true rfl, Nat.le_of_ble_eq_true rfl⟩) ⟨wr_blind, va_recv hK hP (ci := 1) (q0 := 1) rfl rfl, wr_pre hPc hDc hK hE hS hFc [0, 1, 2] rfl⟩ rfl rfl hl.1 rfl (lv_room (Nat.le_of_ble_eq_true rfl)) dX3_knownCauses_39 ⟨Nat.le_of_ble_eq_true rfl, Nat.le_of_ble_eq_true rfl⟩) hS (fun q _ h => hFc q h) hFc (fun r_39 u_39 t H locs ht hvm hw_39 hB hz1 hk1 hS => ?_)
        obtain ⟨hP1, hK1, hD1⟩ := hB
        rw [ht] at hP1
        obtain ⟨hP, hD⟩ := va_join (wr := [(qx, .inr (4, [.ref qa, .ref qm, .ref ql, .ref qp, .int (nI g), .int ck, .int qk])), (qm, .inr (2, [.ref qn, .ref qo])), (qn, .inl (cJ, 256, .inr (.inl Mb))), (qo, .inl (cJ, 256, .inr (.inl Le))), (ql, .inr (3, [.ref qs, .int (nI z1)])), (qs, .inl (cI, 3432, .inl S1))]) (w1 := [(qa, .inr (1, [.ref qb, .ref qh, .ref qw, .ref qf, .int (nI n), .ref qu, .ref qg])), (qb, .inl (cI, 14, .inl Bd)), (qh, .inl (cI, 14, .inl Hd)), (qu, .inl (cJ, 14, .inr (.inl u_39.1))), (qg, .inl (cJ, 24, .inr (.inl u_39.2)))]) hP hD [1, 2, 3, 4, 5] [0, 6, 7, 8, 9, 10] rfl rfl (by decide) (by decide) hk1 hFc hP1 hD1
        have hP : va_P D vwCl [(qx, .inr (4, [.ref qa, .ref qm, .ref ql, .ref qp, .int (nI g), .int ck, .int qk])), (qa, .inr (1, [.ref qb, .ref qh, .ref qw, .ref qf, .int (nI n), .ref qu, .ref qg])), (qb, .inl (cI, 14, .inl Bd)), (qh, .inl (cI, 14, .inl Hd)), (qu, .inl (cJ, 14, .inr (.inl u_39.1))), (qg, .inl (cJ, 24, .inr (.inl u_39.2))), (qm, .inr (2, [.ref qn, .ref qo])), (qn, .inl (cJ, 256, .inr (.inl Mb))), (qo, .inl (cJ, 256, .inr (.inl Le))), (ql, .inr (3, [.ref qs, .int (nI z1)])), (qs, .inl (cI, 3432, .inl S1))] H := hP.sub [0, 6, 7, 8, 9, 10, 1, 2, 3, 4, 5] rfl
        have hD : va_D A [(qx, .inr (4, [.ref qa, .ref qm, .ref ql, .ref qp, .int (nI g), .int ck, .int qk])), (qa, .inr (1, [.ref qb, .ref qh, .ref qw, .ref qf, .int (nI n), .ref qu, .ref qg])), (qb, .inl (cI, 14, .inl Bd)), (qh, .inl (cI, 14, .inl Hd)), (qu, .inl (cJ, 14, .inr (.inl u_39.1))), (qg, .inl (cJ, 24, .inr (.inl u_39.2))), (qm, .inr (2, [.ref qn, .ref qo])), (qn, .inl (cJ, 256, .inr (.inl Mb))), (qo, .inl (cJ, 256, .inr (.inl Le))), (ql, .inr (3, [.ref qs, .int (nI z1)])), (qs, .inl (cI, 3432, .inl S1))] := hD.sub [0, 6, 7, 8, 9, 10, 1, 2, 3, 4, 5] (by decide) rfl
        clear hPc hDc hFc hP1 hK1 hD1 hk1 hz1
        refine r_last hx hb hK hP hD hS 7 2 rfl rfl v (by omega) (by omega) dX3_knownCauses_42 (fun H locs hP hD hS => ?_)
        have hP : va_P D vwCl [(qx, .inr (4, [.ref qa, .ref qm, .ref ql, .ref qp, .int (nI g), .int ck, .int qk])), (qa, .inr (1, [.ref qb, .ref qh, .ref qw, .ref qf, .int (nI n), .ref qu, .ref qg])), (qb, .inl (cI, 14, .inl Bd)), (qh, .inl (cI, 14, .inl Hd)), (qu, .inl (cJ, 14, .inr (.inl u_39.1))), (qg, .inl (cJ, 24, .inr (.inl u_39.2))), (qm, .inr (2, [.ref qn, .ref qo])), (qn, .inl (cJ, 256, .inr (.inl (vp_updL Mb v r_39)))), (qo, .inl (cJ, 256, .inr (.inl Le))), (ql, .inr (3, [.ref qs, .int (nI z1)])), (qs, .inl (cI, 3432, .inl S1))] H := hP
        have hD : va_D A [(qx, .inr (4, [.ref qa, .ref qm, .ref ql, .ref qp, .int (nI g), .int ck, .int qk])), (qa, .inr (1, [.ref qb, .ref qh, .ref qw, .ref qf, .int (nI n), .ref qu, .ref qg])), (qb, .inl (cI, 14, .inl Bd)), (qh, .inl (cI, 14, .inl Hd)), (qu, .inl (cJ, 14, .inr (.inl u_39.1))), (qg, .inl (cJ, 24, .inr (.inl u_39.2))), (qm, .inr (2, [.ref qn, .ref qo])), (qn, .inl (cJ, 256, .inr (.inl (vp_updL Mb v r_39)))), (qo, .inl (cJ, 256, .inr (.inl Le))), (ql, .inr (3, [.ref qs, .int (nI z1)])), (qs, .inl (cI, 3432, .inl S1))] := hD
        refine lv_iinc (v := (nI (v + 1))) (lv' := [(2, .int (nI (v + 1))), (1, .int (nI (nwd_ n))), (0, .ref qx)]) hx hb dX3_knownCauses_43 hl (k := 0) rfl (nI_inc _) (by decide) rfl (fun ls hl => ?_)
        refine lv_goto (tgt := 17) hx hb dX3_knownCauses_46 (by decide) ?_
        exact ih (v + 1) _ _ _ H locs ls (by omega) (by omega) (mb_next hM (hw_39)) hP hD hS (lv_sub hl [0, 1, 2] rfl)
  refine lv_aload_n hx hb dX3_knownCauses_0 rfl (lv_at hl 0 rfl) ?_
  refine va_get (D := D) (ci := 4) (v := .int ck) (C := RX3) (T := TX3) (N := 7) hx hb hts iX3 hown hK hP 0 rfl rfl 5 (by decide) (hts (.fieldLink RX3 37 "LeastSets" "causesKnown" "Z") (by decide +kernel)) (fun _ h9 => h9) rfl dX3_knownCauses_1 ?_
  refine lv_if_ne (tgt := 66) hx hb dX3_knownCauses_4 (by decide) (fun c_4 => ?_) (fun c_4 => ?_)
  · have e1 : ck = 1 := hf.resolve_left c_4
    subst e1
    obtain ⟨ez, hX⟩ := hc rfl
    subst ez
    refine lv_aload_n hx hb dX3_knownCauses_66 rfl (lv_at hl 0 rfl) ?_
    refine va_get (D := D) (ci := 4) (v := .ref ql) (C := RX3) (T := TX3) (N := 7) hx hb hts iX3 hown hK hP 0 rfl rfl 2 (by decide) (hts (.fieldLink RX3 26 "LeastSets" "causeList" "LLeastSets$SetList;") (by decide +kernel)) (fun _ h9 => h9) rfl dX3_knownCauses_67 ?_
    exact W.aret (v := .ref ql) hx hb hr (Or.inl ⟨_, rfl⟩) (Or.inr ⟨_, rfl⟩) (fun t ht hW => ⟨⟨(U, G, Mb, Le, S1), _, rfl, hX, rfl, by rw [ht]; exact hP, va_K.moved hW.alike hK, hD⟩, hS.F ht⟩) hS.2.2 dX3_knownCauses_70
  · refine lv_aload_n hx hb dX3_knownCauses_7 rfl (lv_at hl 0 rfl) ?_
    refine va_get (D := D) (ci := 4) (v := .ref qa) (C := RX3) (T := TX3) (N := 7) hx hb hts iX3 hown hK hP 0 rfl rfl 0 (by decide) (hts (.fieldLink RX3 12 "LeastSets" "rows" "LLeastSets$Axioms;") (by decide +kernel)) (fun _ h9 => h9) rfl dX3_knownCauses_8 ?_
    refine vp_callSi (va_runV (As := []) (rest := []) ⟨hx, hb, hml, hown, hts⟩ (c_X0_words l D cI cZ cJ qa qb qh qw qf qu qg n hn) (cwV 0 hts gX3_knownCauses_X0_words rfl rfl rfl (by decide +kernel) ⟨Nat.le_of_ble_eq_true rfl, Nat.le_of_ble_eq_true rfl⟩) ⟨ro_blind, va_recv hK hP (ci := 1) (q0 := 1) rfl rfl, ro_pre (hP.sub (ws' := [(qa, .inr (1, [.ref qb, .ref qh, .ref qw, .ref qf, .int (nI n), .ref qu, .ref qg]))]) [1] rfl) hK [0, 1, 2] rfl⟩ rfl rfl hl.1 rfl (lv_room (Nat.le_of_ble_eq_true rfl)) dX3_knownCauses_11 ⟨Nat.le_of_ble_eq_true rfl, Nat.le_of_ble_eq_true rfl⟩).run (fun r_11 hr_11 => ?_)
    subst hr_11
    refine lv_istore_n (lv' := [(1, .int (nI (nwd_ n))), (0, .ref qx)]) hx hb dX3_knownCauses_14 rfl hl (by decide) rfl (fun ls hl => ?_)
    refine lv_iconst (v := (nI 0)) hx hb dX3_knownCauses_15 (by decide +kernel) ?_
    refine lv_istore_n (lv' := [(2, .int (nI 0)), (1, .int (nI (nwd_ n))), (0, .ref qx)]) hx hb dX3_knownCauses_16 rfl hl (by decide) rfl (fun ls hl => ?_)
    exact loop (nwd_ n + 1) 0 U G Mb s.heap [] ls (by omega) (Nat.zero_le _) (fun b hb => absurd hb (Nat.not_lt_zero b)) hP hD hS (lv_sub hl [0, 1, 2] rfl)
set_option maxHeartbeats 4000000 in
set_option maxRecDepth 100000 in
/-- X3_knownCures -/
theorem c_X3_knownCures (l : Launch) (D : va_G) (cI cZ cJ : ClassId) (t1 t2 sz : Nat) (qx qa qb qh qw qf qu qg qm qn qo ql qs qp qr : Nat) (n : Nat) (Bd Hd Wt Fx : Nat → Int32) (g : Nat) (U G Mb Le : Nat → Int64) (z1 : Nat) (S1 : Nat → Int32) (z2 : Nat) (S2 : Nat → Int32) (ck qk : Int32) (hn : n ≤ 14) (hg : g < 24) (hok : ∀ a, a < n → uI_ (Bd a) < 16777216 ∧ uI_ (Hd a) < 24) (hf : qk = 0 ∨ qk = 1) (hc : qk = 1 → z2 = (QL_ n Bd Hd Fx g).length ∧ sx_ S2 (QL_ n Bd Hd Fx g)) : Met l yX3_knownCures wsX3_knownCures ({ frames := 5, cells := 0, slots := 0, locals := 119 } : Room) (va_Pc [.ref qx] (wr_ D [(cI, .int), (cZ, .boolean), (cJ, .long)] [(qx, .inr (4, [.ref qa, .ref qm, .ref ql, .ref qp, .int (nI g), .int ck, .int qk])), (qa, .inr (1, [.ref qb, .ref qh, .ref qw, .ref qf, .int (nI n), .ref qu, .ref qg])), (qb, .inl (cI, 14, .inl Bd)), (qh, .inl (cI, 14, .inl Hd)), (qf, .inl (cZ, 14, .inl Fx)), (qu, .inl (cJ, 14, .inr (.inl U))), (qg, .inl (cJ, 24, .inr (.inl G))), (qm, .inr (2, [.ref qn, .ref qo])), (qn, .inl (cJ, 256, .inr (.inl Mb))), (qo, .inl (cJ, 256, .inr (.inl Le))), (qp, .inr (3, [.ref qr, .int (nI z2)])), (qr, .inl (cI, 3432, .inl S2))] t1 t2 sz)) (va_Qr (S := (Nat → Int64) × (Nat → Int64) × (Nat → Int64) × (Nat → Int64) × (Nat → Int32)) (fun u => sx_ u.2.2.2.2 (QL_ n Bd Hd Fx g)) (fun u a t => a = qp ∧ wd_ D [(cI, .int), (cZ, .boolean), (cJ, .long)] (va_A [(qx, .inr (4, [.ref qa, .ref qm, .ref ql, .ref qp, .int (nI g), .int ck, .int qk])), (qa, .inr (1, [.ref qb, .ref qh, .ref qw, .ref qf, .int (nI n), .ref qu, .ref qg])), (qb, .inl (cI, 14, .inl Bd)), (qh, .inl (cI, 14, .inl Hd)), (qf, .inl (cZ, 14, .inl Fx)), (qu, .inl (cJ, 14, .inr (.inl U))), (qg, .inl (cJ, 24, .inr (.inl G))), (qm, .inr (2, [.ref qn, .ref qo])), (qn, .inl (cJ, 256, .inr (.inl Mb))), (qo, .inl (cJ, 256, .inr (.inl Le))), (qp, .inr (3, [.ref qr, .int (nI z2)])), (qr, .inl (cI, 3432, .inl S2))] sz) [(qx, .inr (4, [.ref qa, .ref qm, .ref ql, .ref qp, .int (nI g), .int ck, .int 1])), (qa, .inr (1, [.ref qb, .ref qh, .ref qw, .ref qf, .int (nI n), .ref qu, .ref qg])), (qb, .inl (cI, 14, .inl Bd)), (qh, .inl (cI, 14, .inl Hd)), (qf, .inl (cZ, 14, .inl Fx)), (qu, .inl (cJ, 14, .inr (.inl u.1))), (qg, .inl (cJ, 24, .inr (.inl u.2.1))), (qm, .inr (2, [.ref qn, .ref qo])), (qn, .inl (cJ, 256, .inr (.inl u.2.2.1))), (qo, .inl (cJ, 256, .inr (.inl u.2.2.2.1))), (qp, .inr (3, [.ref qr, .int (nI ((QL_ n Bd Hd Fx g).length))])), (qr, .inl (cI, 3432, .inl u.2.2.2.2))] t) (va_A [(qx, .inr (4, [.ref qa, .ref qm, .ref ql, .ref qp, .int (nI g), .int ck, .int qk])), (qa, .inr (1, [.ref qb, .ref qh, .ref qw, .ref qf, .int (nI n), .ref qu, .ref qg])), (qb, .inl (cI, 14, .inl Bd)), (qh, .inl (cI, 14, .inl Hd)), (qf, .inl (cZ, 14, .inl Fx)), (qu, .inl (cJ, 14, .inr (.inl U))), (qg, .inl (cJ, 24, .inr (.inl G))), (qm, .inr (2, [.ref qn, .ref qo])), (qn, .inl (cJ, 256, .inr (.inl Mb))), (qo, .inl (cJ, 256, .inr (.inl Le))), (qp, .inr (3, [.ref qr, .int (nI z2)])), (qr, .inl (cI, 3432, .inl S2))] sz)) 0 0 (va_A [(qx, .inr (4, [.ref qa, .ref qm, .ref ql, .ref qp, .int (nI g), .int ck, .int qk])), (qa, .inr (1, [.ref qb, .ref qh, .ref qw, .ref qf, .int (nI n), .ref qu, .ref qg])), (qb, .inl (cI, 14, .inl Bd)), (qh, .inl (cI, 14, .inl Hd)), (qf, .inl (cZ, 14, .inl Fx)), (qu, .inl (cJ, 14, .inr (.inl U))), (qg, .inl (cJ, 24, .inr (.inl G))), (qm, .inr (2, [.ref qn, .ref qo])), (qn, .inl (cJ, 256, .inr (.inl Mb))), (qo, .inl (cJ, 256, .inr (.inl Le))), (qp, .inr (3, [.ref qr, .int (nI z2)])), (qr, .inl (cI, 3432, .inl S2))] sz) := by
  refine Met.ofW (cc := cX3_knownCures) (maxL := 3) (ret := (some (.object "LeastSets$SetList"))) (by decide) rfl ?_
  intro p e s m args below meth c s₁ B hml hv
  obtain ⟨rfl, hsz, hP, hK, hD0, hE⟩ := hv
  have hx := B.exec
  have hb := B.bytes
  have hr := B.returns
  have hts := atoms_spec (ws := wsX3_knownCures) B.pre
  have hown : s.vm.findClass RX3 = some m.cls := findClass_of_methodNamed B.named
  have hlocks := B.notSynchronized
  have iX3 : ∀ w ∈ u_ws RX3 TX3 7, w ∈ wsX3_knownCures := by decide +kernel
  have iX0 : ∀ w ∈ u_ws RX0 TX0 7, w ∈ wsX3_knownCures := by decide +kernel
  have iX1 : ∀ w ∈ u_ws RX1 TX1 2, w ∈ wsX3_knownCures := by decide +kernel
  have iX2 : ∀ w ∈ u_ws RX2 TX2 2, w ∈ wsX3_knownCures := by decide +kernel
  subst hsz
  have hD := hD0.self (sz := s.heap.size)
  generalize hAe : va_A [(qx, .inr (4, [.ref qa, .ref qm, .ref ql, .ref qp, .int (nI g), .int ck, .int qk])), (qa, .inr (1, [.ref qb, .ref qh, .ref qw, .ref qf, .int (nI n), .ref qu, .ref qg])), (qb, .inl (cI, 14, .inl Bd)), (qh, .inl (cI, 14, .inl Hd)), (qf, .inl (cZ, 14, .inl Fx)), (qu, .inl (cJ, 14, .inr (.inl U))), (qg, .inl (cJ, 24, .inr (.inl G))), (qm, .inr (2, [.ref qn, .ref qo])), (qn, .inl (cJ, 256, .inr (.inl Mb))), (qo, .inl (cJ, 256, .inr (.inl Le))), (qp, .inr (3, [.ref qr, .int (nI z2)])), (qr, .inl (cI, 3432, .inl S2))] s.heap.size = A at hD hE ⊢
  have hA : ∀ q : Nat, s.heap.size ≤ q → A q := fun q h => by rw [← hAe]; exact Or.inr h
  have hS : va_S A s.heap s.heap [] := va_S.rf
  have hwd := nwd_lt n hn
  have hl := lv_entry ([.ref qx]) (n := 3) (Nat.le_of_ble_eq_true rfl)
  rw [lg_entry_eq]
  generalize (lg_sl ([.ref qx]) ++ List.replicate (3 - (lg_sl ([.ref qx])).length) Slot.unset).toArray = ls at hl ⊢
  have hl : lv_has ls 3 [(0, .ref qx)] := hl
  have loop : ∀ (d : Nat) (v : Nat) (U G Mb : Nat → Int64) (H : Heap) (locs : List Loc) (ls : Array Slot), nwd_ n < v + d → v ≤ nwd_ n → (∀ w, w < v → ∀ j, j < 64 → (bl (Mb w) j = true ↔ mq_ n Bd Hd Fx g (w * 64 + j))) → va_P D vwCl [(qx, .inr (4, [.ref qa, .ref qm, .ref ql, .ref qp, .int (nI g), .int ck, .int qk])), (qa, .inr (1, [.ref qb, .ref qh, .ref qw, .ref qf, .int (nI n), .ref qu, .ref qg])), (qb, .inl (cI, 14, .inl Bd)), (qh, .inl (cI, 14, .inl Hd)), (qf, .inl (cZ, 14, .inl Fx)), (qu, .inl (cJ, 14, .inr (.inl U))), (qg, .inl (cJ, 24, .inr (.inl G))), (qm, .inr (2, [.ref qn, .ref qo])), (qn, .inl (cJ, 256, .inr (.inl Mb))), (qo, .inl (cJ, 256, .inr (.inl Le))), (qp, .inr (3, [.ref qr, .int (nI z2)])), (qr, .inl (cI, 3432, .inl S2))] H → va_D A [(qx, .inr (4, [.ref qa, .ref qm, .ref ql, .ref qp, .int (nI g), .int ck, .int qk])), (qa, .inr (1, [.ref qb, .ref qh, .ref qw, .ref qf, .int (nI n), .ref qu, .ref qg])), (qb, .inl (cI, 14, .inl Bd)), (qh, .inl (cI, 14, .inl Hd)), (qf, .inl (cZ, 14, .inl Fx)), (qu, .inl (cJ, 14, .inr (.inl U))), (qg, .inl (cJ, 24, .inr (.inl G))), (qm, .inr (2, [.ref qn, .ref qo])), (qn, .inl (cJ, 256, .inr (.inl Mb))), (qo, .inl (cJ, 256, .inr (.inl Le))), (qp, .inr (3, [.ref qr, .int (nI z2)])), (qr, .inl (cI, 3432, .inl S2))] → va_S A s.heap H locs → lv_has ls 3 [(2, .int (nI v)), (1, .int (nI (nwd_ n))), (0, .ref qx)] → W p l e (headSpec wsX3_knownCures ({ frames := 5, cells := 0, slots := 0, locals := 119 } : Room)).room s m ([.ref qx] : List Value).toArray below meth c H locs 0 0 (MQ below (va_Qr (S := (Nat → Int64) × (Nat → Int64) × (Nat → Int64) × (Nat → Int64) × (Nat → Int32)) (fun u => sx_ u.2.2.2.2 (QL_ n Bd Hd Fx g)) (fun u a t => a = qp ∧ wd_ D [(cI, .int), (cZ, .boolean), (cJ, .long)] A [(qx, .inr (4, [.ref qa, .ref qm, .ref ql, .ref qp, .int (nI g), .int ck, .int 1])), (qa, .inr (1, [.ref qb, .ref qh, .ref qw, .ref qf, .int (nI n), .ref qu, .ref qg])), (qb, .inl (cI, 14, .inl Bd)), (qh, .inl (cI, 14, .inl Hd)), (qf, .inl (cZ, 14, .inl Fx)), (qu, .inl (cJ, 14, .inr (.inl u.1))), (qg, .inl (cJ, 24, .inr (.inl u.2.1))), (qm, .inr (2, [.ref qn, .ref qo])), (qn, .inl (cJ, 256, .inr (.inl u.2.2.1))), (qo, .inl (cJ, 256, .inr (.inl u.2.2.2.1))), (qp, .inr (3, [.ref qr, .int (nI ((QL_ n Bd Hd Fx g).length))])), (qr, .inl (cI, 3432, .inl u.2.2.2.2))] t) A) ([.ref qx] : List Value).toArray s 0 0 A) (F0 m 17 ls []) := by
    intro d
    induction d with
    | zero => intro v U G Mb H locs ls h1 h2; omega
    | succ d ih =>
      intro v U G Mb H locs ls h1 h2 hM hP hD hS hl
      refine lv_iload_n hx hb dX3_knownCures_17 rfl (lv_at hl 0 rfl) ?_
      refine lv_iload_n hx hb dX3_knownCures_18 rfl (lv_at hl 1 rfl) ?_
      refine r_ige hx hb (tgt := 53) (by omega) (by omega) dX3_knownCures_19 (by decide) (fun c_19 => ?_) (fun c_19 => ?_)
      · refine lv_aload_n hx hb dX3_knownCures_53 rfl (lv_at hl 2 rfl) ?_
        refine va_get (D := D) (ci := 4) (v := .ref qm) (C := RX3) (T := TX3) (N := 7) hx hb hts iX3 hown hK hP 0 rfl rfl 1 (by decide) (hts (.fieldLink RX3 19 "LeastSets" "family" "LLeastSets$Family;") (by decide +kernel)) (fun _ h9 => h9) rfl dX3_knownCures_54 ?_
        refine lv_iload_n hx hb dX3_knownCures_57 rfl (lv_at hl 1 rfl) ?_
        refine lv_aload_n hx hb dX3_knownCures_58 rfl (lv_at hl 2 rfl) ?_
        refine va_get (D := D) (ci := 4) (v := .ref qp) (C := RX3) (T := TX3) (N := 7) hx hb hts iX3 hown hK hP 0 rfl rfl 3 (by decide) (hts (.fieldLink RX3 30 "LeastSets" "cureList" "LLeastSets$SetList;") (by decide +kernel)) (fun _ h9 => h9) rfl dX3_knownCures_59 ?_
        have hPc := hP.sub (ws' := [(qm, .inr (2, [.ref qn, .ref qo])), (qn, .inl (cJ, 256, .inr (.inl Mb))), (qo, .inl (cJ, 256, .inr (.inl Le))), (qp, .inr (3, [.ref qr, .int (nI z2)])), (qr, .inl (cI, 3432, .inl S2))]) [7, 8, 9, 10, 11] rfl
        have hDc := hD.sub (ws' := [(qm, .inr (2, [.ref qn, .ref qo])), (qn, .inl (cJ, 256, .inr (.inl Mb))), (qo, .inl (cJ, 256, .inr (.inl Le))), (qp, .inr (3, [.ref qr, .int (nI z2)])), (qr, .inl (cI, 3432, .inl S2))]) [7, 8, 9, 10, 11] (by decide) rfl
        have hFc := va_free (wc := [(qm, .inr (2, [.ref qn, .ref qo])), (qn, .inl (cJ, 256, .inr (.inl Mb))), (qo, .inl (cJ, 256, .inr (.inl Le))), (qp, .inr (3, [.ref qr, .int (nI z2)])), (qr, .inl (cI, 3432, .inl S2))]) hD hS hA [7, 8, 9, 10, 11] rfl
        refine va_callv (va_runV (As := [.int (nI (nwd_ n)), .ref qp]) (rest := []) ⟨hx, hb, hml, hown, hts⟩ (c_X1_listLeast l D cI cZ cJ t1 t2 _ qm qn qo qp qr Mb Le z2 S2 (mq_ n Bd Hd Fx g) (qp_ n Bd Hd Fx g) (fun s => qp_iff) mq_up (nwd_ n) hwd.1 (fun w hw => hM w (by omega))) (cwV 2 hts gX3_knownCures_X1_listLeast rfl rfl rfl (by decide +kernel) ⟨Nat.le_of_ble_eq_true rfl, Nat.le_of_ble_eq_true rfl⟩) ⟨wr_blind, va_recv hK hP (ci := 2) (q0 := 7) rfl rfl, wr_pre hPc hDc hK hE hS hFc [0, 1, 2] rfl⟩ rfl rfl hl.1 rfl (lv_room (Nat.le_of_ble_eq_true rfl)) dX3_knownCures_62 ⟨Nat.le_of_ble_eq_true rfl, Nat.le_of_ble_eq_true rfl⟩) hS (fun q _ h => hFc q h) hFc (fun u_62 t H locs ht hvm hw_62 hB hz1 hk1 hS => ?_)
        obtain ⟨hP1, hK1, hD1⟩ := hB
        rw [ht] at hP1
        obtain ⟨hP, hD⟩ := va_join (wr := [(qx, .inr (4, [.ref qa, .ref qm, .ref ql, .ref qp, .int (nI g), .int ck, .int qk])), (qa, .inr (1, [.ref qb, .ref qh, .ref qw, .ref qf, .int (nI n), .ref qu, .ref qg])), (qb, .inl (cI, 14, .inl Bd)), (qh, .inl (cI, 14, .inl Hd)), (qf, .inl (cZ, 14, .inl Fx)), (qu, .inl (cJ, 14, .inr (.inl U))), (qg, .inl (cJ, 24, .inr (.inl G)))]) (w1 := [(qm, .inr (2, [.ref qn, .ref qo])), (qn, .inl (cJ, 256, .inr (.inl Mb))), (qo, .inl (cJ, 256, .inr (.inl u_62.1))), (qp, .inr (3, [.ref qr, .int (nI (ls_ (qp_ n Bd Hd Fx g) 15 (nwd_ n * 64)).length)])), (qr, .inl (cI, 3432, .inl u_62.2))]) hP hD [7, 8, 9, 10, 11] [0, 1, 2, 3, 4, 5, 6] rfl rfl (by decide) (by decide) hk1 hFc hP1 hD1
        have hP : va_P D vwCl [(qx, .inr (4, [.ref qa, .ref qm, .ref ql, .ref qp, .int (nI g), .int ck, .int qk])), (qa, .inr (1, [.ref qb, .ref qh, .ref qw, .ref qf, .int (nI n), .ref qu, .ref qg])), (qb, .inl (cI, 14, .inl Bd)), (qh, .inl (cI, 14, .inl Hd)), (qf, .inl (cZ, 14, .inl Fx)), (qu, .inl (cJ, 14, .inr (.inl U))), (qg, .inl (cJ, 24, .inr (.inl G))), (qm, .inr (2, [.ref qn, .ref qo])), (qn, .inl (cJ, 256, .inr (.inl Mb))), (qo, .inl (cJ, 256, .inr (.inl u_62.1))), (qp, .inr (3, [.ref qr, .int (nI (ls_ (qp_ n Bd Hd Fx g) 15 (nwd_ n * 64)).length)])), (qr, .inl (cI, 3432, .inl u_62.2))] H := hP.sub [0, 1, 2, 3, 4, 5, 6, 7, 8, 9, 10, 11] rfl
        have hD : va_D A [(qx, .inr (4, [.ref qa, .ref qm, .ref ql, .ref qp, .int (nI g), .int ck, .int qk])), (qa, .inr (1, [.ref qb, .ref qh, .ref qw, .ref qf, .int (nI n), .ref qu, .ref qg])), (qb, .inl (cI, 14, .inl Bd)), (qh, .inl (cI, 14, .inl Hd)), (qf, .inl (cZ, 14, .inl Fx)), (qu, .inl (cJ, 14, .inr (.inl U))), (qg, .inl (cJ, 24, .inr (.inl G))), (qm, .inr (2, [.ref qn, .ref qo])), (qn, .inl (cJ, 256, .inr (.inl Mb))), (qo, .inl (cJ, 256, .inr (.inl u_62.1))), (qp, .inr (3, [.ref qr, .int (nI (ls_ (qp_ n Bd Hd Fx g) 15 (nwd_ n * 64)).length)])), (qr, .inl (cI, 3432, .inl u_62.2))] := hD.sub [0, 1, 2, 3, 4, 5, 6, 7, 8, 9, 10, 11] (by decide) rfl
        clear hPc hDc hFc hP1 hK1 hD1 hk1 hz1
        have hX := hw_62
        rw [QL_cls hn] at hX hP hD
        refine lv_aload_n hx hb dX3_knownCures_65 rfl (lv_at hl 2 rfl) ?_
        refine lv_iconst (v := 1) hx hb dX3_knownCures_66 (by decide +kernel) ?_
        refine va_put (D := D) (ci := 4) (v := .int 1) (ty := .boolean) (C := RX3) (T := TX3) (N := 7) hx hb hts iX3 tyX3 tyX3_ok nmX3 hown hK hP hD hS 0 rfl rfl 6 (by decide) (hts (.fieldLink RX3 41 "LeastSets" "curesKnown" "Z") (by decide +kernel)) (fun _ h9 => h9) rfl (by decide +kernel) rfl rfl (Nat.le_of_ble_eq_true rfl) dX3_knownCures_67 (fun H locs hP hD hS => ?_)
        have hP : va_P D vwCl [(qx, .inr (4, [.ref qa, .ref qm, .ref ql, .ref qp, .int (nI g), .int ck, .int 1])), (qa, .inr (1, [.ref qb, .ref qh, .ref qw, .ref qf, .int (nI n), .ref qu, .ref qg])), (qb, .inl (cI, 14, .inl Bd)), (qh, .inl (cI, 14, .inl Hd)), (qf, .inl (cZ, 14, .inl Fx)), (qu, .inl (cJ, 14, .inr (.inl U))), (qg, .inl (cJ, 24, .inr (.inl G))), (qm, .inr (2, [.ref qn, .ref qo])), (qn, .inl (cJ, 256, .inr (.inl Mb))), (qo, .inl (cJ, 256, .inr (.inl u_62.1))), (qp, .inr (3, [.ref qr, .int (nI (QL_ n Bd Hd Fx g).length)])), (qr, .inl (cI, 3432, .inl u_62.2))] H := hP
        have hD : va_D A [(qx, .inr (4, [.ref qa, .ref qm, .ref ql, .ref qp, .int (nI g), .int ck, .int 1])), (qa, .inr (1, [.ref qb, .ref qh, .ref qw, .ref qf, .int (nI n), .ref qu, .ref qg])), (qb, .inl (cI, 14, .inl Bd)), (qh, .inl (cI, 14, .inl Hd)), (qf, .inl (cZ, 14, .inl Fx)), (qu, .inl (cJ, 14, .inr (.inl U))), (qg, .inl (cJ, 24, .inr (.inl G))), (qm, .inr (2, [.ref qn, .ref qo])), (qn, .inl (cJ, 256, .inr (.inl Mb))), (qo, .inl (cJ, 256, .inr (.inl u_62.1))), (qp, .inr (3, [.ref qr, .int (nI (QL_ n Bd Hd Fx g).length)])), (qr, .inl (cI, 3432, .inl u_62.2))] := hD
        refine lv_aload_n hx hb dX3_knownCures_70 rfl (lv_at hl 2 rfl) ?_
        refine va_get (D := D) (ci := 4) (v := .ref qp) (C := RX3) (T := TX3) (N := 7) hx hb hts iX3 hown hK hP 0 rfl rfl 3 (by decide) (hts (.fieldLink RX3 30 "LeastSets" "cureList" "LLeastSets$SetList;") (by decide +kernel)) (fun _ h9 => h9) rfl dX3_knownCures_71 ?_
        exact W.aret (v := .ref qp) hx hb hr (Or.inl ⟨_, rfl⟩) (Or.inr ⟨_, rfl⟩) (fun t ht hW => ⟨⟨(U, G, Mb, u_62.1, u_62.2), _, rfl, hX, rfl, by rw [ht]; exact hP, va_K.moved hW.alike hK, hD⟩, hS.F ht⟩) hS.2.2 dX3_knownCures_74
      · refine lv_aload_n hx hb dX3_knownCures_22 rfl (lv_at hl 2 rfl) ?_
        refine va_get (D := D) (ci := 4) (v := .ref qm) (C := RX3) (T := TX3) (N := 7) hx hb hts iX3 hown hK hP 0 rfl rfl 1 (by decide) (hts (.fieldLink RX3 19 "LeastSets" "family" "LLeastSets$Family;") (by decide +kernel)) (fun _ h9 => h9) rfl dX3_knownCures_23 ?_
        refine va_getN (D := D) (ci := 2) (v := .ref qn) (C := RX1) (T := TX1) (N := 2) (host := "LeastSets") hx hb hts iX1 hown hK hP 7 rfl rfl 0 (by decide) (va_Nw.use rfl (hE.1 _ (List.mem_of_getElem? (i := 3) rfl))) (fun _ h9 => h9) rfl dX3_knownCures_26 ?_
        refine lv_iload_n hx hb dX3_knownCures_29 rfl (lv_at hl 0 rfl) ?_
        refine lv_aload_n hx hb dX3_knownCures_30 rfl (lv_at hl 2 rfl) ?_
        refine va_get (D := D) (ci := 4) (v := .ref qa) (C := RX3) (T := TX3) (N := 7) hx hb hts iX3 hown hK hP 0 rfl rfl 0 (by decide) (hts (.fieldLink RX3 12 "LeastSets" "rows" "LLeastSets$Axioms;") (by decide +kernel)) (fun _ h9 => h9) rfl dX3_knownCures_31 ?_
        refine lv_aload_n hx hb dX3_knownCures_34 rfl (lv_at hl 2 rfl) ?_
        refine va_get (D := D) (ci := 4) (v := .int (nI g)) (C := RX3) (T := TX3) (N := 7) hx hb hts iX3 hown hK hP 0 rfl rfl 4 (by decide) (hts (.fieldLink RX3 33 "LeastSets" "goalFact" "I") (by decide +kernel)) (fun _ h9 => h9) rfl dX3_knownCures_35 ?_
        refine lv_iload_n hx hb dX3_knownCures_38 rfl (lv_at hl 0 rfl) ?_
        have hPc := hP.sub (ws' := [(qa, .inr (1, [.ref qb, .ref qh, .ref qw, .ref qf, .int (nI n), .ref qu, .ref qg])), (qb, .inl (cI, 14, .inl Bd)), (qh, .inl (cI, 14, .inl Hd)), (qf, .inl (cZ, 14, .inl Fx)), (qu, .inl (cJ, 14, .inr (.inl U))), (qg, .inl (cJ, 24, .inr (.inl G)))]) [1, 2, 3, 4, 5, 6] rfl
        have hDc := hD.sub (ws' := [(qa, .inr (1, [.ref qb, .ref qh, .ref qw, .ref qf, .int (nI n), .ref qu, .ref qg])), (qb, .inl (cI, 14, .inl Bd)), (qh, .inl (cI, 14, .inl Hd)), (qf, .inl (cZ, 14, .inl Fx)), (qu, .inl (cJ, 14, .inr (.inl U))), (qg, .inl (cJ, 24, .inr (.inl G)))]) [1, 2, 3, 4, 5, 6] (by decide) rfl
        have hFc := va_free (wc := [(qa, .inr (1, [.ref qb, .ref qh, .ref qw, .ref qf, .int (nI n), .ref qu, .ref qg])), (qb, .inl (cI, 14, .inl Bd)), (qh, .inl (cI, 14, .inl Hd)), (qf, .inl (cZ, 14, .inl Fx)), (qu, .inl (cJ, 14, .inr (.inl U))), (qg, .inl (cJ, 24, .inr (.inl G)))]) hD hS hA [1, 2, 3, 4, 5, 6] rfl
        refine va_calll (va_runV (As := [.int (nI g), .int (nI v)]) (rest := [.int (nI v), .ref qn]) ⟨hx, hb, hml, hown, hts⟩ (c_X0_setsThatLeave l D cI cZ cJ t1 t2 _ qa qb qh qw qf qu qg n hn Bd Hd Fx U G g v hg (by omega) hok) (cwV 2 hts gX3_knownCures_X0_setsThatLeave rfl rfl rfl (by decide +kernel) ⟨Nat.le_of_ble_eq_true rfl, Nat.le_of_ble_eq_true rfl⟩) ⟨wr_blind, va_recv hK hP (ci := 1) (q0 := 1) rfl rfl, wr_pre hPc hDc hK hE hS hFc [0, 1, 2] rfl⟩ rfl rfl hl.1 rfl (lv_room (Nat.le_of_ble_eq_true rfl)) dX3_knownCures_39 ⟨Nat.le_of_ble_eq_true rfl, Nat.le_of_ble_eq_true rfl⟩) hS (fun q _ h => hFc q h) hFc (fun r_39 u_39 t H locs ht hvm hw_39 hB hz1 hk1 hS => ?_)
        obtain ⟨hP1, hK1, hD1⟩ := hB
        rw [ht] at hP1
        obtain ⟨hP, hD⟩ := va_join (wr := [(qx, .inr (4, [.ref qa, .ref qm, .ref ql, .ref qp, .int (nI g), .int ck, .int qk])), (qm, .inr (2, [.ref qn, .ref qo])), (qn, .inl (cJ, 256, .inr (.inl Mb))), (qo, .inl (cJ, 256, .inr (.inl Le))), (qp, .inr (3, [.ref qr, .int (nI z2)])), (qr, .inl (cI, 3432, .inl S2))]) (w1 := [(qa, .inr (1, [.ref qb, .ref qh, .ref qw, .ref qf, .int (nI n), .ref qu, .ref qg])), (qb, .inl (cI, 14, .inl Bd)), (qh, .inl (cI, 14, .inl Hd)), (qf, .inl (cZ, 14, .inl Fx)), (qu, .inl (cJ, 14, .inr (.inl u_39.1))), (qg, .inl (cJ, 24, .inr (.inl u_39.2)))]) hP hD [1, 2, 3, 4, 5, 6] [0, 7, 8, 9, 10, 11] rfl rfl (by decide) (by decide) hk1 hFc hP1 hD1
        have hP : va_P D vwCl [(qx, .inr (4, [.ref qa, .ref qm, .ref ql, .ref qp, .int (nI g), .int ck, .int qk])), (qa, .inr (1, [.ref qb, .ref qh, .ref qw, .ref qf, .int (nI n), .ref qu, .ref qg])), (qb, .inl (cI, 14, .inl Bd)), (qh, .inl (cI, 14, .inl Hd)), (qf, .inl (cZ, 14, .inl Fx)), (qu, .inl (cJ, 14, .inr (.inl u_39.1))), (qg, .inl (cJ, 24, .inr (.inl u_39.2))), (qm, .inr (2, [.ref qn, .ref qo])), (qn, .inl (cJ, 256, .inr (.inl Mb))), (qo, .inl (cJ, 256, .inr (.inl Le))), (qp, .inr (3, [.ref qr, .int (nI z2)])), (qr, .inl (cI, 3432, .inl S2))] H := hP.sub [0, 6, 7, 8, 9, 10, 11, 1, 2, 3, 4, 5] rfl
        have hD : va_D A [(qx, .inr (4, [.ref qa, .ref qm, .ref ql, .ref qp, .int (nI g), .int ck, .int qk])), (qa, .inr (1, [.ref qb, .ref qh, .ref qw, .ref qf, .int (nI n), .ref qu, .ref qg])), (qb, .inl (cI, 14, .inl Bd)), (qh, .inl (cI, 14, .inl Hd)), (qf, .inl (cZ, 14, .inl Fx)), (qu, .inl (cJ, 14, .inr (.inl u_39.1))), (qg, .inl (cJ, 24, .inr (.inl u_39.2))), (qm, .inr (2, [.ref qn, .ref qo])), (qn, .inl (cJ, 256, .inr (.inl Mb))), (qo, .inl (cJ, 256, .inr (.inl Le))), (qp, .inr (3, [.ref qr, .int (nI z2)])), (qr, .inl (cI, 3432, .inl S2))] := hD.sub [0, 6, 7, 8, 9, 10, 11, 1, 2, 3, 4, 5] (by decide) rfl
        clear hPc hDc hFc hP1 hK1 hD1 hk1 hz1
        refine lv_ldc2 (v := (-1)) hx hb hown (hts (.constantLong RX3 145 (-1)) (by decide +kernel)) dX3_knownCures_42 ?_
        refine lv_lxor hx hb dX3_knownCures_45 ?_
        refine r_last hx hb hK hP hD hS 8 2 rfl rfl v (by omega) (by omega) dX3_knownCures_46 (fun H locs hP hD hS => ?_)
        have hP : va_P D vwCl [(qx, .inr (4, [.ref qa, .ref qm, .ref ql, .ref qp, .int (nI g), .int ck, .int qk])), (qa, .inr (1, [.ref qb, .ref qh, .ref qw, .ref qf, .int (nI n), .ref qu, .ref qg])), (qb, .inl (cI, 14, .inl Bd)), (qh, .inl (cI, 14, .inl Hd)), (qf, .inl (cZ, 14, .inl Fx)), (qu, .inl (cJ, 14, .inr (.inl u_39.1))), (qg, .inl (cJ, 24, .inr (.inl u_39.2))), (qm, .inr (2, [.ref qn, .ref qo])), (qn, .inl (cJ, 256, .inr (.inl (vp_updL Mb v (r_39 ^^^ (-1)))))), (qo, .inl (cJ, 256, .inr (.inl Le))), (qp, .inr (3, [.ref qr, .int (nI z2)])), (qr, .inl (cI, 3432, .inl S2))] H := hP
        have hD : va_D A [(qx, .inr (4, [.ref qa, .ref qm, .ref ql, .ref qp, .int (nI g), .int ck, .int qk])), (qa, .inr (1, [.ref qb, .ref qh, .ref qw, .ref qf, .int (nI n), .ref qu, .ref qg])), (qb, .inl (cI, 14, .inl Bd)), (qh, .inl (cI, 14, .inl Hd)), (qf, .inl (cZ, 14, .inl Fx)), (qu, .inl (cJ, 14, .inr (.inl u_39.1))), (qg, .inl (cJ, 24, .inr (.inl u_39.2))), (qm, .inr (2, [.ref qn, .ref qo])), (qn, .inl (cJ, 256, .inr (.inl (vp_updL Mb v (r_39 ^^^ (-1)))))), (qo, .inl (cJ, 256, .inr (.inl Le))), (qp, .inr (3, [.ref qr, .int (nI z2)])), (qr, .inl (cI, 3432, .inl S2))] := hD
        refine lv_iinc (v := (nI (v + 1))) (lv' := [(2, .int (nI (v + 1))), (1, .int (nI (nwd_ n))), (0, .ref qx)]) hx hb dX3_knownCures_47 hl (k := 0) rfl (nI_inc _) (by decide) rfl (fun ls hl => ?_)
        refine lv_goto (tgt := 17) hx hb dX3_knownCures_50 (by decide) ?_
        exact ih (v + 1) _ _ _ H locs ls (by omega) (by omega) (mb_next hM (not_word hw_39)) hP hD hS (lv_sub hl [0, 1, 2] rfl)
  refine lv_aload_n hx hb dX3_knownCures_0 rfl (lv_at hl 0 rfl) ?_
  refine va_get (D := D) (ci := 4) (v := .int qk) (C := RX3) (T := TX3) (N := 7) hx hb hts iX3 hown hK hP 0 rfl rfl 6 (by decide) (hts (.fieldLink RX3 41 "LeastSets" "curesKnown" "Z") (by decide +kernel)) (fun _ h9 => h9) rfl dX3_knownCures_1 ?_
  refine lv_if_ne (tgt := 70) hx hb dX3_knownCures_4 (by decide) (fun c_4 => ?_) (fun c_4 => ?_)
  · have e1 : qk = 1 := hf.resolve_left c_4
    subst e1
    obtain ⟨ez, hX⟩ := hc rfl
    subst ez
    refine lv_aload_n hx hb dX3_knownCures_70 rfl (lv_at hl 0 rfl) ?_
    refine va_get (D := D) (ci := 4) (v := .ref qp) (C := RX3) (T := TX3) (N := 7) hx hb hts iX3 hown hK hP 0 rfl rfl 3 (by decide) (hts (.fieldLink RX3 30 "LeastSets" "cureList" "LLeastSets$SetList;") (by decide +kernel)) (fun _ h9 => h9) rfl dX3_knownCures_71 ?_
    exact W.aret (v := .ref qp) hx hb hr (Or.inl ⟨_, rfl⟩) (Or.inr ⟨_, rfl⟩) (fun t ht hW => ⟨⟨(U, G, Mb, Le, S2), _, rfl, hX, rfl, by rw [ht]; exact hP, va_K.moved hW.alike hK, hD⟩, hS.F ht⟩) hS.2.2 dX3_knownCures_74
  · refine lv_aload_n hx hb dX3_knownCures_7 rfl (lv_at hl 0 rfl) ?_
    refine va_get (D := D) (ci := 4) (v := .ref qa) (C := RX3) (T := TX3) (N := 7) hx hb hts iX3 hown hK hP 0 rfl rfl 0 (by decide) (hts (.fieldLink RX3 12 "LeastSets" "rows" "LLeastSets$Axioms;") (by decide +kernel)) (fun _ h9 => h9) rfl dX3_knownCures_8 ?_
    refine vp_callSi (va_runV (As := []) (rest := []) ⟨hx, hb, hml, hown, hts⟩ (c_X0_words l D cI cZ cJ qa qb qh qw qf qu qg n hn) (cwV 0 hts gX3_knownCures_X0_words rfl rfl rfl (by decide +kernel) ⟨Nat.le_of_ble_eq_true rfl, Nat.le_of_ble_eq_true rfl⟩) ⟨ro_blind, va_recv hK hP (ci := 1) (q0 := 1) rfl rfl, ro_pre (hP.sub (ws' := [(qa, .inr (1, [.ref qb, .ref qh, .ref qw, .ref qf, .int (nI n), .ref qu, .ref qg]))]) [1] rfl) hK [0, 1, 2] rfl⟩ rfl rfl hl.1 rfl (lv_room (Nat.le_of_ble_eq_true rfl)) dX3_knownCures_11 ⟨Nat.le_of_ble_eq_true rfl, Nat.le_of_ble_eq_true rfl⟩).run (fun r_11 hr_11 => ?_)
    subst hr_11
    refine lv_istore_n (lv' := [(1, .int (nI (nwd_ n))), (0, .ref qx)]) hx hb dX3_knownCures_14 rfl hl (by decide) rfl (fun ls hl => ?_)
    refine lv_iconst (v := (nI 0)) hx hb dX3_knownCures_15 (by decide +kernel) ?_
    refine lv_istore_n (lv' := [(2, .int (nI 0)), (1, .int (nI (nwd_ n))), (0, .ref qx)]) hx hb dX3_knownCures_16 rfl hl (by decide) rfl (fun ls hl => ?_)
    exact loop (nwd_ n + 1) 0 U G Mb s.heap [] ls (by omega) (Nat.zero_le _) (fun b hb => absurd hb (Nat.not_lt_zero b)) hP hD hS (lv_sub hl [0, 1, 2] rfl)
end
section
/-! ===== what the calls do: the n axioms (bodies, heads, weights, fixed), the goal ===== -/
abbrev Co_ : Type := Nat × (Nat → Int32) × (Nat → Int32) × (Nat → Int32) × (Nat → Int32) × Nat
def cok_ : Co_ → Prop
  | (n, B, H, _, F, g) => CO_ n B H F g
def iv_ : Co_ → Jk_ → Prop
  | (n, B, H, _, F, g), (_, _, _, _, z1, S1, z2, S2, ck, qk) => IV_ n B H F g z1 S1 z2 S2 ck qk
def ln_ (L : List Nat) (j : Nat) : Int32 := nI (L.getD j 0)
theorem ln_sx {S : Nat → Int32} {L : List Nat} (h : sx_ S L) {j : Nat} (hj : j < L.length) : S j = ln_ L j := by
  rw [h j hj, ln_, List.getD_eq_getElem?_getD, List.getElem?_eq_getElem hj]
  rfl
def t_axiom : Co_ → Int32 → Int32 → Co_
  | (n, B, H, W, F, g), b, h => if uI_ b < 16777216 ∧ uI_ h < 24 ∧ n < 14 then (n + 1, upd B n b, upd H n h, upd W n 1, upd F n 0, g) else (n, B, H, W, F, g)
def q_axiom : Co_ → Int32 → Int32 → Int32 → Prop
  | (n, _, _, _, _, _), b, h, r => r = if uI_ b < 16777216 ∧ uI_ h < 24 then (if n < 14 then nI n else -3) else -1
def t_drop : Co_ → Int32 → Co_
  | (n, B, H, W, F, g), x => if uI_ x < n then (n - 1, sh_ B (uI_ x) n, sh_ H (uI_ x) n, sh_ W (uI_ x) n, sh_ F (uI_ x) n, g) else (n, B, H, W, F, g)
def q_drop : Co_ → Int32 → Int32 → Prop
  | (n, _, _, _, _, _), x, r => r = if uI_ x < n then nI (n - 1) else -1
def t_fix : Co_ → Int32 → Int32 → Co_
  | (n, B, H, W, F, g), x, y => if uI_ x < n then (n, B, H, W, upd F (uI_ x) y, g) else (n, B, H, W, F, g)
def q_fix : Co_ → Int32 → Int32 → Prop
  | (n, _, _, _, F, _), x, r => r = if uI_ x < n then F (uI_ x) else -1
def t_weight : Co_ → Int32 → Int32 → Co_
  | (n, B, H, W, F, g), x, y => if uI_ x < n ∧ uI_ y ≤ 1000 then (n, B, H, upd W (uI_ x) y, F, g) else (n, B, H, W, F, g)
def q_weight : Co_ → Int32 → Int32 → Int32 → Prop
  | (n, _, _, W, _, _), x, y, r => r = if uI_ x < n ∧ uI_ y ≤ 1000 then W (uI_ x) else -1
def t_goal : Co_ → Int32 → Co_
  | (n, B, H, W, F, g), x => if uI_ x < 24 then (n, B, H, W, F, uI_ x) else (n, B, H, W, F, g)
def q_goal : Co_ → Int32 → Int32 → Prop
  | (_, _, _, _, _, g), x, r => r = if uI_ x < 24 then nI g else -1
def q_follow : Co_ → Int32 → Int32 → Prop
  | (n, B, H, _, _, _), x, r => r = cf_ n B H x n
def q_steps : Co_ → Int32 → Int32 → Prop
  | (n, B, H, _, _, g), x, r => st_is (cf_ n B H x) g r
def q_causes : Co_ → Int32 → Prop
  | (n, B, H, _, _, g), r => r = nI (CL_ n B H g).length
def q_cures : Co_ → Int32 → Prop
  | (n, B, H, _, F, g), r => r = nI (QL_ n B H F g).length
def q_cause : Co_ → Int32 → Int32 → Prop
  | (n, B, H, _, _, g), x, r => at_is (ln_ (CL_ n B H g)) (CL_ n B H g).length x r
def q_cure : Co_ → Int32 → Int32 → Prop
  | (n, B, H, _, F, g), x, r => at_is (ln_ (QL_ n B H F g)) (QL_ n B H F g).length x r
/-- the place of the lightest of the first k, and its weight -/
def lt_ (W : Nat → Int32) (S : Nat → Int32) (n : Nat) : Nat → Int32 × Int32
  | 0 => (-2, 0)
  | k + 1 => if (lt_ W S n k).1 = -2 ∨ wo_ W (S k) n < (lt_ W S n k).2 then (nI k, wo_ W (S k) n) else lt_ W S n k
def q_lightest : Co_ → Int32 → Prop
  | (n, B, H, W, F, g), r => r = (lt_ W (ln_ (QL_ n B H F g)) n (QL_ n B H F g).length).1
def q_times : Co_ → Int32 → Int32 → Int32 → Prop
  | (n, B, H, _, F, g), x, y, r => r = if uI_ x < n ∧ uI_ y ≤ 1 then (if y = 0 then hm_ (ln_ (CL_ n B H g)) x (CL_ n B H g).length else hm_ (ln_ (QL_ n B H F g)) x (QL_ n B H F g).length) else -1
def q_within : Co_ → Int32 → Int32 → Prop
  | (n, B, H, _, _, g), x, r => fi_is (ln_ (CL_ n B H g)) (CL_ n B H g).length x r
def q_common : Co_ → Int32 → Prop
  | (n, B, H, _, _, g), r => r = if (CL_ n B H g).length = 0 then -2 else sa_ (ln_ (CL_ n B H g)) (CL_ n B H g).length
def q_axioms : Co_ → Int32 → Prop
  | (n, _, _, _, _, _), r => r = nI n
/-! they stay as they may be -/
theorem cok_axiom {n : Nat} {B H F : Nat → Int32} {g : Nat} {b h : Int32} (hc : CO_ n B H F g) (hb : uI_ b < 16777216) (hh : uI_ h < 24) (hn : n < 14) : CO_ (n + 1) (upd B n b) (upd H n h) (upd F n 0) g := by
  obtain ⟨h1, h2, h3, h4⟩ := hc
  refine ⟨by omega, h2, fun a ha => ?_, fun a ha => ?_⟩
  · by_cases e : a = n
    · subst e; rw [pk_us, pk_us]; exact ⟨hb, hh⟩
    · rw [pk_un e, pk_un e]; exact h3 a (by omega)
  · by_cases e : a = n
    · subst e; rw [pk_us]; exact Or.inl rfl
    · rw [pk_un e]; exact h4 a (by omega)
theorem cok_drop {n j : Nat} {B H F : Nat → Int32} {g : Nat} (hc : CO_ n B H F g) (hj : j < n) : CO_ (n - 1) (sh_ B j n) (sh_ H j n) (sh_ F j n) g := by
  obtain ⟨h1, h2, h3, h4⟩ := hc
  refine ⟨by omega, h2, fun a ha => ?_, fun a ha => ?_⟩
  · unfold sh_
    by_cases e : j ≤ a ∧ a + 1 < n
    · rw [if_pos e, if_pos e]; exact h3 (a + 1) e.2
    · rw [if_neg e, if_neg e]; exact h3 a (by omega)
  · unfold sh_
    by_cases e : j ≤ a ∧ a + 1 < n
    · rw [if_pos e]; exact h4 (a + 1) e.2
    · rw [if_neg e]; exact h4 a (by omega)
theorem cok_fix {n j : Nat} {B H F : Nat → Int32} {g : Nat} {y : Int32} (hc : CO_ n B H F g) (hy : y = 0 ∨ y = 1) : CO_ n B H (upd F j y) g := by
  obtain ⟨h1, h2, h3, h4⟩ := hc
  refine ⟨h1, h2, h3, fun a ha => ?_⟩
  by_cases e : a = j
  · subst e; rw [pk_us]; exact hy
  · rw [pk_un e]; exact h4 a ha
theorem cok_goal {n g' : Nat} {B H F : Nat → Int32} {g : Nat} (hc : CO_ n B H F g) (hg : g' < 24) : CO_ n B H F g' := ⟨hc.1, hg, hc.2.2⟩
/-! numbers asked for -/
theorem has_uI {n : Nat} {x r : Int32} (hn : n < 2147483648) (h : has_is n x r) : (r = 1 ∧ uI_ x < n ∧ x = nI (uI_ x)) ∨ (r = 0 ∧ ¬ uI_ x < n) := by
  rcases h with ⟨h1, j, hj, e⟩ | ⟨h1, h2⟩
  · exact Or.inl ⟨h1, by rw [e, uI_nI (by omega)]; exact hj, (nI_uI x).symm⟩
  · exact Or.inr ⟨h1, fun q => h2 _ q (nI_uI x).symm⟩
theorem us_24 (b : Int32) : us_ b (nI 24) = 0 ↔ uI_ b < 16777216 := by
  have e := uI_shr b (nI 24) 24 (by decide +kernel)
  constructor
  · intro h
    rw [h, show uI_ 0 = 0 by decide +kernel] at e
    rw [show (2 : Nat) ^ 24 = 16777216 by decide +kernel] at e
    omega
  · intro h
    apply uI_inj
    rw [e, show uI_ 0 = 0 by decide +kernel, show (2 : Nat) ^ 24 = 16777216 by decide +kernel, Nat.div_eq_of_lt h]
/-- a number from 0 to m -/
theorem in_uI {y : Int32} {m : Nat} (hm : m < 2147483648) : (¬ y < 0 ∧ y ≤ nI m) ↔ uI_ y ≤ m := by
  constructor
  · rintro ⟨h1, h2⟩
    obtain ⟨j, hj, e⟩ := nI_of h1
    rw [e] at h2 ⊢
    rw [uI_nI (by omega)]
    exact (nI_leI (by omega) (by omega)).mp h2
  · intro h
    rw [← nI_uI y]
    exact ⟨nI_pos (by omega), nI_le h (by omega)⟩
/-! fixing leaves the causes as they are; weighing leaves all -/
theorem hm_congr {S T : Nat → Int32} {x : Int32} : ∀ z, (∀ j, j < z → S j = T j) → hm_ S x z = hm_ T x z := by
  intro z
  induction z with
  | zero => intro _; rfl
  | succ z ih =>
    intro h
    show hm_ S x z + _ = hm_ T x z + _
    rw [ih (fun j hj => h j (by omega)), h z (by omega)]
theorem sa_congr {S T : Nat → Int32} : ∀ z, (∀ j, j < z → S j = T j) → sa_ S z = sa_ T z := by
  intro z
  induction z with
  | zero => intro _; rfl
  | succ z ih =>
    intro h
    show sa_ S z &&& _ = sa_ T z &&& _
    rw [ih (fun j hj => h j (by omega)), h z (by omega)]
theorem lt_congr {W S T : Nat → Int32} {n : Nat} : ∀ z, (∀ j, j < z → S j = T j) → lt_ W S n z = lt_ W T n z := by
  intro z
  induction z with
  | zero => intro _; rfl
  | succ z ih =>
    intro h
    show (if (lt_ W S n z).1 = -2 ∨ wo_ W (S z) n < (lt_ W S n z).2 then _ else _) = (if (lt_ W T n z).1 = -2 ∨ wo_ W (T z) n < (lt_ W T n z).2 then _ else _)
    rw [ih (fun j hj => h j (by omega)), h z (by omega)]
theorem at_congr {S T : Nat → Int32} {z : Nat} {x r : Int32} (hS : ∀ j, j < z → S j = T j) (h : at_is S z x r) : at_is T z x r := by
  rcases h with ⟨j, hj, e, er⟩ | h
  · exact Or.inl ⟨j, hj, e, by rw [er, hS j hj]⟩
  · exact Or.inr h
theorem fi_congr {S T : Nat → Int32} {z : Nat} {x r : Int32} (hS : ∀ j, j < z → S j = T j) (h : fi_is S z x r) : fi_is T z x r := by
  rcases h with ⟨k, hk, er, h1, h2⟩ | ⟨er, h⟩
  · exact Or.inl ⟨k, hk, by rw [er, hS k hk], by rw [← hS k hk]; exact h1, fun j hj => by rw [← hS j (by omega)]; exact h2 j hj⟩
  · exact Or.inr ⟨er, fun j hj => by rw [← hS j hj]; exact h j hj⟩
end
section
theorem st_none {n : Nat} {B Hd : Nat → Int32} (hok : ∀ a, a < n → uI_ (Hd a) < 24) {x : Int32} {g : Nat} (h : ∀ j, j ≤ n → bt (cf_ n B Hd x j) g = false) : st_is (cf_ n B Hd x) g 0 := by
  refine Or.inl ⟨rfl, fun k => ?_⟩
  rcases Nat.lt_or_ge n k with q | q
  · rw [cf_fix hok x (by omega)]; exact h n (Nat.le_refl _)
  · exact h k q
theorem hu_no {n : Nat} {x r : Int32} (hn : n < 2147483648) (h : has_is n x r) (c : r = 0) : ¬ uI_ x < n := by
  rcases has_uI hn h with h | h
  · rw [h.1] at c; exact absurd c (by decide)
  · exact h.2
theorem hu_yes {n : Nat} {x r : Int32} (hn : n < 2147483648) (h : has_is n x r) (c : ¬ r = 0) : uI_ x < n ∧ x = nI (uI_ x) := by
  rcases has_uI hn h with h | h
  · exact h.2
  · exact absurd h.1 c
theorem at_val {S : Nat → Int32} {z k : Nat} {r : Int32} (hz : z < 2147483648) (hk : k < z) (h : at_is S z (nI k) r) : r = S k := by
  rcases h with ⟨j, hj, e, er⟩ | ⟨-, h⟩
  · have : k = j := (nI_eq (by omega) (by omega)).mp e
    subst this
    exact er
  · exact absurd rfl (h k hk)
theorem y_01 {y : Int32} (h : uI_ y ≤ 1) (h1 : ¬ y = nI 1) : y = 0 := by
  have h0 : uI_ y = 0 := by
    rcases Nat.lt_or_ge (uI_ y) 1 with q | q
    · omega
    · exact absurd (by rw [← nI_uI y, show uI_ y = 1 by omega]) h1
  rw [← nI_uI y, h0]
  rfl
theorem lt_yes {W S : Nat → Int32} {n k : Nat} {y2 y3 : Int32} (e : (y2, y3) = lt_ W S n k) (h : y2 = -2 ∨ wo_ W (S k) n < y3) : (nI k, wo_ W (S k) n) = lt_ W S n (k + 1) := by
  show _ = if (lt_ W S n k).1 = -2 ∨ wo_ W (S k) n < (lt_ W S n k).2 then _ else _
  rw [← e, if_pos h]
theorem lt_no {W S : Nat → Int32} {n k : Nat} {y2 y3 : Int32} (e : (y2, y3) = lt_ W S n k) (h : ¬ y2 = -2) (h2 : ¬ wo_ W (S k) n < y3) : (y2, y3) = lt_ W S n (k + 1) := by
  show _ = if (lt_ W S n k).1 = -2 ∨ wo_ W (S k) n < (lt_ W S n k).2 then _ else _
  rw [← e, if_neg (fun q => q.elim h h2)]
theorem i32_nlt {x y : Int32} (h : y ≤ x) : ¬ x < y := by
  rw [Int32.le_iff_toInt_le] at h
  rw [Int32.lt_iff_toInt_lt]
  omega
theorem i32_lt {x y : Int32} (h : ¬ y ≤ x) : x < y := by
  rw [Int32.le_iff_toInt_le] at h
  rw [Int32.lt_iff_toInt_lt]
  omega
end
section
set_option maxHeartbeats 4000000 in
set_option maxRecDepth 100000 in
/-- follow(x) -/
theorem c_X3_follow (l : Launch) (D : va_G) (cI cZ cJ : ClassId) (t1 t2 sz : Nat) (qx qa qb qh qw qf qu qg qm qn qo ql qs qp qr : Nat) (n : Nat) (Bd Hd Wt Fx : Nat → Int32) (g : Nat) (U G Mb Le : Nat → Int64) (z1 : Nat) (S1 : Nat → Int32) (z2 : Nat) (S2 : Nat → Int32) (ck qk : Int32) (hc : CO_ n Bd Hd Fx g) (hi : IV_ n Bd Hd Fx g z1 S1 z2 S2 ck qk) (x : Int32) : Met l yX3_follow wsX3_follow ({ frames := 2, cells := 0, slots := 0, locals := 47 } : Room) (va_Pc [.ref qx, .int x] (wr_ D [(cI, .int), (cZ, .boolean), (cJ, .long)] [(qx, .inr (4, [.ref qa, .ref qm, .ref ql, .ref qp, .int (nI g), .int ck, .int qk])), (qa, .inr (1, [.ref qb, .ref qh, .ref qw, .ref qf, .int (nI n), .ref qu, .ref qg])), (qb, .inl (cI, 14, .inl Bd)), (qh, .inl (cI, 14, .inl Hd)), (qw, .inl (cI, 14, .inl Wt)), (qf, .inl (cZ, 14, .inl Fx)), (qu, .inl (cJ, 14, .inr (.inl U))), (qg, .inl (cJ, 24, .inr (.inl G))), (qm, .inr (2, [.ref qn, .ref qo])), (qn, .inl (cJ, 256, .inr (.inl Mb))), (qo, .inl (cJ, 256, .inr (.inl Le))), (ql, .inr (3, [.ref qs, .int (nI z1)])), (qs, .inl (cI, 3432, .inl S1)), (qp, .inr (3, [.ref qr, .int (nI z2)])), (qr, .inl (cI, 3432, .inl S2))] t1 t2 sz)) (va_Qi (S := Co_ × Jk_) (fun r u => u.1 = (n, Bd, Hd, Wt, Fx, g) ∧ q_follow (n, Bd, Hd, Wt, Fx, g) x r ∧ cok_ u.1 ∧ iv_ u.1 u.2) (fun u => wd_ D [(cI, .int), (cZ, .boolean), (cJ, .long)] (va_A [(qx, .inr (4, [.ref qa, .ref qm, .ref ql, .ref qp, .int (nI g), .int ck, .int qk])), (qa, .inr (1, [.ref qb, .ref qh, .ref qw, .ref qf, .int (nI n), .ref qu, .ref qg])), (qb, .inl (cI, 14, .inl Bd)), (qh, .inl (cI, 14, .inl Hd)), (qw, .inl (cI, 14, .inl Wt)), (qf, .inl (cZ, 14, .inl Fx)), (qu, .inl (cJ, 14, .inr (.inl U))), (qg, .inl (cJ, 24, .inr (.inl G))), (qm, .inr (2, [.ref qn, .ref qo])), (qn, .inl (cJ, 256, .inr (.inl Mb))), (qo, .inl (cJ, 256, .inr (.inl Le))), (ql, .inr (3, [.ref qs, .int (nI z1)])), (qs, .inl (cI, 3432, .inl S1)), (qp, .inr (3, [.ref qr, .int (nI z2)])), (qr, .inl (cI, 3432, .inl S2))] sz) [(qx, .inr (4, [.ref qa, .ref qm, .ref ql, .ref qp, .int (nI u.1.2.2.2.2.2), .int u.2.2.2.2.2.2.2.2.2.1, .int u.2.2.2.2.2.2.2.2.2.2])), (qa, .inr (1, [.ref qb, .ref qh, .ref qw, .ref qf, .int (nI u.1.1), .ref qu, .ref qg])), (qb, .inl (cI, 14, .inl u.1.2.1)), (qh, .inl (cI, 14, .inl u.1.2.2.1)), (qw, .inl (cI, 14, .inl u.1.2.2.2.1)), (qf, .inl (cZ, 14, .inl u.1.2.2.2.2.1)), (qu, .inl (cJ, 14, .inr (.inl u.2.1))), (qg, .inl (cJ, 24, .inr (.inl u.2.2.1))), (qm, .inr (2, [.ref qn, .ref qo])), (qn, .inl (cJ, 256, .inr (.inl u.2.2.2.1))), (qo, .inl (cJ, 256, .inr (.inl u.2.2.2.2.1))), (ql, .inr (3, [.ref qs, .int (nI u.2.2.2.2.2.1)])), (qs, .inl (cI, 3432, .inl u.2.2.2.2.2.2.1)), (qp, .inr (3, [.ref qr, .int (nI u.2.2.2.2.2.2.2.1)])), (qr, .inl (cI, 3432, .inl u.2.2.2.2.2.2.2.2.1))]) (va_A [(qx, .inr (4, [.ref qa, .ref qm, .ref ql, .ref qp, .int (nI g), .int ck, .int qk])), (qa, .inr (1, [.ref qb, .ref qh, .ref qw, .ref qf, .int (nI n), .ref qu, .ref qg])), (qb, .inl (cI, 14, .inl Bd)), (qh, .inl (cI, 14, .inl Hd)), (qw, .inl (cI, 14, .inl Wt)), (qf, .inl (cZ, 14, .inl Fx)), (qu, .inl (cJ, 14, .inr (.inl U))), (qg, .inl (cJ, 24, .inr (.inl G))), (qm, .inr (2, [.ref qn, .ref qo])), (qn, .inl (cJ, 256, .inr (.inl Mb))), (qo, .inl (cJ, 256, .inr (.inl Le))), (ql, .inr (3, [.ref qs, .int (nI z1)])), (qs, .inl (cI, 3432, .inl S1)), (qp, .inr (3, [.ref qr, .int (nI z2)])), (qr, .inl (cI, 3432, .inl S2))] sz)) 0 0 (va_A [(qx, .inr (4, [.ref qa, .ref qm, .ref ql, .ref qp, .int (nI g), .int ck, .int qk])), (qa, .inr (1, [.ref qb, .ref qh, .ref qw, .ref qf, .int (nI n), .ref qu, .ref qg])), (qb, .inl (cI, 14, .inl Bd)), (qh, .inl (cI, 14, .inl Hd)), (qw, .inl (cI, 14, .inl Wt)), (qf, .inl (cZ, 14, .inl Fx)), (qu, .inl (cJ, 14, .inr (.inl U))), (qg, .inl (cJ, 24, .inr (.inl G))), (qm, .inr (2, [.ref qn, .ref qo])), (qn, .inl (cJ, 256, .inr (.inl Mb))), (qo, .inl (cJ, 256, .inr (.inl Le))), (ql, .inr (3, [.ref qs, .int (nI z1)])), (qs, .inl (cI, 3432, .inl S1)), (qp, .inr (3, [.ref qr, .int (nI z2)])), (qr, .inl (cI, 3432, .inl S2))] sz) := by
  refine Met.ofW (cc := cX3_follow) (maxL := 2) (ret := (some .int)) (by decide) rfl ?_
  intro p e s m args below meth c s₁ B hml hv
  obtain ⟨rfl, hsz, hP, hK, hD0, hE⟩ := hv
  have hx := B.exec
  have hb := B.bytes
  have hr := B.returns
  have hts := atoms_spec (ws := wsX3_follow) B.pre
  have hown : s.vm.findClass RX3 = some m.cls := findClass_of_methodNamed B.named
  have hlocks := B.notSynchronized
  have iX3 : ∀ w ∈ u_ws RX3 TX3 7, w ∈ wsX3_follow := by decide +kernel
  subst hsz
  have hD := hD0.self (sz := s.heap.size)
  generalize hAe : va_A [(qx, .inr (4, [.ref qa, .ref qm, .ref ql, .ref qp, .int (nI g), .int ck, .int qk])), (qa, .inr (1, [.ref qb, .ref qh, .ref qw, .ref qf, .int (nI n), .ref qu, .ref qg])), (qb, .inl (cI, 14, .inl Bd)), (qh, .inl (cI, 14, .inl Hd)), (qw, .inl (cI, 14, .inl Wt)), (qf, .inl (cZ, 14, .inl Fx)), (qu, .inl (cJ, 14, .inr (.inl U))), (qg, .inl (cJ, 24, .inr (.inl G))), (qm, .inr (2, [.ref qn, .ref qo])), (qn, .inl (cJ, 256, .inr (.inl Mb))), (qo, .inl (cJ, 256, .inr (.inl Le))), (ql, .inr (3, [.ref qs, .int (nI z1)])), (qs, .inl (cI, 3432, .inl S1)), (qp, .inr (3, [.ref qr, .int (nI z2)])), (qr, .inl (cI, 3432, .inl S2))] s.heap.size = A at hD hE ⊢
  have hA : ∀ q : Nat, s.heap.size ≤ q → A q := fun q h => by rw [← hAe]; exact Or.inr h
  have hS : va_S A s.heap s.heap [] := va_S.rf
  obtain ⟨hn, hg, hok, hF⟩ := id hc
  have hl := lv_entry ([.ref qx, .int x]) (n := 2) (Nat.le_of_ble_eq_true rfl)
  rw [lg_entry_eq]
  generalize (lg_sl ([.ref qx, .int x]) ++ List.replicate (2 - (lg_sl ([.ref qx, .int x])).length) Slot.unset).toArray = ls at hl ⊢
  have hl : lv_has ls 2 [(0, .ref qx), (1, .int x)] := hl
  refine lv_aload_n hx hb dX3_follow_0 rfl (lv_at hl 0 rfl) ?_
  refine va_get (D := D) (ci := 4) (v := .ref qa) (C := RX3) (T := TX3) (N := 7) hx hb hts iX3 hown hK hP 0 rfl rfl 0 (by decide) (hts (.fieldLink RX3 12 "LeastSets" "rows" "LLeastSets$Axioms;") (by decide +kernel)) (fun _ h9 => h9) rfl dX3_follow_1 ?_
  refine lv_iload_n hx hb dX3_follow_4 rfl (lv_at hl 1 rfl) ?_
  refine vp_callSi (va_runV (As := [.int x]) (rest := []) ⟨hx, hb, hml, hown, hts⟩ (c_X0_factsFrom l D cI cZ cJ qa qb qh qw qf qu qg n hn Bd Hd x) (cwV 1 hts gX3_follow_X0_factsFrom rfl rfl rfl (by decide +kernel) ⟨Nat.le_of_ble_eq_true rfl, Nat.le_of_ble_eq_true rfl⟩) ⟨ro_blind, va_recv hK hP (ci := 1) (q0 := 1) rfl rfl, ro_pre (hP.sub (ws' := [(qa, .inr (1, [.ref qb, .ref qh, .ref qw, .ref qf, .int (nI n), .ref qu, .ref qg])), (qb, .inl (cI, 14, .inl Bd)), (qh, .inl (cI, 14, .inl Hd))]) [1, 2, 3] rfl) hK [0, 1, 2] rfl⟩ rfl rfl hl.1 rfl (lv_room (Nat.le_of_ble_eq_true rfl)) dX3_follow_5 ⟨Nat.le_of_ble_eq_true rfl, Nat.le_of_ble_eq_true rfl⟩).run (fun r_5 hr_5 => ?_)
  exact W.iret (v := r_5) hx hb hr (fun t ht hW => ⟨⟨r_5, ((n, Bd, Hd, Wt, Fx, g), (U, G, Mb, Le, z1, S1, z2, S2, ck, qk)), rfl, ⟨rfl, hr_5, hc, hi⟩, by rw [ht]; exact hP, va_K.moved hW.alike hK, hD⟩, hS.F ht⟩) hS.2.2 dX3_follow_8
set_option maxHeartbeats 4000000 in
set_option maxRecDepth 100000 in
/-- axioms() -/
theorem c_X3_axioms (l : Launch) (D : va_G) (cI cZ cJ : ClassId) (t1 t2 sz : Nat) (qx qa qb qh qw qf qu qg qm qn qo ql qs qp qr : Nat) (n : Nat) (Bd Hd Wt Fx : Nat → Int32) (g : Nat) (U G Mb Le : Nat → Int64) (z1 : Nat) (S1 : Nat → Int32) (z2 : Nat) (S2 : Nat → Int32) (ck qk : Int32) (hc : CO_ n Bd Hd Fx g) (hi : IV_ n Bd Hd Fx g z1 S1 z2 S2 ck qk) : Met l yX3_axioms wsX3_axioms ({ frames := 0, cells := 0, slots := 0, locals := 0 } : Room) (va_Pc [.ref qx] (wr_ D [(cI, .int), (cZ, .boolean), (cJ, .long)] [(qx, .inr (4, [.ref qa, .ref qm, .ref ql, .ref qp, .int (nI g), .int ck, .int qk])), (qa, .inr (1, [.ref qb, .ref qh, .ref qw, .ref qf, .int (nI n), .ref qu, .ref qg])), (qb, .inl (cI, 14, .inl Bd)), (qh, .inl (cI, 14, .inl Hd)), (qw, .inl (cI, 14, .inl Wt)), (qf, .inl (cZ, 14, .inl Fx)), (qu, .inl (cJ, 14, .inr (.inl U))), (qg, .inl (cJ, 24, .inr (.inl G))), (qm, .inr (2, [.ref qn, .ref qo])), (qn, .inl (cJ, 256, .inr (.inl Mb))), (qo, .inl (cJ, 256, .inr (.inl Le))), (ql, .inr (3, [.ref qs, .int (nI z1)])), (qs, .inl (cI, 3432, .inl S1)), (qp, .inr (3, [.ref qr, .int (nI z2)])), (qr, .inl (cI, 3432, .inl S2))] t1 t2 sz)) (va_Qi (S := Co_ × Jk_) (fun r u => u.1 = (n, Bd, Hd, Wt, Fx, g) ∧ q_axioms (n, Bd, Hd, Wt, Fx, g) r ∧ cok_ u.1 ∧ iv_ u.1 u.2) (fun u => wd_ D [(cI, .int), (cZ, .boolean), (cJ, .long)] (va_A [(qx, .inr (4, [.ref qa, .ref qm, .ref ql, .ref qp, .int (nI g), .int ck, .int qk])), (qa, .inr (1, [.ref qb, .ref qh, .ref qw, .ref qf, .int (nI n), .ref qu, .ref qg])), (qb, .inl (cI, 14, .inl Bd)), (qh, .inl (cI, 14, .inl Hd)), (qw, .inl (cI, 14, .inl Wt)), (qf, .inl (cZ, 14, .inl Fx)), (qu, .inl (cJ, 14, .inr (.inl U))), (qg, .inl (cJ, 24, .inr (.inl G))), (qm, .inr (2, [.ref qn, .ref qo])), (qn, .inl (cJ, 256, .inr (.inl Mb))), (qo, .inl (cJ, 256, .inr (.inl Le))), (ql, .inr (3, [.ref qs, .int (nI z1)])), (qs, .inl (cI, 3432, .inl S1)), (qp, .inr (3, [.ref qr, .int (nI z2)])), (qr, .inl (cI, 3432, .inl S2))] sz) [(qx, .inr (4, [.ref qa, .ref qm, .ref ql, .ref qp, .int (nI u.1.2.2.2.2.2), .int u.2.2.2.2.2.2.2.2.2.1, .int u.2.2.2.2.2.2.2.2.2.2])), (qa, .inr (1, [.ref qb, .ref qh, .ref qw, .ref qf, .int (nI u.1.1), .ref qu, .ref qg])), (qb, .inl (cI, 14, .inl u.1.2.1)), (qh, .inl (cI, 14, .inl u.1.2.2.1)), (qw, .inl (cI, 14, .inl u.1.2.2.2.1)), (qf, .inl (cZ, 14, .inl u.1.2.2.2.2.1)), (qu, .inl (cJ, 14, .inr (.inl u.2.1))), (qg, .inl (cJ, 24, .inr (.inl u.2.2.1))), (qm, .inr (2, [.ref qn, .ref qo])), (qn, .inl (cJ, 256, .inr (.inl u.2.2.2.1))), (qo, .inl (cJ, 256, .inr (.inl u.2.2.2.2.1))), (ql, .inr (3, [.ref qs, .int (nI u.2.2.2.2.2.1)])), (qs, .inl (cI, 3432, .inl u.2.2.2.2.2.2.1)), (qp, .inr (3, [.ref qr, .int (nI u.2.2.2.2.2.2.2.1)])), (qr, .inl (cI, 3432, .inl u.2.2.2.2.2.2.2.2.1))]) (va_A [(qx, .inr (4, [.ref qa, .ref qm, .ref ql, .ref qp, .int (nI g), .int ck, .int qk])), (qa, .inr (1, [.ref qb, .ref qh, .ref qw, .ref qf, .int (nI n), .ref qu, .ref qg])), (qb, .inl (cI, 14, .inl Bd)), (qh, .inl (cI, 14, .inl Hd)), (qw, .inl (cI, 14, .inl Wt)), (qf, .inl (cZ, 14, .inl Fx)), (qu, .inl (cJ, 14, .inr (.inl U))), (qg, .inl (cJ, 24, .inr (.inl G))), (qm, .inr (2, [.ref qn, .ref qo])), (qn, .inl (cJ, 256, .inr (.inl Mb))), (qo, .inl (cJ, 256, .inr (.inl Le))), (ql, .inr (3, [.ref qs, .int (nI z1)])), (qs, .inl (cI, 3432, .inl S1)), (qp, .inr (3, [.ref qr, .int (nI z2)])), (qr, .inl (cI, 3432, .inl S2))] sz)) 0 0 (va_A [(qx, .inr (4, [.ref qa, .ref qm, .ref ql, .ref qp, .int (nI g), .int ck, .int qk])), (qa, .inr (1, [.ref qb, .ref qh, .ref qw, .ref qf, .int (nI n), .ref qu, .ref qg])), (qb, .inl (cI, 14, .inl Bd)), (qh, .inl (cI, 14, .inl Hd)), (qw, .inl (cI, 14, .inl Wt)), (qf, .inl (cZ, 14, .inl Fx)), (qu, .inl (cJ, 14, .inr (.inl U))), (qg, .inl (cJ, 24, .inr (.inl G))), (qm, .inr (2, [.ref qn, .ref qo])), (qn, .inl (cJ, 256, .inr (.inl Mb))), (qo, .inl (cJ, 256, .inr (.inl Le))), (ql, .inr (3, [.ref qs, .int (nI z1)])), (qs, .inl (cI, 3432, .inl S1)), (qp, .inr (3, [.ref qr, .int (nI z2)])), (qr, .inl (cI, 3432, .inl S2))] sz) := by
  refine Met.ofW (cc := cX3_axioms) (maxL := 1) (ret := (some .int)) (by decide) rfl ?_
  intro p e s m args below meth c s₁ B hml hv
  obtain ⟨rfl, hsz, hP, hK, hD0, hE⟩ := hv
  have hx := B.exec
  have hb := B.bytes
  have hr := B.returns
  have hts := atoms_spec (ws := wsX3_axioms) B.pre
  have hown : s.vm.findClass RX3 = some m.cls := findClass_of_methodNamed B.named
  have hlocks := B.notSynchronized
  have iX3 : ∀ w ∈ u_ws RX3 TX3 7, w ∈ wsX3_axioms := by decide +kernel
  have iX0 : ∀ w ∈ u_ws RX0 TX0 7, w ∈ wsX3_axioms := by decide +kernel
  subst hsz
  have hD := hD0.self (sz := s.heap.size)
  generalize hAe : va_A [(qx, .inr (4, [.ref qa, .ref qm, .ref ql, .ref qp, .int (nI g), .int ck, .int qk])), (qa, .inr (1, [.ref qb, .ref qh, .ref qw, .ref qf, .int (nI n), .ref qu, .ref qg])), (qb, .inl (cI, 14, .inl Bd)), (qh, .inl (cI, 14, .inl Hd)), (qw, .inl (cI, 14, .inl Wt)), (qf, .inl (cZ, 14, .inl Fx)), (qu, .inl (cJ, 14, .inr (.inl U))), (qg, .inl (cJ, 24, .inr (.inl G))), (qm, .inr (2, [.ref qn, .ref qo])), (qn, .inl (cJ, 256, .inr (.inl Mb))), (qo, .inl (cJ, 256, .inr (.inl Le))), (ql, .inr (3, [.ref qs, .int (nI z1)])), (qs, .inl (cI, 3432, .inl S1)), (qp, .inr (3, [.ref qr, .int (nI z2)])), (qr, .inl (cI, 3432, .inl S2))] s.heap.size = A at hD hE ⊢
  have hA : ∀ q : Nat, s.heap.size ≤ q → A q := fun q h => by rw [← hAe]; exact Or.inr h
  have hS : va_S A s.heap s.heap [] := va_S.rf
  obtain ⟨hn, hg, hok, hF⟩ := id hc
  have hl := lv_entry ([.ref qx]) (n := 1) (Nat.le_of_ble_eq_true rfl)
  rw [lg_entry_eq]
  generalize (lg_sl ([.ref qx]) ++ List.replicate (1 - (lg_sl ([.ref qx])).length) Slot.unset).toArray = ls at hl ⊢
  have hl : lv_has ls 1 [(0, .ref qx)] := hl
  refine lv_aload_n hx hb dX3_axioms_0 rfl (lv_at hl 0 rfl) ?_
  refine va_get (D := D) (ci := 4) (v := .ref qa) (C := RX3) (T := TX3) (N := 7) hx hb hts iX3 hown hK hP 0 rfl rfl 0 (by decide) (hts (.fieldLink RX3 12 "LeastSets" "rows" "LLeastSets$Axioms;") (by decide +kernel)) (fun _ h9 => h9) rfl dX3_axioms_1 ?_
  refine va_getN (D := D) (ci := 1) (v := .int (nI n)) (C := RX0) (T := TX0) (N := 7) (host := "LeastSets") hx hb hts iX0 hown hK hP 1 rfl rfl 4 (by decide) (va_Nw.use rfl (hE.1 _ (List.mem_of_getElem? (i := 2) rfl))) (fun _ h9 => h9) rfl dX3_axioms_4 ?_
  exact W.iret (v := (nI n)) hx hb hr (fun t ht hW => ⟨⟨(nI n), ((n, Bd, Hd, Wt, Fx, g), (U, G, Mb, Le, z1, S1, z2, S2, ck, qk)), rfl, ⟨rfl, rfl, hc, hi⟩, by rw [ht]; exact hP, va_K.moved hW.alike hK, hD⟩, hS.F ht⟩) hS.2.2 dX3_axioms_7
set_option maxHeartbeats 4000000 in
set_option maxRecDepth 100000 in
/-- steps(x) -/
theorem c_X3_steps (l : Launch) (D : va_G) (cI cZ cJ : ClassId) (t1 t2 sz : Nat) (qx qa qb qh qw qf qu qg qm qn qo ql qs qp qr : Nat) (n : Nat) (Bd Hd Wt Fx : Nat → Int32) (g : Nat) (U G Mb Le : Nat → Int64) (z1 : Nat) (S1 : Nat → Int32) (z2 : Nat) (S2 : Nat → Int32) (ck qk : Int32) (hc : CO_ n Bd Hd Fx g) (hi : IV_ n Bd Hd Fx g z1 S1 z2 S2 ck qk) (x : Int32) : Met l yX3_steps wsX3_steps ({ frames := 1, cells := 0, slots := 0, locals := 24 } : Room) (va_Pc [.ref qx, .int x] (wr_ D [(cI, .int), (cZ, .boolean), (cJ, .long)] [(qx, .inr (4, [.ref qa, .ref qm, .ref ql, .ref qp, .int (nI g), .int ck, .int qk])), (qa, .inr (1, [.ref qb, .ref qh, .ref qw, .ref qf, .int (nI n), .ref qu, .ref qg])), (qb, .inl (cI, 14, .inl Bd)), (qh, .inl (cI, 14, .inl Hd)), (qw, .inl (cI, 14, .inl Wt)), (qf, .inl (cZ, 14, .inl Fx)), (qu, .inl (cJ, 14, .inr (.inl U))), (qg, .inl (cJ, 24, .inr (.inl G))), (qm, .inr (2, [.ref qn, .ref qo])), (qn, .inl (cJ, 256, .inr (.inl Mb))), (qo, .inl (cJ, 256, .inr (.inl Le))), (ql, .inr (3, [.ref qs, .int (nI z1)])), (qs, .inl (cI, 3432, .inl S1)), (qp, .inr (3, [.ref qr, .int (nI z2)])), (qr, .inl (cI, 3432, .inl S2))] t1 t2 sz)) (va_Qi (S := Co_ × Jk_) (fun r u => u.1 = (n, Bd, Hd, Wt, Fx, g) ∧ q_steps (n, Bd, Hd, Wt, Fx, g) x r ∧ cok_ u.1 ∧ iv_ u.1 u.2) (fun u => wd_ D [(cI, .int), (cZ, .boolean), (cJ, .long)] (va_A [(qx, .inr (4, [.ref qa, .ref qm, .ref ql, .ref qp, .int (nI g), .int ck, .int qk])), (qa, .inr (1, [.ref qb, .ref qh, .ref qw, .ref qf, .int (nI n), .ref qu, .ref qg])), (qb, .inl (cI, 14, .inl Bd)), (qh, .inl (cI, 14, .inl Hd)), (qw, .inl (cI, 14, .inl Wt)), (qf, .inl (cZ, 14, .inl Fx)), (qu, .inl (cJ, 14, .inr (.inl U))), (qg, .inl (cJ, 24, .inr (.inl G))), (qm, .inr (2, [.ref qn, .ref qo])), (qn, .inl (cJ, 256, .inr (.inl Mb))), (qo, .inl (cJ, 256, .inr (.inl Le))), (ql, .inr (3, [.ref qs, .int (nI z1)])), (qs, .inl (cI, 3432, .inl S1)), (qp, .inr (3, [.ref qr, .int (nI z2)])), (qr, .inl (cI, 3432, .inl S2))] sz) [(qx, .inr (4, [.ref qa, .ref qm, .ref ql, .ref qp, .int (nI u.1.2.2.2.2.2), .int u.2.2.2.2.2.2.2.2.2.1, .int u.2.2.2.2.2.2.2.2.2.2])), (qa, .inr (1, [.ref qb, .ref qh, .ref qw, .ref qf, .int (nI u.1.1), .ref qu, .ref qg])), (qb, .inl (cI, 14, .inl u.1.2.1)), (qh, .inl (cI, 14, .inl u.1.2.2.1)), (qw, .inl (cI, 14, .inl u.1.2.2.2.1)), (qf, .inl (cZ, 14, .inl u.1.2.2.2.2.1)), (qu, .inl (cJ, 14, .inr (.inl u.2.1))), (qg, .inl (cJ, 24, .inr (.inl u.2.2.1))), (qm, .inr (2, [.ref qn, .ref qo])), (qn, .inl (cJ, 256, .inr (.inl u.2.2.2.1))), (qo, .inl (cJ, 256, .inr (.inl u.2.2.2.2.1))), (ql, .inr (3, [.ref qs, .int (nI u.2.2.2.2.2.1)])), (qs, .inl (cI, 3432, .inl u.2.2.2.2.2.2.1)), (qp, .inr (3, [.ref qr, .int (nI u.2.2.2.2.2.2.2.1)])), (qr, .inl (cI, 3432, .inl u.2.2.2.2.2.2.2.2.1))]) (va_A [(qx, .inr (4, [.ref qa, .ref qm, .ref ql, .ref qp, .int (nI g), .int ck, .int qk])), (qa, .inr (1, [.ref qb, .ref qh, .ref qw, .ref qf, .int (nI n), .ref qu, .ref qg])), (qb, .inl (cI, 14, .inl Bd)), (qh, .inl (cI, 14, .inl Hd)), (qw, .inl (cI, 14, .inl Wt)), (qf, .inl (cZ, 14, .inl Fx)), (qu, .inl (cJ, 14, .inr (.inl U))), (qg, .inl (cJ, 24, .inr (.inl G))), (qm, .inr (2, [.ref qn, .ref qo])), (qn, .inl (cJ, 256, .inr (.inl Mb))), (qo, .inl (cJ, 256, .inr (.inl Le))), (ql, .inr (3, [.ref qs, .int (nI z1)])), (qs, .inl (cI, 3432, .inl S1)), (qp, .inr (3, [.ref qr, .int (nI z2)])), (qr, .inl (cI, 3432, .inl S2))] sz)) 0 0 (va_A [(qx, .inr (4, [.ref qa, .ref qm, .ref ql, .ref qp, .int (nI g), .int ck, .int qk])), (qa, .inr (1, [.ref qb, .ref qh, .ref qw, .ref qf, .int (nI n), .ref qu, .ref qg])), (qb, .inl (cI, 14, .inl Bd)), (qh, .inl (cI, 14, .inl Hd)), (qw, .inl (cI, 14, .inl Wt)), (qf, .inl (cZ, 14, .inl Fx)), (qu, .inl (cJ, 14, .inr (.inl U))), (qg, .inl (cJ, 24, .inr (.inl G))), (qm, .inr (2, [.ref qn, .ref qo])), (qn, .inl (cJ, 256, .inr (.inl Mb))), (qo, .inl (cJ, 256, .inr (.inl Le))), (ql, .inr (3, [.ref qs, .int (nI z1)])), (qs, .inl (cI, 3432, .inl S1)), (qp, .inr (3, [.ref qr, .int (nI z2)])), (qr, .inl (cI, 3432, .inl S2))] sz) := by
  refine Met.ofW (cc := cX3_steps) (maxL := 4) (ret := (some .int)) (by decide) rfl ?_
  intro p e s m args below meth c s₁ B hml hv
  obtain ⟨rfl, hsz, hP, hK, hD0, hE⟩ := hv
  have hx := B.exec
  have hb := B.bytes
  have hr := B.returns
  have hts := atoms_spec (ws := wsX3_steps) B.pre
  have hown : s.vm.findClass RX3 = some m.cls := findClass_of_methodNamed B.named
  have hlocks := B.notSynchronized
  have iX3 : ∀ w ∈ u_ws RX3 TX3 7, w ∈ wsX3_steps := by decide +kernel
  have iX0 : ∀ w ∈ u_ws RX0 TX0 7, w ∈ wsX3_steps := by decide +kernel
  subst hsz
  have hD := hD0.self (sz := s.heap.size)
  generalize hAe : va_A [(qx, .inr (4, [.ref qa, .ref qm, .ref ql, .ref qp, .int (nI g), .int ck, .int qk])), (qa, .inr (1, [.ref qb, .ref qh, .ref qw, .ref qf, .int (nI n), .ref qu, .ref qg])), (qb, .inl (cI, 14, .inl Bd)), (qh, .inl (cI, 14, .inl Hd)), (qw, .inl (cI, 14, .inl Wt)), (qf, .inl (cZ, 14, .inl Fx)), (qu, .inl (cJ, 14, .inr (.inl U))), (qg, .inl (cJ, 24, .inr (.inl G))), (qm, .inr (2, [.ref qn, .ref qo])), (qn, .inl (cJ, 256, .inr (.inl Mb))), (qo, .inl (cJ, 256, .inr (.inl Le))), (ql, .inr (3, [.ref qs, .int (nI z1)])), (qs, .inl (cI, 3432, .inl S1)), (qp, .inr (3, [.ref qr, .int (nI z2)])), (qr, .inl (cI, 3432, .inl S2))] s.heap.size = A at hD hE ⊢
  have hA : ∀ q : Nat, s.heap.size ≤ q → A q := fun q h => by rw [← hAe]; exact Or.inr h
  have hS : va_S A s.heap s.heap [] := va_S.rf
  obtain ⟨hn, hg, hok, hF⟩ := id hc
  have hl := lv_entry ([.ref qx, .int x]) (n := 4) (Nat.le_of_ble_eq_true rfl)
  rw [lg_entry_eq]
  generalize (lg_sl ([.ref qx, .int x]) ++ List.replicate (4 - (lg_sl ([.ref qx, .int x])).length) Slot.unset).toArray = ls at hl ⊢
  have hl : lv_has ls 4 [(0, .ref qx), (1, .int x)] := hl
  have hok2 : ∀ a, a < n → uI_ (Hd a) < 24 := fun a ha => (hok a ha).2
  have loop : ∀ (d : Nat) (k : Nat) (y : Int32) (ls : Array Slot), n + 1 < k + d → 1 ≤ k ∧ k ≤ n + 1 → y = cf_ n Bd Hd x (k - 1) → (∀ j, j < k → bt (cf_ n Bd Hd x j) g = false) → lv_has ls 4 [(3, .int (nI k)), (2, .int y), (0, .ref qx), (1, .int x)] → W p l e (headSpec wsX3_steps ({ frames := 1, cells := 0, slots := 0, locals := 24 } : Room)).room s m ([.ref qx, .int x] : List Value).toArray below meth c s.heap [] 0 0 (MQ below (va_Qi (S := Co_ × Jk_) (fun r u => u.1 = (n, Bd, Hd, Wt, Fx, g) ∧ q_steps (n, Bd, Hd, Wt, Fx, g) x r ∧ cok_ u.1 ∧ iv_ u.1 u.2) (fun u => wd_ D [(cI, .int), (cZ, .boolean), (cJ, .long)] A [(qx, .inr (4, [.ref qa, .ref qm, .ref ql, .ref qp, .int (nI u.1.2.2.2.2.2), .int u.2.2.2.2.2.2.2.2.2.1, .int u.2.2.2.2.2.2.2.2.2.2])), (qa, .inr (1, [.ref qb, .ref qh, .ref qw, .ref qf, .int (nI u.1.1), .ref qu, .ref qg])), (qb, .inl (cI, 14, .inl u.1.2.1)), (qh, .inl (cI, 14, .inl u.1.2.2.1)), (qw, .inl (cI, 14, .inl u.1.2.2.2.1)), (qf, .inl (cZ, 14, .inl u.1.2.2.2.2.1)), (qu, .inl (cJ, 14, .inr (.inl u.2.1))), (qg, .inl (cJ, 24, .inr (.inl u.2.2.1))), (qm, .inr (2, [.ref qn, .ref qo])), (qn, .inl (cJ, 256, .inr (.inl u.2.2.2.1))), (qo, .inl (cJ, 256, .inr (.inl u.2.2.2.2.1))), (ql, .inr (3, [.ref qs, .int (nI u.2.2.2.2.2.1)])), (qs, .inl (cI, 3432, .inl u.2.2.2.2.2.2.1)), (qp, .inr (3, [.ref qr, .int (nI u.2.2.2.2.2.2.2.1)])), (qr, .inl (cI, 3432, .inl u.2.2.2.2.2.2.2.2.1))]) A) ([.ref qx, .int x] : List Value).toArray s 0 0 A) (F0 m 4 ls []) := by
    intro d
    induction d with
    | zero => intro k y ls h1 h2; omega
    | succ d ih =>
      intro k y ls h1 h2 hy hb0 hl
      refine lv_iload_n hx hb dX3_steps_4 rfl (lv_at hl 0 rfl) ?_
      refine lv_aload_n hx hb dX3_steps_5 rfl (lv_at hl 2 rfl) ?_
      refine va_get (D := D) (ci := 4) (v := .ref qa) (C := RX3) (T := TX3) (N := 7) hx hb hts iX3 hown hK hP 0 rfl rfl 0 (by decide) (hts (.fieldLink RX3 12 "LeastSets" "rows" "LLeastSets$Axioms;") (by decide +kernel)) (fun _ h9 => h9) rfl dX3_steps_6 ?_
      refine va_getN (D := D) (ci := 1) (v := .int (nI n)) (C := RX0) (T := TX0) (N := 7) (host := "LeastSets") hx hb hts iX0 hown hK hP 1 rfl rfl 4 (by decide) (va_Nw.use rfl (hE.1 _ (List.mem_of_getElem? (i := 2) rfl))) (fun _ h9 => h9) rfl dX3_steps_9 ?_
      refine r_igt hx hb (tgt := 44) (by omega) (by omega) dX3_steps_12 (by decide) (fun c_12 => ?_) (fun c_12 => ?_)
      · refine lv_iconst (v := 0) hx hb dX3_steps_44 (by decide +kernel) ?_
        exact W.iret (v := 0) hx hb hr (fun t ht hW => ⟨⟨0, ((n, Bd, Hd, Wt, Fx, g), (U, G, Mb, Le, z1, S1, z2, S2, ck, qk)), rfl, ⟨rfl, (by first | exact Or.inr ⟨k, h2.1, by omega, rfl, by rw [← ek]; simpa using fun q => c_33 ((b_ask0 (by omega) _).mpr q), hb0⟩ | exact st_none hok2 (fun j hj => hb0 j (by omega))), hc, hi⟩, by rw [ht]; exact hP, va_K.moved hW.alike hK, hD⟩, hS.F ht⟩) hS.2.2 dX3_steps_45
      · refine lv_aload_n hx hb dX3_steps_15 rfl (lv_at hl 2 rfl) ?_
        refine va_get (D := D) (ci := 4) (v := .ref qa) (C := RX3) (T := TX3) (N := 7) hx hb hts iX3 hown hK hP 0 rfl rfl 0 (by decide) (hts (.fieldLink RX3 12 "LeastSets" "rows" "LLeastSets$Axioms;") (by decide +kernel)) (fun _ h9 => h9) rfl dX3_steps_16 ?_
        refine lv_iload_n hx hb dX3_steps_19 rfl (lv_at hl 3 rfl) ?_
        refine lv_iload_n hx hb dX3_steps_20 rfl (lv_at hl 1 rfl) ?_
        refine vp_callSi (va_runV (As := [.int x, .int y]) (rest := []) ⟨hx, hb, hml, hown, hts⟩ (c_X0_oneStepMore l D cI cZ cJ qa qb qh qw qf qu qg n hn Bd Hd x y) (cwV 2 hts gX3_steps_X0_oneStepMore rfl rfl rfl (by decide +kernel) ⟨Nat.le_of_ble_eq_true rfl, Nat.le_of_ble_eq_true rfl⟩) ⟨ro_blind, va_recv hK hP (ci := 1) (q0 := 1) rfl rfl, ro_pre (hP.sub (ws' := [(qa, .inr (1, [.ref qb, .ref qh, .ref qw, .ref qf, .int (nI n), .ref qu, .ref qg])), (qb, .inl (cI, 14, .inl Bd)), (qh, .inl (cI, 14, .inl Hd))]) [1, 2, 3] rfl) hK [0, 1, 2] rfl⟩ rfl rfl hl.1 rfl (lv_room (Nat.le_of_ble_eq_true rfl)) dX3_steps_21 ⟨Nat.le_of_ble_eq_true rfl, Nat.le_of_ble_eq_true rfl⟩).run (fun r_21 hr_21 => ?_)
        refine lv_istore_n (lv' := [(2, .int r_21), (3, .int (nI k)), (0, .ref qx), (1, .int x)]) hx hb dX3_steps_24 rfl hl (by decide) rfl (fun ls hl => ?_)
        refine lv_iload_n hx hb dX3_steps_25 rfl (lv_at hl 0 rfl) ?_
        refine lv_aload_n hx hb dX3_steps_26 rfl (lv_at hl 2 rfl) ?_
        refine va_get (D := D) (ci := 4) (v := .int (nI g)) (C := RX3) (T := TX3) (N := 7) hx hb hts iX3 hown hK hP 0 rfl rfl 4 (by decide) (hts (.fieldLink RX3 33 "LeastSets" "goalFact" "I") (by decide +kernel)) (fun _ h9 => h9) rfl dX3_steps_27 ?_
        refine lv_ishr hx hb dX3_steps_30 ?_
        refine lv_iconst (v := 1) hx hb dX3_steps_31 (by decide +kernel) ?_
        refine lv_iand hx hb dX3_steps_32 ?_
        refine lv_if_eq (tgt := 38) hx hb dX3_steps_33 (by decide) (fun c_33 => ?_) (fun c_33 => ?_)
        · have ek : r_21 = cf_ n Bd Hd x k := by rw [hr_21, hy, show k = (k - 1) + 1 by omega]; rfl
          refine lv_iinc (v := (nI (k + 1))) (lv' := [(3, .int (nI (k + 1))), (2, .int r_21), (0, .ref qx), (1, .int x)]) hx hb dX3_steps_38 hl (k := 1) rfl (nI_inc _) (by decide) rfl (fun ls hl => ?_)
          refine lv_goto (tgt := 4) hx hb dX3_steps_41 (by decide) ?_
          exact ih (k + 1) _ ls (by omega) (by omega) ek (lt_s hb0 (by rw [← ek]; exact (b_ask0 (by omega) _).mp c_33)) (lv_sub hl [0, 1, 2, 3] rfl)
        · have ek : r_21 = cf_ n Bd Hd x k := by rw [hr_21, hy, show k = (k - 1) + 1 by omega]; rfl
          refine lv_iload_n hx hb dX3_steps_36 rfl (lv_at hl 1 rfl) ?_
          exact W.iret (v := (nI k)) hx hb hr (fun t ht hW => ⟨⟨(nI k), ((n, Bd, Hd, Wt, Fx, g), (U, G, Mb, Le, z1, S1, z2, S2, ck, qk)), rfl, ⟨rfl, (by first | exact Or.inr ⟨k, h2.1, by omega, rfl, by rw [← ek]; simpa using fun q => c_33 ((b_ask0 (by omega) _).mpr q), hb0⟩ | exact st_none hok2 (fun j hj => hb0 j (by omega))), hc, hi⟩, by rw [ht]; exact hP, va_K.moved hW.alike hK, hD⟩, hS.F ht⟩) hS.2.2 dX3_steps_37
  refine lv_iconst (v := 0) hx hb dX3_steps_0 (by decide +kernel) ?_
  refine lv_istore_n (lv' := [(2, .int 0), (0, .ref qx), (1, .int x)]) hx hb dX3_steps_1 rfl hl (by decide) rfl (fun ls hl => ?_)
  refine lv_iconst (v := (nI 1)) hx hb dX3_steps_2 (by decide +kernel) ?_
  refine lv_istore_n (lv' := [(3, .int (nI 1)), (2, .int 0), (0, .ref qx), (1, .int x)]) hx hb dX3_steps_3 rfl hl (by decide) rfl (fun ls hl => ?_)
  exact loop (n + 2) 1 _ ls (by omega) (by omega) rfl (fun j hj => by rw [show j = 0 by omega]; exact b_0 g) (lv_sub hl [0, 1, 2, 3] rfl)
end
section
set_option maxHeartbeats 4000000 in
set_option maxRecDepth 100000 in
/-- axiom(x, y) -/
theorem c_X3_axiom (l : Launch) (D : va_G) (cI cZ cJ : ClassId) (t1 t2 sz : Nat) (qx qa qb qh qw qf qu qg qm qn qo ql qs qp qr : Nat) (n : Nat) (Bd Hd Wt Fx : Nat → Int32) (g : Nat) (U G Mb Le : Nat → Int64) (z1 : Nat) (S1 : Nat → Int32) (z2 : Nat) (S2 : Nat → Int32) (ck qk : Int32) (hc : CO_ n Bd Hd Fx g) (hi : IV_ n Bd Hd Fx g z1 S1 z2 S2 ck qk) (x y : Int32) : Met l yX3_axiom wsX3_axiom ({ frames := 1, cells := 0, slots := 0, locals := 22 } : Room) (va_Pc [.ref qx, .int x, .int y] (wr_ D [(cI, .int), (cZ, .boolean), (cJ, .long)] [(qx, .inr (4, [.ref qa, .ref qm, .ref ql, .ref qp, .int (nI g), .int ck, .int qk])), (qa, .inr (1, [.ref qb, .ref qh, .ref qw, .ref qf, .int (nI n), .ref qu, .ref qg])), (qb, .inl (cI, 14, .inl Bd)), (qh, .inl (cI, 14, .inl Hd)), (qw, .inl (cI, 14, .inl Wt)), (qf, .inl (cZ, 14, .inl Fx)), (qu, .inl (cJ, 14, .inr (.inl U))), (qg, .inl (cJ, 24, .inr (.inl G))), (qm, .inr (2, [.ref qn, .ref qo])), (qn, .inl (cJ, 256, .inr (.inl Mb))), (qo, .inl (cJ, 256, .inr (.inl Le))), (ql, .inr (3, [.ref qs, .int (nI z1)])), (qs, .inl (cI, 3432, .inl S1)), (qp, .inr (3, [.ref qr, .int (nI z2)])), (qr, .inl (cI, 3432, .inl S2))] t1 t2 sz)) (va_Qi (S := Co_ × Jk_) (fun r u => u.1 = t_axiom (n, Bd, Hd, Wt, Fx, g) x y ∧ q_axiom (n, Bd, Hd, Wt, Fx, g) x y r ∧ cok_ u.1 ∧ iv_ u.1 u.2) (fun u => wd_ D [(cI, .int), (cZ, .boolean), (cJ, .long)] (va_A [(qx, .inr (4, [.ref qa, .ref qm, .ref ql, .ref qp, .int (nI g), .int ck, .int qk])), (qa, .inr (1, [.ref qb, .ref qh, .ref qw, .ref qf, .int (nI n), .ref qu, .ref qg])), (qb, .inl (cI, 14, .inl Bd)), (qh, .inl (cI, 14, .inl Hd)), (qw, .inl (cI, 14, .inl Wt)), (qf, .inl (cZ, 14, .inl Fx)), (qu, .inl (cJ, 14, .inr (.inl U))), (qg, .inl (cJ, 24, .inr (.inl G))), (qm, .inr (2, [.ref qn, .ref qo])), (qn, .inl (cJ, 256, .inr (.inl Mb))), (qo, .inl (cJ, 256, .inr (.inl Le))), (ql, .inr (3, [.ref qs, .int (nI z1)])), (qs, .inl (cI, 3432, .inl S1)), (qp, .inr (3, [.ref qr, .int (nI z2)])), (qr, .inl (cI, 3432, .inl S2))] sz) [(qx, .inr (4, [.ref qa, .ref qm, .ref ql, .ref qp, .int (nI u.1.2.2.2.2.2), .int u.2.2.2.2.2.2.2.2.2.1, .int u.2.2.2.2.2.2.2.2.2.2])), (qa, .inr (1, [.ref qb, .ref qh, .ref qw, .ref qf, .int (nI u.1.1), .ref qu, .ref qg])), (qb, .inl (cI, 14, .inl u.1.2.1)), (qh, .inl (cI, 14, .inl u.1.2.2.1)), (qw, .inl (cI, 14, .inl u.1.2.2.2.1)), (qf, .inl (cZ, 14, .inl u.1.2.2.2.2.1)), (qu, .inl (cJ, 14, .inr (.inl u.2.1))), (qg, .inl (cJ, 24, .inr (.inl u.2.2.1))), (qm, .inr (2, [.ref qn, .ref qo])), (qn, .inl (cJ, 256, .inr (.inl u.2.2.2.1))), (qo, .inl (cJ, 256, .inr (.inl u.2.2.2.2.1))), (ql, .inr (3, [.ref qs, .int (nI u.2.2.2.2.2.1)])), (qs, .inl (cI, 3432, .inl u.2.2.2.2.2.2.1)), (qp, .inr (3, [.ref qr, .int (nI u.2.2.2.2.2.2.2.1)])), (qr, .inl (cI, 3432, .inl u.2.2.2.2.2.2.2.2.1))]) (va_A [(qx, .inr (4, [.ref qa, .ref qm, .ref ql, .ref qp, .int (nI g), .int ck, .int qk])), (qa, .inr (1, [.ref qb, .ref qh, .ref qw, .ref qf, .int (nI n), .ref qu, .ref qg])), (qb, .inl (cI, 14, .inl Bd)), (qh, .inl (cI, 14, .inl Hd)), (qw, .inl (cI, 14, .inl Wt)), (qf, .inl (cZ, 14, .inl Fx)), (qu, .inl (cJ, 14, .inr (.inl U))), (qg, .inl (cJ, 24, .inr (.inl G))), (qm, .inr (2, [.ref qn, .ref qo])), (qn, .inl (cJ, 256, .inr (.inl Mb))), (qo, .inl (cJ, 256, .inr (.inl Le))), (ql, .inr (3, [.ref qs, .int (nI z1)])), (qs, .inl (cI, 3432, .inl S1)), (qp, .inr (3, [.ref qr, .int (nI z2)])), (qr, .inl (cI, 3432, .inl S2))] sz)) 0 0 (va_A [(qx, .inr (4, [.ref qa, .ref qm, .ref ql, .ref qp, .int (nI g), .int ck, .int qk])), (qa, .inr (1, [.ref qb, .ref qh, .ref qw, .ref qf, .int (nI n), .ref qu, .ref qg])), (qb, .inl (cI, 14, .inl Bd)), (qh, .inl (cI, 14, .inl Hd)), (qw, .inl (cI, 14, .inl Wt)), (qf, .inl (cZ, 14, .inl Fx)), (qu, .inl (cJ, 14, .inr (.inl U))), (qg, .inl (cJ, 24, .inr (.inl G))), (qm, .inr (2, [.ref qn, .ref qo])), (qn, .inl (cJ, 256, .inr (.inl Mb))), (qo, .inl (cJ, 256, .inr (.inl Le))), (ql, .inr (3, [.ref qs, .int (nI z1)])), (qs, .inl (cI, 3432, .inl S1)), (qp, .inr (3, [.ref qr, .int (nI z2)])), (qr, .inl (cI, 3432, .inl S2))] sz) := by
  refine Met.ofW (cc := cX3_axiom) (maxL := 3) (ret := (some .int)) (by decide) rfl ?_
  intro p e s m args below meth c s₁ B hml hv
  obtain ⟨rfl, hsz, hP, hK, hD0, hE⟩ := hv
  have hx := B.exec
  have hb := B.bytes
  have hr := B.returns
  have hts := atoms_spec (ws := wsX3_axiom) B.pre
  have hown : s.vm.findClass RX3 = some m.cls := findClass_of_methodNamed B.named
  have hlocks := B.notSynchronized
  have iX3 : ∀ w ∈ u_ws RX3 TX3 7, w ∈ wsX3_axiom := by decide +kernel
  have iX0 : ∀ w ∈ u_ws RX0 TX0 7, w ∈ wsX3_axiom := by decide +kernel
  subst hsz
  have hD := hD0.self (sz := s.heap.size)
  generalize hAe : va_A [(qx, .inr (4, [.ref qa, .ref qm, .ref ql, .ref qp, .int (nI g), .int ck, .int qk])), (qa, .inr (1, [.ref qb, .ref qh, .ref qw, .ref qf, .int (nI n), .ref qu, .ref qg])), (qb, .inl (cI, 14, .inl Bd)), (qh, .inl (cI, 14, .inl Hd)), (qw, .inl (cI, 14, .inl Wt)), (qf, .inl (cZ, 14, .inl Fx)), (qu, .inl (cJ, 14, .inr (.inl U))), (qg, .inl (cJ, 24, .inr (.inl G))), (qm, .inr (2, [.ref qn, .ref qo])), (qn, .inl (cJ, 256, .inr (.inl Mb))), (qo, .inl (cJ, 256, .inr (.inl Le))), (ql, .inr (3, [.ref qs, .int (nI z1)])), (qs, .inl (cI, 3432, .inl S1)), (qp, .inr (3, [.ref qr, .int (nI z2)])), (qr, .inl (cI, 3432, .inl S2))] s.heap.size = A at hD hE ⊢
  have hA : ∀ q : Nat, s.heap.size ≤ q → A q := fun q h => by rw [← hAe]; exact Or.inr h
  have hS : va_S A s.heap s.heap [] := va_S.rf
  obtain ⟨hn, hg, hok, hF⟩ := id hc
  have hl := lv_entry ([.ref qx, .int x, .int y]) (n := 3) (Nat.le_of_ble_eq_true rfl)
  rw [lg_entry_eq]
  generalize (lg_sl ([.ref qx, .int x, .int y]) ++ List.replicate (3 - (lg_sl ([.ref qx, .int x, .int y])).length) Slot.unset).toArray = ls at hl ⊢
  have hl : lv_has ls 3 [(0, .ref qx), (1, .int x), (2, .int y)] := hl
  refine lv_iload_n hx hb dX3_axiom_0 rfl (lv_at hl 1 rfl) ?_
  refine lv_bipush (v := (nI 24)) hx hb dX3_axiom_1 (by decide +kernel) ?_
  refine lv_iushr (v := (us_ x (nI 24))) hx hb dX3_axiom_3 rfl ?_
  refine lv_if_ne (tgt := 14) hx hb dX3_axiom_4 (by decide) (fun c_4 => ?_) (fun c_4 => ?_)
  · have hno : ¬ (uI_ x < 16777216 ∧ uI_ y < 24) := fun q => c_4 ((us_24 x).mpr q.1)
    refine lv_iconst (v := (-1)) hx hb dX3_axiom_14 (by decide +kernel) ?_
    exact W.iret (v := (-1)) hx hb hr (fun t ht hW => ⟨⟨(-1), ((n, Bd, Hd, Wt, Fx, g), (U, G, Mb, Le, z1, S1, z2, S2, ck, qk)), rfl, ⟨(by first | exact (if_neg (fun q => hno ⟨q.1, q.2.1⟩)).symm | exact (if_neg (fun q => absurd q.2.2 (by omega))).symm | exact (if_pos ⟨hyes.1, hyes.2, c_25⟩).symm), (by first | exact (if_neg hno).symm | exact ((if_pos hyes).trans (if_neg (by omega))).symm | exact ((if_pos hyes).trans (if_pos c_25)).symm), (by first | exact hc | exact cok_axiom hc hyes.1 hyes.2 c_25), (by first | exact hi | exact IV_0)⟩, by rw [ht]; exact hP, va_K.moved hW.alike hK, hD⟩, hS.F ht⟩) hS.2.2 dX3_axiom_15
  · refine lv_iload_n hx hb dX3_axiom_7 rfl (lv_at hl 2 rfl) ?_
    refine vp_callSi (va_runS (As := [.int y]) (rest := []) ⟨hx, hb, hml, hown, hts⟩ (c_X3_isFact l y) (va_cwS 1 hts gX3_axiom_X3_isFact rfl rfl rfl (by decide +kernel) ⟨Nat.le_of_ble_eq_true rfl, Nat.le_of_ble_eq_true rfl⟩) ⟨no_blind, no_pre trivial⟩ rfl rfl hl.1 rfl (lv_room (Nat.le_of_ble_eq_true rfl)) dX3_axiom_8 ⟨Nat.le_of_ble_eq_true rfl, Nat.le_of_ble_eq_true rfl⟩).run (fun r_8 hr_8 => ?_)
    refine lv_if_ne (tgt := 16) hx hb dX3_axiom_11 (by decide) (fun c_11 => ?_) (fun c_11 => ?_)
    · have hyes : uI_ x < 16777216 ∧ uI_ y < 24 := ⟨(us_24 x).mp c_4, (hu_yes (by omega) hr_8 c_11).1⟩
      refine lv_aload_n hx hb dX3_axiom_16 rfl (lv_at hl 0 rfl) ?_
      refine va_get (D := D) (ci := 4) (v := .ref qa) (C := RX3) (T := TX3) (N := 7) hx hb hts iX3 hown hK hP 0 rfl rfl 0 (by decide) (hts (.fieldLink RX3 12 "LeastSets" "rows" "LLeastSets$Axioms;") (by decide +kernel)) (fun _ h9 => h9) rfl dX3_axiom_17 ?_
      refine va_getN (D := D) (ci := 1) (v := .int (nI n)) (C := RX0) (T := TX0) (N := 7) (host := "LeastSets") hx hb hts iX0 hown hK hP 1 rfl rfl 4 (by decide) (va_Nw.use rfl (hE.1 _ (List.mem_of_getElem? (i := 2) rfl))) (fun _ h9 => h9) rfl dX3_axiom_20 ?_
      refine lv_bipush (v := (nI 14)) hx hb dX3_axiom_23 (by decide +kernel) ?_
      refine r_ilt hx hb (tgt := 31) (by omega) (by omega) dX3_axiom_25 (by decide) (fun c_25 => ?_) (fun c_25 => ?_)
      · refine lv_aload_n hx hb dX3_axiom_31 rfl (lv_at hl 0 rfl) ?_
        refine va_get (D := D) (ci := 4) (v := .ref qa) (C := RX3) (T := TX3) (N := 7) hx hb hts iX3 hown hK hP 0 rfl rfl 0 (by decide) (hts (.fieldLink RX3 12 "LeastSets" "rows" "LLeastSets$Axioms;") (by decide +kernel)) (fun _ h9 => h9) rfl dX3_axiom_32 ?_
        refine lv_iload_n hx hb dX3_axiom_35 rfl (lv_at hl 1 rfl) ?_
        refine lv_iload_n hx hb dX3_axiom_36 rfl (lv_at hl 2 rfl) ?_
        have hPc := hP.sub (ws' := [(qa, .inr (1, [.ref qb, .ref qh, .ref qw, .ref qf, .int (nI n), .ref qu, .ref qg])), (qb, .inl (cI, 14, .inl Bd)), (qh, .inl (cI, 14, .inl Hd)), (qw, .inl (cI, 14, .inl Wt)), (qf, .inl (cZ, 14, .inl Fx))]) [1, 2, 3, 4, 5] rfl
        have hDc := hD.sub (ws' := [(qa, .inr (1, [.ref qb, .ref qh, .ref qw, .ref qf, .int (nI n), .ref qu, .ref qg])), (qb, .inl (cI, 14, .inl Bd)), (qh, .inl (cI, 14, .inl Hd)), (qw, .inl (cI, 14, .inl Wt)), (qf, .inl (cZ, 14, .inl Fx))]) [1, 2, 3, 4, 5] (by decide) rfl
        have hFc := va_free (wc := [(qa, .inr (1, [.ref qb, .ref qh, .ref qw, .ref qf, .int (nI n), .ref qu, .ref qg])), (qb, .inl (cI, 14, .inl Bd)), (qh, .inl (cI, 14, .inl Hd)), (qw, .inl (cI, 14, .inl Wt)), (qf, .inl (cZ, 14, .inl Fx))]) hD hS hA [1, 2, 3, 4, 5] rfl
        refine va_callv (va_runV (As := [.int x, .int y]) (rest := []) ⟨hx, hb, hml, hown, hts⟩ (c_X0_append l D cI cZ cJ t1 t2 _ qa qb qh qw qf qu qg n hn c_25 Bd Hd Wt Fx x y) (cwV 2 hts gX3_axiom_X0_append rfl rfl rfl (by decide +kernel) ⟨Nat.le_of_ble_eq_true rfl, Nat.le_of_ble_eq_true rfl⟩) ⟨wr_blind, va_recv hK hP (ci := 1) (q0 := 1) rfl rfl, wr_pre hPc hDc hK hE hS hFc [0, 1, 2] rfl⟩ rfl rfl hl.1 rfl (lv_room (Nat.le_of_ble_eq_true rfl)) dX3_axiom_37 ⟨Nat.le_of_ble_eq_true rfl, Nat.le_of_ble_eq_true rfl⟩) hS (fun q _ h => hFc q h) hFc (fun u_37 t H locs ht hvm hw_37 hB hz1 hk1 hS => ?_)
        obtain ⟨hP1, hK1, hD1⟩ := hB
        rw [ht] at hP1
        obtain ⟨hP, hD⟩ := va_join (wr := [(qx, .inr (4, [.ref qa, .ref qm, .ref ql, .ref qp, .int (nI g), .int ck, .int qk])), (qu, .inl (cJ, 14, .inr (.inl U))), (qg, .inl (cJ, 24, .inr (.inl G))), (qm, .inr (2, [.ref qn, .ref qo])), (qn, .inl (cJ, 256, .inr (.inl Mb))), (qo, .inl (cJ, 256, .inr (.inl Le))), (ql, .inr (3, [.ref qs, .int (nI z1)])), (qs, .inl (cI, 3432, .inl S1)), (qp, .inr (3, [.ref qr, .int (nI z2)])), (qr, .inl (cI, 3432, .inl S2))]) (w1 := [(qa, .inr (1, [.ref qb, .ref qh, .ref qw, .ref qf, .int (nI (n + 1)), .ref qu, .ref qg])), (qb, .inl (cI, 14, .inl (upd Bd n x))), (qh, .inl (cI, 14, .inl (upd Hd n y))), (qw, .inl (cI, 14, .inl (upd Wt n 1))), (qf, .inl (cZ, 14, .inl (upd Fx n 0)))]) hP hD [1, 2, 3, 4, 5] [0, 6, 7, 8, 9, 10, 11, 12, 13, 14] rfl rfl (by decide) (by decide) hk1 hFc hP1 hD1
        have hP : va_P D vwCl [(qx, .inr (4, [.ref qa, .ref qm, .ref ql, .ref qp, .int (nI g), .int ck, .int qk])), (qa, .inr (1, [.ref qb, .ref qh, .ref qw, .ref qf, .int (nI (n + 1)), .ref qu, .ref qg])), (qb, .inl (cI, 14, .inl (upd Bd n x))), (qh, .inl (cI, 14, .inl (upd Hd n y))), (qw, .inl (cI, 14, .inl (upd Wt n 1))), (qf, .inl (cZ, 14, .inl (upd Fx n 0))), (qu, .inl (cJ, 14, .inr (.inl U))), (qg, .inl (cJ, 24, .inr (.inl G))), (qm, .inr (2, [.ref qn, .ref qo])), (qn, .inl (cJ, 256, .inr (.inl Mb))), (qo, .inl (cJ, 256, .inr (.inl Le))), (ql, .inr (3, [.ref qs, .int (nI z1)])), (qs, .inl (cI, 3432, .inl S1)), (qp, .inr (3, [.ref qr, .int (nI z2)])), (qr, .inl (cI, 3432, .inl S2))] H := hP.sub [0, 10, 11, 12, 13, 14, 1, 2, 3, 4, 5, 6, 7, 8, 9] rfl
        have hD : va_D A [(qx, .inr (4, [.ref qa, .ref qm, .ref ql, .ref qp, .int (nI g), .int ck, .int qk])), (qa, .inr (1, [.ref qb, .ref qh, .ref qw, .ref qf, .int (nI (n + 1)), .ref qu, .ref qg])), (qb, .inl (cI, 14, .inl (upd Bd n x))), (qh, .inl (cI, 14, .inl (upd Hd n y))), (qw, .inl (cI, 14, .inl (upd Wt n 1))), (qf, .inl (cZ, 14, .inl (upd Fx n 0))), (qu, .inl (cJ, 14, .inr (.inl U))), (qg, .inl (cJ, 24, .inr (.inl G))), (qm, .inr (2, [.ref qn, .ref qo])), (qn, .inl (cJ, 256, .inr (.inl Mb))), (qo, .inl (cJ, 256, .inr (.inl Le))), (ql, .inr (3, [.ref qs, .int (nI z1)])), (qs, .inl (cI, 3432, .inl S1)), (qp, .inr (3, [.ref qr, .int (nI z2)])), (qr, .inl (cI, 3432, .inl S2))] := hD.sub [0, 10, 11, 12, 13, 14, 1, 2, 3, 4, 5, 6, 7, 8, 9] (by decide) rfl
        clear hPc hDc hFc hP1 hK1 hD1 hk1 hz1
        refine lv_aload_n hx hb dX3_axiom_40 rfl (lv_at hl 0 rfl) ?_
        have hPc := hP.sub (ws' := [(qx, .inr (4, [.ref qa, .ref qm, .ref ql, .ref qp, .int (nI g), .int ck, .int qk]))]) [0] rfl
        have hDc := hD.sub (ws' := [(qx, .inr (4, [.ref qa, .ref qm, .ref ql, .ref qp, .int (nI g), .int ck, .int qk]))]) [0] (by decide) rfl
        have hFc := va_free (wc := [(qx, .inr (4, [.ref qa, .ref qm, .ref ql, .ref qp, .int (nI g), .int ck, .int qk]))]) hD hS hA [0] rfl
        refine va_callv (va_runV (As := []) (rest := []) ⟨hx, hb, hml, hown, hts⟩ (c_X3_forgetLists l D cI cZ cJ t1 t2 _ qx qa qb qh qw qf qu qg qm qn qo ql qs qp qr (n + 1) (upd Bd n x) (upd Hd n y) (upd Wt n 1) (upd Fx n 0) g U G Mb Le z1 S1 z2 S2 ck qk) (cwV 0 hts gX3_axiom_X3_forgetLists rfl rfl rfl (by decide +kernel) ⟨Nat.le_of_ble_eq_true rfl, Nat.le_of_ble_eq_true rfl⟩) ⟨wr_blind, va_recv hK hP (ci := 4) (q0 := 0) rfl rfl, wr_pre hPc hDc hK hE hS hFc [0, 1, 2] rfl⟩ rfl rfl hl.1 rfl (lv_room (Nat.le_of_ble_eq_true rfl)) dX3_axiom_41 ⟨Nat.le_of_ble_eq_true rfl, Nat.le_of_ble_eq_true rfl⟩) hS (fun q _ h => hFc q h) hFc (fun u_41 t H locs ht hvm hw_41 hB hz1 hk1 hS => ?_)
        obtain ⟨hP1, hK1, hD1⟩ := hB
        rw [ht] at hP1
        obtain ⟨hP, hD⟩ := va_join (wr := [(qa, .inr (1, [.ref qb, .ref qh, .ref qw, .ref qf, .int (nI (n + 1)), .ref qu, .ref qg])), (qb, .inl (cI, 14, .inl (upd Bd n x))), (qh, .inl (cI, 14, .inl (upd Hd n y))), (qw, .inl (cI, 14, .inl (upd Wt n 1))), (qf, .inl (cZ, 14, .inl (upd Fx n 0))), (qu, .inl (cJ, 14, .inr (.inl U))), (qg, .inl (cJ, 24, .inr (.inl G))), (qm, .inr (2, [.ref qn, .ref qo])), (qn, .inl (cJ, 256, .inr (.inl Mb))), (qo, .inl (cJ, 256, .inr (.inl Le))), (ql, .inr (3, [.ref qs, .int (nI z1)])), (qs, .inl (cI, 3432, .inl S1)), (qp, .inr (3, [.ref qr, .int (nI z2)])), (qr, .inl (cI, 3432, .inl S2))]) (w1 := [(qx, .inr (4, [.ref qa, .ref qm, .ref ql, .ref qp, .int (nI g), .int 0, .int 0]))]) hP hD [0] [1, 2, 3, 4, 5, 6, 7, 8, 9, 10, 11, 12, 13, 14] rfl rfl (by decide) (by decide) hk1 hFc hP1 hD1
        have hP : va_P D vwCl [(qx, .inr (4, [.ref qa, .ref qm, .ref ql, .ref qp, .int (nI g), .int 0, .int 0])), (qa, .inr (1, [.ref qb, .ref qh, .ref qw, .ref qf, .int (nI (n + 1)), .ref qu, .ref qg])), (qb, .inl (cI, 14, .inl (upd Bd n x))), (qh, .inl (cI, 14, .inl (upd Hd n y))), (qw, .inl (cI, 14, .inl (upd Wt n 1))), (qf, .inl (cZ, 14, .inl (upd Fx n 0))), (qu, .inl (cJ, 14, .inr (.inl U))), (qg, .inl (cJ, 24, .inr (.inl G))), (qm, .inr (2, [.ref qn, .ref qo])), (qn, .inl (cJ, 256, .inr (.inl Mb))), (qo, .inl (cJ, 256, .inr (.inl Le))), (ql, .inr (3, [.ref qs, .int (nI z1)])), (qs, .inl (cI, 3432, .inl S1)), (qp, .inr (3, [.ref qr, .int (nI z2)])), (qr, .inl (cI, 3432, .inl S2))] H := hP.sub [14, 0, 1, 2, 3, 4, 5, 6, 7, 8, 9, 10, 11, 12, 13] rfl
        have hD : va_D A [(qx, .inr (4, [.ref qa, .ref qm, .ref ql, .ref qp, .int (nI g), .int 0, .int 0])), (qa, .inr (1, [.ref qb, .ref qh, .ref qw, .ref qf, .int (nI (n + 1)), .ref qu, .ref qg])), (qb, .inl (cI, 14, .inl (upd Bd n x))), (qh, .inl (cI, 14, .inl (upd Hd n y))), (qw, .inl (cI, 14, .inl (upd Wt n 1))), (qf, .inl (cZ, 14, .inl (upd Fx n 0))), (qu, .inl (cJ, 14, .inr (.inl U))), (qg, .inl (cJ, 24, .inr (.inl G))), (qm, .inr (2, [.ref qn, .ref qo])), (qn, .inl (cJ, 256, .inr (.inl Mb))), (qo, .inl (cJ, 256, .inr (.inl Le))), (ql, .inr (3, [.ref qs, .int (nI z1)])), (qs, .inl (cI, 3432, .inl S1)), (qp, .inr (3, [.ref qr, .int (nI z2)])), (qr, .inl (cI, 3432, .inl S2))] := hD.sub [14, 0, 1, 2, 3, 4, 5, 6, 7, 8, 9, 10, 11, 12, 13] (by decide) rfl
        clear hPc hDc hFc hP1 hK1 hD1 hk1 hz1
        refine lv_aload_n hx hb dX3_axiom_44 rfl (lv_at hl 0 rfl) ?_
        refine va_get (D := D) (ci := 4) (v := .ref qa) (C := RX3) (T := TX3) (N := 7) hx hb hts iX3 hown hK hP 0 rfl rfl 0 (by decide) (hts (.fieldLink RX3 12 "LeastSets" "rows" "LLeastSets$Axioms;") (by decide +kernel)) (fun _ h9 => h9) rfl dX3_axiom_45 ?_
        refine va_getN (D := D) (ci := 1) (v := .int (nI (n + 1))) (C := RX0) (T := TX0) (N := 7) (host := "LeastSets") hx hb hts iX0 hown hK hP 1 rfl rfl 4 (by decide) (va_Nw.use rfl (hE.1 _ (List.mem_of_getElem? (i := 2) rfl))) (fun _ h9 => h9) rfl dX3_axiom_48 ?_
        refine lv_iconst (v := (nI 1)) hx hb dX3_axiom_51 (by decide +kernel) ?_
        refine r_isub hx hb (by omega) dX3_axiom_52 ?_
        exact W.iret (v := (nI ((n + 1) - 1))) hx hb hr (fun t ht hW => ⟨⟨(nI ((n + 1) - 1)), ((n + 1, upd Bd n x, upd Hd n y, upd Wt n 1, upd Fx n 0, g), (U, G, Mb, Le, z1, S1, z2, S2, 0, 0)), rfl, ⟨(by first | exact (if_neg (fun q => hno ⟨q.1, q.2.1⟩)).symm | exact (if_neg (fun q => absurd q.2.2 (by omega))).symm | exact (if_pos ⟨hyes.1, hyes.2, c_25⟩).symm), (by first | exact (if_neg hno).symm | exact ((if_pos hyes).trans (if_neg (by omega))).symm | exact ((if_pos hyes).trans (if_pos c_25)).symm), (by first | exact hc | exact cok_axiom hc hyes.1 hyes.2 c_25), (by first | exact hi | exact IV_0)⟩, by rw [ht]; exact hP, va_K.moved hW.alike hK, hD⟩, hS.F ht⟩) hS.2.2 dX3_axiom_53
      · refine lv_bipush (v := (-3)) hx hb dX3_axiom_28 (by decide +kernel) ?_
        exact W.iret (v := (-3)) hx hb hr (fun t ht hW => ⟨⟨(-3), ((n, Bd, Hd, Wt, Fx, g), (U, G, Mb, Le, z1, S1, z2, S2, ck, qk)), rfl, ⟨(by first | exact (if_neg (fun q => hno ⟨q.1, q.2.1⟩)).symm | exact (if_neg (fun q => absurd q.2.2 (by omega))).symm | exact (if_pos ⟨hyes.1, hyes.2, c_25⟩).symm), (by first | exact (if_neg hno).symm | exact ((if_pos hyes).trans (if_neg (by omega))).symm | exact ((if_pos hyes).trans (if_pos c_25)).symm), (by first | exact hc | exact cok_axiom hc hyes.1 hyes.2 c_25), (by first | exact hi | exact IV_0)⟩, by rw [ht]; exact hP, va_K.moved hW.alike hK, hD⟩, hS.F ht⟩) hS.2.2 dX3_axiom_30
    · have hno : ¬ (uI_ x < 16777216 ∧ uI_ y < 24) := fun q => hu_no (by omega) hr_8 c_11 q.2
      refine lv_iconst (v := (-1)) hx hb dX3_axiom_14 (by decide +kernel) ?_
      exact W.iret (v := (-1)) hx hb hr (fun t ht hW => ⟨⟨(-1), ((n, Bd, Hd, Wt, Fx, g), (U, G, Mb, Le, z1, S1, z2, S2, ck, qk)), rfl, ⟨(by first | exact (if_neg (fun q => hno ⟨q.1, q.2.1⟩)).symm | exact (if_neg (fun q => absurd q.2.2 (by omega))).symm | exact (if_pos ⟨hyes.1, hyes.2, c_25⟩).symm), (by first | exact (if_neg hno).symm | exact ((if_pos hyes).trans (if_neg (by omega))).symm | exact ((if_pos hyes).trans (if_pos c_25)).symm), (by first | exact hc | exact cok_axiom hc hyes.1 hyes.2 c_25), (by first | exact hi | exact IV_0)⟩, by rw [ht]; exact hP, va_K.moved hW.alike hK, hD⟩, hS.F ht⟩) hS.2.2 dX3_axiom_15
set_option maxHeartbeats 4000000 in
set_option maxRecDepth 100000 in
/-- drop(x) -/
theorem c_X3_drop (l : Launch) (D : va_G) (cI cZ cJ : ClassId) (t1 t2 sz : Nat) (qx qa qb qh qw qf qu qg qm qn qo ql qs qp qr : Nat) (n : Nat) (Bd Hd Wt Fx : Nat → Int32) (g : Nat) (U G Mb Le : Nat → Int64) (z1 : Nat) (S1 : Nat → Int32) (z2 : Nat) (S2 : Nat → Int32) (ck qk : Int32) (hc : CO_ n Bd Hd Fx g) (hi : IV_ n Bd Hd Fx g z1 S1 z2 S2 ck qk) (x : Int32) : Met l yX3_drop wsX3_drop ({ frames := 2, cells := 0, slots := 0, locals := 43 } : Room) (va_Pc [.ref qx, .int x] (wr_ D [(cI, .int), (cZ, .boolean), (cJ, .long)] [(qx, .inr (4, [.ref qa, .ref qm, .ref ql, .ref qp, .int (nI g), .int ck, .int qk])), (qa, .inr (1, [.ref qb, .ref qh, .ref qw, .ref qf, .int (nI n), .ref qu, .ref qg])), (qb, .inl (cI, 14, .inl Bd)), (qh, .inl (cI, 14, .inl Hd)), (qw, .inl (cI, 14, .inl Wt)), (qf, .inl (cZ, 14, .inl Fx)), (qu, .inl (cJ, 14, .inr (.inl U))), (qg, .inl (cJ, 24, .inr (.inl G))), (qm, .inr (2, [.ref qn, .ref qo])), (qn, .inl (cJ, 256, .inr (.inl Mb))), (qo, .inl (cJ, 256, .inr (.inl Le))), (ql, .inr (3, [.ref qs, .int (nI z1)])), (qs, .inl (cI, 3432, .inl S1)), (qp, .inr (3, [.ref qr, .int (nI z2)])), (qr, .inl (cI, 3432, .inl S2))] t1 t2 sz)) (va_Qi (S := Co_ × Jk_) (fun r u => u.1 = t_drop (n, Bd, Hd, Wt, Fx, g) x ∧ q_drop (n, Bd, Hd, Wt, Fx, g) x r ∧ cok_ u.1 ∧ iv_ u.1 u.2) (fun u => wd_ D [(cI, .int), (cZ, .boolean), (cJ, .long)] (va_A [(qx, .inr (4, [.ref qa, .ref qm, .ref ql, .ref qp, .int (nI g), .int ck, .int qk])), (qa, .inr (1, [.ref qb, .ref qh, .ref qw, .ref qf, .int (nI n), .ref qu, .ref qg])), (qb, .inl (cI, 14, .inl Bd)), (qh, .inl (cI, 14, .inl Hd)), (qw, .inl (cI, 14, .inl Wt)), (qf, .inl (cZ, 14, .inl Fx)), (qu, .inl (cJ, 14, .inr (.inl U))), (qg, .inl (cJ, 24, .inr (.inl G))), (qm, .inr (2, [.ref qn, .ref qo])), (qn, .inl (cJ, 256, .inr (.inl Mb))), (qo, .inl (cJ, 256, .inr (.inl Le))), (ql, .inr (3, [.ref qs, .int (nI z1)])), (qs, .inl (cI, 3432, .inl S1)), (qp, .inr (3, [.ref qr, .int (nI z2)])), (qr, .inl (cI, 3432, .inl S2))] sz) [(qx, .inr (4, [.ref qa, .ref qm, .ref ql, .ref qp, .int (nI u.1.2.2.2.2.2), .int u.2.2.2.2.2.2.2.2.2.1, .int u.2.2.2.2.2.2.2.2.2.2])), (qa, .inr (1, [.ref qb, .ref qh, .ref qw, .ref qf, .int (nI u.1.1), .ref qu, .ref qg])), (qb, .inl (cI, 14, .inl u.1.2.1)), (qh, .inl (cI, 14, .inl u.1.2.2.1)), (qw, .inl (cI, 14, .inl u.1.2.2.2.1)), (qf, .inl (cZ, 14, .inl u.1.2.2.2.2.1)), (qu, .inl (cJ, 14, .inr (.inl u.2.1))), (qg, .inl (cJ, 24, .inr (.inl u.2.2.1))), (qm, .inr (2, [.ref qn, .ref qo])), (qn, .inl (cJ, 256, .inr (.inl u.2.2.2.1))), (qo, .inl (cJ, 256, .inr (.inl u.2.2.2.2.1))), (ql, .inr (3, [.ref qs, .int (nI u.2.2.2.2.2.1)])), (qs, .inl (cI, 3432, .inl u.2.2.2.2.2.2.1)), (qp, .inr (3, [.ref qr, .int (nI u.2.2.2.2.2.2.2.1)])), (qr, .inl (cI, 3432, .inl u.2.2.2.2.2.2.2.2.1))]) (va_A [(qx, .inr (4, [.ref qa, .ref qm, .ref ql, .ref qp, .int (nI g), .int ck, .int qk])), (qa, .inr (1, [.ref qb, .ref qh, .ref qw, .ref qf, .int (nI n), .ref qu, .ref qg])), (qb, .inl (cI, 14, .inl Bd)), (qh, .inl (cI, 14, .inl Hd)), (qw, .inl (cI, 14, .inl Wt)), (qf, .inl (cZ, 14, .inl Fx)), (qu, .inl (cJ, 14, .inr (.inl U))), (qg, .inl (cJ, 24, .inr (.inl G))), (qm, .inr (2, [.ref qn, .ref qo])), (qn, .inl (cJ, 256, .inr (.inl Mb))), (qo, .inl (cJ, 256, .inr (.inl Le))), (ql, .inr (3, [.ref qs, .int (nI z1)])), (qs, .inl (cI, 3432, .inl S1)), (qp, .inr (3, [.ref qr, .int (nI z2)])), (qr, .inl (cI, 3432, .inl S2))] sz)) 0 0 (va_A [(qx, .inr (4, [.ref qa, .ref qm, .ref ql, .ref qp, .int (nI g), .int ck, .int qk])), (qa, .inr (1, [.ref qb, .ref qh, .ref qw, .ref qf, .int (nI n), .ref qu, .ref qg])), (qb, .inl (cI, 14, .inl Bd)), (qh, .inl (cI, 14, .inl Hd)), (qw, .inl (cI, 14, .inl Wt)), (qf, .inl (cZ, 14, .inl Fx)), (qu, .inl (cJ, 14, .inr (.inl U))), (qg, .inl (cJ, 24, .inr (.inl G))), (qm, .inr (2, [.ref qn, .ref qo])), (qn, .inl (cJ, 256, .inr (.inl Mb))), (qo, .inl (cJ, 256, .inr (.inl Le))), (ql, .inr (3, [.ref qs, .int (nI z1)])), (qs, .inl (cI, 3432, .inl S1)), (qp, .inr (3, [.ref qr, .int (nI z2)])), (qr, .inl (cI, 3432, .inl S2))] sz) := by
  refine Met.ofW (cc := cX3_drop) (maxL := 2) (ret := (some .int)) (by decide) rfl ?_
  intro p e s m args below meth c s₁ B hml hv
  obtain ⟨rfl, hsz, hP, hK, hD0, hE⟩ := hv
  have hx := B.exec
  have hb := B.bytes
  have hr := B.returns
  have hts := atoms_spec (ws := wsX3_drop) B.pre
  have hown : s.vm.findClass RX3 = some m.cls := findClass_of_methodNamed B.named
  have hlocks := B.notSynchronized
  have iX3 : ∀ w ∈ u_ws RX3 TX3 7, w ∈ wsX3_drop := by decide +kernel
  have iX0 : ∀ w ∈ u_ws RX0 TX0 7, w ∈ wsX3_drop := by decide +kernel
  subst hsz
  have hD := hD0.self (sz := s.heap.size)
  generalize hAe : va_A [(qx, .inr (4, [.ref qa, .ref qm, .ref ql, .ref qp, .int (nI g), .int ck, .int qk])), (qa, .inr (1, [.ref qb, .ref qh, .ref qw, .ref qf, .int (nI n), .ref qu, .ref qg])), (qb, .inl (cI, 14, .inl Bd)), (qh, .inl (cI, 14, .inl Hd)), (qw, .inl (cI, 14, .inl Wt)), (qf, .inl (cZ, 14, .inl Fx)), (qu, .inl (cJ, 14, .inr (.inl U))), (qg, .inl (cJ, 24, .inr (.inl G))), (qm, .inr (2, [.ref qn, .ref qo])), (qn, .inl (cJ, 256, .inr (.inl Mb))), (qo, .inl (cJ, 256, .inr (.inl Le))), (ql, .inr (3, [.ref qs, .int (nI z1)])), (qs, .inl (cI, 3432, .inl S1)), (qp, .inr (3, [.ref qr, .int (nI z2)])), (qr, .inl (cI, 3432, .inl S2))] s.heap.size = A at hD hE ⊢
  have hA : ∀ q : Nat, s.heap.size ≤ q → A q := fun q h => by rw [← hAe]; exact Or.inr h
  have hS : va_S A s.heap s.heap [] := va_S.rf
  obtain ⟨hn, hg, hok, hF⟩ := id hc
  have hl := lv_entry ([.ref qx, .int x]) (n := 2) (Nat.le_of_ble_eq_true rfl)
  rw [lg_entry_eq]
  generalize (lg_sl ([.ref qx, .int x]) ++ List.replicate (2 - (lg_sl ([.ref qx, .int x])).length) Slot.unset).toArray = ls at hl ⊢
  have hl : lv_has ls 2 [(0, .ref qx), (1, .int x)] := hl
  refine lv_aload_n hx hb dX3_drop_0 rfl (lv_at hl 0 rfl) ?_
  refine va_get (D := D) (ci := 4) (v := .ref qa) (C := RX3) (T := TX3) (N := 7) hx hb hts iX3 hown hK hP 0 rfl rfl 0 (by decide) (hts (.fieldLink RX3 12 "LeastSets" "rows" "LLeastSets$Axioms;") (by decide +kernel)) (fun _ h9 => h9) rfl dX3_drop_1 ?_
  refine lv_iload_n hx hb dX3_drop_4 rfl (lv_at hl 1 rfl) ?_
  refine vp_callSi (va_runV (As := [.int x]) (rest := []) ⟨hx, hb, hml, hown, hts⟩ (c_X0_has l D cI cZ cJ qa qb qh qw qf qu qg n hn x) (cwV 1 hts gX3_drop_X0_has rfl rfl rfl (by decide +kernel) ⟨Nat.le_of_ble_eq_true rfl, Nat.le_of_ble_eq_true rfl⟩) ⟨ro_blind, va_recv hK hP (ci := 1) (q0 := 1) rfl rfl, ro_pre (hP.sub (ws' := [(qa, .inr (1, [.ref qb, .ref qh, .ref qw, .ref qf, .int (nI n), .ref qu, .ref qg]))]) [1] rfl) hK [0, 1, 2] rfl⟩ rfl rfl hl.1 rfl (lv_room (Nat.le_of_ble_eq_true rfl)) dX3_drop_5 ⟨Nat.le_of_ble_eq_true rfl, Nat.le_of_ble_eq_true rfl⟩).run (fun r_5 hr_5 => ?_)
  refine lv_if_ne (tgt := 13) hx hb dX3_drop_8 (by decide) (fun c_8 => ?_) (fun c_8 => ?_)
  · obtain ⟨hyes, ex⟩ := hu_yes (by omega) hr_5 c_8
    rw [ex] at hl
    refine lv_aload_n hx hb dX3_drop_13 rfl (lv_at hl 0 rfl) ?_
    refine va_get (D := D) (ci := 4) (v := .ref qa) (C := RX3) (T := TX3) (N := 7) hx hb hts iX3 hown hK hP 0 rfl rfl 0 (by decide) (hts (.fieldLink RX3 12 "LeastSets" "rows" "LLeastSets$Axioms;") (by decide +kernel)) (fun _ h9 => h9) rfl dX3_drop_14 ?_
    refine lv_iload_n hx hb dX3_drop_17 rfl (lv_at hl 1 rfl) ?_
    have hPc := hP.sub (ws' := [(qa, .inr (1, [.ref qb, .ref qh, .ref qw, .ref qf, .int (nI n), .ref qu, .ref qg])), (qb, .inl (cI, 14, .inl Bd)), (qh, .inl (cI, 14, .inl Hd)), (qw, .inl (cI, 14, .inl Wt)), (qf, .inl (cZ, 14, .inl Fx))]) [1, 2, 3, 4, 5] rfl
    have hDc := hD.sub (ws' := [(qa, .inr (1, [.ref qb, .ref qh, .ref qw, .ref qf, .int (nI n), .ref qu, .ref qg])), (qb, .inl (cI, 14, .inl Bd)), (qh, .inl (cI, 14, .inl Hd)), (qw, .inl (cI, 14, .inl Wt)), (qf, .inl (cZ, 14, .inl Fx))]) [1, 2, 3, 4, 5] (by decide) rfl
    have hFc := va_free (wc := [(qa, .inr (1, [.ref qb, .ref qh, .ref qw, .ref qf, .int (nI n), .ref qu, .ref qg])), (qb, .inl (cI, 14, .inl Bd)), (qh, .inl (cI, 14, .inl Hd)), (qw, .inl (cI, 14, .inl Wt)), (qf, .inl (cZ, 14, .inl Fx))]) hD hS hA [1, 2, 3, 4, 5] rfl
    refine va_callv (va_runV (As := [.int (nI (uI_ x))]) (rest := []) ⟨hx, hb, hml, hown, hts⟩ (c_X0_remove l D cI cZ cJ t1 t2 _ qa qb qh qw qf qu qg n hn (uI_ x) hyes Bd Hd Wt Fx hF) (cwV 1 hts gX3_drop_X0_remove rfl rfl rfl (by decide +kernel) ⟨Nat.le_of_ble_eq_true rfl, Nat.le_of_ble_eq_true rfl⟩) ⟨wr_blind, va_recv hK hP (ci := 1) (q0 := 1) rfl rfl, wr_pre hPc hDc hK hE hS hFc [0, 1, 2] rfl⟩ rfl rfl hl.1 rfl (lv_room (Nat.le_of_ble_eq_true rfl)) dX3_drop_18 ⟨Nat.le_of_ble_eq_true rfl, Nat.le_of_ble_eq_true rfl⟩) hS (fun q _ h => hFc q h) hFc (fun u_18 t H locs ht hvm hw_18 hB hz1 hk1 hS => ?_)
    obtain ⟨hP1, hK1, hD1⟩ := hB
    rw [ht] at hP1
    obtain ⟨hP, hD⟩ := va_join (wr := [(qx, .inr (4, [.ref qa, .ref qm, .ref ql, .ref qp, .int (nI g), .int ck, .int qk])), (qu, .inl (cJ, 14, .inr (.inl U))), (qg, .inl (cJ, 24, .inr (.inl G))), (qm, .inr (2, [.ref qn, .ref qo])), (qn, .inl (cJ, 256, .inr (.inl Mb))), (qo, .inl (cJ, 256, .inr (.inl Le))), (ql, .inr (3, [.ref qs, .int (nI z1)])), (qs, .inl (cI, 3432, .inl S1)), (qp, .inr (3, [.ref qr, .int (nI z2)])), (qr, .inl (cI, 3432, .inl S2))]) (w1 := [(qa, .inr (1, [.ref qb, .ref qh, .ref qw, .ref qf, .int (nI (n - 1)), .ref qu, .ref qg])), (qb, .inl (cI, 14, .inl (sh_ Bd (uI_ x) n))), (qh, .inl (cI, 14, .inl (sh_ Hd (uI_ x) n))), (qw, .inl (cI, 14, .inl (sh_ Wt (uI_ x) n))), (qf, .inl (cZ, 14, .inl (sh_ Fx (uI_ x) n)))]) hP hD [1, 2, 3, 4, 5] [0, 6, 7, 8, 9, 10, 11, 12, 13, 14] rfl rfl (by decide) (by decide) hk1 hFc hP1 hD1
    have hP : va_P D vwCl [(qx, .inr (4, [.ref qa, .ref qm, .ref ql, .ref qp, .int (nI g), .int ck, .int qk])), (qa, .inr (1, [.ref qb, .ref qh, .ref qw, .ref qf, .int (nI (n - 1)), .ref qu, .ref qg])), (qb, .inl (cI, 14, .inl (sh_ Bd (uI_ x) n))), (qh, .inl (cI, 14, .inl (sh_ Hd (uI_ x) n))), (qw, .inl (cI, 14, .inl (sh_ Wt (uI_ x) n))), (qf, .inl (cZ, 14, .inl (sh_ Fx (uI_ x) n))), (qu, .inl (cJ, 14, .inr (.inl U))), (qg, .inl (cJ, 24, .inr (.inl G))), (qm, .inr (2, [.ref qn, .ref qo])), (qn, .inl (cJ, 256, .inr (.inl Mb))), (qo, .inl (cJ, 256, .inr (.inl Le))), (ql, .inr (3, [.ref qs, .int (nI z1)])), (qs, .inl (cI, 3432, .inl S1)), (qp, .inr (3, [.ref qr, .int (nI z2)])), (qr, .inl (cI, 3432, .inl S2))] H := hP.sub [0, 10, 11, 12, 13, 14, 1, 2, 3, 4, 5, 6, 7, 8, 9] rfl
    have hD : va_D A [(qx, .inr (4, [.ref qa, .ref qm, .ref ql, .ref qp, .int (nI g), .int ck, .int qk])), (qa, .inr (1, [.ref qb, .ref qh, .ref qw, .ref qf, .int (nI (n - 1)), .ref qu, .ref qg])), (qb, .inl (cI, 14, .inl (sh_ Bd (uI_ x) n))), (qh, .inl (cI, 14, .inl (sh_ Hd (uI_ x) n))), (qw, .inl (cI, 14, .inl (sh_ Wt (uI_ x) n))), (qf, .inl (cZ, 14, .inl (sh_ Fx (uI_ x) n))), (qu, .inl (cJ, 14, .inr (.inl U))), (qg, .inl (cJ, 24, .inr (.inl G))), (qm, .inr (2, [.ref qn, .ref qo])), (qn, .inl (cJ, 256, .inr (.inl Mb))), (qo, .inl (cJ, 256, .inr (.inl Le))), (ql, .inr (3, [.ref qs, .int (nI z1)])), (qs, .inl (cI, 3432, .inl S1)), (qp, .inr (3, [.ref qr, .int (nI z2)])), (qr, .inl (cI, 3432, .inl S2))] := hD.sub [0, 10, 11, 12, 13, 14, 1, 2, 3, 4, 5, 6, 7, 8, 9] (by decide) rfl
    clear hPc hDc hFc hP1 hK1 hD1 hk1 hz1
    refine lv_aload_n hx hb dX3_drop_21 rfl (lv_at hl 0 rfl) ?_
    have hPc := hP.sub (ws' := [(qx, .inr (4, [.ref qa, .ref qm, .ref ql, .ref qp, .int (nI g), .int ck, .int qk]))]) [0] rfl
    have hDc := hD.sub (ws' := [(qx, .inr (4, [.ref qa, .ref qm, .ref ql, .ref qp, .int (nI g), .int ck, .int qk]))]) [0] (by decide) rfl
    have hFc := va_free (wc := [(qx, .inr (4, [.ref qa, .ref qm, .ref ql, .ref qp, .int (nI g), .int ck, .int qk]))]) hD hS hA [0] rfl
    refine va_callv (va_runV (As := []) (rest := []) ⟨hx, hb, hml, hown, hts⟩ (c_X3_forgetLists l D cI cZ cJ t1 t2 _ qx qa qb qh qw qf qu qg qm qn qo ql qs qp qr (n - 1) (sh_ Bd (uI_ x) n) (sh_ Hd (uI_ x) n) (sh_ Wt (uI_ x) n) (sh_ Fx (uI_ x) n) g U G Mb Le z1 S1 z2 S2 ck qk) (cwV 0 hts gX3_drop_X3_forgetLists rfl rfl rfl (by decide +kernel) ⟨Nat.le_of_ble_eq_true rfl, Nat.le_of_ble_eq_true rfl⟩) ⟨wr_blind, va_recv hK hP (ci := 4) (q0 := 0) rfl rfl, wr_pre hPc hDc hK hE hS hFc [0, 1, 2] rfl⟩ rfl rfl hl.1 rfl (lv_room (Nat.le_of_ble_eq_true rfl)) dX3_drop_22 ⟨Nat.le_of_ble_eq_true rfl, Nat.le_of_ble_eq_true rfl⟩) hS (fun q _ h => hFc q h) hFc (fun u_22 t H locs ht hvm hw_22 hB hz1 hk1 hS => ?_)
    obtain ⟨hP1, hK1, hD1⟩ := hB
    rw [ht] at hP1
    obtain ⟨hP, hD⟩ := va_join (wr := [(qa, .inr (1, [.ref qb, .ref qh, .ref qw, .ref qf, .int (nI (n - 1)), .ref qu, .ref qg])), (qb, .inl (cI, 14, .inl (sh_ Bd (uI_ x) n))), (qh, .inl (cI, 14, .inl (sh_ Hd (uI_ x) n))), (qw, .inl (cI, 14, .inl (sh_ Wt (uI_ x) n))), (qf, .inl (cZ, 14, .inl (sh_ Fx (uI_ x) n))), (qu, .inl (cJ, 14, .inr (.inl U))), (qg, .inl (cJ, 24, .inr (.inl G))), (qm, .inr (2, [.ref qn, .ref qo])), (qn, .inl (cJ, 256, .inr (.inl Mb))), (qo, .inl (cJ, 256, .inr (.inl Le))), (ql, .inr (3, [.ref qs, .int (nI z1)])), (qs, .inl (cI, 3432, .inl S1)), (qp, .inr (3, [.ref qr, .int (nI z2)])), (qr, .inl (cI, 3432, .inl S2))]) (w1 := [(qx, .inr (4, [.ref qa, .ref qm, .ref ql, .ref qp, .int (nI g), .int 0, .int 0]))]) hP hD [0] [1, 2, 3, 4, 5, 6, 7, 8, 9, 10, 11, 12, 13, 14] rfl rfl (by decide) (by decide) hk1 hFc hP1 hD1
    have hP : va_P D vwCl [(qx, .inr (4, [.ref qa, .ref qm, .ref ql, .ref qp, .int (nI g), .int 0, .int 0])), (qa, .inr (1, [.ref qb, .ref qh, .ref qw, .ref qf, .int (nI (n - 1)), .ref qu, .ref qg])), (qb, .inl (cI, 14, .inl (sh_ Bd (uI_ x) n))), (qh, .inl (cI, 14, .inl (sh_ Hd (uI_ x) n))), (qw, .inl (cI, 14, .inl (sh_ Wt (uI_ x) n))), (qf, .inl (cZ, 14, .inl (sh_ Fx (uI_ x) n))), (qu, .inl (cJ, 14, .inr (.inl U))), (qg, .inl (cJ, 24, .inr (.inl G))), (qm, .inr (2, [.ref qn, .ref qo])), (qn, .inl (cJ, 256, .inr (.inl Mb))), (qo, .inl (cJ, 256, .inr (.inl Le))), (ql, .inr (3, [.ref qs, .int (nI z1)])), (qs, .inl (cI, 3432, .inl S1)), (qp, .inr (3, [.ref qr, .int (nI z2)])), (qr, .inl (cI, 3432, .inl S2))] H := hP.sub [14, 0, 1, 2, 3, 4, 5, 6, 7, 8, 9, 10, 11, 12, 13] rfl
    have hD : va_D A [(qx, .inr (4, [.ref qa, .ref qm, .ref ql, .ref qp, .int (nI g), .int 0, .int 0])), (qa, .inr (1, [.ref qb, .ref qh, .ref qw, .ref qf, .int (nI (n - 1)), .ref qu, .ref qg])), (qb, .inl (cI, 14, .inl (sh_ Bd (uI_ x) n))), (qh, .inl (cI, 14, .inl (sh_ Hd (uI_ x) n))), (qw, .inl (cI, 14, .inl (sh_ Wt (uI_ x) n))), (qf, .inl (cZ, 14, .inl (sh_ Fx (uI_ x) n))), (qu, .inl (cJ, 14, .inr (.inl U))), (qg, .inl (cJ, 24, .inr (.inl G))), (qm, .inr (2, [.ref qn, .ref qo])), (qn, .inl (cJ, 256, .inr (.inl Mb))), (qo, .inl (cJ, 256, .inr (.inl Le))), (ql, .inr (3, [.ref qs, .int (nI z1)])), (qs, .inl (cI, 3432, .inl S1)), (qp, .inr (3, [.ref qr, .int (nI z2)])), (qr, .inl (cI, 3432, .inl S2))] := hD.sub [14, 0, 1, 2, 3, 4, 5, 6, 7, 8, 9, 10, 11, 12, 13] (by decide) rfl
    clear hPc hDc hFc hP1 hK1 hD1 hk1 hz1
    refine lv_aload_n hx hb dX3_drop_25 rfl (lv_at hl 0 rfl) ?_
    refine va_get (D := D) (ci := 4) (v := .ref qa) (C := RX3) (T := TX3) (N := 7) hx hb hts iX3 hown hK hP 0 rfl rfl 0 (by decide) (hts (.fieldLink RX3 12 "LeastSets" "rows" "LLeastSets$Axioms;") (by decide +kernel)) (fun _ h9 => h9) rfl dX3_drop_26 ?_
    refine va_getN (D := D) (ci := 1) (v := .int (nI (n - 1))) (C := RX0) (T := TX0) (N := 7) (host := "LeastSets") hx hb hts iX0 hown hK hP 1 rfl rfl 4 (by decide) (va_Nw.use rfl (hE.1 _ (List.mem_of_getElem? (i := 2) rfl))) (fun _ h9 => h9) rfl dX3_drop_29 ?_
    exact W.iret (v := (nI (n - 1))) hx hb hr (fun t ht hW => ⟨⟨(nI (n - 1)), ((n - 1, sh_ Bd (uI_ x) n, sh_ Hd (uI_ x) n, sh_ Wt (uI_ x) n, sh_ Fx (uI_ x) n, g), (U, G, Mb, Le, z1, S1, z2, S2, 0, 0)), rfl, ⟨(by first | exact (if_neg hno).symm | exact (if_pos hyes).symm), (by first | exact (if_neg hno).symm | exact (if_pos hyes).symm), (by first | exact hc | exact cok_drop hc hyes), (by first | exact hi | exact IV_0)⟩, by rw [ht]; exact hP, va_K.moved hW.alike hK, hD⟩, hS.F ht⟩) hS.2.2 dX3_drop_32
  · have hno : ¬ uI_ x < n := hu_no (by omega) hr_5 c_8
    refine lv_iconst (v := (-1)) hx hb dX3_drop_11 (by decide +kernel) ?_
    exact W.iret (v := (-1)) hx hb hr (fun t ht hW => ⟨⟨(-1), ((n, Bd, Hd, Wt, Fx, g), (U, G, Mb, Le, z1, S1, z2, S2, ck, qk)), rfl, ⟨(by first | exact (if_neg hno).symm | exact (if_pos hyes).symm), (by first | exact (if_neg hno).symm | exact (if_pos hyes).symm), (by first | exact hc | exact cok_drop hc hyes), (by first | exact hi | exact IV_0)⟩, by rw [ht]; exact hP, va_K.moved hW.alike hK, hD⟩, hS.F ht⟩) hS.2.2 dX3_drop_12
set_option maxHeartbeats 4000000 in
set_option maxRecDepth 100000 in
/-- fix(x, y) -/
theorem c_X3_fix (l : Launch) (D : va_G) (cI cZ cJ : ClassId) (t1 t2 sz : Nat) (qx qa qb qh qw qf qu qg qm qn qo ql qs qp qr : Nat) (n : Nat) (Bd Hd Wt Fx : Nat → Int32) (g : Nat) (U G Mb Le : Nat → Int64) (z1 : Nat) (S1 : Nat → Int32) (z2 : Nat) (S2 : Nat → Int32) (ck qk : Int32) (hc : CO_ n Bd Hd Fx g) (hi : IV_ n Bd Hd Fx g z1 S1 z2 S2 ck qk) (x y : Int32) (hy : y = 0 ∨ y = 1) : Met l yX3_fix wsX3_fix ({ frames := 1, cells := 0, slots := 0, locals := 21 } : Room) (va_Pc [.ref qx, .int x, .int y] (wr_ D [(cI, .int), (cZ, .boolean), (cJ, .long)] [(qx, .inr (4, [.ref qa, .ref qm, .ref ql, .ref qp, .int (nI g), .int ck, .int qk])), (qa, .inr (1, [.ref qb, .ref qh, .ref qw, .ref qf, .int (nI n), .ref qu, .ref qg])), (qb, .inl (cI, 14, .inl Bd)), (qh, .inl (cI, 14, .inl Hd)), (qw, .inl (cI, 14, .inl Wt)), (qf, .inl (cZ, 14, .inl Fx)), (qu, .inl (cJ, 14, .inr (.inl U))), (qg, .inl (cJ, 24, .inr (.inl G))), (qm, .inr (2, [.ref qn, .ref qo])), (qn, .inl (cJ, 256, .inr (.inl Mb))), (qo, .inl (cJ, 256, .inr (.inl Le))), (ql, .inr (3, [.ref qs, .int (nI z1)])), (qs, .inl (cI, 3432, .inl S1)), (qp, .inr (3, [.ref qr, .int (nI z2)])), (qr, .inl (cI, 3432, .inl S2))] t1 t2 sz)) (va_Qi (S := Co_ × Jk_) (fun r u => u.1 = t_fix (n, Bd, Hd, Wt, Fx, g) x y ∧ q_fix (n, Bd, Hd, Wt, Fx, g) x r ∧ cok_ u.1 ∧ iv_ u.1 u.2) (fun u => wd_ D [(cI, .int), (cZ, .boolean), (cJ, .long)] (va_A [(qx, .inr (4, [.ref qa, .ref qm, .ref ql, .ref qp, .int (nI g), .int ck, .int qk])), (qa, .inr (1, [.ref qb, .ref qh, .ref qw, .ref qf, .int (nI n), .ref qu, .ref qg])), (qb, .inl (cI, 14, .inl Bd)), (qh, .inl (cI, 14, .inl Hd)), (qw, .inl (cI, 14, .inl Wt)), (qf, .inl (cZ, 14, .inl Fx)), (qu, .inl (cJ, 14, .inr (.inl U))), (qg, .inl (cJ, 24, .inr (.inl G))), (qm, .inr (2, [.ref qn, .ref qo])), (qn, .inl (cJ, 256, .inr (.inl Mb))), (qo, .inl (cJ, 256, .inr (.inl Le))), (ql, .inr (3, [.ref qs, .int (nI z1)])), (qs, .inl (cI, 3432, .inl S1)), (qp, .inr (3, [.ref qr, .int (nI z2)])), (qr, .inl (cI, 3432, .inl S2))] sz) [(qx, .inr (4, [.ref qa, .ref qm, .ref ql, .ref qp, .int (nI u.1.2.2.2.2.2), .int u.2.2.2.2.2.2.2.2.2.1, .int u.2.2.2.2.2.2.2.2.2.2])), (qa, .inr (1, [.ref qb, .ref qh, .ref qw, .ref qf, .int (nI u.1.1), .ref qu, .ref qg])), (qb, .inl (cI, 14, .inl u.1.2.1)), (qh, .inl (cI, 14, .inl u.1.2.2.1)), (qw, .inl (cI, 14, .inl u.1.2.2.2.1)), (qf, .inl (cZ, 14, .inl u.1.2.2.2.2.1)), (qu, .inl (cJ, 14, .inr (.inl u.2.1))), (qg, .inl (cJ, 24, .inr (.inl u.2.2.1))), (qm, .inr (2, [.ref qn, .ref qo])), (qn, .inl (cJ, 256, .inr (.inl u.2.2.2.1))), (qo, .inl (cJ, 256, .inr (.inl u.2.2.2.2.1))), (ql, .inr (3, [.ref qs, .int (nI u.2.2.2.2.2.1)])), (qs, .inl (cI, 3432, .inl u.2.2.2.2.2.2.1)), (qp, .inr (3, [.ref qr, .int (nI u.2.2.2.2.2.2.2.1)])), (qr, .inl (cI, 3432, .inl u.2.2.2.2.2.2.2.2.1))]) (va_A [(qx, .inr (4, [.ref qa, .ref qm, .ref ql, .ref qp, .int (nI g), .int ck, .int qk])), (qa, .inr (1, [.ref qb, .ref qh, .ref qw, .ref qf, .int (nI n), .ref qu, .ref qg])), (qb, .inl (cI, 14, .inl Bd)), (qh, .inl (cI, 14, .inl Hd)), (qw, .inl (cI, 14, .inl Wt)), (qf, .inl (cZ, 14, .inl Fx)), (qu, .inl (cJ, 14, .inr (.inl U))), (qg, .inl (cJ, 24, .inr (.inl G))), (qm, .inr (2, [.ref qn, .ref qo])), (qn, .inl (cJ, 256, .inr (.inl Mb))), (qo, .inl (cJ, 256, .inr (.inl Le))), (ql, .inr (3, [.ref qs, .int (nI z1)])), (qs, .inl (cI, 3432, .inl S1)), (qp, .inr (3, [.ref qr, .int (nI z2)])), (qr, .inl (cI, 3432, .inl S2))] sz)) 0 0 (va_A [(qx, .inr (4, [.ref qa, .ref qm, .ref ql, .ref qp, .int (nI g), .int ck, .int qk])), (qa, .inr (1, [.ref qb, .ref qh, .ref qw, .ref qf, .int (nI n), .ref qu, .ref qg])), (qb, .inl (cI, 14, .inl Bd)), (qh, .inl (cI, 14, .inl Hd)), (qw, .inl (cI, 14, .inl Wt)), (qf, .inl (cZ, 14, .inl Fx)), (qu, .inl (cJ, 14, .inr (.inl U))), (qg, .inl (cJ, 24, .inr (.inl G))), (qm, .inr (2, [.ref qn, .ref qo])), (qn, .inl (cJ, 256, .inr (.inl Mb))), (qo, .inl (cJ, 256, .inr (.inl Le))), (ql, .inr (3, [.ref qs, .int (nI z1)])), (qs, .inl (cI, 3432, .inl S1)), (qp, .inr (3, [.ref qr, .int (nI z2)])), (qr, .inl (cI, 3432, .inl S2))] sz) := by
  refine Met.ofW (cc := cX3_fix) (maxL := 4) (ret := (some .int)) (by decide) rfl ?_
  intro p e s m args below meth c s₁ B hml hv
  obtain ⟨rfl, hsz, hP, hK, hD0, hE⟩ := hv
  have hx := B.exec
  have hb := B.bytes
  have hr := B.returns
  have hts := atoms_spec (ws := wsX3_fix) B.pre
  have hown : s.vm.findClass RX3 = some m.cls := findClass_of_methodNamed B.named
  have hlocks := B.notSynchronized
  have iX3 : ∀ w ∈ u_ws RX3 TX3 7, w ∈ wsX3_fix := by decide +kernel
  have iX0 : ∀ w ∈ u_ws RX0 TX0 7, w ∈ wsX3_fix := by decide +kernel
  subst hsz
  have hD := hD0.self (sz := s.heap.size)
  generalize hAe : va_A [(qx, .inr (4, [.ref qa, .ref qm, .ref ql, .ref qp, .int (nI g), .int ck, .int qk])), (qa, .inr (1, [.ref qb, .ref qh, .ref qw, .ref qf, .int (nI n), .ref qu, .ref qg])), (qb, .inl (cI, 14, .inl Bd)), (qh, .inl (cI, 14, .inl Hd)), (qw, .inl (cI, 14, .inl Wt)), (qf, .inl (cZ, 14, .inl Fx)), (qu, .inl (cJ, 14, .inr (.inl U))), (qg, .inl (cJ, 24, .inr (.inl G))), (qm, .inr (2, [.ref qn, .ref qo])), (qn, .inl (cJ, 256, .inr (.inl Mb))), (qo, .inl (cJ, 256, .inr (.inl Le))), (ql, .inr (3, [.ref qs, .int (nI z1)])), (qs, .inl (cI, 3432, .inl S1)), (qp, .inr (3, [.ref qr, .int (nI z2)])), (qr, .inl (cI, 3432, .inl S2))] s.heap.size = A at hD hE ⊢
  have hA : ∀ q : Nat, s.heap.size ≤ q → A q := fun q h => by rw [← hAe]; exact Or.inr h
  have hS : va_S A s.heap s.heap [] := va_S.rf
  obtain ⟨hn, hg, hok, hF⟩ := id hc
  have hl := lv_entry ([.ref qx, .int x, .int y]) (n := 4) (Nat.le_of_ble_eq_true rfl)
  rw [lg_entry_eq]
  generalize (lg_sl ([.ref qx, .int x, .int y]) ++ List.replicate (4 - (lg_sl ([.ref qx, .int x, .int y])).length) Slot.unset).toArray = ls at hl ⊢
  have hl : lv_has ls 4 [(0, .ref qx), (1, .int x), (2, .int y)] := hl
  refine lv_aload_n hx hb dX3_fix_0 rfl (lv_at hl 0 rfl) ?_
  refine va_get (D := D) (ci := 4) (v := .ref qa) (C := RX3) (T := TX3) (N := 7) hx hb hts iX3 hown hK hP 0 rfl rfl 0 (by decide) (hts (.fieldLink RX3 12 "LeastSets" "rows" "LLeastSets$Axioms;") (by decide +kernel)) (fun _ h9 => h9) rfl dX3_fix_1 ?_
  refine lv_iload_n hx hb dX3_fix_4 rfl (lv_at hl 1 rfl) ?_
  refine vp_callSi (va_runV (As := [.int x]) (rest := []) ⟨hx, hb, hml, hown, hts⟩ (c_X0_has l D cI cZ cJ qa qb qh qw qf qu qg n hn x) (cwV 1 hts gX3_fix_X0_has rfl rfl rfl (by decide +kernel) ⟨Nat.le_of_ble_eq_true rfl, Nat.le_of_ble_eq_true rfl⟩) ⟨ro_blind, va_recv hK hP (ci := 1) (q0 := 1) rfl rfl, ro_pre (hP.sub (ws' := [(qa, .inr (1, [.ref qb, .ref qh, .ref qw, .ref qf, .int (nI n), .ref qu, .ref qg]))]) [1] rfl) hK [0, 1, 2] rfl⟩ rfl rfl hl.1 rfl (lv_room (Nat.le_of_ble_eq_true rfl)) dX3_fix_5 ⟨Nat.le_of_ble_eq_true rfl, Nat.le_of_ble_eq_true rfl⟩).run (fun r_5 hr_5 => ?_)
  refine lv_if_ne (tgt := 13) hx hb dX3_fix_8 (by decide) (fun c_8 => ?_) (fun c_8 => ?_)
  · obtain ⟨hyes, ex⟩ := hu_yes (by omega) hr_5 c_8
    rw [ex] at hl
    refine lv_aload_n hx hb dX3_fix_13 rfl (lv_at hl 0 rfl) ?_
    refine va_get (D := D) (ci := 4) (v := .ref qa) (C := RX3) (T := TX3) (N := 7) hx hb hts iX3 hown hK hP 0 rfl rfl 0 (by decide) (hts (.fieldLink RX3 12 "LeastSets" "rows" "LLeastSets$Axioms;") (by decide +kernel)) (fun _ h9 => h9) rfl dX3_fix_14 ?_
    refine va_getN (D := D) (ci := 1) (v := .ref qf) (C := RX0) (T := TX0) (N := 7) (host := "LeastSets") hx hb hts iX0 hown hK hP 1 rfl rfl 3 (by decide) (va_Nw.use rfl (hE.1 _ (List.mem_of_getElem? (i := 1) rfl))) (fun _ h9 => h9) rfl dX3_fix_17 ?_
    refine lv_iload_n hx hb dX3_fix_20 rfl (lv_at hl 1 rfl) ?_
    refine r_zald hx hb hK hP 5 1 rfl rfl (uI_ x) (by omega) (by omega) dX3_fix_21 ?_
    refine lv_istore_n (lv' := [(3, .int (Fx (uI_ x))), (0, .ref qx), (1, .int (nI (uI_ x))), (2, .int y)]) hx hb dX3_fix_22 rfl hl (by decide) rfl (fun ls hl => ?_)
    refine lv_aload_n hx hb dX3_fix_23 rfl (lv_at hl 1 rfl) ?_
    refine va_get (D := D) (ci := 4) (v := .ref qa) (C := RX3) (T := TX3) (N := 7) hx hb hts iX3 hown hK hP 0 rfl rfl 0 (by decide) (hts (.fieldLink RX3 12 "LeastSets" "rows" "LLeastSets$Axioms;") (by decide +kernel)) (fun _ h9 => h9) rfl dX3_fix_24 ?_
    refine va_getN (D := D) (ci := 1) (v := .ref qf) (C := RX0) (T := TX0) (N := 7) (host := "LeastSets") hx hb hts iX0 hown hK hP 1 rfl rfl 3 (by decide) (va_Nw.use rfl (hE.1 _ (List.mem_of_getElem? (i := 1) rfl))) (fun _ h9 => h9) rfl dX3_fix_27 ?_
    refine lv_iload_n hx hb dX3_fix_30 rfl (lv_at hl 2 rfl) ?_
    refine lv_iload_n hx hb dX3_fix_31 rfl (lv_at hl 3 rfl) ?_
    refine r_zast hx hb hK hP hD hS 5 1 rfl rfl (uI_ x) (hy) (by omega) (by omega) dX3_fix_32 (fun H locs hP hD hS => ?_)
    have hP : va_P D vwCl [(qx, .inr (4, [.ref qa, .ref qm, .ref ql, .ref qp, .int (nI g), .int ck, .int qk])), (qa, .inr (1, [.ref qb, .ref qh, .ref qw, .ref qf, .int (nI n), .ref qu, .ref qg])), (qb, .inl (cI, 14, .inl Bd)), (qh, .inl (cI, 14, .inl Hd)), (qw, .inl (cI, 14, .inl Wt)), (qf, .inl (cZ, 14, .inl (upd Fx (uI_ x) y))), (qu, .inl (cJ, 14, .inr (.inl U))), (qg, .inl (cJ, 24, .inr (.inl G))), (qm, .inr (2, [.ref qn, .ref qo])), (qn, .inl (cJ, 256, .inr (.inl Mb))), (qo, .inl (cJ, 256, .inr (.inl Le))), (ql, .inr (3, [.ref qs, .int (nI z1)])), (qs, .inl (cI, 3432, .inl S1)), (qp, .inr (3, [.ref qr, .int (nI z2)])), (qr, .inl (cI, 3432, .inl S2))] H := hP
    have hD : va_D A [(qx, .inr (4, [.ref qa, .ref qm, .ref ql, .ref qp, .int (nI g), .int ck, .int qk])), (qa, .inr (1, [.ref qb, .ref qh, .ref qw, .ref qf, .int (nI n), .ref qu, .ref qg])), (qb, .inl (cI, 14, .inl Bd)), (qh, .inl (cI, 14, .inl Hd)), (qw, .inl (cI, 14, .inl Wt)), (qf, .inl (cZ, 14, .inl (upd Fx (uI_ x) y))), (qu, .inl (cJ, 14, .inr (.inl U))), (qg, .inl (cJ, 24, .inr (.inl G))), (qm, .inr (2, [.ref qn, .ref qo])), (qn, .inl (cJ, 256, .inr (.inl Mb))), (qo, .inl (cJ, 256, .inr (.inl Le))), (ql, .inr (3, [.ref qs, .int (nI z1)])), (qs, .inl (cI, 3432, .inl S1)), (qp, .inr (3, [.ref qr, .int (nI z2)])), (qr, .inl (cI, 3432, .inl S2))] := hD
    refine lv_aload_n hx hb dX3_fix_33 rfl (lv_at hl 1 rfl) ?_
    refine lv_iconst (v := 0) hx hb dX3_fix_34 (by decide +kernel) ?_
    refine va_put (D := D) (ci := 4) (v := .int 0) (ty := .boolean) (C := RX3) (T := TX3) (N := 7) hx hb hts iX3 tyX3 tyX3_ok nmX3 hown hK hP hD hS 0 rfl rfl 6 (by decide) (hts (.fieldLink RX3 41 "LeastSets" "curesKnown" "Z") (by decide +kernel)) (fun _ h9 => h9) rfl (by decide +kernel) rfl rfl (Nat.le_of_ble_eq_true rfl) dX3_fix_35 (fun H locs hP hD hS => ?_)
    have hP : va_P D vwCl [(qx, .inr (4, [.ref qa, .ref qm, .ref ql, .ref qp, .int (nI g), .int ck, .int 0])), (qa, .inr (1, [.ref qb, .ref qh, .ref qw, .ref qf, .int (nI n), .ref qu, .ref qg])), (qb, .inl (cI, 14, .inl Bd)), (qh, .inl (cI, 14, .inl Hd)), (qw, .inl (cI, 14, .inl Wt)), (qf, .inl (cZ, 14, .inl (upd Fx (uI_ x) y))), (qu, .inl (cJ, 14, .inr (.inl U))), (qg, .inl (cJ, 24, .inr (.inl G))), (qm, .inr (2, [.ref qn, .ref qo])), (qn, .inl (cJ, 256, .inr (.inl Mb))), (qo, .inl (cJ, 256, .inr (.inl Le))), (ql, .inr (3, [.ref qs, .int (nI z1)])), (qs, .inl (cI, 3432, .inl S1)), (qp, .inr (3, [.ref qr, .int (nI z2)])), (qr, .inl (cI, 3432, .inl S2))] H := hP
    have hD : va_D A [(qx, .inr (4, [.ref qa, .ref qm, .ref ql, .ref qp, .int (nI g), .int ck, .int 0])), (qa, .inr (1, [.ref qb, .ref qh, .ref qw, .ref qf, .int (nI n), .ref qu, .ref qg])), (qb, .inl (cI, 14, .inl Bd)), (qh, .inl (cI, 14, .inl Hd)), (qw, .inl (cI, 14, .inl Wt)), (qf, .inl (cZ, 14, .inl (upd Fx (uI_ x) y))), (qu, .inl (cJ, 14, .inr (.inl U))), (qg, .inl (cJ, 24, .inr (.inl G))), (qm, .inr (2, [.ref qn, .ref qo])), (qn, .inl (cJ, 256, .inr (.inl Mb))), (qo, .inl (cJ, 256, .inr (.inl Le))), (ql, .inr (3, [.ref qs, .int (nI z1)])), (qs, .inl (cI, 3432, .inl S1)), (qp, .inr (3, [.ref qr, .int (nI z2)])), (qr, .inl (cI, 3432, .inl S2))] := hD
    refine lv_iload_n hx hb dX3_fix_38 rfl (lv_at hl 0 rfl) ?_
    refine lv_if_eq (tgt := 46) hx hb dX3_fix_39 (by decide) (fun c_39 => ?_) (fun c_39 => ?_)
    · refine lv_iconst (v := 0) hx hb dX3_fix_46 (by decide +kernel) ?_
      exact W.iret (v := 0) hx hb hr (fun t ht hW => ⟨⟨0, ((n, Bd, Hd, Wt, upd Fx (uI_ x) y, g), (U, G, Mb, Le, z1, S1, z2, S2, ck, 0)), rfl, ⟨(by first | exact (if_neg hno).symm | exact (if_pos hyes).symm), (by first | exact (if_neg hno).symm | exact (((if_pos hyes).trans ((hF _ hyes).resolve_left c_39)).symm) | exact ((if_pos hyes).trans c_39).symm), (by first | exact hc | exact cok_fix hc hy), (by first | exact hi | exact ⟨hi.1, Or.inl rfl, hi.2.2.1, fun h => absurd h (by decide)⟩)⟩, by rw [ht]; exact hP, va_K.moved hW.alike hK, hD⟩, hS.F ht⟩) hS.2.2 dX3_fix_47
    · refine lv_iconst (v := 1) hx hb dX3_fix_42 (by decide +kernel) ?_
      refine lv_goto (tgt := 47) hx hb dX3_fix_43 (by decide) ?_
      exact W.iret (v := 1) hx hb hr (fun t ht hW => ⟨⟨1, ((n, Bd, Hd, Wt, upd Fx (uI_ x) y, g), (U, G, Mb, Le, z1, S1, z2, S2, ck, 0)), rfl, ⟨(by first | exact (if_neg hno).symm | exact (if_pos hyes).symm), (by first | exact (if_neg hno).symm | exact (((if_pos hyes).trans ((hF _ hyes).resolve_left c_39)).symm) | exact ((if_pos hyes).trans c_39).symm), (by first | exact hc | exact cok_fix hc hy), (by first | exact hi | exact ⟨hi.1, Or.inl rfl, hi.2.2.1, fun h => absurd h (by decide)⟩)⟩, by rw [ht]; exact hP, va_K.moved hW.alike hK, hD⟩, hS.F ht⟩) hS.2.2 dX3_fix_47
  · have hno : ¬ uI_ x < n := hu_no (by omega) hr_5 c_8
    refine lv_iconst (v := (-1)) hx hb dX3_fix_11 (by decide +kernel) ?_
    exact W.iret (v := (-1)) hx hb hr (fun t ht hW => ⟨⟨(-1), ((n, Bd, Hd, Wt, Fx, g), (U, G, Mb, Le, z1, S1, z2, S2, ck, qk)), rfl, ⟨(by first | exact (if_neg hno).symm | exact (if_pos hyes).symm), (by first | exact (if_neg hno).symm | exact (((if_pos hyes).trans ((hF _ hyes).resolve_left c_39)).symm) | exact ((if_pos hyes).trans c_39).symm), (by first | exact hc | exact cok_fix hc hy), (by first | exact hi | exact ⟨hi.1, Or.inl rfl, hi.2.2.1, fun h => absurd h (by decide)⟩)⟩, by rw [ht]; exact hP, va_K.moved hW.alike hK, hD⟩, hS.F ht⟩) hS.2.2 dX3_fix_12
set_option maxHeartbeats 4000000 in
set_option maxRecDepth 100000 in
/-- weight(x, y) -/
theorem c_X3_weight (l : Launch) (D : va_G) (cI cZ cJ : ClassId) (t1 t2 sz : Nat) (qx qa qb qh qw qf qu qg qm qn qo ql qs qp qr : Nat) (n : Nat) (Bd Hd Wt Fx : Nat → Int32) (g : Nat) (U G Mb Le : Nat → Int64) (z1 : Nat) (S1 : Nat → Int32) (z2 : Nat) (S2 : Nat → Int32) (ck qk : Int32) (hc : CO_ n Bd Hd Fx g) (hi : IV_ n Bd Hd Fx g z1 S1 z2 S2 ck qk) (x y : Int32) : Met l yX3_weight wsX3_weight ({ frames := 1, cells := 0, slots := 0, locals := 21 } : Room) (va_Pc [.ref qx, .int x, .int y] (wr_ D [(cI, .int), (cZ, .boolean), (cJ, .long)] [(qx, .inr (4, [.ref qa, .ref qm, .ref ql, .ref qp, .int (nI g), .int ck, .int qk])), (qa, .inr (1, [.ref qb, .ref qh, .ref qw, .ref qf, .int (nI n), .ref qu, .ref qg])), (qb, .inl (cI, 14, .inl Bd)), (qh, .inl (cI, 14, .inl Hd)), (qw, .inl (cI, 14, .inl Wt)), (qf, .inl (cZ, 14, .inl Fx)), (qu, .inl (cJ, 14, .inr (.inl U))), (qg, .inl (cJ, 24, .inr (.inl G))), (qm, .inr (2, [.ref qn, .ref qo])), (qn, .inl (cJ, 256, .inr (.inl Mb))), (qo, .inl (cJ, 256, .inr (.inl Le))), (ql, .inr (3, [.ref qs, .int (nI z1)])), (qs, .inl (cI, 3432, .inl S1)), (qp, .inr (3, [.ref qr, .int (nI z2)])), (qr, .inl (cI, 3432, .inl S2))] t1 t2 sz)) (va_Qi (S := Co_ × Jk_) (fun r u => u.1 = t_weight (n, Bd, Hd, Wt, Fx, g) x y ∧ q_weight (n, Bd, Hd, Wt, Fx, g) x y r ∧ cok_ u.1 ∧ iv_ u.1 u.2) (fun u => wd_ D [(cI, .int), (cZ, .boolean), (cJ, .long)] (va_A [(qx, .inr (4, [.ref qa, .ref qm, .ref ql, .ref qp, .int (nI g), .int ck, .int qk])), (qa, .inr (1, [.ref qb, .ref qh, .ref qw, .ref qf, .int (nI n), .ref qu, .ref qg])), (qb, .inl (cI, 14, .inl Bd)), (qh, .inl (cI, 14, .inl Hd)), (qw, .inl (cI, 14, .inl Wt)), (qf, .inl (cZ, 14, .inl Fx)), (qu, .inl (cJ, 14, .inr (.inl U))), (qg, .inl (cJ, 24, .inr (.inl G))), (qm, .inr (2, [.ref qn, .ref qo])), (qn, .inl (cJ, 256, .inr (.inl Mb))), (qo, .inl (cJ, 256, .inr (.inl Le))), (ql, .inr (3, [.ref qs, .int (nI z1)])), (qs, .inl (cI, 3432, .inl S1)), (qp, .inr (3, [.ref qr, .int (nI z2)])), (qr, .inl (cI, 3432, .inl S2))] sz) [(qx, .inr (4, [.ref qa, .ref qm, .ref ql, .ref qp, .int (nI u.1.2.2.2.2.2), .int u.2.2.2.2.2.2.2.2.2.1, .int u.2.2.2.2.2.2.2.2.2.2])), (qa, .inr (1, [.ref qb, .ref qh, .ref qw, .ref qf, .int (nI u.1.1), .ref qu, .ref qg])), (qb, .inl (cI, 14, .inl u.1.2.1)), (qh, .inl (cI, 14, .inl u.1.2.2.1)), (qw, .inl (cI, 14, .inl u.1.2.2.2.1)), (qf, .inl (cZ, 14, .inl u.1.2.2.2.2.1)), (qu, .inl (cJ, 14, .inr (.inl u.2.1))), (qg, .inl (cJ, 24, .inr (.inl u.2.2.1))), (qm, .inr (2, [.ref qn, .ref qo])), (qn, .inl (cJ, 256, .inr (.inl u.2.2.2.1))), (qo, .inl (cJ, 256, .inr (.inl u.2.2.2.2.1))), (ql, .inr (3, [.ref qs, .int (nI u.2.2.2.2.2.1)])), (qs, .inl (cI, 3432, .inl u.2.2.2.2.2.2.1)), (qp, .inr (3, [.ref qr, .int (nI u.2.2.2.2.2.2.2.1)])), (qr, .inl (cI, 3432, .inl u.2.2.2.2.2.2.2.2.1))]) (va_A [(qx, .inr (4, [.ref qa, .ref qm, .ref ql, .ref qp, .int (nI g), .int ck, .int qk])), (qa, .inr (1, [.ref qb, .ref qh, .ref qw, .ref qf, .int (nI n), .ref qu, .ref qg])), (qb, .inl (cI, 14, .inl Bd)), (qh, .inl (cI, 14, .inl Hd)), (qw, .inl (cI, 14, .inl Wt)), (qf, .inl (cZ, 14, .inl Fx)), (qu, .inl (cJ, 14, .inr (.inl U))), (qg, .inl (cJ, 24, .inr (.inl G))), (qm, .inr (2, [.ref qn, .ref qo])), (qn, .inl (cJ, 256, .inr (.inl Mb))), (qo, .inl (cJ, 256, .inr (.inl Le))), (ql, .inr (3, [.ref qs, .int (nI z1)])), (qs, .inl (cI, 3432, .inl S1)), (qp, .inr (3, [.ref qr, .int (nI z2)])), (qr, .inl (cI, 3432, .inl S2))] sz)) 0 0 (va_A [(qx, .inr (4, [.ref qa, .ref qm, .ref ql, .ref qp, .int (nI g), .int ck, .int qk])), (qa, .inr (1, [.ref qb, .ref qh, .ref qw, .ref qf, .int (nI n), .ref qu, .ref qg])), (qb, .inl (cI, 14, .inl Bd)), (qh, .inl (cI, 14, .inl Hd)), (qw, .inl (cI, 14, .inl Wt)), (qf, .inl (cZ, 14, .inl Fx)), (qu, .inl (cJ, 14, .inr (.inl U))), (qg, .inl (cJ, 24, .inr (.inl G))), (qm, .inr (2, [.ref qn, .ref qo])), (qn, .inl (cJ, 256, .inr (.inl Mb))), (qo, .inl (cJ, 256, .inr (.inl Le))), (ql, .inr (3, [.ref qs, .int (nI z1)])), (qs, .inl (cI, 3432, .inl S1)), (qp, .inr (3, [.ref qr, .int (nI z2)])), (qr, .inl (cI, 3432, .inl S2))] sz) := by
  refine Met.ofW (cc := cX3_weight) (maxL := 4) (ret := (some .int)) (by decide) rfl ?_
  intro p e s m args below meth c s₁ B hml hv
  obtain ⟨rfl, hsz, hP, hK, hD0, hE⟩ := hv
  have hx := B.exec
  have hb := B.bytes
  have hr := B.returns
  have hts := atoms_spec (ws := wsX3_weight) B.pre
  have hown : s.vm.findClass RX3 = some m.cls := findClass_of_methodNamed B.named
  have hlocks := B.notSynchronized
  have iX3 : ∀ w ∈ u_ws RX3 TX3 7, w ∈ wsX3_weight := by decide +kernel
  have iX0 : ∀ w ∈ u_ws RX0 TX0 7, w ∈ wsX3_weight := by decide +kernel
  subst hsz
  have hD := hD0.self (sz := s.heap.size)
  generalize hAe : va_A [(qx, .inr (4, [.ref qa, .ref qm, .ref ql, .ref qp, .int (nI g), .int ck, .int qk])), (qa, .inr (1, [.ref qb, .ref qh, .ref qw, .ref qf, .int (nI n), .ref qu, .ref qg])), (qb, .inl (cI, 14, .inl Bd)), (qh, .inl (cI, 14, .inl Hd)), (qw, .inl (cI, 14, .inl Wt)), (qf, .inl (cZ, 14, .inl Fx)), (qu, .inl (cJ, 14, .inr (.inl U))), (qg, .inl (cJ, 24, .inr (.inl G))), (qm, .inr (2, [.ref qn, .ref qo])), (qn, .inl (cJ, 256, .inr (.inl Mb))), (qo, .inl (cJ, 256, .inr (.inl Le))), (ql, .inr (3, [.ref qs, .int (nI z1)])), (qs, .inl (cI, 3432, .inl S1)), (qp, .inr (3, [.ref qr, .int (nI z2)])), (qr, .inl (cI, 3432, .inl S2))] s.heap.size = A at hD hE ⊢
  have hA : ∀ q : Nat, s.heap.size ≤ q → A q := fun q h => by rw [← hAe]; exact Or.inr h
  have hS : va_S A s.heap s.heap [] := va_S.rf
  obtain ⟨hn, hg, hok, hF⟩ := id hc
  have hl := lv_entry ([.ref qx, .int x, .int y]) (n := 4) (Nat.le_of_ble_eq_true rfl)
  rw [lg_entry_eq]
  generalize (lg_sl ([.ref qx, .int x, .int y]) ++ List.replicate (4 - (lg_sl ([.ref qx, .int x, .int y])).length) Slot.unset).toArray = ls at hl ⊢
  have hl : lv_has ls 4 [(0, .ref qx), (1, .int x), (2, .int y)] := hl
  refine lv_aload_n hx hb dX3_weight_0 rfl (lv_at hl 0 rfl) ?_
  refine va_get (D := D) (ci := 4) (v := .ref qa) (C := RX3) (T := TX3) (N := 7) hx hb hts iX3 hown hK hP 0 rfl rfl 0 (by decide) (hts (.fieldLink RX3 12 "LeastSets" "rows" "LLeastSets$Axioms;") (by decide +kernel)) (fun _ h9 => h9) rfl dX3_weight_1 ?_
  refine lv_iload_n hx hb dX3_weight_4 rfl (lv_at hl 1 rfl) ?_
  refine vp_callSi (va_runV (As := [.int x]) (rest := []) ⟨hx, hb, hml, hown, hts⟩ (c_X0_has l D cI cZ cJ qa qb qh qw qf qu qg n hn x) (cwV 1 hts gX3_weight_X0_has rfl rfl rfl (by decide +kernel) ⟨Nat.le_of_ble_eq_true rfl, Nat.le_of_ble_eq_true rfl⟩) ⟨ro_blind, va_recv hK hP (ci := 1) (q0 := 1) rfl rfl, ro_pre (hP.sub (ws' := [(qa, .inr (1, [.ref qb, .ref qh, .ref qw, .ref qf, .int (nI n), .ref qu, .ref qg]))]) [1] rfl) hK [0, 1, 2] rfl⟩ rfl rfl hl.1 rfl (lv_room (Nat.le_of_ble_eq_true rfl)) dX3_weight_5 ⟨Nat.le_of_ble_eq_true rfl, Nat.le_of_ble_eq_true rfl⟩).run (fun r_5 hr_5 => ?_)
  refine lv_if_eq (tgt := 22) hx hb dX3_weight_8 (by decide) (fun c_8 => ?_) (fun c_8 => ?_)
  · have hno : ¬ (uI_ x < n ∧ uI_ y ≤ 1000) := fun q => hu_no (by omega) hr_5 c_8 q.1
    refine lv_iconst (v := (-1)) hx hb dX3_weight_22 (by decide +kernel) ?_
    exact W.iret (v := (-1)) hx hb hr (fun t ht hW => ⟨⟨(-1), ((n, Bd, Hd, Wt, Fx, g), (U, G, Mb, Le, z1, S1, z2, S2, ck, qk)), rfl, ⟨(by first | exact (if_neg hno).symm | exact (if_pos hy2).symm), (by first | exact (if_neg hno).symm | exact (if_pos hy2).symm), hc, hi⟩, by rw [ht]; exact hP, va_K.moved hW.alike hK, hD⟩, hS.F ht⟩) hS.2.2 dX3_weight_23
  · obtain ⟨hyes, ex⟩ := hu_yes (by omega) hr_5 c_8
    rw [ex] at hl
    refine lv_iload_n hx hb dX3_weight_11 rfl (lv_at hl 2 rfl) ?_
    refine lv_if_lt (tgt := 22) hx hb dX3_weight_12 (by decide) (fun c_12 => ?_) (fun c_12 => ?_)
    · have hno : ¬ (uI_ x < n ∧ uI_ y ≤ 1000) := fun q => ((in_uI (by omega)).mpr q.2).1 c_12
      refine lv_iconst (v := (-1)) hx hb dX3_weight_22 (by decide +kernel) ?_
      exact W.iret (v := (-1)) hx hb hr (fun t ht hW => ⟨⟨(-1), ((n, Bd, Hd, Wt, Fx, g), (U, G, Mb, Le, z1, S1, z2, S2, ck, qk)), rfl, ⟨(by first | exact (if_neg hno).symm | exact (if_pos hy2).symm), (by first | exact (if_neg hno).symm | exact (if_pos hy2).symm), hc, hi⟩, by rw [ht]; exact hP, va_K.moved hW.alike hK, hD⟩, hS.F ht⟩) hS.2.2 dX3_weight_23
    · refine lv_iload_n hx hb dX3_weight_15 rfl (lv_at hl 2 rfl) ?_
      refine lv_sipush (v := (nI 1000)) hx hb dX3_weight_16 (by decide +kernel) ?_
      refine lv_icmp_le (tgt := 24) hx hb dX3_weight_19 (by decide) (fun c_19 => ?_) (fun c_19 => ?_)
      · have hy2 : uI_ x < n ∧ uI_ y ≤ 1000 := ⟨hyes, (in_uI (by omega)).mp ⟨c_12, c_19⟩⟩
        refine lv_aload_n hx hb dX3_weight_24 rfl (lv_at hl 0 rfl) ?_
        refine va_get (D := D) (ci := 4) (v := .ref qa) (C := RX3) (T := TX3) (N := 7) hx hb hts iX3 hown hK hP 0 rfl rfl 0 (by decide) (hts (.fieldLink RX3 12 "LeastSets" "rows" "LLeastSets$Axioms;") (by decide +kernel)) (fun _ h9 => h9) rfl dX3_weight_25 ?_
        refine va_getN (D := D) (ci := 1) (v := .ref qw) (C := RX0) (T := TX0) (N := 7) (host := "LeastSets") hx hb hts iX0 hown hK hP 1 rfl rfl 2 (by decide) (va_Nw.use rfl (hE.1 _ (List.mem_of_getElem? (i := 0) rfl))) (fun _ h9 => h9) rfl dX3_weight_28 ?_
        refine lv_iload_n hx hb dX3_weight_31 rfl (lv_at hl 1 rfl) ?_
        refine r_iald hx hb hK hP 4 0 rfl rfl (uI_ x) (by omega) (by omega) dX3_weight_32 ?_
        refine lv_istore_n (lv' := [(3, .int (Wt (uI_ x))), (0, .ref qx), (1, .int (nI (uI_ x))), (2, .int y)]) hx hb dX3_weight_33 rfl hl (by decide) rfl (fun ls hl => ?_)
        refine lv_aload_n hx hb dX3_weight_34 rfl (lv_at hl 1 rfl) ?_
        refine va_get (D := D) (ci := 4) (v := .ref qa) (C := RX3) (T := TX3) (N := 7) hx hb hts iX3 hown hK hP 0 rfl rfl 0 (by decide) (hts (.fieldLink RX3 12 "LeastSets" "rows" "LLeastSets$Axioms;") (by decide +kernel)) (fun _ h9 => h9) rfl dX3_weight_35 ?_
        refine va_getN (D := D) (ci := 1) (v := .ref qw) (C := RX0) (T := TX0) (N := 7) (host := "LeastSets") hx hb hts iX0 hown hK hP 1 rfl rfl 2 (by decide) (va_Nw.use rfl (hE.1 _ (List.mem_of_getElem? (i := 0) rfl))) (fun _ h9 => h9) rfl dX3_weight_38 ?_
        refine lv_iload_n hx hb dX3_weight_41 rfl (lv_at hl 2 rfl) ?_
        refine lv_iload_n hx hb dX3_weight_42 rfl (lv_at hl 3 rfl) ?_
        refine r_iast hx hb hK hP hD hS 4 0 rfl rfl (uI_ x) (by omega) (by omega) dX3_weight_43 (fun H locs hP hD hS => ?_)
        have hP : va_P D vwCl [(qx, .inr (4, [.ref qa, .ref qm, .ref ql, .ref qp, .int (nI g), .int ck, .int qk])), (qa, .inr (1, [.ref qb, .ref qh, .ref qw, .ref qf, .int (nI n), .ref qu, .ref qg])), (qb, .inl (cI, 14, .inl Bd)), (qh, .inl (cI, 14, .inl Hd)), (qw, .inl (cI, 14, .inl (upd Wt (uI_ x) y))), (qf, .inl (cZ, 14, .inl Fx)), (qu, .inl (cJ, 14, .inr (.inl U))), (qg, .inl (cJ, 24, .inr (.inl G))), (qm, .inr (2, [.ref qn, .ref qo])), (qn, .inl (cJ, 256, .inr (.inl Mb))), (qo, .inl (cJ, 256, .inr (.inl Le))), (ql, .inr (3, [.ref qs, .int (nI z1)])), (qs, .inl (cI, 3432, .inl S1)), (qp, .inr (3, [.ref qr, .int (nI z2)])), (qr, .inl (cI, 3432, .inl S2))] H := hP
        have hD : va_D A [(qx, .inr (4, [.ref qa, .ref qm, .ref ql, .ref qp, .int (nI g), .int ck, .int qk])), (qa, .inr (1, [.ref qb, .ref qh, .ref qw, .ref qf, .int (nI n), .ref qu, .ref qg])), (qb, .inl (cI, 14, .inl Bd)), (qh, .inl (cI, 14, .inl Hd)), (qw, .inl (cI, 14, .inl (upd Wt (uI_ x) y))), (qf, .inl (cZ, 14, .inl Fx)), (qu, .inl (cJ, 14, .inr (.inl U))), (qg, .inl (cJ, 24, .inr (.inl G))), (qm, .inr (2, [.ref qn, .ref qo])), (qn, .inl (cJ, 256, .inr (.inl Mb))), (qo, .inl (cJ, 256, .inr (.inl Le))), (ql, .inr (3, [.ref qs, .int (nI z1)])), (qs, .inl (cI, 3432, .inl S1)), (qp, .inr (3, [.ref qr, .int (nI z2)])), (qr, .inl (cI, 3432, .inl S2))] := hD
        refine lv_iload_n hx hb dX3_weight_44 rfl (lv_at hl 0 rfl) ?_
        exact W.iret (v := (Wt (uI_ x))) hx hb hr (fun t ht hW => ⟨⟨(Wt (uI_ x)), ((n, Bd, Hd, upd Wt (uI_ x) y, Fx, g), (U, G, Mb, Le, z1, S1, z2, S2, ck, qk)), rfl, ⟨(by first | exact (if_neg hno).symm | exact (if_pos hy2).symm), (by first | exact (if_neg hno).symm | exact (if_pos hy2).symm), hc, hi⟩, by rw [ht]; exact hP, va_K.moved hW.alike hK, hD⟩, hS.F ht⟩) hS.2.2 dX3_weight_45
      · have hno : ¬ (uI_ x < n ∧ uI_ y ≤ 1000) := fun q => c_19 ((in_uI (by omega)).mpr q.2).2
        refine lv_iconst (v := (-1)) hx hb dX3_weight_22 (by decide +kernel) ?_
        exact W.iret (v := (-1)) hx hb hr (fun t ht hW => ⟨⟨(-1), ((n, Bd, Hd, Wt, Fx, g), (U, G, Mb, Le, z1, S1, z2, S2, ck, qk)), rfl, ⟨(by first | exact (if_neg hno).symm | exact (if_pos hy2).symm), (by first | exact (if_neg hno).symm | exact (if_pos hy2).symm), hc, hi⟩, by rw [ht]; exact hP, va_K.moved hW.alike hK, hD⟩, hS.F ht⟩) hS.2.2 dX3_weight_23
set_option maxHeartbeats 4000000 in
set_option maxRecDepth 100000 in
/-- goal(x) -/
theorem c_X3_goal (l : Launch) (D : va_G) (cI cZ cJ : ClassId) (t1 t2 sz : Nat) (qx qa qb qh qw qf qu qg qm qn qo ql qs qp qr : Nat) (n : Nat) (Bd Hd Wt Fx : Nat → Int32) (g : Nat) (U G Mb Le : Nat → Int64) (z1 : Nat) (S1 : Nat → Int32) (z2 : Nat) (S2 : Nat → Int32) (ck qk : Int32) (hc : CO_ n Bd Hd Fx g) (hi : IV_ n Bd Hd Fx g z1 S1 z2 S2 ck qk) (x : Int32) : Met l yX3_goal wsX3_goal ({ frames := 1, cells := 0, slots := 0, locals := 20 } : Room) (va_Pc [.ref qx, .int x] (wr_ D [(cI, .int), (cZ, .boolean), (cJ, .long)] [(qx, .inr (4, [.ref qa, .ref qm, .ref ql, .ref qp, .int (nI g), .int ck, .int qk])), (qa, .inr (1, [.ref qb, .ref qh, .ref qw, .ref qf, .int (nI n), .ref qu, .ref qg])), (qb, .inl (cI, 14, .inl Bd)), (qh, .inl (cI, 14, .inl Hd)), (qw, .inl (cI, 14, .inl Wt)), (qf, .inl (cZ, 14, .inl Fx)), (qu, .inl (cJ, 14, .inr (.inl U))), (qg, .inl (cJ, 24, .inr (.inl G))), (qm, .inr (2, [.ref qn, .ref qo])), (qn, .inl (cJ, 256, .inr (.inl Mb))), (qo, .inl (cJ, 256, .inr (.inl Le))), (ql, .inr (3, [.ref qs, .int (nI z1)])), (qs, .inl (cI, 3432, .inl S1)), (qp, .inr (3, [.ref qr, .int (nI z2)])), (qr, .inl (cI, 3432, .inl S2))] t1 t2 sz)) (va_Qi (S := Co_ × Jk_) (fun r u => u.1 = t_goal (n, Bd, Hd, Wt, Fx, g) x ∧ q_goal (n, Bd, Hd, Wt, Fx, g) x r ∧ cok_ u.1 ∧ iv_ u.1 u.2) (fun u => wd_ D [(cI, .int), (cZ, .boolean), (cJ, .long)] (va_A [(qx, .inr (4, [.ref qa, .ref qm, .ref ql, .ref qp, .int (nI g), .int ck, .int qk])), (qa, .inr (1, [.ref qb, .ref qh, .ref qw, .ref qf, .int (nI n), .ref qu, .ref qg])), (qb, .inl (cI, 14, .inl Bd)), (qh, .inl (cI, 14, .inl Hd)), (qw, .inl (cI, 14, .inl Wt)), (qf, .inl (cZ, 14, .inl Fx)), (qu, .inl (cJ, 14, .inr (.inl U))), (qg, .inl (cJ, 24, .inr (.inl G))), (qm, .inr (2, [.ref qn, .ref qo])), (qn, .inl (cJ, 256, .inr (.inl Mb))), (qo, .inl (cJ, 256, .inr (.inl Le))), (ql, .inr (3, [.ref qs, .int (nI z1)])), (qs, .inl (cI, 3432, .inl S1)), (qp, .inr (3, [.ref qr, .int (nI z2)])), (qr, .inl (cI, 3432, .inl S2))] sz) [(qx, .inr (4, [.ref qa, .ref qm, .ref ql, .ref qp, .int (nI u.1.2.2.2.2.2), .int u.2.2.2.2.2.2.2.2.2.1, .int u.2.2.2.2.2.2.2.2.2.2])), (qa, .inr (1, [.ref qb, .ref qh, .ref qw, .ref qf, .int (nI u.1.1), .ref qu, .ref qg])), (qb, .inl (cI, 14, .inl u.1.2.1)), (qh, .inl (cI, 14, .inl u.1.2.2.1)), (qw, .inl (cI, 14, .inl u.1.2.2.2.1)), (qf, .inl (cZ, 14, .inl u.1.2.2.2.2.1)), (qu, .inl (cJ, 14, .inr (.inl u.2.1))), (qg, .inl (cJ, 24, .inr (.inl u.2.2.1))), (qm, .inr (2, [.ref qn, .ref qo])), (qn, .inl (cJ, 256, .inr (.inl u.2.2.2.1))), (qo, .inl (cJ, 256, .inr (.inl u.2.2.2.2.1))), (ql, .inr (3, [.ref qs, .int (nI u.2.2.2.2.2.1)])), (qs, .inl (cI, 3432, .inl u.2.2.2.2.2.2.1)), (qp, .inr (3, [.ref qr, .int (nI u.2.2.2.2.2.2.2.1)])), (qr, .inl (cI, 3432, .inl u.2.2.2.2.2.2.2.2.1))]) (va_A [(qx, .inr (4, [.ref qa, .ref qm, .ref ql, .ref qp, .int (nI g), .int ck, .int qk])), (qa, .inr (1, [.ref qb, .ref qh, .ref qw, .ref qf, .int (nI n), .ref qu, .ref qg])), (qb, .inl (cI, 14, .inl Bd)), (qh, .inl (cI, 14, .inl Hd)), (qw, .inl (cI, 14, .inl Wt)), (qf, .inl (cZ, 14, .inl Fx)), (qu, .inl (cJ, 14, .inr (.inl U))), (qg, .inl (cJ, 24, .inr (.inl G))), (qm, .inr (2, [.ref qn, .ref qo])), (qn, .inl (cJ, 256, .inr (.inl Mb))), (qo, .inl (cJ, 256, .inr (.inl Le))), (ql, .inr (3, [.ref qs, .int (nI z1)])), (qs, .inl (cI, 3432, .inl S1)), (qp, .inr (3, [.ref qr, .int (nI z2)])), (qr, .inl (cI, 3432, .inl S2))] sz)) 0 0 (va_A [(qx, .inr (4, [.ref qa, .ref qm, .ref ql, .ref qp, .int (nI g), .int ck, .int qk])), (qa, .inr (1, [.ref qb, .ref qh, .ref qw, .ref qf, .int (nI n), .ref qu, .ref qg])), (qb, .inl (cI, 14, .inl Bd)), (qh, .inl (cI, 14, .inl Hd)), (qw, .inl (cI, 14, .inl Wt)), (qf, .inl (cZ, 14, .inl Fx)), (qu, .inl (cJ, 14, .inr (.inl U))), (qg, .inl (cJ, 24, .inr (.inl G))), (qm, .inr (2, [.ref qn, .ref qo])), (qn, .inl (cJ, 256, .inr (.inl Mb))), (qo, .inl (cJ, 256, .inr (.inl Le))), (ql, .inr (3, [.ref qs, .int (nI z1)])), (qs, .inl (cI, 3432, .inl S1)), (qp, .inr (3, [.ref qr, .int (nI z2)])), (qr, .inl (cI, 3432, .inl S2))] sz) := by
  refine Met.ofW (cc := cX3_goal) (maxL := 3) (ret := (some .int)) (by decide) rfl ?_
  intro p e s m args below meth c s₁ B hml hv
  obtain ⟨rfl, hsz, hP, hK, hD0, hE⟩ := hv
  have hx := B.exec
  have hb := B.bytes
  have hr := B.returns
  have hts := atoms_spec (ws := wsX3_goal) B.pre
  have hown : s.vm.findClass RX3 = some m.cls := findClass_of_methodNamed B.named
  have hlocks := B.notSynchronized
  have iX3 : ∀ w ∈ u_ws RX3 TX3 7, w ∈ wsX3_goal := by decide +kernel
  subst hsz
  have hD := hD0.self (sz := s.heap.size)
  generalize hAe : va_A [(qx, .inr (4, [.ref qa, .ref qm, .ref ql, .ref qp, .int (nI g), .int ck, .int qk])), (qa, .inr (1, [.ref qb, .ref qh, .ref qw, .ref qf, .int (nI n), .ref qu, .ref qg])), (qb, .inl (cI, 14, .inl Bd)), (qh, .inl (cI, 14, .inl Hd)), (qw, .inl (cI, 14, .inl Wt)), (qf, .inl (cZ, 14, .inl Fx)), (qu, .inl (cJ, 14, .inr (.inl U))), (qg, .inl (cJ, 24, .inr (.inl G))), (qm, .inr (2, [.ref qn, .ref qo])), (qn, .inl (cJ, 256, .inr (.inl Mb))), (qo, .inl (cJ, 256, .inr (.inl Le))), (ql, .inr (3, [.ref qs, .int (nI z1)])), (qs, .inl (cI, 3432, .inl S1)), (qp, .inr (3, [.ref qr, .int (nI z2)])), (qr, .inl (cI, 3432, .inl S2))] s.heap.size = A at hD hE ⊢
  have hA : ∀ q : Nat, s.heap.size ≤ q → A q := fun q h => by rw [← hAe]; exact Or.inr h
  have hS : va_S A s.heap s.heap [] := va_S.rf
  obtain ⟨hn, hg, hok, hF⟩ := id hc
  have hl := lv_entry ([.ref qx, .int x]) (n := 3) (Nat.le_of_ble_eq_true rfl)
  rw [lg_entry_eq]
  generalize (lg_sl ([.ref qx, .int x]) ++ List.replicate (3 - (lg_sl ([.ref qx, .int x])).length) Slot.unset).toArray = ls at hl ⊢
  have hl : lv_has ls 3 [(0, .ref qx), (1, .int x)] := hl
  refine lv_iload_n hx hb dX3_goal_0 rfl (lv_at hl 1 rfl) ?_
  refine vp_callSi (va_runS (As := [.int x]) (rest := []) ⟨hx, hb, hml, hown, hts⟩ (c_X3_isFact l x) (va_cwS 1 hts gX3_goal_X3_isFact rfl rfl rfl (by decide +kernel) ⟨Nat.le_of_ble_eq_true rfl, Nat.le_of_ble_eq_true rfl⟩) ⟨no_blind, no_pre trivial⟩ rfl rfl hl.1 rfl (lv_room (Nat.le_of_ble_eq_true rfl)) dX3_goal_1 ⟨Nat.le_of_ble_eq_true rfl, Nat.le_of_ble_eq_true rfl⟩).run (fun r_1 hr_1 => ?_)
  refine lv_if_ne (tgt := 9) hx hb dX3_goal_4 (by decide) (fun c_4 => ?_) (fun c_4 => ?_)
  · obtain ⟨hyes, ex⟩ := hu_yes (by omega) hr_1 c_4
    rw [ex] at hl
    refine lv_aload_n hx hb dX3_goal_9 rfl (lv_at hl 0 rfl) ?_
    refine va_get (D := D) (ci := 4) (v := .int (nI g)) (C := RX3) (T := TX3) (N := 7) hx hb hts iX3 hown hK hP 0 rfl rfl 4 (by decide) (hts (.fieldLink RX3 33 "LeastSets" "goalFact" "I") (by decide +kernel)) (fun _ h9 => h9) rfl dX3_goal_10 ?_
    refine lv_istore_n (lv' := [(2, .int (nI g)), (0, .ref qx), (1, .int (nI (uI_ x)))]) hx hb dX3_goal_13 rfl hl (by decide) rfl (fun ls hl => ?_)
    refine lv_aload_n hx hb dX3_goal_14 rfl (lv_at hl 1 rfl) ?_
    refine lv_iload_n hx hb dX3_goal_15 rfl (lv_at hl 2 rfl) ?_
    refine va_put (D := D) (ci := 4) (v := .int (nI (uI_ x))) (ty := .int) (C := RX3) (T := TX3) (N := 7) hx hb hts iX3 tyX3 tyX3_ok nmX3 hown hK hP hD hS 0 rfl rfl 4 (by decide) (hts (.fieldLink RX3 33 "LeastSets" "goalFact" "I") (by decide +kernel)) (fun _ h9 => h9) rfl (by decide +kernel) rfl rfl (Nat.le_of_ble_eq_true rfl) dX3_goal_16 (fun H locs hP hD hS => ?_)
    have hP : va_P D vwCl [(qx, .inr (4, [.ref qa, .ref qm, .ref ql, .ref qp, .int (nI (uI_ x)), .int ck, .int qk])), (qa, .inr (1, [.ref qb, .ref qh, .ref qw, .ref qf, .int (nI n), .ref qu, .ref qg])), (qb, .inl (cI, 14, .inl Bd)), (qh, .inl (cI, 14, .inl Hd)), (qw, .inl (cI, 14, .inl Wt)), (qf, .inl (cZ, 14, .inl Fx)), (qu, .inl (cJ, 14, .inr (.inl U))), (qg, .inl (cJ, 24, .inr (.inl G))), (qm, .inr (2, [.ref qn, .ref qo])), (qn, .inl (cJ, 256, .inr (.inl Mb))), (qo, .inl (cJ, 256, .inr (.inl Le))), (ql, .inr (3, [.ref qs, .int (nI z1)])), (qs, .inl (cI, 3432, .inl S1)), (qp, .inr (3, [.ref qr, .int (nI z2)])), (qr, .inl (cI, 3432, .inl S2))] H := hP
    have hD : va_D A [(qx, .inr (4, [.ref qa, .ref qm, .ref ql, .ref qp, .int (nI (uI_ x)), .int ck, .int qk])), (qa, .inr (1, [.ref qb, .ref qh, .ref qw, .ref qf, .int (nI n), .ref qu, .ref qg])), (qb, .inl (cI, 14, .inl Bd)), (qh, .inl (cI, 14, .inl Hd)), (qw, .inl (cI, 14, .inl Wt)), (qf, .inl (cZ, 14, .inl Fx)), (qu, .inl (cJ, 14, .inr (.inl U))), (qg, .inl (cJ, 24, .inr (.inl G))), (qm, .inr (2, [.ref qn, .ref qo])), (qn, .inl (cJ, 256, .inr (.inl Mb))), (qo, .inl (cJ, 256, .inr (.inl Le))), (ql, .inr (3, [.ref qs, .int (nI z1)])), (qs, .inl (cI, 3432, .inl S1)), (qp, .inr (3, [.ref qr, .int (nI z2)])), (qr, .inl (cI, 3432, .inl S2))] := hD
    refine lv_aload_n hx hb dX3_goal_19 rfl (lv_at hl 1 rfl) ?_
    have hPc := hP.sub (ws' := [(qx, .inr (4, [.ref qa, .ref qm, .ref ql, .ref qp, .int (nI (uI_ x)), .int ck, .int qk]))]) [0] rfl
    have hDc := hD.sub (ws' := [(qx, .inr (4, [.ref qa, .ref qm, .ref ql, .ref qp, .int (nI (uI_ x)), .int ck, .int qk]))]) [0] (by decide) rfl
    have hFc := va_free (wc := [(qx, .inr (4, [.ref qa, .ref qm, .ref ql, .ref qp, .int (nI (uI_ x)), .int ck, .int qk]))]) hD hS hA [0] rfl
    refine va_callv (va_runV (As := []) (rest := []) ⟨hx, hb, hml, hown, hts⟩ (c_X3_forgetLists l D cI cZ cJ t1 t2 _ qx qa qb qh qw qf qu qg qm qn qo ql qs qp qr n Bd Hd Wt Fx (uI_ x) U G Mb Le z1 S1 z2 S2 ck qk) (cwV 0 hts gX3_goal_X3_forgetLists rfl rfl rfl (by decide +kernel) ⟨Nat.le_of_ble_eq_true rfl, Nat.le_of_ble_eq_true rfl⟩) ⟨wr_blind, va_recv hK hP (ci := 4) (q0 := 0) rfl rfl, wr_pre hPc hDc hK hE hS hFc [0, 1, 2] rfl⟩ rfl rfl hl.1 rfl (lv_room (Nat.le_of_ble_eq_true rfl)) dX3_goal_20 ⟨Nat.le_of_ble_eq_true rfl, Nat.le_of_ble_eq_true rfl⟩) hS (fun q _ h => hFc q h) hFc (fun u_20 t H locs ht hvm hw_20 hB hz1 hk1 hS => ?_)
    obtain ⟨hP1, hK1, hD1⟩ := hB
    rw [ht] at hP1
    obtain ⟨hP, hD⟩ := va_join (wr := [(qa, .inr (1, [.ref qb, .ref qh, .ref qw, .ref qf, .int (nI n), .ref qu, .ref qg])), (qb, .inl (cI, 14, .inl Bd)), (qh, .inl (cI, 14, .inl Hd)), (qw, .inl (cI, 14, .inl Wt)), (qf, .inl (cZ, 14, .inl Fx)), (qu, .inl (cJ, 14, .inr (.inl U))), (qg, .inl (cJ, 24, .inr (.inl G))), (qm, .inr (2, [.ref qn, .ref qo])), (qn, .inl (cJ, 256, .inr (.inl Mb))), (qo, .inl (cJ, 256, .inr (.inl Le))), (ql, .inr (3, [.ref qs, .int (nI z1)])), (qs, .inl (cI, 3432, .inl S1)), (qp, .inr (3, [.ref qr, .int (nI z2)])), (qr, .inl (cI, 3432, .inl S2))]) (w1 := [(qx, .inr (4, [.ref qa, .ref qm, .ref ql, .ref qp, .int (nI (uI_ x)), .int 0, .int 0]))]) hP hD [0] [1, 2, 3, 4, 5, 6, 7, 8, 9, 10, 11, 12, 13, 14] rfl rfl (by decide) (by decide) hk1 hFc hP1 hD1
    have hP : va_P D vwCl [(qx, .inr (4, [.ref qa, .ref qm, .ref ql, .ref qp, .int (nI (uI_ x)), .int 0, .int 0])), (qa, .inr (1, [.ref qb, .ref qh, .ref qw, .ref qf, .int (nI n), .ref qu, .ref qg])), (qb, .inl (cI, 14, .inl Bd)), (qh, .inl (cI, 14, .inl Hd)), (qw, .inl (cI, 14, .inl Wt)), (qf, .inl (cZ, 14, .inl Fx)), (qu, .inl (cJ, 14, .inr (.inl U))), (qg, .inl (cJ, 24, .inr (.inl G))), (qm, .inr (2, [.ref qn, .ref qo])), (qn, .inl (cJ, 256, .inr (.inl Mb))), (qo, .inl (cJ, 256, .inr (.inl Le))), (ql, .inr (3, [.ref qs, .int (nI z1)])), (qs, .inl (cI, 3432, .inl S1)), (qp, .inr (3, [.ref qr, .int (nI z2)])), (qr, .inl (cI, 3432, .inl S2))] H := hP.sub [14, 0, 1, 2, 3, 4, 5, 6, 7, 8, 9, 10, 11, 12, 13] rfl
    have hD : va_D A [(qx, .inr (4, [.ref qa, .ref qm, .ref ql, .ref qp, .int (nI (uI_ x)), .int 0, .int 0])), (qa, .inr (1, [.ref qb, .ref qh, .ref qw, .ref qf, .int (nI n), .ref qu, .ref qg])), (qb, .inl (cI, 14, .inl Bd)), (qh, .inl (cI, 14, .inl Hd)), (qw, .inl (cI, 14, .inl Wt)), (qf, .inl (cZ, 14, .inl Fx)), (qu, .inl (cJ, 14, .inr (.inl U))), (qg, .inl (cJ, 24, .inr (.inl G))), (qm, .inr (2, [.ref qn, .ref qo])), (qn, .inl (cJ, 256, .inr (.inl Mb))), (qo, .inl (cJ, 256, .inr (.inl Le))), (ql, .inr (3, [.ref qs, .int (nI z1)])), (qs, .inl (cI, 3432, .inl S1)), (qp, .inr (3, [.ref qr, .int (nI z2)])), (qr, .inl (cI, 3432, .inl S2))] := hD.sub [14, 0, 1, 2, 3, 4, 5, 6, 7, 8, 9, 10, 11, 12, 13] (by decide) rfl
    clear hPc hDc hFc hP1 hK1 hD1 hk1 hz1
    refine lv_iload_n hx hb dX3_goal_23 rfl (lv_at hl 0 rfl) ?_
    exact W.iret (v := (nI g)) hx hb hr (fun t ht hW => ⟨⟨(nI g), ((n, Bd, Hd, Wt, Fx, uI_ x), (U, G, Mb, Le, z1, S1, z2, S2, 0, 0)), rfl, ⟨(by first | exact (if_neg hno).symm | exact (if_pos hyes).symm), (by first | exact (if_neg hno).symm | exact (if_pos hyes).symm), (by first | exact hc | exact cok_goal hc hyes), (by first | exact hi | exact IV_0)⟩, by rw [ht]; exact hP, va_K.moved hW.alike hK, hD⟩, hS.F ht⟩) hS.2.2 dX3_goal_24
  · have hno : ¬ uI_ x < 24 := hu_no (by omega) hr_1 c_4
    refine lv_iconst (v := (-1)) hx hb dX3_goal_7 (by decide +kernel) ?_
    exact W.iret (v := (-1)) hx hb hr (fun t ht hW => ⟨⟨(-1), ((n, Bd, Hd, Wt, Fx, g), (U, G, Mb, Le, z1, S1, z2, S2, ck, qk)), rfl, ⟨(by first | exact (if_neg hno).symm | exact (if_pos hyes).symm), (by first | exact (if_neg hno).symm | exact (if_pos hyes).symm), (by first | exact hc | exact cok_goal hc hyes), (by first | exact hi | exact IV_0)⟩, by rw [ht]; exact hP, va_K.moved hW.alike hK, hD⟩, hS.F ht⟩) hS.2.2 dX3_goal_8
end
section
set_option maxHeartbeats 4000000 in
set_option maxRecDepth 100000 in
/-- causes() -/
theorem c_X3_causes (l : Launch) (D : va_G) (cI cZ cJ : ClassId) (t1 t2 sz : Nat) (qx qa qb qh qw qf qu qg qm qn qo ql qs qp qr : Nat) (n : Nat) (Bd Hd Wt Fx : Nat → Int32) (g : Nat) (U G Mb Le : Nat → Int64) (z1 : Nat) (S1 : Nat → Int32) (z2 : Nat) (S2 : Nat → Int32) (ck qk : Int32) (hc : CO_ n Bd Hd Fx g) (hi : IV_ n Bd Hd Fx g z1 S1 z2 S2 ck qk) : Met l yX3_causes wsX3_causes ({ frames := 6, cells := 0, slots := 0, locals := 141 } : Room) (va_Pc [.ref qx] (wr_ D [(cI, .int), (cZ, .boolean), (cJ, .long)] [(qx, .inr (4, [.ref qa, .ref qm, .ref ql, .ref qp, .int (nI g), .int ck, .int qk])), (qa, .inr (1, [.ref qb, .ref qh, .ref qw, .ref qf, .int (nI n), .ref qu, .ref qg])), (qb, .inl (cI, 14, .inl Bd)), (qh, .inl (cI, 14, .inl Hd)), (qw, .inl (cI, 14, .inl Wt)), (qf, .inl (cZ, 14, .inl Fx)), (qu, .inl (cJ, 14, .inr (.inl U))), (qg, .inl (cJ, 24, .inr (.inl G))), (qm, .inr (2, [.ref qn, .ref qo])), (qn, .inl (cJ, 256, .inr (.inl Mb))), (qo, .inl (cJ, 256, .inr (.inl Le))), (ql, .inr (3, [.ref qs, .int (nI z1)])), (qs, .inl (cI, 3432, .inl S1)), (qp, .inr (3, [.ref qr, .int (nI z2)])), (qr, .inl (cI, 3432, .inl S2))] t1 t2 sz)) (va_Qi (S := Co_ × Jk_) (fun r u => u.1 = (n, Bd, Hd, Wt, Fx, g) ∧ q_causes (n, Bd, Hd, Wt, Fx, g) r ∧ cok_ u.1 ∧ iv_ u.1 u.2) (fun u => wd_ D [(cI, .int), (cZ, .boolean), (cJ, .long)] (va_A [(qx, .inr (4, [.ref qa, .ref qm, .ref ql, .ref qp, .int (nI g), .int ck, .int qk])), (qa, .inr (1, [.ref qb, .ref qh, .ref qw, .ref qf, .int (nI n), .ref qu, .ref qg])), (qb, .inl (cI, 14, .inl Bd)), (qh, .inl (cI, 14, .inl Hd)), (qw, .inl (cI, 14, .inl Wt)), (qf, .inl (cZ, 14, .inl Fx)), (qu, .inl (cJ, 14, .inr (.inl U))), (qg, .inl (cJ, 24, .inr (.inl G))), (qm, .inr (2, [.ref qn, .ref qo])), (qn, .inl (cJ, 256, .inr (.inl Mb))), (qo, .inl (cJ, 256, .inr (.inl Le))), (ql, .inr (3, [.ref qs, .int (nI z1)])), (qs, .inl (cI, 3432, .inl S1)), (qp, .inr (3, [.ref qr, .int (nI z2)])), (qr, .inl (cI, 3432, .inl S2))] sz) [(qx, .inr (4, [.ref qa, .ref qm, .ref ql, .ref qp, .int (nI u.1.2.2.2.2.2), .int u.2.2.2.2.2.2.2.2.2.1, .int u.2.2.2.2.2.2.2.2.2.2])), (qa, .inr (1, [.ref qb, .ref qh, .ref qw, .ref qf, .int (nI u.1.1), .ref qu, .ref qg])), (qb, .inl (cI, 14, .inl u.1.2.1)), (qh, .inl (cI, 14, .inl u.1.2.2.1)), (qw, .inl (cI, 14, .inl u.1.2.2.2.1)), (qf, .inl (cZ, 14, .inl u.1.2.2.2.2.1)), (qu, .inl (cJ, 14, .inr (.inl u.2.1))), (qg, .inl (cJ, 24, .inr (.inl u.2.2.1))), (qm, .inr (2, [.ref qn, .ref qo])), (qn, .inl (cJ, 256, .inr (.inl u.2.2.2.1))), (qo, .inl (cJ, 256, .inr (.inl u.2.2.2.2.1))), (ql, .inr (3, [.ref qs, .int (nI u.2.2.2.2.2.1)])), (qs, .inl (cI, 3432, .inl u.2.2.2.2.2.2.1)), (qp, .inr (3, [.ref qr, .int (nI u.2.2.2.2.2.2.2.1)])), (qr, .inl (cI, 3432, .inl u.2.2.2.2.2.2.2.2.1))]) (va_A [(qx, .inr (4, [.ref qa, .ref qm, .ref ql, .ref qp, .int (nI g), .int ck, .int qk])), (qa, .inr (1, [.ref qb, .ref qh, .ref qw, .ref qf, .int (nI n), .ref qu, .ref qg])), (qb, .inl (cI, 14, .inl Bd)), (qh, .inl (cI, 14, .inl Hd)), (qw, .inl (cI, 14, .inl Wt)), (qf, .inl (cZ, 14, .inl Fx)), (qu, .inl (cJ, 14, .inr (.inl U))), (qg, .inl (cJ, 24, .inr (.inl G))), (qm, .inr (2, [.ref qn, .ref qo])), (qn, .inl (cJ, 256, .inr (.inl Mb))), (qo, .inl (cJ, 256, .inr (.inl Le))), (ql, .inr (3, [.ref qs, .int (nI z1)])), (qs, .inl (cI, 3432, .inl S1)), (qp, .inr (3, [.ref qr, .int (nI z2)])), (qr, .inl (cI, 3432, .inl S2))] sz)) 0 0 (va_A [(qx, .inr (4, [.ref qa, .ref qm, .ref ql, .ref qp, .int (nI g), .int ck, .int qk])), (qa, .inr (1, [.ref qb, .ref qh, .ref qw, .ref qf, .int (nI n), .ref qu, .ref qg])), (qb, .inl (cI, 14, .inl Bd)), (qh, .inl (cI, 14, .inl Hd)), (qw, .inl (cI, 14, .inl Wt)), (qf, .inl (cZ, 14, .inl Fx)), (qu, .inl (cJ, 14, .inr (.inl U))), (qg, .inl (cJ, 24, .inr (.inl G))), (qm, .inr (2, [.ref qn, .ref qo])), (qn, .inl (cJ, 256, .inr (.inl Mb))), (qo, .inl (cJ, 256, .inr (.inl Le))), (ql, .inr (3, [.ref qs, .int (nI z1)])), (qs, .inl (cI, 3432, .inl S1)), (qp, .inr (3, [.ref qr, .int (nI z2)])), (qr, .inl (cI, 3432, .inl S2))] sz) := by
  refine Met.ofW (cc := cX3_causes) (maxL := 1) (ret := (some .int)) (by decide) rfl ?_
  intro p e s m args below meth c s₁ B hml hv
  obtain ⟨rfl, hsz, hP, hK, hD0, hE⟩ := hv
  have hx := B.exec
  have hb := B.bytes
  have hr := B.returns
  have hts := atoms_spec (ws := wsX3_causes) B.pre
  have hown : s.vm.findClass RX3 = some m.cls := findClass_of_methodNamed B.named
  have hlocks := B.notSynchronized
  have iX3 : ∀ w ∈ u_ws RX3 TX3 7, w ∈ wsX3_causes := by decide +kernel
  have iX2 : ∀ w ∈ u_ws RX2 TX2 2, w ∈ wsX3_causes := by decide +kernel
  subst hsz
  have hD := hD0.self (sz := s.heap.size)
  generalize hAe : va_A [(qx, .inr (4, [.ref qa, .ref qm, .ref ql, .ref qp, .int (nI g), .int ck, .int qk])), (qa, .inr (1, [.ref qb, .ref qh, .ref qw, .ref qf, .int (nI n), .ref qu, .ref qg])), (qb, .inl (cI, 14, .inl Bd)), (qh, .inl (cI, 14, .inl Hd)), (qw, .inl (cI, 14, .inl Wt)), (qf, .inl (cZ, 14, .inl Fx)), (qu, .inl (cJ, 14, .inr (.inl U))), (qg, .inl (cJ, 24, .inr (.inl G))), (qm, .inr (2, [.ref qn, .ref qo])), (qn, .inl (cJ, 256, .inr (.inl Mb))), (qo, .inl (cJ, 256, .inr (.inl Le))), (ql, .inr (3, [.ref qs, .int (nI z1)])), (qs, .inl (cI, 3432, .inl S1)), (qp, .inr (3, [.ref qr, .int (nI z2)])), (qr, .inl (cI, 3432, .inl S2))] s.heap.size = A at hD hE ⊢
  have hA : ∀ q : Nat, s.heap.size ≤ q → A q := fun q h => by rw [← hAe]; exact Or.inr h
  have hS : va_S A s.heap s.heap [] := va_S.rf
  obtain ⟨hn, hg, hok, hF⟩ := id hc
  have hl := lv_entry ([.ref qx]) (n := 1) (Nat.le_of_ble_eq_true rfl)
  rw [lg_entry_eq]
  generalize (lg_sl ([.ref qx]) ++ List.replicate (1 - (lg_sl ([.ref qx])).length) Slot.unset).toArray = ls at hl ⊢
  have hl : lv_has ls 1 [(0, .ref qx)] := hl
  refine lv_aload_n hx hb dX3_causes_0 rfl (lv_at hl 0 rfl) ?_
  have hPc := hP.sub (ws' := [(qx, .inr (4, [.ref qa, .ref qm, .ref ql, .ref qp, .int (nI g), .int ck, .int qk])), (qa, .inr (1, [.ref qb, .ref qh, .ref qw, .ref qf, .int (nI n), .ref qu, .ref qg])), (qb, .inl (cI, 14, .inl Bd)), (qh, .inl (cI, 14, .inl Hd)), (qu, .inl (cJ, 14, .inr (.inl U))), (qg, .inl (cJ, 24, .inr (.inl G))), (qm, .inr (2, [.ref qn, .ref qo])), (qn, .inl (cJ, 256, .inr (.inl Mb))), (qo, .inl (cJ, 256, .inr (.inl Le))), (ql, .inr (3, [.ref qs, .int (nI z1)])), (qs, .inl (cI, 3432, .inl S1))]) [0, 1, 2, 3, 6, 7, 8, 9, 10, 11, 12] rfl
  have hDc := hD.sub (ws' := [(qx, .inr (4, [.ref qa, .ref qm, .ref ql, .ref qp, .int (nI g), .int ck, .int qk])), (qa, .inr (1, [.ref qb, .ref qh, .ref qw, .ref qf, .int (nI n), .ref qu, .ref qg])), (qb, .inl (cI, 14, .inl Bd)), (qh, .inl (cI, 14, .inl Hd)), (qu, .inl (cJ, 14, .inr (.inl U))), (qg, .inl (cJ, 24, .inr (.inl G))), (qm, .inr (2, [.ref qn, .ref qo])), (qn, .inl (cJ, 256, .inr (.inl Mb))), (qo, .inl (cJ, 256, .inr (.inl Le))), (ql, .inr (3, [.ref qs, .int (nI z1)])), (qs, .inl (cI, 3432, .inl S1))]) [0, 1, 2, 3, 6, 7, 8, 9, 10, 11, 12] (by decide) rfl
  have hFc := va_free (wc := [(qx, .inr (4, [.ref qa, .ref qm, .ref ql, .ref qp, .int (nI g), .int ck, .int qk])), (qa, .inr (1, [.ref qb, .ref qh, .ref qw, .ref qf, .int (nI n), .ref qu, .ref qg])), (qb, .inl (cI, 14, .inl Bd)), (qh, .inl (cI, 14, .inl Hd)), (qu, .inl (cJ, 14, .inr (.inl U))), (qg, .inl (cJ, 24, .inr (.inl G))), (qm, .inr (2, [.ref qn, .ref qo])), (qn, .inl (cJ, 256, .inr (.inl Mb))), (qo, .inl (cJ, 256, .inr (.inl Le))), (ql, .inr (3, [.ref qs, .int (nI z1)])), (qs, .inl (cI, 3432, .inl S1))]) hD hS hA [0, 1, 2, 3, 6, 7, 8, 9, 10, 11, 12] rfl
  refine va_callr (va_runV (As := []) (rest := []) ⟨hx, hb, hml, hown, hts⟩ (c_X3_knownCauses l D cI cZ cJ t1 t2 _ qx qa qb qh qw qf qu qg qm qn qo ql qs qp qr n Bd Hd Wt Fx g U G Mb Le z1 S1 z2 S2 ck qk hn hg hok hi.1 hi.2.2.1) (cwV 0 hts gX3_causes_X3_knownCauses rfl rfl rfl (by decide +kernel) ⟨Nat.le_of_ble_eq_true rfl, Nat.le_of_ble_eq_true rfl⟩) ⟨wr_blind, va_recv hK hP (ci := 4) (q0 := 0) rfl rfl, wr_pre hPc hDc hK hE hS hFc [0, 1, 2] rfl⟩ rfl rfl hl.1 rfl (lv_room (Nat.le_of_ble_eq_true rfl)) dX3_causes_1 ⟨Nat.le_of_ble_eq_true rfl, Nat.le_of_ble_eq_true rfl⟩) hS (fun q _ h => hFc q h) hFc (fun u_1 ra t H locs ht hvm hw_1 hB hz1 hk1 hS => ?_)
  obtain ⟨era, hP1, hK1, hD1⟩ := hB
  rw [era]
  rw [ht] at hP1
  obtain ⟨hP, hD⟩ := va_join (wr := [(qw, .inl (cI, 14, .inl Wt)), (qf, .inl (cZ, 14, .inl Fx)), (qp, .inr (3, [.ref qr, .int (nI z2)])), (qr, .inl (cI, 3432, .inl S2))]) (w1 := [(qx, .inr (4, [.ref qa, .ref qm, .ref ql, .ref qp, .int (nI g), .int 1, .int qk])), (qa, .inr (1, [.ref qb, .ref qh, .ref qw, .ref qf, .int (nI n), .ref qu, .ref qg])), (qb, .inl (cI, 14, .inl Bd)), (qh, .inl (cI, 14, .inl Hd)), (qu, .inl (cJ, 14, .inr (.inl u_1.1))), (qg, .inl (cJ, 24, .inr (.inl u_1.2.1))), (qm, .inr (2, [.ref qn, .ref qo])), (qn, .inl (cJ, 256, .inr (.inl u_1.2.2.1))), (qo, .inl (cJ, 256, .inr (.inl u_1.2.2.2.1))), (ql, .inr (3, [.ref qs, .int (nI ((CL_ n Bd Hd g).length))])), (qs, .inl (cI, 3432, .inl u_1.2.2.2.2))]) hP hD [0, 1, 2, 3, 6, 7, 8, 9, 10, 11, 12] [4, 5, 13, 14] rfl rfl (by decide) (by decide) hk1 hFc hP1 hD1
  have hP : va_P D vwCl [(qx, .inr (4, [.ref qa, .ref qm, .ref ql, .ref qp, .int (nI g), .int 1, .int qk])), (qa, .inr (1, [.ref qb, .ref qh, .ref qw, .ref qf, .int (nI n), .ref qu, .ref qg])), (qb, .inl (cI, 14, .inl Bd)), (qh, .inl (cI, 14, .inl Hd)), (qw, .inl (cI, 14, .inl Wt)), (qf, .inl (cZ, 14, .inl Fx)), (qu, .inl (cJ, 14, .inr (.inl u_1.1))), (qg, .inl (cJ, 24, .inr (.inl u_1.2.1))), (qm, .inr (2, [.ref qn, .ref qo])), (qn, .inl (cJ, 256, .inr (.inl u_1.2.2.1))), (qo, .inl (cJ, 256, .inr (.inl u_1.2.2.2.1))), (ql, .inr (3, [.ref qs, .int (nI ((CL_ n Bd Hd g).length))])), (qs, .inl (cI, 3432, .inl u_1.2.2.2.2)), (qp, .inr (3, [.ref qr, .int (nI z2)])), (qr, .inl (cI, 3432, .inl S2))] H := hP.sub [4, 5, 6, 7, 0, 1, 8, 9, 10, 11, 12, 13, 14, 2, 3] rfl
  have hD : va_D A [(qx, .inr (4, [.ref qa, .ref qm, .ref ql, .ref qp, .int (nI g), .int 1, .int qk])), (qa, .inr (1, [.ref qb, .ref qh, .ref qw, .ref qf, .int (nI n), .ref qu, .ref qg])), (qb, .inl (cI, 14, .inl Bd)), (qh, .inl (cI, 14, .inl Hd)), (qw, .inl (cI, 14, .inl Wt)), (qf, .inl (cZ, 14, .inl Fx)), (qu, .inl (cJ, 14, .inr (.inl u_1.1))), (qg, .inl (cJ, 24, .inr (.inl u_1.2.1))), (qm, .inr (2, [.ref qn, .ref qo])), (qn, .inl (cJ, 256, .inr (.inl u_1.2.2.1))), (qo, .inl (cJ, 256, .inr (.inl u_1.2.2.2.1))), (ql, .inr (3, [.ref qs, .int (nI ((CL_ n Bd Hd g).length))])), (qs, .inl (cI, 3432, .inl u_1.2.2.2.2)), (qp, .inr (3, [.ref qr, .int (nI z2)])), (qr, .inl (cI, 3432, .inl S2))] := hD.sub [4, 5, 6, 7, 0, 1, 8, 9, 10, 11, 12, 13, 14, 2, 3] (by decide) rfl
  clear hPc hDc hFc hP1 hK1 hD1 hk1 hz1
  refine va_getN (D := D) (ci := 3) (v := .int (nI ((CL_ n Bd Hd g).length))) (C := RX2) (T := TX2) (N := 2) (host := "LeastSets") hx hb hts iX2 hown hK hP 11 rfl rfl 1 (by decide) (va_Nw.use rfl (hE.1 _ (List.mem_of_getElem? (i := 4) rfl))) (fun _ h9 => h9) rfl dX3_causes_4 ?_
  exact W.iret (v := (nI ((CL_ n Bd Hd g).length))) hx hb hr (fun t ht hW => ⟨⟨(nI ((CL_ n Bd Hd g).length)), ((n, Bd, Hd, Wt, Fx, g), (u_1.1, u_1.2.1, u_1.2.2.1, u_1.2.2.2.1, (CL_ n Bd Hd g).length, u_1.2.2.2.2, z2, S2, 1, qk)), rfl, ⟨rfl, rfl, hc, ⟨Or.inr rfl, hi.2.1, fun _ => ⟨rfl, hw_1⟩, hi.2.2.2⟩⟩, by rw [ht]; exact hP, va_K.moved hW.alike hK, hD⟩, hS.F ht⟩) hS.2.2 dX3_causes_7
set_option maxHeartbeats 4000000 in
set_option maxRecDepth 100000 in
/-- cures() -/
theorem c_X3_cures (l : Launch) (D : va_G) (cI cZ cJ : ClassId) (t1 t2 sz : Nat) (qx qa qb qh qw qf qu qg qm qn qo ql qs qp qr : Nat) (n : Nat) (Bd Hd Wt Fx : Nat → Int32) (g : Nat) (U G Mb Le : Nat → Int64) (z1 : Nat) (S1 : Nat → Int32) (z2 : Nat) (S2 : Nat → Int32) (ck qk : Int32) (hc : CO_ n Bd Hd Fx g) (hi : IV_ n Bd Hd Fx g z1 S1 z2 S2 ck qk) : Met l yX3_cures wsX3_cures ({ frames := 6, cells := 0, slots := 0, locals := 141 } : Room) (va_Pc [.ref qx] (wr_ D [(cI, .int), (cZ, .boolean), (cJ, .long)] [(qx, .inr (4, [.ref qa, .ref qm, .ref ql, .ref qp, .int (nI g), .int ck, .int qk])), (qa, .inr (1, [.ref qb, .ref qh, .ref qw, .ref qf, .int (nI n), .ref qu, .ref qg])), (qb, .inl (cI, 14, .inl Bd)), (qh, .inl (cI, 14, .inl Hd)), (qw, .inl (cI, 14, .inl Wt)), (qf, .inl (cZ, 14, .inl Fx)), (qu, .inl (cJ, 14, .inr (.inl U))), (qg, .inl (cJ, 24, .inr (.inl G))), (qm, .inr (2, [.ref qn, .ref qo])), (qn, .inl (cJ, 256, .inr (.inl Mb))), (qo, .inl (cJ, 256, .inr (.inl Le))), (ql, .inr (3, [.ref qs, .int (nI z1)])), (qs, .inl (cI, 3432, .inl S1)), (qp, .inr (3, [.ref qr, .int (nI z2)])), (qr, .inl (cI, 3432, .inl S2))] t1 t2 sz)) (va_Qi (S := Co_ × Jk_) (fun r u => u.1 = (n, Bd, Hd, Wt, Fx, g) ∧ q_cures (n, Bd, Hd, Wt, Fx, g) r ∧ cok_ u.1 ∧ iv_ u.1 u.2) (fun u => wd_ D [(cI, .int), (cZ, .boolean), (cJ, .long)] (va_A [(qx, .inr (4, [.ref qa, .ref qm, .ref ql, .ref qp, .int (nI g), .int ck, .int qk])), (qa, .inr (1, [.ref qb, .ref qh, .ref qw, .ref qf, .int (nI n), .ref qu, .ref qg])), (qb, .inl (cI, 14, .inl Bd)), (qh, .inl (cI, 14, .inl Hd)), (qw, .inl (cI, 14, .inl Wt)), (qf, .inl (cZ, 14, .inl Fx)), (qu, .inl (cJ, 14, .inr (.inl U))), (qg, .inl (cJ, 24, .inr (.inl G))), (qm, .inr (2, [.ref qn, .ref qo])), (qn, .inl (cJ, 256, .inr (.inl Mb))), (qo, .inl (cJ, 256, .inr (.inl Le))), (ql, .inr (3, [.ref qs, .int (nI z1)])), (qs, .inl (cI, 3432, .inl S1)), (qp, .inr (3, [.ref qr, .int (nI z2)])), (qr, .inl (cI, 3432, .inl S2))] sz) [(qx, .inr (4, [.ref qa, .ref qm, .ref ql, .ref qp, .int (nI u.1.2.2.2.2.2), .int u.2.2.2.2.2.2.2.2.2.1, .int u.2.2.2.2.2.2.2.2.2.2])), (qa, .inr (1, [.ref qb, .ref qh, .ref qw, .ref qf, .int (nI u.1.1), .ref qu, .ref qg])), (qb, .inl (cI, 14, .inl u.1.2.1)), (qh, .inl (cI, 14, .inl u.1.2.2.1)), (qw, .inl (cI, 14, .inl u.1.2.2.2.1)), (qf, .inl (cZ, 14, .inl u.1.2.2.2.2.1)), (qu, .inl (cJ, 14, .inr (.inl u.2.1))), (qg, .inl (cJ, 24, .inr (.inl u.2.2.1))), (qm, .inr (2, [.ref qn, .ref qo])), (qn, .inl (cJ, 256, .inr (.inl u.2.2.2.1))), (qo, .inl (cJ, 256, .inr (.inl u.2.2.2.2.1))), (ql, .inr (3, [.ref qs, .int (nI u.2.2.2.2.2.1)])), (qs, .inl (cI, 3432, .inl u.2.2.2.2.2.2.1)), (qp, .inr (3, [.ref qr, .int (nI u.2.2.2.2.2.2.2.1)])), (qr, .inl (cI, 3432, .inl u.2.2.2.2.2.2.2.2.1))]) (va_A [(qx, .inr (4, [.ref qa, .ref qm, .ref ql, .ref qp, .int (nI g), .int ck, .int qk])), (qa, .inr (1, [.ref qb, .ref qh, .ref qw, .ref qf, .int (nI n), .ref qu, .ref qg])), (qb, .inl (cI, 14, .inl Bd)), (qh, .inl (cI, 14, .inl Hd)), (qw, .inl (cI, 14, .inl Wt)), (qf, .inl (cZ, 14, .inl Fx)), (qu, .inl (cJ, 14, .inr (.inl U))), (qg, .inl (cJ, 24, .inr (.inl G))), (qm, .inr (2, [.ref qn, .ref qo])), (qn, .inl (cJ, 256, .inr (.inl Mb))), (qo, .inl (cJ, 256, .inr (.inl Le))), (ql, .inr (3, [.ref qs, .int (nI z1)])), (qs, .inl (cI, 3432, .inl S1)), (qp, .inr (3, [.ref qr, .int (nI z2)])), (qr, .inl (cI, 3432, .inl S2))] sz)) 0 0 (va_A [(qx, .inr (4, [.ref qa, .ref qm, .ref ql, .ref qp, .int (nI g), .int ck, .int qk])), (qa, .inr (1, [.ref qb, .ref qh, .ref qw, .ref qf, .int (nI n), .ref qu, .ref qg])), (qb, .inl (cI, 14, .inl Bd)), (qh, .inl (cI, 14, .inl Hd)), (qw, .inl (cI, 14, .inl Wt)), (qf, .inl (cZ, 14, .inl Fx)), (qu, .inl (cJ, 14, .inr (.inl U))), (qg, .inl (cJ, 24, .inr (.inl G))), (qm, .inr (2, [.ref qn, .ref qo])), (qn, .inl (cJ, 256, .inr (.inl Mb))), (qo, .inl (cJ, 256, .inr (.inl Le))), (ql, .inr (3, [.ref qs, .int (nI z1)])), (qs, .inl (cI, 3432, .inl S1)), (qp, .inr (3, [.ref qr, .int (nI z2)])), (qr, .inl (cI, 3432, .inl S2))] sz) := by
  refine Met.ofW (cc := cX3_cures) (maxL := 1) (ret := (some .int)) (by decide) rfl ?_
  intro p e s m args below meth c s₁ B hml hv
  obtain ⟨rfl, hsz, hP, hK, hD0, hE⟩ := hv
  have hx := B.exec
  have hb := B.bytes
  have hr := B.returns
  have hts := atoms_spec (ws := wsX3_cures) B.pre
  have hown : s.vm.findClass RX3 = some m.cls := findClass_of_methodNamed B.named
  have hlocks := B.notSynchronized
  have iX3 : ∀ w ∈ u_ws RX3 TX3 7, w ∈ wsX3_cures := by decide +kernel
  have iX2 : ∀ w ∈ u_ws RX2 TX2 2, w ∈ wsX3_cures := by decide +kernel
  subst hsz
  have hD := hD0.self (sz := s.heap.size)
  generalize hAe : va_A [(qx, .inr (4, [.ref qa, .ref qm, .ref ql, .ref qp, .int (nI g), .int ck, .int qk])), (qa, .inr (1, [.ref qb, .ref qh, .ref qw, .ref qf, .int (nI n), .ref qu, .ref qg])), (qb, .inl (cI, 14, .inl Bd)), (qh, .inl (cI, 14, .inl Hd)), (qw, .inl (cI, 14, .inl Wt)), (qf, .inl (cZ, 14, .inl Fx)), (qu, .inl (cJ, 14, .inr (.inl U))), (qg, .inl (cJ, 24, .inr (.inl G))), (qm, .inr (2, [.ref qn, .ref qo])), (qn, .inl (cJ, 256, .inr (.inl Mb))), (qo, .inl (cJ, 256, .inr (.inl Le))), (ql, .inr (3, [.ref qs, .int (nI z1)])), (qs, .inl (cI, 3432, .inl S1)), (qp, .inr (3, [.ref qr, .int (nI z2)])), (qr, .inl (cI, 3432, .inl S2))] s.heap.size = A at hD hE ⊢
  have hA : ∀ q : Nat, s.heap.size ≤ q → A q := fun q h => by rw [← hAe]; exact Or.inr h
  have hS : va_S A s.heap s.heap [] := va_S.rf
  obtain ⟨hn, hg, hok, hF⟩ := id hc
  have hl := lv_entry ([.ref qx]) (n := 1) (Nat.le_of_ble_eq_true rfl)
  rw [lg_entry_eq]
  generalize (lg_sl ([.ref qx]) ++ List.replicate (1 - (lg_sl ([.ref qx])).length) Slot.unset).toArray = ls at hl ⊢
  have hl : lv_has ls 1 [(0, .ref qx)] := hl
  refine lv_aload_n hx hb dX3_cures_0 rfl (lv_at hl 0 rfl) ?_
  have hPc := hP.sub (ws' := [(qx, .inr (4, [.ref qa, .ref qm, .ref ql, .ref qp, .int (nI g), .int ck, .int qk])), (qa, .inr (1, [.ref qb, .ref qh, .ref qw, .ref qf, .int (nI n), .ref qu, .ref qg])), (qb, .inl (cI, 14, .inl Bd)), (qh, .inl (cI, 14, .inl Hd)), (qf, .inl (cZ, 14, .inl Fx)), (qu, .inl (cJ, 14, .inr (.inl U))), (qg, .inl (cJ, 24, .inr (.inl G))), (qm, .inr (2, [.ref qn, .ref qo])), (qn, .inl (cJ, 256, .inr (.inl Mb))), (qo, .inl (cJ, 256, .inr (.inl Le))), (qp, .inr (3, [.ref qr, .int (nI z2)])), (qr, .inl (cI, 3432, .inl S2))]) [0, 1, 2, 3, 5, 6, 7, 8, 9, 10, 13, 14] rfl
  have hDc := hD.sub (ws' := [(qx, .inr (4, [.ref qa, .ref qm, .ref ql, .ref qp, .int (nI g), .int ck, .int qk])), (qa, .inr (1, [.ref qb, .ref qh, .ref qw, .ref qf, .int (nI n), .ref qu, .ref qg])), (qb, .inl (cI, 14, .inl Bd)), (qh, .inl (cI, 14, .inl Hd)), (qf, .inl (cZ, 14, .inl Fx)), (qu, .inl (cJ, 14, .inr (.inl U))), (qg, .inl (cJ, 24, .inr (.inl G))), (qm, .inr (2, [.ref qn, .ref qo])), (qn, .inl (cJ, 256, .inr (.inl Mb))), (qo, .inl (cJ, 256, .inr (.inl Le))), (qp, .inr (3, [.ref qr, .int (nI z2)])), (qr, .inl (cI, 3432, .inl S2))]) [0, 1, 2, 3, 5, 6, 7, 8, 9, 10, 13, 14] (by decide) rfl
  have hFc := va_free (wc := [(qx, .inr (4, [.ref qa, .ref qm, .ref ql, .ref qp, .int (nI g), .int ck, .int qk])), (qa, .inr (1, [.ref qb, .ref qh, .ref qw, .ref qf, .int (nI n), .ref qu, .ref qg])), (qb, .inl (cI, 14, .inl Bd)), (qh, .inl (cI, 14, .inl Hd)), (qf, .inl (cZ, 14, .inl Fx)), (qu, .inl (cJ, 14, .inr (.inl U))), (qg, .inl (cJ, 24, .inr (.inl G))), (qm, .inr (2, [.ref qn, .ref qo])), (qn, .inl (cJ, 256, .inr (.inl Mb))), (qo, .inl (cJ, 256, .inr (.inl Le))), (qp, .inr (3, [.ref qr, .int (nI z2)])), (qr, .inl (cI, 3432, .inl S2))]) hD hS hA [0, 1, 2, 3, 5, 6, 7, 8, 9, 10, 13, 14] rfl
  refine va_callr (va_runV (As := []) (rest := []) ⟨hx, hb, hml, hown, hts⟩ (c_X3_knownCures l D cI cZ cJ t1 t2 _ qx qa qb qh qw qf qu qg qm qn qo ql qs qp qr n Bd Hd Wt Fx g U G Mb Le z1 S1 z2 S2 ck qk hn hg hok hi.2.1 hi.2.2.2) (cwV 0 hts gX3_cures_X3_knownCures rfl rfl rfl (by decide +kernel) ⟨Nat.le_of_ble_eq_true rfl, Nat.le_of_ble_eq_true rfl⟩) ⟨wr_blind, va_recv hK hP (ci := 4) (q0 := 0) rfl rfl, wr_pre hPc hDc hK hE hS hFc [0, 1, 2] rfl⟩ rfl rfl hl.1 rfl (lv_room (Nat.le_of_ble_eq_true rfl)) dX3_cures_1 ⟨Nat.le_of_ble_eq_true rfl, Nat.le_of_ble_eq_true rfl⟩) hS (fun q _ h => hFc q h) hFc (fun u_1 ra t H locs ht hvm hw_1 hB hz1 hk1 hS => ?_)
  obtain ⟨era, hP1, hK1, hD1⟩ := hB
  rw [era]
  rw [ht] at hP1
  obtain ⟨hP, hD⟩ := va_join (wr := [(qw, .inl (cI, 14, .inl Wt)), (ql, .inr (3, [.ref qs, .int (nI z1)])), (qs, .inl (cI, 3432, .inl S1))]) (w1 := [(qx, .inr (4, [.ref qa, .ref qm, .ref ql, .ref qp, .int (nI g), .int ck, .int 1])), (qa, .inr (1, [.ref qb, .ref qh, .ref qw, .ref qf, .int (nI n), .ref qu, .ref qg])), (qb, .inl (cI, 14, .inl Bd)), (qh, .inl (cI, 14, .inl Hd)), (qf, .inl (cZ, 14, .inl Fx)), (qu, .inl (cJ, 14, .inr (.inl u_1.1))), (qg, .inl (cJ, 24, .inr (.inl u_1.2.1))), (qm, .inr (2, [.ref qn, .ref qo])), (qn, .inl (cJ, 256, .inr (.inl u_1.2.2.1))), (qo, .inl (cJ, 256, .inr (.inl u_1.2.2.2.1))), (qp, .inr (3, [.ref qr, .int (nI ((QL_ n Bd Hd Fx g).length))])), (qr, .inl (cI, 3432, .inl u_1.2.2.2.2))]) hP hD [0, 1, 2, 3, 5, 6, 7, 8, 9, 10, 13, 14] [4, 11, 12] rfl rfl (by decide) (by decide) hk1 hFc hP1 hD1
  have hP : va_P D vwCl [(qx, .inr (4, [.ref qa, .ref qm, .ref ql, .ref qp, .int (nI g), .int ck, .int 1])), (qa, .inr (1, [.ref qb, .ref qh, .ref qw, .ref qf, .int (nI n), .ref qu, .ref qg])), (qb, .inl (cI, 14, .inl Bd)), (qh, .inl (cI, 14, .inl Hd)), (qw, .inl (cI, 14, .inl Wt)), (qf, .inl (cZ, 14, .inl Fx)), (qu, .inl (cJ, 14, .inr (.inl u_1.1))), (qg, .inl (cJ, 24, .inr (.inl u_1.2.1))), (qm, .inr (2, [.ref qn, .ref qo])), (qn, .inl (cJ, 256, .inr (.inl u_1.2.2.1))), (qo, .inl (cJ, 256, .inr (.inl u_1.2.2.2.1))), (ql, .inr (3, [.ref qs, .int (nI z1)])), (qs, .inl (cI, 3432, .inl S1)), (qp, .inr (3, [.ref qr, .int (nI ((QL_ n Bd Hd Fx g).length))])), (qr, .inl (cI, 3432, .inl u_1.2.2.2.2))] H := hP.sub [3, 4, 5, 6, 0, 7, 8, 9, 10, 11, 12, 1, 2, 13, 14] rfl
  have hD : va_D A [(qx, .inr (4, [.ref qa, .ref qm, .ref ql, .ref qp, .int (nI g), .int ck, .int 1])), (qa, .inr (1, [.ref qb, .ref qh, .ref qw, .ref qf, .int (nI n), .ref qu, .ref qg])), (qb, .inl (cI, 14, .inl Bd)), (qh, .inl (cI, 14, .inl Hd)), (qw, .inl (cI, 14, .inl Wt)), (qf, .inl (cZ, 14, .inl Fx)), (qu, .inl (cJ, 14, .inr (.inl u_1.1))), (qg, .inl (cJ, 24, .inr (.inl u_1.2.1))), (qm, .inr (2, [.ref qn, .ref qo])), (qn, .inl (cJ, 256, .inr (.inl u_1.2.2.1))), (qo, .inl (cJ, 256, .inr (.inl u_1.2.2.2.1))), (ql, .inr (3, [.ref qs, .int (nI z1)])), (qs, .inl (cI, 3432, .inl S1)), (qp, .inr (3, [.ref qr, .int (nI ((QL_ n Bd Hd Fx g).length))])), (qr, .inl (cI, 3432, .inl u_1.2.2.2.2))] := hD.sub [3, 4, 5, 6, 0, 7, 8, 9, 10, 11, 12, 1, 2, 13, 14] (by decide) rfl
  clear hPc hDc hFc hP1 hK1 hD1 hk1 hz1
  refine va_getN (D := D) (ci := 3) (v := .int (nI ((QL_ n Bd Hd Fx g).length))) (C := RX2) (T := TX2) (N := 2) (host := "LeastSets") hx hb hts iX2 hown hK hP 13 rfl rfl 1 (by decide) (va_Nw.use rfl (hE.1 _ (List.mem_of_getElem? (i := 4) rfl))) (fun _ h9 => h9) rfl dX3_cures_4 ?_
  exact W.iret (v := (nI ((QL_ n Bd Hd Fx g).length))) hx hb hr (fun t ht hW => ⟨⟨(nI ((QL_ n Bd Hd Fx g).length)), ((n, Bd, Hd, Wt, Fx, g), (u_1.1, u_1.2.1, u_1.2.2.1, u_1.2.2.2.1, z1, S1, (QL_ n Bd Hd Fx g).length, u_1.2.2.2.2, ck, 1)), rfl, ⟨rfl, rfl, hc, ⟨hi.1, Or.inr rfl, hi.2.2.1, fun _ => ⟨rfl, hw_1⟩⟩⟩, by rw [ht]; exact hP, va_K.moved hW.alike hK, hD⟩, hS.F ht⟩) hS.2.2 dX3_cures_7
set_option maxHeartbeats 4000000 in
set_option maxRecDepth 100000 in
/-- cause(x) -/
theorem c_X3_cause (l : Launch) (D : va_G) (cI cZ cJ : ClassId) (t1 t2 sz : Nat) (qx qa qb qh qw qf qu qg qm qn qo ql qs qp qr : Nat) (n : Nat) (Bd Hd Wt Fx : Nat → Int32) (g : Nat) (U G Mb Le : Nat → Int64) (z1 : Nat) (S1 : Nat → Int32) (z2 : Nat) (S2 : Nat → Int32) (ck qk : Int32) (hc : CO_ n Bd Hd Fx g) (hi : IV_ n Bd Hd Fx g z1 S1 z2 S2 ck qk) (x : Int32) : Met l yX3_cause wsX3_cause ({ frames := 6, cells := 0, slots := 0, locals := 141 } : Room) (va_Pc [.ref qx, .int x] (wr_ D [(cI, .int), (cZ, .boolean), (cJ, .long)] [(qx, .inr (4, [.ref qa, .ref qm, .ref ql, .ref qp, .int (nI g), .int ck, .int qk])), (qa, .inr (1, [.ref qb, .ref qh, .ref qw, .ref qf, .int (nI n), .ref qu, .ref qg])), (qb, .inl (cI, 14, .inl Bd)), (qh, .inl (cI, 14, .inl Hd)), (qw, .inl (cI, 14, .inl Wt)), (qf, .inl (cZ, 14, .inl Fx)), (qu, .inl (cJ, 14, .inr (.inl U))), (qg, .inl (cJ, 24, .inr (.inl G))), (qm, .inr (2, [.ref qn, .ref qo])), (qn, .inl (cJ, 256, .inr (.inl Mb))), (qo, .inl (cJ, 256, .inr (.inl Le))), (ql, .inr (3, [.ref qs, .int (nI z1)])), (qs, .inl (cI, 3432, .inl S1)), (qp, .inr (3, [.ref qr, .int (nI z2)])), (qr, .inl (cI, 3432, .inl S2))] t1 t2 sz)) (va_Qi (S := Co_ × Jk_) (fun r u => u.1 = (n, Bd, Hd, Wt, Fx, g) ∧ q_cause (n, Bd, Hd, Wt, Fx, g) x r ∧ cok_ u.1 ∧ iv_ u.1 u.2) (fun u => wd_ D [(cI, .int), (cZ, .boolean), (cJ, .long)] (va_A [(qx, .inr (4, [.ref qa, .ref qm, .ref ql, .ref qp, .int (nI g), .int ck, .int qk])), (qa, .inr (1, [.ref qb, .ref qh, .ref qw, .ref qf, .int (nI n), .ref qu, .ref qg])), (qb, .inl (cI, 14, .inl Bd)), (qh, .inl (cI, 14, .inl Hd)), (qw, .inl (cI, 14, .inl Wt)), (qf, .inl (cZ, 14, .inl Fx)), (qu, .inl (cJ, 14, .inr (.inl U))), (qg, .inl (cJ, 24, .inr (.inl G))), (qm, .inr (2, [.ref qn, .ref qo])), (qn, .inl (cJ, 256, .inr (.inl Mb))), (qo, .inl (cJ, 256, .inr (.inl Le))), (ql, .inr (3, [.ref qs, .int (nI z1)])), (qs, .inl (cI, 3432, .inl S1)), (qp, .inr (3, [.ref qr, .int (nI z2)])), (qr, .inl (cI, 3432, .inl S2))] sz) [(qx, .inr (4, [.ref qa, .ref qm, .ref ql, .ref qp, .int (nI u.1.2.2.2.2.2), .int u.2.2.2.2.2.2.2.2.2.1, .int u.2.2.2.2.2.2.2.2.2.2])), (qa, .inr (1, [.ref qb, .ref qh, .ref qw, .ref qf, .int (nI u.1.1), .ref qu, .ref qg])), (qb, .inl (cI, 14, .inl u.1.2.1)), (qh, .inl (cI, 14, .inl u.1.2.2.1)), (qw, .inl (cI, 14, .inl u.1.2.2.2.1)), (qf, .inl (cZ, 14, .inl u.1.2.2.2.2.1)), (qu, .inl (cJ, 14, .inr (.inl u.2.1))), (qg, .inl (cJ, 24, .inr (.inl u.2.2.1))), (qm, .inr (2, [.ref qn, .ref qo])), (qn, .inl (cJ, 256, .inr (.inl u.2.2.2.1))), (qo, .inl (cJ, 256, .inr (.inl u.2.2.2.2.1))), (ql, .inr (3, [.ref qs, .int (nI u.2.2.2.2.2.1)])), (qs, .inl (cI, 3432, .inl u.2.2.2.2.2.2.1)), (qp, .inr (3, [.ref qr, .int (nI u.2.2.2.2.2.2.2.1)])), (qr, .inl (cI, 3432, .inl u.2.2.2.2.2.2.2.2.1))]) (va_A [(qx, .inr (4, [.ref qa, .ref qm, .ref ql, .ref qp, .int (nI g), .int ck, .int qk])), (qa, .inr (1, [.ref qb, .ref qh, .ref qw, .ref qf, .int (nI n), .ref qu, .ref qg])), (qb, .inl (cI, 14, .inl Bd)), (qh, .inl (cI, 14, .inl Hd)), (qw, .inl (cI, 14, .inl Wt)), (qf, .inl (cZ, 14, .inl Fx)), (qu, .inl (cJ, 14, .inr (.inl U))), (qg, .inl (cJ, 24, .inr (.inl G))), (qm, .inr (2, [.ref qn, .ref qo])), (qn, .inl (cJ, 256, .inr (.inl Mb))), (qo, .inl (cJ, 256, .inr (.inl Le))), (ql, .inr (3, [.ref qs, .int (nI z1)])), (qs, .inl (cI, 3432, .inl S1)), (qp, .inr (3, [.ref qr, .int (nI z2)])), (qr, .inl (cI, 3432, .inl S2))] sz)) 0 0 (va_A [(qx, .inr (4, [.ref qa, .ref qm, .ref ql, .ref qp, .int (nI g), .int ck, .int qk])), (qa, .inr (1, [.ref qb, .ref qh, .ref qw, .ref qf, .int (nI n), .ref qu, .ref qg])), (qb, .inl (cI, 14, .inl Bd)), (qh, .inl (cI, 14, .inl Hd)), (qw, .inl (cI, 14, .inl Wt)), (qf, .inl (cZ, 14, .inl Fx)), (qu, .inl (cJ, 14, .inr (.inl U))), (qg, .inl (cJ, 24, .inr (.inl G))), (qm, .inr (2, [.ref qn, .ref qo])), (qn, .inl (cJ, 256, .inr (.inl Mb))), (qo, .inl (cJ, 256, .inr (.inl Le))), (ql, .inr (3, [.ref qs, .int (nI z1)])), (qs, .inl (cI, 3432, .inl S1)), (qp, .inr (3, [.ref qr, .int (nI z2)])), (qr, .inl (cI, 3432, .inl S2))] sz) := by
  refine Met.ofW (cc := cX3_cause) (maxL := 2) (ret := (some .int)) (by decide) rfl ?_
  intro p e s m args below meth c s₁ B hml hv
  obtain ⟨rfl, hsz, hP, hK, hD0, hE⟩ := hv
  have hx := B.exec
  have hb := B.bytes
  have hr := B.returns
  have hts := atoms_spec (ws := wsX3_cause) B.pre
  have hown : s.vm.findClass RX3 = some m.cls := findClass_of_methodNamed B.named
  have hlocks := B.notSynchronized
  have iX3 : ∀ w ∈ u_ws RX3 TX3 7, w ∈ wsX3_cause := by decide +kernel
  subst hsz
  have hD := hD0.self (sz := s.heap.size)
  generalize hAe : va_A [(qx, .inr (4, [.ref qa, .ref qm, .ref ql, .ref qp, .int (nI g), .int ck, .int qk])), (qa, .inr (1, [.ref qb, .ref qh, .ref qw, .ref qf, .int (nI n), .ref qu, .ref qg])), (qb, .inl (cI, 14, .inl Bd)), (qh, .inl (cI, 14, .inl Hd)), (qw, .inl (cI, 14, .inl Wt)), (qf, .inl (cZ, 14, .inl Fx)), (qu, .inl (cJ, 14, .inr (.inl U))), (qg, .inl (cJ, 24, .inr (.inl G))), (qm, .inr (2, [.ref qn, .ref qo])), (qn, .inl (cJ, 256, .inr (.inl Mb))), (qo, .inl (cJ, 256, .inr (.inl Le))), (ql, .inr (3, [.ref qs, .int (nI z1)])), (qs, .inl (cI, 3432, .inl S1)), (qp, .inr (3, [.ref qr, .int (nI z2)])), (qr, .inl (cI, 3432, .inl S2))] s.heap.size = A at hD hE ⊢
  have hA : ∀ q : Nat, s.heap.size ≤ q → A q := fun q h => by rw [← hAe]; exact Or.inr h
  have hS : va_S A s.heap s.heap [] := va_S.rf
  obtain ⟨hn, hg, hok, hF⟩ := id hc
  have hl := lv_entry ([.ref qx, .int x]) (n := 2) (Nat.le_of_ble_eq_true rfl)
  rw [lg_entry_eq]
  generalize (lg_sl ([.ref qx, .int x]) ++ List.replicate (2 - (lg_sl ([.ref qx, .int x])).length) Slot.unset).toArray = ls at hl ⊢
  have hl : lv_has ls 2 [(0, .ref qx), (1, .int x)] := hl
  refine lv_aload_n hx hb dX3_cause_0 rfl (lv_at hl 0 rfl) ?_
  have hPc := hP.sub (ws' := [(qx, .inr (4, [.ref qa, .ref qm, .ref ql, .ref qp, .int (nI g), .int ck, .int qk])), (qa, .inr (1, [.ref qb, .ref qh, .ref qw, .ref qf, .int (nI n), .ref qu, .ref qg])), (qb, .inl (cI, 14, .inl Bd)), (qh, .inl (cI, 14, .inl Hd)), (qu, .inl (cJ, 14, .inr (.inl U))), (qg, .inl (cJ, 24, .inr (.inl G))), (qm, .inr (2, [.ref qn, .ref qo])), (qn, .inl (cJ, 256, .inr (.inl Mb))), (qo, .inl (cJ, 256, .inr (.inl Le))), (ql, .inr (3, [.ref qs, .int (nI z1)])), (qs, .inl (cI, 3432, .inl S1))]) [0, 1, 2, 3, 6, 7, 8, 9, 10, 11, 12] rfl
  have hDc := hD.sub (ws' := [(qx, .inr (4, [.ref qa, .ref qm, .ref ql, .ref qp, .int (nI g), .int ck, .int qk])), (qa, .inr (1, [.ref qb, .ref qh, .ref qw, .ref qf, .int (nI n), .ref qu, .ref qg])), (qb, .inl (cI, 14, .inl Bd)), (qh, .inl (cI, 14, .inl Hd)), (qu, .inl (cJ, 14, .inr (.inl U))), (qg, .inl (cJ, 24, .inr (.inl G))), (qm, .inr (2, [.ref qn, .ref qo])), (qn, .inl (cJ, 256, .inr (.inl Mb))), (qo, .inl (cJ, 256, .inr (.inl Le))), (ql, .inr (3, [.ref qs, .int (nI z1)])), (qs, .inl (cI, 3432, .inl S1))]) [0, 1, 2, 3, 6, 7, 8, 9, 10, 11, 12] (by decide) rfl
  have hFc := va_free (wc := [(qx, .inr (4, [.ref qa, .ref qm, .ref ql, .ref qp, .int (nI g), .int ck, .int qk])), (qa, .inr (1, [.ref qb, .ref qh, .ref qw, .ref qf, .int (nI n), .ref qu, .ref qg])), (qb, .inl (cI, 14, .inl Bd)), (qh, .inl (cI, 14, .inl Hd)), (qu, .inl (cJ, 14, .inr (.inl U))), (qg, .inl (cJ, 24, .inr (.inl G))), (qm, .inr (2, [.ref qn, .ref qo])), (qn, .inl (cJ, 256, .inr (.inl Mb))), (qo, .inl (cJ, 256, .inr (.inl Le))), (ql, .inr (3, [.ref qs, .int (nI z1)])), (qs, .inl (cI, 3432, .inl S1))]) hD hS hA [0, 1, 2, 3, 6, 7, 8, 9, 10, 11, 12] rfl
  refine va_callr (va_runV (As := []) (rest := []) ⟨hx, hb, hml, hown, hts⟩ (c_X3_knownCauses l D cI cZ cJ t1 t2 _ qx qa qb qh qw qf qu qg qm qn qo ql qs qp qr n Bd Hd Wt Fx g U G Mb Le z1 S1 z2 S2 ck qk hn hg hok hi.1 hi.2.2.1) (cwV 0 hts gX3_cause_X3_knownCauses rfl rfl rfl (by decide +kernel) ⟨Nat.le_of_ble_eq_true rfl, Nat.le_of_ble_eq_true rfl⟩) ⟨wr_blind, va_recv hK hP (ci := 4) (q0 := 0) rfl rfl, wr_pre hPc hDc hK hE hS hFc [0, 1, 2] rfl⟩ rfl rfl hl.1 rfl (lv_room (Nat.le_of_ble_eq_true rfl)) dX3_cause_1 ⟨Nat.le_of_ble_eq_true rfl, Nat.le_of_ble_eq_true rfl⟩) hS (fun q _ h => hFc q h) hFc (fun u_1 ra t H locs ht hvm hw_1 hB hz1 hk1 hS => ?_)
  obtain ⟨era, hP1, hK1, hD1⟩ := hB
  rw [era]
  rw [ht] at hP1
  obtain ⟨hP, hD⟩ := va_join (wr := [(qw, .inl (cI, 14, .inl Wt)), (qf, .inl (cZ, 14, .inl Fx)), (qp, .inr (3, [.ref qr, .int (nI z2)])), (qr, .inl (cI, 3432, .inl S2))]) (w1 := [(qx, .inr (4, [.ref qa, .ref qm, .ref ql, .ref qp, .int (nI g), .int 1, .int qk])), (qa, .inr (1, [.ref qb, .ref qh, .ref qw, .ref qf, .int (nI n), .ref qu, .ref qg])), (qb, .inl (cI, 14, .inl Bd)), (qh, .inl (cI, 14, .inl Hd)), (qu, .inl (cJ, 14, .inr (.inl u_1.1))), (qg, .inl (cJ, 24, .inr (.inl u_1.2.1))), (qm, .inr (2, [.ref qn, .ref qo])), (qn, .inl (cJ, 256, .inr (.inl u_1.2.2.1))), (qo, .inl (cJ, 256, .inr (.inl u_1.2.2.2.1))), (ql, .inr (3, [.ref qs, .int (nI ((CL_ n Bd Hd g).length))])), (qs, .inl (cI, 3432, .inl u_1.2.2.2.2))]) hP hD [0, 1, 2, 3, 6, 7, 8, 9, 10, 11, 12] [4, 5, 13, 14] rfl rfl (by decide) (by decide) hk1 hFc hP1 hD1
  have hP : va_P D vwCl [(qx, .inr (4, [.ref qa, .ref qm, .ref ql, .ref qp, .int (nI g), .int 1, .int qk])), (qa, .inr (1, [.ref qb, .ref qh, .ref qw, .ref qf, .int (nI n), .ref qu, .ref qg])), (qb, .inl (cI, 14, .inl Bd)), (qh, .inl (cI, 14, .inl Hd)), (qw, .inl (cI, 14, .inl Wt)), (qf, .inl (cZ, 14, .inl Fx)), (qu, .inl (cJ, 14, .inr (.inl u_1.1))), (qg, .inl (cJ, 24, .inr (.inl u_1.2.1))), (qm, .inr (2, [.ref qn, .ref qo])), (qn, .inl (cJ, 256, .inr (.inl u_1.2.2.1))), (qo, .inl (cJ, 256, .inr (.inl u_1.2.2.2.1))), (ql, .inr (3, [.ref qs, .int (nI ((CL_ n Bd Hd g).length))])), (qs, .inl (cI, 3432, .inl u_1.2.2.2.2)), (qp, .inr (3, [.ref qr, .int (nI z2)])), (qr, .inl (cI, 3432, .inl S2))] H := hP.sub [4, 5, 6, 7, 0, 1, 8, 9, 10, 11, 12, 13, 14, 2, 3] rfl
  have hD : va_D A [(qx, .inr (4, [.ref qa, .ref qm, .ref ql, .ref qp, .int (nI g), .int 1, .int qk])), (qa, .inr (1, [.ref qb, .ref qh, .ref qw, .ref qf, .int (nI n), .ref qu, .ref qg])), (qb, .inl (cI, 14, .inl Bd)), (qh, .inl (cI, 14, .inl Hd)), (qw, .inl (cI, 14, .inl Wt)), (qf, .inl (cZ, 14, .inl Fx)), (qu, .inl (cJ, 14, .inr (.inl u_1.1))), (qg, .inl (cJ, 24, .inr (.inl u_1.2.1))), (qm, .inr (2, [.ref qn, .ref qo])), (qn, .inl (cJ, 256, .inr (.inl u_1.2.2.1))), (qo, .inl (cJ, 256, .inr (.inl u_1.2.2.2.1))), (ql, .inr (3, [.ref qs, .int (nI ((CL_ n Bd Hd g).length))])), (qs, .inl (cI, 3432, .inl u_1.2.2.2.2)), (qp, .inr (3, [.ref qr, .int (nI z2)])), (qr, .inl (cI, 3432, .inl S2))] := hD.sub [4, 5, 6, 7, 0, 1, 8, 9, 10, 11, 12, 13, 14, 2, 3] (by decide) rfl
  clear hPc hDc hFc hP1 hK1 hD1 hk1 hz1
  refine lv_iload_n hx hb dX3_cause_4 rfl (lv_at hl 1 rfl) ?_
  refine vp_callSi (va_runV (As := [.int x]) (rest := []) ⟨hx, hb, hml, hown, hts⟩ (c_X2_at l D cI cZ cJ ql qs (CL_ n Bd Hd g).length (CL_len hn Bd Hd g) u_1.2.2.2.2 x) (cwV 1 hts gX3_cause_X2_at rfl rfl rfl (by decide +kernel) ⟨Nat.le_of_ble_eq_true rfl, Nat.le_of_ble_eq_true rfl⟩) ⟨ro_blind, va_recv hK hP (ci := 3) (q0 := 11) rfl rfl, ro_pre (hP.sub (ws' := [(ql, .inr (3, [.ref qs, .int (nI ((CL_ n Bd Hd g).length))])), (qs, .inl (cI, 3432, .inl u_1.2.2.2.2))]) [11, 12] rfl) hK [0, 1, 2] rfl⟩ rfl rfl hl.1 rfl (lv_room (Nat.le_of_ble_eq_true rfl)) dX3_cause_5 ⟨Nat.le_of_ble_eq_true rfl, Nat.le_of_ble_eq_true rfl⟩).run (fun r_5 hr_5 => ?_)
  exact W.iret (v := r_5) hx hb hr (fun t ht hW => ⟨⟨r_5, ((n, Bd, Hd, Wt, Fx, g), (u_1.1, u_1.2.1, u_1.2.2.1, u_1.2.2.2.1, (CL_ n Bd Hd g).length, u_1.2.2.2.2, z2, S2, 1, qk)), rfl, ⟨rfl, at_congr (fun j hj => ln_sx hw_1 hj) hr_5, hc, ⟨Or.inr rfl, hi.2.1, fun _ => ⟨rfl, hw_1⟩, hi.2.2.2⟩⟩, by rw [ht]; exact hP, va_K.moved hW.alike hK, hD⟩, hS.F ht⟩) hS.2.2 dX3_cause_8
set_option maxHeartbeats 4000000 in
set_option maxRecDepth 100000 in
/-- cure(x) -/
theorem c_X3_cure (l : Launch) (D : va_G) (cI cZ cJ : ClassId) (t1 t2 sz : Nat) (qx qa qb qh qw qf qu qg qm qn qo ql qs qp qr : Nat) (n : Nat) (Bd Hd Wt Fx : Nat → Int32) (g : Nat) (U G Mb Le : Nat → Int64) (z1 : Nat) (S1 : Nat → Int32) (z2 : Nat) (S2 : Nat → Int32) (ck qk : Int32) (hc : CO_ n Bd Hd Fx g) (hi : IV_ n Bd Hd Fx g z1 S1 z2 S2 ck qk) (x : Int32) : Met l yX3_cure wsX3_cure ({ frames := 6, cells := 0, slots := 0, locals := 141 } : Room) (va_Pc [.ref qx, .int x] (wr_ D [(cI, .int), (cZ, .boolean), (cJ, .long)] [(qx, .inr (4, [.ref qa, .ref qm, .ref ql, .ref qp, .int (nI g), .int ck, .int qk])), (qa, .inr (1, [.ref qb, .ref qh, .ref qw, .ref qf, .int (nI n), .ref qu, .ref qg])), (qb, .inl (cI, 14, .inl Bd)), (qh, .inl (cI, 14, .inl Hd)), (qw, .inl (cI, 14, .inl Wt)), (qf, .inl (cZ, 14, .inl Fx)), (qu, .inl (cJ, 14, .inr (.inl U))), (qg, .inl (cJ, 24, .inr (.inl G))), (qm, .inr (2, [.ref qn, .ref qo])), (qn, .inl (cJ, 256, .inr (.inl Mb))), (qo, .inl (cJ, 256, .inr (.inl Le))), (ql, .inr (3, [.ref qs, .int (nI z1)])), (qs, .inl (cI, 3432, .inl S1)), (qp, .inr (3, [.ref qr, .int (nI z2)])), (qr, .inl (cI, 3432, .inl S2))] t1 t2 sz)) (va_Qi (S := Co_ × Jk_) (fun r u => u.1 = (n, Bd, Hd, Wt, Fx, g) ∧ q_cure (n, Bd, Hd, Wt, Fx, g) x r ∧ cok_ u.1 ∧ iv_ u.1 u.2) (fun u => wd_ D [(cI, .int), (cZ, .boolean), (cJ, .long)] (va_A [(qx, .inr (4, [.ref qa, .ref qm, .ref ql, .ref qp, .int (nI g), .int ck, .int qk])), (qa, .inr (1, [.ref qb, .ref qh, .ref qw, .ref qf, .int (nI n), .ref qu, .ref qg])), (qb, .inl (cI, 14, .inl Bd)), (qh, .inl (cI, 14, .inl Hd)), (qw, .inl (cI, 14, .inl Wt)), (qf, .inl (cZ, 14, .inl Fx)), (qu, .inl (cJ, 14, .inr (.inl U))), (qg, .inl (cJ, 24, .inr (.inl G))), (qm, .inr (2, [.ref qn, .ref qo])), (qn, .inl (cJ, 256, .inr (.inl Mb))), (qo, .inl (cJ, 256, .inr (.inl Le))), (ql, .inr (3, [.ref qs, .int (nI z1)])), (qs, .inl (cI, 3432, .inl S1)), (qp, .inr (3, [.ref qr, .int (nI z2)])), (qr, .inl (cI, 3432, .inl S2))] sz) [(qx, .inr (4, [.ref qa, .ref qm, .ref ql, .ref qp, .int (nI u.1.2.2.2.2.2), .int u.2.2.2.2.2.2.2.2.2.1, .int u.2.2.2.2.2.2.2.2.2.2])), (qa, .inr (1, [.ref qb, .ref qh, .ref qw, .ref qf, .int (nI u.1.1), .ref qu, .ref qg])), (qb, .inl (cI, 14, .inl u.1.2.1)), (qh, .inl (cI, 14, .inl u.1.2.2.1)), (qw, .inl (cI, 14, .inl u.1.2.2.2.1)), (qf, .inl (cZ, 14, .inl u.1.2.2.2.2.1)), (qu, .inl (cJ, 14, .inr (.inl u.2.1))), (qg, .inl (cJ, 24, .inr (.inl u.2.2.1))), (qm, .inr (2, [.ref qn, .ref qo])), (qn, .inl (cJ, 256, .inr (.inl u.2.2.2.1))), (qo, .inl (cJ, 256, .inr (.inl u.2.2.2.2.1))), (ql, .inr (3, [.ref qs, .int (nI u.2.2.2.2.2.1)])), (qs, .inl (cI, 3432, .inl u.2.2.2.2.2.2.1)), (qp, .inr (3, [.ref qr, .int (nI u.2.2.2.2.2.2.2.1)])), (qr, .inl (cI, 3432, .inl u.2.2.2.2.2.2.2.2.1))]) (va_A [(qx, .inr (4, [.ref qa, .ref qm, .ref ql, .ref qp, .int (nI g), .int ck, .int qk])), (qa, .inr (1, [.ref qb, .ref qh, .ref qw, .ref qf, .int (nI n), .ref qu, .ref qg])), (qb, .inl (cI, 14, .inl Bd)), (qh, .inl (cI, 14, .inl Hd)), (qw, .inl (cI, 14, .inl Wt)), (qf, .inl (cZ, 14, .inl Fx)), (qu, .inl (cJ, 14, .inr (.inl U))), (qg, .inl (cJ, 24, .inr (.inl G))), (qm, .inr (2, [.ref qn, .ref qo])), (qn, .inl (cJ, 256, .inr (.inl Mb))), (qo, .inl (cJ, 256, .inr (.inl Le))), (ql, .inr (3, [.ref qs, .int (nI z1)])), (qs, .inl (cI, 3432, .inl S1)), (qp, .inr (3, [.ref qr, .int (nI z2)])), (qr, .inl (cI, 3432, .inl S2))] sz)) 0 0 (va_A [(qx, .inr (4, [.ref qa, .ref qm, .ref ql, .ref qp, .int (nI g), .int ck, .int qk])), (qa, .inr (1, [.ref qb, .ref qh, .ref qw, .ref qf, .int (nI n), .ref qu, .ref qg])), (qb, .inl (cI, 14, .inl Bd)), (qh, .inl (cI, 14, .inl Hd)), (qw, .inl (cI, 14, .inl Wt)), (qf, .inl (cZ, 14, .inl Fx)), (qu, .inl (cJ, 14, .inr (.inl U))), (qg, .inl (cJ, 24, .inr (.inl G))), (qm, .inr (2, [.ref qn, .ref qo])), (qn, .inl (cJ, 256, .inr (.inl Mb))), (qo, .inl (cJ, 256, .inr (.inl Le))), (ql, .inr (3, [.ref qs, .int (nI z1)])), (qs, .inl (cI, 3432, .inl S1)), (qp, .inr (3, [.ref qr, .int (nI z2)])), (qr, .inl (cI, 3432, .inl S2))] sz) := by
  refine Met.ofW (cc := cX3_cure) (maxL := 2) (ret := (some .int)) (by decide) rfl ?_
  intro p e s m args below meth c s₁ B hml hv
  obtain ⟨rfl, hsz, hP, hK, hD0, hE⟩ := hv
  have hx := B.exec
  have hb := B.bytes
  have hr := B.returns
  have hts := atoms_spec (ws := wsX3_cure) B.pre
  have hown : s.vm.findClass RX3 = some m.cls := findClass_of_methodNamed B.named
  have hlocks := B.notSynchronized
  have iX3 : ∀ w ∈ u_ws RX3 TX3 7, w ∈ wsX3_cure := by decide +kernel
  subst hsz
  have hD := hD0.self (sz := s.heap.size)
  generalize hAe : va_A [(qx, .inr (4, [.ref qa, .ref qm, .ref ql, .ref qp, .int (nI g), .int ck, .int qk])), (qa, .inr (1, [.ref qb, .ref qh, .ref qw, .ref qf, .int (nI n), .ref qu, .ref qg])), (qb, .inl (cI, 14, .inl Bd)), (qh, .inl (cI, 14, .inl Hd)), (qw, .inl (cI, 14, .inl Wt)), (qf, .inl (cZ, 14, .inl Fx)), (qu, .inl (cJ, 14, .inr (.inl U))), (qg, .inl (cJ, 24, .inr (.inl G))), (qm, .inr (2, [.ref qn, .ref qo])), (qn, .inl (cJ, 256, .inr (.inl Mb))), (qo, .inl (cJ, 256, .inr (.inl Le))), (ql, .inr (3, [.ref qs, .int (nI z1)])), (qs, .inl (cI, 3432, .inl S1)), (qp, .inr (3, [.ref qr, .int (nI z2)])), (qr, .inl (cI, 3432, .inl S2))] s.heap.size = A at hD hE ⊢
  have hA : ∀ q : Nat, s.heap.size ≤ q → A q := fun q h => by rw [← hAe]; exact Or.inr h
  have hS : va_S A s.heap s.heap [] := va_S.rf
  obtain ⟨hn, hg, hok, hF⟩ := id hc
  have hl := lv_entry ([.ref qx, .int x]) (n := 2) (Nat.le_of_ble_eq_true rfl)
  rw [lg_entry_eq]
  generalize (lg_sl ([.ref qx, .int x]) ++ List.replicate (2 - (lg_sl ([.ref qx, .int x])).length) Slot.unset).toArray = ls at hl ⊢
  have hl : lv_has ls 2 [(0, .ref qx), (1, .int x)] := hl
  refine lv_aload_n hx hb dX3_cure_0 rfl (lv_at hl 0 rfl) ?_
  have hPc := hP.sub (ws' := [(qx, .inr (4, [.ref qa, .ref qm, .ref ql, .ref qp, .int (nI g), .int ck, .int qk])), (qa, .inr (1, [.ref qb, .ref qh, .ref qw, .ref qf, .int (nI n), .ref qu, .ref qg])), (qb, .inl (cI, 14, .inl Bd)), (qh, .inl (cI, 14, .inl Hd)), (qf, .inl (cZ, 14, .inl Fx)), (qu, .inl (cJ, 14, .inr (.inl U))), (qg, .inl (cJ, 24, .inr (.inl G))), (qm, .inr (2, [.ref qn, .ref qo])), (qn, .inl (cJ, 256, .inr (.inl Mb))), (qo, .inl (cJ, 256, .inr (.inl Le))), (qp, .inr (3, [.ref qr, .int (nI z2)])), (qr, .inl (cI, 3432, .inl S2))]) [0, 1, 2, 3, 5, 6, 7, 8, 9, 10, 13, 14] rfl
  have hDc := hD.sub (ws' := [(qx, .inr (4, [.ref qa, .ref qm, .ref ql, .ref qp, .int (nI g), .int ck, .int qk])), (qa, .inr (1, [.ref qb, .ref qh, .ref qw, .ref qf, .int (nI n), .ref qu, .ref qg])), (qb, .inl (cI, 14, .inl Bd)), (qh, .inl (cI, 14, .inl Hd)), (qf, .inl (cZ, 14, .inl Fx)), (qu, .inl (cJ, 14, .inr (.inl U))), (qg, .inl (cJ, 24, .inr (.inl G))), (qm, .inr (2, [.ref qn, .ref qo])), (qn, .inl (cJ, 256, .inr (.inl Mb))), (qo, .inl (cJ, 256, .inr (.inl Le))), (qp, .inr (3, [.ref qr, .int (nI z2)])), (qr, .inl (cI, 3432, .inl S2))]) [0, 1, 2, 3, 5, 6, 7, 8, 9, 10, 13, 14] (by decide) rfl
  have hFc := va_free (wc := [(qx, .inr (4, [.ref qa, .ref qm, .ref ql, .ref qp, .int (nI g), .int ck, .int qk])), (qa, .inr (1, [.ref qb, .ref qh, .ref qw, .ref qf, .int (nI n), .ref qu, .ref qg])), (qb, .inl (cI, 14, .inl Bd)), (qh, .inl (cI, 14, .inl Hd)), (qf, .inl (cZ, 14, .inl Fx)), (qu, .inl (cJ, 14, .inr (.inl U))), (qg, .inl (cJ, 24, .inr (.inl G))), (qm, .inr (2, [.ref qn, .ref qo])), (qn, .inl (cJ, 256, .inr (.inl Mb))), (qo, .inl (cJ, 256, .inr (.inl Le))), (qp, .inr (3, [.ref qr, .int (nI z2)])), (qr, .inl (cI, 3432, .inl S2))]) hD hS hA [0, 1, 2, 3, 5, 6, 7, 8, 9, 10, 13, 14] rfl
  refine va_callr (va_runV (As := []) (rest := []) ⟨hx, hb, hml, hown, hts⟩ (c_X3_knownCures l D cI cZ cJ t1 t2 _ qx qa qb qh qw qf qu qg qm qn qo ql qs qp qr n Bd Hd Wt Fx g U G Mb Le z1 S1 z2 S2 ck qk hn hg hok hi.2.1 hi.2.2.2) (cwV 0 hts gX3_cure_X3_knownCures rfl rfl rfl (by decide +kernel) ⟨Nat.le_of_ble_eq_true rfl, Nat.le_of_ble_eq_true rfl⟩) ⟨wr_blind, va_recv hK hP (ci := 4) (q0 := 0) rfl rfl, wr_pre hPc hDc hK hE hS hFc [0, 1, 2] rfl⟩ rfl rfl hl.1 rfl (lv_room (Nat.le_of_ble_eq_true rfl)) dX3_cure_1 ⟨Nat.le_of_ble_eq_true rfl, Nat.le_of_ble_eq_true rfl⟩) hS (fun q _ h => hFc q h) hFc (fun u_1 ra t H locs ht hvm hw_1 hB hz1 hk1 hS => ?_)
  obtain ⟨era, hP1, hK1, hD1⟩ := hB
  rw [era]
  rw [ht] at hP1
  obtain ⟨hP, hD⟩ := va_join (wr := [(qw, .inl (cI, 14, .inl Wt)), (ql, .inr (3, [.ref qs, .int (nI z1)])), (qs, .inl (cI, 3432, .inl S1))]) (w1 := [(qx, .inr (4, [.ref qa, .ref qm, .ref ql, .ref qp, .int (nI g), .int ck, .int 1])), (qa, .inr (1, [.ref qb, .ref qh, .ref qw, .ref qf, .int (nI n), .ref qu, .ref qg])), (qb, .inl (cI, 14, .inl Bd)), (qh, .inl (cI, 14, .inl Hd)), (qf, .inl (cZ, 14, .inl Fx)), (qu, .inl (cJ, 14, .inr (.inl u_1.1))), (qg, .inl (cJ, 24, .inr (.inl u_1.2.1))), (qm, .inr (2, [.ref qn, .ref qo])), (qn, .inl (cJ, 256, .inr (.inl u_1.2.2.1))), (qo, .inl (cJ, 256, .inr (.inl u_1.2.2.2.1))), (qp, .inr (3, [.ref qr, .int (nI ((QL_ n Bd Hd Fx g).length))])), (qr, .inl (cI, 3432, .inl u_1.2.2.2.2))]) hP hD [0, 1, 2, 3, 5, 6, 7, 8, 9, 10, 13, 14] [4, 11, 12] rfl rfl (by decide) (by decide) hk1 hFc hP1 hD1
  have hP : va_P D vwCl [(qx, .inr (4, [.ref qa, .ref qm, .ref ql, .ref qp, .int (nI g), .int ck, .int 1])), (qa, .inr (1, [.ref qb, .ref qh, .ref qw, .ref qf, .int (nI n), .ref qu, .ref qg])), (qb, .inl (cI, 14, .inl Bd)), (qh, .inl (cI, 14, .inl Hd)), (qw, .inl (cI, 14, .inl Wt)), (qf, .inl (cZ, 14, .inl Fx)), (qu, .inl (cJ, 14, .inr (.inl u_1.1))), (qg, .inl (cJ, 24, .inr (.inl u_1.2.1))), (qm, .inr (2, [.ref qn, .ref qo])), (qn, .inl (cJ, 256, .inr (.inl u_1.2.2.1))), (qo, .inl (cJ, 256, .inr (.inl u_1.2.2.2.1))), (ql, .inr (3, [.ref qs, .int (nI z1)])), (qs, .inl (cI, 3432, .inl S1)), (qp, .inr (3, [.ref qr, .int (nI ((QL_ n Bd Hd Fx g).length))])), (qr, .inl (cI, 3432, .inl u_1.2.2.2.2))] H := hP.sub [3, 4, 5, 6, 0, 7, 8, 9, 10, 11, 12, 1, 2, 13, 14] rfl
  have hD : va_D A [(qx, .inr (4, [.ref qa, .ref qm, .ref ql, .ref qp, .int (nI g), .int ck, .int 1])), (qa, .inr (1, [.ref qb, .ref qh, .ref qw, .ref qf, .int (nI n), .ref qu, .ref qg])), (qb, .inl (cI, 14, .inl Bd)), (qh, .inl (cI, 14, .inl Hd)), (qw, .inl (cI, 14, .inl Wt)), (qf, .inl (cZ, 14, .inl Fx)), (qu, .inl (cJ, 14, .inr (.inl u_1.1))), (qg, .inl (cJ, 24, .inr (.inl u_1.2.1))), (qm, .inr (2, [.ref qn, .ref qo])), (qn, .inl (cJ, 256, .inr (.inl u_1.2.2.1))), (qo, .inl (cJ, 256, .inr (.inl u_1.2.2.2.1))), (ql, .inr (3, [.ref qs, .int (nI z1)])), (qs, .inl (cI, 3432, .inl S1)), (qp, .inr (3, [.ref qr, .int (nI ((QL_ n Bd Hd Fx g).length))])), (qr, .inl (cI, 3432, .inl u_1.2.2.2.2))] := hD.sub [3, 4, 5, 6, 0, 7, 8, 9, 10, 11, 12, 1, 2, 13, 14] (by decide) rfl
  clear hPc hDc hFc hP1 hK1 hD1 hk1 hz1
  refine lv_iload_n hx hb dX3_cure_4 rfl (lv_at hl 1 rfl) ?_
  refine vp_callSi (va_runV (As := [.int x]) (rest := []) ⟨hx, hb, hml, hown, hts⟩ (c_X2_at l D cI cZ cJ qp qr (QL_ n Bd Hd Fx g).length (QL_len hn Bd Hd Fx g) u_1.2.2.2.2 x) (cwV 1 hts gX3_cure_X2_at rfl rfl rfl (by decide +kernel) ⟨Nat.le_of_ble_eq_true rfl, Nat.le_of_ble_eq_true rfl⟩) ⟨ro_blind, va_recv hK hP (ci := 3) (q0 := 13) rfl rfl, ro_pre (hP.sub (ws' := [(qp, .inr (3, [.ref qr, .int (nI ((QL_ n Bd Hd Fx g).length))])), (qr, .inl (cI, 3432, .inl u_1.2.2.2.2))]) [13, 14] rfl) hK [0, 1, 2] rfl⟩ rfl rfl hl.1 rfl (lv_room (Nat.le_of_ble_eq_true rfl)) dX3_cure_5 ⟨Nat.le_of_ble_eq_true rfl, Nat.le_of_ble_eq_true rfl⟩).run (fun r_5 hr_5 => ?_)
  exact W.iret (v := r_5) hx hb hr (fun t ht hW => ⟨⟨r_5, ((n, Bd, Hd, Wt, Fx, g), (u_1.1, u_1.2.1, u_1.2.2.1, u_1.2.2.2.1, z1, S1, (QL_ n Bd Hd Fx g).length, u_1.2.2.2.2, ck, 1)), rfl, ⟨rfl, at_congr (fun j hj => ln_sx hw_1 hj) hr_5, hc, ⟨hi.1, Or.inr rfl, hi.2.2.1, fun _ => ⟨rfl, hw_1⟩⟩⟩, by rw [ht]; exact hP, va_K.moved hW.alike hK, hD⟩, hS.F ht⟩) hS.2.2 dX3_cure_8
set_option maxHeartbeats 4000000 in
set_option maxRecDepth 100000 in
/-- within(x) -/
theorem c_X3_within (l : Launch) (D : va_G) (cI cZ cJ : ClassId) (t1 t2 sz : Nat) (qx qa qb qh qw qf qu qg qm qn qo ql qs qp qr : Nat) (n : Nat) (Bd Hd Wt Fx : Nat → Int32) (g : Nat) (U G Mb Le : Nat → Int64) (z1 : Nat) (S1 : Nat → Int32) (z2 : Nat) (S2 : Nat → Int32) (ck qk : Int32) (hc : CO_ n Bd Hd Fx g) (hi : IV_ n Bd Hd Fx g z1 S1 z2 S2 ck qk) (x : Int32) : Met l yX3_within wsX3_within ({ frames := 6, cells := 0, slots := 0, locals := 141 } : Room) (va_Pc [.ref qx, .int x] (wr_ D [(cI, .int), (cZ, .boolean), (cJ, .long)] [(qx, .inr (4, [.ref qa, .ref qm, .ref ql, .ref qp, .int (nI g), .int ck, .int qk])), (qa, .inr (1, [.ref qb, .ref qh, .ref qw, .ref qf, .int (nI n), .ref qu, .ref qg])), (qb, .inl (cI, 14, .inl Bd)), (qh, .inl (cI, 14, .inl Hd)), (qw, .inl (cI, 14, .inl Wt)), (qf, .inl (cZ, 14, .inl Fx)), (qu, .inl (cJ, 14, .inr (.inl U))), (qg, .inl (cJ, 24, .inr (.inl G))), (qm, .inr (2, [.ref qn, .ref qo])), (qn, .inl (cJ, 256, .inr (.inl Mb))), (qo, .inl (cJ, 256, .inr (.inl Le))), (ql, .inr (3, [.ref qs, .int (nI z1)])), (qs, .inl (cI, 3432, .inl S1)), (qp, .inr (3, [.ref qr, .int (nI z2)])), (qr, .inl (cI, 3432, .inl S2))] t1 t2 sz)) (va_Qi (S := Co_ × Jk_) (fun r u => u.1 = (n, Bd, Hd, Wt, Fx, g) ∧ q_within (n, Bd, Hd, Wt, Fx, g) x r ∧ cok_ u.1 ∧ iv_ u.1 u.2) (fun u => wd_ D [(cI, .int), (cZ, .boolean), (cJ, .long)] (va_A [(qx, .inr (4, [.ref qa, .ref qm, .ref ql, .ref qp, .int (nI g), .int ck, .int qk])), (qa, .inr (1, [.ref qb, .ref qh, .ref qw, .ref qf, .int (nI n), .ref qu, .ref qg])), (qb, .inl (cI, 14, .inl Bd)), (qh, .inl (cI, 14, .inl Hd)), (qw, .inl (cI, 14, .inl Wt)), (qf, .inl (cZ, 14, .inl Fx)), (qu, .inl (cJ, 14, .inr (.inl U))), (qg, .inl (cJ, 24, .inr (.inl G))), (qm, .inr (2, [.ref qn, .ref qo])), (qn, .inl (cJ, 256, .inr (.inl Mb))), (qo, .inl (cJ, 256, .inr (.inl Le))), (ql, .inr (3, [.ref qs, .int (nI z1)])), (qs, .inl (cI, 3432, .inl S1)), (qp, .inr (3, [.ref qr, .int (nI z2)])), (qr, .inl (cI, 3432, .inl S2))] sz) [(qx, .inr (4, [.ref qa, .ref qm, .ref ql, .ref qp, .int (nI u.1.2.2.2.2.2), .int u.2.2.2.2.2.2.2.2.2.1, .int u.2.2.2.2.2.2.2.2.2.2])), (qa, .inr (1, [.ref qb, .ref qh, .ref qw, .ref qf, .int (nI u.1.1), .ref qu, .ref qg])), (qb, .inl (cI, 14, .inl u.1.2.1)), (qh, .inl (cI, 14, .inl u.1.2.2.1)), (qw, .inl (cI, 14, .inl u.1.2.2.2.1)), (qf, .inl (cZ, 14, .inl u.1.2.2.2.2.1)), (qu, .inl (cJ, 14, .inr (.inl u.2.1))), (qg, .inl (cJ, 24, .inr (.inl u.2.2.1))), (qm, .inr (2, [.ref qn, .ref qo])), (qn, .inl (cJ, 256, .inr (.inl u.2.2.2.1))), (qo, .inl (cJ, 256, .inr (.inl u.2.2.2.2.1))), (ql, .inr (3, [.ref qs, .int (nI u.2.2.2.2.2.1)])), (qs, .inl (cI, 3432, .inl u.2.2.2.2.2.2.1)), (qp, .inr (3, [.ref qr, .int (nI u.2.2.2.2.2.2.2.1)])), (qr, .inl (cI, 3432, .inl u.2.2.2.2.2.2.2.2.1))]) (va_A [(qx, .inr (4, [.ref qa, .ref qm, .ref ql, .ref qp, .int (nI g), .int ck, .int qk])), (qa, .inr (1, [.ref qb, .ref qh, .ref qw, .ref qf, .int (nI n), .ref qu, .ref qg])), (qb, .inl (cI, 14, .inl Bd)), (qh, .inl (cI, 14, .inl Hd)), (qw, .inl (cI, 14, .inl Wt)), (qf, .inl (cZ, 14, .inl Fx)), (qu, .inl (cJ, 14, .inr (.inl U))), (qg, .inl (cJ, 24, .inr (.inl G))), (qm, .inr (2, [.ref qn, .ref qo])), (qn, .inl (cJ, 256, .inr (.inl Mb))), (qo, .inl (cJ, 256, .inr (.inl Le))), (ql, .inr (3, [.ref qs, .int (nI z1)])), (qs, .inl (cI, 3432, .inl S1)), (qp, .inr (3, [.ref qr, .int (nI z2)])), (qr, .inl (cI, 3432, .inl S2))] sz)) 0 0 (va_A [(qx, .inr (4, [.ref qa, .ref qm, .ref ql, .ref qp, .int (nI g), .int ck, .int qk])), (qa, .inr (1, [.ref qb, .ref qh, .ref qw, .ref qf, .int (nI n), .ref qu, .ref qg])), (qb, .inl (cI, 14, .inl Bd)), (qh, .inl (cI, 14, .inl Hd)), (qw, .inl (cI, 14, .inl Wt)), (qf, .inl (cZ, 14, .inl Fx)), (qu, .inl (cJ, 14, .inr (.inl U))), (qg, .inl (cJ, 24, .inr (.inl G))), (qm, .inr (2, [.ref qn, .ref qo])), (qn, .inl (cJ, 256, .inr (.inl Mb))), (qo, .inl (cJ, 256, .inr (.inl Le))), (ql, .inr (3, [.ref qs, .int (nI z1)])), (qs, .inl (cI, 3432, .inl S1)), (qp, .inr (3, [.ref qr, .int (nI z2)])), (qr, .inl (cI, 3432, .inl S2))] sz) := by
  refine Met.ofW (cc := cX3_within) (maxL := 2) (ret := (some .int)) (by decide) rfl ?_
  intro p e s m args below meth c s₁ B hml hv
  obtain ⟨rfl, hsz, hP, hK, hD0, hE⟩ := hv
  have hx := B.exec
  have hb := B.bytes
  have hr := B.returns
  have hts := atoms_spec (ws := wsX3_within) B.pre
  have hown : s.vm.findClass RX3 = some m.cls := findClass_of_methodNamed B.named
  have hlocks := B.notSynchronized
  have iX3 : ∀ w ∈ u_ws RX3 TX3 7, w ∈ wsX3_within := by decide +kernel
  subst hsz
  have hD := hD0.self (sz := s.heap.size)
  generalize hAe : va_A [(qx, .inr (4, [.ref qa, .ref qm, .ref ql, .ref qp, .int (nI g), .int ck, .int qk])), (qa, .inr (1, [.ref qb, .ref qh, .ref qw, .ref qf, .int (nI n), .ref qu, .ref qg])), (qb, .inl (cI, 14, .inl Bd)), (qh, .inl (cI, 14, .inl Hd)), (qw, .inl (cI, 14, .inl Wt)), (qf, .inl (cZ, 14, .inl Fx)), (qu, .inl (cJ, 14, .inr (.inl U))), (qg, .inl (cJ, 24, .inr (.inl G))), (qm, .inr (2, [.ref qn, .ref qo])), (qn, .inl (cJ, 256, .inr (.inl Mb))), (qo, .inl (cJ, 256, .inr (.inl Le))), (ql, .inr (3, [.ref qs, .int (nI z1)])), (qs, .inl (cI, 3432, .inl S1)), (qp, .inr (3, [.ref qr, .int (nI z2)])), (qr, .inl (cI, 3432, .inl S2))] s.heap.size = A at hD hE ⊢
  have hA : ∀ q : Nat, s.heap.size ≤ q → A q := fun q h => by rw [← hAe]; exact Or.inr h
  have hS : va_S A s.heap s.heap [] := va_S.rf
  obtain ⟨hn, hg, hok, hF⟩ := id hc
  have hl := lv_entry ([.ref qx, .int x]) (n := 2) (Nat.le_of_ble_eq_true rfl)
  rw [lg_entry_eq]
  generalize (lg_sl ([.ref qx, .int x]) ++ List.replicate (2 - (lg_sl ([.ref qx, .int x])).length) Slot.unset).toArray = ls at hl ⊢
  have hl : lv_has ls 2 [(0, .ref qx), (1, .int x)] := hl
  refine lv_aload_n hx hb dX3_within_0 rfl (lv_at hl 0 rfl) ?_
  have hPc := hP.sub (ws' := [(qx, .inr (4, [.ref qa, .ref qm, .ref ql, .ref qp, .int (nI g), .int ck, .int qk])), (qa, .inr (1, [.ref qb, .ref qh, .ref qw, .ref qf, .int (nI n), .ref qu, .ref qg])), (qb, .inl (cI, 14, .inl Bd)), (qh, .inl (cI, 14, .inl Hd)), (qu, .inl (cJ, 14, .inr (.inl U))), (qg, .inl (cJ, 24, .inr (.inl G))), (qm, .inr (2, [.ref qn, .ref qo])), (qn, .inl (cJ, 256, .inr (.inl Mb))), (qo, .inl (cJ, 256, .inr (.inl Le))), (ql, .inr (3, [.ref qs, .int (nI z1)])), (qs, .inl (cI, 3432, .inl S1))]) [0, 1, 2, 3, 6, 7, 8, 9, 10, 11, 12] rfl
  have hDc := hD.sub (ws' := [(qx, .inr (4, [.ref qa, .ref qm, .ref ql, .ref qp, .int (nI g), .int ck, .int qk])), (qa, .inr (1, [.ref qb, .ref qh, .ref qw, .ref qf, .int (nI n), .ref qu, .ref qg])), (qb, .inl (cI, 14, .inl Bd)), (qh, .inl (cI, 14, .inl Hd)), (qu, .inl (cJ, 14, .inr (.inl U))), (qg, .inl (cJ, 24, .inr (.inl G))), (qm, .inr (2, [.ref qn, .ref qo])), (qn, .inl (cJ, 256, .inr (.inl Mb))), (qo, .inl (cJ, 256, .inr (.inl Le))), (ql, .inr (3, [.ref qs, .int (nI z1)])), (qs, .inl (cI, 3432, .inl S1))]) [0, 1, 2, 3, 6, 7, 8, 9, 10, 11, 12] (by decide) rfl
  have hFc := va_free (wc := [(qx, .inr (4, [.ref qa, .ref qm, .ref ql, .ref qp, .int (nI g), .int ck, .int qk])), (qa, .inr (1, [.ref qb, .ref qh, .ref qw, .ref qf, .int (nI n), .ref qu, .ref qg])), (qb, .inl (cI, 14, .inl Bd)), (qh, .inl (cI, 14, .inl Hd)), (qu, .inl (cJ, 14, .inr (.inl U))), (qg, .inl (cJ, 24, .inr (.inl G))), (qm, .inr (2, [.ref qn, .ref qo])), (qn, .inl (cJ, 256, .inr (.inl Mb))), (qo, .inl (cJ, 256, .inr (.inl Le))), (ql, .inr (3, [.ref qs, .int (nI z1)])), (qs, .inl (cI, 3432, .inl S1))]) hD hS hA [0, 1, 2, 3, 6, 7, 8, 9, 10, 11, 12] rfl
  refine va_callr (va_runV (As := []) (rest := []) ⟨hx, hb, hml, hown, hts⟩ (c_X3_knownCauses l D cI cZ cJ t1 t2 _ qx qa qb qh qw qf qu qg qm qn qo ql qs qp qr n Bd Hd Wt Fx g U G Mb Le z1 S1 z2 S2 ck qk hn hg hok hi.1 hi.2.2.1) (cwV 0 hts gX3_within_X3_knownCauses rfl rfl rfl (by decide +kernel) ⟨Nat.le_of_ble_eq_true rfl, Nat.le_of_ble_eq_true rfl⟩) ⟨wr_blind, va_recv hK hP (ci := 4) (q0 := 0) rfl rfl, wr_pre hPc hDc hK hE hS hFc [0, 1, 2] rfl⟩ rfl rfl hl.1 rfl (lv_room (Nat.le_of_ble_eq_true rfl)) dX3_within_1 ⟨Nat.le_of_ble_eq_true rfl, Nat.le_of_ble_eq_true rfl⟩) hS (fun q _ h => hFc q h) hFc (fun u_1 ra t H locs ht hvm hw_1 hB hz1 hk1 hS => ?_)
  obtain ⟨era, hP1, hK1, hD1⟩ := hB
  rw [era]
  rw [ht] at hP1
  obtain ⟨hP, hD⟩ := va_join (wr := [(qw, .inl (cI, 14, .inl Wt)), (qf, .inl (cZ, 14, .inl Fx)), (qp, .inr (3, [.ref qr, .int (nI z2)])), (qr, .inl (cI, 3432, .inl S2))]) (w1 := [(qx, .inr (4, [.ref qa, .ref qm, .ref ql, .ref qp, .int (nI g), .int 1, .int qk])), (qa, .inr (1, [.ref qb, .ref qh, .ref qw, .ref qf, .int (nI n), .ref qu, .ref qg])), (qb, .inl (cI, 14, .inl Bd)), (qh, .inl (cI, 14, .inl Hd)), (qu, .inl (cJ, 14, .inr (.inl u_1.1))), (qg, .inl (cJ, 24, .inr (.inl u_1.2.1))), (qm, .inr (2, [.ref qn, .ref qo])), (qn, .inl (cJ, 256, .inr (.inl u_1.2.2.1))), (qo, .inl (cJ, 256, .inr (.inl u_1.2.2.2.1))), (ql, .inr (3, [.ref qs, .int (nI ((CL_ n Bd Hd g).length))])), (qs, .inl (cI, 3432, .inl u_1.2.2.2.2))]) hP hD [0, 1, 2, 3, 6, 7, 8, 9, 10, 11, 12] [4, 5, 13, 14] rfl rfl (by decide) (by decide) hk1 hFc hP1 hD1
  have hP : va_P D vwCl [(qx, .inr (4, [.ref qa, .ref qm, .ref ql, .ref qp, .int (nI g), .int 1, .int qk])), (qa, .inr (1, [.ref qb, .ref qh, .ref qw, .ref qf, .int (nI n), .ref qu, .ref qg])), (qb, .inl (cI, 14, .inl Bd)), (qh, .inl (cI, 14, .inl Hd)), (qw, .inl (cI, 14, .inl Wt)), (qf, .inl (cZ, 14, .inl Fx)), (qu, .inl (cJ, 14, .inr (.inl u_1.1))), (qg, .inl (cJ, 24, .inr (.inl u_1.2.1))), (qm, .inr (2, [.ref qn, .ref qo])), (qn, .inl (cJ, 256, .inr (.inl u_1.2.2.1))), (qo, .inl (cJ, 256, .inr (.inl u_1.2.2.2.1))), (ql, .inr (3, [.ref qs, .int (nI ((CL_ n Bd Hd g).length))])), (qs, .inl (cI, 3432, .inl u_1.2.2.2.2)), (qp, .inr (3, [.ref qr, .int (nI z2)])), (qr, .inl (cI, 3432, .inl S2))] H := hP.sub [4, 5, 6, 7, 0, 1, 8, 9, 10, 11, 12, 13, 14, 2, 3] rfl
  have hD : va_D A [(qx, .inr (4, [.ref qa, .ref qm, .ref ql, .ref qp, .int (nI g), .int 1, .int qk])), (qa, .inr (1, [.ref qb, .ref qh, .ref qw, .ref qf, .int (nI n), .ref qu, .ref qg])), (qb, .inl (cI, 14, .inl Bd)), (qh, .inl (cI, 14, .inl Hd)), (qw, .inl (cI, 14, .inl Wt)), (qf, .inl (cZ, 14, .inl Fx)), (qu, .inl (cJ, 14, .inr (.inl u_1.1))), (qg, .inl (cJ, 24, .inr (.inl u_1.2.1))), (qm, .inr (2, [.ref qn, .ref qo])), (qn, .inl (cJ, 256, .inr (.inl u_1.2.2.1))), (qo, .inl (cJ, 256, .inr (.inl u_1.2.2.2.1))), (ql, .inr (3, [.ref qs, .int (nI ((CL_ n Bd Hd g).length))])), (qs, .inl (cI, 3432, .inl u_1.2.2.2.2)), (qp, .inr (3, [.ref qr, .int (nI z2)])), (qr, .inl (cI, 3432, .inl S2))] := hD.sub [4, 5, 6, 7, 0, 1, 8, 9, 10, 11, 12, 13, 14, 2, 3] (by decide) rfl
  clear hPc hDc hFc hP1 hK1 hD1 hk1 hz1
  refine lv_iload_n hx hb dX3_within_4 rfl (lv_at hl 1 rfl) ?_
  refine vp_callSi (va_runV (As := [.int x]) (rest := []) ⟨hx, hb, hml, hown, hts⟩ (c_X2_firstInside l D cI cZ cJ ql qs (CL_ n Bd Hd g).length (CL_len hn Bd Hd g) u_1.2.2.2.2 x) (cwV 1 hts gX3_within_X2_firstInside rfl rfl rfl (by decide +kernel) ⟨Nat.le_of_ble_eq_true rfl, Nat.le_of_ble_eq_true rfl⟩) ⟨ro_blind, va_recv hK hP (ci := 3) (q0 := 11) rfl rfl, ro_pre (hP.sub (ws' := [(ql, .inr (3, [.ref qs, .int (nI ((CL_ n Bd Hd g).length))])), (qs, .inl (cI, 3432, .inl u_1.2.2.2.2))]) [11, 12] rfl) hK [0, 1, 2] rfl⟩ rfl rfl hl.1 rfl (lv_room (Nat.le_of_ble_eq_true rfl)) dX3_within_5 ⟨Nat.le_of_ble_eq_true rfl, Nat.le_of_ble_eq_true rfl⟩).run (fun r_5 hr_5 => ?_)
  exact W.iret (v := r_5) hx hb hr (fun t ht hW => ⟨⟨r_5, ((n, Bd, Hd, Wt, Fx, g), (u_1.1, u_1.2.1, u_1.2.2.1, u_1.2.2.2.1, (CL_ n Bd Hd g).length, u_1.2.2.2.2, z2, S2, 1, qk)), rfl, ⟨rfl, fi_congr (fun j hj => ln_sx hw_1 hj) hr_5, hc, ⟨Or.inr rfl, hi.2.1, fun _ => ⟨rfl, hw_1⟩, hi.2.2.2⟩⟩, by rw [ht]; exact hP, va_K.moved hW.alike hK, hD⟩, hS.F ht⟩) hS.2.2 dX3_within_8
set_option maxHeartbeats 4000000 in
set_option maxRecDepth 100000 in
/-- common() -/
theorem c_X3_common (l : Launch) (D : va_G) (cI cZ cJ : ClassId) (t1 t2 sz : Nat) (qx qa qb qh qw qf qu qg qm qn qo ql qs qp qr : Nat) (n : Nat) (Bd Hd Wt Fx : Nat → Int32) (g : Nat) (U G Mb Le : Nat → Int64) (z1 : Nat) (S1 : Nat → Int32) (z2 : Nat) (S2 : Nat → Int32) (ck qk : Int32) (hc : CO_ n Bd Hd Fx g) (hi : IV_ n Bd Hd Fx g z1 S1 z2 S2 ck qk) : Met l yX3_common wsX3_common ({ frames := 6, cells := 0, slots := 0, locals := 141 } : Room) (va_Pc [.ref qx] (wr_ D [(cI, .int), (cZ, .boolean), (cJ, .long)] [(qx, .inr (4, [.ref qa, .ref qm, .ref ql, .ref qp, .int (nI g), .int ck, .int qk])), (qa, .inr (1, [.ref qb, .ref qh, .ref qw, .ref qf, .int (nI n), .ref qu, .ref qg])), (qb, .inl (cI, 14, .inl Bd)), (qh, .inl (cI, 14, .inl Hd)), (qw, .inl (cI, 14, .inl Wt)), (qf, .inl (cZ, 14, .inl Fx)), (qu, .inl (cJ, 14, .inr (.inl U))), (qg, .inl (cJ, 24, .inr (.inl G))), (qm, .inr (2, [.ref qn, .ref qo])), (qn, .inl (cJ, 256, .inr (.inl Mb))), (qo, .inl (cJ, 256, .inr (.inl Le))), (ql, .inr (3, [.ref qs, .int (nI z1)])), (qs, .inl (cI, 3432, .inl S1)), (qp, .inr (3, [.ref qr, .int (nI z2)])), (qr, .inl (cI, 3432, .inl S2))] t1 t2 sz)) (va_Qi (S := Co_ × Jk_) (fun r u => u.1 = (n, Bd, Hd, Wt, Fx, g) ∧ q_common (n, Bd, Hd, Wt, Fx, g) r ∧ cok_ u.1 ∧ iv_ u.1 u.2) (fun u => wd_ D [(cI, .int), (cZ, .boolean), (cJ, .long)] (va_A [(qx, .inr (4, [.ref qa, .ref qm, .ref ql, .ref qp, .int (nI g), .int ck, .int qk])), (qa, .inr (1, [.ref qb, .ref qh, .ref qw, .ref qf, .int (nI n), .ref qu, .ref qg])), (qb, .inl (cI, 14, .inl Bd)), (qh, .inl (cI, 14, .inl Hd)), (qw, .inl (cI, 14, .inl Wt)), (qf, .inl (cZ, 14, .inl Fx)), (qu, .inl (cJ, 14, .inr (.inl U))), (qg, .inl (cJ, 24, .inr (.inl G))), (qm, .inr (2, [.ref qn, .ref qo])), (qn, .inl (cJ, 256, .inr (.inl Mb))), (qo, .inl (cJ, 256, .inr (.inl Le))), (ql, .inr (3, [.ref qs, .int (nI z1)])), (qs, .inl (cI, 3432, .inl S1)), (qp, .inr (3, [.ref qr, .int (nI z2)])), (qr, .inl (cI, 3432, .inl S2))] sz) [(qx, .inr (4, [.ref qa, .ref qm, .ref ql, .ref qp, .int (nI u.1.2.2.2.2.2), .int u.2.2.2.2.2.2.2.2.2.1, .int u.2.2.2.2.2.2.2.2.2.2])), (qa, .inr (1, [.ref qb, .ref qh, .ref qw, .ref qf, .int (nI u.1.1), .ref qu, .ref qg])), (qb, .inl (cI, 14, .inl u.1.2.1)), (qh, .inl (cI, 14, .inl u.1.2.2.1)), (qw, .inl (cI, 14, .inl u.1.2.2.2.1)), (qf, .inl (cZ, 14, .inl u.1.2.2.2.2.1)), (qu, .inl (cJ, 14, .inr (.inl u.2.1))), (qg, .inl (cJ, 24, .inr (.inl u.2.2.1))), (qm, .inr (2, [.ref qn, .ref qo])), (qn, .inl (cJ, 256, .inr (.inl u.2.2.2.1))), (qo, .inl (cJ, 256, .inr (.inl u.2.2.2.2.1))), (ql, .inr (3, [.ref qs, .int (nI u.2.2.2.2.2.1)])), (qs, .inl (cI, 3432, .inl u.2.2.2.2.2.2.1)), (qp, .inr (3, [.ref qr, .int (nI u.2.2.2.2.2.2.2.1)])), (qr, .inl (cI, 3432, .inl u.2.2.2.2.2.2.2.2.1))]) (va_A [(qx, .inr (4, [.ref qa, .ref qm, .ref ql, .ref qp, .int (nI g), .int ck, .int qk])), (qa, .inr (1, [.ref qb, .ref qh, .ref qw, .ref qf, .int (nI n), .ref qu, .ref qg])), (qb, .inl (cI, 14, .inl Bd)), (qh, .inl (cI, 14, .inl Hd)), (qw, .inl (cI, 14, .inl Wt)), (qf, .inl (cZ, 14, .inl Fx)), (qu, .inl (cJ, 14, .inr (.inl U))), (qg, .inl (cJ, 24, .inr (.inl G))), (qm, .inr (2, [.ref qn, .ref qo])), (qn, .inl (cJ, 256, .inr (.inl Mb))), (qo, .inl (cJ, 256, .inr (.inl Le))), (ql, .inr (3, [.ref qs, .int (nI z1)])), (qs, .inl (cI, 3432, .inl S1)), (qp, .inr (3, [.ref qr, .int (nI z2)])), (qr, .inl (cI, 3432, .inl S2))] sz)) 0 0 (va_A [(qx, .inr (4, [.ref qa, .ref qm, .ref ql, .ref qp, .int (nI g), .int ck, .int qk])), (qa, .inr (1, [.ref qb, .ref qh, .ref qw, .ref qf, .int (nI n), .ref qu, .ref qg])), (qb, .inl (cI, 14, .inl Bd)), (qh, .inl (cI, 14, .inl Hd)), (qw, .inl (cI, 14, .inl Wt)), (qf, .inl (cZ, 14, .inl Fx)), (qu, .inl (cJ, 14, .inr (.inl U))), (qg, .inl (cJ, 24, .inr (.inl G))), (qm, .inr (2, [.ref qn, .ref qo])), (qn, .inl (cJ, 256, .inr (.inl Mb))), (qo, .inl (cJ, 256, .inr (.inl Le))), (ql, .inr (3, [.ref qs, .int (nI z1)])), (qs, .inl (cI, 3432, .inl S1)), (qp, .inr (3, [.ref qr, .int (nI z2)])), (qr, .inl (cI, 3432, .inl S2))] sz) := by
  refine Met.ofW (cc := cX3_common) (maxL := 1) (ret := (some .int)) (by decide) rfl ?_
  intro p e s m args below meth c s₁ B hml hv
  obtain ⟨rfl, hsz, hP, hK, hD0, hE⟩ := hv
  have hx := B.exec
  have hb := B.bytes
  have hr := B.returns
  have hts := atoms_spec (ws := wsX3_common) B.pre
  have hown : s.vm.findClass RX3 = some m.cls := findClass_of_methodNamed B.named
  have hlocks := B.notSynchronized
  have iX3 : ∀ w ∈ u_ws RX3 TX3 7, w ∈ wsX3_common := by decide +kernel
  subst hsz
  have hD := hD0.self (sz := s.heap.size)
  generalize hAe : va_A [(qx, .inr (4, [.ref qa, .ref qm, .ref ql, .ref qp, .int (nI g), .int ck, .int qk])), (qa, .inr (1, [.ref qb, .ref qh, .ref qw, .ref qf, .int (nI n), .ref qu, .ref qg])), (qb, .inl (cI, 14, .inl Bd)), (qh, .inl (cI, 14, .inl Hd)), (qw, .inl (cI, 14, .inl Wt)), (qf, .inl (cZ, 14, .inl Fx)), (qu, .inl (cJ, 14, .inr (.inl U))), (qg, .inl (cJ, 24, .inr (.inl G))), (qm, .inr (2, [.ref qn, .ref qo])), (qn, .inl (cJ, 256, .inr (.inl Mb))), (qo, .inl (cJ, 256, .inr (.inl Le))), (ql, .inr (3, [.ref qs, .int (nI z1)])), (qs, .inl (cI, 3432, .inl S1)), (qp, .inr (3, [.ref qr, .int (nI z2)])), (qr, .inl (cI, 3432, .inl S2))] s.heap.size = A at hD hE ⊢
  have hA : ∀ q : Nat, s.heap.size ≤ q → A q := fun q h => by rw [← hAe]; exact Or.inr h
  have hS : va_S A s.heap s.heap [] := va_S.rf
  obtain ⟨hn, hg, hok, hF⟩ := id hc
  have hl := lv_entry ([.ref qx]) (n := 1) (Nat.le_of_ble_eq_true rfl)
  rw [lg_entry_eq]
  generalize (lg_sl ([.ref qx]) ++ List.replicate (1 - (lg_sl ([.ref qx])).length) Slot.unset).toArray = ls at hl ⊢
  have hl : lv_has ls 1 [(0, .ref qx)] := hl
  refine lv_aload_n hx hb dX3_common_0 rfl (lv_at hl 0 rfl) ?_
  have hPc := hP.sub (ws' := [(qx, .inr (4, [.ref qa, .ref qm, .ref ql, .ref qp, .int (nI g), .int ck, .int qk])), (qa, .inr (1, [.ref qb, .ref qh, .ref qw, .ref qf, .int (nI n), .ref qu, .ref qg])), (qb, .inl (cI, 14, .inl Bd)), (qh, .inl (cI, 14, .inl Hd)), (qu, .inl (cJ, 14, .inr (.inl U))), (qg, .inl (cJ, 24, .inr (.inl G))), (qm, .inr (2, [.ref qn, .ref qo])), (qn, .inl (cJ, 256, .inr (.inl Mb))), (qo, .inl (cJ, 256, .inr (.inl Le))), (ql, .inr (3, [.ref qs, .int (nI z1)])), (qs, .inl (cI, 3432, .inl S1))]) [0, 1, 2, 3, 6, 7, 8, 9, 10, 11, 12] rfl
  have hDc := hD.sub (ws' := [(qx, .inr (4, [.ref qa, .ref qm, .ref ql, .ref qp, .int (nI g), .int ck, .int qk])), (qa, .inr (1, [.ref qb, .ref qh, .ref qw, .ref qf, .int (nI n), .ref qu, .ref qg])), (qb, .inl (cI, 14, .inl Bd)), (qh, .inl (cI, 14, .inl Hd)), (qu, .inl (cJ, 14, .inr (.inl U))), (qg, .inl (cJ, 24, .inr (.inl G))), (qm, .inr (2, [.ref qn, .ref qo])), (qn, .inl (cJ, 256, .inr (.inl Mb))), (qo, .inl (cJ, 256, .inr (.inl Le))), (ql, .inr (3, [.ref qs, .int (nI z1)])), (qs, .inl (cI, 3432, .inl S1))]) [0, 1, 2, 3, 6, 7, 8, 9, 10, 11, 12] (by decide) rfl
  have hFc := va_free (wc := [(qx, .inr (4, [.ref qa, .ref qm, .ref ql, .ref qp, .int (nI g), .int ck, .int qk])), (qa, .inr (1, [.ref qb, .ref qh, .ref qw, .ref qf, .int (nI n), .ref qu, .ref qg])), (qb, .inl (cI, 14, .inl Bd)), (qh, .inl (cI, 14, .inl Hd)), (qu, .inl (cJ, 14, .inr (.inl U))), (qg, .inl (cJ, 24, .inr (.inl G))), (qm, .inr (2, [.ref qn, .ref qo])), (qn, .inl (cJ, 256, .inr (.inl Mb))), (qo, .inl (cJ, 256, .inr (.inl Le))), (ql, .inr (3, [.ref qs, .int (nI z1)])), (qs, .inl (cI, 3432, .inl S1))]) hD hS hA [0, 1, 2, 3, 6, 7, 8, 9, 10, 11, 12] rfl
  refine va_callr (va_runV (As := []) (rest := []) ⟨hx, hb, hml, hown, hts⟩ (c_X3_knownCauses l D cI cZ cJ t1 t2 _ qx qa qb qh qw qf qu qg qm qn qo ql qs qp qr n Bd Hd Wt Fx g U G Mb Le z1 S1 z2 S2 ck qk hn hg hok hi.1 hi.2.2.1) (cwV 0 hts gX3_common_X3_knownCauses rfl rfl rfl (by decide +kernel) ⟨Nat.le_of_ble_eq_true rfl, Nat.le_of_ble_eq_true rfl⟩) ⟨wr_blind, va_recv hK hP (ci := 4) (q0 := 0) rfl rfl, wr_pre hPc hDc hK hE hS hFc [0, 1, 2] rfl⟩ rfl rfl hl.1 rfl (lv_room (Nat.le_of_ble_eq_true rfl)) dX3_common_1 ⟨Nat.le_of_ble_eq_true rfl, Nat.le_of_ble_eq_true rfl⟩) hS (fun q _ h => hFc q h) hFc (fun u_1 ra t H locs ht hvm hw_1 hB hz1 hk1 hS => ?_)
  obtain ⟨era, hP1, hK1, hD1⟩ := hB
  rw [era]
  rw [ht] at hP1
  obtain ⟨hP, hD⟩ := va_join (wr := [(qw, .inl (cI, 14, .inl Wt)), (qf, .inl (cZ, 14, .inl Fx)), (qp, .inr (3, [.ref qr, .int (nI z2)])), (qr, .inl (cI, 3432, .inl S2))]) (w1 := [(qx, .inr (4, [.ref qa, .ref qm, .ref ql, .ref qp, .int (nI g), .int 1, .int qk])), (qa, .inr (1, [.ref qb, .ref qh, .ref qw, .ref qf, .int (nI n), .ref qu, .ref qg])), (qb, .inl (cI, 14, .inl Bd)), (qh, .inl (cI, 14, .inl Hd)), (qu, .inl (cJ, 14, .inr (.inl u_1.1))), (qg, .inl (cJ, 24, .inr (.inl u_1.2.1))), (qm, .inr (2, [.ref qn, .ref qo])), (qn, .inl (cJ, 256, .inr (.inl u_1.2.2.1))), (qo, .inl (cJ, 256, .inr (.inl u_1.2.2.2.1))), (ql, .inr (3, [.ref qs, .int (nI ((CL_ n Bd Hd g).length))])), (qs, .inl (cI, 3432, .inl u_1.2.2.2.2))]) hP hD [0, 1, 2, 3, 6, 7, 8, 9, 10, 11, 12] [4, 5, 13, 14] rfl rfl (by decide) (by decide) hk1 hFc hP1 hD1
  have hP : va_P D vwCl [(qx, .inr (4, [.ref qa, .ref qm, .ref ql, .ref qp, .int (nI g), .int 1, .int qk])), (qa, .inr (1, [.ref qb, .ref qh, .ref qw, .ref qf, .int (nI n), .ref qu, .ref qg])), (qb, .inl (cI, 14, .inl Bd)), (qh, .inl (cI, 14, .inl Hd)), (qw, .inl (cI, 14, .inl Wt)), (qf, .inl (cZ, 14, .inl Fx)), (qu, .inl (cJ, 14, .inr (.inl u_1.1))), (qg, .inl (cJ, 24, .inr (.inl u_1.2.1))), (qm, .inr (2, [.ref qn, .ref qo])), (qn, .inl (cJ, 256, .inr (.inl u_1.2.2.1))), (qo, .inl (cJ, 256, .inr (.inl u_1.2.2.2.1))), (ql, .inr (3, [.ref qs, .int (nI ((CL_ n Bd Hd g).length))])), (qs, .inl (cI, 3432, .inl u_1.2.2.2.2)), (qp, .inr (3, [.ref qr, .int (nI z2)])), (qr, .inl (cI, 3432, .inl S2))] H := hP.sub [4, 5, 6, 7, 0, 1, 8, 9, 10, 11, 12, 13, 14, 2, 3] rfl
  have hD : va_D A [(qx, .inr (4, [.ref qa, .ref qm, .ref ql, .ref qp, .int (nI g), .int 1, .int qk])), (qa, .inr (1, [.ref qb, .ref qh, .ref qw, .ref qf, .int (nI n), .ref qu, .ref qg])), (qb, .inl (cI, 14, .inl Bd)), (qh, .inl (cI, 14, .inl Hd)), (qw, .inl (cI, 14, .inl Wt)), (qf, .inl (cZ, 14, .inl Fx)), (qu, .inl (cJ, 14, .inr (.inl u_1.1))), (qg, .inl (cJ, 24, .inr (.inl u_1.2.1))), (qm, .inr (2, [.ref qn, .ref qo])), (qn, .inl (cJ, 256, .inr (.inl u_1.2.2.1))), (qo, .inl (cJ, 256, .inr (.inl u_1.2.2.2.1))), (ql, .inr (3, [.ref qs, .int (nI ((CL_ n Bd Hd g).length))])), (qs, .inl (cI, 3432, .inl u_1.2.2.2.2)), (qp, .inr (3, [.ref qr, .int (nI z2)])), (qr, .inl (cI, 3432, .inl S2))] := hD.sub [4, 5, 6, 7, 0, 1, 8, 9, 10, 11, 12, 13, 14, 2, 3] (by decide) rfl
  clear hPc hDc hFc hP1 hK1 hD1 hk1 hz1
  refine vp_callSi (va_runV (As := []) (rest := []) ⟨hx, hb, hml, hown, hts⟩ (c_X2_sharedByAll l D cI cZ cJ ql qs (CL_ n Bd Hd g).length (CL_len hn Bd Hd g) u_1.2.2.2.2) (cwV 0 hts gX3_common_X2_sharedByAll rfl rfl rfl (by decide +kernel) ⟨Nat.le_of_ble_eq_true rfl, Nat.le_of_ble_eq_true rfl⟩) ⟨ro_blind, va_recv hK hP (ci := 3) (q0 := 11) rfl rfl, ro_pre (hP.sub (ws' := [(ql, .inr (3, [.ref qs, .int (nI ((CL_ n Bd Hd g).length))])), (qs, .inl (cI, 3432, .inl u_1.2.2.2.2))]) [11, 12] rfl) hK [0, 1, 2] rfl⟩ rfl rfl hl.1 rfl (lv_room (Nat.le_of_ble_eq_true rfl)) dX3_common_4 ⟨Nat.le_of_ble_eq_true rfl, Nat.le_of_ble_eq_true rfl⟩).run (fun r_4 hr_4 => ?_)
  exact W.iret (v := r_4) hx hb hr (fun t ht hW => ⟨⟨r_4, ((n, Bd, Hd, Wt, Fx, g), (u_1.1, u_1.2.1, u_1.2.2.1, u_1.2.2.2.1, (CL_ n Bd Hd g).length, u_1.2.2.2.2, z2, S2, 1, qk)), rfl, ⟨rfl, (by rw [sa_congr _ (fun j hj => ln_sx hw_1 hj)] at hr_4; exact hr_4), hc, ⟨Or.inr rfl, hi.2.1, fun _ => ⟨rfl, hw_1⟩, hi.2.2.2⟩⟩, by rw [ht]; exact hP, va_K.moved hW.alike hK, hD⟩, hS.F ht⟩) hS.2.2 dX3_common_7
set_option maxHeartbeats 4000000 in
set_option maxRecDepth 100000 in
/-- times(x, y) -/
theorem c_X3_times (l : Launch) (D : va_G) (cI cZ cJ : ClassId) (t1 t2 sz : Nat) (qx qa qb qh qw qf qu qg qm qn qo ql qs qp qr : Nat) (n : Nat) (Bd Hd Wt Fx : Nat → Int32) (g : Nat) (U G Mb Le : Nat → Int64) (z1 : Nat) (S1 : Nat → Int32) (z2 : Nat) (S2 : Nat → Int32) (ck qk : Int32) (hc : CO_ n Bd Hd Fx g) (hi : IV_ n Bd Hd Fx g z1 S1 z2 S2 ck qk) (x y : Int32) : Met l yX3_times wsX3_times ({ frames := 6, cells := 0, slots := 0, locals := 141 } : Room) (va_Pc [.ref qx, .int x, .int y] (wr_ D [(cI, .int), (cZ, .boolean), (cJ, .long)] [(qx, .inr (4, [.ref qa, .ref qm, .ref ql, .ref qp, .int (nI g), .int ck, .int qk])), (qa, .inr (1, [.ref qb, .ref qh, .ref qw, .ref qf, .int (nI n), .ref qu, .ref qg])), (qb, .inl (cI, 14, .inl Bd)), (qh, .inl (cI, 14, .inl Hd)), (qw, .inl (cI, 14, .inl Wt)), (qf, .inl (cZ, 14, .inl Fx)), (qu, .inl (cJ, 14, .inr (.inl U))), (qg, .inl (cJ, 24, .inr (.inl G))), (qm, .inr (2, [.ref qn, .ref qo])), (qn, .inl (cJ, 256, .inr (.inl Mb))), (qo, .inl (cJ, 256, .inr (.inl Le))), (ql, .inr (3, [.ref qs, .int (nI z1)])), (qs, .inl (cI, 3432, .inl S1)), (qp, .inr (3, [.ref qr, .int (nI z2)])), (qr, .inl (cI, 3432, .inl S2))] t1 t2 sz)) (va_Qi (S := Co_ × Jk_) (fun r u => u.1 = (n, Bd, Hd, Wt, Fx, g) ∧ q_times (n, Bd, Hd, Wt, Fx, g) x y r ∧ cok_ u.1 ∧ iv_ u.1 u.2) (fun u => wd_ D [(cI, .int), (cZ, .boolean), (cJ, .long)] (va_A [(qx, .inr (4, [.ref qa, .ref qm, .ref ql, .ref qp, .int (nI g), .int ck, .int qk])), (qa, .inr (1, [.ref qb, .ref qh, .ref qw, .ref qf, .int (nI n), .ref qu, .ref qg])), (qb, .inl (cI, 14, .inl Bd)), (qh, .inl (cI, 14, .inl Hd)), (qw, .inl (cI, 14, .inl Wt)), (qf, .inl (cZ, 14, .inl Fx)), (qu, .inl (cJ, 14, .inr (.inl U))), (qg, .inl (cJ, 24, .inr (.inl G))), (qm, .inr (2, [.ref qn, .ref qo])), (qn, .inl (cJ, 256, .inr (.inl Mb))), (qo, .inl (cJ, 256, .inr (.inl Le))), (ql, .inr (3, [.ref qs, .int (nI z1)])), (qs, .inl (cI, 3432, .inl S1)), (qp, .inr (3, [.ref qr, .int (nI z2)])), (qr, .inl (cI, 3432, .inl S2))] sz) [(qx, .inr (4, [.ref qa, .ref qm, .ref ql, .ref qp, .int (nI u.1.2.2.2.2.2), .int u.2.2.2.2.2.2.2.2.2.1, .int u.2.2.2.2.2.2.2.2.2.2])), (qa, .inr (1, [.ref qb, .ref qh, .ref qw, .ref qf, .int (nI u.1.1), .ref qu, .ref qg])), (qb, .inl (cI, 14, .inl u.1.2.1)), (qh, .inl (cI, 14, .inl u.1.2.2.1)), (qw, .inl (cI, 14, .inl u.1.2.2.2.1)), (qf, .inl (cZ, 14, .inl u.1.2.2.2.2.1)), (qu, .inl (cJ, 14, .inr (.inl u.2.1))), (qg, .inl (cJ, 24, .inr (.inl u.2.2.1))), (qm, .inr (2, [.ref qn, .ref qo])), (qn, .inl (cJ, 256, .inr (.inl u.2.2.2.1))), (qo, .inl (cJ, 256, .inr (.inl u.2.2.2.2.1))), (ql, .inr (3, [.ref qs, .int (nI u.2.2.2.2.2.1)])), (qs, .inl (cI, 3432, .inl u.2.2.2.2.2.2.1)), (qp, .inr (3, [.ref qr, .int (nI u.2.2.2.2.2.2.2.1)])), (qr, .inl (cI, 3432, .inl u.2.2.2.2.2.2.2.2.1))]) (va_A [(qx, .inr (4, [.ref qa, .ref qm, .ref ql, .ref qp, .int (nI g), .int ck, .int qk])), (qa, .inr (1, [.ref qb, .ref qh, .ref qw, .ref qf, .int (nI n), .ref qu, .ref qg])), (qb, .inl (cI, 14, .inl Bd)), (qh, .inl (cI, 14, .inl Hd)), (qw, .inl (cI, 14, .inl Wt)), (qf, .inl (cZ, 14, .inl Fx)), (qu, .inl (cJ, 14, .inr (.inl U))), (qg, .inl (cJ, 24, .inr (.inl G))), (qm, .inr (2, [.ref qn, .ref qo])), (qn, .inl (cJ, 256, .inr (.inl Mb))), (qo, .inl (cJ, 256, .inr (.inl Le))), (ql, .inr (3, [.ref qs, .int (nI z1)])), (qs, .inl (cI, 3432, .inl S1)), (qp, .inr (3, [.ref qr, .int (nI z2)])), (qr, .inl (cI, 3432, .inl S2))] sz)) 0 0 (va_A [(qx, .inr (4, [.ref qa, .ref qm, .ref ql, .ref qp, .int (nI g), .int ck, .int qk])), (qa, .inr (1, [.ref qb, .ref qh, .ref qw, .ref qf, .int (nI n), .ref qu, .ref qg])), (qb, .inl (cI, 14, .inl Bd)), (qh, .inl (cI, 14, .inl Hd)), (qw, .inl (cI, 14, .inl Wt)), (qf, .inl (cZ, 14, .inl Fx)), (qu, .inl (cJ, 14, .inr (.inl U))), (qg, .inl (cJ, 24, .inr (.inl G))), (qm, .inr (2, [.ref qn, .ref qo])), (qn, .inl (cJ, 256, .inr (.inl Mb))), (qo, .inl (cJ, 256, .inr (.inl Le))), (ql, .inr (3, [.ref qs, .int (nI z1)])), (qs, .inl (cI, 3432, .inl S1)), (qp, .inr (3, [.ref qr, .int (nI z2)])), (qr, .inl (cI, 3432, .inl S2))] sz) := by
  refine Met.ofW (cc := cX3_times) (maxL := 4) (ret := (some .int)) (by decide) rfl ?_
  intro p e s m args below meth c s₁ B hml hv
  obtain ⟨rfl, hsz, hP, hK, hD0, hE⟩ := hv
  have hx := B.exec
  have hb := B.bytes
  have hr := B.returns
  have hts := atoms_spec (ws := wsX3_times) B.pre
  have hown : s.vm.findClass RX3 = some m.cls := findClass_of_methodNamed B.named
  have hlocks := B.notSynchronized
  have iX3 : ∀ w ∈ u_ws RX3 TX3 7, w ∈ wsX3_times := by decide +kernel
  subst hsz
  have hD := hD0.self (sz := s.heap.size)
  generalize hAe : va_A [(qx, .inr (4, [.ref qa, .ref qm, .ref ql, .ref qp, .int (nI g), .int ck, .int qk])), (qa, .inr (1, [.ref qb, .ref qh, .ref qw, .ref qf, .int (nI n), .ref qu, .ref qg])), (qb, .inl (cI, 14, .inl Bd)), (qh, .inl (cI, 14, .inl Hd)), (qw, .inl (cI, 14, .inl Wt)), (qf, .inl (cZ, 14, .inl Fx)), (qu, .inl (cJ, 14, .inr (.inl U))), (qg, .inl (cJ, 24, .inr (.inl G))), (qm, .inr (2, [.ref qn, .ref qo])), (qn, .inl (cJ, 256, .inr (.inl Mb))), (qo, .inl (cJ, 256, .inr (.inl Le))), (ql, .inr (3, [.ref qs, .int (nI z1)])), (qs, .inl (cI, 3432, .inl S1)), (qp, .inr (3, [.ref qr, .int (nI z2)])), (qr, .inl (cI, 3432, .inl S2))] s.heap.size = A at hD hE ⊢
  have hA : ∀ q : Nat, s.heap.size ≤ q → A q := fun q h => by rw [← hAe]; exact Or.inr h
  have hS : va_S A s.heap s.heap [] := va_S.rf
  obtain ⟨hn, hg, hok, hF⟩ := id hc
  have hl := lv_entry ([.ref qx, .int x, .int y]) (n := 4) (Nat.le_of_ble_eq_true rfl)
  rw [lg_entry_eq]
  generalize (lg_sl ([.ref qx, .int x, .int y]) ++ List.replicate (4 - (lg_sl ([.ref qx, .int x, .int y])).length) Slot.unset).toArray = ls at hl ⊢
  have hl : lv_has ls 4 [(0, .ref qx), (1, .int x), (2, .int y)] := hl
  refine lv_aload_n hx hb dX3_times_0 rfl (lv_at hl 0 rfl) ?_
  refine va_get (D := D) (ci := 4) (v := .ref qa) (C := RX3) (T := TX3) (N := 7) hx hb hts iX3 hown hK hP 0 rfl rfl 0 (by decide) (hts (.fieldLink RX3 12 "LeastSets" "rows" "LLeastSets$Axioms;") (by decide +kernel)) (fun _ h9 => h9) rfl dX3_times_1 ?_
  refine lv_iload_n hx hb dX3_times_4 rfl (lv_at hl 1 rfl) ?_
  refine vp_callSi (va_runV (As := [.int x]) (rest := []) ⟨hx, hb, hml, hown, hts⟩ (c_X0_has l D cI cZ cJ qa qb qh qw qf qu qg n hn x) (cwV 1 hts gX3_times_X0_has rfl rfl rfl (by decide +kernel) ⟨Nat.le_of_ble_eq_true rfl, Nat.le_of_ble_eq_true rfl⟩) ⟨ro_blind, va_recv hK hP (ci := 1) (q0 := 1) rfl rfl, ro_pre (hP.sub (ws' := [(qa, .inr (1, [.ref qb, .ref qh, .ref qw, .ref qf, .int (nI n), .ref qu, .ref qg]))]) [1] rfl) hK [0, 1, 2] rfl⟩ rfl rfl hl.1 rfl (lv_room (Nat.le_of_ble_eq_true rfl)) dX3_times_5 ⟨Nat.le_of_ble_eq_true rfl, Nat.le_of_ble_eq_true rfl⟩).run (fun r_5 hr_5 => ?_)
  refine lv_if_eq (tgt := 20) hx hb dX3_times_8 (by decide) (fun c_8 => ?_) (fun c_8 => ?_)
  · have hno : ¬ (uI_ x < n ∧ uI_ y ≤ 1) := fun q => hu_no (by omega) hr_5 c_8 q.1
    refine lv_iconst (v := (-1)) hx hb dX3_times_20 (by decide +kernel) ?_
    exact W.iret (v := (-1)) hx hb hr (fun t ht hW => ⟨⟨(-1), ((n, Bd, Hd, Wt, Fx, g), (U, G, Mb, Le, z1, S1, z2, S2, ck, qk)), rfl, ⟨rfl, (if_neg hno).symm, hc, hi⟩, by rw [ht]; exact hP, va_K.moved hW.alike hK, hD⟩, hS.F ht⟩) hS.2.2 dX3_times_21
  · refine lv_iload_n hx hb dX3_times_11 rfl (lv_at hl 2 rfl) ?_
    refine lv_if_lt (tgt := 20) hx hb dX3_times_12 (by decide) (fun c_12 => ?_) (fun c_12 => ?_)
    · have hno : ¬ (uI_ x < n ∧ uI_ y ≤ 1) := fun q => ((in_uI (by omega)).mpr q.2).1 c_12
      refine lv_iconst (v := (-1)) hx hb dX3_times_20 (by decide +kernel) ?_
      exact W.iret (v := (-1)) hx hb hr (fun t ht hW => ⟨⟨(-1), ((n, Bd, Hd, Wt, Fx, g), (U, G, Mb, Le, z1, S1, z2, S2, ck, qk)), rfl, ⟨rfl, (if_neg hno).symm, hc, hi⟩, by rw [ht]; exact hP, va_K.moved hW.alike hK, hD⟩, hS.F ht⟩) hS.2.2 dX3_times_21
    · refine lv_iload_n hx hb dX3_times_15 rfl (lv_at hl 2 rfl) ?_
      refine lv_iconst (v := (nI 1)) hx hb dX3_times_16 (by decide +kernel) ?_
      refine lv_icmp_le (tgt := 22) hx hb dX3_times_17 (by decide) (fun c_17 => ?_) (fun c_17 => ?_)
      · have hy2 : uI_ x < n ∧ uI_ y ≤ 1 := ⟨(hu_yes (by omega) hr_5 c_8).1, (in_uI (by omega)).mp ⟨c_12, c_17⟩⟩
        refine lv_iload_n hx hb dX3_times_22 rfl (lv_at hl 2 rfl) ?_
        refine lv_iconst (v := (nI 1)) hx hb dX3_times_23 (by decide +kernel) ?_
        refine lv_icmp_ne (tgt := 34) hx hb dX3_times_24 (by decide) (fun c_24 => ?_) (fun c_24 => ?_)
        · refine lv_aload_n hx hb dX3_times_34 rfl (lv_at hl 0 rfl) ?_
          have hPc := hP.sub (ws' := [(qx, .inr (4, [.ref qa, .ref qm, .ref ql, .ref qp, .int (nI g), .int ck, .int qk])), (qa, .inr (1, [.ref qb, .ref qh, .ref qw, .ref qf, .int (nI n), .ref qu, .ref qg])), (qb, .inl (cI, 14, .inl Bd)), (qh, .inl (cI, 14, .inl Hd)), (qu, .inl (cJ, 14, .inr (.inl U))), (qg, .inl (cJ, 24, .inr (.inl G))), (qm, .inr (2, [.ref qn, .ref qo])), (qn, .inl (cJ, 256, .inr (.inl Mb))), (qo, .inl (cJ, 256, .inr (.inl Le))), (ql, .inr (3, [.ref qs, .int (nI z1)])), (qs, .inl (cI, 3432, .inl S1))]) [0, 1, 2, 3, 6, 7, 8, 9, 10, 11, 12] rfl
          have hDc := hD.sub (ws' := [(qx, .inr (4, [.ref qa, .ref qm, .ref ql, .ref qp, .int (nI g), .int ck, .int qk])), (qa, .inr (1, [.ref qb, .ref qh, .ref qw, .ref qf, .int (nI n), .ref qu, .ref qg])), (qb, .inl (cI, 14, .inl Bd)), (qh, .inl (cI, 14, .inl Hd)), (qu, .inl (cJ, 14, .inr (.inl U))), (qg, .inl (cJ, 24, .inr (.inl G))), (qm, .inr (2, [.ref qn, .ref qo])), (qn, .inl (cJ, 256, .inr (.inl Mb))), (qo, .inl (cJ, 256, .inr (.inl Le))), (ql, .inr (3, [.ref qs, .int (nI z1)])), (qs, .inl (cI, 3432, .inl S1))]) [0, 1, 2, 3, 6, 7, 8, 9, 10, 11, 12] (by decide) rfl
          have hFc := va_free (wc := [(qx, .inr (4, [.ref qa, .ref qm, .ref ql, .ref qp, .int (nI g), .int ck, .int qk])), (qa, .inr (1, [.ref qb, .ref qh, .ref qw, .ref qf, .int (nI n), .ref qu, .ref qg])), (qb, .inl (cI, 14, .inl Bd)), (qh, .inl (cI, 14, .inl Hd)), (qu, .inl (cJ, 14, .inr (.inl U))), (qg, .inl (cJ, 24, .inr (.inl G))), (qm, .inr (2, [.ref qn, .ref qo])), (qn, .inl (cJ, 256, .inr (.inl Mb))), (qo, .inl (cJ, 256, .inr (.inl Le))), (ql, .inr (3, [.ref qs, .int (nI z1)])), (qs, .inl (cI, 3432, .inl S1))]) hD hS hA [0, 1, 2, 3, 6, 7, 8, 9, 10, 11, 12] rfl
          refine va_callr (va_runV (As := []) (rest := []) ⟨hx, hb, hml, hown, hts⟩ (c_X3_knownCauses l D cI cZ cJ t1 t2 _ qx qa qb qh qw qf qu qg qm qn qo ql qs qp qr n Bd Hd Wt Fx g U G Mb Le z1 S1 z2 S2 ck qk hn hg hok hi.1 hi.2.2.1) (cwV 0 hts gX3_times_X3_knownCauses rfl rfl rfl (by decide +kernel) ⟨Nat.le_of_ble_eq_true rfl, Nat.le_of_ble_eq_true rfl⟩) ⟨wr_blind, va_recv hK hP (ci := 4) (q0 := 0) rfl rfl, wr_pre hPc hDc hK hE hS hFc [0, 1, 2] rfl⟩ rfl rfl hl.1 rfl (lv_room (Nat.le_of_ble_eq_true rfl)) dX3_times_35 ⟨Nat.le_of_ble_eq_true rfl, Nat.le_of_ble_eq_true rfl⟩) hS (fun q _ h => hFc q h) hFc (fun u_35 ra t H locs ht hvm hw_35 hB hz1 hk1 hS => ?_)
          obtain ⟨era, hP1, hK1, hD1⟩ := hB
          rw [era]
          rw [ht] at hP1
          obtain ⟨hP, hD⟩ := va_join (wr := [(qw, .inl (cI, 14, .inl Wt)), (qf, .inl (cZ, 14, .inl Fx)), (qp, .inr (3, [.ref qr, .int (nI z2)])), (qr, .inl (cI, 3432, .inl S2))]) (w1 := [(qx, .inr (4, [.ref qa, .ref qm, .ref ql, .ref qp, .int (nI g), .int 1, .int qk])), (qa, .inr (1, [.ref qb, .ref qh, .ref qw, .ref qf, .int (nI n), .ref qu, .ref qg])), (qb, .inl (cI, 14, .inl Bd)), (qh, .inl (cI, 14, .inl Hd)), (qu, .inl (cJ, 14, .inr (.inl u_35.1))), (qg, .inl (cJ, 24, .inr (.inl u_35.2.1))), (qm, .inr (2, [.ref qn, .ref qo])), (qn, .inl (cJ, 256, .inr (.inl u_35.2.2.1))), (qo, .inl (cJ, 256, .inr (.inl u_35.2.2.2.1))), (ql, .inr (3, [.ref qs, .int (nI ((CL_ n Bd Hd g).length))])), (qs, .inl (cI, 3432, .inl u_35.2.2.2.2))]) hP hD [0, 1, 2, 3, 6, 7, 8, 9, 10, 11, 12] [4, 5, 13, 14] rfl rfl (by decide) (by decide) hk1 hFc hP1 hD1
          have hP : va_P D vwCl [(qx, .inr (4, [.ref qa, .ref qm, .ref ql, .ref qp, .int (nI g), .int 1, .int qk])), (qa, .inr (1, [.ref qb, .ref qh, .ref qw, .ref qf, .int (nI n), .ref qu, .ref qg])), (qb, .inl (cI, 14, .inl Bd)), (qh, .inl (cI, 14, .inl Hd)), (qw, .inl (cI, 14, .inl Wt)), (qf, .inl (cZ, 14, .inl Fx)), (qu, .inl (cJ, 14, .inr (.inl u_35.1))), (qg, .inl (cJ, 24, .inr (.inl u_35.2.1))), (qm, .inr (2, [.ref qn, .ref qo])), (qn, .inl (cJ, 256, .inr (.inl u_35.2.2.1))), (qo, .inl (cJ, 256, .inr (.inl u_35.2.2.2.1))), (ql, .inr (3, [.ref qs, .int (nI ((CL_ n Bd Hd g).length))])), (qs, .inl (cI, 3432, .inl u_35.2.2.2.2)), (qp, .inr (3, [.ref qr, .int (nI z2)])), (qr, .inl (cI, 3432, .inl S2))] H := hP.sub [4, 5, 6, 7, 0, 1, 8, 9, 10, 11, 12, 13, 14, 2, 3] rfl
          have hD : va_D A [(qx, .inr (4, [.ref qa, .ref qm, .ref ql, .ref qp, .int (nI g), .int 1, .int qk])), (qa, .inr (1, [.ref qb, .ref qh, .ref qw, .ref qf, .int (nI n), .ref qu, .ref qg])), (qb, .inl (cI, 14, .inl Bd)), (qh, .inl (cI, 14, .inl Hd)), (qw, .inl (cI, 14, .inl Wt)), (qf, .inl (cZ, 14, .inl Fx)), (qu, .inl (cJ, 14, .inr (.inl u_35.1))), (qg, .inl (cJ, 24, .inr (.inl u_35.2.1))), (qm, .inr (2, [.ref qn, .ref qo])), (qn, .inl (cJ, 256, .inr (.inl u_35.2.2.1))), (qo, .inl (cJ, 256, .inr (.inl u_35.2.2.2.1))), (ql, .inr (3, [.ref qs, .int (nI ((CL_ n Bd Hd g).length))])), (qs, .inl (cI, 3432, .inl u_35.2.2.2.2)), (qp, .inr (3, [.ref qr, .int (nI z2)])), (qr, .inl (cI, 3432, .inl S2))] := hD.sub [4, 5, 6, 7, 0, 1, 8, 9, 10, 11, 12, 13, 14, 2, 3] (by decide) rfl
          clear hPc hDc hFc hP1 hK1 hD1 hk1 hz1
          refine lv_astore_n (lv' := [(3, .ref ql), (0, .ref qx), (1, .int x), (2, .int y)]) hx hb dX3_times_38 rfl hl (by decide) rfl (fun ls hl => ?_)
          refine lv_aload_n hx hb dX3_times_39 rfl (lv_at hl 0 rfl) ?_
          refine lv_iload_n hx hb dX3_times_40 rfl (lv_at hl 2 rfl) ?_
          refine vp_callSi (va_runV (As := [.int x]) (rest := []) ⟨hx, hb, hml, hown, hts⟩ (c_X2_howManyWith l D cI cZ cJ ql qs (CL_ n Bd Hd g).length (CL_len hn Bd Hd g) u_35.2.2.2.2 x) (cwV 1 hts gX3_times_X2_howManyWith rfl rfl rfl (by decide +kernel) ⟨Nat.le_of_ble_eq_true rfl, Nat.le_of_ble_eq_true rfl⟩) ⟨ro_blind, va_recv hK hP (ci := 3) (q0 := 11) rfl rfl, ro_pre (hP.sub (ws' := [(ql, .inr (3, [.ref qs, .int (nI ((CL_ n Bd Hd g).length))])), (qs, .inl (cI, 3432, .inl u_35.2.2.2.2))]) [11, 12] rfl) hK [0, 1, 2] rfl⟩ rfl rfl hl.1 rfl (lv_room (Nat.le_of_ble_eq_true rfl)) dX3_times_41 ⟨Nat.le_of_ble_eq_true rfl, Nat.le_of_ble_eq_true rfl⟩).run (fun r_41 hr_41 => ?_)
          exact W.iret (v := r_41) hx hb hr (fun t ht hW => ⟨⟨r_41, ((n, Bd, Hd, Wt, Fx, g), (u_35.1, u_35.2.1, u_35.2.2.1, u_35.2.2.2.1, (CL_ n Bd Hd g).length, u_35.2.2.2.2, z2, S2, 1, qk)), rfl, ⟨rfl, (by rw [hm_congr _ (fun j hj => ln_sx hw_35 hj)] at hr_41; exact hr_41.trans ((if_pos hy2).trans (if_pos (y_01 hy2.2 c_24))).symm), hc, ⟨Or.inr rfl, hi.2.1, fun _ => ⟨rfl, hw_35⟩, hi.2.2.2⟩⟩, by rw [ht]; exact hP, va_K.moved hW.alike hK, hD⟩, hS.F ht⟩) hS.2.2 dX3_times_44
        · refine lv_aload_n hx hb dX3_times_27 rfl (lv_at hl 0 rfl) ?_
          have hPc := hP.sub (ws' := [(qx, .inr (4, [.ref qa, .ref qm, .ref ql, .ref qp, .int (nI g), .int ck, .int qk])), (qa, .inr (1, [.ref qb, .ref qh, .ref qw, .ref qf, .int (nI n), .ref qu, .ref qg])), (qb, .inl (cI, 14, .inl Bd)), (qh, .inl (cI, 14, .inl Hd)), (qf, .inl (cZ, 14, .inl Fx)), (qu, .inl (cJ, 14, .inr (.inl U))), (qg, .inl (cJ, 24, .inr (.inl G))), (qm, .inr (2, [.ref qn, .ref qo])), (qn, .inl (cJ, 256, .inr (.inl Mb))), (qo, .inl (cJ, 256, .inr (.inl Le))), (qp, .inr (3, [.ref qr, .int (nI z2)])), (qr, .inl (cI, 3432, .inl S2))]) [0, 1, 2, 3, 5, 6, 7, 8, 9, 10, 13, 14] rfl
          have hDc := hD.sub (ws' := [(qx, .inr (4, [.ref qa, .ref qm, .ref ql, .ref qp, .int (nI g), .int ck, .int qk])), (qa, .inr (1, [.ref qb, .ref qh, .ref qw, .ref qf, .int (nI n), .ref qu, .ref qg])), (qb, .inl (cI, 14, .inl Bd)), (qh, .inl (cI, 14, .inl Hd)), (qf, .inl (cZ, 14, .inl Fx)), (qu, .inl (cJ, 14, .inr (.inl U))), (qg, .inl (cJ, 24, .inr (.inl G))), (qm, .inr (2, [.ref qn, .ref qo])), (qn, .inl (cJ, 256, .inr (.inl Mb))), (qo, .inl (cJ, 256, .inr (.inl Le))), (qp, .inr (3, [.ref qr, .int (nI z2)])), (qr, .inl (cI, 3432, .inl S2))]) [0, 1, 2, 3, 5, 6, 7, 8, 9, 10, 13, 14] (by decide) rfl
          have hFc := va_free (wc := [(qx, .inr (4, [.ref qa, .ref qm, .ref ql, .ref qp, .int (nI g), .int ck, .int qk])), (qa, .inr (1, [.ref qb, .ref qh, .ref qw, .ref qf, .int (nI n), .ref qu, .ref qg])), (qb, .inl (cI, 14, .inl Bd)), (qh, .inl (cI, 14, .inl Hd)), (qf, .inl (cZ, 14, .inl Fx)), (qu, .inl (cJ, 14, .inr (.inl U))), (qg, .inl (cJ, 24, .inr (.inl G))), (qm, .inr (2, [.ref qn, .ref qo])), (qn, .inl (cJ, 256, .inr (.inl Mb))), (qo, .inl (cJ, 256, .inr (.inl Le))), (qp, .inr (3, [.ref qr, .int (nI z2)])), (qr, .inl (cI, 3432, .inl S2))]) hD hS hA [0, 1, 2, 3, 5, 6, 7, 8, 9, 10, 13, 14] rfl
          refine va_callr (va_runV (As := []) (rest := []) ⟨hx, hb, hml, hown, hts⟩ (c_X3_knownCures l D cI cZ cJ t1 t2 _ qx qa qb qh qw qf qu qg qm qn qo ql qs qp qr n Bd Hd Wt Fx g U G Mb Le z1 S1 z2 S2 ck qk hn hg hok hi.2.1 hi.2.2.2) (cwV 0 hts gX3_times_X3_knownCures rfl rfl rfl (by decide +kernel) ⟨Nat.le_of_ble_eq_true rfl, Nat.le_of_ble_eq_true rfl⟩) ⟨wr_blind, va_recv hK hP (ci := 4) (q0 := 0) rfl rfl, wr_pre hPc hDc hK hE hS hFc [0, 1, 2] rfl⟩ rfl rfl hl.1 rfl (lv_room (Nat.le_of_ble_eq_true rfl)) dX3_times_28 ⟨Nat.le_of_ble_eq_true rfl, Nat.le_of_ble_eq_true rfl⟩) hS (fun q _ h => hFc q h) hFc (fun u_28 ra t H locs ht hvm hw_28 hB hz1 hk1 hS => ?_)
          obtain ⟨era, hP1, hK1, hD1⟩ := hB
          rw [era]
          rw [ht] at hP1
          obtain ⟨hP, hD⟩ := va_join (wr := [(qw, .inl (cI, 14, .inl Wt)), (ql, .inr (3, [.ref qs, .int (nI z1)])), (qs, .inl (cI, 3432, .inl S1))]) (w1 := [(qx, .inr (4, [.ref qa, .ref qm, .ref ql, .ref qp, .int (nI g), .int ck, .int 1])), (qa, .inr (1, [.ref qb, .ref qh, .ref qw, .ref qf, .int (nI n), .ref qu, .ref qg])), (qb, .inl (cI, 14, .inl Bd)), (qh, .inl (cI, 14, .inl Hd)), (qf, .inl (cZ, 14, .inl Fx)), (qu, .inl (cJ, 14, .inr (.inl u_28.1))), (qg, .inl (cJ, 24, .inr (.inl u_28.2.1))), (qm, .inr (2, [.ref qn, .ref qo])), (qn, .inl (cJ, 256, .inr (.inl u_28.2.2.1))), (qo, .inl (cJ, 256, .inr (.inl u_28.2.2.2.1))), (qp, .inr (3, [.ref qr, .int (nI ((QL_ n Bd Hd Fx g).length))])), (qr, .inl (cI, 3432, .inl u_28.2.2.2.2))]) hP hD [0, 1, 2, 3, 5, 6, 7, 8, 9, 10, 13, 14] [4, 11, 12] rfl rfl (by decide) (by decide) hk1 hFc hP1 hD1
          have hP : va_P D vwCl [(qx, .inr (4, [.ref qa, .ref qm, .ref ql, .ref qp, .int (nI g), .int ck, .int 1])), (qa, .inr (1, [.ref qb, .ref qh, .ref qw, .ref qf, .int (nI n), .ref qu, .ref qg])), (qb, .inl (cI, 14, .inl Bd)), (qh, .inl (cI, 14, .inl Hd)), (qw, .inl (cI, 14, .inl Wt)), (qf, .inl (cZ, 14, .inl Fx)), (qu, .inl (cJ, 14, .inr (.inl u_28.1))), (qg, .inl (cJ, 24, .inr (.inl u_28.2.1))), (qm, .inr (2, [.ref qn, .ref qo])), (qn, .inl (cJ, 256, .inr (.inl u_28.2.2.1))), (qo, .inl (cJ, 256, .inr (.inl u_28.2.2.2.1))), (ql, .inr (3, [.ref qs, .int (nI z1)])), (qs, .inl (cI, 3432, .inl S1)), (qp, .inr (3, [.ref qr, .int (nI ((QL_ n Bd Hd Fx g).length))])), (qr, .inl (cI, 3432, .inl u_28.2.2.2.2))] H := hP.sub [3, 4, 5, 6, 0, 7, 8, 9, 10, 11, 12, 1, 2, 13, 14] rfl
          have hD : va_D A [(qx, .inr (4, [.ref qa, .ref qm, .ref ql, .ref qp, .int (nI g), .int ck, .int 1])), (qa, .inr (1, [.ref qb, .ref qh, .ref qw, .ref qf, .int (nI n), .ref qu, .ref qg])), (qb, .inl (cI, 14, .inl Bd)), (qh, .inl (cI, 14, .inl Hd)), (qw, .inl (cI, 14, .inl Wt)), (qf, .inl (cZ, 14, .inl Fx)), (qu, .inl (cJ, 14, .inr (.inl u_28.1))), (qg, .inl (cJ, 24, .inr (.inl u_28.2.1))), (qm, .inr (2, [.ref qn, .ref qo])), (qn, .inl (cJ, 256, .inr (.inl u_28.2.2.1))), (qo, .inl (cJ, 256, .inr (.inl u_28.2.2.2.1))), (ql, .inr (3, [.ref qs, .int (nI z1)])), (qs, .inl (cI, 3432, .inl S1)), (qp, .inr (3, [.ref qr, .int (nI ((QL_ n Bd Hd Fx g).length))])), (qr, .inl (cI, 3432, .inl u_28.2.2.2.2))] := hD.sub [3, 4, 5, 6, 0, 7, 8, 9, 10, 11, 12, 1, 2, 13, 14] (by decide) rfl
          clear hPc hDc hFc hP1 hK1 hD1 hk1 hz1
          refine lv_goto (tgt := 38) hx hb dX3_times_31 (by decide) ?_
          refine lv_astore_n (lv' := [(3, .ref qp), (0, .ref qx), (1, .int x), (2, .int y)]) hx hb dX3_times_38 rfl hl (by decide) rfl (fun ls hl => ?_)
          refine lv_aload_n hx hb dX3_times_39 rfl (lv_at hl 0 rfl) ?_
          refine lv_iload_n hx hb dX3_times_40 rfl (lv_at hl 2 rfl) ?_
          refine vp_callSi (va_runV (As := [.int x]) (rest := []) ⟨hx, hb, hml, hown, hts⟩ (c_X2_howManyWith l D cI cZ cJ qp qr (QL_ n Bd Hd Fx g).length (QL_len hn Bd Hd Fx g) u_28.2.2.2.2 x) (cwV 1 hts gX3_times_X2_howManyWith rfl rfl rfl (by decide +kernel) ⟨Nat.le_of_ble_eq_true rfl, Nat.le_of_ble_eq_true rfl⟩) ⟨ro_blind, va_recv hK hP (ci := 3) (q0 := 13) rfl rfl, ro_pre (hP.sub (ws' := [(qp, .inr (3, [.ref qr, .int (nI ((QL_ n Bd Hd Fx g).length))])), (qr, .inl (cI, 3432, .inl u_28.2.2.2.2))]) [13, 14] rfl) hK [0, 1, 2] rfl⟩ rfl rfl hl.1 rfl (lv_room (Nat.le_of_ble_eq_true rfl)) dX3_times_41 ⟨Nat.le_of_ble_eq_true rfl, Nat.le_of_ble_eq_true rfl⟩).run (fun r_41 hr_41 => ?_)
          exact W.iret (v := r_41) hx hb hr (fun t ht hW => ⟨⟨r_41, ((n, Bd, Hd, Wt, Fx, g), (u_28.1, u_28.2.1, u_28.2.2.1, u_28.2.2.2.1, z1, S1, (QL_ n Bd Hd Fx g).length, u_28.2.2.2.2, ck, 1)), rfl, ⟨rfl, (by rw [hm_congr _ (fun j hj => ln_sx hw_28 hj)] at hr_41; exact hr_41.trans ((if_pos hy2).trans (if_neg (fun q => by rw [q] at c_24; exact absurd c_24 (by decide)))).symm), hc, ⟨hi.1, Or.inr rfl, hi.2.2.1, fun _ => ⟨rfl, hw_28⟩⟩⟩, by rw [ht]; exact hP, va_K.moved hW.alike hK, hD⟩, hS.F ht⟩) hS.2.2 dX3_times_44
      · have hno : ¬ (uI_ x < n ∧ uI_ y ≤ 1) := fun q => c_17 ((in_uI (by omega)).mpr q.2).2
        refine lv_iconst (v := (-1)) hx hb dX3_times_20 (by decide +kernel) ?_
        exact W.iret (v := (-1)) hx hb hr (fun t ht hW => ⟨⟨(-1), ((n, Bd, Hd, Wt, Fx, g), (U, G, Mb, Le, z1, S1, z2, S2, ck, qk)), rfl, ⟨rfl, (if_neg hno).symm, hc, hi⟩, by rw [ht]; exact hP, va_K.moved hW.alike hK, hD⟩, hS.F ht⟩) hS.2.2 dX3_times_21
set_option maxHeartbeats 4000000 in
set_option maxRecDepth 100000 in
/-- lightest() -/
theorem c_X3_lightest (l : Launch) (D : va_G) (cI cZ cJ : ClassId) (t1 t2 sz : Nat) (qx qa qb qh qw qf qu qg qm qn qo ql qs qp qr : Nat) (n : Nat) (Bd Hd Wt Fx : Nat → Int32) (g : Nat) (U G Mb Le : Nat → Int64) (z1 : Nat) (S1 : Nat → Int32) (z2 : Nat) (S2 : Nat → Int32) (ck qk : Int32) (hc : CO_ n Bd Hd Fx g) (hi : IV_ n Bd Hd Fx g z1 S1 z2 S2 ck qk) : Met l yX3_lightest wsX3_lightest ({ frames := 6, cells := 0, slots := 0, locals := 141 } : Room) (va_Pc [.ref qx] (wr_ D [(cI, .int), (cZ, .boolean), (cJ, .long)] [(qx, .inr (4, [.ref qa, .ref qm, .ref ql, .ref qp, .int (nI g), .int ck, .int qk])), (qa, .inr (1, [.ref qb, .ref qh, .ref qw, .ref qf, .int (nI n), .ref qu, .ref qg])), (qb, .inl (cI, 14, .inl Bd)), (qh, .inl (cI, 14, .inl Hd)), (qw, .inl (cI, 14, .inl Wt)), (qf, .inl (cZ, 14, .inl Fx)), (qu, .inl (cJ, 14, .inr (.inl U))), (qg, .inl (cJ, 24, .inr (.inl G))), (qm, .inr (2, [.ref qn, .ref qo])), (qn, .inl (cJ, 256, .inr (.inl Mb))), (qo, .inl (cJ, 256, .inr (.inl Le))), (ql, .inr (3, [.ref qs, .int (nI z1)])), (qs, .inl (cI, 3432, .inl S1)), (qp, .inr (3, [.ref qr, .int (nI z2)])), (qr, .inl (cI, 3432, .inl S2))] t1 t2 sz)) (va_Qi (S := Co_ × Jk_) (fun r u => u.1 = (n, Bd, Hd, Wt, Fx, g) ∧ q_lightest (n, Bd, Hd, Wt, Fx, g) r ∧ cok_ u.1 ∧ iv_ u.1 u.2) (fun u => wd_ D [(cI, .int), (cZ, .boolean), (cJ, .long)] (va_A [(qx, .inr (4, [.ref qa, .ref qm, .ref ql, .ref qp, .int (nI g), .int ck, .int qk])), (qa, .inr (1, [.ref qb, .ref qh, .ref qw, .ref qf, .int (nI n), .ref qu, .ref qg])), (qb, .inl (cI, 14, .inl Bd)), (qh, .inl (cI, 14, .inl Hd)), (qw, .inl (cI, 14, .inl Wt)), (qf, .inl (cZ, 14, .inl Fx)), (qu, .inl (cJ, 14, .inr (.inl U))), (qg, .inl (cJ, 24, .inr (.inl G))), (qm, .inr (2, [.ref qn, .ref qo])), (qn, .inl (cJ, 256, .inr (.inl Mb))), (qo, .inl (cJ, 256, .inr (.inl Le))), (ql, .inr (3, [.ref qs, .int (nI z1)])), (qs, .inl (cI, 3432, .inl S1)), (qp, .inr (3, [.ref qr, .int (nI z2)])), (qr, .inl (cI, 3432, .inl S2))] sz) [(qx, .inr (4, [.ref qa, .ref qm, .ref ql, .ref qp, .int (nI u.1.2.2.2.2.2), .int u.2.2.2.2.2.2.2.2.2.1, .int u.2.2.2.2.2.2.2.2.2.2])), (qa, .inr (1, [.ref qb, .ref qh, .ref qw, .ref qf, .int (nI u.1.1), .ref qu, .ref qg])), (qb, .inl (cI, 14, .inl u.1.2.1)), (qh, .inl (cI, 14, .inl u.1.2.2.1)), (qw, .inl (cI, 14, .inl u.1.2.2.2.1)), (qf, .inl (cZ, 14, .inl u.1.2.2.2.2.1)), (qu, .inl (cJ, 14, .inr (.inl u.2.1))), (qg, .inl (cJ, 24, .inr (.inl u.2.2.1))), (qm, .inr (2, [.ref qn, .ref qo])), (qn, .inl (cJ, 256, .inr (.inl u.2.2.2.1))), (qo, .inl (cJ, 256, .inr (.inl u.2.2.2.2.1))), (ql, .inr (3, [.ref qs, .int (nI u.2.2.2.2.2.1)])), (qs, .inl (cI, 3432, .inl u.2.2.2.2.2.2.1)), (qp, .inr (3, [.ref qr, .int (nI u.2.2.2.2.2.2.2.1)])), (qr, .inl (cI, 3432, .inl u.2.2.2.2.2.2.2.2.1))]) (va_A [(qx, .inr (4, [.ref qa, .ref qm, .ref ql, .ref qp, .int (nI g), .int ck, .int qk])), (qa, .inr (1, [.ref qb, .ref qh, .ref qw, .ref qf, .int (nI n), .ref qu, .ref qg])), (qb, .inl (cI, 14, .inl Bd)), (qh, .inl (cI, 14, .inl Hd)), (qw, .inl (cI, 14, .inl Wt)), (qf, .inl (cZ, 14, .inl Fx)), (qu, .inl (cJ, 14, .inr (.inl U))), (qg, .inl (cJ, 24, .inr (.inl G))), (qm, .inr (2, [.ref qn, .ref qo])), (qn, .inl (cJ, 256, .inr (.inl Mb))), (qo, .inl (cJ, 256, .inr (.inl Le))), (ql, .inr (3, [.ref qs, .int (nI z1)])), (qs, .inl (cI, 3432, .inl S1)), (qp, .inr (3, [.ref qr, .int (nI z2)])), (qr, .inl (cI, 3432, .inl S2))] sz)) 0 0 (va_A [(qx, .inr (4, [.ref qa, .ref qm, .ref ql, .ref qp, .int (nI g), .int ck, .int qk])), (qa, .inr (1, [.ref qb, .ref qh, .ref qw, .ref qf, .int (nI n), .ref qu, .ref qg])), (qb, .inl (cI, 14, .inl Bd)), (qh, .inl (cI, 14, .inl Hd)), (qw, .inl (cI, 14, .inl Wt)), (qf, .inl (cZ, 14, .inl Fx)), (qu, .inl (cJ, 14, .inr (.inl U))), (qg, .inl (cJ, 24, .inr (.inl G))), (qm, .inr (2, [.ref qn, .ref qo])), (qn, .inl (cJ, 256, .inr (.inl Mb))), (qo, .inl (cJ, 256, .inr (.inl Le))), (ql, .inr (3, [.ref qs, .int (nI z1)])), (qs, .inl (cI, 3432, .inl S1)), (qp, .inr (3, [.ref qr, .int (nI z2)])), (qr, .inl (cI, 3432, .inl S2))] sz) := by
  refine Met.ofW (cc := cX3_lightest) (maxL := 6) (ret := (some .int)) (by decide) rfl ?_
  intro p e s m args below meth c s₁ B hml hv
  obtain ⟨rfl, hsz, hP, hK, hD0, hE⟩ := hv
  have hx := B.exec
  have hb := B.bytes
  have hr := B.returns
  have hts := atoms_spec (ws := wsX3_lightest) B.pre
  have hown : s.vm.findClass RX3 = some m.cls := findClass_of_methodNamed B.named
  have hlocks := B.notSynchronized
  have iX3 : ∀ w ∈ u_ws RX3 TX3 7, w ∈ wsX3_lightest := by decide +kernel
  have iX2 : ∀ w ∈ u_ws RX2 TX2 2, w ∈ wsX3_lightest := by decide +kernel
  subst hsz
  have hD := hD0.self (sz := s.heap.size)
  generalize hAe : va_A [(qx, .inr (4, [.ref qa, .ref qm, .ref ql, .ref qp, .int (nI g), .int ck, .int qk])), (qa, .inr (1, [.ref qb, .ref qh, .ref qw, .ref qf, .int (nI n), .ref qu, .ref qg])), (qb, .inl (cI, 14, .inl Bd)), (qh, .inl (cI, 14, .inl Hd)), (qw, .inl (cI, 14, .inl Wt)), (qf, .inl (cZ, 14, .inl Fx)), (qu, .inl (cJ, 14, .inr (.inl U))), (qg, .inl (cJ, 24, .inr (.inl G))), (qm, .inr (2, [.ref qn, .ref qo])), (qn, .inl (cJ, 256, .inr (.inl Mb))), (qo, .inl (cJ, 256, .inr (.inl Le))), (ql, .inr (3, [.ref qs, .int (nI z1)])), (qs, .inl (cI, 3432, .inl S1)), (qp, .inr (3, [.ref qr, .int (nI z2)])), (qr, .inl (cI, 3432, .inl S2))] s.heap.size = A at hD hE ⊢
  have hA : ∀ q : Nat, s.heap.size ≤ q → A q := fun q h => by rw [← hAe]; exact Or.inr h
  have hS : va_S A s.heap s.heap [] := va_S.rf
  obtain ⟨hn, hg, hok, hF⟩ := id hc
  have hl := lv_entry ([.ref qx]) (n := 6) (Nat.le_of_ble_eq_true rfl)
  rw [lg_entry_eq]
  generalize (lg_sl ([.ref qx]) ++ List.replicate (6 - (lg_sl ([.ref qx])).length) Slot.unset).toArray = ls at hl ⊢
  have hl : lv_has ls 6 [(0, .ref qx)] := hl
  refine lv_aload_n hx hb dX3_lightest_0 rfl (lv_at hl 0 rfl) ?_
  have hPc := hP.sub (ws' := [(qx, .inr (4, [.ref qa, .ref qm, .ref ql, .ref qp, .int (nI g), .int ck, .int qk])), (qa, .inr (1, [.ref qb, .ref qh, .ref qw, .ref qf, .int (nI n), .ref qu, .ref qg])), (qb, .inl (cI, 14, .inl Bd)), (qh, .inl (cI, 14, .inl Hd)), (qf, .inl (cZ, 14, .inl Fx)), (qu, .inl (cJ, 14, .inr (.inl U))), (qg, .inl (cJ, 24, .inr (.inl G))), (qm, .inr (2, [.ref qn, .ref qo])), (qn, .inl (cJ, 256, .inr (.inl Mb))), (qo, .inl (cJ, 256, .inr (.inl Le))), (qp, .inr (3, [.ref qr, .int (nI z2)])), (qr, .inl (cI, 3432, .inl S2))]) [0, 1, 2, 3, 5, 6, 7, 8, 9, 10, 13, 14] rfl
  have hDc := hD.sub (ws' := [(qx, .inr (4, [.ref qa, .ref qm, .ref ql, .ref qp, .int (nI g), .int ck, .int qk])), (qa, .inr (1, [.ref qb, .ref qh, .ref qw, .ref qf, .int (nI n), .ref qu, .ref qg])), (qb, .inl (cI, 14, .inl Bd)), (qh, .inl (cI, 14, .inl Hd)), (qf, .inl (cZ, 14, .inl Fx)), (qu, .inl (cJ, 14, .inr (.inl U))), (qg, .inl (cJ, 24, .inr (.inl G))), (qm, .inr (2, [.ref qn, .ref qo])), (qn, .inl (cJ, 256, .inr (.inl Mb))), (qo, .inl (cJ, 256, .inr (.inl Le))), (qp, .inr (3, [.ref qr, .int (nI z2)])), (qr, .inl (cI, 3432, .inl S2))]) [0, 1, 2, 3, 5, 6, 7, 8, 9, 10, 13, 14] (by decide) rfl
  have hFc := va_free (wc := [(qx, .inr (4, [.ref qa, .ref qm, .ref ql, .ref qp, .int (nI g), .int ck, .int qk])), (qa, .inr (1, [.ref qb, .ref qh, .ref qw, .ref qf, .int (nI n), .ref qu, .ref qg])), (qb, .inl (cI, 14, .inl Bd)), (qh, .inl (cI, 14, .inl Hd)), (qf, .inl (cZ, 14, .inl Fx)), (qu, .inl (cJ, 14, .inr (.inl U))), (qg, .inl (cJ, 24, .inr (.inl G))), (qm, .inr (2, [.ref qn, .ref qo])), (qn, .inl (cJ, 256, .inr (.inl Mb))), (qo, .inl (cJ, 256, .inr (.inl Le))), (qp, .inr (3, [.ref qr, .int (nI z2)])), (qr, .inl (cI, 3432, .inl S2))]) hD hS hA [0, 1, 2, 3, 5, 6, 7, 8, 9, 10, 13, 14] rfl
  refine va_callr (va_runV (As := []) (rest := []) ⟨hx, hb, hml, hown, hts⟩ (c_X3_knownCures l D cI cZ cJ t1 t2 _ qx qa qb qh qw qf qu qg qm qn qo ql qs qp qr n Bd Hd Wt Fx g U G Mb Le z1 S1 z2 S2 ck qk hn hg hok hi.2.1 hi.2.2.2) (cwV 0 hts gX3_lightest_X3_knownCures rfl rfl rfl (by decide +kernel) ⟨Nat.le_of_ble_eq_true rfl, Nat.le_of_ble_eq_true rfl⟩) ⟨wr_blind, va_recv hK hP (ci := 4) (q0 := 0) rfl rfl, wr_pre hPc hDc hK hE hS hFc [0, 1, 2] rfl⟩ rfl rfl hl.1 rfl (lv_room (Nat.le_of_ble_eq_true rfl)) dX3_lightest_1 ⟨Nat.le_of_ble_eq_true rfl, Nat.le_of_ble_eq_true rfl⟩) hS (fun q _ h => hFc q h) hFc (fun u_1 ra t H locs ht hvm hw_1 hB hz1 hk1 hS => ?_)
  obtain ⟨era, hP1, hK1, hD1⟩ := hB
  rw [era]
  rw [ht] at hP1
  obtain ⟨hP, hD⟩ := va_join (wr := [(qw, .inl (cI, 14, .inl Wt)), (ql, .inr (3, [.ref qs, .int (nI z1)])), (qs, .inl (cI, 3432, .inl S1))]) (w1 := [(qx, .inr (4, [.ref qa, .ref qm, .ref ql, .ref qp, .int (nI g), .int ck, .int 1])), (qa, .inr (1, [.ref qb, .ref qh, .ref qw, .ref qf, .int (nI n), .ref qu, .ref qg])), (qb, .inl (cI, 14, .inl Bd)), (qh, .inl (cI, 14, .inl Hd)), (qf, .inl (cZ, 14, .inl Fx)), (qu, .inl (cJ, 14, .inr (.inl u_1.1))), (qg, .inl (cJ, 24, .inr (.inl u_1.2.1))), (qm, .inr (2, [.ref qn, .ref qo])), (qn, .inl (cJ, 256, .inr (.inl u_1.2.2.1))), (qo, .inl (cJ, 256, .inr (.inl u_1.2.2.2.1))), (qp, .inr (3, [.ref qr, .int (nI ((QL_ n Bd Hd Fx g).length))])), (qr, .inl (cI, 3432, .inl u_1.2.2.2.2))]) hP hD [0, 1, 2, 3, 5, 6, 7, 8, 9, 10, 13, 14] [4, 11, 12] rfl rfl (by decide) (by decide) hk1 hFc hP1 hD1
  have hP : va_P D vwCl [(qx, .inr (4, [.ref qa, .ref qm, .ref ql, .ref qp, .int (nI g), .int ck, .int 1])), (qa, .inr (1, [.ref qb, .ref qh, .ref qw, .ref qf, .int (nI n), .ref qu, .ref qg])), (qb, .inl (cI, 14, .inl Bd)), (qh, .inl (cI, 14, .inl Hd)), (qw, .inl (cI, 14, .inl Wt)), (qf, .inl (cZ, 14, .inl Fx)), (qu, .inl (cJ, 14, .inr (.inl u_1.1))), (qg, .inl (cJ, 24, .inr (.inl u_1.2.1))), (qm, .inr (2, [.ref qn, .ref qo])), (qn, .inl (cJ, 256, .inr (.inl u_1.2.2.1))), (qo, .inl (cJ, 256, .inr (.inl u_1.2.2.2.1))), (ql, .inr (3, [.ref qs, .int (nI z1)])), (qs, .inl (cI, 3432, .inl S1)), (qp, .inr (3, [.ref qr, .int (nI ((QL_ n Bd Hd Fx g).length))])), (qr, .inl (cI, 3432, .inl u_1.2.2.2.2))] H := hP.sub [3, 4, 5, 6, 0, 7, 8, 9, 10, 11, 12, 1, 2, 13, 14] rfl
  have hD : va_D A [(qx, .inr (4, [.ref qa, .ref qm, .ref ql, .ref qp, .int (nI g), .int ck, .int 1])), (qa, .inr (1, [.ref qb, .ref qh, .ref qw, .ref qf, .int (nI n), .ref qu, .ref qg])), (qb, .inl (cI, 14, .inl Bd)), (qh, .inl (cI, 14, .inl Hd)), (qw, .inl (cI, 14, .inl Wt)), (qf, .inl (cZ, 14, .inl Fx)), (qu, .inl (cJ, 14, .inr (.inl u_1.1))), (qg, .inl (cJ, 24, .inr (.inl u_1.2.1))), (qm, .inr (2, [.ref qn, .ref qo])), (qn, .inl (cJ, 256, .inr (.inl u_1.2.2.1))), (qo, .inl (cJ, 256, .inr (.inl u_1.2.2.2.1))), (ql, .inr (3, [.ref qs, .int (nI z1)])), (qs, .inl (cI, 3432, .inl S1)), (qp, .inr (3, [.ref qr, .int (nI ((QL_ n Bd Hd Fx g).length))])), (qr, .inl (cI, 3432, .inl u_1.2.2.2.2))] := hD.sub [3, 4, 5, 6, 0, 7, 8, 9, 10, 11, 12, 1, 2, 13, 14] (by decide) rfl
  clear hPc hDc hFc hP1 hK1 hD1 hk1 hz1
  refine lv_astore_n (lv' := [(1, .ref qp), (0, .ref qx)]) hx hb dX3_lightest_4 rfl hl (by decide) rfl (fun ls hl => ?_)
  refine lv_bipush (v := (-2)) hx hb dX3_lightest_5 (by decide +kernel) ?_
  refine lv_istore_n (lv' := [(2, .int (-2)), (1, .ref qp), (0, .ref qx)]) hx hb dX3_lightest_7 rfl hl (by decide) rfl (fun ls hl => ?_)
  refine lv_iconst (v := 0) hx hb dX3_lightest_8 (by decide +kernel) ?_
  refine lv_istore_n (lv' := [(3, .int 0), (2, .int (-2)), (1, .ref qp), (0, .ref qx)]) hx hb dX3_lightest_9 rfl hl (by decide) rfl (fun ls hl => ?_)
  refine lv_iconst (v := (nI 0)) hx hb dX3_lightest_10 (by decide +kernel) ?_
  refine lv_istore (lv' := [(4, .int (nI 0)), (3, .int 0), (2, .int (-2)), (1, .ref qp), (0, .ref qx)]) hx hb dX3_lightest_11 hl (by decide) rfl (fun ls hl => ?_)
  have hQL := QL_len hn Bd Hd Fx g
  have loop : ∀ (d : Nat) (k : Nat) (y2 y3 : Int32) (H : Heap) (locs : List Loc) (ls : Array Slot), (QL_ n Bd Hd Fx g).length < k + d → k ≤ (QL_ n Bd Hd Fx g).length → (y2, y3) = lt_ Wt (ln_ (QL_ n Bd Hd Fx g)) n k → va_P D vwCl [(qx, .inr (4, [.ref qa, .ref qm, .ref ql, .ref qp, .int (nI g), .int ck, .int 1])), (qa, .inr (1, [.ref qb, .ref qh, .ref qw, .ref qf, .int (nI n), .ref qu, .ref qg])), (qb, .inl (cI, 14, .inl Bd)), (qh, .inl (cI, 14, .inl Hd)), (qw, .inl (cI, 14, .inl Wt)), (qf, .inl (cZ, 14, .inl Fx)), (qu, .inl (cJ, 14, .inr (.inl u_1.1))), (qg, .inl (cJ, 24, .inr (.inl u_1.2.1))), (qm, .inr (2, [.ref qn, .ref qo])), (qn, .inl (cJ, 256, .inr (.inl u_1.2.2.1))), (qo, .inl (cJ, 256, .inr (.inl u_1.2.2.2.1))), (ql, .inr (3, [.ref qs, .int (nI z1)])), (qs, .inl (cI, 3432, .inl S1)), (qp, .inr (3, [.ref qr, .int (nI ((QL_ n Bd Hd Fx g).length))])), (qr, .inl (cI, 3432, .inl u_1.2.2.2.2))] H → va_D A [(qx, .inr (4, [.ref qa, .ref qm, .ref ql, .ref qp, .int (nI g), .int ck, .int 1])), (qa, .inr (1, [.ref qb, .ref qh, .ref qw, .ref qf, .int (nI n), .ref qu, .ref qg])), (qb, .inl (cI, 14, .inl Bd)), (qh, .inl (cI, 14, .inl Hd)), (qw, .inl (cI, 14, .inl Wt)), (qf, .inl (cZ, 14, .inl Fx)), (qu, .inl (cJ, 14, .inr (.inl u_1.1))), (qg, .inl (cJ, 24, .inr (.inl u_1.2.1))), (qm, .inr (2, [.ref qn, .ref qo])), (qn, .inl (cJ, 256, .inr (.inl u_1.2.2.1))), (qo, .inl (cJ, 256, .inr (.inl u_1.2.2.2.1))), (ql, .inr (3, [.ref qs, .int (nI z1)])), (qs, .inl (cI, 3432, .inl S1)), (qp, .inr (3, [.ref qr, .int (nI ((QL_ n Bd Hd Fx g).length))])), (qr, .inl (cI, 3432, .inl u_1.2.2.2.2))] → va_S A s.heap H locs → lv_has ls 6 [(4, .int (nI k)), (2, .int y2), (3, .int y3), (1, .ref qp), (0, .ref qx)] → W p l e (headSpec wsX3_lightest ({ frames := 6, cells := 0, slots := 0, locals := 141 } : Room)).room s m ([.ref qx] : List Value).toArray below meth c H locs 0 0 (MQ below (va_Qi (S := Co_ × Jk_) (fun r u => u.1 = (n, Bd, Hd, Wt, Fx, g) ∧ q_lightest (n, Bd, Hd, Wt, Fx, g) r ∧ cok_ u.1 ∧ iv_ u.1 u.2) (fun u => wd_ D [(cI, .int), (cZ, .boolean), (cJ, .long)] A [(qx, .inr (4, [.ref qa, .ref qm, .ref ql, .ref qp, .int (nI u.1.2.2.2.2.2), .int u.2.2.2.2.2.2.2.2.2.1, .int u.2.2.2.2.2.2.2.2.2.2])), (qa, .inr (1, [.ref qb, .ref qh, .ref qw, .ref qf, .int (nI u.1.1), .ref qu, .ref qg])), (qb, .inl (cI, 14, .inl u.1.2.1)), (qh, .inl (cI, 14, .inl u.1.2.2.1)), (qw, .inl (cI, 14, .inl u.1.2.2.2.1)), (qf, .inl (cZ, 14, .inl u.1.2.2.2.2.1)), (qu, .inl (cJ, 14, .inr (.inl u.2.1))), (qg, .inl (cJ, 24, .inr (.inl u.2.2.1))), (qm, .inr (2, [.ref qn, .ref qo])), (qn, .inl (cJ, 256, .inr (.inl u.2.2.2.1))), (qo, .inl (cJ, 256, .inr (.inl u.2.2.2.2.1))), (ql, .inr (3, [.ref qs, .int (nI u.2.2.2.2.2.1)])), (qs, .inl (cI, 3432, .inl u.2.2.2.2.2.2.1)), (qp, .inr (3, [.ref qr, .int (nI u.2.2.2.2.2.2.2.1)])), (qr, .inl (cI, 3432, .inl u.2.2.2.2.2.2.2.2.1))]) A) ([.ref qx] : List Value).toArray s 0 0 A) (F0 m 13 ls []) := by
    intro d
    induction d with
    | zero => intro k y2 y3 H locs ls h1 h2; omega
    | succ d ih =>
      intro k y2 y3 H locs ls h1 h2 hy hP hD hS hl
      refine lv_iload hx hb dX3_lightest_13 (lv_at hl 0 rfl) ?_
      refine lv_aload_n hx hb dX3_lightest_15 rfl (lv_at hl 3 rfl) ?_
      refine va_getN (D := D) (ci := 3) (v := .int (nI ((QL_ n Bd Hd Fx g).length))) (C := RX2) (T := TX2) (N := 2) (host := "LeastSets") hx hb hts iX2 hown hK hP 13 rfl rfl 1 (by decide) (va_Nw.use rfl (hE.1 _ (List.mem_of_getElem? (i := 4) rfl))) (fun _ h9 => h9) rfl dX3_lightest_16 ?_
      refine r_ige hx hb (tgt := 61) (by omega) (by omega) dX3_lightest_19 (by decide) (fun c_19 => ?_) (fun c_19 => ?_)
      · refine lv_iload_n hx hb dX3_lightest_61 rfl (lv_at hl 1 rfl) ?_
        exact W.iret (v := y2) hx hb hr (fun t ht hW => ⟨⟨y2, ((n, Bd, Hd, Wt, Fx, g), (u_1.1, u_1.2.1, u_1.2.2.1, u_1.2.2.2.1, z1, S1, (QL_ n Bd Hd Fx g).length, u_1.2.2.2.2, ck, 1)), rfl, ⟨rfl, (by have e := congrArg Prod.fst hy; rw [show k = (QL_ n Bd Hd Fx g).length by omega] at e; exact e), hc, ⟨hi.1, Or.inr rfl, hi.2.2.1, fun _ => ⟨rfl, hw_1⟩⟩⟩, by rw [ht]; exact hP, va_K.moved hW.alike hK, hD⟩, hS.F ht⟩) hS.2.2 dX3_lightest_62
      · refine lv_aload_n hx hb dX3_lightest_22 rfl (lv_at hl 4 rfl) ?_
        refine va_get (D := D) (ci := 4) (v := .ref qa) (C := RX3) (T := TX3) (N := 7) hx hb hts iX3 hown hK hP 0 rfl rfl 0 (by decide) (hts (.fieldLink RX3 12 "LeastSets" "rows" "LLeastSets$Axioms;") (by decide +kernel)) (fun _ h9 => h9) rfl dX3_lightest_23 ?_
        refine lv_aload_n hx hb dX3_lightest_26 rfl (lv_at hl 3 rfl) ?_
        refine lv_iload hx hb dX3_lightest_27 (lv_at hl 0 rfl) ?_
        refine vp_callSi (va_runV (As := [.int (nI k)]) (rest := [.ref qa]) ⟨hx, hb, hml, hown, hts⟩ (c_X2_at l D cI cZ cJ qp qr (QL_ n Bd Hd Fx g).length hQL u_1.2.2.2.2 (nI k)) (cwV 1 hts gX3_lightest_X2_at rfl rfl rfl (by decide +kernel) ⟨Nat.le_of_ble_eq_true rfl, Nat.le_of_ble_eq_true rfl⟩) ⟨ro_blind, va_recv hK hP (ci := 3) (q0 := 13) rfl rfl, ro_pre (hP.sub (ws' := [(qp, .inr (3, [.ref qr, .int (nI ((QL_ n Bd Hd Fx g).length))])), (qr, .inl (cI, 3432, .inl u_1.2.2.2.2))]) [13, 14] rfl) hK [0, 1, 2] rfl⟩ rfl rfl hl.1 rfl (lv_room (Nat.le_of_ble_eq_true rfl)) dX3_lightest_29 ⟨Nat.le_of_ble_eq_true rfl, Nat.le_of_ble_eq_true rfl⟩).run (fun r_29 hr_29 => ?_)
        have e29 : r_29 = ln_ (QL_ n Bd Hd Fx g) k := (at_val (by omega) c_19 hr_29).trans (ln_sx hw_1 c_19)
        subst e29
        refine vp_callSi (va_runV (As := [.int (ln_ (QL_ n Bd Hd Fx g) k)]) (rest := []) ⟨hx, hb, hml, hown, hts⟩ (c_X0_weightOf l D cI cZ cJ qa qb qh qw qf qu qg n hn Wt (ln_ (QL_ n Bd Hd Fx g) k)) (cwV 1 hts gX3_lightest_X0_weightOf rfl rfl rfl (by decide +kernel) ⟨Nat.le_of_ble_eq_true rfl, Nat.le_of_ble_eq_true rfl⟩) ⟨ro_blind, va_recv hK hP (ci := 1) (q0 := 1) rfl rfl, ro_pre (hP.sub (ws' := [(qa, .inr (1, [.ref qb, .ref qh, .ref qw, .ref qf, .int (nI n), .ref qu, .ref qg])), (qw, .inl (cI, 14, .inl Wt))]) [1, 4] rfl) hK [0, 1, 2] rfl⟩ rfl rfl hl.1 rfl (lv_room (Nat.le_of_ble_eq_true rfl)) dX3_lightest_32 ⟨Nat.le_of_ble_eq_true rfl, Nat.le_of_ble_eq_true rfl⟩).run (fun r_32 hr_32 => ?_)
        subst hr_32
        refine lv_istore (lv' := [(5, .int (wo_ Wt (ln_ (QL_ n Bd Hd Fx g) k) n)), (4, .int (nI k)), (2, .int y2), (3, .int y3), (1, .ref qp), (0, .ref qx)]) hx hb dX3_lightest_35 hl (by decide) rfl (fun ls hl => ?_)
        refine lv_iload_n hx hb dX3_lightest_37 rfl (lv_at hl 2 rfl) ?_
        refine lv_bipush (v := (-2)) hx hb dX3_lightest_38 (by decide +kernel) ?_
        refine lv_icmp_eq (tgt := 49) hx hb dX3_lightest_40 (by decide) (fun c_40 => ?_) (fun c_40 => ?_)
        · refine lv_iload hx hb dX3_lightest_49 (lv_at hl 1 rfl) ?_
          refine lv_istore_n (lv' := [(2, .int (nI k)), (5, .int (wo_ Wt (ln_ (QL_ n Bd Hd Fx g) k) n)), (4, .int (nI k)), (3, .int y3), (1, .ref qp), (0, .ref qx)]) hx hb dX3_lightest_51 rfl hl (by decide) rfl (fun ls hl => ?_)
          refine lv_iload hx hb dX3_lightest_52 (lv_at hl 1 rfl) ?_
          refine lv_istore_n (lv' := [(3, .int (wo_ Wt (ln_ (QL_ n Bd Hd Fx g) k) n)), (2, .int (nI k)), (5, .int (wo_ Wt (ln_ (QL_ n Bd Hd Fx g) k) n)), (4, .int (nI k)), (1, .ref qp), (0, .ref qx)]) hx hb dX3_lightest_54 rfl hl (by decide) rfl (fun ls hl => ?_)
          refine lv_iinc (v := (nI (k + 1))) (lv' := [(4, .int (nI (k + 1))), (3, .int (wo_ Wt (ln_ (QL_ n Bd Hd Fx g) k) n)), (2, .int (nI k)), (5, .int (wo_ Wt (ln_ (QL_ n Bd Hd Fx g) k) n)), (1, .ref qp), (0, .ref qx)]) hx hb dX3_lightest_55 hl (k := 3) rfl (nI_inc _) (by decide) rfl (fun ls hl => ?_)
          refine lv_goto (tgt := 13) hx hb dX3_lightest_58 (by decide) ?_
          exact ih (k + 1) _ _ H locs ls (by omega) (by omega) (by first | exact lt_yes hy (Or.inl c_40) | exact lt_yes hy (Or.inr (i32_lt c_46)) | exact lt_no hy c_40 (i32_nlt c_46)) hP hD hS (lv_sub hl [0, 2, 1, 4, 5] rfl)
        · refine lv_iload hx hb dX3_lightest_43 (lv_at hl 0 rfl) ?_
          refine lv_iload_n hx hb dX3_lightest_45 rfl (lv_at hl 3 rfl) ?_
          refine lv_icmp_ge (tgt := 55) hx hb dX3_lightest_46 (by decide) (fun c_46 => ?_) (fun c_46 => ?_)
          · refine lv_iinc (v := (nI (k + 1))) (lv' := [(4, .int (nI (k + 1))), (5, .int (wo_ Wt (ln_ (QL_ n Bd Hd Fx g) k) n)), (2, .int y2), (3, .int y3), (1, .ref qp), (0, .ref qx)]) hx hb dX3_lightest_55 hl (k := 1) rfl (nI_inc _) (by decide) rfl (fun ls hl => ?_)
            refine lv_goto (tgt := 13) hx hb dX3_lightest_58 (by decide) ?_
            exact ih (k + 1) _ _ H locs ls (by omega) (by omega) (by first | exact lt_yes hy (Or.inl c_40) | exact lt_yes hy (Or.inr (i32_lt c_46)) | exact lt_no hy c_40 (i32_nlt c_46)) hP hD hS (lv_sub hl [0, 2, 3, 4, 5] rfl)
          · refine lv_iload hx hb dX3_lightest_49 (lv_at hl 1 rfl) ?_
            refine lv_istore_n (lv' := [(2, .int (nI k)), (5, .int (wo_ Wt (ln_ (QL_ n Bd Hd Fx g) k) n)), (4, .int (nI k)), (3, .int y3), (1, .ref qp), (0, .ref qx)]) hx hb dX3_lightest_51 rfl hl (by decide) rfl (fun ls hl => ?_)
            refine lv_iload hx hb dX3_lightest_52 (lv_at hl 1 rfl) ?_
            refine lv_istore_n (lv' := [(3, .int (wo_ Wt (ln_ (QL_ n Bd Hd Fx g) k) n)), (2, .int (nI k)), (5, .int (wo_ Wt (ln_ (QL_ n Bd Hd Fx g) k) n)), (4, .int (nI k)), (1, .ref qp), (0, .ref qx)]) hx hb dX3_lightest_54 rfl hl (by decide) rfl (fun ls hl => ?_)
            refine lv_iinc (v := (nI (k + 1))) (lv' := [(4, .int (nI (k + 1))), (3, .int (wo_ Wt (ln_ (QL_ n Bd Hd Fx g) k) n)), (2, .int (nI k)), (5, .int (wo_ Wt (ln_ (QL_ n Bd Hd Fx g) k) n)), (1, .ref qp), (0, .ref qx)]) hx hb dX3_lightest_55 hl (k := 3) rfl (nI_inc _) (by decide) rfl (fun ls hl => ?_)
            refine lv_goto (tgt := 13) hx hb dX3_lightest_58 (by decide) ?_
            exact ih (k + 1) _ _ H locs ls (by omega) (by omega) (by first | exact lt_yes hy (Or.inl c_40) | exact lt_yes hy (Or.inr (i32_lt c_46)) | exact lt_no hy c_40 (i32_nlt c_46)) hP hD hS (lv_sub hl [0, 2, 1, 4, 5] rfl)
  exact loop ((QL_ n Bd Hd Fx g).length + 1) 0 _ _ H locs ls (by omega) (Nat.zero_le _) rfl hP hD hS (lv_sub hl [0, 2, 1, 3, 4] rfl)
end
